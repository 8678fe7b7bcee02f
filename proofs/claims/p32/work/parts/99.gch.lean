def tm_ne : zTm := tm_n
def wl_ne : wL := wl_n
def gr_ne : List zCe := gr_n
def G_ne : zE → Prop := G_n
theorem gk_ne : zGk G_ne gr_ne := gk_n
def zPne_wrong : zPq := zPke_wrong
def zOne_wrong : zPo := zOke_wrong
def zMne_wrong : List zCe := zMke_wrong
def pPne_wrong : List Int → zE → Prop := fun _ η => G_ne η
def oQne_wrong : List Int → zE → Int → zE → Prop := fun _ _ _ η' => G_ne η'
def fQne_wrong : List Int → zE → Int → zE → Prop := fQke_wrong
def pQne_wrong : List Int → zE → Int → zE → Prop := fun xs η y η' => oQne_wrong xs η y η' ∧ fQne_wrong xs η y η'
theorem zne_wrong {ro : Nat → List Int32} : zMet pr_P pr_K pr_df ro (sm_X0 1 6) 0 118 tm_ne [(.inr (.inr (.inl (nat_lit 0)))), (.inl (nat_lit 1, (.ofNat (nat_lit 0))))] 2 [(nat_lit 0, nat_lit 0, nat_lit 1), (nat_lit 0, nat_lit 3, nat_lit 2), (nat_lit 0, nat_lit 20, nat_lit 3), (nat_lit 0, nat_lit 21, nat_lit 4), (nat_lit 0, nat_lit 22, nat_lit 5), (nat_lit 0, nat_lit 23, nat_lit 6), (nat_lit 0, nat_lit 24, nat_lit 7), (nat_lit 0, nat_lit 25, nat_lit 8), (nat_lit 0, nat_lit 26, nat_lit 9), (nat_lit 0, nat_lit 27, nat_lit 10), (nat_lit 0, nat_lit 28, nat_lit 11), (nat_lit 0, nat_lit 29, nat_lit 12), (nat_lit 0, nat_lit 30, nat_lit 13), (nat_lit 0, nat_lit 31, nat_lit 14), (nat_lit 0, nat_lit 32, nat_lit 15), (nat_lit 0, nat_lit 33, nat_lit 16), (nat_lit 0, nat_lit 34, nat_lit 17), (nat_lit 0, nat_lit 35, nat_lit 18), (nat_lit 0, nat_lit 36, nat_lit 19), (nat_lit 0, nat_lit 37, nat_lit 20), (nat_lit 0, nat_lit 38, nat_lit 21), (nat_lit 0, nat_lit 39, nat_lit 22), (nat_lit 0, nat_lit 40, nat_lit 23), (nat_lit 0, nat_lit 47, nat_lit 24), (nat_lit 0, nat_lit 48, nat_lit 25), (nat_lit 0, nat_lit 50, nat_lit 26), (nat_lit 0, nat_lit 51, nat_lit 27), (nat_lit 0, nat_lit 52, nat_lit 28), (nat_lit 0, nat_lit 53, nat_lit 29), (nat_lit 0, nat_lit 54, nat_lit 30), (nat_lit 0, nat_lit 55, nat_lit 31), (nat_lit 0, nat_lit 56, nat_lit 32), (nat_lit 0, nat_lit 57, nat_lit 33), (nat_lit 0, nat_lit 58, nat_lit 34), (nat_lit 0, nat_lit 59, nat_lit 35), (nat_lit 0, nat_lit 72, nat_lit 36), (nat_lit 0, nat_lit 73, nat_lit 37), (nat_lit 0, nat_lit 76, nat_lit 38), (nat_lit 0, nat_lit 77, nat_lit 39), (nat_lit 0, nat_lit 79, nat_lit 40), (nat_lit 0, nat_lit 81, nat_lit 41), (nat_lit 0, nat_lit 82, nat_lit 42)] [] (fun xs η => sP wl_ne zTr zPne_wrong xs η ∧ pPne_wrong xs η) (fun xs η y η' => sQ wl_ne zTr zOne_wrong zMne_wrong xs η y η' ∧ pQne_wrong xs η y η') :=
  zmet_cs zke_wrong (fun xs η h => ⟨h.1, h.2.1.1.1⟩) (fun xs η y η' h k0 => by
    have k : sQ wl_ke zTr zOke_wrong zMke_wrong xs η y η' ∧ oQke_wrong xs η y η' := ⟨k0.1, k0.2.1⟩
    exact ⟨k.1, ⟨⟨⟨k.2, zGk_fm2 (G := T_l) tk_l h.2.1.1.2 k.1.2.2.2.1 (by decide +kernel)⟩, (k.1.2.2.2.1 0 19 (by decide +kernel)).trans (h.2.1.2.trans (k.1.2.2.2.1 0 44 (by decide +kernel)).symm)⟩, zGk_fm2 plk_n h.2.2 k.1.2.2.2.1 (by decide +kernel)⟩, k0.2.2⟩)
def zPne_isSign : zPq := zPke_isSign
def zOne_isSign : zPo := zOke_isSign
def zMne_isSign : List zCe := zMke_isSign
def pPne_isSign : List Int → zE → Prop := fun _ η => G_ne η
def oQne_isSign : List Int → zE → Int → zE → Prop := fun _ η y η' => G_n η' ∧ (¬ y = 0 → η 0 8 = 4)
def fQne_isSign : List Int → zE → Int → zE → Prop := fQke_isSign
def pQne_isSign : List Int → zE → Int → zE → Prop := fun xs η y η' => oQne_isSign xs η y η' ∧ fQne_isSign xs η y η'
theorem zne_isSign {ro : Nat → List Int32} : zMet pr_P pr_K pr_df ro (sm_X0 1 6) 0 126 tm_ne [(.inr (.inr (.inl (nat_lit 0)))), (.inl (nat_lit 1, (.ofNat (nat_lit 0))))] 2 [(nat_lit 0, nat_lit 0, nat_lit 1), (nat_lit 0, nat_lit 3, nat_lit 2), (nat_lit 0, nat_lit 20, nat_lit 3), (nat_lit 0, nat_lit 21, nat_lit 4), (nat_lit 0, nat_lit 22, nat_lit 5), (nat_lit 0, nat_lit 23, nat_lit 6), (nat_lit 0, nat_lit 24, nat_lit 7), (nat_lit 0, nat_lit 25, nat_lit 8), (nat_lit 0, nat_lit 26, nat_lit 9), (nat_lit 0, nat_lit 27, nat_lit 10), (nat_lit 0, nat_lit 28, nat_lit 11), (nat_lit 0, nat_lit 29, nat_lit 12), (nat_lit 0, nat_lit 30, nat_lit 13), (nat_lit 0, nat_lit 31, nat_lit 14), (nat_lit 0, nat_lit 32, nat_lit 15), (nat_lit 0, nat_lit 33, nat_lit 16), (nat_lit 0, nat_lit 34, nat_lit 17), (nat_lit 0, nat_lit 35, nat_lit 18), (nat_lit 0, nat_lit 36, nat_lit 19), (nat_lit 0, nat_lit 37, nat_lit 20), (nat_lit 0, nat_lit 38, nat_lit 21), (nat_lit 0, nat_lit 39, nat_lit 22), (nat_lit 0, nat_lit 40, nat_lit 23), (nat_lit 0, nat_lit 47, nat_lit 24), (nat_lit 0, nat_lit 48, nat_lit 25), (nat_lit 0, nat_lit 50, nat_lit 26), (nat_lit 0, nat_lit 51, nat_lit 27), (nat_lit 0, nat_lit 52, nat_lit 28), (nat_lit 0, nat_lit 53, nat_lit 29), (nat_lit 0, nat_lit 54, nat_lit 30), (nat_lit 0, nat_lit 55, nat_lit 31), (nat_lit 0, nat_lit 56, nat_lit 32), (nat_lit 0, nat_lit 57, nat_lit 33), (nat_lit 0, nat_lit 58, nat_lit 34), (nat_lit 0, nat_lit 59, nat_lit 35), (nat_lit 0, nat_lit 72, nat_lit 36), (nat_lit 0, nat_lit 73, nat_lit 37), (nat_lit 0, nat_lit 76, nat_lit 38), (nat_lit 0, nat_lit 77, nat_lit 39), (nat_lit 0, nat_lit 79, nat_lit 40), (nat_lit 0, nat_lit 81, nat_lit 41), (nat_lit 0, nat_lit 82, nat_lit 42)] [] (fun xs η => sP wl_ne zTr zPne_isSign xs η ∧ pPne_isSign xs η) (fun xs η y η' => sQ wl_ne zTr zOne_isSign zMne_isSign xs η y η' ∧ pQne_isSign xs η y η') :=
  zmet_cs zke_isSign (fun xs η h => ⟨h.1, h.2.1.1.1⟩) (fun xs η y η' h k0 => by
    have k : sQ wl_ke zTr zOke_isSign zMke_isSign xs η y η' ∧ oQke_isSign xs η y η' := ⟨k0.1, k0.2.1⟩
    exact ⟨k.1, ⟨⟨⟨⟨k.2.1, zGk_fm2 (G := T_l) tk_l h.2.1.1.2 k.1.2.2.2.1 (by decide +kernel)⟩, (k.1.2.2.2.1 0 19 (by decide +kernel)).trans (h.2.1.2.trans (k.1.2.2.2.1 0 44 (by decide +kernel)).symm)⟩, zGk_fm2 plk_n h.2.2 k.1.2.2.2.1 (by decide +kernel)⟩, k.2.2⟩, k0.2.2⟩)
def zPne_token : zPq := zPke_token
def zOne_token : zPo := zOke_token
def zMne_token : List zCe := zMke_token
def pPne_token : List Int → zE → Prop := fun _ η => G_ne η
def oQne_token : List Int → zE → Int → zE → Prop := fun _ η _ η' => G_n η' ∧ (¬ η 0 8 = 0 → 10 * (η' 0 6 - η' 0 7) + η' 0 8 < 10 * (η 0 6 - η 0 7) + η 0 8)
def fQne_token : List Int → zE → Int → zE → Prop := fQke_token
def pQne_token : List Int → zE → Int → zE → Prop := fun xs η y η' => oQne_token xs η y η' ∧ fQne_token xs η y η'
theorem zne_token {ro : Nat → List Int32} : zMet pr_P pr_K pr_df ro (sm_X0 1 6) 1 122 tm_ne [(.inr (.inr (.inl (nat_lit 0))))] 0 [(nat_lit 0, nat_lit 0, nat_lit 1), (nat_lit 0, nat_lit 3, nat_lit 2), (nat_lit 0, nat_lit 20, nat_lit 3), (nat_lit 0, nat_lit 21, nat_lit 4), (nat_lit 0, nat_lit 22, nat_lit 5), (nat_lit 0, nat_lit 23, nat_lit 6), (nat_lit 0, nat_lit 24, nat_lit 7), (nat_lit 0, nat_lit 25, nat_lit 8), (nat_lit 0, nat_lit 26, nat_lit 9), (nat_lit 0, nat_lit 27, nat_lit 10), (nat_lit 0, nat_lit 28, nat_lit 11), (nat_lit 0, nat_lit 29, nat_lit 12), (nat_lit 0, nat_lit 30, nat_lit 13), (nat_lit 0, nat_lit 31, nat_lit 14), (nat_lit 0, nat_lit 32, nat_lit 15), (nat_lit 0, nat_lit 33, nat_lit 16), (nat_lit 0, nat_lit 34, nat_lit 17), (nat_lit 0, nat_lit 35, nat_lit 18), (nat_lit 0, nat_lit 36, nat_lit 19), (nat_lit 0, nat_lit 37, nat_lit 20), (nat_lit 0, nat_lit 38, nat_lit 21), (nat_lit 0, nat_lit 39, nat_lit 22), (nat_lit 0, nat_lit 40, nat_lit 23), (nat_lit 0, nat_lit 47, nat_lit 24), (nat_lit 0, nat_lit 48, nat_lit 25), (nat_lit 0, nat_lit 50, nat_lit 26), (nat_lit 0, nat_lit 51, nat_lit 27), (nat_lit 0, nat_lit 52, nat_lit 28), (nat_lit 0, nat_lit 53, nat_lit 29), (nat_lit 0, nat_lit 54, nat_lit 30), (nat_lit 0, nat_lit 55, nat_lit 31), (nat_lit 0, nat_lit 56, nat_lit 32), (nat_lit 0, nat_lit 57, nat_lit 33), (nat_lit 0, nat_lit 58, nat_lit 34), (nat_lit 0, nat_lit 59, nat_lit 35), (nat_lit 0, nat_lit 72, nat_lit 36), (nat_lit 0, nat_lit 73, nat_lit 37), (nat_lit 0, nat_lit 76, nat_lit 38), (nat_lit 0, nat_lit 77, nat_lit 39), (nat_lit 0, nat_lit 79, nat_lit 40), (nat_lit 0, nat_lit 81, nat_lit 41), (nat_lit 0, nat_lit 82, nat_lit 42)] [] (fun xs η => sP wl_ne zTr zPne_token xs η ∧ pPne_token xs η) (fun xs η y η' => sQ wl_ne zTr zOne_token zMne_token xs η y η' ∧ pQne_token xs η y η') :=
  zmet_cs zke_token (fun xs η h => ⟨h.1, h.2.1.1.1⟩) (fun xs η y η' h k0 => by
    have k : sQ wl_ke zTr zOke_token zMke_token xs η y η' ∧ oQke_token xs η y η' := ⟨k0.1, k0.2.1⟩
    exact ⟨k.1, ⟨⟨⟨⟨k.2.1, zGk_fm2 (G := T_l) tk_l h.2.1.1.2 k.1.2.2.2.1 (by decide +kernel)⟩, (k.1.2.2.2.1 0 19 (by decide +kernel)).trans (h.2.1.2.trans (k.1.2.2.2.1 0 44 (by decide +kernel)).symm)⟩, zGk_fm2 plk_n h.2.2 k.1.2.2.2.1 (by decide +kernel)⟩, k.2.2⟩, k0.2.2⟩)
def zPne_number : zPq := zPke_number
def zOne_number : zPo := zOke_number
def zMne_number : List zCe := zMke_number
def pPne_number : List Int → zE → Prop := fun _ η => G_ne η
def oQne_number : List Int → zE → Int → zE → Prop := fun _ η y η' => G_n η' ∧ (¬ y = 0 → 10 * (η' 0 6 - η' 0 7) + η' 0 8 < 10 * (η 0 6 - η 0 7) + η 0 8)
def fQne_number : List Int → zE → Int → zE → Prop := fQke_number
def pQne_number : List Int → zE → Int → zE → Prop := fun xs η y η' => oQne_number xs η y η' ∧ fQne_number xs η y η'
theorem zne_number {ro : Nat → List Int32} : zMet pr_P pr_K pr_df ro (sm_X0 1 6) 2 127 tm_ne [(.inr (.inr (.inl (nat_lit 0)))), (.inl (nat_lit 1, (.ofNat (nat_lit 0)))), (.inl (nat_lit 2, (.ofNat (nat_lit 0))))] 2 [(nat_lit 0, nat_lit 0, nat_lit 1), (nat_lit 0, nat_lit 3, nat_lit 2), (nat_lit 0, nat_lit 20, nat_lit 3), (nat_lit 0, nat_lit 21, nat_lit 4), (nat_lit 0, nat_lit 22, nat_lit 5), (nat_lit 0, nat_lit 23, nat_lit 6), (nat_lit 0, nat_lit 24, nat_lit 7), (nat_lit 0, nat_lit 25, nat_lit 8), (nat_lit 0, nat_lit 26, nat_lit 9), (nat_lit 0, nat_lit 27, nat_lit 10), (nat_lit 0, nat_lit 28, nat_lit 11), (nat_lit 0, nat_lit 29, nat_lit 12), (nat_lit 0, nat_lit 30, nat_lit 13), (nat_lit 0, nat_lit 31, nat_lit 14), (nat_lit 0, nat_lit 32, nat_lit 15), (nat_lit 0, nat_lit 33, nat_lit 16), (nat_lit 0, nat_lit 34, nat_lit 17), (nat_lit 0, nat_lit 35, nat_lit 18), (nat_lit 0, nat_lit 36, nat_lit 19), (nat_lit 0, nat_lit 37, nat_lit 20), (nat_lit 0, nat_lit 38, nat_lit 21), (nat_lit 0, nat_lit 39, nat_lit 22), (nat_lit 0, nat_lit 40, nat_lit 23), (nat_lit 0, nat_lit 47, nat_lit 24), (nat_lit 0, nat_lit 48, nat_lit 25), (nat_lit 0, nat_lit 50, nat_lit 26), (nat_lit 0, nat_lit 51, nat_lit 27), (nat_lit 0, nat_lit 52, nat_lit 28), (nat_lit 0, nat_lit 53, nat_lit 29), (nat_lit 0, nat_lit 54, nat_lit 30), (nat_lit 0, nat_lit 55, nat_lit 31), (nat_lit 0, nat_lit 56, nat_lit 32), (nat_lit 0, nat_lit 57, nat_lit 33), (nat_lit 0, nat_lit 58, nat_lit 34), (nat_lit 0, nat_lit 59, nat_lit 35), (nat_lit 0, nat_lit 72, nat_lit 36), (nat_lit 0, nat_lit 73, nat_lit 37), (nat_lit 0, nat_lit 76, nat_lit 38), (nat_lit 0, nat_lit 77, nat_lit 39), (nat_lit 0, nat_lit 79, nat_lit 40), (nat_lit 0, nat_lit 81, nat_lit 41), (nat_lit 0, nat_lit 82, nat_lit 42)] [] (fun xs η => sP wl_ne zTr zPne_number xs η ∧ pPne_number xs η) (fun xs η y η' => sQ wl_ne zTr zOne_number zMne_number xs η y η' ∧ pQne_number xs η y η') :=
  zmet_cs zke_number (fun xs η h => ⟨h.1, h.2.1.1.1⟩) (fun xs η y η' h k0 => by
    have k : sQ wl_ke zTr zOke_number zMke_number xs η y η' ∧ oQke_number xs η y η' := ⟨k0.1, k0.2.1⟩
    exact ⟨k.1, ⟨⟨⟨⟨k.2.1, zGk_fm2 (G := T_l) tk_l h.2.1.1.2 k.1.2.2.2.1 (by decide +kernel)⟩, (k.1.2.2.2.1 0 19 (by decide +kernel)).trans (h.2.1.2.trans (k.1.2.2.2.1 0 44 (by decide +kernel)).symm)⟩, zGk_fm2 plk_n h.2.2 k.1.2.2.2.1 (by decide +kernel)⟩, k.2.2⟩, k0.2.2⟩)
def zPne_token1 : zPq := zPke_token
def zOne_token1 : zPo := zOke_token
def zMne_token1 : List zCe := zMke_token
def pPne_token1 : List Int → zE → Prop := fun _ η => G1_n η
def oQne_token1 : List Int → zE → Int → zE → Prop := fun _ η _ η' => G1_n η' ∧ (¬ η 0 8 = 0 → 10 * (η' 0 6 - η' 0 7) + η' 0 8 < 10 * (η 0 6 - η 0 7) + η 0 8)
def fQne_token1 : List Int → zE → Int → zE → Prop := fQke_token
def pQne_token1 : List Int → zE → Int → zE → Prop := fun xs η y η' => oQne_token1 xs η y η' ∧ fQne_token1 xs η y η'
theorem zne_token1 {ro : Nat → List Int32} : zMet pr_P pr_K pr_df ro (sm_X0 1 6) 1 122 tm_ne [(.inr (.inr (.inl (nat_lit 0))))] 0 [(nat_lit 0, nat_lit 0, nat_lit 1), (nat_lit 0, nat_lit 3, nat_lit 2), (nat_lit 0, nat_lit 20, nat_lit 3), (nat_lit 0, nat_lit 21, nat_lit 4), (nat_lit 0, nat_lit 22, nat_lit 5), (nat_lit 0, nat_lit 23, nat_lit 6), (nat_lit 0, nat_lit 24, nat_lit 7), (nat_lit 0, nat_lit 25, nat_lit 8), (nat_lit 0, nat_lit 26, nat_lit 9), (nat_lit 0, nat_lit 27, nat_lit 10), (nat_lit 0, nat_lit 28, nat_lit 11), (nat_lit 0, nat_lit 29, nat_lit 12), (nat_lit 0, nat_lit 30, nat_lit 13), (nat_lit 0, nat_lit 31, nat_lit 14), (nat_lit 0, nat_lit 32, nat_lit 15), (nat_lit 0, nat_lit 33, nat_lit 16), (nat_lit 0, nat_lit 34, nat_lit 17), (nat_lit 0, nat_lit 35, nat_lit 18), (nat_lit 0, nat_lit 36, nat_lit 19), (nat_lit 0, nat_lit 37, nat_lit 20), (nat_lit 0, nat_lit 38, nat_lit 21), (nat_lit 0, nat_lit 39, nat_lit 22), (nat_lit 0, nat_lit 40, nat_lit 23), (nat_lit 0, nat_lit 47, nat_lit 24), (nat_lit 0, nat_lit 48, nat_lit 25), (nat_lit 0, nat_lit 50, nat_lit 26), (nat_lit 0, nat_lit 51, nat_lit 27), (nat_lit 0, nat_lit 52, nat_lit 28), (nat_lit 0, nat_lit 53, nat_lit 29), (nat_lit 0, nat_lit 54, nat_lit 30), (nat_lit 0, nat_lit 55, nat_lit 31), (nat_lit 0, nat_lit 56, nat_lit 32), (nat_lit 0, nat_lit 57, nat_lit 33), (nat_lit 0, nat_lit 58, nat_lit 34), (nat_lit 0, nat_lit 59, nat_lit 35), (nat_lit 0, nat_lit 72, nat_lit 36), (nat_lit 0, nat_lit 73, nat_lit 37), (nat_lit 0, nat_lit 76, nat_lit 38), (nat_lit 0, nat_lit 77, nat_lit 39), (nat_lit 0, nat_lit 79, nat_lit 40), (nat_lit 0, nat_lit 81, nat_lit 41), (nat_lit 0, nat_lit 82, nat_lit 42)] [] (fun xs η => sP wl_ne zTr zPne_token1 xs η ∧ pPne_token1 xs η) (fun xs η y η' => sQ wl_ne zTr zOne_token1 zMne_token1 xs η y η' ∧ pQne_token1 xs η y η') :=
  zmet_cs zke_token (fun xs η h => ⟨h.1, h.2.1.1⟩) (fun xs η y η' h k0 => by
    have k : sQ wl_ke zTr zOke_token zMke_token xs η y η' ∧ oQke_token xs η y η' := ⟨k0.1, k0.2.1⟩
    exact ⟨k.1, ⟨⟨⟨k.2.1, zGk_fm2 (G := T_l) tk_l h.2.1.2 k.1.2.2.2.1 (by decide +kernel)⟩, (k.1.2.2.2.1 0 19 (by decide +kernel)).trans (h.2.2.trans (k.1.2.2.2.1 0 44 (by decide +kernel)).symm)⟩, k.2.2⟩, k0.2.2⟩)
def zPne_sumRead : zPq := zPle_sumRead
def zOne_sumRead : zPo := zOle_sumRead
def zMne_sumRead : List zCe := zMle_sumRead
def pPne_sumRead : List Int → zE → Prop := fun _ η => G1_n η
def oQne_sumRead : List Int → zE → Int → zE → Prop := fun _ η y η' => G0_l η' ∧ (¬ y = 0 → η' 0 19 = η' 0 44 ∧ 1 ≤ η' 0 19 ∧ 10 * (η' 0 6 - η' 0 7) + η' 0 8 ≤ 10 * (η 0 6 - η 0 7) + η 0 8)
def fQne_sumRead : List Int → zE → Int → zE → Prop := fQle_sumRead
def pQne_sumRead : List Int → zE → Int → zE → Prop := fun xs η y η' => oQne_sumRead xs η y η' ∧ fQne_sumRead xs η y η'
theorem zne_sumRead {ro : Nat → List Int32} : zMet pr_P pr_K pr_df ro (sm_X0 1 6) 3 149 tm_ne [(.inr (.inr (.inl (nat_lit 0))))] 2 [(nat_lit 0, nat_lit 0, nat_lit 1), (nat_lit 0, nat_lit 3, nat_lit 2), (nat_lit 0, nat_lit 20, nat_lit 3), (nat_lit 0, nat_lit 21, nat_lit 4), (nat_lit 0, nat_lit 22, nat_lit 5), (nat_lit 0, nat_lit 23, nat_lit 6), (nat_lit 0, nat_lit 24, nat_lit 7), (nat_lit 0, nat_lit 25, nat_lit 8), (nat_lit 0, nat_lit 26, nat_lit 9), (nat_lit 0, nat_lit 27, nat_lit 10), (nat_lit 0, nat_lit 28, nat_lit 11), (nat_lit 0, nat_lit 29, nat_lit 12), (nat_lit 0, nat_lit 30, nat_lit 13), (nat_lit 0, nat_lit 31, nat_lit 14), (nat_lit 0, nat_lit 32, nat_lit 15), (nat_lit 0, nat_lit 33, nat_lit 16), (nat_lit 0, nat_lit 34, nat_lit 17), (nat_lit 0, nat_lit 35, nat_lit 18), (nat_lit 0, nat_lit 36, nat_lit 19), (nat_lit 0, nat_lit 37, nat_lit 20), (nat_lit 0, nat_lit 38, nat_lit 21), (nat_lit 0, nat_lit 39, nat_lit 22), (nat_lit 0, nat_lit 40, nat_lit 23), (nat_lit 0, nat_lit 47, nat_lit 24), (nat_lit 0, nat_lit 48, nat_lit 25), (nat_lit 0, nat_lit 50, nat_lit 26), (nat_lit 0, nat_lit 51, nat_lit 27), (nat_lit 0, nat_lit 52, nat_lit 28), (nat_lit 0, nat_lit 53, nat_lit 29), (nat_lit 0, nat_lit 54, nat_lit 30), (nat_lit 0, nat_lit 55, nat_lit 31), (nat_lit 0, nat_lit 56, nat_lit 32), (nat_lit 0, nat_lit 57, nat_lit 33), (nat_lit 0, nat_lit 58, nat_lit 34), (nat_lit 0, nat_lit 59, nat_lit 35), (nat_lit 0, nat_lit 72, nat_lit 36), (nat_lit 0, nat_lit 73, nat_lit 37), (nat_lit 0, nat_lit 76, nat_lit 38), (nat_lit 0, nat_lit 77, nat_lit 39), (nat_lit 0, nat_lit 79, nat_lit 40), (nat_lit 0, nat_lit 81, nat_lit 41), (nat_lit 0, nat_lit 82, nat_lit 42)] [] (fun xs η => sP wl_ne zTr zPne_sumRead xs η ∧ pPne_sumRead xs η) (fun xs η y η' => sQ wl_ne zTr zOne_sumRead zMne_sumRead xs η y η' ∧ pQne_sumRead xs η y η') :=
  zmet_cs zle_sumRead (fun xs η h => ⟨h.1, h.2⟩) (fun xs η y η' h k0 => by
    have k : sQ wl_le zTr zOle_sumRead zMle_sumRead xs η y η' ∧ oQle_sumRead xs η y η' := ⟨k0.1, k0.2.1⟩
    exact ⟨k.1, k.2, k0.2.2⟩)
def zPne_find_s : zPq := ([((.ofNat (nat_lit 0)), (.ofNat (nat_lit 4))), ((.negSucc (nat_lit 2147483647)), (.ofNat (nat_lit 2147483647)))], [])
def zOne_find_s : zPo := (((.negSucc (nat_lit 0)), (.ofNat (nat_lit 3))), [], [])
def zMne_find_s : List zCe := []
def pPne_find_s : List Int → zE → Prop := (fun _ η => G_ne η)
def oQne_find_s : List Int → zE → Int → zE → Prop := (fun _ _ _ η' => G_ne η')
def fQne_find_s : List Int → zE → Int → zE → Prop := fun xs η y η' => y = (yp_fd (fun k => η 7 (4 + k)) (xs.getD 1 0) (Int.toNat (xs.getD 0 0)) (Int.toNat (xs.getD 0 0))) ∧ η' = η
def pQne_find_s : List Int → zE → Int → zE → Prop := fun xs η y η' => oQne_find_s xs η y η' ∧ fQne_find_s xs η y η'
def pCne_find_s : Nat → List Int → zE → Prop := fun c => match c with
  | _ => fun _ _ => True
def qCne_find_s : Nat → List Int → zE → Int → zE → Prop := fun c => match c with
  | _ => fun _ _ _ _ => True
def iCne_find_s : List Int → zE → Nat → List Int → zE → Prop := fun xs η0 c => match c with
  | 0 => fun ys η => (G_ne η) ∧ (ys.getD 0 0 = 4 ∧ ys.getD 1 0 = xs.getD 0 0 ∧ ys.getD 2 0 = xs.getD 1 0 ∧ yq_fI η0 7 (xs.getD 0 0) (xs.getD 1 0) (ys.getD 3 0) η)
  | _ => fun _ _ => True
def zVne_find_s : List zIv := [(nat_lit 0, ([((.ofNat (nat_lit 4)), (.ofNat (nat_lit 4))), ((.ofNat (nat_lit 0)), (.ofNat (nat_lit 4))), ((.negSucc (nat_lit 2147483647)), (.ofNat (nat_lit 2147483647))), ((.ofNat (nat_lit 0)), (.ofNat (nat_lit 4)))], []), ((.ofNat (nat_lit 4)), [((.negSucc (nat_lit 0)), nat_lit 0, nat_lit 3, nat_lit 0)]))]
def zUne_find_s : List zCu := [(nat_lit 3, nat_lit 0, [(nat_lit 0, (.inr (.inr (.inl (nat_lit 7))))), (nat_lit 1, (.inl (nat_lit 1, (.ofNat (nat_lit 0))))), (nat_lit 2, (.inl (nat_lit 2, (.ofNat (nat_lit 0))))), (nat_lit 3, (.inl (nat_lit 3, (.ofNat (nat_lit 0))))), (nat_lit 4, (.inl (nat_lit 4, (.ofNat (nat_lit 0)))))], [])]
def zDne_find_s : List (List zK) := []
def zEne_find_s : List (List zK) := [[(nat_lit 12, nat_lit 0, [(nat_lit 0, (.ofNat (nat_lit 4))), (nat_lit 1, (.ofNat (nat_lit 0))), (nat_lit 2, (.ofNat (nat_lit 0))), (nat_lit 0, (.ofNat (nat_lit 0)))])]]
def zFne_find_s : List (List zK) := []
def zDne_find_s_0 : List (List zK) := [[(nat_lit 7, nat_lit 0, [(nat_lit 5, (.ofNat (nat_lit 0))), (nat_lit 0, (.ofNat (nat_lit 8)))]), (nat_lit 0, nat_lit 1, [(nat_lit 1, (.ofNat (nat_lit 0))), (nat_lit 4, (.ofNat (nat_lit 0)))]), (nat_lit 6, nat_lit 2, [(nat_lit 4, (.ofNat (nat_lit 0))), (nat_lit 2, (.ofNat (nat_lit 0)))])]]
def zEne_find_s_0 : List (List zK) := [[(nat_lit 11, nat_lit 0, [(nat_lit 0, (.negSucc (nat_lit 0)))]), (nat_lit 6, nat_lit 3, [(nat_lit 4, (.ofNat (nat_lit 0))), (nat_lit 2, (.ofNat (nat_lit 0)))])],
  [(nat_lit 10, nat_lit 0, [(nat_lit 1, (.ofNat (nat_lit 0))), (nat_lit 2, (.ofNat (nat_lit 0))), (nat_lit 3, (.ofNat (nat_lit 0))), (nat_lit 7, (.ofNat (nat_lit 0)))]), (nat_lit 0, nat_lit 1, [(nat_lit 4, (.ofNat (nat_lit 0))), (nat_lit 0, (.ofNat (nat_lit 1)))]), (nat_lit 6, nat_lit 1, [(nat_lit 6, (.ofNat (nat_lit 0))), (nat_lit 3, (.ofNat (nat_lit 0)))]), (nat_lit 4, nat_lit 0, [(nat_lit 7, (.ofNat (nat_lit 0))), (nat_lit 5, (.ofNat (nat_lit 0)))]), (nat_lit 0, nat_lit 1, [(nat_lit 1, (.ofNat (nat_lit 0))), (nat_lit 4, (.ofNat (nat_lit 0)))]), (nat_lit 6, nat_lit 2, [(nat_lit 4, (.ofNat (nat_lit 0))), (nat_lit 2, (.ofNat (nat_lit 0)))])],
  [(nat_lit 11, nat_lit 0, [(nat_lit 4, (.ofNat (nat_lit 0)))]), (nat_lit 6, nat_lit 0, [(nat_lit 6, (.ofNat (nat_lit 0))), (nat_lit 3, (.ofNat (nat_lit 0)))]), (nat_lit 4, nat_lit 0, [(nat_lit 7, (.ofNat (nat_lit 0))), (nat_lit 5, (.ofNat (nat_lit 0)))]), (nat_lit 0, nat_lit 1, [(nat_lit 1, (.ofNat (nat_lit 0))), (nat_lit 4, (.ofNat (nat_lit 0)))]), (nat_lit 6, nat_lit 2, [(nat_lit 4, (.ofNat (nat_lit 0))), (nat_lit 2, (.ofNat (nat_lit 0)))])]]
def zFne_find_s_0 : List (List zK) := []
set_option maxHeartbeats 8000000 in
theorem zne_find_s_o0 {ro : Nat → List Int32} (xs : List Int) (η0 : zE) (hp : sP wl_ne zTr zPne_find_s xs η0) (hpp : pPne_find_s xs η0) (x1 x2 x3 x4 : Int) (η : zE) (hI : zsI wl_ne zTr zVne_find_s zMne_find_s η0 0 [x1, x2, x3, x4] η) (hig : iCne_find_s xs η0 0 [x1, x2, x3, x4] η) : (x2 ≤ x4) → (fun (_ : Nat) (y : Int) (η' : zE) => pQne_find_s xs η0 y η') 0 (-1) η := by
  have fig := hig.2
  have hig := hig.1
  intro c1
  refine yj_a ?_ ?_
  · exact hig
  · obtain ⟨f1, f2, f3, fI⟩ : x1 = 4 ∧ x2 = xs.getD 0 0 ∧ x3 = xs.getD 1 0 ∧ yq_fI η0 7 (xs.getD 0 0) (xs.getD 1 0) x4 η := fig
    rw [← f2, ← f3] at fI
    have b4 : (0 : Int) ≤ x4 ∧ x4 ≤ 4 := hI.1.2.1.2.2.2.1
    show -1 = yp_fd (fun k => η0 7 (4 + k)) (xs.getD 1 0) (xs.getD 0 0).toNat (xs.getD 0 0).toNat ∧ η = η0
    rw [← f2, ← f3]
    exact qfI_e fI (by omega)
set_option maxHeartbeats 8000000 in
theorem zne_find_s_o1 {ro : Nat → List Int32} (xs : List Int) (η0 : zE) (hp : sP wl_ne zTr zPne_find_s xs η0) (hpp : pPne_find_s xs η0) (x1 x2 x3 x4 : Int) (η : zE) (hI : zsI wl_ne zTr zVne_find_s zMne_find_s η0 0 [x1, x2, x3, x4] η) (hig : iCne_find_s xs η0 0 [x1, x2, x3, x4] η) : (x4 < x2) → ∀ x5 : Int, x5 = zd 0 1 x1 x4 → ∀ x6 : Int, x6 = η 7 (Int.toNat x5) → zok 0 x6 → (¬ x6 = x3) → ∀ x7 : Int, x7 = zd 0 1 x4 1 → (iCne_find_s xs η0) 0 [x1, x2, x3, x7] η ∧ (fun (_ : Nat) (_ : List Int) (_ : zE) => (0 : Nat)) 0 [x1, x2, x3, x7] η < 1 := by
  have fig := hig.2
  have hig := hig.1
  intro c1 x5 e5 x6 e6 r6 c2 x7 e7
  refine yj_c ?_ ?_
  · exact ⟨hig, Nat.zero_lt_one⟩
  · obtain ⟨f1, f2, f3, fI⟩ : x1 = 4 ∧ x2 = xs.getD 0 0 ∧ x3 = xs.getD 1 0 ∧ yq_fI η0 7 (xs.getD 0 0) (xs.getD 1 0) x4 η := fig
    rw [← f2, ← f3] at fI
    have b4 : (0 : Int) ≤ x4 ∧ x4 ≤ 4 := hI.1.2.1.2.2.2.1
    rw [f1, zd_a ⟨by omega, by omega⟩] at e5
    have e6 : x6 = η 7 x5.toNat := e6
    rw [e5] at e6
    have e7 : x7 = zd 0 1 x4 1 := e7
    rw [zd_a ⟨by omega, by omega⟩] at e7
    refine ⟨f1, f2, f3, ?_⟩
    show yq_fI η0 7 (xs.getD 0 0) (xs.getD 1 0) x7 η
    rw [← f2, ← f3, e7]
    exact qfI_n fI (by omega) (by rw [← e6]; assumption)
set_option maxHeartbeats 8000000 in
theorem zne_find_s_o2 {ro : Nat → List Int32} (xs : List Int) (η0 : zE) (hp : sP wl_ne zTr zPne_find_s xs η0) (hpp : pPne_find_s xs η0) (x1 x2 x3 x4 : Int) (η : zE) (hI : zsI wl_ne zTr zVne_find_s zMne_find_s η0 0 [x1, x2, x3, x4] η) (hig : iCne_find_s xs η0 0 [x1, x2, x3, x4] η) : (x4 < x2) → ∀ x5 : Int, x5 = zd 0 1 x1 x4 → ∀ x6 : Int, x6 = η 7 (Int.toNat x5) → zok 0 x6 → (x6 = x3) → (fun (_ : Nat) (y : Int) (η' : zE) => pQne_find_s xs η0 y η') 0 x4 η := by
  have fig := hig.2
  have hig := hig.1
  intro c1 x5 e5 x6 e6 r6 c2
  refine yj_a ?_ ?_
  · exact hig
  · obtain ⟨f1, f2, f3, fI⟩ : x1 = 4 ∧ x2 = xs.getD 0 0 ∧ x3 = xs.getD 1 0 ∧ yq_fI η0 7 (xs.getD 0 0) (xs.getD 1 0) x4 η := fig
    rw [← f2, ← f3] at fI
    have b4 : (0 : Int) ≤ x4 ∧ x4 ≤ 4 := hI.1.2.1.2.2.2.1
    rw [f1, zd_a ⟨by omega, by omega⟩] at e5
    have e6 : x6 = η 7 x5.toNat := e6
    rw [e5] at e6
    show x4 = yp_fd (fun k => η0 7 (4 + k)) (xs.getD 1 0) (xs.getD 0 0).toNat (xs.getD 0 0).toNat ∧ η = η0
    rw [← f2, ← f3]
    exact qfI_t fI (by omega) (by rw [← e6]; assumption)
set_option maxHeartbeats 8000000 in
theorem zne_find_s {ro : Nat → List Int32} : zMet pr_P pr_K pr_df ro (sm_X0 1 6) 0 131 tm_ne [(.inr (.inr (.inl (nat_lit 7)))), (.inl (nat_lit 0, (.ofNat (nat_lit 4)))), (.inl (nat_lit 1, (.ofNat (nat_lit 0)))), (.inl (nat_lit 2, (.ofNat (nat_lit 0))))] 1 [] [] (fun xs η => sP wl_ne zTr zPne_find_s xs η ∧ pPne_find_s xs η) (fun xs η y η' => sQ wl_ne zTr zOne_find_s zMne_find_s xs η y η' ∧ pQne_find_s xs η y η') :=
  zmet_alt (zmea_gen (mi := (nat_lit 4, nat_lit 0, nat_lit 8, nat_lit 5, nat_lit 1, tX8_find)) (cd := []) (cu := zUne_find_s) (cs := []) (iv := zVne_find_s) (po := [zOne_find_s]) (pr := zPne_find_s) (mods := zMne_find_s) (D7 := zDne_find_s) (D0 := zEne_find_s) (Dm := zFne_find_s) (f0 := 7) pCne_find_s qCne_find_s iCne_find_s pPne_find_s (fun xs η _ y η' => pQne_find_s xs η y η') zX_low pr_mtR rfl (fun _ h => nomatch h) (by decide +kernel) (by decide +kernel) (by decide +kernel)
    (by
      intro xs η hr hl hp hpp
      match xs, hl, hp, hpp with
      | [x1, x2], _, hp, hpp =>
        refine List.forall_mem_cons.mpr ⟨?_, fun _ h => nomatch h⟩
        · refine zden_L (n := 3) (ρ := [x2, x1, 0]) rfl ?_
          show (iCne_find_s [x1, x2] η) 0 [4, x1, x2, 0] η
          refine yj_a ?_ ?_
          · exact hpp
          · exact ⟨rfl, rfl, rfl, rfl, Int.le_refl _, rfl⟩
      )
    (fun _ _ _ _ _ _ _ h => nomatch h)
    (List.forall_mem_cons.mpr ⟨⟨zDne_find_s_0, zEne_find_s_0, zFne_find_s_0, 17, by decide +kernel, (by
      intro xs η0 hlx hp hpp ys η hr hl hI hig
      match ys, hl, hI, hig with
      | [x1, x2, x3, x4], _, hI, hig =>
        refine ⟨?_, ?_⟩
        · refine List.forall_mem_cons.mpr ⟨?_, List.forall_mem_cons.mpr ⟨?_, List.forall_mem_cons.mpr ⟨?_, fun _ h => nomatch h⟩⟩⟩
          · refine zden_L (n := 5) (ρ := [x4, x3, x2, x1, 0]) rfl ?_
            exact zne_find_s_o0 (ro := ro) xs η0 hp hpp x1 x2 x3 x4 η hI hig
          · refine zden_L (n := 5) (ρ := [x4, x3, x2, x1, 0]) rfl ?_
            exact zne_find_s_o1 (ro := ro) xs η0 hp hpp x1 x2 x3 x4 η hI hig
          · refine zden_L (n := 5) (ρ := [x4, x3, x2, x1, 0]) rfl ?_
            exact zne_find_s_o2 (ro := ro) xs η0 hp hpp x1 x2 x3 x4 η hI hig
        · exact fun _ h => nomatch h
      )⟩, (fun _ h => nomatch h)⟩))
def zPne_find_g : zPq := ([((.ofNat (nat_lit 0)), (.ofNat (nat_lit 4))), ((.negSucc (nat_lit 2147483647)), (.ofNat (nat_lit 2147483647)))], [])
def zOne_find_g : zPo := (((.negSucc (nat_lit 0)), (.ofNat (nat_lit 3))), [], [])
def zMne_find_g : List zCe := []
def pPne_find_g : List Int → zE → Prop := (fun _ η => G_ne η)
def oQne_find_g : List Int → zE → Int → zE → Prop := (fun _ _ _ η' => G_ne η')
def fQne_find_g : List Int → zE → Int → zE → Prop := fun xs η y η' => y = (yp_fd (fun k => η 12 (4 + k)) (xs.getD 1 0) (Int.toNat (xs.getD 0 0)) (Int.toNat (xs.getD 0 0))) ∧ η' = η
def pQne_find_g : List Int → zE → Int → zE → Prop := fun xs η y η' => oQne_find_g xs η y η' ∧ fQne_find_g xs η y η'
def pCne_find_g : Nat → List Int → zE → Prop := fun c => match c with
  | _ => fun _ _ => True
def qCne_find_g : Nat → List Int → zE → Int → zE → Prop := fun c => match c with
  | _ => fun _ _ _ _ => True
def iCne_find_g : List Int → zE → Nat → List Int → zE → Prop := fun xs η0 c => match c with
  | 0 => fun ys η => (G_ne η) ∧ (ys.getD 0 0 = 4 ∧ ys.getD 1 0 = xs.getD 0 0 ∧ ys.getD 2 0 = xs.getD 1 0 ∧ yq_fI η0 12 (xs.getD 0 0) (xs.getD 1 0) (ys.getD 3 0) η)
  | _ => fun _ _ => True
def zVne_find_g : List zIv := [(nat_lit 0, ([((.ofNat (nat_lit 4)), (.ofNat (nat_lit 4))), ((.ofNat (nat_lit 0)), (.ofNat (nat_lit 4))), ((.negSucc (nat_lit 2147483647)), (.ofNat (nat_lit 2147483647))), ((.ofNat (nat_lit 0)), (.ofNat (nat_lit 4)))], []), ((.ofNat (nat_lit 4)), [((.negSucc (nat_lit 0)), nat_lit 0, nat_lit 3, nat_lit 0)]))]
def zUne_find_g : List zCu := [(nat_lit 3, nat_lit 0, [(nat_lit 0, (.inr (.inr (.inl (nat_lit 12))))), (nat_lit 1, (.inl (nat_lit 1, (.ofNat (nat_lit 0))))), (nat_lit 2, (.inl (nat_lit 2, (.ofNat (nat_lit 0))))), (nat_lit 3, (.inl (nat_lit 3, (.ofNat (nat_lit 0))))), (nat_lit 4, (.inl (nat_lit 4, (.ofNat (nat_lit 0)))))], [])]
def zDne_find_g : List (List zK) := []
def zEne_find_g : List (List zK) := [[(nat_lit 12, nat_lit 0, [(nat_lit 0, (.ofNat (nat_lit 4))), (nat_lit 1, (.ofNat (nat_lit 0))), (nat_lit 2, (.ofNat (nat_lit 0))), (nat_lit 0, (.ofNat (nat_lit 0)))])]]
def zFne_find_g : List (List zK) := []
def zDne_find_g_0 : List (List zK) := [[(nat_lit 7, nat_lit 0, [(nat_lit 5, (.ofNat (nat_lit 0))), (nat_lit 0, (.ofNat (nat_lit 8)))]), (nat_lit 0, nat_lit 1, [(nat_lit 1, (.ofNat (nat_lit 0))), (nat_lit 4, (.ofNat (nat_lit 0)))]), (nat_lit 6, nat_lit 2, [(nat_lit 4, (.ofNat (nat_lit 0))), (nat_lit 2, (.ofNat (nat_lit 0)))])]]
def zEne_find_g_0 : List (List zK) := [[(nat_lit 11, nat_lit 0, [(nat_lit 0, (.negSucc (nat_lit 0)))]), (nat_lit 6, nat_lit 3, [(nat_lit 4, (.ofNat (nat_lit 0))), (nat_lit 2, (.ofNat (nat_lit 0)))])],
  [(nat_lit 10, nat_lit 0, [(nat_lit 1, (.ofNat (nat_lit 0))), (nat_lit 2, (.ofNat (nat_lit 0))), (nat_lit 3, (.ofNat (nat_lit 0))), (nat_lit 7, (.ofNat (nat_lit 0)))]), (nat_lit 0, nat_lit 1, [(nat_lit 4, (.ofNat (nat_lit 0))), (nat_lit 0, (.ofNat (nat_lit 1)))]), (nat_lit 6, nat_lit 1, [(nat_lit 6, (.ofNat (nat_lit 0))), (nat_lit 3, (.ofNat (nat_lit 0)))]), (nat_lit 4, nat_lit 0, [(nat_lit 12, (.ofNat (nat_lit 0))), (nat_lit 5, (.ofNat (nat_lit 0)))]), (nat_lit 0, nat_lit 1, [(nat_lit 1, (.ofNat (nat_lit 0))), (nat_lit 4, (.ofNat (nat_lit 0)))]), (nat_lit 6, nat_lit 2, [(nat_lit 4, (.ofNat (nat_lit 0))), (nat_lit 2, (.ofNat (nat_lit 0)))])],
  [(nat_lit 11, nat_lit 0, [(nat_lit 4, (.ofNat (nat_lit 0)))]), (nat_lit 6, nat_lit 0, [(nat_lit 6, (.ofNat (nat_lit 0))), (nat_lit 3, (.ofNat (nat_lit 0)))]), (nat_lit 4, nat_lit 0, [(nat_lit 12, (.ofNat (nat_lit 0))), (nat_lit 5, (.ofNat (nat_lit 0)))]), (nat_lit 0, nat_lit 1, [(nat_lit 1, (.ofNat (nat_lit 0))), (nat_lit 4, (.ofNat (nat_lit 0)))]), (nat_lit 6, nat_lit 2, [(nat_lit 4, (.ofNat (nat_lit 0))), (nat_lit 2, (.ofNat (nat_lit 0)))])]]
def zFne_find_g_0 : List (List zK) := []
set_option maxHeartbeats 8000000 in
theorem zne_find_g_o0 {ro : Nat → List Int32} (xs : List Int) (η0 : zE) (hp : sP wl_ne zTr zPne_find_g xs η0) (hpp : pPne_find_g xs η0) (x1 x2 x3 x4 : Int) (η : zE) (hI : zsI wl_ne zTr zVne_find_g zMne_find_g η0 0 [x1, x2, x3, x4] η) (hig : iCne_find_g xs η0 0 [x1, x2, x3, x4] η) : (x2 ≤ x4) → (fun (_ : Nat) (y : Int) (η' : zE) => pQne_find_g xs η0 y η') 0 (-1) η := by
  have fig := hig.2
  have hig := hig.1
  intro c1
  refine yj_a ?_ ?_
  · exact hig
  · obtain ⟨f1, f2, f3, fI⟩ : x1 = 4 ∧ x2 = xs.getD 0 0 ∧ x3 = xs.getD 1 0 ∧ yq_fI η0 12 (xs.getD 0 0) (xs.getD 1 0) x4 η := fig
    rw [← f2, ← f3] at fI
    have b4 : (0 : Int) ≤ x4 ∧ x4 ≤ 4 := hI.1.2.1.2.2.2.1
    show -1 = yp_fd (fun k => η0 12 (4 + k)) (xs.getD 1 0) (xs.getD 0 0).toNat (xs.getD 0 0).toNat ∧ η = η0
    rw [← f2, ← f3]
    exact qfI_e fI (by omega)
set_option maxHeartbeats 8000000 in
theorem zne_find_g_o1 {ro : Nat → List Int32} (xs : List Int) (η0 : zE) (hp : sP wl_ne zTr zPne_find_g xs η0) (hpp : pPne_find_g xs η0) (x1 x2 x3 x4 : Int) (η : zE) (hI : zsI wl_ne zTr zVne_find_g zMne_find_g η0 0 [x1, x2, x3, x4] η) (hig : iCne_find_g xs η0 0 [x1, x2, x3, x4] η) : (x4 < x2) → ∀ x5 : Int, x5 = zd 0 1 x1 x4 → ∀ x6 : Int, x6 = η 12 (Int.toNat x5) → zok 0 x6 → (¬ x6 = x3) → ∀ x7 : Int, x7 = zd 0 1 x4 1 → (iCne_find_g xs η0) 0 [x1, x2, x3, x7] η ∧ (fun (_ : Nat) (_ : List Int) (_ : zE) => (0 : Nat)) 0 [x1, x2, x3, x7] η < 1 := by
  have fig := hig.2
  have hig := hig.1
  intro c1 x5 e5 x6 e6 r6 c2 x7 e7
  refine yj_c ?_ ?_
  · exact ⟨hig, Nat.zero_lt_one⟩
  · obtain ⟨f1, f2, f3, fI⟩ : x1 = 4 ∧ x2 = xs.getD 0 0 ∧ x3 = xs.getD 1 0 ∧ yq_fI η0 12 (xs.getD 0 0) (xs.getD 1 0) x4 η := fig
    rw [← f2, ← f3] at fI
    have b4 : (0 : Int) ≤ x4 ∧ x4 ≤ 4 := hI.1.2.1.2.2.2.1
    rw [f1, zd_a ⟨by omega, by omega⟩] at e5
    have e6 : x6 = η 12 x5.toNat := e6
    rw [e5] at e6
    have e7 : x7 = zd 0 1 x4 1 := e7
    rw [zd_a ⟨by omega, by omega⟩] at e7
    refine ⟨f1, f2, f3, ?_⟩
    show yq_fI η0 12 (xs.getD 0 0) (xs.getD 1 0) x7 η
    rw [← f2, ← f3, e7]
    exact qfI_n fI (by omega) (by rw [← e6]; assumption)
set_option maxHeartbeats 8000000 in
theorem zne_find_g_o2 {ro : Nat → List Int32} (xs : List Int) (η0 : zE) (hp : sP wl_ne zTr zPne_find_g xs η0) (hpp : pPne_find_g xs η0) (x1 x2 x3 x4 : Int) (η : zE) (hI : zsI wl_ne zTr zVne_find_g zMne_find_g η0 0 [x1, x2, x3, x4] η) (hig : iCne_find_g xs η0 0 [x1, x2, x3, x4] η) : (x4 < x2) → ∀ x5 : Int, x5 = zd 0 1 x1 x4 → ∀ x6 : Int, x6 = η 12 (Int.toNat x5) → zok 0 x6 → (x6 = x3) → (fun (_ : Nat) (y : Int) (η' : zE) => pQne_find_g xs η0 y η') 0 x4 η := by
  have fig := hig.2
  have hig := hig.1
  intro c1 x5 e5 x6 e6 r6 c2
  refine yj_a ?_ ?_
  · exact hig
  · obtain ⟨f1, f2, f3, fI⟩ : x1 = 4 ∧ x2 = xs.getD 0 0 ∧ x3 = xs.getD 1 0 ∧ yq_fI η0 12 (xs.getD 0 0) (xs.getD 1 0) x4 η := fig
    rw [← f2, ← f3] at fI
    have b4 : (0 : Int) ≤ x4 ∧ x4 ≤ 4 := hI.1.2.1.2.2.2.1
    rw [f1, zd_a ⟨by omega, by omega⟩] at e5
    have e6 : x6 = η 12 x5.toNat := e6
    rw [e5] at e6
    show x4 = yp_fd (fun k => η0 12 (4 + k)) (xs.getD 1 0) (xs.getD 0 0).toNat (xs.getD 0 0).toNat ∧ η = η0
    rw [← f2, ← f3]
    exact qfI_t fI (by omega) (by rw [← e6]; assumption)
set_option maxHeartbeats 8000000 in
theorem zne_find_g {ro : Nat → List Int32} : zMet pr_P pr_K pr_df ro (sm_X0 1 6) 0 131 tm_ne [(.inr (.inr (.inl (nat_lit 12)))), (.inl (nat_lit 0, (.ofNat (nat_lit 4)))), (.inl (nat_lit 1, (.ofNat (nat_lit 0)))), (.inl (nat_lit 2, (.ofNat (nat_lit 0))))] 1 [] [] (fun xs η => sP wl_ne zTr zPne_find_g xs η ∧ pPne_find_g xs η) (fun xs η y η' => sQ wl_ne zTr zOne_find_g zMne_find_g xs η y η' ∧ pQne_find_g xs η y η') :=
  zmet_alt (zmea_gen (mi := (nat_lit 4, nat_lit 0, nat_lit 8, nat_lit 5, nat_lit 1, tX8_find)) (cd := []) (cu := zUne_find_g) (cs := []) (iv := zVne_find_g) (po := [zOne_find_g]) (pr := zPne_find_g) (mods := zMne_find_g) (D7 := zDne_find_g) (D0 := zEne_find_g) (Dm := zFne_find_g) (f0 := 7) pCne_find_g qCne_find_g iCne_find_g pPne_find_g (fun xs η _ y η' => pQne_find_g xs η y η') zX_low pr_mtR rfl (fun _ h => nomatch h) (by decide +kernel) (by decide +kernel) (by decide +kernel)
    (by
      intro xs η hr hl hp hpp
      match xs, hl, hp, hpp with
      | [x1, x2], _, hp, hpp =>
        refine List.forall_mem_cons.mpr ⟨?_, fun _ h => nomatch h⟩
        · refine zden_L (n := 3) (ρ := [x2, x1, 0]) rfl ?_
          show (iCne_find_g [x1, x2] η) 0 [4, x1, x2, 0] η
          refine yj_a ?_ ?_
          · exact hpp
          · exact ⟨rfl, rfl, rfl, rfl, Int.le_refl _, rfl⟩
      )
    (fun _ _ _ _ _ _ _ h => nomatch h)
    (List.forall_mem_cons.mpr ⟨⟨zDne_find_g_0, zEne_find_g_0, zFne_find_g_0, 17, by decide +kernel, (by
      intro xs η0 hlx hp hpp ys η hr hl hI hig
      match ys, hl, hI, hig with
      | [x1, x2, x3, x4], _, hI, hig =>
        refine ⟨?_, ?_⟩
        · refine List.forall_mem_cons.mpr ⟨?_, List.forall_mem_cons.mpr ⟨?_, List.forall_mem_cons.mpr ⟨?_, fun _ h => nomatch h⟩⟩⟩
          · refine zden_L (n := 5) (ρ := [x4, x3, x2, x1, 0]) rfl ?_
            exact zne_find_g_o0 (ro := ro) xs η0 hp hpp x1 x2 x3 x4 η hI hig
          · refine zden_L (n := 5) (ρ := [x4, x3, x2, x1, 0]) rfl ?_
            exact zne_find_g_o1 (ro := ro) xs η0 hp hpp x1 x2 x3 x4 η hI hig
          · refine zden_L (n := 5) (ρ := [x4, x3, x2, x1, 0]) rfl ?_
            exact zne_find_g_o2 (ro := ro) xs η0 hp hpp x1 x2 x3 x4 η hI hig
        · exact fun _ h => nomatch h
      )⟩, (fun _ h => nomatch h)⟩))
def zPne_grooveLine : zPq := ([], [])
def zOne_grooveLine : zPo := (((.ofNat (nat_lit 0)), (.ofNat (nat_lit 1))), [], [])
def zMne_grooveLine : List zCe := [(nat_lit 0, nat_lit 8), (nat_lit 0, nat_lit 9), (nat_lit 0, nat_lit 10), (nat_lit 0, nat_lit 11), (nat_lit 0, nat_lit 5), (nat_lit 0, nat_lit 6), (nat_lit 0, nat_lit 12), (nat_lit 0, nat_lit 17), (nat_lit 5, nat_lit 0), (nat_lit 6, nat_lit 0)]
def pPne_grooveLine : List Int → zE → Prop := fun _ η => G_n η ∧ ¬ η 0 8 = 0
def oQne_grooveLine : List Int → zE → Int → zE → Prop := fun _ η y η' => G_n η' ∧ (¬ y = 0 → 10 * (η' 0 6 - η' 0 7) + η' 0 8 < 10 * (η 0 6 - η 0 7) + η 0 8)
def fQne_grooveLine : List Int → zE → Int → zE → Prop := fun xs η y η' => y = (yq_grl η).1 ∧ η' = (yq_grl η).2
def pQne_grooveLine : List Int → zE → Int → zE → Prop := fun xs η y η' => oQne_grooveLine xs η y η' ∧ fQne_grooveLine xs η y η'
def pCne_grooveLine : Nat → List Int → zE → Prop := fun c => match c with
  | 0 => pPne_wrong
  | 1 => pPne_token
  | 2 => pPne_number
  | _ => fun _ _ => True
def qCne_grooveLine : Nat → List Int → zE → Int → zE → Prop := fun c => match c with
  | 0 => pQne_wrong
  | 1 => pQne_token
  | 2 => pQne_number
  | _ => fun _ _ _ _ => True
def iCne_grooveLine : List Int → zE → Nat → List Int → zE → Prop := fun xs η0 c => match c with
  | _ => fun _ _ => True
def zVne_grooveLine : List zIv := []
def zDne_grooveLine : List (List zK) := [[(nat_lit 7, nat_lit 0, [(nat_lit 5, (.ofNat (nat_lit 0))), (nat_lit 0, (.ofNat (nat_lit 24)))]), (nat_lit 4, nat_lit 0, [(nat_lit 0, (.ofNat (nat_lit 0))), (nat_lit 0, (.ofNat (nat_lit 11)))]), (nat_lit 0, nat_lit 1, [(nat_lit 0, (.ofNat (nat_lit 12))), (nat_lit 4, (.ofNat (nat_lit 0)))]), (nat_lit 4, nat_lit 0, [(nat_lit 0, (.ofNat (nat_lit 0))), (nat_lit 0, (.ofNat (nat_lit 16)))]), (nat_lit 6, nat_lit 1, [(nat_lit 3, (.ofNat (nat_lit 0))), (nat_lit 0, (.ofNat (nat_lit 0)))]), (nat_lit 8, nat_lit 2, [(nat_lit 0, (.ofNat (nat_lit 1))), (nat_lit 0, (.ofNat (nat_lit 9)))]), (nat_lit 8, nat_lit 1, []), (nat_lit 6, nat_lit 1, [(nat_lit 1, (.ofNat (nat_lit 0))), (nat_lit 0, (.ofNat (nat_lit 12)))]), (nat_lit 4, nat_lit 0, [(nat_lit 0, (.ofNat (nat_lit 0))), (nat_lit 0, (.ofNat (nat_lit 16)))])],
  [(nat_lit 7, nat_lit 0, [(nat_lit 9, (.ofNat (nat_lit 0))), (nat_lit 0, (.ofNat (nat_lit 24)))]), (nat_lit 4, nat_lit 0, [(nat_lit 0, (.ofNat (nat_lit 0))), (nat_lit 0, (.ofNat (nat_lit 11)))]), (nat_lit 0, nat_lit 1, [(nat_lit 0, (.ofNat (nat_lit 12))), (nat_lit 8, (.ofNat (nat_lit 0)))]), (nat_lit 4, nat_lit 0, [(nat_lit 0, (.ofNat (nat_lit 0))), (nat_lit 0, (.ofNat (nat_lit 16)))]), (nat_lit 6, nat_lit 1, [(nat_lit 7, (.ofNat (nat_lit 0))), (nat_lit 0, (.ofNat (nat_lit 0)))]), (nat_lit 8, nat_lit 2, [(nat_lit 0, (.ofNat (nat_lit 0))), (nat_lit 0, (.ofNat (nat_lit 9)))]), (nat_lit 5, nat_lit 0, [(nat_lit 5, (.ofNat (nat_lit 0))), (nat_lit 5, (.ofNat (nat_lit 0))), (nat_lit 6, (.ofNat (nat_lit 0)))]), (nat_lit 4, nat_lit 0, [(nat_lit 0, (.ofNat (nat_lit 0))), (nat_lit 0, (.ofNat (nat_lit 11)))]), (nat_lit 0, nat_lit 1, [(nat_lit 0, (.ofNat (nat_lit 12))), (nat_lit 4, (.ofNat (nat_lit 0)))]), (nat_lit 4, nat_lit 0, [(nat_lit 0, (.ofNat (nat_lit 0))), (nat_lit 0, (.ofNat (nat_lit 16)))]), (nat_lit 6, nat_lit 1, [(nat_lit 3, (.ofNat (nat_lit 0))), (nat_lit 0, (.ofNat (nat_lit 0)))]), (nat_lit 8, nat_lit 2, [(nat_lit 0, (.ofNat (nat_lit 1))), (nat_lit 0, (.ofNat (nat_lit 9)))]), (nat_lit 8, nat_lit 1, []), (nat_lit 6, nat_lit 1, [(nat_lit 1, (.ofNat (nat_lit 0))), (nat_lit 0, (.ofNat (nat_lit 12)))]), (nat_lit 4, nat_lit 0, [(nat_lit 0, (.ofNat (nat_lit 0))), (nat_lit 0, (.ofNat (nat_lit 16)))])],
  [(nat_lit 7, nat_lit 2, [(nat_lit 0, (.ofNat (nat_lit 1)))]), (nat_lit 5, nat_lit 0, [(nat_lit 0, (.ofNat (nat_lit 0))), (nat_lit 0, (.ofNat (nat_lit 16))), (nat_lit 12, (.ofNat (nat_lit 0)))]), (nat_lit 0, nat_lit 1, [(nat_lit 11, (.ofNat (nat_lit 0))), (nat_lit 0, (.ofNat (nat_lit 1)))]), (nat_lit 4, nat_lit 0, [(nat_lit 0, (.ofNat (nat_lit 0))), (nat_lit 0, (.ofNat (nat_lit 16)))]), (nat_lit 5, nat_lit 0, [(nat_lit 6, (.ofNat (nat_lit 0))), (nat_lit 9, (.ofNat (nat_lit 0))), (nat_lit 10, (.ofNat (nat_lit 0)))]), (nat_lit 4, nat_lit 0, [(nat_lit 0, (.ofNat (nat_lit 0))), (nat_lit 0, (.ofNat (nat_lit 11)))]), (nat_lit 0, nat_lit 1, [(nat_lit 0, (.ofNat (nat_lit 12))), (nat_lit 8, (.ofNat (nat_lit 0)))]), (nat_lit 4, nat_lit 0, [(nat_lit 0, (.ofNat (nat_lit 0))), (nat_lit 0, (.ofNat (nat_lit 16)))]), (nat_lit 6, nat_lit 1, [(nat_lit 7, (.ofNat (nat_lit 0))), (nat_lit 0, (.ofNat (nat_lit 0)))]), (nat_lit 8, nat_lit 2, [(nat_lit 0, (.ofNat (nat_lit 0))), (nat_lit 0, (.ofNat (nat_lit 9)))]), (nat_lit 5, nat_lit 0, [(nat_lit 5, (.ofNat (nat_lit 0))), (nat_lit 5, (.ofNat (nat_lit 0))), (nat_lit 6, (.ofNat (nat_lit 0)))]), (nat_lit 4, nat_lit 0, [(nat_lit 0, (.ofNat (nat_lit 0))), (nat_lit 0, (.ofNat (nat_lit 11)))]), (nat_lit 0, nat_lit 1, [(nat_lit 0, (.ofNat (nat_lit 12))), (nat_lit 4, (.ofNat (nat_lit 0)))]), (nat_lit 4, nat_lit 0, [(nat_lit 0, (.ofNat (nat_lit 0))), (nat_lit 0, (.ofNat (nat_lit 16)))]), (nat_lit 6, nat_lit 1, [(nat_lit 3, (.ofNat (nat_lit 0))), (nat_lit 0, (.ofNat (nat_lit 0)))]), (nat_lit 8, nat_lit 2, [(nat_lit 0, (.ofNat (nat_lit 1))), (nat_lit 0, (.ofNat (nat_lit 9)))]), (nat_lit 8, nat_lit 1, []), (nat_lit 6, nat_lit 1, [(nat_lit 1, (.ofNat (nat_lit 0))), (nat_lit 0, (.ofNat (nat_lit 12)))]), (nat_lit 4, nat_lit 0, [(nat_lit 0, (.ofNat (nat_lit 0))), (nat_lit 0, (.ofNat (nat_lit 16)))])],
  [(nat_lit 7, nat_lit 2, [(nat_lit 0, (.ofNat (nat_lit 0)))]), (nat_lit 6, nat_lit 0, [(nat_lit 7, (.ofNat (nat_lit 0))), (nat_lit 0, (.ofNat (nat_lit 0)))]), (nat_lit 8, nat_lit 2, [(nat_lit 0, (.ofNat (nat_lit 0))), (nat_lit 0, (.ofNat (nat_lit 9)))]), (nat_lit 5, nat_lit 0, [(nat_lit 5, (.ofNat (nat_lit 0))), (nat_lit 5, (.ofNat (nat_lit 0))), (nat_lit 6, (.ofNat (nat_lit 0)))]), (nat_lit 4, nat_lit 0, [(nat_lit 0, (.ofNat (nat_lit 0))), (nat_lit 0, (.ofNat (nat_lit 11)))]), (nat_lit 0, nat_lit 1, [(nat_lit 0, (.ofNat (nat_lit 12))), (nat_lit 4, (.ofNat (nat_lit 0)))]), (nat_lit 4, nat_lit 0, [(nat_lit 0, (.ofNat (nat_lit 0))), (nat_lit 0, (.ofNat (nat_lit 16)))]), (nat_lit 6, nat_lit 1, [(nat_lit 3, (.ofNat (nat_lit 0))), (nat_lit 0, (.ofNat (nat_lit 0)))]), (nat_lit 8, nat_lit 2, [(nat_lit 0, (.ofNat (nat_lit 1))), (nat_lit 0, (.ofNat (nat_lit 9)))]), (nat_lit 8, nat_lit 1, []), (nat_lit 6, nat_lit 1, [(nat_lit 1, (.ofNat (nat_lit 0))), (nat_lit 0, (.ofNat (nat_lit 12)))]), (nat_lit 4, nat_lit 0, [(nat_lit 0, (.ofNat (nat_lit 0))), (nat_lit 0, (.ofNat (nat_lit 16)))])],
  [(nat_lit 7, nat_lit 2, [(nat_lit 0, (.ofNat (nat_lit 0)))]), (nat_lit 6, nat_lit 0, [(nat_lit 3, (.ofNat (nat_lit 0))), (nat_lit 0, (.ofNat (nat_lit 0)))]), (nat_lit 8, nat_lit 2, [(nat_lit 0, (.ofNat (nat_lit 1))), (nat_lit 0, (.ofNat (nat_lit 9)))]), (nat_lit 8, nat_lit 1, []), (nat_lit 6, nat_lit 1, [(nat_lit 1, (.ofNat (nat_lit 0))), (nat_lit 0, (.ofNat (nat_lit 12)))]), (nat_lit 4, nat_lit 0, [(nat_lit 0, (.ofNat (nat_lit 0))), (nat_lit 0, (.ofNat (nat_lit 16)))])],
  [(nat_lit 7, nat_lit 2, [(nat_lit 2, (.ofNat (nat_lit 0)))]), (nat_lit 8, nat_lit 0, [(nat_lit 0, (.ofNat (nat_lit 2)))]), (nat_lit 6, nat_lit 0, [(nat_lit 1, (.ofNat (nat_lit 0))), (nat_lit 0, (.ofNat (nat_lit 12)))]), (nat_lit 4, nat_lit 0, [(nat_lit 0, (.ofNat (nat_lit 0))), (nat_lit 0, (.ofNat (nat_lit 16)))])]]
def zEne_grooveLine : List (List zK) := [[(nat_lit 13, nat_lit 1, []), (nat_lit 6, nat_lit 1, [(nat_lit 1, (.ofNat (nat_lit 0))), (nat_lit 0, (.ofNat (nat_lit 12)))]), (nat_lit 4, nat_lit 0, [(nat_lit 0, (.ofNat (nat_lit 0))), (nat_lit 0, (.ofNat (nat_lit 16)))])],
  [(nat_lit 13, nat_lit 2, [(nat_lit 0, (.ofNat (nat_lit 1))), (nat_lit 0, (.ofNat (nat_lit 9)))]), (nat_lit 8, nat_lit 1, []), (nat_lit 6, nat_lit 1, [(nat_lit 1, (.ofNat (nat_lit 0))), (nat_lit 0, (.ofNat (nat_lit 12)))]), (nat_lit 4, nat_lit 0, [(nat_lit 0, (.ofNat (nat_lit 0))), (nat_lit 0, (.ofNat (nat_lit 16)))])],
  [(nat_lit 13, nat_lit 2, [(nat_lit 0, (.ofNat (nat_lit 0))), (nat_lit 0, (.ofNat (nat_lit 9)))]), (nat_lit 5, nat_lit 0, [(nat_lit 5, (.ofNat (nat_lit 0))), (nat_lit 5, (.ofNat (nat_lit 0))), (nat_lit 6, (.ofNat (nat_lit 0)))]), (nat_lit 4, nat_lit 0, [(nat_lit 0, (.ofNat (nat_lit 0))), (nat_lit 0, (.ofNat (nat_lit 11)))]), (nat_lit 0, nat_lit 1, [(nat_lit 0, (.ofNat (nat_lit 12))), (nat_lit 4, (.ofNat (nat_lit 0)))]), (nat_lit 4, nat_lit 0, [(nat_lit 0, (.ofNat (nat_lit 0))), (nat_lit 0, (.ofNat (nat_lit 16)))]), (nat_lit 6, nat_lit 1, [(nat_lit 3, (.ofNat (nat_lit 0))), (nat_lit 0, (.ofNat (nat_lit 0)))]), (nat_lit 8, nat_lit 2, [(nat_lit 0, (.ofNat (nat_lit 1))), (nat_lit 0, (.ofNat (nat_lit 9)))]), (nat_lit 8, nat_lit 1, []), (nat_lit 6, nat_lit 1, [(nat_lit 1, (.ofNat (nat_lit 0))), (nat_lit 0, (.ofNat (nat_lit 12)))]), (nat_lit 4, nat_lit 0, [(nat_lit 0, (.ofNat (nat_lit 0))), (nat_lit 0, (.ofNat (nat_lit 16)))])],
  [(nat_lit 11, nat_lit 0, [(nat_lit 0, (.ofNat (nat_lit 1)))]), (nat_lit 5, nat_lit 0, [(nat_lit 0, (.ofNat (nat_lit 0))), (nat_lit 0, (.ofNat (nat_lit 16))), (nat_lit 12, (.ofNat (nat_lit 0)))]), (nat_lit 0, nat_lit 1, [(nat_lit 11, (.ofNat (nat_lit 0))), (nat_lit 0, (.ofNat (nat_lit 1)))]), (nat_lit 4, nat_lit 0, [(nat_lit 0, (.ofNat (nat_lit 0))), (nat_lit 0, (.ofNat (nat_lit 16)))]), (nat_lit 5, nat_lit 0, [(nat_lit 6, (.ofNat (nat_lit 0))), (nat_lit 9, (.ofNat (nat_lit 0))), (nat_lit 10, (.ofNat (nat_lit 0)))]), (nat_lit 4, nat_lit 0, [(nat_lit 0, (.ofNat (nat_lit 0))), (nat_lit 0, (.ofNat (nat_lit 11)))]), (nat_lit 0, nat_lit 1, [(nat_lit 0, (.ofNat (nat_lit 12))), (nat_lit 8, (.ofNat (nat_lit 0)))]), (nat_lit 4, nat_lit 0, [(nat_lit 0, (.ofNat (nat_lit 0))), (nat_lit 0, (.ofNat (nat_lit 16)))]), (nat_lit 6, nat_lit 1, [(nat_lit 7, (.ofNat (nat_lit 0))), (nat_lit 0, (.ofNat (nat_lit 0)))]), (nat_lit 8, nat_lit 2, [(nat_lit 0, (.ofNat (nat_lit 0))), (nat_lit 0, (.ofNat (nat_lit 9)))]), (nat_lit 5, nat_lit 0, [(nat_lit 5, (.ofNat (nat_lit 0))), (nat_lit 5, (.ofNat (nat_lit 0))), (nat_lit 6, (.ofNat (nat_lit 0)))]), (nat_lit 4, nat_lit 0, [(nat_lit 0, (.ofNat (nat_lit 0))), (nat_lit 0, (.ofNat (nat_lit 11)))]), (nat_lit 0, nat_lit 1, [(nat_lit 0, (.ofNat (nat_lit 12))), (nat_lit 4, (.ofNat (nat_lit 0)))]), (nat_lit 4, nat_lit 0, [(nat_lit 0, (.ofNat (nat_lit 0))), (nat_lit 0, (.ofNat (nat_lit 16)))]), (nat_lit 6, nat_lit 1, [(nat_lit 3, (.ofNat (nat_lit 0))), (nat_lit 0, (.ofNat (nat_lit 0)))]), (nat_lit 8, nat_lit 2, [(nat_lit 0, (.ofNat (nat_lit 1))), (nat_lit 0, (.ofNat (nat_lit 9)))]), (nat_lit 8, nat_lit 1, []), (nat_lit 6, nat_lit 1, [(nat_lit 1, (.ofNat (nat_lit 0))), (nat_lit 0, (.ofNat (nat_lit 12)))]), (nat_lit 4, nat_lit 0, [(nat_lit 0, (.ofNat (nat_lit 0))), (nat_lit 0, (.ofNat (nat_lit 16)))])],
  [(nat_lit 11, nat_lit 0, [(nat_lit 0, (.ofNat (nat_lit 0)))]), (nat_lit 6, nat_lit 0, [(nat_lit 7, (.ofNat (nat_lit 0))), (nat_lit 0, (.ofNat (nat_lit 0)))]), (nat_lit 8, nat_lit 2, [(nat_lit 0, (.ofNat (nat_lit 0))), (nat_lit 0, (.ofNat (nat_lit 9)))]), (nat_lit 5, nat_lit 0, [(nat_lit 5, (.ofNat (nat_lit 0))), (nat_lit 5, (.ofNat (nat_lit 0))), (nat_lit 6, (.ofNat (nat_lit 0)))]), (nat_lit 4, nat_lit 0, [(nat_lit 0, (.ofNat (nat_lit 0))), (nat_lit 0, (.ofNat (nat_lit 11)))]), (nat_lit 0, nat_lit 1, [(nat_lit 0, (.ofNat (nat_lit 12))), (nat_lit 4, (.ofNat (nat_lit 0)))]), (nat_lit 4, nat_lit 0, [(nat_lit 0, (.ofNat (nat_lit 0))), (nat_lit 0, (.ofNat (nat_lit 16)))]), (nat_lit 6, nat_lit 1, [(nat_lit 3, (.ofNat (nat_lit 0))), (nat_lit 0, (.ofNat (nat_lit 0)))]), (nat_lit 8, nat_lit 2, [(nat_lit 0, (.ofNat (nat_lit 1))), (nat_lit 0, (.ofNat (nat_lit 9)))]), (nat_lit 8, nat_lit 1, []), (nat_lit 6, nat_lit 1, [(nat_lit 1, (.ofNat (nat_lit 0))), (nat_lit 0, (.ofNat (nat_lit 12)))]), (nat_lit 4, nat_lit 0, [(nat_lit 0, (.ofNat (nat_lit 0))), (nat_lit 0, (.ofNat (nat_lit 16)))])],
  [(nat_lit 11, nat_lit 0, [(nat_lit 0, (.ofNat (nat_lit 0)))]), (nat_lit 6, nat_lit 0, [(nat_lit 3, (.ofNat (nat_lit 0))), (nat_lit 0, (.ofNat (nat_lit 0)))]), (nat_lit 8, nat_lit 2, [(nat_lit 0, (.ofNat (nat_lit 1))), (nat_lit 0, (.ofNat (nat_lit 9)))]), (nat_lit 8, nat_lit 1, []), (nat_lit 6, nat_lit 1, [(nat_lit 1, (.ofNat (nat_lit 0))), (nat_lit 0, (.ofNat (nat_lit 12)))]), (nat_lit 4, nat_lit 0, [(nat_lit 0, (.ofNat (nat_lit 0))), (nat_lit 0, (.ofNat (nat_lit 16)))])],
  [(nat_lit 13, nat_lit 0, [(nat_lit 0, (.ofNat (nat_lit 2)))]), (nat_lit 6, nat_lit 0, [(nat_lit 1, (.ofNat (nat_lit 0))), (nat_lit 0, (.ofNat (nat_lit 12)))]), (nat_lit 4, nat_lit 0, [(nat_lit 0, (.ofNat (nat_lit 0))), (nat_lit 0, (.ofNat (nat_lit 16)))])],
  [(nat_lit 11, nat_lit 0, [(nat_lit 2, (.ofNat (nat_lit 0)))]), (nat_lit 8, nat_lit 0, [(nat_lit 0, (.ofNat (nat_lit 2)))]), (nat_lit 6, nat_lit 0, [(nat_lit 1, (.ofNat (nat_lit 0))), (nat_lit 0, (.ofNat (nat_lit 12)))]), (nat_lit 4, nat_lit 0, [(nat_lit 0, (.ofNat (nat_lit 0))), (nat_lit 0, (.ofNat (nat_lit 16)))])]]
def zFne_grooveLine : List (List zK) := []
set_option maxHeartbeats 8000000 in
theorem zne_grooveLine_o0 {ro : Nat → List Int32} (η : zE) (hp : sP wl_ne zTr zPne_grooveLine [] η) (hpp : pPne_grooveLine [] η) : ∀ x1 : Int, x1 = η 0 (Int.toNat 16) → zok 0 x1 → (¬ x1 = 12) → ((gC2 wl_ne [(nat_lit 0, zPne_wrong, zOne_wrong, zMne_wrong), (nat_lit 1, zPne_token, zOne_token, zMne_token), (nat_lit 2, zPne_number, zOne_number, zMne_number)] pCne_grooveLine qCne_grooveLine) 1).1 [] η := by
  have hk : ¬ η 0 8 = 0 := hpp.2
  intro x1 e1 r1 c1
  have w0_0_16 : (0 : Int) ≤ η 0 16 ∧ η 0 16 ≤ 12 := wf_ok (a := 16) (b := 16) (z := (0, 12)) hp.1 (by decide +kernel) (Nat.le_refl _) (Nat.le_refl _)
  replace e1 : x1 = η 0 16 := e1
  have w0_0_7 : (0 : Int) ≤ η 0 7 ∧ η 0 7 ≤ 700 := wf_ok (a := 7) (b := 7) (z := (0, 700)) hp.1 (by decide +kernel) (Nat.le_refl _) (Nat.le_refl _)
  have f0_7 : η 0 7 = η 0 7 := rfl
  have w0_0_6 : (0 : Int) ≤ η 0 6 ∧ η 0 6 ≤ 700 := wf_ok (a := 6) (b := 6) (z := (0, 700)) hp.1 (by decide +kernel) (Nat.le_refl _) (Nat.le_refl _)
  have f0_6 : η 0 6 = η 0 6 := rfl
  have w0_0_8 : (0 : Int) ≤ η 0 8 ∧ η 0 8 ≤ 6 := wf_ok (a := 8) (b := 8) (z := (0, 6)) hp.1 (by decide +kernel) (Nat.le_refl _) (Nat.le_refl _)
  have f0_8 : η 0 8 = η 0 8 := rfl
  exact hpp.1
set_option maxHeartbeats 8000000 in
theorem zne_grooveLine_o1 {ro : Nat → List Int32} (η : zE) (hp : sP wl_ne zTr zPne_grooveLine [] η) (hpp : pPne_grooveLine [] η) : ∀ x1 : Int, x1 = η 0 (Int.toNat 16) → zok 0 x1 → (¬ x1 = 12) → ∀ (x2 : Int) (η1 : zE), ((gC2 wl_ne [(nat_lit 0, zPne_wrong, zOne_wrong, zMne_wrong), (nat_lit 1, zPne_token, zOne_token, zMne_token), (nat_lit 2, zPne_number, zOne_number, zMne_number)] pCne_grooveLine qCne_grooveLine) 1).2 [] η x2 η1 → ((gC2 wl_ne [(nat_lit 0, zPne_wrong, zOne_wrong, zMne_wrong), (nat_lit 1, zPne_token, zOne_token, zMne_token), (nat_lit 2, zPne_number, zOne_number, zMne_number)] pCne_grooveLine qCne_grooveLine) 2).1 [1, 9] η1 := by
  have hk : ¬ η 0 8 = 0 := hpp.2
  intro x1 e1 r1 c1 x2 η1 h2
  have y2 : fQne_token [] η x2 η1 := h2.2.2
  have k2 : sQ wl_ne zTr zOne_token zMne_token [] η x2 η1 ∧ oQne_token [] η x2 η1 := ⟨h2.1, h2.2.1⟩
  have w0_0_16 : (0 : Int) ≤ η 0 16 ∧ η 0 16 ≤ 12 := wf_ok (a := 16) (b := 16) (z := (0, 12)) hp.1 (by decide +kernel) (Nat.le_refl _) (Nat.le_refl _)
  replace e1 : x1 = η 0 16 := e1
  have w0_0_7 : (0 : Int) ≤ η 0 7 ∧ η 0 7 ≤ 700 := wf_ok (a := 7) (b := 7) (z := (0, 700)) hp.1 (by decide +kernel) (Nat.le_refl _) (Nat.le_refl _)
  have c0_0_7 : η 0 7 = η 0 7 := rfl
  have w0_0_6 : (0 : Int) ≤ η 0 6 ∧ η 0 6 ≤ 700 := wf_ok (a := 6) (b := 6) (z := (0, 700)) hp.1 (by decide +kernel) (Nat.le_refl _) (Nat.le_refl _)
  have c0_0_6 : η 0 6 = η 0 6 := rfl
  have w0_0_8 : (0 : Int) ≤ η 0 8 ∧ η 0 8 ≤ 6 := wf_ok (a := 8) (b := 8) (z := (0, 6)) hp.1 (by decide +kernel) (Nat.le_refl _) (Nat.le_refl _)
  have c0_0_8 : η 0 8 = η 0 8 := rfl
  have bx2 : (0 : Int) ≤ x2 ∧ x2 ≤ 0 := k2.1.2.1
  have w1_0_7 : (0 : Int) ≤ η1 0 7 ∧ η1 0 7 ≤ 700 := wf_ok (a := 7) (b := 7) (z := (0, 700)) k2.1.1 (by decide +kernel) (Nat.le_refl _) (Nat.le_refl _)
  have d1_0_7 : η1 0 7 = η1 0 7 := rfl
  have v5 : zEq (η1 0 6) (η 0 6) := (k2.1.2.2.2.1 0 6 (by decide +kernel)).trans rfl
  have d1_0_6 : η1 0 6 = η 0 6 := v5
  have w1_0_8 : (0 : Int) ≤ η1 0 8 ∧ η1 0 8 ≤ 6 := wf_ok (a := 8) (b := 8) (z := (0, 6)) k2.1.1 (by decide +kernel) (Nat.le_refl _) (Nat.le_refl _)
  have d1_0_8 : η1 0 8 = η1 0 8 := rfl
  have f0_7 : η1 0 7 = η1 0 7 := rfl
  have f0_6 : η1 0 6 = η 0 6 := v5
  have f0_8 : η1 0 8 = η1 0 8 := rfl
  have qt2 : ¬ η 0 8 = 0 → 10 * (η1 0 6 - η1 0 7) + η1 0 8 < 10 * (η 0 6 - η 0 7) + η 0 8 := k2.2.2
  exact k2.2.1
set_option maxHeartbeats 8000000 in
theorem zne_grooveLine_o2 {ro : Nat → List Int32} (η : zE) (hp : sP wl_ne zTr zPne_grooveLine [] η) (hpp : pPne_grooveLine [] η) : ∀ x1 : Int, x1 = η 0 (Int.toNat 16) → zok 0 x1 → (¬ x1 = 12) → ∀ (x2 : Int) (η1 : zE), ((gC2 wl_ne [(nat_lit 0, zPne_wrong, zOne_wrong, zMne_wrong), (nat_lit 1, zPne_token, zOne_token, zMne_token), (nat_lit 2, zPne_number, zOne_number, zMne_number)] pCne_grooveLine qCne_grooveLine) 1).2 [] η x2 η1 → ∀ (x3 : Int) (η2 : zE), ((gC2 wl_ne [(nat_lit 0, zPne_wrong, zOne_wrong, zMne_wrong), (nat_lit 1, zPne_token, zOne_token, zMne_token), (nat_lit 2, zPne_number, zOne_number, zMne_number)] pCne_grooveLine qCne_grooveLine) 2).2 [1, 9] η1 x3 η2 → (¬ x3 = 0) → ∀ x4 : Int, x4 = η2 0 (Int.toNat 16) → zok 0 x4 → ∀ x5 : Int, x5 = zd 0 1 12 x4 → ∀ x6 : Int, x6 = η2 0 (Int.toNat 11) → zok 0 x6 → ∀ η3 : zE, η3 = zup η2 5 (Int.toNat x5) x6 → ((gC2 wl_ne [(nat_lit 0, zPne_wrong, zOne_wrong, zMne_wrong), (nat_lit 1, zPne_token, zOne_token, zMne_token), (nat_lit 2, zPne_number, zOne_number, zMne_number)] pCne_grooveLine qCne_grooveLine) 2).1 [0, 9] η3 := by
  have hk : ¬ η 0 8 = 0 := hpp.2
  intro x1 e1 r1 c1 x2 η1 h2 x3 η2 h3 c2 x4 e4 r4 x5 e5 x6 e6 r6 η3 eη3
  replace e5 := zEq_i e5
  have y2 : fQne_token [] η x2 η1 := h2.2.2
  have k2 : sQ wl_ne zTr zOne_token zMne_token [] η x2 η1 ∧ oQne_token [] η x2 η1 := ⟨h2.1, h2.2.1⟩
  have y3 : fQne_number [1, 9] η1 x3 η2 := h3.2.2
  have k3 : sQ wl_ne zTr zOne_number zMne_number [1, 9] η1 x3 η2 ∧ oQne_number [1, 9] η1 x3 η2 := ⟨h3.1, h3.2.1⟩
  have w0_0_16 : (0 : Int) ≤ η 0 16 ∧ η 0 16 ≤ 12 := wf_ok (a := 16) (b := 16) (z := (0, 12)) hp.1 (by decide +kernel) (Nat.le_refl _) (Nat.le_refl _)
  replace e1 : x1 = η 0 16 := e1
  have w0_0_7 : (0 : Int) ≤ η 0 7 ∧ η 0 7 ≤ 700 := wf_ok (a := 7) (b := 7) (z := (0, 700)) hp.1 (by decide +kernel) (Nat.le_refl _) (Nat.le_refl _)
  have c0_0_7 : η 0 7 = η 0 7 := rfl
  have w0_0_6 : (0 : Int) ≤ η 0 6 ∧ η 0 6 ≤ 700 := wf_ok (a := 6) (b := 6) (z := (0, 700)) hp.1 (by decide +kernel) (Nat.le_refl _) (Nat.le_refl _)
  have c0_0_6 : η 0 6 = η 0 6 := rfl
  have w0_0_8 : (0 : Int) ≤ η 0 8 ∧ η 0 8 ≤ 6 := wf_ok (a := 8) (b := 8) (z := (0, 6)) hp.1 (by decide +kernel) (Nat.le_refl _) (Nat.le_refl _)
  have c0_0_8 : η 0 8 = η 0 8 := rfl
  have bx2 : (0 : Int) ≤ x2 ∧ x2 ≤ 0 := k2.1.2.1
  have w1_0_7 : (0 : Int) ≤ η1 0 7 ∧ η1 0 7 ≤ 700 := wf_ok (a := 7) (b := 7) (z := (0, 700)) k2.1.1 (by decide +kernel) (Nat.le_refl _) (Nat.le_refl _)
  have d1_0_7 : η1 0 7 = η1 0 7 := rfl
  have v5 : zEq (η1 0 6) (η 0 6) := (k2.1.2.2.2.1 0 6 (by decide +kernel)).trans rfl
  have d1_0_6 : η1 0 6 = η 0 6 := v5
  have w1_0_8 : (0 : Int) ≤ η1 0 8 ∧ η1 0 8 ≤ 6 := wf_ok (a := 8) (b := 8) (z := (0, 6)) k2.1.1 (by decide +kernel) (Nat.le_refl _) (Nat.le_refl _)
  have d1_0_8 : η1 0 8 = η1 0 8 := rfl
  have c1_0_7 : η1 0 7 = η1 0 7 := rfl
  have c1_0_6 : η1 0 6 = η 0 6 := v5
  have c1_0_8 : η1 0 8 = η1 0 8 := rfl
  have bx3 : (0 : Int) ≤ x3 ∧ x3 ≤ 1 := k3.1.2.1
  have w2_0_7 : (0 : Int) ≤ η2 0 7 ∧ η2 0 7 ≤ 700 := wf_ok (a := 7) (b := 7) (z := (0, 700)) k3.1.1 (by decide +kernel) (Nat.le_refl _) (Nat.le_refl _)
  have d2_0_7 : η2 0 7 = η2 0 7 := rfl
  have v8 : zEq (η2 0 6) (η 0 6) := (k3.1.2.2.2.1 0 6 (by decide +kernel)).trans v5
  have d2_0_6 : η2 0 6 = η 0 6 := v8
  have w2_0_8 : (0 : Int) ≤ η2 0 8 ∧ η2 0 8 ≤ 6 := wf_ok (a := 8) (b := 8) (z := (0, 6)) k3.1.1 (by decide +kernel) (Nat.le_refl _) (Nat.le_refl _)
  have d2_0_8 : η2 0 8 = η2 0 8 := rfl
  have v10 : zEq (η1 0 16) (η 0 16) := (k2.1.2.2.2.1 0 16 (by decide +kernel)).trans rfl
  have v11 : zEq (η2 0 16) (η 0 16) := (k3.1.2.2.2.1 0 16 (by decide +kernel)).trans v10
  replace e4 : x4 = η 0 16 := e4.trans v11
  first
  | replace e5 : x5 = 12 + x4 := zd_a2 (zEq_o e5) (by clear e5; exact ⟨by omega, by omega⟩)
  | clear e5
  replace e6 : x6 = η2 0 11 := e6
  replace r6 : -2147483648 ≤ x6 ∧ x6 ≤ 2147483647 := r6
  have v13 : zEq (η3 0 7) (η2 0 7) := by rw [eη3]; exact (zup_ne (fun e _ => absurd e (by decide))).trans rfl
  have f0_7 : η3 0 7 = η2 0 7 := v13
  have v14 : zEq (η3 0 6) (η 0 6) := by rw [eη3]; exact (zup_ne (fun e _ => absurd e (by decide))).trans v8
  have f0_6 : η3 0 6 = η 0 6 := v14
  have v15 : zEq (η3 0 8) (η2 0 8) := by rw [eη3]; exact (zup_ne (fun e _ => absurd e (by decide))).trans rfl
  have f0_8 : η3 0 8 = η2 0 8 := v15
  have qt2 : ¬ η 0 8 = 0 → 10 * (η1 0 6 - η1 0 7) + η1 0 8 < 10 * (η 0 6 - η 0 7) + η 0 8 := k2.2.2
  have qn3 : ¬ x3 = 0 → 10 * (η2 0 6 - η2 0 7) + η2 0 8 < 10 * (η1 0 6 - η1 0 7) + η1 0 8 := k3.2.2
  have g3 : G_n η3 := by rw [eη3]; exact zGk_up gk_n k3.2.1 (by decide +kernel)
  exact g3
set_option maxHeartbeats 8000000 in
theorem zne_grooveLine_o3 {ro : Nat → List Int32} (η : zE) (hp : sP wl_ne zTr zPne_grooveLine [] η) (hpp : pPne_grooveLine [] η) : ∀ x1 : Int, x1 = η 0 (Int.toNat 16) → zok 0 x1 → (¬ x1 = 12) → ∀ (x2 : Int) (η1 : zE), ((gC2 wl_ne [(nat_lit 0, zPne_wrong, zOne_wrong, zMne_wrong), (nat_lit 1, zPne_token, zOne_token, zMne_token), (nat_lit 2, zPne_number, zOne_number, zMne_number)] pCne_grooveLine qCne_grooveLine) 1).2 [] η x2 η1 → ∀ (x3 : Int) (η2 : zE), ((gC2 wl_ne [(nat_lit 0, zPne_wrong, zOne_wrong, zMne_wrong), (nat_lit 1, zPne_token, zOne_token, zMne_token), (nat_lit 2, zPne_number, zOne_number, zMne_number)] pCne_grooveLine qCne_grooveLine) 2).2 [1, 9] η1 x3 η2 → (¬ x3 = 0) → ∀ x4 : Int, x4 = η2 0 (Int.toNat 16) → zok 0 x4 → ∀ x5 : Int, x5 = zd 0 1 12 x4 → ∀ x6 : Int, x6 = η2 0 (Int.toNat 11) → zok 0 x6 → ∀ η3 : zE, η3 = zup η2 5 (Int.toNat x5) x6 → ∀ (x7 : Int) (η4 : zE), ((gC2 wl_ne [(nat_lit 0, zPne_wrong, zOne_wrong, zMne_wrong), (nat_lit 1, zPne_token, zOne_token, zMne_token), (nat_lit 2, zPne_number, zOne_number, zMne_number)] pCne_grooveLine qCne_grooveLine) 2).2 [0, 9] η3 x7 η4 → (¬ x7 = 0) → ∀ x8 : Int, x8 = η4 0 (Int.toNat 16) → zok 0 x8 → ∀ x9 : Int, x9 = zd 0 1 12 x8 → ∀ x10 : Int, x10 = η4 0 (Int.toNat 11) → zok 0 x10 → ∀ η5 : zE, η5 = zup η4 6 (Int.toNat x9) x10 → ∀ x11 : Int, x11 = η5 0 (Int.toNat 16) → zok 0 x11 → ∀ x12 : Int, x12 = zd 0 1 x11 1 → ∀ η6 : zE, η6 = zup η5 0 (Int.toNat 16) x12 → (fun (_ : Nat) (y : Int) (η' : zE) => pQne_grooveLine [] η y η') 0 1 η6 := by
  intro x1 e1 r1 c1 x2 η1 h2 x3 η2 h3 c2 x4 e4 r4 x5 e5 x6 e6 r6 η3 eη3 x7 η4 h7 c3 x8 e8 r8 x9 e9 x10 e10 r10 η5 eη5 x11 e11 r11 x12 e12 η6 eη6
  have y2 : fQne_token [] η x2 η1 := h2.2.2
  have k2 : sQ wl_ne zTr zOne_token zMne_token [] η x2 η1 ∧ oQne_token [] η x2 η1 := ⟨h2.1, h2.2.1⟩
  have y3 : fQne_number [1, 9] η1 x3 η2 := h3.2.2
  have k3 : sQ wl_ne zTr zOne_number zMne_number [1, 9] η1 x3 η2 ∧ oQne_number [1, 9] η1 x3 η2 := ⟨h3.1, h3.2.1⟩
  have y7 : fQne_number [0, 9] η3 x7 η4 := h7.2.2
  have k7 : sQ wl_ne zTr zOne_number zMne_number [0, 9] η3 x7 η4 ∧ oQne_number [0, 9] η3 x7 η4 := ⟨h7.1, h7.2.1⟩
  refine yj_a ?_ ?_
  · have hk : ¬ η 0 8 = 0 := hpp.2
    replace e5 := zEq_i e5
    replace e9 := zEq_i e9
    replace e12 := zEq_i e12
    have y2 : fQne_token [] η x2 η1 := h2.2.2
    have k2 : sQ wl_ne zTr zOne_token zMne_token [] η x2 η1 ∧ oQne_token [] η x2 η1 := ⟨h2.1, h2.2.1⟩
    have y3 : fQne_number [1, 9] η1 x3 η2 := h3.2.2
    have k3 : sQ wl_ne zTr zOne_number zMne_number [1, 9] η1 x3 η2 ∧ oQne_number [1, 9] η1 x3 η2 := ⟨h3.1, h3.2.1⟩
    have y7 : fQne_number [0, 9] η3 x7 η4 := h7.2.2
    have k7 : sQ wl_ne zTr zOne_number zMne_number [0, 9] η3 x7 η4 ∧ oQne_number [0, 9] η3 x7 η4 := ⟨h7.1, h7.2.1⟩
    have w0_0_16 : (0 : Int) ≤ η 0 16 ∧ η 0 16 ≤ 12 := wf_ok (a := 16) (b := 16) (z := (0, 12)) hp.1 (by decide +kernel) (Nat.le_refl _) (Nat.le_refl _)
    replace e1 : x1 = η 0 16 := e1
    have w0_0_7 : (0 : Int) ≤ η 0 7 ∧ η 0 7 ≤ 700 := wf_ok (a := 7) (b := 7) (z := (0, 700)) hp.1 (by decide +kernel) (Nat.le_refl _) (Nat.le_refl _)
    have c0_0_7 : η 0 7 = η 0 7 := rfl
    have w0_0_6 : (0 : Int) ≤ η 0 6 ∧ η 0 6 ≤ 700 := wf_ok (a := 6) (b := 6) (z := (0, 700)) hp.1 (by decide +kernel) (Nat.le_refl _) (Nat.le_refl _)
    have c0_0_6 : η 0 6 = η 0 6 := rfl
    have w0_0_8 : (0 : Int) ≤ η 0 8 ∧ η 0 8 ≤ 6 := wf_ok (a := 8) (b := 8) (z := (0, 6)) hp.1 (by decide +kernel) (Nat.le_refl _) (Nat.le_refl _)
    have c0_0_8 : η 0 8 = η 0 8 := rfl
    have bx2 : (0 : Int) ≤ x2 ∧ x2 ≤ 0 := k2.1.2.1
    have w1_0_7 : (0 : Int) ≤ η1 0 7 ∧ η1 0 7 ≤ 700 := wf_ok (a := 7) (b := 7) (z := (0, 700)) k2.1.1 (by decide +kernel) (Nat.le_refl _) (Nat.le_refl _)
    have d1_0_7 : η1 0 7 = η1 0 7 := rfl
    have v5 : zEq (η1 0 6) (η 0 6) := (k2.1.2.2.2.1 0 6 (by decide +kernel)).trans rfl
    have d1_0_6 : η1 0 6 = η 0 6 := v5
    have w1_0_8 : (0 : Int) ≤ η1 0 8 ∧ η1 0 8 ≤ 6 := wf_ok (a := 8) (b := 8) (z := (0, 6)) k2.1.1 (by decide +kernel) (Nat.le_refl _) (Nat.le_refl _)
    have d1_0_8 : η1 0 8 = η1 0 8 := rfl
    have c1_0_7 : η1 0 7 = η1 0 7 := rfl
    have c1_0_6 : η1 0 6 = η 0 6 := v5
    have c1_0_8 : η1 0 8 = η1 0 8 := rfl
    have bx3 : (0 : Int) ≤ x3 ∧ x3 ≤ 1 := k3.1.2.1
    have w2_0_7 : (0 : Int) ≤ η2 0 7 ∧ η2 0 7 ≤ 700 := wf_ok (a := 7) (b := 7) (z := (0, 700)) k3.1.1 (by decide +kernel) (Nat.le_refl _) (Nat.le_refl _)
    have d2_0_7 : η2 0 7 = η2 0 7 := rfl
    have v8 : zEq (η2 0 6) (η 0 6) := (k3.1.2.2.2.1 0 6 (by decide +kernel)).trans v5
    have d2_0_6 : η2 0 6 = η 0 6 := v8
    have w2_0_8 : (0 : Int) ≤ η2 0 8 ∧ η2 0 8 ≤ 6 := wf_ok (a := 8) (b := 8) (z := (0, 6)) k3.1.1 (by decide +kernel) (Nat.le_refl _) (Nat.le_refl _)
    have d2_0_8 : η2 0 8 = η2 0 8 := rfl
    have v10 : zEq (η1 0 16) (η 0 16) := (k2.1.2.2.2.1 0 16 (by decide +kernel)).trans rfl
    have v11 : zEq (η2 0 16) (η 0 16) := (k3.1.2.2.2.1 0 16 (by decide +kernel)).trans v10
    replace e4 : x4 = η 0 16 := e4.trans v11
    first
    | replace e5 : x5 = 12 + x4 := zd_a2 (zEq_o e5) (by clear e5; exact ⟨by omega, by omega⟩)
    | clear e5
    replace e6 : x6 = η2 0 11 := e6
    replace r6 : -2147483648 ≤ x6 ∧ x6 ≤ 2147483647 := r6
    have v13 : zEq (η3 0 7) (η2 0 7) := by rw [eη3]; exact (zup_ne (fun e _ => absurd e (by decide))).trans rfl
    have c3_0_7 : η3 0 7 = η2 0 7 := v13
    have v14 : zEq (η3 0 6) (η 0 6) := by rw [eη3]; exact (zup_ne (fun e _ => absurd e (by decide))).trans v8
    have c3_0_6 : η3 0 6 = η 0 6 := v14
    have v15 : zEq (η3 0 8) (η2 0 8) := by rw [eη3]; exact (zup_ne (fun e _ => absurd e (by decide))).trans rfl
    have c3_0_8 : η3 0 8 = η2 0 8 := v15
    have bx7 : (0 : Int) ≤ x7 ∧ x7 ≤ 1 := k7.1.2.1
    have w4_0_7 : (0 : Int) ≤ η4 0 7 ∧ η4 0 7 ≤ 700 := wf_ok (a := 7) (b := 7) (z := (0, 700)) k7.1.1 (by decide +kernel) (Nat.le_refl _) (Nat.le_refl _)
    have d4_0_7 : η4 0 7 = η4 0 7 := rfl
    have v17 : zEq (η4 0 6) (η 0 6) := (k7.1.2.2.2.1 0 6 (by decide +kernel)).trans v14
    have d4_0_6 : η4 0 6 = η 0 6 := v17
    have w4_0_8 : (0 : Int) ≤ η4 0 8 ∧ η4 0 8 ≤ 6 := wf_ok (a := 8) (b := 8) (z := (0, 6)) k7.1.1 (by decide +kernel) (Nat.le_refl _) (Nat.le_refl _)
    have d4_0_8 : η4 0 8 = η4 0 8 := rfl
    have v19 : zEq (η3 0 16) (η 0 16) := by rw [eη3]; exact (zup_ne (fun e _ => absurd e (by decide))).trans v11
    have v20 : zEq (η4 0 16) (η 0 16) := (k7.1.2.2.2.1 0 16 (by decide +kernel)).trans v19
    replace e8 : x8 = η 0 16 := e8.trans v20
    first
    | replace e9 : x9 = 12 + x8 := zd_a2 (zEq_o e9) (by clear e9; exact ⟨by omega, by omega⟩)
    | clear e9
    replace e10 : x10 = η4 0 11 := e10
    replace r10 : -2147483648 ≤ x10 ∧ x10 ≤ 2147483647 := r10
    have v22 : zEq (η5 0 16) (η 0 16) := by rw [eη5]; exact (zup_ne (fun e _ => absurd e (by decide))).trans v20
    replace e11 : x11 = η 0 16 := e11.trans v22
    first
    | replace e12 : x12 = x11 + 1 := zd_a2 (zEq_o e12) (by clear e12; exact ⟨by omega, by omega⟩)
    | clear e12
    have v23 : zEq (η5 0 7) (η4 0 7) := by rw [eη5]; exact (zup_ne (fun e _ => absurd e (by decide))).trans rfl
    have v24 : zEq (η6 0 7) (η4 0 7) := by rw [eη6]; exact (zup_ne (fun _ e => absurd e (by decide))).trans v23
    have f0_7 : η6 0 7 = η4 0 7 := v24
    have v25 : zEq (η5 0 6) (η 0 6) := by rw [eη5]; exact (zup_ne (fun e _ => absurd e (by decide))).trans v17
    have v26 : zEq (η6 0 6) (η 0 6) := by rw [eη6]; exact (zup_ne (fun _ e => absurd e (by decide))).trans v25
    have f0_6 : η6 0 6 = η 0 6 := v26
    have v27 : zEq (η5 0 8) (η4 0 8) := by rw [eη5]; exact (zup_ne (fun e _ => absurd e (by decide))).trans rfl
    have v28 : zEq (η6 0 8) (η4 0 8) := by rw [eη6]; exact (zup_ne (fun _ e => absurd e (by decide))).trans v27
    have f0_8 : η6 0 8 = η4 0 8 := v28
    have qt2 : ¬ η 0 8 = 0 → 10 * (η1 0 6 - η1 0 7) + η1 0 8 < 10 * (η 0 6 - η 0 7) + η 0 8 := k2.2.2
    have qn3 : ¬ x3 = 0 → 10 * (η2 0 6 - η2 0 7) + η2 0 8 < 10 * (η1 0 6 - η1 0 7) + η1 0 8 := k3.2.2
    have g3 : G_n η3 := by rw [eη3]; exact zGk_up gk_n k3.2.1 (by decide +kernel)
    have qn7 : ¬ x7 = 0 → 10 * (η4 0 6 - η4 0 7) + η4 0 8 < 10 * (η3 0 6 - η3 0 7) + η3 0 8 := k7.2.2
    have g5 : G_n η5 := by rw [eη5]; exact zGk_up gk_n k7.2.1 (by decide +kernel)
    have g6 : G_n η6 := by rw [eη6]; exact zGk_upc gk_n g5 (by decide +kernel)
    exact ⟨g6, fun _ => show 10 * (η6 0 6 - η6 0 7) + η6 0 8 < 10 * (η 0 6 - η 0 7) + η 0 8 by omega⟩
  · have e1 : x1 = η 0 16 := e1
    have b2 : η1 = (yq_tok η) := y2
    obtain ⟨a3, b3⟩ : x3 = (yq_ny 1 9 η1) ∧ η2 = (yq_ns 1 9 η1) := y3
    have e4 : x4 = η2 0 16 := e4
    have e5 : x5 = zd 0 1 12 x4 := e5
    have e6 : x6 = η2 0 11 := e6
    have eη3 : η3 = zup η2 5 (Int.toNat x5) x6 := eη3
    obtain ⟨a7, b7⟩ : x7 = (yq_ny 0 9 η3) ∧ η4 = (yq_ns 0 9 η3) := y7
    have e8 : x8 = η4 0 16 := e8
    have e9 : x9 = zd 0 1 12 x8 := e9
    have e10 : x10 = η4 0 11 := e10
    have eη5 : η5 = zup η4 6 (Int.toNat x9) x10 := eη5
    have e11 : x11 = η5 0 16 := e11
    have e12 : x12 = zd 0 1 x11 1 := e12
    have eη6 : η6 = zup η5 0 16 x12 := eη6
    show 1 = (yq_grl η).1 ∧ η6 = (yq_grl η).2
    simp only [yq_grl, yq_nt, yq_no, yq_inc, ← e1, ← b2, ← a3, ← b3, ← e4, ← e5, ← e6, ← eη3, ← a7, ← b7, ← e8, ← e9, ← e10, ← eη5, ← e11, ← e12, ← eη6]
    all_goals clear e5 e9 e12
    all_goals ((repeat' split) <;> first | (exfalso; omega) | exact ⟨rfl, rfl⟩ | rfl)
set_option maxHeartbeats 8000000 in
theorem zne_grooveLine_o4 {ro : Nat → List Int32} (η : zE) (hp : sP wl_ne zTr zPne_grooveLine [] η) (hpp : pPne_grooveLine [] η) : ∀ x1 : Int, x1 = η 0 (Int.toNat 16) → zok 0 x1 → (¬ x1 = 12) → ∀ (x2 : Int) (η1 : zE), ((gC2 wl_ne [(nat_lit 0, zPne_wrong, zOne_wrong, zMne_wrong), (nat_lit 1, zPne_token, zOne_token, zMne_token), (nat_lit 2, zPne_number, zOne_number, zMne_number)] pCne_grooveLine qCne_grooveLine) 1).2 [] η x2 η1 → ∀ (x3 : Int) (η2 : zE), ((gC2 wl_ne [(nat_lit 0, zPne_wrong, zOne_wrong, zMne_wrong), (nat_lit 1, zPne_token, zOne_token, zMne_token), (nat_lit 2, zPne_number, zOne_number, zMne_number)] pCne_grooveLine qCne_grooveLine) 2).2 [1, 9] η1 x3 η2 → (¬ x3 = 0) → ∀ x4 : Int, x4 = η2 0 (Int.toNat 16) → zok 0 x4 → ∀ x5 : Int, x5 = zd 0 1 12 x4 → ∀ x6 : Int, x6 = η2 0 (Int.toNat 11) → zok 0 x6 → ∀ η3 : zE, η3 = zup η2 5 (Int.toNat x5) x6 → ∀ (x7 : Int) (η4 : zE), ((gC2 wl_ne [(nat_lit 0, zPne_wrong, zOne_wrong, zMne_wrong), (nat_lit 1, zPne_token, zOne_token, zMne_token), (nat_lit 2, zPne_number, zOne_number, zMne_number)] pCne_grooveLine qCne_grooveLine) 2).2 [0, 9] η3 x7 η4 → (x7 = 0) → (fun (_ : Nat) (y : Int) (η' : zE) => pQne_grooveLine [] η y η') 0 0 η4 := by
  intro x1 e1 r1 c1 x2 η1 h2 x3 η2 h3 c2 x4 e4 r4 x5 e5 x6 e6 r6 η3 eη3 x7 η4 h7 c3
  have y2 : fQne_token [] η x2 η1 := h2.2.2
  have k2 : sQ wl_ne zTr zOne_token zMne_token [] η x2 η1 ∧ oQne_token [] η x2 η1 := ⟨h2.1, h2.2.1⟩
  have y3 : fQne_number [1, 9] η1 x3 η2 := h3.2.2
  have k3 : sQ wl_ne zTr zOne_number zMne_number [1, 9] η1 x3 η2 ∧ oQne_number [1, 9] η1 x3 η2 := ⟨h3.1, h3.2.1⟩
  have y7 : fQne_number [0, 9] η3 x7 η4 := h7.2.2
  have k7 : sQ wl_ne zTr zOne_number zMne_number [0, 9] η3 x7 η4 ∧ oQne_number [0, 9] η3 x7 η4 := ⟨h7.1, h7.2.1⟩
  refine yj_a ?_ ?_
  · have hk : ¬ η 0 8 = 0 := hpp.2
    replace e5 := zEq_i e5
    have y2 : fQne_token [] η x2 η1 := h2.2.2
    have k2 : sQ wl_ne zTr zOne_token zMne_token [] η x2 η1 ∧ oQne_token [] η x2 η1 := ⟨h2.1, h2.2.1⟩
    have y3 : fQne_number [1, 9] η1 x3 η2 := h3.2.2
    have k3 : sQ wl_ne zTr zOne_number zMne_number [1, 9] η1 x3 η2 ∧ oQne_number [1, 9] η1 x3 η2 := ⟨h3.1, h3.2.1⟩
    have y7 : fQne_number [0, 9] η3 x7 η4 := h7.2.2
    have k7 : sQ wl_ne zTr zOne_number zMne_number [0, 9] η3 x7 η4 ∧ oQne_number [0, 9] η3 x7 η4 := ⟨h7.1, h7.2.1⟩
    have w0_0_16 : (0 : Int) ≤ η 0 16 ∧ η 0 16 ≤ 12 := wf_ok (a := 16) (b := 16) (z := (0, 12)) hp.1 (by decide +kernel) (Nat.le_refl _) (Nat.le_refl _)
    replace e1 : x1 = η 0 16 := e1
    have w0_0_7 : (0 : Int) ≤ η 0 7 ∧ η 0 7 ≤ 700 := wf_ok (a := 7) (b := 7) (z := (0, 700)) hp.1 (by decide +kernel) (Nat.le_refl _) (Nat.le_refl _)
    have c0_0_7 : η 0 7 = η 0 7 := rfl
    have w0_0_6 : (0 : Int) ≤ η 0 6 ∧ η 0 6 ≤ 700 := wf_ok (a := 6) (b := 6) (z := (0, 700)) hp.1 (by decide +kernel) (Nat.le_refl _) (Nat.le_refl _)
    have c0_0_6 : η 0 6 = η 0 6 := rfl
    have w0_0_8 : (0 : Int) ≤ η 0 8 ∧ η 0 8 ≤ 6 := wf_ok (a := 8) (b := 8) (z := (0, 6)) hp.1 (by decide +kernel) (Nat.le_refl _) (Nat.le_refl _)
    have c0_0_8 : η 0 8 = η 0 8 := rfl
    have bx2 : (0 : Int) ≤ x2 ∧ x2 ≤ 0 := k2.1.2.1
    have w1_0_7 : (0 : Int) ≤ η1 0 7 ∧ η1 0 7 ≤ 700 := wf_ok (a := 7) (b := 7) (z := (0, 700)) k2.1.1 (by decide +kernel) (Nat.le_refl _) (Nat.le_refl _)
    have d1_0_7 : η1 0 7 = η1 0 7 := rfl
    have v5 : zEq (η1 0 6) (η 0 6) := (k2.1.2.2.2.1 0 6 (by decide +kernel)).trans rfl
    have d1_0_6 : η1 0 6 = η 0 6 := v5
    have w1_0_8 : (0 : Int) ≤ η1 0 8 ∧ η1 0 8 ≤ 6 := wf_ok (a := 8) (b := 8) (z := (0, 6)) k2.1.1 (by decide +kernel) (Nat.le_refl _) (Nat.le_refl _)
    have d1_0_8 : η1 0 8 = η1 0 8 := rfl
    have c1_0_7 : η1 0 7 = η1 0 7 := rfl
    have c1_0_6 : η1 0 6 = η 0 6 := v5
    have c1_0_8 : η1 0 8 = η1 0 8 := rfl
    have bx3 : (0 : Int) ≤ x3 ∧ x3 ≤ 1 := k3.1.2.1
    have w2_0_7 : (0 : Int) ≤ η2 0 7 ∧ η2 0 7 ≤ 700 := wf_ok (a := 7) (b := 7) (z := (0, 700)) k3.1.1 (by decide +kernel) (Nat.le_refl _) (Nat.le_refl _)
    have d2_0_7 : η2 0 7 = η2 0 7 := rfl
    have v8 : zEq (η2 0 6) (η 0 6) := (k3.1.2.2.2.1 0 6 (by decide +kernel)).trans v5
    have d2_0_6 : η2 0 6 = η 0 6 := v8
    have w2_0_8 : (0 : Int) ≤ η2 0 8 ∧ η2 0 8 ≤ 6 := wf_ok (a := 8) (b := 8) (z := (0, 6)) k3.1.1 (by decide +kernel) (Nat.le_refl _) (Nat.le_refl _)
    have d2_0_8 : η2 0 8 = η2 0 8 := rfl
    have v10 : zEq (η1 0 16) (η 0 16) := (k2.1.2.2.2.1 0 16 (by decide +kernel)).trans rfl
    have v11 : zEq (η2 0 16) (η 0 16) := (k3.1.2.2.2.1 0 16 (by decide +kernel)).trans v10
    replace e4 : x4 = η 0 16 := e4.trans v11
    first
    | replace e5 : x5 = 12 + x4 := zd_a2 (zEq_o e5) (by clear e5; exact ⟨by omega, by omega⟩)
    | clear e5
    replace e6 : x6 = η2 0 11 := e6
    replace r6 : -2147483648 ≤ x6 ∧ x6 ≤ 2147483647 := r6
    have v13 : zEq (η3 0 7) (η2 0 7) := by rw [eη3]; exact (zup_ne (fun e _ => absurd e (by decide))).trans rfl
    have c3_0_7 : η3 0 7 = η2 0 7 := v13
    have v14 : zEq (η3 0 6) (η 0 6) := by rw [eη3]; exact (zup_ne (fun e _ => absurd e (by decide))).trans v8
    have c3_0_6 : η3 0 6 = η 0 6 := v14
    have v15 : zEq (η3 0 8) (η2 0 8) := by rw [eη3]; exact (zup_ne (fun e _ => absurd e (by decide))).trans rfl
    have c3_0_8 : η3 0 8 = η2 0 8 := v15
    have bx7 : (0 : Int) ≤ x7 ∧ x7 ≤ 1 := k7.1.2.1
    have w4_0_7 : (0 : Int) ≤ η4 0 7 ∧ η4 0 7 ≤ 700 := wf_ok (a := 7) (b := 7) (z := (0, 700)) k7.1.1 (by decide +kernel) (Nat.le_refl _) (Nat.le_refl _)
    have d4_0_7 : η4 0 7 = η4 0 7 := rfl
    have v17 : zEq (η4 0 6) (η 0 6) := (k7.1.2.2.2.1 0 6 (by decide +kernel)).trans v14
    have d4_0_6 : η4 0 6 = η 0 6 := v17
    have w4_0_8 : (0 : Int) ≤ η4 0 8 ∧ η4 0 8 ≤ 6 := wf_ok (a := 8) (b := 8) (z := (0, 6)) k7.1.1 (by decide +kernel) (Nat.le_refl _) (Nat.le_refl _)
    have d4_0_8 : η4 0 8 = η4 0 8 := rfl
    have f0_7 : η4 0 7 = η4 0 7 := rfl
    have f0_6 : η4 0 6 = η 0 6 := v17
    have f0_8 : η4 0 8 = η4 0 8 := rfl
    have qt2 : ¬ η 0 8 = 0 → 10 * (η1 0 6 - η1 0 7) + η1 0 8 < 10 * (η 0 6 - η 0 7) + η 0 8 := k2.2.2
    have qn3 : ¬ x3 = 0 → 10 * (η2 0 6 - η2 0 7) + η2 0 8 < 10 * (η1 0 6 - η1 0 7) + η1 0 8 := k3.2.2
    have g3 : G_n η3 := by rw [eη3]; exact zGk_up gk_n k3.2.1 (by decide +kernel)
    have qn7 : ¬ x7 = 0 → 10 * (η4 0 6 - η4 0 7) + η4 0 8 < 10 * (η3 0 6 - η3 0 7) + η3 0 8 := k7.2.2
    exact ⟨k7.2.1, fun w => absurd (show (0 : Int) = 0 by apply Int.le_antisymm <;> omega) w⟩
  · have e1 : x1 = η 0 16 := e1
    have b2 : η1 = (yq_tok η) := y2
    obtain ⟨a3, b3⟩ : x3 = (yq_ny 1 9 η1) ∧ η2 = (yq_ns 1 9 η1) := y3
    have e4 : x4 = η2 0 16 := e4
    have e5 : x5 = zd 0 1 12 x4 := e5
    have e6 : x6 = η2 0 11 := e6
    have eη3 : η3 = zup η2 5 (Int.toNat x5) x6 := eη3
    obtain ⟨a7, b7⟩ : x7 = (yq_ny 0 9 η3) ∧ η4 = (yq_ns 0 9 η3) := y7
    show 0 = (yq_grl η).1 ∧ η4 = (yq_grl η).2
    simp only [yq_grl, yq_nt, yq_no, yq_inc, ← e1, ← b2, ← a3, ← b3, ← e4, ← e5, ← e6, ← eη3, ← a7, ← b7]
    all_goals clear e5
    all_goals ((repeat' split) <;> first | (exfalso; omega) | exact ⟨rfl, rfl⟩ | rfl)
set_option maxHeartbeats 8000000 in
theorem zne_grooveLine_o5 {ro : Nat → List Int32} (η : zE) (hp : sP wl_ne zTr zPne_grooveLine [] η) (hpp : pPne_grooveLine [] η) : ∀ x1 : Int, x1 = η 0 (Int.toNat 16) → zok 0 x1 → (¬ x1 = 12) → ∀ (x2 : Int) (η1 : zE), ((gC2 wl_ne [(nat_lit 0, zPne_wrong, zOne_wrong, zMne_wrong), (nat_lit 1, zPne_token, zOne_token, zMne_token), (nat_lit 2, zPne_number, zOne_number, zMne_number)] pCne_grooveLine qCne_grooveLine) 1).2 [] η x2 η1 → ∀ (x3 : Int) (η2 : zE), ((gC2 wl_ne [(nat_lit 0, zPne_wrong, zOne_wrong, zMne_wrong), (nat_lit 1, zPne_token, zOne_token, zMne_token), (nat_lit 2, zPne_number, zOne_number, zMne_number)] pCne_grooveLine qCne_grooveLine) 2).2 [1, 9] η1 x3 η2 → (x3 = 0) → (fun (_ : Nat) (y : Int) (η' : zE) => pQne_grooveLine [] η y η') 0 0 η2 := by
  intro x1 e1 r1 c1 x2 η1 h2 x3 η2 h3 c2
  have y2 : fQne_token [] η x2 η1 := h2.2.2
  have k2 : sQ wl_ne zTr zOne_token zMne_token [] η x2 η1 ∧ oQne_token [] η x2 η1 := ⟨h2.1, h2.2.1⟩
  have y3 : fQne_number [1, 9] η1 x3 η2 := h3.2.2
  have k3 : sQ wl_ne zTr zOne_number zMne_number [1, 9] η1 x3 η2 ∧ oQne_number [1, 9] η1 x3 η2 := ⟨h3.1, h3.2.1⟩
  refine yj_a ?_ ?_
  · have hk : ¬ η 0 8 = 0 := hpp.2
    have y2 : fQne_token [] η x2 η1 := h2.2.2
    have k2 : sQ wl_ne zTr zOne_token zMne_token [] η x2 η1 ∧ oQne_token [] η x2 η1 := ⟨h2.1, h2.2.1⟩
    have y3 : fQne_number [1, 9] η1 x3 η2 := h3.2.2
    have k3 : sQ wl_ne zTr zOne_number zMne_number [1, 9] η1 x3 η2 ∧ oQne_number [1, 9] η1 x3 η2 := ⟨h3.1, h3.2.1⟩
    have w0_0_16 : (0 : Int) ≤ η 0 16 ∧ η 0 16 ≤ 12 := wf_ok (a := 16) (b := 16) (z := (0, 12)) hp.1 (by decide +kernel) (Nat.le_refl _) (Nat.le_refl _)
    replace e1 : x1 = η 0 16 := e1
    have w0_0_7 : (0 : Int) ≤ η 0 7 ∧ η 0 7 ≤ 700 := wf_ok (a := 7) (b := 7) (z := (0, 700)) hp.1 (by decide +kernel) (Nat.le_refl _) (Nat.le_refl _)
    have c0_0_7 : η 0 7 = η 0 7 := rfl
    have w0_0_6 : (0 : Int) ≤ η 0 6 ∧ η 0 6 ≤ 700 := wf_ok (a := 6) (b := 6) (z := (0, 700)) hp.1 (by decide +kernel) (Nat.le_refl _) (Nat.le_refl _)
    have c0_0_6 : η 0 6 = η 0 6 := rfl
    have w0_0_8 : (0 : Int) ≤ η 0 8 ∧ η 0 8 ≤ 6 := wf_ok (a := 8) (b := 8) (z := (0, 6)) hp.1 (by decide +kernel) (Nat.le_refl _) (Nat.le_refl _)
    have c0_0_8 : η 0 8 = η 0 8 := rfl
    have bx2 : (0 : Int) ≤ x2 ∧ x2 ≤ 0 := k2.1.2.1
    have w1_0_7 : (0 : Int) ≤ η1 0 7 ∧ η1 0 7 ≤ 700 := wf_ok (a := 7) (b := 7) (z := (0, 700)) k2.1.1 (by decide +kernel) (Nat.le_refl _) (Nat.le_refl _)
    have d1_0_7 : η1 0 7 = η1 0 7 := rfl
    have v5 : zEq (η1 0 6) (η 0 6) := (k2.1.2.2.2.1 0 6 (by decide +kernel)).trans rfl
    have d1_0_6 : η1 0 6 = η 0 6 := v5
    have w1_0_8 : (0 : Int) ≤ η1 0 8 ∧ η1 0 8 ≤ 6 := wf_ok (a := 8) (b := 8) (z := (0, 6)) k2.1.1 (by decide +kernel) (Nat.le_refl _) (Nat.le_refl _)
    have d1_0_8 : η1 0 8 = η1 0 8 := rfl
    have c1_0_7 : η1 0 7 = η1 0 7 := rfl
    have c1_0_6 : η1 0 6 = η 0 6 := v5
    have c1_0_8 : η1 0 8 = η1 0 8 := rfl
    have bx3 : (0 : Int) ≤ x3 ∧ x3 ≤ 1 := k3.1.2.1
    have w2_0_7 : (0 : Int) ≤ η2 0 7 ∧ η2 0 7 ≤ 700 := wf_ok (a := 7) (b := 7) (z := (0, 700)) k3.1.1 (by decide +kernel) (Nat.le_refl _) (Nat.le_refl _)
    have d2_0_7 : η2 0 7 = η2 0 7 := rfl
    have v8 : zEq (η2 0 6) (η 0 6) := (k3.1.2.2.2.1 0 6 (by decide +kernel)).trans v5
    have d2_0_6 : η2 0 6 = η 0 6 := v8
    have w2_0_8 : (0 : Int) ≤ η2 0 8 ∧ η2 0 8 ≤ 6 := wf_ok (a := 8) (b := 8) (z := (0, 6)) k3.1.1 (by decide +kernel) (Nat.le_refl _) (Nat.le_refl _)
    have d2_0_8 : η2 0 8 = η2 0 8 := rfl
    have f0_7 : η2 0 7 = η2 0 7 := rfl
    have f0_6 : η2 0 6 = η 0 6 := v8
    have f0_8 : η2 0 8 = η2 0 8 := rfl
    have qt2 : ¬ η 0 8 = 0 → 10 * (η1 0 6 - η1 0 7) + η1 0 8 < 10 * (η 0 6 - η 0 7) + η 0 8 := k2.2.2
    have qn3 : ¬ x3 = 0 → 10 * (η2 0 6 - η2 0 7) + η2 0 8 < 10 * (η1 0 6 - η1 0 7) + η1 0 8 := k3.2.2
    exact ⟨k3.2.1, fun w => absurd (show (0 : Int) = 0 by apply Int.le_antisymm <;> omega) w⟩
  · have e1 : x1 = η 0 16 := e1
    have b2 : η1 = (yq_tok η) := y2
    obtain ⟨a3, b3⟩ : x3 = (yq_ny 1 9 η1) ∧ η2 = (yq_ns 1 9 η1) := y3
    show 0 = (yq_grl η).1 ∧ η2 = (yq_grl η).2
    simp only [yq_grl, yq_nt, yq_no, yq_inc, ← e1, ← b2, ← a3, ← b3]
    all_goals ((repeat' split) <;> first | (exfalso; omega) | exact ⟨rfl, rfl⟩ | rfl)
set_option maxHeartbeats 8000000 in
theorem zne_grooveLine_o6 {ro : Nat → List Int32} (η : zE) (hp : sP wl_ne zTr zPne_grooveLine [] η) (hpp : pPne_grooveLine [] η) : ∀ x1 : Int, x1 = η 0 (Int.toNat 16) → zok 0 x1 → (x1 = 12) → ((gC2 wl_ne [(nat_lit 0, zPne_wrong, zOne_wrong, zMne_wrong), (nat_lit 1, zPne_token, zOne_token, zMne_token), (nat_lit 2, zPne_number, zOne_number, zMne_number)] pCne_grooveLine qCne_grooveLine) 0).1 [2] η := by
  have hk : ¬ η 0 8 = 0 := hpp.2
  intro x1 e1 r1 c1
  have w0_0_16 : (0 : Int) ≤ η 0 16 ∧ η 0 16 ≤ 12 := wf_ok (a := 16) (b := 16) (z := (0, 12)) hp.1 (by decide +kernel) (Nat.le_refl _) (Nat.le_refl _)
  replace e1 : x1 = η 0 16 := e1
  have w0_0_7 : (0 : Int) ≤ η 0 7 ∧ η 0 7 ≤ 700 := wf_ok (a := 7) (b := 7) (z := (0, 700)) hp.1 (by decide +kernel) (Nat.le_refl _) (Nat.le_refl _)
  have f0_7 : η 0 7 = η 0 7 := rfl
  have w0_0_6 : (0 : Int) ≤ η 0 6 ∧ η 0 6 ≤ 700 := wf_ok (a := 6) (b := 6) (z := (0, 700)) hp.1 (by decide +kernel) (Nat.le_refl _) (Nat.le_refl _)
  have f0_6 : η 0 6 = η 0 6 := rfl
  have w0_0_8 : (0 : Int) ≤ η 0 8 ∧ η 0 8 ≤ 6 := wf_ok (a := 8) (b := 8) (z := (0, 6)) hp.1 (by decide +kernel) (Nat.le_refl _) (Nat.le_refl _)
  have f0_8 : η 0 8 = η 0 8 := rfl
  exact hpp.1
set_option maxHeartbeats 8000000 in
theorem zne_grooveLine_o7 {ro : Nat → List Int32} (η : zE) (hp : sP wl_ne zTr zPne_grooveLine [] η) (hpp : pPne_grooveLine [] η) : ∀ x1 : Int, x1 = η 0 (Int.toNat 16) → zok 0 x1 → (x1 = 12) → ∀ (x2 : Int) (η1 : zE), ((gC2 wl_ne [(nat_lit 0, zPne_wrong, zOne_wrong, zMne_wrong), (nat_lit 1, zPne_token, zOne_token, zMne_token), (nat_lit 2, zPne_number, zOne_number, zMne_number)] pCne_grooveLine qCne_grooveLine) 0).2 [2] η x2 η1 → (fun (_ : Nat) (y : Int) (η' : zE) => pQne_grooveLine [] η y η') 0 x2 η1 := by
  intro x1 e1 r1 c1 x2 η1 h2
  have y2 : fQne_wrong [2] η x2 η1 := h2.2.2
  have k2 : sQ wl_ne zTr zOne_wrong zMne_wrong [2] η x2 η1 ∧ oQne_wrong [2] η x2 η1 := ⟨h2.1, h2.2.1⟩
  refine yj_a ?_ ?_
  · have hk : ¬ η 0 8 = 0 := hpp.2
    have y2 : fQne_wrong [2] η x2 η1 := h2.2.2
    have k2 : sQ wl_ne zTr zOne_wrong zMne_wrong [2] η x2 η1 ∧ oQne_wrong [2] η x2 η1 := ⟨h2.1, h2.2.1⟩
    have w0_0_16 : (0 : Int) ≤ η 0 16 ∧ η 0 16 ≤ 12 := wf_ok (a := 16) (b := 16) (z := (0, 12)) hp.1 (by decide +kernel) (Nat.le_refl _) (Nat.le_refl _)
    replace e1 : x1 = η 0 16 := e1
    have w0_0_7 : (0 : Int) ≤ η 0 7 ∧ η 0 7 ≤ 700 := wf_ok (a := 7) (b := 7) (z := (0, 700)) hp.1 (by decide +kernel) (Nat.le_refl _) (Nat.le_refl _)
    have c0_0_7 : η 0 7 = η 0 7 := rfl
    have w0_0_6 : (0 : Int) ≤ η 0 6 ∧ η 0 6 ≤ 700 := wf_ok (a := 6) (b := 6) (z := (0, 700)) hp.1 (by decide +kernel) (Nat.le_refl _) (Nat.le_refl _)
    have c0_0_6 : η 0 6 = η 0 6 := rfl
    have w0_0_8 : (0 : Int) ≤ η 0 8 ∧ η 0 8 ≤ 6 := wf_ok (a := 8) (b := 8) (z := (0, 6)) hp.1 (by decide +kernel) (Nat.le_refl _) (Nat.le_refl _)
    have c0_0_8 : η 0 8 = η 0 8 := rfl
    have bx2 : (0 : Int) ≤ x2 ∧ x2 ≤ 0 := k2.1.2.1
    have v4 : zEq (η1 0 7) (η 0 7) := (k2.1.2.2.2.1 0 7 (by decide +kernel)).trans rfl
    have d1_0_7 : η1 0 7 = η 0 7 := v4
    have v5 : zEq (η1 0 6) (η 0 6) := (k2.1.2.2.2.1 0 6 (by decide +kernel)).trans rfl
    have d1_0_6 : η1 0 6 = η 0 6 := v5
    have v6 : zEq (η1 0 8) (η 0 8) := (k2.1.2.2.2.1 0 8 (by decide +kernel)).trans rfl
    have d1_0_8 : η1 0 8 = η 0 8 := v6
    have f0_7 : η1 0 7 = η 0 7 := v4
    have f0_6 : η1 0 6 = η 0 6 := v5
    have f0_8 : η1 0 8 = η 0 8 := v6
    exact ⟨k2.2, fun w => absurd (show (x2 : Int) = 0 by apply Int.le_antisymm <;> omega) w⟩
  · have e1 : x1 = η 0 16 := e1
    obtain ⟨a2, b2⟩ : x2 = 0 ∧ η1 = (yq_wr 2 η) := y2
    show x2 = (yq_grl η).1 ∧ η1 = (yq_grl η).2
    simp only [yq_grl, yq_nt, yq_no, yq_inc, ← e1, ← b2, a2]
    all_goals ((repeat' split) <;> first | (exfalso; omega) | exact ⟨rfl, rfl⟩ | rfl)
set_option maxHeartbeats 8000000 in
theorem zne_grooveLine {ro : Nat → List Int32} : zMet pr_P pr_K pr_df ro (sm_X0 1 6) 3 132 tm_ne [(.inr (.inr (.inl (nat_lit 0))))] 2 [(nat_lit 0, nat_lit 0, nat_lit 1), (nat_lit 0, nat_lit 3, nat_lit 2), (nat_lit 0, nat_lit 20, nat_lit 3), (nat_lit 0, nat_lit 21, nat_lit 4), (nat_lit 0, nat_lit 22, nat_lit 5), (nat_lit 0, nat_lit 23, nat_lit 6), (nat_lit 0, nat_lit 24, nat_lit 7), (nat_lit 0, nat_lit 25, nat_lit 8), (nat_lit 0, nat_lit 26, nat_lit 9), (nat_lit 0, nat_lit 27, nat_lit 10), (nat_lit 0, nat_lit 28, nat_lit 11), (nat_lit 0, nat_lit 29, nat_lit 12), (nat_lit 0, nat_lit 30, nat_lit 13), (nat_lit 0, nat_lit 31, nat_lit 14), (nat_lit 0, nat_lit 32, nat_lit 15), (nat_lit 0, nat_lit 33, nat_lit 16), (nat_lit 0, nat_lit 34, nat_lit 17), (nat_lit 0, nat_lit 35, nat_lit 18), (nat_lit 0, nat_lit 36, nat_lit 19), (nat_lit 0, nat_lit 37, nat_lit 20), (nat_lit 0, nat_lit 38, nat_lit 21), (nat_lit 0, nat_lit 39, nat_lit 22), (nat_lit 0, nat_lit 40, nat_lit 23), (nat_lit 0, nat_lit 47, nat_lit 24), (nat_lit 0, nat_lit 48, nat_lit 25), (nat_lit 0, nat_lit 50, nat_lit 26), (nat_lit 0, nat_lit 51, nat_lit 27), (nat_lit 0, nat_lit 52, nat_lit 28), (nat_lit 0, nat_lit 53, nat_lit 29), (nat_lit 0, nat_lit 54, nat_lit 30), (nat_lit 0, nat_lit 55, nat_lit 31), (nat_lit 0, nat_lit 56, nat_lit 32), (nat_lit 0, nat_lit 57, nat_lit 33), (nat_lit 0, nat_lit 58, nat_lit 34), (nat_lit 0, nat_lit 59, nat_lit 35), (nat_lit 0, nat_lit 72, nat_lit 36), (nat_lit 0, nat_lit 73, nat_lit 37), (nat_lit 0, nat_lit 76, nat_lit 38), (nat_lit 0, nat_lit 77, nat_lit 39), (nat_lit 0, nat_lit 79, nat_lit 40), (nat_lit 0, nat_lit 81, nat_lit 41), (nat_lit 0, nat_lit 82, nat_lit 42)] [] (fun xs η => sP wl_ne zTr zPne_grooveLine xs η ∧ pPne_grooveLine xs η) (fun xs η y η' => sQ wl_ne zTr zOne_grooveLine zMne_grooveLine xs η y η' ∧ pQne_grooveLine xs η y η') :=
  zmet_alt (zmea_gen (mi := (nat_lit 0, nat_lit 1, nat_lit 8, nat_lit 1, nat_lit 2, tX8_grooveLine)) (cd := [(nat_lit 118, nat_lit 0, nat_lit 0, [(.inr (.inr (.inl (nat_lit 0)))), (.inl (nat_lit 1, (.ofNat (nat_lit 0))))], nat_lit 2, [(nat_lit 0, nat_lit 0, nat_lit 1), (nat_lit 0, nat_lit 3, nat_lit 2), (nat_lit 0, nat_lit 20, nat_lit 3), (nat_lit 0, nat_lit 21, nat_lit 4), (nat_lit 0, nat_lit 22, nat_lit 5), (nat_lit 0, nat_lit 23, nat_lit 6), (nat_lit 0, nat_lit 24, nat_lit 7), (nat_lit 0, nat_lit 25, nat_lit 8), (nat_lit 0, nat_lit 26, nat_lit 9), (nat_lit 0, nat_lit 27, nat_lit 10), (nat_lit 0, nat_lit 28, nat_lit 11), (nat_lit 0, nat_lit 29, nat_lit 12), (nat_lit 0, nat_lit 30, nat_lit 13), (nat_lit 0, nat_lit 31, nat_lit 14), (nat_lit 0, nat_lit 32, nat_lit 15), (nat_lit 0, nat_lit 33, nat_lit 16), (nat_lit 0, nat_lit 34, nat_lit 17), (nat_lit 0, nat_lit 35, nat_lit 18), (nat_lit 0, nat_lit 36, nat_lit 19), (nat_lit 0, nat_lit 37, nat_lit 20), (nat_lit 0, nat_lit 38, nat_lit 21), (nat_lit 0, nat_lit 39, nat_lit 22), (nat_lit 0, nat_lit 40, nat_lit 23), (nat_lit 0, nat_lit 47, nat_lit 24), (nat_lit 0, nat_lit 48, nat_lit 25), (nat_lit 0, nat_lit 50, nat_lit 26), (nat_lit 0, nat_lit 51, nat_lit 27), (nat_lit 0, nat_lit 52, nat_lit 28), (nat_lit 0, nat_lit 53, nat_lit 29), (nat_lit 0, nat_lit 54, nat_lit 30), (nat_lit 0, nat_lit 55, nat_lit 31), (nat_lit 0, nat_lit 56, nat_lit 32), (nat_lit 0, nat_lit 57, nat_lit 33), (nat_lit 0, nat_lit 58, nat_lit 34), (nat_lit 0, nat_lit 59, nat_lit 35), (nat_lit 0, nat_lit 72, nat_lit 36), (nat_lit 0, nat_lit 73, nat_lit 37), (nat_lit 0, nat_lit 76, nat_lit 38), (nat_lit 0, nat_lit 77, nat_lit 39), (nat_lit 0, nat_lit 79, nat_lit 40), (nat_lit 0, nat_lit 81, nat_lit 41), (nat_lit 0, nat_lit 82, nat_lit 42)], []), (nat_lit 122, nat_lit 1, nat_lit 1, [(.inr (.inr (.inl (nat_lit 0))))], nat_lit 0, [(nat_lit 0, nat_lit 0, nat_lit 1), (nat_lit 0, nat_lit 3, nat_lit 2), (nat_lit 0, nat_lit 20, nat_lit 3), (nat_lit 0, nat_lit 21, nat_lit 4), (nat_lit 0, nat_lit 22, nat_lit 5), (nat_lit 0, nat_lit 23, nat_lit 6), (nat_lit 0, nat_lit 24, nat_lit 7), (nat_lit 0, nat_lit 25, nat_lit 8), (nat_lit 0, nat_lit 26, nat_lit 9), (nat_lit 0, nat_lit 27, nat_lit 10), (nat_lit 0, nat_lit 28, nat_lit 11), (nat_lit 0, nat_lit 29, nat_lit 12), (nat_lit 0, nat_lit 30, nat_lit 13), (nat_lit 0, nat_lit 31, nat_lit 14), (nat_lit 0, nat_lit 32, nat_lit 15), (nat_lit 0, nat_lit 33, nat_lit 16), (nat_lit 0, nat_lit 34, nat_lit 17), (nat_lit 0, nat_lit 35, nat_lit 18), (nat_lit 0, nat_lit 36, nat_lit 19), (nat_lit 0, nat_lit 37, nat_lit 20), (nat_lit 0, nat_lit 38, nat_lit 21), (nat_lit 0, nat_lit 39, nat_lit 22), (nat_lit 0, nat_lit 40, nat_lit 23), (nat_lit 0, nat_lit 47, nat_lit 24), (nat_lit 0, nat_lit 48, nat_lit 25), (nat_lit 0, nat_lit 50, nat_lit 26), (nat_lit 0, nat_lit 51, nat_lit 27), (nat_lit 0, nat_lit 52, nat_lit 28), (nat_lit 0, nat_lit 53, nat_lit 29), (nat_lit 0, nat_lit 54, nat_lit 30), (nat_lit 0, nat_lit 55, nat_lit 31), (nat_lit 0, nat_lit 56, nat_lit 32), (nat_lit 0, nat_lit 57, nat_lit 33), (nat_lit 0, nat_lit 58, nat_lit 34), (nat_lit 0, nat_lit 59, nat_lit 35), (nat_lit 0, nat_lit 72, nat_lit 36), (nat_lit 0, nat_lit 73, nat_lit 37), (nat_lit 0, nat_lit 76, nat_lit 38), (nat_lit 0, nat_lit 77, nat_lit 39), (nat_lit 0, nat_lit 79, nat_lit 40), (nat_lit 0, nat_lit 81, nat_lit 41), (nat_lit 0, nat_lit 82, nat_lit 42)], []), (nat_lit 127, nat_lit 2, nat_lit 2, [(.inr (.inr (.inl (nat_lit 0)))), (.inl (nat_lit 1, (.ofNat (nat_lit 0)))), (.inl (nat_lit 2, (.ofNat (nat_lit 0))))], nat_lit 2, [(nat_lit 0, nat_lit 0, nat_lit 1), (nat_lit 0, nat_lit 3, nat_lit 2), (nat_lit 0, nat_lit 20, nat_lit 3), (nat_lit 0, nat_lit 21, nat_lit 4), (nat_lit 0, nat_lit 22, nat_lit 5), (nat_lit 0, nat_lit 23, nat_lit 6), (nat_lit 0, nat_lit 24, nat_lit 7), (nat_lit 0, nat_lit 25, nat_lit 8), (nat_lit 0, nat_lit 26, nat_lit 9), (nat_lit 0, nat_lit 27, nat_lit 10), (nat_lit 0, nat_lit 28, nat_lit 11), (nat_lit 0, nat_lit 29, nat_lit 12), (nat_lit 0, nat_lit 30, nat_lit 13), (nat_lit 0, nat_lit 31, nat_lit 14), (nat_lit 0, nat_lit 32, nat_lit 15), (nat_lit 0, nat_lit 33, nat_lit 16), (nat_lit 0, nat_lit 34, nat_lit 17), (nat_lit 0, nat_lit 35, nat_lit 18), (nat_lit 0, nat_lit 36, nat_lit 19), (nat_lit 0, nat_lit 37, nat_lit 20), (nat_lit 0, nat_lit 38, nat_lit 21), (nat_lit 0, nat_lit 39, nat_lit 22), (nat_lit 0, nat_lit 40, nat_lit 23), (nat_lit 0, nat_lit 47, nat_lit 24), (nat_lit 0, nat_lit 48, nat_lit 25), (nat_lit 0, nat_lit 50, nat_lit 26), (nat_lit 0, nat_lit 51, nat_lit 27), (nat_lit 0, nat_lit 52, nat_lit 28), (nat_lit 0, nat_lit 53, nat_lit 29), (nat_lit 0, nat_lit 54, nat_lit 30), (nat_lit 0, nat_lit 55, nat_lit 31), (nat_lit 0, nat_lit 56, nat_lit 32), (nat_lit 0, nat_lit 57, nat_lit 33), (nat_lit 0, nat_lit 58, nat_lit 34), (nat_lit 0, nat_lit 59, nat_lit 35), (nat_lit 0, nat_lit 72, nat_lit 36), (nat_lit 0, nat_lit 73, nat_lit 37), (nat_lit 0, nat_lit 76, nat_lit 38), (nat_lit 0, nat_lit 77, nat_lit 39), (nat_lit 0, nat_lit 79, nat_lit 40), (nat_lit 0, nat_lit 81, nat_lit 41), (nat_lit 0, nat_lit 82, nat_lit 42)], [])]) (cu := []) (cs := [(nat_lit 0, zPne_wrong, zOne_wrong, zMne_wrong), (nat_lit 1, zPne_token, zOne_token, zMne_token), (nat_lit 2, zPne_number, zOne_number, zMne_number)]) (iv := zVne_grooveLine) (po := [zOne_grooveLine]) (pr := zPne_grooveLine) (mods := zMne_grooveLine) (D7 := zDne_grooveLine) (D0 := zEne_grooveLine) (Dm := zFne_grooveLine) (f0 := 46) pCne_grooveLine qCne_grooveLine iCne_grooveLine pPne_grooveLine (fun xs η _ y η' => pQne_grooveLine xs η y η') zX_low pr_mtR rfl (List.forall_mem_cons.mpr ⟨zne_wrong, List.forall_mem_cons.mpr ⟨zne_token, List.forall_mem_cons.mpr ⟨zne_number, fun _ h => nomatch h⟩⟩⟩) (by decide +kernel) (by decide +kernel) (by decide +kernel)
    (by
      intro xs η hr hl hp hpp
      match xs, hl, hp, hpp with
      | [], _, hp, hpp =>
        refine List.forall_mem_cons.mpr ⟨?_, List.forall_mem_cons.mpr ⟨?_, List.forall_mem_cons.mpr ⟨?_, List.forall_mem_cons.mpr ⟨?_, List.forall_mem_cons.mpr ⟨?_, List.forall_mem_cons.mpr ⟨?_, List.forall_mem_cons.mpr ⟨?_, List.forall_mem_cons.mpr ⟨?_, fun _ h => nomatch h⟩⟩⟩⟩⟩⟩⟩⟩
        · refine zden_L (n := 1) (ρ := [0]) rfl ?_
          exact zne_grooveLine_o0 (ro := ro)  η hp hpp
        · refine zden_L (n := 1) (ρ := [0]) rfl ?_
          exact zne_grooveLine_o1 (ro := ro)  η hp hpp
        · refine zden_L (n := 1) (ρ := [0]) rfl ?_
          exact zne_grooveLine_o2 (ro := ro)  η hp hpp
        · refine zden_L (n := 1) (ρ := [0]) rfl ?_
          exact zne_grooveLine_o3 (ro := ro)  η hp hpp
        · refine zden_L (n := 1) (ρ := [0]) rfl ?_
          exact zne_grooveLine_o4 (ro := ro)  η hp hpp
        · refine zden_L (n := 1) (ρ := [0]) rfl ?_
          exact zne_grooveLine_o5 (ro := ro)  η hp hpp
        · refine zden_L (n := 1) (ρ := [0]) rfl ?_
          exact zne_grooveLine_o6 (ro := ro)  η hp hpp
        · refine zden_L (n := 1) (ρ := [0]) rfl ?_
          exact zne_grooveLine_o7 (ro := ro)  η hp hpp
      )
    (fun _ _ _ _ _ _ _ h => nomatch h)
    (fun _ h => nomatch h))
def zPne_scratLine : zPq := ([], [])
def zOne_scratLine : zPo := (((.ofNat (nat_lit 0)), (.ofNat (nat_lit 1))), [], [])
def zMne_scratLine : List zCe := [(nat_lit 0, nat_lit 8), (nat_lit 0, nat_lit 9), (nat_lit 0, nat_lit 10), (nat_lit 0, nat_lit 11), (nat_lit 0, nat_lit 5), (nat_lit 0, nat_lit 6), (nat_lit 0, nat_lit 12), (nat_lit 0, nat_lit 18), (nat_lit 7, nat_lit 0), (nat_lit 8, nat_lit 0), (nat_lit 9, nat_lit 0), (nat_lit 10, nat_lit 0), (nat_lit 11, nat_lit 0)]
def pPne_scratLine : List Int → zE → Prop := fun _ η => G_n η ∧ ¬ η 0 8 = 0
def oQne_scratLine : List Int → zE → Int → zE → Prop := fun _ η y η' => G_n η' ∧ (¬ y = 0 → 10 * (η' 0 6 - η' 0 7) + η' 0 8 < 10 * (η 0 6 - η 0 7) + η 0 8)
def fQne_scratLine : List Int → zE → Int → zE → Prop := fun xs η y η' => y = (yq_scl η).1 ∧ η' = (yq_scl η).2
def pQne_scratLine : List Int → zE → Int → zE → Prop := fun xs η y η' => oQne_scratLine xs η y η' ∧ fQne_scratLine xs η y η'
def pCne_scratLine : Nat → List Int → zE → Prop := fun c => match c with
  | 0 => pPne_wrong
  | 1 => pPne_token
  | 2 => pPne_number
  | 3 => pPne_find_s
  | _ => fun _ _ => True
def qCne_scratLine : Nat → List Int → zE → Int → zE → Prop := fun c => match c with
  | 0 => pQne_wrong
  | 1 => pQne_token
  | 2 => pQne_number
  | 3 => pQne_find_s
  | _ => fun _ _ _ _ => True
def iCne_scratLine : List Int → zE → Nat → List Int → zE → Prop := fun xs η0 c => match c with
  | _ => fun _ _ => True
def zVne_scratLine : List zIv := []
def zDne_scratLine : List (List zK) := [[(nat_lit 7, nat_lit 0, [(nat_lit 4, (.ofNat (nat_lit 0))), (nat_lit 0, (.ofNat (nat_lit 8)))]), (nat_lit 4, nat_lit 0, [(nat_lit 0, (.ofNat (nat_lit 0))), (nat_lit 0, (.ofNat (nat_lit 11)))]), (nat_lit 6, nat_lit 2, [(nat_lit 9, (.ofNat (nat_lit 0))), (nat_lit 0, (.ofNat (nat_lit 0)))]), (nat_lit 8, nat_lit 3, [(nat_lit 7, (.ofNat (nat_lit 0))), (nat_lit 8, (.ofNat (nat_lit 0)))]), (nat_lit 4, nat_lit 0, [(nat_lit 0, (.ofNat (nat_lit 0))), (nat_lit 0, (.ofNat (nat_lit 11)))]), (nat_lit 4, nat_lit 0, [(nat_lit 0, (.ofNat (nat_lit 0))), (nat_lit 0, (.ofNat (nat_lit 17)))]), (nat_lit 6, nat_lit 1, [(nat_lit 6, (.ofNat (nat_lit 0))), (nat_lit 0, (.ofNat (nat_lit 0)))]), (nat_lit 8, nat_lit 2, [(nat_lit 0, (.ofNat (nat_lit 0))), (nat_lit 0, (.ofNat (nat_lit 11)))]), (nat_lit 4, nat_lit 0, [(nat_lit 0, (.ofNat (nat_lit 0))), (nat_lit 0, (.ofNat (nat_lit 10)))]), (nat_lit 0, nat_lit 1, [(nat_lit 0, (.ofNat (nat_lit 4))), (nat_lit 3, (.ofNat (nat_lit 0)))]), (nat_lit 4, nat_lit 0, [(nat_lit 0, (.ofNat (nat_lit 0))), (nat_lit 0, (.ofNat (nat_lit 17)))]), (nat_lit 8, nat_lit 1, []), (nat_lit 6, nat_lit 1, [(nat_lit 1, (.ofNat (nat_lit 0))), (nat_lit 0, (.ofNat (nat_lit 4)))]), (nat_lit 4, nat_lit 0, [(nat_lit 0, (.ofNat (nat_lit 0))), (nat_lit 0, (.ofNat (nat_lit 17)))])],
  [(nat_lit 7, nat_lit 0, [(nat_lit 4, (.ofNat (nat_lit 0))), (nat_lit 0, (.ofNat (nat_lit 8)))]), (nat_lit 4, nat_lit 0, [(nat_lit 0, (.ofNat (nat_lit 0))), (nat_lit 0, (.ofNat (nat_lit 11)))]), (nat_lit 6, nat_lit 1, [(nat_lit 11, (.ofNat (nat_lit 0))), (nat_lit 0, (.ofNat (nat_lit 0)))]), (nat_lit 8, nat_lit 2, [(nat_lit 0, (.ofNat (nat_lit 0))), (nat_lit 0, (.ofNat (nat_lit 100)))]), (nat_lit 5, nat_lit 0, [(nat_lit 7, (.ofNat (nat_lit 0))), (nat_lit 4, (.ofNat (nat_lit 0))), (nat_lit 10, (.ofNat (nat_lit 0)))]), (nat_lit 4, nat_lit 0, [(nat_lit 0, (.ofNat (nat_lit 0))), (nat_lit 0, (.ofNat (nat_lit 11)))]), (nat_lit 6, nat_lit 2, [(nat_lit 9, (.ofNat (nat_lit 0))), (nat_lit 0, (.ofNat (nat_lit 0)))]), (nat_lit 8, nat_lit 3, [(nat_lit 7, (.ofNat (nat_lit 0))), (nat_lit 8, (.ofNat (nat_lit 0)))]), (nat_lit 4, nat_lit 0, [(nat_lit 0, (.ofNat (nat_lit 0))), (nat_lit 0, (.ofNat (nat_lit 11)))]), (nat_lit 4, nat_lit 0, [(nat_lit 0, (.ofNat (nat_lit 0))), (nat_lit 0, (.ofNat (nat_lit 17)))]), (nat_lit 6, nat_lit 1, [(nat_lit 6, (.ofNat (nat_lit 0))), (nat_lit 0, (.ofNat (nat_lit 0)))]), (nat_lit 8, nat_lit 2, [(nat_lit 0, (.ofNat (nat_lit 0))), (nat_lit 0, (.ofNat (nat_lit 11)))]), (nat_lit 4, nat_lit 0, [(nat_lit 0, (.ofNat (nat_lit 0))), (nat_lit 0, (.ofNat (nat_lit 10)))]), (nat_lit 0, nat_lit 1, [(nat_lit 0, (.ofNat (nat_lit 4))), (nat_lit 3, (.ofNat (nat_lit 0)))]), (nat_lit 4, nat_lit 0, [(nat_lit 0, (.ofNat (nat_lit 0))), (nat_lit 0, (.ofNat (nat_lit 17)))]), (nat_lit 8, nat_lit 1, []), (nat_lit 6, nat_lit 1, [(nat_lit 1, (.ofNat (nat_lit 0))), (nat_lit 0, (.ofNat (nat_lit 4)))]), (nat_lit 4, nat_lit 0, [(nat_lit 0, (.ofNat (nat_lit 0))), (nat_lit 0, (.ofNat (nat_lit 17)))])],
  [(nat_lit 7, nat_lit 0, [(nat_lit 4, (.ofNat (nat_lit 0))), (nat_lit 0, (.ofNat (nat_lit 8)))]), (nat_lit 4, nat_lit 0, [(nat_lit 0, (.ofNat (nat_lit 0))), (nat_lit 0, (.ofNat (nat_lit 11)))]), (nat_lit 6, nat_lit 1, [(nat_lit 13, (.ofNat (nat_lit 0))), (nat_lit 0, (.ofNat (nat_lit 0)))]), (nat_lit 8, nat_lit 2, [(nat_lit 0, (.ofNat (nat_lit 1))), (nat_lit 0, (.ofNat (nat_lit 9)))]), (nat_lit 5, nat_lit 0, [(nat_lit 8, (.ofNat (nat_lit 0))), (nat_lit 4, (.ofNat (nat_lit 0))), (nat_lit 12, (.ofNat (nat_lit 0)))]), (nat_lit 4, nat_lit 0, [(nat_lit 0, (.ofNat (nat_lit 0))), (nat_lit 0, (.ofNat (nat_lit 11)))]), (nat_lit 6, nat_lit 1, [(nat_lit 11, (.ofNat (nat_lit 0))), (nat_lit 0, (.ofNat (nat_lit 0)))]), (nat_lit 8, nat_lit 2, [(nat_lit 0, (.ofNat (nat_lit 0))), (nat_lit 0, (.ofNat (nat_lit 100)))]), (nat_lit 5, nat_lit 0, [(nat_lit 7, (.ofNat (nat_lit 0))), (nat_lit 4, (.ofNat (nat_lit 0))), (nat_lit 10, (.ofNat (nat_lit 0)))]), (nat_lit 4, nat_lit 0, [(nat_lit 0, (.ofNat (nat_lit 0))), (nat_lit 0, (.ofNat (nat_lit 11)))]), (nat_lit 6, nat_lit 2, [(nat_lit 9, (.ofNat (nat_lit 0))), (nat_lit 0, (.ofNat (nat_lit 0)))]), (nat_lit 8, nat_lit 3, [(nat_lit 7, (.ofNat (nat_lit 0))), (nat_lit 8, (.ofNat (nat_lit 0)))]), (nat_lit 4, nat_lit 0, [(nat_lit 0, (.ofNat (nat_lit 0))), (nat_lit 0, (.ofNat (nat_lit 11)))]), (nat_lit 4, nat_lit 0, [(nat_lit 0, (.ofNat (nat_lit 0))), (nat_lit 0, (.ofNat (nat_lit 17)))]), (nat_lit 6, nat_lit 1, [(nat_lit 6, (.ofNat (nat_lit 0))), (nat_lit 0, (.ofNat (nat_lit 0)))]), (nat_lit 8, nat_lit 2, [(nat_lit 0, (.ofNat (nat_lit 0))), (nat_lit 0, (.ofNat (nat_lit 11)))]), (nat_lit 4, nat_lit 0, [(nat_lit 0, (.ofNat (nat_lit 0))), (nat_lit 0, (.ofNat (nat_lit 10)))]), (nat_lit 0, nat_lit 1, [(nat_lit 0, (.ofNat (nat_lit 4))), (nat_lit 3, (.ofNat (nat_lit 0)))]), (nat_lit 4, nat_lit 0, [(nat_lit 0, (.ofNat (nat_lit 0))), (nat_lit 0, (.ofNat (nat_lit 17)))]), (nat_lit 8, nat_lit 1, []), (nat_lit 6, nat_lit 1, [(nat_lit 1, (.ofNat (nat_lit 0))), (nat_lit 0, (.ofNat (nat_lit 4)))]), (nat_lit 4, nat_lit 0, [(nat_lit 0, (.ofNat (nat_lit 0))), (nat_lit 0, (.ofNat (nat_lit 17)))])],
  [(nat_lit 7, nat_lit 0, [(nat_lit 4, (.ofNat (nat_lit 0))), (nat_lit 0, (.ofNat (nat_lit 8)))]), (nat_lit 5, nat_lit 0, [(nat_lit 9, (.ofNat (nat_lit 0))), (nat_lit 4, (.ofNat (nat_lit 0))), (nat_lit 14, (.ofNat (nat_lit 0)))]), (nat_lit 4, nat_lit 0, [(nat_lit 0, (.ofNat (nat_lit 0))), (nat_lit 0, (.ofNat (nat_lit 11)))]), (nat_lit 6, nat_lit 1, [(nat_lit 13, (.ofNat (nat_lit 0))), (nat_lit 0, (.ofNat (nat_lit 0)))]), (nat_lit 8, nat_lit 2, [(nat_lit 0, (.ofNat (nat_lit 1))), (nat_lit 0, (.ofNat (nat_lit 9)))]), (nat_lit 5, nat_lit 0, [(nat_lit 8, (.ofNat (nat_lit 0))), (nat_lit 4, (.ofNat (nat_lit 0))), (nat_lit 12, (.ofNat (nat_lit 0)))]), (nat_lit 4, nat_lit 0, [(nat_lit 0, (.ofNat (nat_lit 0))), (nat_lit 0, (.ofNat (nat_lit 11)))]), (nat_lit 6, nat_lit 1, [(nat_lit 11, (.ofNat (nat_lit 0))), (nat_lit 0, (.ofNat (nat_lit 0)))]), (nat_lit 8, nat_lit 2, [(nat_lit 0, (.ofNat (nat_lit 0))), (nat_lit 0, (.ofNat (nat_lit 100)))]), (nat_lit 5, nat_lit 0, [(nat_lit 7, (.ofNat (nat_lit 0))), (nat_lit 4, (.ofNat (nat_lit 0))), (nat_lit 10, (.ofNat (nat_lit 0)))]), (nat_lit 4, nat_lit 0, [(nat_lit 0, (.ofNat (nat_lit 0))), (nat_lit 0, (.ofNat (nat_lit 11)))]), (nat_lit 6, nat_lit 2, [(nat_lit 9, (.ofNat (nat_lit 0))), (nat_lit 0, (.ofNat (nat_lit 0)))]), (nat_lit 8, nat_lit 3, [(nat_lit 7, (.ofNat (nat_lit 0))), (nat_lit 8, (.ofNat (nat_lit 0)))]), (nat_lit 4, nat_lit 0, [(nat_lit 0, (.ofNat (nat_lit 0))), (nat_lit 0, (.ofNat (nat_lit 11)))]), (nat_lit 4, nat_lit 0, [(nat_lit 0, (.ofNat (nat_lit 0))), (nat_lit 0, (.ofNat (nat_lit 17)))]), (nat_lit 6, nat_lit 1, [(nat_lit 6, (.ofNat (nat_lit 0))), (nat_lit 0, (.ofNat (nat_lit 0)))]), (nat_lit 8, nat_lit 2, [(nat_lit 0, (.ofNat (nat_lit 0))), (nat_lit 0, (.ofNat (nat_lit 11)))]), (nat_lit 4, nat_lit 0, [(nat_lit 0, (.ofNat (nat_lit 0))), (nat_lit 0, (.ofNat (nat_lit 10)))]), (nat_lit 0, nat_lit 1, [(nat_lit 0, (.ofNat (nat_lit 4))), (nat_lit 3, (.ofNat (nat_lit 0)))]), (nat_lit 4, nat_lit 0, [(nat_lit 0, (.ofNat (nat_lit 0))), (nat_lit 0, (.ofNat (nat_lit 17)))]), (nat_lit 8, nat_lit 1, []), (nat_lit 6, nat_lit 1, [(nat_lit 1, (.ofNat (nat_lit 0))), (nat_lit 0, (.ofNat (nat_lit 4)))]), (nat_lit 4, nat_lit 0, [(nat_lit 0, (.ofNat (nat_lit 0))), (nat_lit 0, (.ofNat (nat_lit 17)))])],
  [(nat_lit 7, nat_lit 0, [(nat_lit 4, (.ofNat (nat_lit 0))), (nat_lit 0, (.ofNat (nat_lit 8)))]), (nat_lit 4, nat_lit 0, [(nat_lit 0, (.ofNat (nat_lit 0))), (nat_lit 0, (.ofNat (nat_lit 11)))]), (nat_lit 6, nat_lit 1, [(nat_lit 17, (.ofNat (nat_lit 0))), (nat_lit 0, (.ofNat (nat_lit 0)))]), (nat_lit 8, nat_lit 2, [(nat_lit 0, (.ofNat (nat_lit 0))), (nat_lit 16, (.ofNat (nat_lit 0)))]), (nat_lit 0, nat_lit 2, [(nat_lit 0, (.ofNat (nat_lit 100))), (nat_lit 15, (.ofNat (nat_lit 0)))]), (nat_lit 4, nat_lit 0, [(nat_lit 8, (.ofNat (nat_lit 0))), (nat_lit 4, (.ofNat (nat_lit 0)))]), (nat_lit 5, nat_lit 0, [(nat_lit 9, (.ofNat (nat_lit 0))), (nat_lit 4, (.ofNat (nat_lit 0))), (nat_lit 14, (.ofNat (nat_lit 0)))]), (nat_lit 4, nat_lit 0, [(nat_lit 0, (.ofNat (nat_lit 0))), (nat_lit 0, (.ofNat (nat_lit 11)))]), (nat_lit 6, nat_lit 1, [(nat_lit 13, (.ofNat (nat_lit 0))), (nat_lit 0, (.ofNat (nat_lit 0)))]), (nat_lit 8, nat_lit 2, [(nat_lit 0, (.ofNat (nat_lit 1))), (nat_lit 0, (.ofNat (nat_lit 9)))]), (nat_lit 5, nat_lit 0, [(nat_lit 8, (.ofNat (nat_lit 0))), (nat_lit 4, (.ofNat (nat_lit 0))), (nat_lit 12, (.ofNat (nat_lit 0)))]), (nat_lit 4, nat_lit 0, [(nat_lit 0, (.ofNat (nat_lit 0))), (nat_lit 0, (.ofNat (nat_lit 11)))]), (nat_lit 6, nat_lit 1, [(nat_lit 11, (.ofNat (nat_lit 0))), (nat_lit 0, (.ofNat (nat_lit 0)))]), (nat_lit 8, nat_lit 2, [(nat_lit 0, (.ofNat (nat_lit 0))), (nat_lit 0, (.ofNat (nat_lit 100)))]), (nat_lit 5, nat_lit 0, [(nat_lit 7, (.ofNat (nat_lit 0))), (nat_lit 4, (.ofNat (nat_lit 0))), (nat_lit 10, (.ofNat (nat_lit 0)))]), (nat_lit 4, nat_lit 0, [(nat_lit 0, (.ofNat (nat_lit 0))), (nat_lit 0, (.ofNat (nat_lit 11)))]), (nat_lit 6, nat_lit 2, [(nat_lit 9, (.ofNat (nat_lit 0))), (nat_lit 0, (.ofNat (nat_lit 0)))]), (nat_lit 8, nat_lit 3, [(nat_lit 7, (.ofNat (nat_lit 0))), (nat_lit 8, (.ofNat (nat_lit 0)))]), (nat_lit 4, nat_lit 0, [(nat_lit 0, (.ofNat (nat_lit 0))), (nat_lit 0, (.ofNat (nat_lit 11)))]), (nat_lit 4, nat_lit 0, [(nat_lit 0, (.ofNat (nat_lit 0))), (nat_lit 0, (.ofNat (nat_lit 17)))]), (nat_lit 6, nat_lit 1, [(nat_lit 6, (.ofNat (nat_lit 0))), (nat_lit 0, (.ofNat (nat_lit 0)))]), (nat_lit 8, nat_lit 2, [(nat_lit 0, (.ofNat (nat_lit 0))), (nat_lit 0, (.ofNat (nat_lit 11)))]), (nat_lit 4, nat_lit 0, [(nat_lit 0, (.ofNat (nat_lit 0))), (nat_lit 0, (.ofNat (nat_lit 10)))]), (nat_lit 0, nat_lit 1, [(nat_lit 0, (.ofNat (nat_lit 4))), (nat_lit 3, (.ofNat (nat_lit 0)))]), (nat_lit 4, nat_lit 0, [(nat_lit 0, (.ofNat (nat_lit 0))), (nat_lit 0, (.ofNat (nat_lit 17)))]), (nat_lit 8, nat_lit 1, []), (nat_lit 6, nat_lit 1, [(nat_lit 1, (.ofNat (nat_lit 0))), (nat_lit 0, (.ofNat (nat_lit 4)))]), (nat_lit 4, nat_lit 0, [(nat_lit 0, (.ofNat (nat_lit 0))), (nat_lit 0, (.ofNat (nat_lit 17)))])],
  [(nat_lit 7, nat_lit 0, [(nat_lit 4, (.ofNat (nat_lit 0))), (nat_lit 0, (.ofNat (nat_lit 8)))]), (nat_lit 4, nat_lit 0, [(nat_lit 0, (.ofNat (nat_lit 0))), (nat_lit 0, (.ofNat (nat_lit 11)))]), (nat_lit 6, nat_lit 1, [(nat_lit 19, (.ofNat (nat_lit 0))), (nat_lit 0, (.ofNat (nat_lit 0)))]), (nat_lit 8, nat_lit 2, [(nat_lit 0, (.ofNat (nat_lit 1))), (nat_lit 0, (.ofNat (nat_lit 9)))]), (nat_lit 5, nat_lit 0, [(nat_lit 10, (.ofNat (nat_lit 0))), (nat_lit 4, (.ofNat (nat_lit 0))), (nat_lit 18, (.ofNat (nat_lit 0)))]), (nat_lit 4, nat_lit 0, [(nat_lit 0, (.ofNat (nat_lit 0))), (nat_lit 0, (.ofNat (nat_lit 11)))]), (nat_lit 6, nat_lit 1, [(nat_lit 17, (.ofNat (nat_lit 0))), (nat_lit 0, (.ofNat (nat_lit 0)))]), (nat_lit 8, nat_lit 2, [(nat_lit 0, (.ofNat (nat_lit 0))), (nat_lit 16, (.ofNat (nat_lit 0)))]), (nat_lit 0, nat_lit 2, [(nat_lit 0, (.ofNat (nat_lit 100))), (nat_lit 15, (.ofNat (nat_lit 0)))]), (nat_lit 4, nat_lit 0, [(nat_lit 8, (.ofNat (nat_lit 0))), (nat_lit 4, (.ofNat (nat_lit 0)))]), (nat_lit 5, nat_lit 0, [(nat_lit 9, (.ofNat (nat_lit 0))), (nat_lit 4, (.ofNat (nat_lit 0))), (nat_lit 14, (.ofNat (nat_lit 0)))]), (nat_lit 4, nat_lit 0, [(nat_lit 0, (.ofNat (nat_lit 0))), (nat_lit 0, (.ofNat (nat_lit 11)))]), (nat_lit 6, nat_lit 1, [(nat_lit 13, (.ofNat (nat_lit 0))), (nat_lit 0, (.ofNat (nat_lit 0)))]), (nat_lit 8, nat_lit 2, [(nat_lit 0, (.ofNat (nat_lit 1))), (nat_lit 0, (.ofNat (nat_lit 9)))]), (nat_lit 5, nat_lit 0, [(nat_lit 8, (.ofNat (nat_lit 0))), (nat_lit 4, (.ofNat (nat_lit 0))), (nat_lit 12, (.ofNat (nat_lit 0)))]), (nat_lit 4, nat_lit 0, [(nat_lit 0, (.ofNat (nat_lit 0))), (nat_lit 0, (.ofNat (nat_lit 11)))]), (nat_lit 6, nat_lit 1, [(nat_lit 11, (.ofNat (nat_lit 0))), (nat_lit 0, (.ofNat (nat_lit 0)))]), (nat_lit 8, nat_lit 2, [(nat_lit 0, (.ofNat (nat_lit 0))), (nat_lit 0, (.ofNat (nat_lit 100)))]), (nat_lit 5, nat_lit 0, [(nat_lit 7, (.ofNat (nat_lit 0))), (nat_lit 4, (.ofNat (nat_lit 0))), (nat_lit 10, (.ofNat (nat_lit 0)))]), (nat_lit 4, nat_lit 0, [(nat_lit 0, (.ofNat (nat_lit 0))), (nat_lit 0, (.ofNat (nat_lit 11)))]), (nat_lit 6, nat_lit 2, [(nat_lit 9, (.ofNat (nat_lit 0))), (nat_lit 0, (.ofNat (nat_lit 0)))]), (nat_lit 8, nat_lit 3, [(nat_lit 7, (.ofNat (nat_lit 0))), (nat_lit 8, (.ofNat (nat_lit 0)))]), (nat_lit 4, nat_lit 0, [(nat_lit 0, (.ofNat (nat_lit 0))), (nat_lit 0, (.ofNat (nat_lit 11)))]), (nat_lit 4, nat_lit 0, [(nat_lit 0, (.ofNat (nat_lit 0))), (nat_lit 0, (.ofNat (nat_lit 17)))]), (nat_lit 6, nat_lit 1, [(nat_lit 6, (.ofNat (nat_lit 0))), (nat_lit 0, (.ofNat (nat_lit 0)))]), (nat_lit 8, nat_lit 2, [(nat_lit 0, (.ofNat (nat_lit 0))), (nat_lit 0, (.ofNat (nat_lit 11)))]), (nat_lit 4, nat_lit 0, [(nat_lit 0, (.ofNat (nat_lit 0))), (nat_lit 0, (.ofNat (nat_lit 10)))]), (nat_lit 0, nat_lit 1, [(nat_lit 0, (.ofNat (nat_lit 4))), (nat_lit 3, (.ofNat (nat_lit 0)))]), (nat_lit 4, nat_lit 0, [(nat_lit 0, (.ofNat (nat_lit 0))), (nat_lit 0, (.ofNat (nat_lit 17)))]), (nat_lit 8, nat_lit 1, []), (nat_lit 6, nat_lit 1, [(nat_lit 1, (.ofNat (nat_lit 0))), (nat_lit 0, (.ofNat (nat_lit 4)))]), (nat_lit 4, nat_lit 0, [(nat_lit 0, (.ofNat (nat_lit 0))), (nat_lit 0, (.ofNat (nat_lit 17)))])],
  [(nat_lit 7, nat_lit 2, [(nat_lit 0, (.ofNat (nat_lit 1)))]), (nat_lit 5, nat_lit 0, [(nat_lit 0, (.ofNat (nat_lit 0))), (nat_lit 0, (.ofNat (nat_lit 17))), (nat_lit 22, (.ofNat (nat_lit 0)))]), (nat_lit 0, nat_lit 1, [(nat_lit 21, (.ofNat (nat_lit 0))), (nat_lit 0, (.ofNat (nat_lit 1)))]), (nat_lit 4, nat_lit 0, [(nat_lit 0, (.ofNat (nat_lit 0))), (nat_lit 0, (.ofNat (nat_lit 17)))]), (nat_lit 5, nat_lit 0, [(nat_lit 11, (.ofNat (nat_lit 0))), (nat_lit 4, (.ofNat (nat_lit 0))), (nat_lit 20, (.ofNat (nat_lit 0)))]), (nat_lit 4, nat_lit 0, [(nat_lit 0, (.ofNat (nat_lit 0))), (nat_lit 0, (.ofNat (nat_lit 11)))]), (nat_lit 6, nat_lit 1, [(nat_lit 19, (.ofNat (nat_lit 0))), (nat_lit 0, (.ofNat (nat_lit 0)))]), (nat_lit 8, nat_lit 2, [(nat_lit 0, (.ofNat (nat_lit 1))), (nat_lit 0, (.ofNat (nat_lit 9)))]), (nat_lit 5, nat_lit 0, [(nat_lit 10, (.ofNat (nat_lit 0))), (nat_lit 4, (.ofNat (nat_lit 0))), (nat_lit 18, (.ofNat (nat_lit 0)))]), (nat_lit 4, nat_lit 0, [(nat_lit 0, (.ofNat (nat_lit 0))), (nat_lit 0, (.ofNat (nat_lit 11)))]), (nat_lit 6, nat_lit 1, [(nat_lit 17, (.ofNat (nat_lit 0))), (nat_lit 0, (.ofNat (nat_lit 0)))]), (nat_lit 8, nat_lit 2, [(nat_lit 0, (.ofNat (nat_lit 0))), (nat_lit 16, (.ofNat (nat_lit 0)))]), (nat_lit 0, nat_lit 2, [(nat_lit 0, (.ofNat (nat_lit 100))), (nat_lit 15, (.ofNat (nat_lit 0)))]), (nat_lit 4, nat_lit 0, [(nat_lit 8, (.ofNat (nat_lit 0))), (nat_lit 4, (.ofNat (nat_lit 0)))]), (nat_lit 5, nat_lit 0, [(nat_lit 9, (.ofNat (nat_lit 0))), (nat_lit 4, (.ofNat (nat_lit 0))), (nat_lit 14, (.ofNat (nat_lit 0)))]), (nat_lit 4, nat_lit 0, [(nat_lit 0, (.ofNat (nat_lit 0))), (nat_lit 0, (.ofNat (nat_lit 11)))]), (nat_lit 6, nat_lit 1, [(nat_lit 13, (.ofNat (nat_lit 0))), (nat_lit 0, (.ofNat (nat_lit 0)))]), (nat_lit 8, nat_lit 2, [(nat_lit 0, (.ofNat (nat_lit 1))), (nat_lit 0, (.ofNat (nat_lit 9)))]), (nat_lit 5, nat_lit 0, [(nat_lit 8, (.ofNat (nat_lit 0))), (nat_lit 4, (.ofNat (nat_lit 0))), (nat_lit 12, (.ofNat (nat_lit 0)))]), (nat_lit 4, nat_lit 0, [(nat_lit 0, (.ofNat (nat_lit 0))), (nat_lit 0, (.ofNat (nat_lit 11)))]), (nat_lit 6, nat_lit 1, [(nat_lit 11, (.ofNat (nat_lit 0))), (nat_lit 0, (.ofNat (nat_lit 0)))]), (nat_lit 8, nat_lit 2, [(nat_lit 0, (.ofNat (nat_lit 0))), (nat_lit 0, (.ofNat (nat_lit 100)))]), (nat_lit 5, nat_lit 0, [(nat_lit 7, (.ofNat (nat_lit 0))), (nat_lit 4, (.ofNat (nat_lit 0))), (nat_lit 10, (.ofNat (nat_lit 0)))]), (nat_lit 4, nat_lit 0, [(nat_lit 0, (.ofNat (nat_lit 0))), (nat_lit 0, (.ofNat (nat_lit 11)))]), (nat_lit 6, nat_lit 2, [(nat_lit 9, (.ofNat (nat_lit 0))), (nat_lit 0, (.ofNat (nat_lit 0)))]), (nat_lit 8, nat_lit 3, [(nat_lit 7, (.ofNat (nat_lit 0))), (nat_lit 8, (.ofNat (nat_lit 0)))]), (nat_lit 4, nat_lit 0, [(nat_lit 0, (.ofNat (nat_lit 0))), (nat_lit 0, (.ofNat (nat_lit 11)))]), (nat_lit 4, nat_lit 0, [(nat_lit 0, (.ofNat (nat_lit 0))), (nat_lit 0, (.ofNat (nat_lit 17)))]), (nat_lit 6, nat_lit 1, [(nat_lit 6, (.ofNat (nat_lit 0))), (nat_lit 0, (.ofNat (nat_lit 0)))]), (nat_lit 8, nat_lit 2, [(nat_lit 0, (.ofNat (nat_lit 0))), (nat_lit 0, (.ofNat (nat_lit 11)))]), (nat_lit 4, nat_lit 0, [(nat_lit 0, (.ofNat (nat_lit 0))), (nat_lit 0, (.ofNat (nat_lit 10)))]), (nat_lit 0, nat_lit 1, [(nat_lit 0, (.ofNat (nat_lit 4))), (nat_lit 3, (.ofNat (nat_lit 0)))]), (nat_lit 4, nat_lit 0, [(nat_lit 0, (.ofNat (nat_lit 0))), (nat_lit 0, (.ofNat (nat_lit 17)))]), (nat_lit 8, nat_lit 1, []), (nat_lit 6, nat_lit 1, [(nat_lit 1, (.ofNat (nat_lit 0))), (nat_lit 0, (.ofNat (nat_lit 4)))]), (nat_lit 4, nat_lit 0, [(nat_lit 0, (.ofNat (nat_lit 0))), (nat_lit 0, (.ofNat (nat_lit 17)))])],
  [(nat_lit 7, nat_lit 2, [(nat_lit 0, (.ofNat (nat_lit 0)))]), (nat_lit 6, nat_lit 0, [(nat_lit 19, (.ofNat (nat_lit 0))), (nat_lit 0, (.ofNat (nat_lit 0)))]), (nat_lit 8, nat_lit 2, [(nat_lit 0, (.ofNat (nat_lit 1))), (nat_lit 0, (.ofNat (nat_lit 9)))]), (nat_lit 5, nat_lit 0, [(nat_lit 10, (.ofNat (nat_lit 0))), (nat_lit 4, (.ofNat (nat_lit 0))), (nat_lit 18, (.ofNat (nat_lit 0)))]), (nat_lit 4, nat_lit 0, [(nat_lit 0, (.ofNat (nat_lit 0))), (nat_lit 0, (.ofNat (nat_lit 11)))]), (nat_lit 6, nat_lit 1, [(nat_lit 17, (.ofNat (nat_lit 0))), (nat_lit 0, (.ofNat (nat_lit 0)))]), (nat_lit 8, nat_lit 2, [(nat_lit 0, (.ofNat (nat_lit 0))), (nat_lit 16, (.ofNat (nat_lit 0)))]), (nat_lit 0, nat_lit 2, [(nat_lit 0, (.ofNat (nat_lit 100))), (nat_lit 15, (.ofNat (nat_lit 0)))]), (nat_lit 4, nat_lit 0, [(nat_lit 8, (.ofNat (nat_lit 0))), (nat_lit 4, (.ofNat (nat_lit 0)))]), (nat_lit 5, nat_lit 0, [(nat_lit 9, (.ofNat (nat_lit 0))), (nat_lit 4, (.ofNat (nat_lit 0))), (nat_lit 14, (.ofNat (nat_lit 0)))]), (nat_lit 4, nat_lit 0, [(nat_lit 0, (.ofNat (nat_lit 0))), (nat_lit 0, (.ofNat (nat_lit 11)))]), (nat_lit 6, nat_lit 1, [(nat_lit 13, (.ofNat (nat_lit 0))), (nat_lit 0, (.ofNat (nat_lit 0)))]), (nat_lit 8, nat_lit 2, [(nat_lit 0, (.ofNat (nat_lit 1))), (nat_lit 0, (.ofNat (nat_lit 9)))]), (nat_lit 5, nat_lit 0, [(nat_lit 8, (.ofNat (nat_lit 0))), (nat_lit 4, (.ofNat (nat_lit 0))), (nat_lit 12, (.ofNat (nat_lit 0)))]), (nat_lit 4, nat_lit 0, [(nat_lit 0, (.ofNat (nat_lit 0))), (nat_lit 0, (.ofNat (nat_lit 11)))]), (nat_lit 6, nat_lit 1, [(nat_lit 11, (.ofNat (nat_lit 0))), (nat_lit 0, (.ofNat (nat_lit 0)))]), (nat_lit 8, nat_lit 2, [(nat_lit 0, (.ofNat (nat_lit 0))), (nat_lit 0, (.ofNat (nat_lit 100)))]), (nat_lit 5, nat_lit 0, [(nat_lit 7, (.ofNat (nat_lit 0))), (nat_lit 4, (.ofNat (nat_lit 0))), (nat_lit 10, (.ofNat (nat_lit 0)))]), (nat_lit 4, nat_lit 0, [(nat_lit 0, (.ofNat (nat_lit 0))), (nat_lit 0, (.ofNat (nat_lit 11)))]), (nat_lit 6, nat_lit 2, [(nat_lit 9, (.ofNat (nat_lit 0))), (nat_lit 0, (.ofNat (nat_lit 0)))]), (nat_lit 8, nat_lit 3, [(nat_lit 7, (.ofNat (nat_lit 0))), (nat_lit 8, (.ofNat (nat_lit 0)))]), (nat_lit 4, nat_lit 0, [(nat_lit 0, (.ofNat (nat_lit 0))), (nat_lit 0, (.ofNat (nat_lit 11)))]), (nat_lit 4, nat_lit 0, [(nat_lit 0, (.ofNat (nat_lit 0))), (nat_lit 0, (.ofNat (nat_lit 17)))]), (nat_lit 6, nat_lit 1, [(nat_lit 6, (.ofNat (nat_lit 0))), (nat_lit 0, (.ofNat (nat_lit 0)))]), (nat_lit 8, nat_lit 2, [(nat_lit 0, (.ofNat (nat_lit 0))), (nat_lit 0, (.ofNat (nat_lit 11)))]), (nat_lit 4, nat_lit 0, [(nat_lit 0, (.ofNat (nat_lit 0))), (nat_lit 0, (.ofNat (nat_lit 10)))]), (nat_lit 0, nat_lit 1, [(nat_lit 0, (.ofNat (nat_lit 4))), (nat_lit 3, (.ofNat (nat_lit 0)))]), (nat_lit 4, nat_lit 0, [(nat_lit 0, (.ofNat (nat_lit 0))), (nat_lit 0, (.ofNat (nat_lit 17)))]), (nat_lit 8, nat_lit 1, []), (nat_lit 6, nat_lit 1, [(nat_lit 1, (.ofNat (nat_lit 0))), (nat_lit 0, (.ofNat (nat_lit 4)))]), (nat_lit 4, nat_lit 0, [(nat_lit 0, (.ofNat (nat_lit 0))), (nat_lit 0, (.ofNat (nat_lit 17)))])],
  [(nat_lit 7, nat_lit 2, [(nat_lit 0, (.ofNat (nat_lit 0)))]), (nat_lit 6, nat_lit 0, [(nat_lit 17, (.ofNat (nat_lit 0))), (nat_lit 0, (.ofNat (nat_lit 0)))]), (nat_lit 8, nat_lit 2, [(nat_lit 0, (.ofNat (nat_lit 0))), (nat_lit 16, (.ofNat (nat_lit 0)))]), (nat_lit 0, nat_lit 2, [(nat_lit 0, (.ofNat (nat_lit 100))), (nat_lit 15, (.ofNat (nat_lit 0)))]), (nat_lit 4, nat_lit 0, [(nat_lit 8, (.ofNat (nat_lit 0))), (nat_lit 4, (.ofNat (nat_lit 0)))]), (nat_lit 5, nat_lit 0, [(nat_lit 9, (.ofNat (nat_lit 0))), (nat_lit 4, (.ofNat (nat_lit 0))), (nat_lit 14, (.ofNat (nat_lit 0)))]), (nat_lit 4, nat_lit 0, [(nat_lit 0, (.ofNat (nat_lit 0))), (nat_lit 0, (.ofNat (nat_lit 11)))]), (nat_lit 6, nat_lit 1, [(nat_lit 13, (.ofNat (nat_lit 0))), (nat_lit 0, (.ofNat (nat_lit 0)))]), (nat_lit 8, nat_lit 2, [(nat_lit 0, (.ofNat (nat_lit 1))), (nat_lit 0, (.ofNat (nat_lit 9)))]), (nat_lit 5, nat_lit 0, [(nat_lit 8, (.ofNat (nat_lit 0))), (nat_lit 4, (.ofNat (nat_lit 0))), (nat_lit 12, (.ofNat (nat_lit 0)))]), (nat_lit 4, nat_lit 0, [(nat_lit 0, (.ofNat (nat_lit 0))), (nat_lit 0, (.ofNat (nat_lit 11)))]), (nat_lit 6, nat_lit 1, [(nat_lit 11, (.ofNat (nat_lit 0))), (nat_lit 0, (.ofNat (nat_lit 0)))]), (nat_lit 8, nat_lit 2, [(nat_lit 0, (.ofNat (nat_lit 0))), (nat_lit 0, (.ofNat (nat_lit 100)))]), (nat_lit 5, nat_lit 0, [(nat_lit 7, (.ofNat (nat_lit 0))), (nat_lit 4, (.ofNat (nat_lit 0))), (nat_lit 10, (.ofNat (nat_lit 0)))]), (nat_lit 4, nat_lit 0, [(nat_lit 0, (.ofNat (nat_lit 0))), (nat_lit 0, (.ofNat (nat_lit 11)))]), (nat_lit 6, nat_lit 2, [(nat_lit 9, (.ofNat (nat_lit 0))), (nat_lit 0, (.ofNat (nat_lit 0)))]), (nat_lit 8, nat_lit 3, [(nat_lit 7, (.ofNat (nat_lit 0))), (nat_lit 8, (.ofNat (nat_lit 0)))]), (nat_lit 4, nat_lit 0, [(nat_lit 0, (.ofNat (nat_lit 0))), (nat_lit 0, (.ofNat (nat_lit 11)))]), (nat_lit 4, nat_lit 0, [(nat_lit 0, (.ofNat (nat_lit 0))), (nat_lit 0, (.ofNat (nat_lit 17)))]), (nat_lit 6, nat_lit 1, [(nat_lit 6, (.ofNat (nat_lit 0))), (nat_lit 0, (.ofNat (nat_lit 0)))]), (nat_lit 8, nat_lit 2, [(nat_lit 0, (.ofNat (nat_lit 0))), (nat_lit 0, (.ofNat (nat_lit 11)))]), (nat_lit 4, nat_lit 0, [(nat_lit 0, (.ofNat (nat_lit 0))), (nat_lit 0, (.ofNat (nat_lit 10)))]), (nat_lit 0, nat_lit 1, [(nat_lit 0, (.ofNat (nat_lit 4))), (nat_lit 3, (.ofNat (nat_lit 0)))]), (nat_lit 4, nat_lit 0, [(nat_lit 0, (.ofNat (nat_lit 0))), (nat_lit 0, (.ofNat (nat_lit 17)))]), (nat_lit 8, nat_lit 1, []), (nat_lit 6, nat_lit 1, [(nat_lit 1, (.ofNat (nat_lit 0))), (nat_lit 0, (.ofNat (nat_lit 4)))]), (nat_lit 4, nat_lit 0, [(nat_lit 0, (.ofNat (nat_lit 0))), (nat_lit 0, (.ofNat (nat_lit 17)))])],
  [(nat_lit 7, nat_lit 2, [(nat_lit 0, (.ofNat (nat_lit 0)))]), (nat_lit 6, nat_lit 0, [(nat_lit 13, (.ofNat (nat_lit 0))), (nat_lit 0, (.ofNat (nat_lit 0)))]), (nat_lit 8, nat_lit 2, [(nat_lit 0, (.ofNat (nat_lit 1))), (nat_lit 0, (.ofNat (nat_lit 9)))]), (nat_lit 5, nat_lit 0, [(nat_lit 8, (.ofNat (nat_lit 0))), (nat_lit 4, (.ofNat (nat_lit 0))), (nat_lit 12, (.ofNat (nat_lit 0)))]), (nat_lit 4, nat_lit 0, [(nat_lit 0, (.ofNat (nat_lit 0))), (nat_lit 0, (.ofNat (nat_lit 11)))]), (nat_lit 6, nat_lit 1, [(nat_lit 11, (.ofNat (nat_lit 0))), (nat_lit 0, (.ofNat (nat_lit 0)))]), (nat_lit 8, nat_lit 2, [(nat_lit 0, (.ofNat (nat_lit 0))), (nat_lit 0, (.ofNat (nat_lit 100)))]), (nat_lit 5, nat_lit 0, [(nat_lit 7, (.ofNat (nat_lit 0))), (nat_lit 4, (.ofNat (nat_lit 0))), (nat_lit 10, (.ofNat (nat_lit 0)))]), (nat_lit 4, nat_lit 0, [(nat_lit 0, (.ofNat (nat_lit 0))), (nat_lit 0, (.ofNat (nat_lit 11)))]), (nat_lit 6, nat_lit 2, [(nat_lit 9, (.ofNat (nat_lit 0))), (nat_lit 0, (.ofNat (nat_lit 0)))]), (nat_lit 8, nat_lit 3, [(nat_lit 7, (.ofNat (nat_lit 0))), (nat_lit 8, (.ofNat (nat_lit 0)))]), (nat_lit 4, nat_lit 0, [(nat_lit 0, (.ofNat (nat_lit 0))), (nat_lit 0, (.ofNat (nat_lit 11)))]), (nat_lit 4, nat_lit 0, [(nat_lit 0, (.ofNat (nat_lit 0))), (nat_lit 0, (.ofNat (nat_lit 17)))]), (nat_lit 6, nat_lit 1, [(nat_lit 6, (.ofNat (nat_lit 0))), (nat_lit 0, (.ofNat (nat_lit 0)))]), (nat_lit 8, nat_lit 2, [(nat_lit 0, (.ofNat (nat_lit 0))), (nat_lit 0, (.ofNat (nat_lit 11)))]), (nat_lit 4, nat_lit 0, [(nat_lit 0, (.ofNat (nat_lit 0))), (nat_lit 0, (.ofNat (nat_lit 10)))]), (nat_lit 0, nat_lit 1, [(nat_lit 0, (.ofNat (nat_lit 4))), (nat_lit 3, (.ofNat (nat_lit 0)))]), (nat_lit 4, nat_lit 0, [(nat_lit 0, (.ofNat (nat_lit 0))), (nat_lit 0, (.ofNat (nat_lit 17)))]), (nat_lit 8, nat_lit 1, []), (nat_lit 6, nat_lit 1, [(nat_lit 1, (.ofNat (nat_lit 0))), (nat_lit 0, (.ofNat (nat_lit 4)))]), (nat_lit 4, nat_lit 0, [(nat_lit 0, (.ofNat (nat_lit 0))), (nat_lit 0, (.ofNat (nat_lit 17)))])],
  [(nat_lit 7, nat_lit 2, [(nat_lit 0, (.ofNat (nat_lit 0)))]), (nat_lit 6, nat_lit 0, [(nat_lit 11, (.ofNat (nat_lit 0))), (nat_lit 0, (.ofNat (nat_lit 0)))]), (nat_lit 8, nat_lit 2, [(nat_lit 0, (.ofNat (nat_lit 0))), (nat_lit 0, (.ofNat (nat_lit 100)))]), (nat_lit 5, nat_lit 0, [(nat_lit 7, (.ofNat (nat_lit 0))), (nat_lit 4, (.ofNat (nat_lit 0))), (nat_lit 10, (.ofNat (nat_lit 0)))]), (nat_lit 4, nat_lit 0, [(nat_lit 0, (.ofNat (nat_lit 0))), (nat_lit 0, (.ofNat (nat_lit 11)))]), (nat_lit 6, nat_lit 2, [(nat_lit 9, (.ofNat (nat_lit 0))), (nat_lit 0, (.ofNat (nat_lit 0)))]), (nat_lit 8, nat_lit 3, [(nat_lit 7, (.ofNat (nat_lit 0))), (nat_lit 8, (.ofNat (nat_lit 0)))]), (nat_lit 4, nat_lit 0, [(nat_lit 0, (.ofNat (nat_lit 0))), (nat_lit 0, (.ofNat (nat_lit 11)))]), (nat_lit 4, nat_lit 0, [(nat_lit 0, (.ofNat (nat_lit 0))), (nat_lit 0, (.ofNat (nat_lit 17)))]), (nat_lit 6, nat_lit 1, [(nat_lit 6, (.ofNat (nat_lit 0))), (nat_lit 0, (.ofNat (nat_lit 0)))]), (nat_lit 8, nat_lit 2, [(nat_lit 0, (.ofNat (nat_lit 0))), (nat_lit 0, (.ofNat (nat_lit 11)))]), (nat_lit 4, nat_lit 0, [(nat_lit 0, (.ofNat (nat_lit 0))), (nat_lit 0, (.ofNat (nat_lit 10)))]), (nat_lit 0, nat_lit 1, [(nat_lit 0, (.ofNat (nat_lit 4))), (nat_lit 3, (.ofNat (nat_lit 0)))]), (nat_lit 4, nat_lit 0, [(nat_lit 0, (.ofNat (nat_lit 0))), (nat_lit 0, (.ofNat (nat_lit 17)))]), (nat_lit 8, nat_lit 1, []), (nat_lit 6, nat_lit 1, [(nat_lit 1, (.ofNat (nat_lit 0))), (nat_lit 0, (.ofNat (nat_lit 4)))]), (nat_lit 4, nat_lit 0, [(nat_lit 0, (.ofNat (nat_lit 0))), (nat_lit 0, (.ofNat (nat_lit 17)))])],
  [(nat_lit 7, nat_lit 2, [(nat_lit 10, (.ofNat (nat_lit 0)))]), (nat_lit 8, nat_lit 0, [(nat_lit 0, (.ofNat (nat_lit 3)))]), (nat_lit 5, nat_lit 0, [(nat_lit 0, (.ofNat (nat_lit 0))), (nat_lit 0, (.ofNat (nat_lit 10))), (nat_lit 5, (.ofNat (nat_lit 0)))]), (nat_lit 6, nat_lit 3, [(nat_lit 9, (.ofNat (nat_lit 0))), (nat_lit 0, (.ofNat (nat_lit 0)))]), (nat_lit 8, nat_lit 3, [(nat_lit 7, (.ofNat (nat_lit 0))), (nat_lit 8, (.ofNat (nat_lit 0)))]), (nat_lit 4, nat_lit 0, [(nat_lit 0, (.ofNat (nat_lit 0))), (nat_lit 0, (.ofNat (nat_lit 11)))]), (nat_lit 4, nat_lit 0, [(nat_lit 0, (.ofNat (nat_lit 0))), (nat_lit 0, (.ofNat (nat_lit 17)))]), (nat_lit 6, nat_lit 1, [(nat_lit 6, (.ofNat (nat_lit 0))), (nat_lit 0, (.ofNat (nat_lit 0)))]), (nat_lit 8, nat_lit 2, [(nat_lit 0, (.ofNat (nat_lit 0))), (nat_lit 0, (.ofNat (nat_lit 11)))]), (nat_lit 4, nat_lit 0, [(nat_lit 0, (.ofNat (nat_lit 0))), (nat_lit 0, (.ofNat (nat_lit 10)))]), (nat_lit 0, nat_lit 1, [(nat_lit 0, (.ofNat (nat_lit 4))), (nat_lit 3, (.ofNat (nat_lit 0)))]), (nat_lit 4, nat_lit 0, [(nat_lit 0, (.ofNat (nat_lit 0))), (nat_lit 0, (.ofNat (nat_lit 17)))]), (nat_lit 8, nat_lit 1, []), (nat_lit 6, nat_lit 1, [(nat_lit 1, (.ofNat (nat_lit 0))), (nat_lit 0, (.ofNat (nat_lit 4)))]), (nat_lit 4, nat_lit 0, [(nat_lit 0, (.ofNat (nat_lit 0))), (nat_lit 0, (.ofNat (nat_lit 17)))])],
  [(nat_lit 7, nat_lit 2, [(nat_lit 0, (.ofNat (nat_lit 0)))]), (nat_lit 6, nat_lit 0, [(nat_lit 6, (.ofNat (nat_lit 0))), (nat_lit 0, (.ofNat (nat_lit 0)))]), (nat_lit 8, nat_lit 2, [(nat_lit 0, (.ofNat (nat_lit 0))), (nat_lit 0, (.ofNat (nat_lit 11)))]), (nat_lit 4, nat_lit 0, [(nat_lit 0, (.ofNat (nat_lit 0))), (nat_lit 0, (.ofNat (nat_lit 10)))]), (nat_lit 0, nat_lit 1, [(nat_lit 0, (.ofNat (nat_lit 4))), (nat_lit 3, (.ofNat (nat_lit 0)))]), (nat_lit 4, nat_lit 0, [(nat_lit 0, (.ofNat (nat_lit 0))), (nat_lit 0, (.ofNat (nat_lit 17)))]), (nat_lit 8, nat_lit 1, []), (nat_lit 6, nat_lit 1, [(nat_lit 1, (.ofNat (nat_lit 0))), (nat_lit 0, (.ofNat (nat_lit 4)))]), (nat_lit 4, nat_lit 0, [(nat_lit 0, (.ofNat (nat_lit 0))), (nat_lit 0, (.ofNat (nat_lit 17)))])],
  [(nat_lit 7, nat_lit 2, [(nat_lit 2, (.ofNat (nat_lit 0)))]), (nat_lit 8, nat_lit 0, [(nat_lit 0, (.ofNat (nat_lit 2)))]), (nat_lit 6, nat_lit 0, [(nat_lit 1, (.ofNat (nat_lit 0))), (nat_lit 0, (.ofNat (nat_lit 4)))]), (nat_lit 4, nat_lit 0, [(nat_lit 0, (.ofNat (nat_lit 0))), (nat_lit 0, (.ofNat (nat_lit 17)))])]]
def zEne_scratLine : List (List zK) := [[(nat_lit 13, nat_lit 1, []), (nat_lit 6, nat_lit 1, [(nat_lit 1, (.ofNat (nat_lit 0))), (nat_lit 0, (.ofNat (nat_lit 4)))]), (nat_lit 4, nat_lit 0, [(nat_lit 0, (.ofNat (nat_lit 0))), (nat_lit 0, (.ofNat (nat_lit 17)))])],
  [(nat_lit 13, nat_lit 2, [(nat_lit 0, (.ofNat (nat_lit 0))), (nat_lit 0, (.ofNat (nat_lit 11)))]), (nat_lit 4, nat_lit 0, [(nat_lit 0, (.ofNat (nat_lit 0))), (nat_lit 0, (.ofNat (nat_lit 10)))]), (nat_lit 0, nat_lit 1, [(nat_lit 0, (.ofNat (nat_lit 4))), (nat_lit 3, (.ofNat (nat_lit 0)))]), (nat_lit 4, nat_lit 0, [(nat_lit 0, (.ofNat (nat_lit 0))), (nat_lit 0, (.ofNat (nat_lit 17)))]), (nat_lit 8, nat_lit 1, []), (nat_lit 6, nat_lit 1, [(nat_lit 1, (.ofNat (nat_lit 0))), (nat_lit 0, (.ofNat (nat_lit 4)))]), (nat_lit 4, nat_lit 0, [(nat_lit 0, (.ofNat (nat_lit 0))), (nat_lit 0, (.ofNat (nat_lit 17)))])],
  [(nat_lit 13, nat_lit 3, [(nat_lit 7, (.ofNat (nat_lit 0))), (nat_lit 8, (.ofNat (nat_lit 0)))]), (nat_lit 4, nat_lit 0, [(nat_lit 0, (.ofNat (nat_lit 0))), (nat_lit 0, (.ofNat (nat_lit 11)))]), (nat_lit 4, nat_lit 0, [(nat_lit 0, (.ofNat (nat_lit 0))), (nat_lit 0, (.ofNat (nat_lit 17)))]), (nat_lit 6, nat_lit 1, [(nat_lit 6, (.ofNat (nat_lit 0))), (nat_lit 0, (.ofNat (nat_lit 0)))]), (nat_lit 8, nat_lit 2, [(nat_lit 0, (.ofNat (nat_lit 0))), (nat_lit 0, (.ofNat (nat_lit 11)))]), (nat_lit 4, nat_lit 0, [(nat_lit 0, (.ofNat (nat_lit 0))), (nat_lit 0, (.ofNat (nat_lit 10)))]), (nat_lit 0, nat_lit 1, [(nat_lit 0, (.ofNat (nat_lit 4))), (nat_lit 3, (.ofNat (nat_lit 0)))]), (nat_lit 4, nat_lit 0, [(nat_lit 0, (.ofNat (nat_lit 0))), (nat_lit 0, (.ofNat (nat_lit 17)))]), (nat_lit 8, nat_lit 1, []), (nat_lit 6, nat_lit 1, [(nat_lit 1, (.ofNat (nat_lit 0))), (nat_lit 0, (.ofNat (nat_lit 4)))]), (nat_lit 4, nat_lit 0, [(nat_lit 0, (.ofNat (nat_lit 0))), (nat_lit 0, (.ofNat (nat_lit 17)))])],
  [(nat_lit 13, nat_lit 2, [(nat_lit 0, (.ofNat (nat_lit 0))), (nat_lit 0, (.ofNat (nat_lit 100)))]), (nat_lit 5, nat_lit 0, [(nat_lit 7, (.ofNat (nat_lit 0))), (nat_lit 4, (.ofNat (nat_lit 0))), (nat_lit 10, (.ofNat (nat_lit 0)))]), (nat_lit 4, nat_lit 0, [(nat_lit 0, (.ofNat (nat_lit 0))), (nat_lit 0, (.ofNat (nat_lit 11)))]), (nat_lit 6, nat_lit 2, [(nat_lit 9, (.ofNat (nat_lit 0))), (nat_lit 0, (.ofNat (nat_lit 0)))]), (nat_lit 8, nat_lit 3, [(nat_lit 7, (.ofNat (nat_lit 0))), (nat_lit 8, (.ofNat (nat_lit 0)))]), (nat_lit 4, nat_lit 0, [(nat_lit 0, (.ofNat (nat_lit 0))), (nat_lit 0, (.ofNat (nat_lit 11)))]), (nat_lit 4, nat_lit 0, [(nat_lit 0, (.ofNat (nat_lit 0))), (nat_lit 0, (.ofNat (nat_lit 17)))]), (nat_lit 6, nat_lit 1, [(nat_lit 6, (.ofNat (nat_lit 0))), (nat_lit 0, (.ofNat (nat_lit 0)))]), (nat_lit 8, nat_lit 2, [(nat_lit 0, (.ofNat (nat_lit 0))), (nat_lit 0, (.ofNat (nat_lit 11)))]), (nat_lit 4, nat_lit 0, [(nat_lit 0, (.ofNat (nat_lit 0))), (nat_lit 0, (.ofNat (nat_lit 10)))]), (nat_lit 0, nat_lit 1, [(nat_lit 0, (.ofNat (nat_lit 4))), (nat_lit 3, (.ofNat (nat_lit 0)))]), (nat_lit 4, nat_lit 0, [(nat_lit 0, (.ofNat (nat_lit 0))), (nat_lit 0, (.ofNat (nat_lit 17)))]), (nat_lit 8, nat_lit 1, []), (nat_lit 6, nat_lit 1, [(nat_lit 1, (.ofNat (nat_lit 0))), (nat_lit 0, (.ofNat (nat_lit 4)))]), (nat_lit 4, nat_lit 0, [(nat_lit 0, (.ofNat (nat_lit 0))), (nat_lit 0, (.ofNat (nat_lit 17)))])],
  [(nat_lit 13, nat_lit 2, [(nat_lit 0, (.ofNat (nat_lit 1))), (nat_lit 0, (.ofNat (nat_lit 9)))]), (nat_lit 5, nat_lit 0, [(nat_lit 8, (.ofNat (nat_lit 0))), (nat_lit 4, (.ofNat (nat_lit 0))), (nat_lit 12, (.ofNat (nat_lit 0)))]), (nat_lit 4, nat_lit 0, [(nat_lit 0, (.ofNat (nat_lit 0))), (nat_lit 0, (.ofNat (nat_lit 11)))]), (nat_lit 6, nat_lit 1, [(nat_lit 11, (.ofNat (nat_lit 0))), (nat_lit 0, (.ofNat (nat_lit 0)))]), (nat_lit 8, nat_lit 2, [(nat_lit 0, (.ofNat (nat_lit 0))), (nat_lit 0, (.ofNat (nat_lit 100)))]), (nat_lit 5, nat_lit 0, [(nat_lit 7, (.ofNat (nat_lit 0))), (nat_lit 4, (.ofNat (nat_lit 0))), (nat_lit 10, (.ofNat (nat_lit 0)))]), (nat_lit 4, nat_lit 0, [(nat_lit 0, (.ofNat (nat_lit 0))), (nat_lit 0, (.ofNat (nat_lit 11)))]), (nat_lit 6, nat_lit 2, [(nat_lit 9, (.ofNat (nat_lit 0))), (nat_lit 0, (.ofNat (nat_lit 0)))]), (nat_lit 8, nat_lit 3, [(nat_lit 7, (.ofNat (nat_lit 0))), (nat_lit 8, (.ofNat (nat_lit 0)))]), (nat_lit 4, nat_lit 0, [(nat_lit 0, (.ofNat (nat_lit 0))), (nat_lit 0, (.ofNat (nat_lit 11)))]), (nat_lit 4, nat_lit 0, [(nat_lit 0, (.ofNat (nat_lit 0))), (nat_lit 0, (.ofNat (nat_lit 17)))]), (nat_lit 6, nat_lit 1, [(nat_lit 6, (.ofNat (nat_lit 0))), (nat_lit 0, (.ofNat (nat_lit 0)))]), (nat_lit 8, nat_lit 2, [(nat_lit 0, (.ofNat (nat_lit 0))), (nat_lit 0, (.ofNat (nat_lit 11)))]), (nat_lit 4, nat_lit 0, [(nat_lit 0, (.ofNat (nat_lit 0))), (nat_lit 0, (.ofNat (nat_lit 10)))]), (nat_lit 0, nat_lit 1, [(nat_lit 0, (.ofNat (nat_lit 4))), (nat_lit 3, (.ofNat (nat_lit 0)))]), (nat_lit 4, nat_lit 0, [(nat_lit 0, (.ofNat (nat_lit 0))), (nat_lit 0, (.ofNat (nat_lit 17)))]), (nat_lit 8, nat_lit 1, []), (nat_lit 6, nat_lit 1, [(nat_lit 1, (.ofNat (nat_lit 0))), (nat_lit 0, (.ofNat (nat_lit 4)))]), (nat_lit 4, nat_lit 0, [(nat_lit 0, (.ofNat (nat_lit 0))), (nat_lit 0, (.ofNat (nat_lit 17)))])],
  [(nat_lit 13, nat_lit 2, [(nat_lit 0, (.ofNat (nat_lit 0))), (nat_lit 16, (.ofNat (nat_lit 0)))]), (nat_lit 0, nat_lit 2, [(nat_lit 0, (.ofNat (nat_lit 100))), (nat_lit 15, (.ofNat (nat_lit 0)))]), (nat_lit 4, nat_lit 0, [(nat_lit 8, (.ofNat (nat_lit 0))), (nat_lit 4, (.ofNat (nat_lit 0)))]), (nat_lit 5, nat_lit 0, [(nat_lit 9, (.ofNat (nat_lit 0))), (nat_lit 4, (.ofNat (nat_lit 0))), (nat_lit 14, (.ofNat (nat_lit 0)))]), (nat_lit 4, nat_lit 0, [(nat_lit 0, (.ofNat (nat_lit 0))), (nat_lit 0, (.ofNat (nat_lit 11)))]), (nat_lit 6, nat_lit 1, [(nat_lit 13, (.ofNat (nat_lit 0))), (nat_lit 0, (.ofNat (nat_lit 0)))]), (nat_lit 8, nat_lit 2, [(nat_lit 0, (.ofNat (nat_lit 1))), (nat_lit 0, (.ofNat (nat_lit 9)))]), (nat_lit 5, nat_lit 0, [(nat_lit 8, (.ofNat (nat_lit 0))), (nat_lit 4, (.ofNat (nat_lit 0))), (nat_lit 12, (.ofNat (nat_lit 0)))]), (nat_lit 4, nat_lit 0, [(nat_lit 0, (.ofNat (nat_lit 0))), (nat_lit 0, (.ofNat (nat_lit 11)))]), (nat_lit 6, nat_lit 1, [(nat_lit 11, (.ofNat (nat_lit 0))), (nat_lit 0, (.ofNat (nat_lit 0)))]), (nat_lit 8, nat_lit 2, [(nat_lit 0, (.ofNat (nat_lit 0))), (nat_lit 0, (.ofNat (nat_lit 100)))]), (nat_lit 5, nat_lit 0, [(nat_lit 7, (.ofNat (nat_lit 0))), (nat_lit 4, (.ofNat (nat_lit 0))), (nat_lit 10, (.ofNat (nat_lit 0)))]), (nat_lit 4, nat_lit 0, [(nat_lit 0, (.ofNat (nat_lit 0))), (nat_lit 0, (.ofNat (nat_lit 11)))]), (nat_lit 6, nat_lit 2, [(nat_lit 9, (.ofNat (nat_lit 0))), (nat_lit 0, (.ofNat (nat_lit 0)))]), (nat_lit 8, nat_lit 3, [(nat_lit 7, (.ofNat (nat_lit 0))), (nat_lit 8, (.ofNat (nat_lit 0)))]), (nat_lit 4, nat_lit 0, [(nat_lit 0, (.ofNat (nat_lit 0))), (nat_lit 0, (.ofNat (nat_lit 11)))]), (nat_lit 4, nat_lit 0, [(nat_lit 0, (.ofNat (nat_lit 0))), (nat_lit 0, (.ofNat (nat_lit 17)))]), (nat_lit 6, nat_lit 1, [(nat_lit 6, (.ofNat (nat_lit 0))), (nat_lit 0, (.ofNat (nat_lit 0)))]), (nat_lit 8, nat_lit 2, [(nat_lit 0, (.ofNat (nat_lit 0))), (nat_lit 0, (.ofNat (nat_lit 11)))]), (nat_lit 4, nat_lit 0, [(nat_lit 0, (.ofNat (nat_lit 0))), (nat_lit 0, (.ofNat (nat_lit 10)))]), (nat_lit 0, nat_lit 1, [(nat_lit 0, (.ofNat (nat_lit 4))), (nat_lit 3, (.ofNat (nat_lit 0)))]), (nat_lit 4, nat_lit 0, [(nat_lit 0, (.ofNat (nat_lit 0))), (nat_lit 0, (.ofNat (nat_lit 17)))]), (nat_lit 8, nat_lit 1, []), (nat_lit 6, nat_lit 1, [(nat_lit 1, (.ofNat (nat_lit 0))), (nat_lit 0, (.ofNat (nat_lit 4)))]), (nat_lit 4, nat_lit 0, [(nat_lit 0, (.ofNat (nat_lit 0))), (nat_lit 0, (.ofNat (nat_lit 17)))])],
  [(nat_lit 13, nat_lit 2, [(nat_lit 0, (.ofNat (nat_lit 1))), (nat_lit 0, (.ofNat (nat_lit 9)))]), (nat_lit 5, nat_lit 0, [(nat_lit 10, (.ofNat (nat_lit 0))), (nat_lit 4, (.ofNat (nat_lit 0))), (nat_lit 18, (.ofNat (nat_lit 0)))]), (nat_lit 4, nat_lit 0, [(nat_lit 0, (.ofNat (nat_lit 0))), (nat_lit 0, (.ofNat (nat_lit 11)))]), (nat_lit 6, nat_lit 1, [(nat_lit 17, (.ofNat (nat_lit 0))), (nat_lit 0, (.ofNat (nat_lit 0)))]), (nat_lit 8, nat_lit 2, [(nat_lit 0, (.ofNat (nat_lit 0))), (nat_lit 16, (.ofNat (nat_lit 0)))]), (nat_lit 0, nat_lit 2, [(nat_lit 0, (.ofNat (nat_lit 100))), (nat_lit 15, (.ofNat (nat_lit 0)))]), (nat_lit 4, nat_lit 0, [(nat_lit 8, (.ofNat (nat_lit 0))), (nat_lit 4, (.ofNat (nat_lit 0)))]), (nat_lit 5, nat_lit 0, [(nat_lit 9, (.ofNat (nat_lit 0))), (nat_lit 4, (.ofNat (nat_lit 0))), (nat_lit 14, (.ofNat (nat_lit 0)))]), (nat_lit 4, nat_lit 0, [(nat_lit 0, (.ofNat (nat_lit 0))), (nat_lit 0, (.ofNat (nat_lit 11)))]), (nat_lit 6, nat_lit 1, [(nat_lit 13, (.ofNat (nat_lit 0))), (nat_lit 0, (.ofNat (nat_lit 0)))]), (nat_lit 8, nat_lit 2, [(nat_lit 0, (.ofNat (nat_lit 1))), (nat_lit 0, (.ofNat (nat_lit 9)))]), (nat_lit 5, nat_lit 0, [(nat_lit 8, (.ofNat (nat_lit 0))), (nat_lit 4, (.ofNat (nat_lit 0))), (nat_lit 12, (.ofNat (nat_lit 0)))]), (nat_lit 4, nat_lit 0, [(nat_lit 0, (.ofNat (nat_lit 0))), (nat_lit 0, (.ofNat (nat_lit 11)))]), (nat_lit 6, nat_lit 1, [(nat_lit 11, (.ofNat (nat_lit 0))), (nat_lit 0, (.ofNat (nat_lit 0)))]), (nat_lit 8, nat_lit 2, [(nat_lit 0, (.ofNat (nat_lit 0))), (nat_lit 0, (.ofNat (nat_lit 100)))]), (nat_lit 5, nat_lit 0, [(nat_lit 7, (.ofNat (nat_lit 0))), (nat_lit 4, (.ofNat (nat_lit 0))), (nat_lit 10, (.ofNat (nat_lit 0)))]), (nat_lit 4, nat_lit 0, [(nat_lit 0, (.ofNat (nat_lit 0))), (nat_lit 0, (.ofNat (nat_lit 11)))]), (nat_lit 6, nat_lit 2, [(nat_lit 9, (.ofNat (nat_lit 0))), (nat_lit 0, (.ofNat (nat_lit 0)))]), (nat_lit 8, nat_lit 3, [(nat_lit 7, (.ofNat (nat_lit 0))), (nat_lit 8, (.ofNat (nat_lit 0)))]), (nat_lit 4, nat_lit 0, [(nat_lit 0, (.ofNat (nat_lit 0))), (nat_lit 0, (.ofNat (nat_lit 11)))]), (nat_lit 4, nat_lit 0, [(nat_lit 0, (.ofNat (nat_lit 0))), (nat_lit 0, (.ofNat (nat_lit 17)))]), (nat_lit 6, nat_lit 1, [(nat_lit 6, (.ofNat (nat_lit 0))), (nat_lit 0, (.ofNat (nat_lit 0)))]), (nat_lit 8, nat_lit 2, [(nat_lit 0, (.ofNat (nat_lit 0))), (nat_lit 0, (.ofNat (nat_lit 11)))]), (nat_lit 4, nat_lit 0, [(nat_lit 0, (.ofNat (nat_lit 0))), (nat_lit 0, (.ofNat (nat_lit 10)))]), (nat_lit 0, nat_lit 1, [(nat_lit 0, (.ofNat (nat_lit 4))), (nat_lit 3, (.ofNat (nat_lit 0)))]), (nat_lit 4, nat_lit 0, [(nat_lit 0, (.ofNat (nat_lit 0))), (nat_lit 0, (.ofNat (nat_lit 17)))]), (nat_lit 8, nat_lit 1, []), (nat_lit 6, nat_lit 1, [(nat_lit 1, (.ofNat (nat_lit 0))), (nat_lit 0, (.ofNat (nat_lit 4)))]), (nat_lit 4, nat_lit 0, [(nat_lit 0, (.ofNat (nat_lit 0))), (nat_lit 0, (.ofNat (nat_lit 17)))])],
  [(nat_lit 11, nat_lit 0, [(nat_lit 0, (.ofNat (nat_lit 1)))]), (nat_lit 5, nat_lit 0, [(nat_lit 0, (.ofNat (nat_lit 0))), (nat_lit 0, (.ofNat (nat_lit 17))), (nat_lit 22, (.ofNat (nat_lit 0)))]), (nat_lit 0, nat_lit 1, [(nat_lit 21, (.ofNat (nat_lit 0))), (nat_lit 0, (.ofNat (nat_lit 1)))]), (nat_lit 4, nat_lit 0, [(nat_lit 0, (.ofNat (nat_lit 0))), (nat_lit 0, (.ofNat (nat_lit 17)))]), (nat_lit 5, nat_lit 0, [(nat_lit 11, (.ofNat (nat_lit 0))), (nat_lit 4, (.ofNat (nat_lit 0))), (nat_lit 20, (.ofNat (nat_lit 0)))]), (nat_lit 4, nat_lit 0, [(nat_lit 0, (.ofNat (nat_lit 0))), (nat_lit 0, (.ofNat (nat_lit 11)))]), (nat_lit 6, nat_lit 1, [(nat_lit 19, (.ofNat (nat_lit 0))), (nat_lit 0, (.ofNat (nat_lit 0)))]), (nat_lit 8, nat_lit 2, [(nat_lit 0, (.ofNat (nat_lit 1))), (nat_lit 0, (.ofNat (nat_lit 9)))]), (nat_lit 5, nat_lit 0, [(nat_lit 10, (.ofNat (nat_lit 0))), (nat_lit 4, (.ofNat (nat_lit 0))), (nat_lit 18, (.ofNat (nat_lit 0)))]), (nat_lit 4, nat_lit 0, [(nat_lit 0, (.ofNat (nat_lit 0))), (nat_lit 0, (.ofNat (nat_lit 11)))]), (nat_lit 6, nat_lit 1, [(nat_lit 17, (.ofNat (nat_lit 0))), (nat_lit 0, (.ofNat (nat_lit 0)))]), (nat_lit 8, nat_lit 2, [(nat_lit 0, (.ofNat (nat_lit 0))), (nat_lit 16, (.ofNat (nat_lit 0)))]), (nat_lit 0, nat_lit 2, [(nat_lit 0, (.ofNat (nat_lit 100))), (nat_lit 15, (.ofNat (nat_lit 0)))]), (nat_lit 4, nat_lit 0, [(nat_lit 8, (.ofNat (nat_lit 0))), (nat_lit 4, (.ofNat (nat_lit 0)))]), (nat_lit 5, nat_lit 0, [(nat_lit 9, (.ofNat (nat_lit 0))), (nat_lit 4, (.ofNat (nat_lit 0))), (nat_lit 14, (.ofNat (nat_lit 0)))]), (nat_lit 4, nat_lit 0, [(nat_lit 0, (.ofNat (nat_lit 0))), (nat_lit 0, (.ofNat (nat_lit 11)))]), (nat_lit 6, nat_lit 1, [(nat_lit 13, (.ofNat (nat_lit 0))), (nat_lit 0, (.ofNat (nat_lit 0)))]), (nat_lit 8, nat_lit 2, [(nat_lit 0, (.ofNat (nat_lit 1))), (nat_lit 0, (.ofNat (nat_lit 9)))]), (nat_lit 5, nat_lit 0, [(nat_lit 8, (.ofNat (nat_lit 0))), (nat_lit 4, (.ofNat (nat_lit 0))), (nat_lit 12, (.ofNat (nat_lit 0)))]), (nat_lit 4, nat_lit 0, [(nat_lit 0, (.ofNat (nat_lit 0))), (nat_lit 0, (.ofNat (nat_lit 11)))]), (nat_lit 6, nat_lit 1, [(nat_lit 11, (.ofNat (nat_lit 0))), (nat_lit 0, (.ofNat (nat_lit 0)))]), (nat_lit 8, nat_lit 2, [(nat_lit 0, (.ofNat (nat_lit 0))), (nat_lit 0, (.ofNat (nat_lit 100)))]), (nat_lit 5, nat_lit 0, [(nat_lit 7, (.ofNat (nat_lit 0))), (nat_lit 4, (.ofNat (nat_lit 0))), (nat_lit 10, (.ofNat (nat_lit 0)))]), (nat_lit 4, nat_lit 0, [(nat_lit 0, (.ofNat (nat_lit 0))), (nat_lit 0, (.ofNat (nat_lit 11)))]), (nat_lit 6, nat_lit 2, [(nat_lit 9, (.ofNat (nat_lit 0))), (nat_lit 0, (.ofNat (nat_lit 0)))]), (nat_lit 8, nat_lit 3, [(nat_lit 7, (.ofNat (nat_lit 0))), (nat_lit 8, (.ofNat (nat_lit 0)))]), (nat_lit 4, nat_lit 0, [(nat_lit 0, (.ofNat (nat_lit 0))), (nat_lit 0, (.ofNat (nat_lit 11)))]), (nat_lit 4, nat_lit 0, [(nat_lit 0, (.ofNat (nat_lit 0))), (nat_lit 0, (.ofNat (nat_lit 17)))]), (nat_lit 6, nat_lit 1, [(nat_lit 6, (.ofNat (nat_lit 0))), (nat_lit 0, (.ofNat (nat_lit 0)))]), (nat_lit 8, nat_lit 2, [(nat_lit 0, (.ofNat (nat_lit 0))), (nat_lit 0, (.ofNat (nat_lit 11)))]), (nat_lit 4, nat_lit 0, [(nat_lit 0, (.ofNat (nat_lit 0))), (nat_lit 0, (.ofNat (nat_lit 10)))]), (nat_lit 0, nat_lit 1, [(nat_lit 0, (.ofNat (nat_lit 4))), (nat_lit 3, (.ofNat (nat_lit 0)))]), (nat_lit 4, nat_lit 0, [(nat_lit 0, (.ofNat (nat_lit 0))), (nat_lit 0, (.ofNat (nat_lit 17)))]), (nat_lit 8, nat_lit 1, []), (nat_lit 6, nat_lit 1, [(nat_lit 1, (.ofNat (nat_lit 0))), (nat_lit 0, (.ofNat (nat_lit 4)))]), (nat_lit 4, nat_lit 0, [(nat_lit 0, (.ofNat (nat_lit 0))), (nat_lit 0, (.ofNat (nat_lit 17)))])],
  [(nat_lit 11, nat_lit 0, [(nat_lit 0, (.ofNat (nat_lit 0)))]), (nat_lit 6, nat_lit 0, [(nat_lit 19, (.ofNat (nat_lit 0))), (nat_lit 0, (.ofNat (nat_lit 0)))]), (nat_lit 8, nat_lit 2, [(nat_lit 0, (.ofNat (nat_lit 1))), (nat_lit 0, (.ofNat (nat_lit 9)))]), (nat_lit 5, nat_lit 0, [(nat_lit 10, (.ofNat (nat_lit 0))), (nat_lit 4, (.ofNat (nat_lit 0))), (nat_lit 18, (.ofNat (nat_lit 0)))]), (nat_lit 4, nat_lit 0, [(nat_lit 0, (.ofNat (nat_lit 0))), (nat_lit 0, (.ofNat (nat_lit 11)))]), (nat_lit 6, nat_lit 1, [(nat_lit 17, (.ofNat (nat_lit 0))), (nat_lit 0, (.ofNat (nat_lit 0)))]), (nat_lit 8, nat_lit 2, [(nat_lit 0, (.ofNat (nat_lit 0))), (nat_lit 16, (.ofNat (nat_lit 0)))]), (nat_lit 0, nat_lit 2, [(nat_lit 0, (.ofNat (nat_lit 100))), (nat_lit 15, (.ofNat (nat_lit 0)))]), (nat_lit 4, nat_lit 0, [(nat_lit 8, (.ofNat (nat_lit 0))), (nat_lit 4, (.ofNat (nat_lit 0)))]), (nat_lit 5, nat_lit 0, [(nat_lit 9, (.ofNat (nat_lit 0))), (nat_lit 4, (.ofNat (nat_lit 0))), (nat_lit 14, (.ofNat (nat_lit 0)))]), (nat_lit 4, nat_lit 0, [(nat_lit 0, (.ofNat (nat_lit 0))), (nat_lit 0, (.ofNat (nat_lit 11)))]), (nat_lit 6, nat_lit 1, [(nat_lit 13, (.ofNat (nat_lit 0))), (nat_lit 0, (.ofNat (nat_lit 0)))]), (nat_lit 8, nat_lit 2, [(nat_lit 0, (.ofNat (nat_lit 1))), (nat_lit 0, (.ofNat (nat_lit 9)))]), (nat_lit 5, nat_lit 0, [(nat_lit 8, (.ofNat (nat_lit 0))), (nat_lit 4, (.ofNat (nat_lit 0))), (nat_lit 12, (.ofNat (nat_lit 0)))]), (nat_lit 4, nat_lit 0, [(nat_lit 0, (.ofNat (nat_lit 0))), (nat_lit 0, (.ofNat (nat_lit 11)))]), (nat_lit 6, nat_lit 1, [(nat_lit 11, (.ofNat (nat_lit 0))), (nat_lit 0, (.ofNat (nat_lit 0)))]), (nat_lit 8, nat_lit 2, [(nat_lit 0, (.ofNat (nat_lit 0))), (nat_lit 0, (.ofNat (nat_lit 100)))]), (nat_lit 5, nat_lit 0, [(nat_lit 7, (.ofNat (nat_lit 0))), (nat_lit 4, (.ofNat (nat_lit 0))), (nat_lit 10, (.ofNat (nat_lit 0)))]), (nat_lit 4, nat_lit 0, [(nat_lit 0, (.ofNat (nat_lit 0))), (nat_lit 0, (.ofNat (nat_lit 11)))]), (nat_lit 6, nat_lit 2, [(nat_lit 9, (.ofNat (nat_lit 0))), (nat_lit 0, (.ofNat (nat_lit 0)))]), (nat_lit 8, nat_lit 3, [(nat_lit 7, (.ofNat (nat_lit 0))), (nat_lit 8, (.ofNat (nat_lit 0)))]), (nat_lit 4, nat_lit 0, [(nat_lit 0, (.ofNat (nat_lit 0))), (nat_lit 0, (.ofNat (nat_lit 11)))]), (nat_lit 4, nat_lit 0, [(nat_lit 0, (.ofNat (nat_lit 0))), (nat_lit 0, (.ofNat (nat_lit 17)))]), (nat_lit 6, nat_lit 1, [(nat_lit 6, (.ofNat (nat_lit 0))), (nat_lit 0, (.ofNat (nat_lit 0)))]), (nat_lit 8, nat_lit 2, [(nat_lit 0, (.ofNat (nat_lit 0))), (nat_lit 0, (.ofNat (nat_lit 11)))]), (nat_lit 4, nat_lit 0, [(nat_lit 0, (.ofNat (nat_lit 0))), (nat_lit 0, (.ofNat (nat_lit 10)))]), (nat_lit 0, nat_lit 1, [(nat_lit 0, (.ofNat (nat_lit 4))), (nat_lit 3, (.ofNat (nat_lit 0)))]), (nat_lit 4, nat_lit 0, [(nat_lit 0, (.ofNat (nat_lit 0))), (nat_lit 0, (.ofNat (nat_lit 17)))]), (nat_lit 8, nat_lit 1, []), (nat_lit 6, nat_lit 1, [(nat_lit 1, (.ofNat (nat_lit 0))), (nat_lit 0, (.ofNat (nat_lit 4)))]), (nat_lit 4, nat_lit 0, [(nat_lit 0, (.ofNat (nat_lit 0))), (nat_lit 0, (.ofNat (nat_lit 17)))])],
  [(nat_lit 11, nat_lit 0, [(nat_lit 0, (.ofNat (nat_lit 0)))]), (nat_lit 6, nat_lit 0, [(nat_lit 17, (.ofNat (nat_lit 0))), (nat_lit 0, (.ofNat (nat_lit 0)))]), (nat_lit 8, nat_lit 2, [(nat_lit 0, (.ofNat (nat_lit 0))), (nat_lit 16, (.ofNat (nat_lit 0)))]), (nat_lit 0, nat_lit 2, [(nat_lit 0, (.ofNat (nat_lit 100))), (nat_lit 15, (.ofNat (nat_lit 0)))]), (nat_lit 4, nat_lit 0, [(nat_lit 8, (.ofNat (nat_lit 0))), (nat_lit 4, (.ofNat (nat_lit 0)))]), (nat_lit 5, nat_lit 0, [(nat_lit 9, (.ofNat (nat_lit 0))), (nat_lit 4, (.ofNat (nat_lit 0))), (nat_lit 14, (.ofNat (nat_lit 0)))]), (nat_lit 4, nat_lit 0, [(nat_lit 0, (.ofNat (nat_lit 0))), (nat_lit 0, (.ofNat (nat_lit 11)))]), (nat_lit 6, nat_lit 1, [(nat_lit 13, (.ofNat (nat_lit 0))), (nat_lit 0, (.ofNat (nat_lit 0)))]), (nat_lit 8, nat_lit 2, [(nat_lit 0, (.ofNat (nat_lit 1))), (nat_lit 0, (.ofNat (nat_lit 9)))]), (nat_lit 5, nat_lit 0, [(nat_lit 8, (.ofNat (nat_lit 0))), (nat_lit 4, (.ofNat (nat_lit 0))), (nat_lit 12, (.ofNat (nat_lit 0)))]), (nat_lit 4, nat_lit 0, [(nat_lit 0, (.ofNat (nat_lit 0))), (nat_lit 0, (.ofNat (nat_lit 11)))]), (nat_lit 6, nat_lit 1, [(nat_lit 11, (.ofNat (nat_lit 0))), (nat_lit 0, (.ofNat (nat_lit 0)))]), (nat_lit 8, nat_lit 2, [(nat_lit 0, (.ofNat (nat_lit 0))), (nat_lit 0, (.ofNat (nat_lit 100)))]), (nat_lit 5, nat_lit 0, [(nat_lit 7, (.ofNat (nat_lit 0))), (nat_lit 4, (.ofNat (nat_lit 0))), (nat_lit 10, (.ofNat (nat_lit 0)))]), (nat_lit 4, nat_lit 0, [(nat_lit 0, (.ofNat (nat_lit 0))), (nat_lit 0, (.ofNat (nat_lit 11)))]), (nat_lit 6, nat_lit 2, [(nat_lit 9, (.ofNat (nat_lit 0))), (nat_lit 0, (.ofNat (nat_lit 0)))]), (nat_lit 8, nat_lit 3, [(nat_lit 7, (.ofNat (nat_lit 0))), (nat_lit 8, (.ofNat (nat_lit 0)))]), (nat_lit 4, nat_lit 0, [(nat_lit 0, (.ofNat (nat_lit 0))), (nat_lit 0, (.ofNat (nat_lit 11)))]), (nat_lit 4, nat_lit 0, [(nat_lit 0, (.ofNat (nat_lit 0))), (nat_lit 0, (.ofNat (nat_lit 17)))]), (nat_lit 6, nat_lit 1, [(nat_lit 6, (.ofNat (nat_lit 0))), (nat_lit 0, (.ofNat (nat_lit 0)))]), (nat_lit 8, nat_lit 2, [(nat_lit 0, (.ofNat (nat_lit 0))), (nat_lit 0, (.ofNat (nat_lit 11)))]), (nat_lit 4, nat_lit 0, [(nat_lit 0, (.ofNat (nat_lit 0))), (nat_lit 0, (.ofNat (nat_lit 10)))]), (nat_lit 0, nat_lit 1, [(nat_lit 0, (.ofNat (nat_lit 4))), (nat_lit 3, (.ofNat (nat_lit 0)))]), (nat_lit 4, nat_lit 0, [(nat_lit 0, (.ofNat (nat_lit 0))), (nat_lit 0, (.ofNat (nat_lit 17)))]), (nat_lit 8, nat_lit 1, []), (nat_lit 6, nat_lit 1, [(nat_lit 1, (.ofNat (nat_lit 0))), (nat_lit 0, (.ofNat (nat_lit 4)))]), (nat_lit 4, nat_lit 0, [(nat_lit 0, (.ofNat (nat_lit 0))), (nat_lit 0, (.ofNat (nat_lit 17)))])],
  [(nat_lit 11, nat_lit 0, [(nat_lit 0, (.ofNat (nat_lit 0)))]), (nat_lit 6, nat_lit 0, [(nat_lit 13, (.ofNat (nat_lit 0))), (nat_lit 0, (.ofNat (nat_lit 0)))]), (nat_lit 8, nat_lit 2, [(nat_lit 0, (.ofNat (nat_lit 1))), (nat_lit 0, (.ofNat (nat_lit 9)))]), (nat_lit 5, nat_lit 0, [(nat_lit 8, (.ofNat (nat_lit 0))), (nat_lit 4, (.ofNat (nat_lit 0))), (nat_lit 12, (.ofNat (nat_lit 0)))]), (nat_lit 4, nat_lit 0, [(nat_lit 0, (.ofNat (nat_lit 0))), (nat_lit 0, (.ofNat (nat_lit 11)))]), (nat_lit 6, nat_lit 1, [(nat_lit 11, (.ofNat (nat_lit 0))), (nat_lit 0, (.ofNat (nat_lit 0)))]), (nat_lit 8, nat_lit 2, [(nat_lit 0, (.ofNat (nat_lit 0))), (nat_lit 0, (.ofNat (nat_lit 100)))]), (nat_lit 5, nat_lit 0, [(nat_lit 7, (.ofNat (nat_lit 0))), (nat_lit 4, (.ofNat (nat_lit 0))), (nat_lit 10, (.ofNat (nat_lit 0)))]), (nat_lit 4, nat_lit 0, [(nat_lit 0, (.ofNat (nat_lit 0))), (nat_lit 0, (.ofNat (nat_lit 11)))]), (nat_lit 6, nat_lit 2, [(nat_lit 9, (.ofNat (nat_lit 0))), (nat_lit 0, (.ofNat (nat_lit 0)))]), (nat_lit 8, nat_lit 3, [(nat_lit 7, (.ofNat (nat_lit 0))), (nat_lit 8, (.ofNat (nat_lit 0)))]), (nat_lit 4, nat_lit 0, [(nat_lit 0, (.ofNat (nat_lit 0))), (nat_lit 0, (.ofNat (nat_lit 11)))]), (nat_lit 4, nat_lit 0, [(nat_lit 0, (.ofNat (nat_lit 0))), (nat_lit 0, (.ofNat (nat_lit 17)))]), (nat_lit 6, nat_lit 1, [(nat_lit 6, (.ofNat (nat_lit 0))), (nat_lit 0, (.ofNat (nat_lit 0)))]), (nat_lit 8, nat_lit 2, [(nat_lit 0, (.ofNat (nat_lit 0))), (nat_lit 0, (.ofNat (nat_lit 11)))]), (nat_lit 4, nat_lit 0, [(nat_lit 0, (.ofNat (nat_lit 0))), (nat_lit 0, (.ofNat (nat_lit 10)))]), (nat_lit 0, nat_lit 1, [(nat_lit 0, (.ofNat (nat_lit 4))), (nat_lit 3, (.ofNat (nat_lit 0)))]), (nat_lit 4, nat_lit 0, [(nat_lit 0, (.ofNat (nat_lit 0))), (nat_lit 0, (.ofNat (nat_lit 17)))]), (nat_lit 8, nat_lit 1, []), (nat_lit 6, nat_lit 1, [(nat_lit 1, (.ofNat (nat_lit 0))), (nat_lit 0, (.ofNat (nat_lit 4)))]), (nat_lit 4, nat_lit 0, [(nat_lit 0, (.ofNat (nat_lit 0))), (nat_lit 0, (.ofNat (nat_lit 17)))])],
  [(nat_lit 11, nat_lit 0, [(nat_lit 0, (.ofNat (nat_lit 0)))]), (nat_lit 6, nat_lit 0, [(nat_lit 11, (.ofNat (nat_lit 0))), (nat_lit 0, (.ofNat (nat_lit 0)))]), (nat_lit 8, nat_lit 2, [(nat_lit 0, (.ofNat (nat_lit 0))), (nat_lit 0, (.ofNat (nat_lit 100)))]), (nat_lit 5, nat_lit 0, [(nat_lit 7, (.ofNat (nat_lit 0))), (nat_lit 4, (.ofNat (nat_lit 0))), (nat_lit 10, (.ofNat (nat_lit 0)))]), (nat_lit 4, nat_lit 0, [(nat_lit 0, (.ofNat (nat_lit 0))), (nat_lit 0, (.ofNat (nat_lit 11)))]), (nat_lit 6, nat_lit 2, [(nat_lit 9, (.ofNat (nat_lit 0))), (nat_lit 0, (.ofNat (nat_lit 0)))]), (nat_lit 8, nat_lit 3, [(nat_lit 7, (.ofNat (nat_lit 0))), (nat_lit 8, (.ofNat (nat_lit 0)))]), (nat_lit 4, nat_lit 0, [(nat_lit 0, (.ofNat (nat_lit 0))), (nat_lit 0, (.ofNat (nat_lit 11)))]), (nat_lit 4, nat_lit 0, [(nat_lit 0, (.ofNat (nat_lit 0))), (nat_lit 0, (.ofNat (nat_lit 17)))]), (nat_lit 6, nat_lit 1, [(nat_lit 6, (.ofNat (nat_lit 0))), (nat_lit 0, (.ofNat (nat_lit 0)))]), (nat_lit 8, nat_lit 2, [(nat_lit 0, (.ofNat (nat_lit 0))), (nat_lit 0, (.ofNat (nat_lit 11)))]), (nat_lit 4, nat_lit 0, [(nat_lit 0, (.ofNat (nat_lit 0))), (nat_lit 0, (.ofNat (nat_lit 10)))]), (nat_lit 0, nat_lit 1, [(nat_lit 0, (.ofNat (nat_lit 4))), (nat_lit 3, (.ofNat (nat_lit 0)))]), (nat_lit 4, nat_lit 0, [(nat_lit 0, (.ofNat (nat_lit 0))), (nat_lit 0, (.ofNat (nat_lit 17)))]), (nat_lit 8, nat_lit 1, []), (nat_lit 6, nat_lit 1, [(nat_lit 1, (.ofNat (nat_lit 0))), (nat_lit 0, (.ofNat (nat_lit 4)))]), (nat_lit 4, nat_lit 0, [(nat_lit 0, (.ofNat (nat_lit 0))), (nat_lit 0, (.ofNat (nat_lit 17)))])],
  [(nat_lit 13, nat_lit 0, [(nat_lit 0, (.ofNat (nat_lit 3)))]), (nat_lit 5, nat_lit 0, [(nat_lit 0, (.ofNat (nat_lit 0))), (nat_lit 0, (.ofNat (nat_lit 10))), (nat_lit 5, (.ofNat (nat_lit 0)))]), (nat_lit 6, nat_lit 3, [(nat_lit 9, (.ofNat (nat_lit 0))), (nat_lit 0, (.ofNat (nat_lit 0)))]), (nat_lit 8, nat_lit 3, [(nat_lit 7, (.ofNat (nat_lit 0))), (nat_lit 8, (.ofNat (nat_lit 0)))]), (nat_lit 4, nat_lit 0, [(nat_lit 0, (.ofNat (nat_lit 0))), (nat_lit 0, (.ofNat (nat_lit 11)))]), (nat_lit 4, nat_lit 0, [(nat_lit 0, (.ofNat (nat_lit 0))), (nat_lit 0, (.ofNat (nat_lit 17)))]), (nat_lit 6, nat_lit 1, [(nat_lit 6, (.ofNat (nat_lit 0))), (nat_lit 0, (.ofNat (nat_lit 0)))]), (nat_lit 8, nat_lit 2, [(nat_lit 0, (.ofNat (nat_lit 0))), (nat_lit 0, (.ofNat (nat_lit 11)))]), (nat_lit 4, nat_lit 0, [(nat_lit 0, (.ofNat (nat_lit 0))), (nat_lit 0, (.ofNat (nat_lit 10)))]), (nat_lit 0, nat_lit 1, [(nat_lit 0, (.ofNat (nat_lit 4))), (nat_lit 3, (.ofNat (nat_lit 0)))]), (nat_lit 4, nat_lit 0, [(nat_lit 0, (.ofNat (nat_lit 0))), (nat_lit 0, (.ofNat (nat_lit 17)))]), (nat_lit 8, nat_lit 1, []), (nat_lit 6, nat_lit 1, [(nat_lit 1, (.ofNat (nat_lit 0))), (nat_lit 0, (.ofNat (nat_lit 4)))]), (nat_lit 4, nat_lit 0, [(nat_lit 0, (.ofNat (nat_lit 0))), (nat_lit 0, (.ofNat (nat_lit 17)))])],
  [(nat_lit 11, nat_lit 0, [(nat_lit 10, (.ofNat (nat_lit 0)))]), (nat_lit 8, nat_lit 0, [(nat_lit 0, (.ofNat (nat_lit 3)))]), (nat_lit 5, nat_lit 0, [(nat_lit 0, (.ofNat (nat_lit 0))), (nat_lit 0, (.ofNat (nat_lit 10))), (nat_lit 5, (.ofNat (nat_lit 0)))]), (nat_lit 6, nat_lit 3, [(nat_lit 9, (.ofNat (nat_lit 0))), (nat_lit 0, (.ofNat (nat_lit 0)))]), (nat_lit 8, nat_lit 3, [(nat_lit 7, (.ofNat (nat_lit 0))), (nat_lit 8, (.ofNat (nat_lit 0)))]), (nat_lit 4, nat_lit 0, [(nat_lit 0, (.ofNat (nat_lit 0))), (nat_lit 0, (.ofNat (nat_lit 11)))]), (nat_lit 4, nat_lit 0, [(nat_lit 0, (.ofNat (nat_lit 0))), (nat_lit 0, (.ofNat (nat_lit 17)))]), (nat_lit 6, nat_lit 1, [(nat_lit 6, (.ofNat (nat_lit 0))), (nat_lit 0, (.ofNat (nat_lit 0)))]), (nat_lit 8, nat_lit 2, [(nat_lit 0, (.ofNat (nat_lit 0))), (nat_lit 0, (.ofNat (nat_lit 11)))]), (nat_lit 4, nat_lit 0, [(nat_lit 0, (.ofNat (nat_lit 0))), (nat_lit 0, (.ofNat (nat_lit 10)))]), (nat_lit 0, nat_lit 1, [(nat_lit 0, (.ofNat (nat_lit 4))), (nat_lit 3, (.ofNat (nat_lit 0)))]), (nat_lit 4, nat_lit 0, [(nat_lit 0, (.ofNat (nat_lit 0))), (nat_lit 0, (.ofNat (nat_lit 17)))]), (nat_lit 8, nat_lit 1, []), (nat_lit 6, nat_lit 1, [(nat_lit 1, (.ofNat (nat_lit 0))), (nat_lit 0, (.ofNat (nat_lit 4)))]), (nat_lit 4, nat_lit 0, [(nat_lit 0, (.ofNat (nat_lit 0))), (nat_lit 0, (.ofNat (nat_lit 17)))])],
  [(nat_lit 11, nat_lit 0, [(nat_lit 0, (.ofNat (nat_lit 0)))]), (nat_lit 6, nat_lit 0, [(nat_lit 6, (.ofNat (nat_lit 0))), (nat_lit 0, (.ofNat (nat_lit 0)))]), (nat_lit 8, nat_lit 2, [(nat_lit 0, (.ofNat (nat_lit 0))), (nat_lit 0, (.ofNat (nat_lit 11)))]), (nat_lit 4, nat_lit 0, [(nat_lit 0, (.ofNat (nat_lit 0))), (nat_lit 0, (.ofNat (nat_lit 10)))]), (nat_lit 0, nat_lit 1, [(nat_lit 0, (.ofNat (nat_lit 4))), (nat_lit 3, (.ofNat (nat_lit 0)))]), (nat_lit 4, nat_lit 0, [(nat_lit 0, (.ofNat (nat_lit 0))), (nat_lit 0, (.ofNat (nat_lit 17)))]), (nat_lit 8, nat_lit 1, []), (nat_lit 6, nat_lit 1, [(nat_lit 1, (.ofNat (nat_lit 0))), (nat_lit 0, (.ofNat (nat_lit 4)))]), (nat_lit 4, nat_lit 0, [(nat_lit 0, (.ofNat (nat_lit 0))), (nat_lit 0, (.ofNat (nat_lit 17)))])],
  [(nat_lit 13, nat_lit 0, [(nat_lit 0, (.ofNat (nat_lit 2)))]), (nat_lit 6, nat_lit 0, [(nat_lit 1, (.ofNat (nat_lit 0))), (nat_lit 0, (.ofNat (nat_lit 4)))]), (nat_lit 4, nat_lit 0, [(nat_lit 0, (.ofNat (nat_lit 0))), (nat_lit 0, (.ofNat (nat_lit 17)))])],
  [(nat_lit 11, nat_lit 0, [(nat_lit 2, (.ofNat (nat_lit 0)))]), (nat_lit 8, nat_lit 0, [(nat_lit 0, (.ofNat (nat_lit 2)))]), (nat_lit 6, nat_lit 0, [(nat_lit 1, (.ofNat (nat_lit 0))), (nat_lit 0, (.ofNat (nat_lit 4)))]), (nat_lit 4, nat_lit 0, [(nat_lit 0, (.ofNat (nat_lit 0))), (nat_lit 0, (.ofNat (nat_lit 17)))])]]
def zFne_scratLine : List (List zK) := []
set_option maxHeartbeats 8000000 in
theorem zne_scratLine_o0 {ro : Nat → List Int32} (η : zE) (hp : sP wl_ne zTr zPne_scratLine [] η) (hpp : pPne_scratLine [] η) : ∀ x1 : Int, x1 = η 0 (Int.toNat 17) → zok 0 x1 → (¬ x1 = 4) → ((gC2 wl_ne [(nat_lit 0, zPne_wrong, zOne_wrong, zMne_wrong), (nat_lit 1, zPne_token, zOne_token, zMne_token), (nat_lit 2, zPne_number, zOne_number, zMne_number), (nat_lit 3, zPne_find_s, zOne_find_s, zMne_find_s)] pCne_scratLine qCne_scratLine) 1).1 [] η := by
  have hk : ¬ η 0 8 = 0 := hpp.2
  intro x1 e1 r1 c1
  have w0_0_17 : (0 : Int) ≤ η 0 17 ∧ η 0 17 ≤ 4 := wf_ok (a := 17) (b := 17) (z := (0, 4)) hp.1 (by decide +kernel) (Nat.le_refl _) (Nat.le_refl _)
  replace e1 : x1 = η 0 17 := e1
  have w0_0_7 : (0 : Int) ≤ η 0 7 ∧ η 0 7 ≤ 700 := wf_ok (a := 7) (b := 7) (z := (0, 700)) hp.1 (by decide +kernel) (Nat.le_refl _) (Nat.le_refl _)
  have f0_7 : η 0 7 = η 0 7 := rfl
  have w0_0_6 : (0 : Int) ≤ η 0 6 ∧ η 0 6 ≤ 700 := wf_ok (a := 6) (b := 6) (z := (0, 700)) hp.1 (by decide +kernel) (Nat.le_refl _) (Nat.le_refl _)
  have f0_6 : η 0 6 = η 0 6 := rfl
  have w0_0_8 : (0 : Int) ≤ η 0 8 ∧ η 0 8 ≤ 6 := wf_ok (a := 8) (b := 8) (z := (0, 6)) hp.1 (by decide +kernel) (Nat.le_refl _) (Nat.le_refl _)
  have f0_8 : η 0 8 = η 0 8 := rfl
  exact hpp.1
set_option maxHeartbeats 8000000 in
theorem zne_scratLine_o1 {ro : Nat → List Int32} (η : zE) (hp : sP wl_ne zTr zPne_scratLine [] η) (hpp : pPne_scratLine [] η) : ∀ x1 : Int, x1 = η 0 (Int.toNat 17) → zok 0 x1 → (¬ x1 = 4) → ∀ (x2 : Int) (η1 : zE), ((gC2 wl_ne [(nat_lit 0, zPne_wrong, zOne_wrong, zMne_wrong), (nat_lit 1, zPne_token, zOne_token, zMne_token), (nat_lit 2, zPne_number, zOne_number, zMne_number), (nat_lit 3, zPne_find_s, zOne_find_s, zMne_find_s)] pCne_scratLine qCne_scratLine) 1).2 [] η x2 η1 → ∀ x3 : Int, x3 = η1 0 (Int.toNat 17) → zok 0 x3 → ∀ x4 : Int, x4 = zd 0 1 4 x3 → ∀ x5 : Int, x5 = η1 0 (Int.toNat 10) → zok 0 x5 → ((gC2 wl_ne [(nat_lit 0, zPne_wrong, zOne_wrong, zMne_wrong), (nat_lit 1, zPne_token, zOne_token, zMne_token), (nat_lit 2, zPne_number, zOne_number, zMne_number), (nat_lit 3, zPne_find_s, zOne_find_s, zMne_find_s)] pCne_scratLine qCne_scratLine) 2).1 [0, 11] η1 := by
  have hk : ¬ η 0 8 = 0 := hpp.2
  intro x1 e1 r1 c1 x2 η1 h2 x3 e3 r3 x4 e4 x5 e5 r5
  replace e4 := zEq_i e4
  have y2 : fQne_token [] η x2 η1 := h2.2.2
  have k2 : sQ wl_ne zTr zOne_token zMne_token [] η x2 η1 ∧ oQne_token [] η x2 η1 := ⟨h2.1, h2.2.1⟩
  have w0_0_17 : (0 : Int) ≤ η 0 17 ∧ η 0 17 ≤ 4 := wf_ok (a := 17) (b := 17) (z := (0, 4)) hp.1 (by decide +kernel) (Nat.le_refl _) (Nat.le_refl _)
  replace e1 : x1 = η 0 17 := e1
  have w0_0_7 : (0 : Int) ≤ η 0 7 ∧ η 0 7 ≤ 700 := wf_ok (a := 7) (b := 7) (z := (0, 700)) hp.1 (by decide +kernel) (Nat.le_refl _) (Nat.le_refl _)
  have c0_0_7 : η 0 7 = η 0 7 := rfl
  have w0_0_6 : (0 : Int) ≤ η 0 6 ∧ η 0 6 ≤ 700 := wf_ok (a := 6) (b := 6) (z := (0, 700)) hp.1 (by decide +kernel) (Nat.le_refl _) (Nat.le_refl _)
  have c0_0_6 : η 0 6 = η 0 6 := rfl
  have w0_0_8 : (0 : Int) ≤ η 0 8 ∧ η 0 8 ≤ 6 := wf_ok (a := 8) (b := 8) (z := (0, 6)) hp.1 (by decide +kernel) (Nat.le_refl _) (Nat.le_refl _)
  have c0_0_8 : η 0 8 = η 0 8 := rfl
  have bx2 : (0 : Int) ≤ x2 ∧ x2 ≤ 0 := k2.1.2.1
  have w1_0_7 : (0 : Int) ≤ η1 0 7 ∧ η1 0 7 ≤ 700 := wf_ok (a := 7) (b := 7) (z := (0, 700)) k2.1.1 (by decide +kernel) (Nat.le_refl _) (Nat.le_refl _)
  have d1_0_7 : η1 0 7 = η1 0 7 := rfl
  have v5 : zEq (η1 0 6) (η 0 6) := (k2.1.2.2.2.1 0 6 (by decide +kernel)).trans rfl
  have d1_0_6 : η1 0 6 = η 0 6 := v5
  have w1_0_8 : (0 : Int) ≤ η1 0 8 ∧ η1 0 8 ≤ 6 := wf_ok (a := 8) (b := 8) (z := (0, 6)) k2.1.1 (by decide +kernel) (Nat.le_refl _) (Nat.le_refl _)
  have d1_0_8 : η1 0 8 = η1 0 8 := rfl
  have v7 : zEq (η1 0 17) (η 0 17) := (k2.1.2.2.2.1 0 17 (by decide +kernel)).trans rfl
  replace e3 : x3 = η 0 17 := e3.trans v7
  first
  | replace e4 : x4 = 4 + x3 := zd_a2 (zEq_o e4) (by clear e4; exact ⟨by omega, by omega⟩)
  | clear e4
  have w1_0_10 : (0 : Int) ≤ η1 0 10 ∧ η1 0 10 ≤ 700 := wf_ok (a := 10) (b := 10) (z := (0, 700)) k2.1.1 (by decide +kernel) (Nat.le_refl _) (Nat.le_refl _)
  replace e5 : x5 = η1 0 10 := e5
  have f0_7 : η1 0 7 = η1 0 7 := rfl
  have f0_6 : η1 0 6 = η 0 6 := v5
  have f0_8 : η1 0 8 = η1 0 8 := rfl
  have qt2 : ¬ η 0 8 = 0 → 10 * (η1 0 6 - η1 0 7) + η1 0 8 < 10 * (η 0 6 - η 0 7) + η 0 8 := k2.2.2
  exact k2.2.1
set_option maxHeartbeats 8000000 in
theorem zne_scratLine_o2 {ro : Nat → List Int32} (η : zE) (hp : sP wl_ne zTr zPne_scratLine [] η) (hpp : pPne_scratLine [] η) : ∀ x1 : Int, x1 = η 0 (Int.toNat 17) → zok 0 x1 → (¬ x1 = 4) → ∀ (x2 : Int) (η1 : zE), ((gC2 wl_ne [(nat_lit 0, zPne_wrong, zOne_wrong, zMne_wrong), (nat_lit 1, zPne_token, zOne_token, zMne_token), (nat_lit 2, zPne_number, zOne_number, zMne_number), (nat_lit 3, zPne_find_s, zOne_find_s, zMne_find_s)] pCne_scratLine qCne_scratLine) 1).2 [] η x2 η1 → ∀ x3 : Int, x3 = η1 0 (Int.toNat 17) → zok 0 x3 → ∀ x4 : Int, x4 = zd 0 1 4 x3 → ∀ x5 : Int, x5 = η1 0 (Int.toNat 10) → zok 0 x5 → ∀ (x6 : Int) (η2 : zE), ((gC2 wl_ne [(nat_lit 0, zPne_wrong, zOne_wrong, zMne_wrong), (nat_lit 1, zPne_token, zOne_token, zMne_token), (nat_lit 2, zPne_number, zOne_number, zMne_number), (nat_lit 3, zPne_find_s, zOne_find_s, zMne_find_s)] pCne_scratLine qCne_scratLine) 2).2 [0, 11] η1 x6 η2 → (¬ x6 = 0) → ∀ x7 : Int, x7 = η2 0 (Int.toNat 17) → zok 0 x7 → ∀ x8 : Int, x8 = η2 0 (Int.toNat 11) → zok 0 x8 → ((gC2 wl_ne [(nat_lit 0, zPne_wrong, zOne_wrong, zMne_wrong), (nat_lit 1, zPne_token, zOne_token, zMne_token), (nat_lit 2, zPne_number, zOne_number, zMne_number), (nat_lit 3, zPne_find_s, zOne_find_s, zMne_find_s)] pCne_scratLine qCne_scratLine) 3).1 [x7, x8] η2 := by
  have hk : ¬ η 0 8 = 0 := hpp.2
  intro x1 e1 r1 c1 x2 η1 h2 x3 e3 r3 x4 e4 x5 e5 r5 x6 η2 h6 c2 x7 e7 r7 x8 e8 r8
  replace e4 := zEq_i e4
  have y2 : fQne_token [] η x2 η1 := h2.2.2
  have k2 : sQ wl_ne zTr zOne_token zMne_token [] η x2 η1 ∧ oQne_token [] η x2 η1 := ⟨h2.1, h2.2.1⟩
  have y6 : fQne_number [0, 11] η1 x6 η2 := h6.2.2
  have k6 : sQ wl_ne zTr zOne_number zMne_number [0, 11] η1 x6 η2 ∧ oQne_number [0, 11] η1 x6 η2 := ⟨h6.1, h6.2.1⟩
  have w0_0_17 : (0 : Int) ≤ η 0 17 ∧ η 0 17 ≤ 4 := wf_ok (a := 17) (b := 17) (z := (0, 4)) hp.1 (by decide +kernel) (Nat.le_refl _) (Nat.le_refl _)
  replace e1 : x1 = η 0 17 := e1
  have w0_0_7 : (0 : Int) ≤ η 0 7 ∧ η 0 7 ≤ 700 := wf_ok (a := 7) (b := 7) (z := (0, 700)) hp.1 (by decide +kernel) (Nat.le_refl _) (Nat.le_refl _)
  have c0_0_7 : η 0 7 = η 0 7 := rfl
  have w0_0_6 : (0 : Int) ≤ η 0 6 ∧ η 0 6 ≤ 700 := wf_ok (a := 6) (b := 6) (z := (0, 700)) hp.1 (by decide +kernel) (Nat.le_refl _) (Nat.le_refl _)
  have c0_0_6 : η 0 6 = η 0 6 := rfl
  have w0_0_8 : (0 : Int) ≤ η 0 8 ∧ η 0 8 ≤ 6 := wf_ok (a := 8) (b := 8) (z := (0, 6)) hp.1 (by decide +kernel) (Nat.le_refl _) (Nat.le_refl _)
  have c0_0_8 : η 0 8 = η 0 8 := rfl
  have bx2 : (0 : Int) ≤ x2 ∧ x2 ≤ 0 := k2.1.2.1
  have w1_0_7 : (0 : Int) ≤ η1 0 7 ∧ η1 0 7 ≤ 700 := wf_ok (a := 7) (b := 7) (z := (0, 700)) k2.1.1 (by decide +kernel) (Nat.le_refl _) (Nat.le_refl _)
  have d1_0_7 : η1 0 7 = η1 0 7 := rfl
  have v5 : zEq (η1 0 6) (η 0 6) := (k2.1.2.2.2.1 0 6 (by decide +kernel)).trans rfl
  have d1_0_6 : η1 0 6 = η 0 6 := v5
  have w1_0_8 : (0 : Int) ≤ η1 0 8 ∧ η1 0 8 ≤ 6 := wf_ok (a := 8) (b := 8) (z := (0, 6)) k2.1.1 (by decide +kernel) (Nat.le_refl _) (Nat.le_refl _)
  have d1_0_8 : η1 0 8 = η1 0 8 := rfl
  have v7 : zEq (η1 0 17) (η 0 17) := (k2.1.2.2.2.1 0 17 (by decide +kernel)).trans rfl
  replace e3 : x3 = η 0 17 := e3.trans v7
  first
  | replace e4 : x4 = 4 + x3 := zd_a2 (zEq_o e4) (by clear e4; exact ⟨by omega, by omega⟩)
  | clear e4
  have w1_0_10 : (0 : Int) ≤ η1 0 10 ∧ η1 0 10 ≤ 700 := wf_ok (a := 10) (b := 10) (z := (0, 700)) k2.1.1 (by decide +kernel) (Nat.le_refl _) (Nat.le_refl _)
  replace e5 : x5 = η1 0 10 := e5
  have c1_0_7 : η1 0 7 = η1 0 7 := rfl
  have c1_0_6 : η1 0 6 = η 0 6 := v5
  have c1_0_8 : η1 0 8 = η1 0 8 := rfl
  have bx6 : (0 : Int) ≤ x6 ∧ x6 ≤ 1 := k6.1.2.1
  have w2_0_7 : (0 : Int) ≤ η2 0 7 ∧ η2 0 7 ≤ 700 := wf_ok (a := 7) (b := 7) (z := (0, 700)) k6.1.1 (by decide +kernel) (Nat.le_refl _) (Nat.le_refl _)
  have d2_0_7 : η2 0 7 = η2 0 7 := rfl
  have v10 : zEq (η2 0 6) (η 0 6) := (k6.1.2.2.2.1 0 6 (by decide +kernel)).trans v5
  have d2_0_6 : η2 0 6 = η 0 6 := v10
  have w2_0_8 : (0 : Int) ≤ η2 0 8 ∧ η2 0 8 ≤ 6 := wf_ok (a := 8) (b := 8) (z := (0, 6)) k6.1.1 (by decide +kernel) (Nat.le_refl _) (Nat.le_refl _)
  have d2_0_8 : η2 0 8 = η2 0 8 := rfl
  have v12 : zEq (η2 0 17) (η 0 17) := (k6.1.2.2.2.1 0 17 (by decide +kernel)).trans v7
  replace e7 : x7 = η 0 17 := e7.trans v12
  replace e8 : x8 = η2 0 11 := e8
  replace r8 : -2147483648 ≤ x8 ∧ x8 ≤ 2147483647 := r8
  have f0_7 : η2 0 7 = η2 0 7 := rfl
  have f0_6 : η2 0 6 = η 0 6 := v10
  have f0_8 : η2 0 8 = η2 0 8 := rfl
  have qt2 : ¬ η 0 8 = 0 → 10 * (η1 0 6 - η1 0 7) + η1 0 8 < 10 * (η 0 6 - η 0 7) + η 0 8 := k2.2.2
  have qn6 : ¬ x6 = 0 → 10 * (η2 0 6 - η2 0 7) + η2 0 8 < 10 * (η1 0 6 - η1 0 7) + η1 0 8 := k6.2.2
  exact k6.2.1
set_option maxHeartbeats 8000000 in
theorem zne_scratLine_o3 {ro : Nat → List Int32} (η : zE) (hp : sP wl_ne zTr zPne_scratLine [] η) (hpp : pPne_scratLine [] η) : ∀ x1 : Int, x1 = η 0 (Int.toNat 17) → zok 0 x1 → (¬ x1 = 4) → ∀ (x2 : Int) (η1 : zE), ((gC2 wl_ne [(nat_lit 0, zPne_wrong, zOne_wrong, zMne_wrong), (nat_lit 1, zPne_token, zOne_token, zMne_token), (nat_lit 2, zPne_number, zOne_number, zMne_number), (nat_lit 3, zPne_find_s, zOne_find_s, zMne_find_s)] pCne_scratLine qCne_scratLine) 1).2 [] η x2 η1 → ∀ x3 : Int, x3 = η1 0 (Int.toNat 17) → zok 0 x3 → ∀ x4 : Int, x4 = zd 0 1 4 x3 → ∀ x5 : Int, x5 = η1 0 (Int.toNat 10) → zok 0 x5 → ∀ (x6 : Int) (η2 : zE), ((gC2 wl_ne [(nat_lit 0, zPne_wrong, zOne_wrong, zMne_wrong), (nat_lit 1, zPne_token, zOne_token, zMne_token), (nat_lit 2, zPne_number, zOne_number, zMne_number), (nat_lit 3, zPne_find_s, zOne_find_s, zMne_find_s)] pCne_scratLine qCne_scratLine) 2).2 [0, 11] η1 x6 η2 → (¬ x6 = 0) → ∀ x7 : Int, x7 = η2 0 (Int.toNat 17) → zok 0 x7 → ∀ x8 : Int, x8 = η2 0 (Int.toNat 11) → zok 0 x8 → ∀ (x9 : Int) (η3 : zE), ((gC2 wl_ne [(nat_lit 0, zPne_wrong, zOne_wrong, zMne_wrong), (nat_lit 1, zPne_token, zOne_token, zMne_token), (nat_lit 2, zPne_number, zOne_number, zMne_number), (nat_lit 3, zPne_find_s, zOne_find_s, zMne_find_s)] pCne_scratLine qCne_scratLine) 3).2 [x7, x8] η2 x9 η3 → (x9 < 0) → ∀ x10 : Int, x10 = η3 0 (Int.toNat 11) → zok 0 x10 → ∀ η4 : zE, η4 = zup η3 7 (Int.toNat x4) x10 → ((gC2 wl_ne [(nat_lit 0, zPne_wrong, zOne_wrong, zMne_wrong), (nat_lit 1, zPne_token, zOne_token, zMne_token), (nat_lit 2, zPne_number, zOne_number, zMne_number), (nat_lit 3, zPne_find_s, zOne_find_s, zMne_find_s)] pCne_scratLine qCne_scratLine) 2).1 [0, 100] η4 := by
  intro x1 e1 r1 c1 x2 η1 h2 x3 e3 r3 x4 e4 x5 e5 r5 x6 η2 h6 c2 x7 e7 r7 x8 e8 r8 x9 η3 h9 c3 x10 e10 r10 η4 eη4
  have y2 : fQne_token [] η x2 η1 := h2.2.2
  have k2 : sQ wl_ne zTr zOne_token zMne_token [] η x2 η1 ∧ oQne_token [] η x2 η1 := ⟨h2.1, h2.2.1⟩
  have y6 : fQne_number [0, 11] η1 x6 η2 := h6.2.2
  have k6 : sQ wl_ne zTr zOne_number zMne_number [0, 11] η1 x6 η2 ∧ oQne_number [0, 11] η1 x6 η2 := ⟨h6.1, h6.2.1⟩
  have y9 : fQne_find_s [x7, x8] η2 x9 η3 := h9.2.2
  have k9 : sQ wl_ne zTr zOne_find_s zMne_find_s [x7, x8] η2 x9 η3 ∧ oQne_find_s [x7, x8] η2 x9 η3 := ⟨h9.1, h9.2.1⟩
  have g1 : G_ne η4 := by rw [eη4]; exact zGk_up gk_ne k9.2 (by decide +kernel)
  exact g1
set_option maxHeartbeats 8000000 in
theorem zne_scratLine_o4 {ro : Nat → List Int32} (η : zE) (hp : sP wl_ne zTr zPne_scratLine [] η) (hpp : pPne_scratLine [] η) : ∀ x1 : Int, x1 = η 0 (Int.toNat 17) → zok 0 x1 → (¬ x1 = 4) → ∀ (x2 : Int) (η1 : zE), ((gC2 wl_ne [(nat_lit 0, zPne_wrong, zOne_wrong, zMne_wrong), (nat_lit 1, zPne_token, zOne_token, zMne_token), (nat_lit 2, zPne_number, zOne_number, zMne_number), (nat_lit 3, zPne_find_s, zOne_find_s, zMne_find_s)] pCne_scratLine qCne_scratLine) 1).2 [] η x2 η1 → ∀ x3 : Int, x3 = η1 0 (Int.toNat 17) → zok 0 x3 → ∀ x4 : Int, x4 = zd 0 1 4 x3 → ∀ x5 : Int, x5 = η1 0 (Int.toNat 10) → zok 0 x5 → ∀ (x6 : Int) (η2 : zE), ((gC2 wl_ne [(nat_lit 0, zPne_wrong, zOne_wrong, zMne_wrong), (nat_lit 1, zPne_token, zOne_token, zMne_token), (nat_lit 2, zPne_number, zOne_number, zMne_number), (nat_lit 3, zPne_find_s, zOne_find_s, zMne_find_s)] pCne_scratLine qCne_scratLine) 2).2 [0, 11] η1 x6 η2 → (¬ x6 = 0) → ∀ x7 : Int, x7 = η2 0 (Int.toNat 17) → zok 0 x7 → ∀ x8 : Int, x8 = η2 0 (Int.toNat 11) → zok 0 x8 → ∀ (x9 : Int) (η3 : zE), ((gC2 wl_ne [(nat_lit 0, zPne_wrong, zOne_wrong, zMne_wrong), (nat_lit 1, zPne_token, zOne_token, zMne_token), (nat_lit 2, zPne_number, zOne_number, zMne_number), (nat_lit 3, zPne_find_s, zOne_find_s, zMne_find_s)] pCne_scratLine qCne_scratLine) 3).2 [x7, x8] η2 x9 η3 → (x9 < 0) → ∀ x10 : Int, x10 = η3 0 (Int.toNat 11) → zok 0 x10 → ∀ η4 : zE, η4 = zup η3 7 (Int.toNat x4) x10 → ∀ (x11 : Int) (η5 : zE), ((gC2 wl_ne [(nat_lit 0, zPne_wrong, zOne_wrong, zMne_wrong), (nat_lit 1, zPne_token, zOne_token, zMne_token), (nat_lit 2, zPne_number, zOne_number, zMne_number), (nat_lit 3, zPne_find_s, zOne_find_s, zMne_find_s)] pCne_scratLine qCne_scratLine) 2).2 [0, 100] η4 x11 η5 → (¬ x11 = 0) → ∀ x12 : Int, x12 = η5 0 (Int.toNat 11) → zok 0 x12 → ∀ η6 : zE, η6 = zup η5 8 (Int.toNat x4) x12 → ((gC2 wl_ne [(nat_lit 0, zPne_wrong, zOne_wrong, zMne_wrong), (nat_lit 1, zPne_token, zOne_token, zMne_token), (nat_lit 2, zPne_number, zOne_number, zMne_number), (nat_lit 3, zPne_find_s, zOne_find_s, zMne_find_s)] pCne_scratLine qCne_scratLine) 2).1 [1, 9] η6 := by
  have hk : ¬ η 0 8 = 0 := hpp.2
  intro x1 e1 r1 c1 x2 η1 h2 x3 e3 r3 x4 e4 x5 e5 r5 x6 η2 h6 c2 x7 e7 r7 x8 e8 r8 x9 η3 h9 c3 x10 e10 r10 η4 eη4 x11 η5 h11 c4 x12 e12 r12 η6 eη6
  replace e4 := zEq_i e4
  have y2 : fQne_token [] η x2 η1 := h2.2.2
  have k2 : sQ wl_ne zTr zOne_token zMne_token [] η x2 η1 ∧ oQne_token [] η x2 η1 := ⟨h2.1, h2.2.1⟩
  have y6 : fQne_number [0, 11] η1 x6 η2 := h6.2.2
  have k6 : sQ wl_ne zTr zOne_number zMne_number [0, 11] η1 x6 η2 ∧ oQne_number [0, 11] η1 x6 η2 := ⟨h6.1, h6.2.1⟩
  have y9 : fQne_find_s [x7, x8] η2 x9 η3 := h9.2.2
  have k9 : sQ wl_ne zTr zOne_find_s zMne_find_s [x7, x8] η2 x9 η3 ∧ oQne_find_s [x7, x8] η2 x9 η3 := ⟨h9.1, h9.2.1⟩
  have y11 : fQne_number [0, 100] η4 x11 η5 := h11.2.2
  have k11 : sQ wl_ne zTr zOne_number zMne_number [0, 100] η4 x11 η5 ∧ oQne_number [0, 100] η4 x11 η5 := ⟨h11.1, h11.2.1⟩
  have w0_0_17 : (0 : Int) ≤ η 0 17 ∧ η 0 17 ≤ 4 := wf_ok (a := 17) (b := 17) (z := (0, 4)) hp.1 (by decide +kernel) (Nat.le_refl _) (Nat.le_refl _)
  replace e1 : x1 = η 0 17 := e1
  have w0_0_7 : (0 : Int) ≤ η 0 7 ∧ η 0 7 ≤ 700 := wf_ok (a := 7) (b := 7) (z := (0, 700)) hp.1 (by decide +kernel) (Nat.le_refl _) (Nat.le_refl _)
  have c0_0_7 : η 0 7 = η 0 7 := rfl
  have w0_0_6 : (0 : Int) ≤ η 0 6 ∧ η 0 6 ≤ 700 := wf_ok (a := 6) (b := 6) (z := (0, 700)) hp.1 (by decide +kernel) (Nat.le_refl _) (Nat.le_refl _)
  have c0_0_6 : η 0 6 = η 0 6 := rfl
  have w0_0_8 : (0 : Int) ≤ η 0 8 ∧ η 0 8 ≤ 6 := wf_ok (a := 8) (b := 8) (z := (0, 6)) hp.1 (by decide +kernel) (Nat.le_refl _) (Nat.le_refl _)
  have c0_0_8 : η 0 8 = η 0 8 := rfl
  have bx2 : (0 : Int) ≤ x2 ∧ x2 ≤ 0 := k2.1.2.1
  have w1_0_7 : (0 : Int) ≤ η1 0 7 ∧ η1 0 7 ≤ 700 := wf_ok (a := 7) (b := 7) (z := (0, 700)) k2.1.1 (by decide +kernel) (Nat.le_refl _) (Nat.le_refl _)
  have d1_0_7 : η1 0 7 = η1 0 7 := rfl
  have v5 : zEq (η1 0 6) (η 0 6) := (k2.1.2.2.2.1 0 6 (by decide +kernel)).trans rfl
  have d1_0_6 : η1 0 6 = η 0 6 := v5
  have w1_0_8 : (0 : Int) ≤ η1 0 8 ∧ η1 0 8 ≤ 6 := wf_ok (a := 8) (b := 8) (z := (0, 6)) k2.1.1 (by decide +kernel) (Nat.le_refl _) (Nat.le_refl _)
  have d1_0_8 : η1 0 8 = η1 0 8 := rfl
  have v7 : zEq (η1 0 17) (η 0 17) := (k2.1.2.2.2.1 0 17 (by decide +kernel)).trans rfl
  replace e3 : x3 = η 0 17 := e3.trans v7
  first
  | replace e4 : x4 = 4 + x3 := zd_a2 (zEq_o e4) (by clear e4; exact ⟨by omega, by omega⟩)
  | clear e4
  have w1_0_10 : (0 : Int) ≤ η1 0 10 ∧ η1 0 10 ≤ 700 := wf_ok (a := 10) (b := 10) (z := (0, 700)) k2.1.1 (by decide +kernel) (Nat.le_refl _) (Nat.le_refl _)
  replace e5 : x5 = η1 0 10 := e5
  have c1_0_7 : η1 0 7 = η1 0 7 := rfl
  have c1_0_6 : η1 0 6 = η 0 6 := v5
  have c1_0_8 : η1 0 8 = η1 0 8 := rfl
  have bx6 : (0 : Int) ≤ x6 ∧ x6 ≤ 1 := k6.1.2.1
  have w2_0_7 : (0 : Int) ≤ η2 0 7 ∧ η2 0 7 ≤ 700 := wf_ok (a := 7) (b := 7) (z := (0, 700)) k6.1.1 (by decide +kernel) (Nat.le_refl _) (Nat.le_refl _)
  have d2_0_7 : η2 0 7 = η2 0 7 := rfl
  have v10 : zEq (η2 0 6) (η 0 6) := (k6.1.2.2.2.1 0 6 (by decide +kernel)).trans v5
  have d2_0_6 : η2 0 6 = η 0 6 := v10
  have w2_0_8 : (0 : Int) ≤ η2 0 8 ∧ η2 0 8 ≤ 6 := wf_ok (a := 8) (b := 8) (z := (0, 6)) k6.1.1 (by decide +kernel) (Nat.le_refl _) (Nat.le_refl _)
  have d2_0_8 : η2 0 8 = η2 0 8 := rfl
  have v12 : zEq (η2 0 17) (η 0 17) := (k6.1.2.2.2.1 0 17 (by decide +kernel)).trans v7
  replace e7 : x7 = η 0 17 := e7.trans v12
  replace e8 : x8 = η2 0 11 := e8
  replace r8 : -2147483648 ≤ x8 ∧ x8 ≤ 2147483647 := r8
  have c2_0_7 : η2 0 7 = η2 0 7 := rfl
  have c2_0_6 : η2 0 6 = η 0 6 := v10
  have c2_0_8 : η2 0 8 = η2 0 8 := rfl
  have bx9 : ((-1) : Int) ≤ x9 ∧ x9 ≤ 3 := k9.1.2.1
  have v14 : zEq (η3 0 7) (η2 0 7) := (k9.1.2.2.2.1 0 7 (by decide +kernel)).trans rfl
  have d3_0_7 : η3 0 7 = η2 0 7 := v14
  have v15 : zEq (η3 0 6) (η 0 6) := (k9.1.2.2.2.1 0 6 (by decide +kernel)).trans v10
  have d3_0_6 : η3 0 6 = η 0 6 := v15
  have v16 : zEq (η3 0 8) (η2 0 8) := (k9.1.2.2.2.1 0 8 (by decide +kernel)).trans rfl
  have d3_0_8 : η3 0 8 = η2 0 8 := v16
  have v17 : zEq (η3 0 11) (η2 0 11) := (k9.1.2.2.2.1 0 11 (by decide +kernel)).trans rfl
  replace e10 : x10 = η2 0 11 := e10.trans v17
  replace r10 : -2147483648 ≤ x10 ∧ x10 ≤ 2147483647 := r10
  have v18 : zEq (η4 0 7) (η2 0 7) := by rw [eη4]; exact (zup_ne (fun e _ => absurd e (by decide))).trans v14
  have c4_0_7 : η4 0 7 = η2 0 7 := v18
  have v19 : zEq (η4 0 6) (η 0 6) := by rw [eη4]; exact (zup_ne (fun e _ => absurd e (by decide))).trans v15
  have c4_0_6 : η4 0 6 = η 0 6 := v19
  have v20 : zEq (η4 0 8) (η2 0 8) := by rw [eη4]; exact (zup_ne (fun e _ => absurd e (by decide))).trans v16
  have c4_0_8 : η4 0 8 = η2 0 8 := v20
  have bx11 : (0 : Int) ≤ x11 ∧ x11 ≤ 1 := k11.1.2.1
  have w5_0_7 : (0 : Int) ≤ η5 0 7 ∧ η5 0 7 ≤ 700 := wf_ok (a := 7) (b := 7) (z := (0, 700)) k11.1.1 (by decide +kernel) (Nat.le_refl _) (Nat.le_refl _)
  have d5_0_7 : η5 0 7 = η5 0 7 := rfl
  have v22 : zEq (η5 0 6) (η 0 6) := (k11.1.2.2.2.1 0 6 (by decide +kernel)).trans v19
  have d5_0_6 : η5 0 6 = η 0 6 := v22
  have w5_0_8 : (0 : Int) ≤ η5 0 8 ∧ η5 0 8 ≤ 6 := wf_ok (a := 8) (b := 8) (z := (0, 6)) k11.1.1 (by decide +kernel) (Nat.le_refl _) (Nat.le_refl _)
  have d5_0_8 : η5 0 8 = η5 0 8 := rfl
  replace e12 : x12 = η5 0 11 := e12
  replace r12 : -2147483648 ≤ x12 ∧ x12 ≤ 2147483647 := r12
  have v25 : zEq (η6 0 7) (η5 0 7) := by rw [eη6]; exact (zup_ne (fun e _ => absurd e (by decide))).trans rfl
  have f0_7 : η6 0 7 = η5 0 7 := v25
  have v26 : zEq (η6 0 6) (η 0 6) := by rw [eη6]; exact (zup_ne (fun e _ => absurd e (by decide))).trans v22
  have f0_6 : η6 0 6 = η 0 6 := v26
  have v27 : zEq (η6 0 8) (η5 0 8) := by rw [eη6]; exact (zup_ne (fun e _ => absurd e (by decide))).trans rfl
  have f0_8 : η6 0 8 = η5 0 8 := v27
  have qt2 : ¬ η 0 8 = 0 → 10 * (η1 0 6 - η1 0 7) + η1 0 8 < 10 * (η 0 6 - η 0 7) + η 0 8 := k2.2.2
  have qn6 : ¬ x6 = 0 → 10 * (η2 0 6 - η2 0 7) + η2 0 8 < 10 * (η1 0 6 - η1 0 7) + η1 0 8 := k6.2.2
  have g4 : G_n η4 := by rw [eη4]; exact zGk_up gk_n k9.2 (by decide +kernel)
  have qn11 : ¬ x11 = 0 → 10 * (η5 0 6 - η5 0 7) + η5 0 8 < 10 * (η4 0 6 - η4 0 7) + η4 0 8 := k11.2.2
  have g6 : G_n η6 := by rw [eη6]; exact zGk_up gk_n k11.2.1 (by decide +kernel)
  exact g6
set_option maxHeartbeats 8000000 in
theorem zne_scratLine_o5 {ro : Nat → List Int32} (η : zE) (hp : sP wl_ne zTr zPne_scratLine [] η) (hpp : pPne_scratLine [] η) : ∀ x1 : Int, x1 = η 0 (Int.toNat 17) → zok 0 x1 → (¬ x1 = 4) → ∀ (x2 : Int) (η1 : zE), ((gC2 wl_ne [(nat_lit 0, zPne_wrong, zOne_wrong, zMne_wrong), (nat_lit 1, zPne_token, zOne_token, zMne_token), (nat_lit 2, zPne_number, zOne_number, zMne_number), (nat_lit 3, zPne_find_s, zOne_find_s, zMne_find_s)] pCne_scratLine qCne_scratLine) 1).2 [] η x2 η1 → ∀ x3 : Int, x3 = η1 0 (Int.toNat 17) → zok 0 x3 → ∀ x4 : Int, x4 = zd 0 1 4 x3 → ∀ x5 : Int, x5 = η1 0 (Int.toNat 10) → zok 0 x5 → ∀ (x6 : Int) (η2 : zE), ((gC2 wl_ne [(nat_lit 0, zPne_wrong, zOne_wrong, zMne_wrong), (nat_lit 1, zPne_token, zOne_token, zMne_token), (nat_lit 2, zPne_number, zOne_number, zMne_number), (nat_lit 3, zPne_find_s, zOne_find_s, zMne_find_s)] pCne_scratLine qCne_scratLine) 2).2 [0, 11] η1 x6 η2 → (¬ x6 = 0) → ∀ x7 : Int, x7 = η2 0 (Int.toNat 17) → zok 0 x7 → ∀ x8 : Int, x8 = η2 0 (Int.toNat 11) → zok 0 x8 → ∀ (x9 : Int) (η3 : zE), ((gC2 wl_ne [(nat_lit 0, zPne_wrong, zOne_wrong, zMne_wrong), (nat_lit 1, zPne_token, zOne_token, zMne_token), (nat_lit 2, zPne_number, zOne_number, zMne_number), (nat_lit 3, zPne_find_s, zOne_find_s, zMne_find_s)] pCne_scratLine qCne_scratLine) 3).2 [x7, x8] η2 x9 η3 → (x9 < 0) → ∀ x10 : Int, x10 = η3 0 (Int.toNat 11) → zok 0 x10 → ∀ η4 : zE, η4 = zup η3 7 (Int.toNat x4) x10 → ∀ (x11 : Int) (η5 : zE), ((gC2 wl_ne [(nat_lit 0, zPne_wrong, zOne_wrong, zMne_wrong), (nat_lit 1, zPne_token, zOne_token, zMne_token), (nat_lit 2, zPne_number, zOne_number, zMne_number), (nat_lit 3, zPne_find_s, zOne_find_s, zMne_find_s)] pCne_scratLine qCne_scratLine) 2).2 [0, 100] η4 x11 η5 → (¬ x11 = 0) → ∀ x12 : Int, x12 = η5 0 (Int.toNat 11) → zok 0 x12 → ∀ η6 : zE, η6 = zup η5 8 (Int.toNat x4) x12 → ∀ (x13 : Int) (η7 : zE), ((gC2 wl_ne [(nat_lit 0, zPne_wrong, zOne_wrong, zMne_wrong), (nat_lit 1, zPne_token, zOne_token, zMne_token), (nat_lit 2, zPne_number, zOne_number, zMne_number), (nat_lit 3, zPne_find_s, zOne_find_s, zMne_find_s)] pCne_scratLine qCne_scratLine) 2).2 [1, 9] η6 x13 η7 → (¬ x13 = 0) → ∀ x14 : Int, x14 = η7 0 (Int.toNat 11) → zok 0 x14 → ∀ η8 : zE, η8 = zup η7 9 (Int.toNat x4) x14 → ∀ x15 : Int, x15 = η8 8 (Int.toNat x4) → zok 0 x15 → ∀ x16 : Int, x16 = zd 0 2 100 x15 → ((gC2 wl_ne [(nat_lit 0, zPne_wrong, zOne_wrong, zMne_wrong), (nat_lit 1, zPne_token, zOne_token, zMne_token), (nat_lit 2, zPne_number, zOne_number, zMne_number), (nat_lit 3, zPne_find_s, zOne_find_s, zMne_find_s)] pCne_scratLine qCne_scratLine) 2).1 [0, x16] η8 := by
  have hk : ¬ η 0 8 = 0 := hpp.2
  intro x1 e1 r1 c1 x2 η1 h2 x3 e3 r3 x4 e4 x5 e5 r5 x6 η2 h6 c2 x7 e7 r7 x8 e8 r8 x9 η3 h9 c3 x10 e10 r10 η4 eη4 x11 η5 h11 c4 x12 e12 r12 η6 eη6 x13 η7 h13 c5 x14 e14 r14 η8 eη8 x15 e15 r15 x16 e16
  replace e4 := zEq_i e4
  replace e16 := zEq_i e16
  have y2 : fQne_token [] η x2 η1 := h2.2.2
  have k2 : sQ wl_ne zTr zOne_token zMne_token [] η x2 η1 ∧ oQne_token [] η x2 η1 := ⟨h2.1, h2.2.1⟩
  have y6 : fQne_number [0, 11] η1 x6 η2 := h6.2.2
  have k6 : sQ wl_ne zTr zOne_number zMne_number [0, 11] η1 x6 η2 ∧ oQne_number [0, 11] η1 x6 η2 := ⟨h6.1, h6.2.1⟩
  have y9 : fQne_find_s [x7, x8] η2 x9 η3 := h9.2.2
  have k9 : sQ wl_ne zTr zOne_find_s zMne_find_s [x7, x8] η2 x9 η3 ∧ oQne_find_s [x7, x8] η2 x9 η3 := ⟨h9.1, h9.2.1⟩
  have y11 : fQne_number [0, 100] η4 x11 η5 := h11.2.2
  have k11 : sQ wl_ne zTr zOne_number zMne_number [0, 100] η4 x11 η5 ∧ oQne_number [0, 100] η4 x11 η5 := ⟨h11.1, h11.2.1⟩
  have y13 : fQne_number [1, 9] η6 x13 η7 := h13.2.2
  have k13 : sQ wl_ne zTr zOne_number zMne_number [1, 9] η6 x13 η7 ∧ oQne_number [1, 9] η6 x13 η7 := ⟨h13.1, h13.2.1⟩
  have w0_0_17 : (0 : Int) ≤ η 0 17 ∧ η 0 17 ≤ 4 := wf_ok (a := 17) (b := 17) (z := (0, 4)) hp.1 (by decide +kernel) (Nat.le_refl _) (Nat.le_refl _)
  replace e1 : x1 = η 0 17 := e1
  have w0_0_7 : (0 : Int) ≤ η 0 7 ∧ η 0 7 ≤ 700 := wf_ok (a := 7) (b := 7) (z := (0, 700)) hp.1 (by decide +kernel) (Nat.le_refl _) (Nat.le_refl _)
  have c0_0_7 : η 0 7 = η 0 7 := rfl
  have w0_0_6 : (0 : Int) ≤ η 0 6 ∧ η 0 6 ≤ 700 := wf_ok (a := 6) (b := 6) (z := (0, 700)) hp.1 (by decide +kernel) (Nat.le_refl _) (Nat.le_refl _)
  have c0_0_6 : η 0 6 = η 0 6 := rfl
  have w0_0_8 : (0 : Int) ≤ η 0 8 ∧ η 0 8 ≤ 6 := wf_ok (a := 8) (b := 8) (z := (0, 6)) hp.1 (by decide +kernel) (Nat.le_refl _) (Nat.le_refl _)
  have c0_0_8 : η 0 8 = η 0 8 := rfl
  have bx2 : (0 : Int) ≤ x2 ∧ x2 ≤ 0 := k2.1.2.1
  have w1_0_7 : (0 : Int) ≤ η1 0 7 ∧ η1 0 7 ≤ 700 := wf_ok (a := 7) (b := 7) (z := (0, 700)) k2.1.1 (by decide +kernel) (Nat.le_refl _) (Nat.le_refl _)
  have d1_0_7 : η1 0 7 = η1 0 7 := rfl
  have v5 : zEq (η1 0 6) (η 0 6) := (k2.1.2.2.2.1 0 6 (by decide +kernel)).trans rfl
  have d1_0_6 : η1 0 6 = η 0 6 := v5
  have w1_0_8 : (0 : Int) ≤ η1 0 8 ∧ η1 0 8 ≤ 6 := wf_ok (a := 8) (b := 8) (z := (0, 6)) k2.1.1 (by decide +kernel) (Nat.le_refl _) (Nat.le_refl _)
  have d1_0_8 : η1 0 8 = η1 0 8 := rfl
  have v7 : zEq (η1 0 17) (η 0 17) := (k2.1.2.2.2.1 0 17 (by decide +kernel)).trans rfl
  replace e3 : x3 = η 0 17 := e3.trans v7
  first
  | replace e4 : x4 = 4 + x3 := zd_a2 (zEq_o e4) (by clear e4; exact ⟨by omega, by omega⟩)
  | clear e4
  have w1_0_10 : (0 : Int) ≤ η1 0 10 ∧ η1 0 10 ≤ 700 := wf_ok (a := 10) (b := 10) (z := (0, 700)) k2.1.1 (by decide +kernel) (Nat.le_refl _) (Nat.le_refl _)
  replace e5 : x5 = η1 0 10 := e5
  have c1_0_7 : η1 0 7 = η1 0 7 := rfl
  have c1_0_6 : η1 0 6 = η 0 6 := v5
  have c1_0_8 : η1 0 8 = η1 0 8 := rfl
  have bx6 : (0 : Int) ≤ x6 ∧ x6 ≤ 1 := k6.1.2.1
  have w2_0_7 : (0 : Int) ≤ η2 0 7 ∧ η2 0 7 ≤ 700 := wf_ok (a := 7) (b := 7) (z := (0, 700)) k6.1.1 (by decide +kernel) (Nat.le_refl _) (Nat.le_refl _)
  have d2_0_7 : η2 0 7 = η2 0 7 := rfl
  have v10 : zEq (η2 0 6) (η 0 6) := (k6.1.2.2.2.1 0 6 (by decide +kernel)).trans v5
  have d2_0_6 : η2 0 6 = η 0 6 := v10
  have w2_0_8 : (0 : Int) ≤ η2 0 8 ∧ η2 0 8 ≤ 6 := wf_ok (a := 8) (b := 8) (z := (0, 6)) k6.1.1 (by decide +kernel) (Nat.le_refl _) (Nat.le_refl _)
  have d2_0_8 : η2 0 8 = η2 0 8 := rfl
  have v12 : zEq (η2 0 17) (η 0 17) := (k6.1.2.2.2.1 0 17 (by decide +kernel)).trans v7
  replace e7 : x7 = η 0 17 := e7.trans v12
  replace e8 : x8 = η2 0 11 := e8
  replace r8 : -2147483648 ≤ x8 ∧ x8 ≤ 2147483647 := r8
  have c2_0_7 : η2 0 7 = η2 0 7 := rfl
  have c2_0_6 : η2 0 6 = η 0 6 := v10
  have c2_0_8 : η2 0 8 = η2 0 8 := rfl
  have bx9 : ((-1) : Int) ≤ x9 ∧ x9 ≤ 3 := k9.1.2.1
  have v14 : zEq (η3 0 7) (η2 0 7) := (k9.1.2.2.2.1 0 7 (by decide +kernel)).trans rfl
  have d3_0_7 : η3 0 7 = η2 0 7 := v14
  have v15 : zEq (η3 0 6) (η 0 6) := (k9.1.2.2.2.1 0 6 (by decide +kernel)).trans v10
  have d3_0_6 : η3 0 6 = η 0 6 := v15
  have v16 : zEq (η3 0 8) (η2 0 8) := (k9.1.2.2.2.1 0 8 (by decide +kernel)).trans rfl
  have d3_0_8 : η3 0 8 = η2 0 8 := v16
  have v17 : zEq (η3 0 11) (η2 0 11) := (k9.1.2.2.2.1 0 11 (by decide +kernel)).trans rfl
  replace e10 : x10 = η2 0 11 := e10.trans v17
  replace r10 : -2147483648 ≤ x10 ∧ x10 ≤ 2147483647 := r10
  have v18 : zEq (η4 0 7) (η2 0 7) := by rw [eη4]; exact (zup_ne (fun e _ => absurd e (by decide))).trans v14
  have c4_0_7 : η4 0 7 = η2 0 7 := v18
  have v19 : zEq (η4 0 6) (η 0 6) := by rw [eη4]; exact (zup_ne (fun e _ => absurd e (by decide))).trans v15
  have c4_0_6 : η4 0 6 = η 0 6 := v19
  have v20 : zEq (η4 0 8) (η2 0 8) := by rw [eη4]; exact (zup_ne (fun e _ => absurd e (by decide))).trans v16
  have c4_0_8 : η4 0 8 = η2 0 8 := v20
  have bx11 : (0 : Int) ≤ x11 ∧ x11 ≤ 1 := k11.1.2.1
  have w5_0_7 : (0 : Int) ≤ η5 0 7 ∧ η5 0 7 ≤ 700 := wf_ok (a := 7) (b := 7) (z := (0, 700)) k11.1.1 (by decide +kernel) (Nat.le_refl _) (Nat.le_refl _)
  have d5_0_7 : η5 0 7 = η5 0 7 := rfl
  have v22 : zEq (η5 0 6) (η 0 6) := (k11.1.2.2.2.1 0 6 (by decide +kernel)).trans v19
  have d5_0_6 : η5 0 6 = η 0 6 := v22
  have w5_0_8 : (0 : Int) ≤ η5 0 8 ∧ η5 0 8 ≤ 6 := wf_ok (a := 8) (b := 8) (z := (0, 6)) k11.1.1 (by decide +kernel) (Nat.le_refl _) (Nat.le_refl _)
  have d5_0_8 : η5 0 8 = η5 0 8 := rfl
  replace e12 : x12 = η5 0 11 := e12
  replace r12 : -2147483648 ≤ x12 ∧ x12 ≤ 2147483647 := r12
  have v25 : zEq (η6 0 7) (η5 0 7) := by rw [eη6]; exact (zup_ne (fun e _ => absurd e (by decide))).trans rfl
  have c6_0_7 : η6 0 7 = η5 0 7 := v25
  have v26 : zEq (η6 0 6) (η 0 6) := by rw [eη6]; exact (zup_ne (fun e _ => absurd e (by decide))).trans v22
  have c6_0_6 : η6 0 6 = η 0 6 := v26
  have v27 : zEq (η6 0 8) (η5 0 8) := by rw [eη6]; exact (zup_ne (fun e _ => absurd e (by decide))).trans rfl
  have c6_0_8 : η6 0 8 = η5 0 8 := v27
  have bx13 : (0 : Int) ≤ x13 ∧ x13 ≤ 1 := k13.1.2.1
  have w7_0_7 : (0 : Int) ≤ η7 0 7 ∧ η7 0 7 ≤ 700 := wf_ok (a := 7) (b := 7) (z := (0, 700)) k13.1.1 (by decide +kernel) (Nat.le_refl _) (Nat.le_refl _)
  have d7_0_7 : η7 0 7 = η7 0 7 := rfl
  have v29 : zEq (η7 0 6) (η 0 6) := (k13.1.2.2.2.1 0 6 (by decide +kernel)).trans v26
  have d7_0_6 : η7 0 6 = η 0 6 := v29
  have w7_0_8 : (0 : Int) ≤ η7 0 8 ∧ η7 0 8 ≤ 6 := wf_ok (a := 8) (b := 8) (z := (0, 6)) k13.1.1 (by decide +kernel) (Nat.le_refl _) (Nat.le_refl _)
  have d7_0_8 : η7 0 8 = η7 0 8 := rfl
  replace e14 : x14 = η7 0 11 := e14
  replace r14 : -2147483648 ≤ x14 ∧ x14 ≤ 2147483647 := r14
  have v32 : zEq (η6 8 (Int.toNat x4)) (x12) := by rw [eη6]; exact zup_eq
  have v33 : zEq (η7 8 (Int.toNat x4)) (x12) := (k13.1.2.2.2.1 8 _ (zinr_not (by decide +kernel))).trans v32
  have v34 : zEq (η8 8 (Int.toNat x4)) (x12) := by rw [eη8]; exact (zup_ne (fun e _ => absurd e (by decide))).trans v33
  replace e15 : x15 = x12 := e15.trans v34
  replace r15 : -2147483648 ≤ x15 ∧ x15 ≤ 2147483647 := r15
  first
  | replace e16 : x16 = 100 - x15 := zd_s2 (zEq_o e16) (by clear e16; exact ⟨by omega, by omega⟩)
  | clear e16
  have v35 : zEq (η8 0 7) (η7 0 7) := by rw [eη8]; exact (zup_ne (fun e _ => absurd e (by decide))).trans rfl
  have f0_7 : η8 0 7 = η7 0 7 := v35
  have v36 : zEq (η8 0 6) (η 0 6) := by rw [eη8]; exact (zup_ne (fun e _ => absurd e (by decide))).trans v29
  have f0_6 : η8 0 6 = η 0 6 := v36
  have v37 : zEq (η8 0 8) (η7 0 8) := by rw [eη8]; exact (zup_ne (fun e _ => absurd e (by decide))).trans rfl
  have f0_8 : η8 0 8 = η7 0 8 := v37
  have qt2 : ¬ η 0 8 = 0 → 10 * (η1 0 6 - η1 0 7) + η1 0 8 < 10 * (η 0 6 - η 0 7) + η 0 8 := k2.2.2
  have qn6 : ¬ x6 = 0 → 10 * (η2 0 6 - η2 0 7) + η2 0 8 < 10 * (η1 0 6 - η1 0 7) + η1 0 8 := k6.2.2
  have g4 : G_n η4 := by rw [eη4]; exact zGk_up gk_n k9.2 (by decide +kernel)
  have qn11 : ¬ x11 = 0 → 10 * (η5 0 6 - η5 0 7) + η5 0 8 < 10 * (η4 0 6 - η4 0 7) + η4 0 8 := k11.2.2
  have g6 : G_n η6 := by rw [eη6]; exact zGk_up gk_n k11.2.1 (by decide +kernel)
  have qn13 : ¬ x13 = 0 → 10 * (η7 0 6 - η7 0 7) + η7 0 8 < 10 * (η6 0 6 - η6 0 7) + η6 0 8 := k13.2.2
  have g8 : G_n η8 := by rw [eη8]; exact zGk_up gk_n k13.2.1 (by decide +kernel)
  exact g8
set_option maxHeartbeats 8000000 in
theorem zne_scratLine_o6 {ro : Nat → List Int32} (η : zE) (hp : sP wl_ne zTr zPne_scratLine [] η) (hpp : pPne_scratLine [] η) : ∀ x1 : Int, x1 = η 0 (Int.toNat 17) → zok 0 x1 → (¬ x1 = 4) → ∀ (x2 : Int) (η1 : zE), ((gC2 wl_ne [(nat_lit 0, zPne_wrong, zOne_wrong, zMne_wrong), (nat_lit 1, zPne_token, zOne_token, zMne_token), (nat_lit 2, zPne_number, zOne_number, zMne_number), (nat_lit 3, zPne_find_s, zOne_find_s, zMne_find_s)] pCne_scratLine qCne_scratLine) 1).2 [] η x2 η1 → ∀ x3 : Int, x3 = η1 0 (Int.toNat 17) → zok 0 x3 → ∀ x4 : Int, x4 = zd 0 1 4 x3 → ∀ x5 : Int, x5 = η1 0 (Int.toNat 10) → zok 0 x5 → ∀ (x6 : Int) (η2 : zE), ((gC2 wl_ne [(nat_lit 0, zPne_wrong, zOne_wrong, zMne_wrong), (nat_lit 1, zPne_token, zOne_token, zMne_token), (nat_lit 2, zPne_number, zOne_number, zMne_number), (nat_lit 3, zPne_find_s, zOne_find_s, zMne_find_s)] pCne_scratLine qCne_scratLine) 2).2 [0, 11] η1 x6 η2 → (¬ x6 = 0) → ∀ x7 : Int, x7 = η2 0 (Int.toNat 17) → zok 0 x7 → ∀ x8 : Int, x8 = η2 0 (Int.toNat 11) → zok 0 x8 → ∀ (x9 : Int) (η3 : zE), ((gC2 wl_ne [(nat_lit 0, zPne_wrong, zOne_wrong, zMne_wrong), (nat_lit 1, zPne_token, zOne_token, zMne_token), (nat_lit 2, zPne_number, zOne_number, zMne_number), (nat_lit 3, zPne_find_s, zOne_find_s, zMne_find_s)] pCne_scratLine qCne_scratLine) 3).2 [x7, x8] η2 x9 η3 → (x9 < 0) → ∀ x10 : Int, x10 = η3 0 (Int.toNat 11) → zok 0 x10 → ∀ η4 : zE, η4 = zup η3 7 (Int.toNat x4) x10 → ∀ (x11 : Int) (η5 : zE), ((gC2 wl_ne [(nat_lit 0, zPne_wrong, zOne_wrong, zMne_wrong), (nat_lit 1, zPne_token, zOne_token, zMne_token), (nat_lit 2, zPne_number, zOne_number, zMne_number), (nat_lit 3, zPne_find_s, zOne_find_s, zMne_find_s)] pCne_scratLine qCne_scratLine) 2).2 [0, 100] η4 x11 η5 → (¬ x11 = 0) → ∀ x12 : Int, x12 = η5 0 (Int.toNat 11) → zok 0 x12 → ∀ η6 : zE, η6 = zup η5 8 (Int.toNat x4) x12 → ∀ (x13 : Int) (η7 : zE), ((gC2 wl_ne [(nat_lit 0, zPne_wrong, zOne_wrong, zMne_wrong), (nat_lit 1, zPne_token, zOne_token, zMne_token), (nat_lit 2, zPne_number, zOne_number, zMne_number), (nat_lit 3, zPne_find_s, zOne_find_s, zMne_find_s)] pCne_scratLine qCne_scratLine) 2).2 [1, 9] η6 x13 η7 → (¬ x13 = 0) → ∀ x14 : Int, x14 = η7 0 (Int.toNat 11) → zok 0 x14 → ∀ η8 : zE, η8 = zup η7 9 (Int.toNat x4) x14 → ∀ x15 : Int, x15 = η8 8 (Int.toNat x4) → zok 0 x15 → ∀ x16 : Int, x16 = zd 0 2 100 x15 → ∀ (x17 : Int) (η9 : zE), ((gC2 wl_ne [(nat_lit 0, zPne_wrong, zOne_wrong, zMne_wrong), (nat_lit 1, zPne_token, zOne_token, zMne_token), (nat_lit 2, zPne_number, zOne_number, zMne_number), (nat_lit 3, zPne_find_s, zOne_find_s, zMne_find_s)] pCne_scratLine qCne_scratLine) 2).2 [0, x16] η8 x17 η9 → (¬ x17 = 0) → ∀ x18 : Int, x18 = η9 0 (Int.toNat 11) → zok 0 x18 → ∀ η10 : zE, η10 = zup η9 10 (Int.toNat x4) x18 → ((gC2 wl_ne [(nat_lit 0, zPne_wrong, zOne_wrong, zMne_wrong), (nat_lit 1, zPne_token, zOne_token, zMne_token), (nat_lit 2, zPne_number, zOne_number, zMne_number), (nat_lit 3, zPne_find_s, zOne_find_s, zMne_find_s)] pCne_scratLine qCne_scratLine) 2).1 [1, 9] η10 := by
  have hk : ¬ η 0 8 = 0 := hpp.2
  intro x1 e1 r1 c1 x2 η1 h2 x3 e3 r3 x4 e4 x5 e5 r5 x6 η2 h6 c2 x7 e7 r7 x8 e8 r8 x9 η3 h9 c3 x10 e10 r10 η4 eη4 x11 η5 h11 c4 x12 e12 r12 η6 eη6 x13 η7 h13 c5 x14 e14 r14 η8 eη8 x15 e15 r15 x16 e16 x17 η9 h17 c6 x18 e18 r18 η10 eη10
  replace e4 := zEq_i e4
  replace e16 := zEq_i e16
  have y2 : fQne_token [] η x2 η1 := h2.2.2
  have k2 : sQ wl_ne zTr zOne_token zMne_token [] η x2 η1 ∧ oQne_token [] η x2 η1 := ⟨h2.1, h2.2.1⟩
  have y6 : fQne_number [0, 11] η1 x6 η2 := h6.2.2
  have k6 : sQ wl_ne zTr zOne_number zMne_number [0, 11] η1 x6 η2 ∧ oQne_number [0, 11] η1 x6 η2 := ⟨h6.1, h6.2.1⟩
  have y9 : fQne_find_s [x7, x8] η2 x9 η3 := h9.2.2
  have k9 : sQ wl_ne zTr zOne_find_s zMne_find_s [x7, x8] η2 x9 η3 ∧ oQne_find_s [x7, x8] η2 x9 η3 := ⟨h9.1, h9.2.1⟩
  have y11 : fQne_number [0, 100] η4 x11 η5 := h11.2.2
  have k11 : sQ wl_ne zTr zOne_number zMne_number [0, 100] η4 x11 η5 ∧ oQne_number [0, 100] η4 x11 η5 := ⟨h11.1, h11.2.1⟩
  have y13 : fQne_number [1, 9] η6 x13 η7 := h13.2.2
  have k13 : sQ wl_ne zTr zOne_number zMne_number [1, 9] η6 x13 η7 ∧ oQne_number [1, 9] η6 x13 η7 := ⟨h13.1, h13.2.1⟩
  have y17 : fQne_number [0, x16] η8 x17 η9 := h17.2.2
  have k17 : sQ wl_ne zTr zOne_number zMne_number [0, x16] η8 x17 η9 ∧ oQne_number [0, x16] η8 x17 η9 := ⟨h17.1, h17.2.1⟩
  have w0_0_17 : (0 : Int) ≤ η 0 17 ∧ η 0 17 ≤ 4 := wf_ok (a := 17) (b := 17) (z := (0, 4)) hp.1 (by decide +kernel) (Nat.le_refl _) (Nat.le_refl _)
  replace e1 : x1 = η 0 17 := e1
  have w0_0_7 : (0 : Int) ≤ η 0 7 ∧ η 0 7 ≤ 700 := wf_ok (a := 7) (b := 7) (z := (0, 700)) hp.1 (by decide +kernel) (Nat.le_refl _) (Nat.le_refl _)
  have c0_0_7 : η 0 7 = η 0 7 := rfl
  have w0_0_6 : (0 : Int) ≤ η 0 6 ∧ η 0 6 ≤ 700 := wf_ok (a := 6) (b := 6) (z := (0, 700)) hp.1 (by decide +kernel) (Nat.le_refl _) (Nat.le_refl _)
  have c0_0_6 : η 0 6 = η 0 6 := rfl
  have w0_0_8 : (0 : Int) ≤ η 0 8 ∧ η 0 8 ≤ 6 := wf_ok (a := 8) (b := 8) (z := (0, 6)) hp.1 (by decide +kernel) (Nat.le_refl _) (Nat.le_refl _)
  have c0_0_8 : η 0 8 = η 0 8 := rfl
  have bx2 : (0 : Int) ≤ x2 ∧ x2 ≤ 0 := k2.1.2.1
  have w1_0_7 : (0 : Int) ≤ η1 0 7 ∧ η1 0 7 ≤ 700 := wf_ok (a := 7) (b := 7) (z := (0, 700)) k2.1.1 (by decide +kernel) (Nat.le_refl _) (Nat.le_refl _)
  have d1_0_7 : η1 0 7 = η1 0 7 := rfl
  have v5 : zEq (η1 0 6) (η 0 6) := (k2.1.2.2.2.1 0 6 (by decide +kernel)).trans rfl
  have d1_0_6 : η1 0 6 = η 0 6 := v5
  have w1_0_8 : (0 : Int) ≤ η1 0 8 ∧ η1 0 8 ≤ 6 := wf_ok (a := 8) (b := 8) (z := (0, 6)) k2.1.1 (by decide +kernel) (Nat.le_refl _) (Nat.le_refl _)
  have d1_0_8 : η1 0 8 = η1 0 8 := rfl
  have v7 : zEq (η1 0 17) (η 0 17) := (k2.1.2.2.2.1 0 17 (by decide +kernel)).trans rfl
  replace e3 : x3 = η 0 17 := e3.trans v7
  first
  | replace e4 : x4 = 4 + x3 := zd_a2 (zEq_o e4) (by clear e4; exact ⟨by omega, by omega⟩)
  | clear e4
  have w1_0_10 : (0 : Int) ≤ η1 0 10 ∧ η1 0 10 ≤ 700 := wf_ok (a := 10) (b := 10) (z := (0, 700)) k2.1.1 (by decide +kernel) (Nat.le_refl _) (Nat.le_refl _)
  replace e5 : x5 = η1 0 10 := e5
  have c1_0_7 : η1 0 7 = η1 0 7 := rfl
  have c1_0_6 : η1 0 6 = η 0 6 := v5
  have c1_0_8 : η1 0 8 = η1 0 8 := rfl
  have bx6 : (0 : Int) ≤ x6 ∧ x6 ≤ 1 := k6.1.2.1
  have w2_0_7 : (0 : Int) ≤ η2 0 7 ∧ η2 0 7 ≤ 700 := wf_ok (a := 7) (b := 7) (z := (0, 700)) k6.1.1 (by decide +kernel) (Nat.le_refl _) (Nat.le_refl _)
  have d2_0_7 : η2 0 7 = η2 0 7 := rfl
  have v10 : zEq (η2 0 6) (η 0 6) := (k6.1.2.2.2.1 0 6 (by decide +kernel)).trans v5
  have d2_0_6 : η2 0 6 = η 0 6 := v10
  have w2_0_8 : (0 : Int) ≤ η2 0 8 ∧ η2 0 8 ≤ 6 := wf_ok (a := 8) (b := 8) (z := (0, 6)) k6.1.1 (by decide +kernel) (Nat.le_refl _) (Nat.le_refl _)
  have d2_0_8 : η2 0 8 = η2 0 8 := rfl
  have v12 : zEq (η2 0 17) (η 0 17) := (k6.1.2.2.2.1 0 17 (by decide +kernel)).trans v7
  replace e7 : x7 = η 0 17 := e7.trans v12
  replace e8 : x8 = η2 0 11 := e8
  replace r8 : -2147483648 ≤ x8 ∧ x8 ≤ 2147483647 := r8
  have c2_0_7 : η2 0 7 = η2 0 7 := rfl
  have c2_0_6 : η2 0 6 = η 0 6 := v10
  have c2_0_8 : η2 0 8 = η2 0 8 := rfl
  have bx9 : ((-1) : Int) ≤ x9 ∧ x9 ≤ 3 := k9.1.2.1
  have v14 : zEq (η3 0 7) (η2 0 7) := (k9.1.2.2.2.1 0 7 (by decide +kernel)).trans rfl
  have d3_0_7 : η3 0 7 = η2 0 7 := v14
  have v15 : zEq (η3 0 6) (η 0 6) := (k9.1.2.2.2.1 0 6 (by decide +kernel)).trans v10
  have d3_0_6 : η3 0 6 = η 0 6 := v15
  have v16 : zEq (η3 0 8) (η2 0 8) := (k9.1.2.2.2.1 0 8 (by decide +kernel)).trans rfl
  have d3_0_8 : η3 0 8 = η2 0 8 := v16
  have v17 : zEq (η3 0 11) (η2 0 11) := (k9.1.2.2.2.1 0 11 (by decide +kernel)).trans rfl
  replace e10 : x10 = η2 0 11 := e10.trans v17
  replace r10 : -2147483648 ≤ x10 ∧ x10 ≤ 2147483647 := r10
  have v18 : zEq (η4 0 7) (η2 0 7) := by rw [eη4]; exact (zup_ne (fun e _ => absurd e (by decide))).trans v14
  have c4_0_7 : η4 0 7 = η2 0 7 := v18
  have v19 : zEq (η4 0 6) (η 0 6) := by rw [eη4]; exact (zup_ne (fun e _ => absurd e (by decide))).trans v15
  have c4_0_6 : η4 0 6 = η 0 6 := v19
  have v20 : zEq (η4 0 8) (η2 0 8) := by rw [eη4]; exact (zup_ne (fun e _ => absurd e (by decide))).trans v16
  have c4_0_8 : η4 0 8 = η2 0 8 := v20
  have bx11 : (0 : Int) ≤ x11 ∧ x11 ≤ 1 := k11.1.2.1
  have w5_0_7 : (0 : Int) ≤ η5 0 7 ∧ η5 0 7 ≤ 700 := wf_ok (a := 7) (b := 7) (z := (0, 700)) k11.1.1 (by decide +kernel) (Nat.le_refl _) (Nat.le_refl _)
  have d5_0_7 : η5 0 7 = η5 0 7 := rfl
  have v22 : zEq (η5 0 6) (η 0 6) := (k11.1.2.2.2.1 0 6 (by decide +kernel)).trans v19
  have d5_0_6 : η5 0 6 = η 0 6 := v22
  have w5_0_8 : (0 : Int) ≤ η5 0 8 ∧ η5 0 8 ≤ 6 := wf_ok (a := 8) (b := 8) (z := (0, 6)) k11.1.1 (by decide +kernel) (Nat.le_refl _) (Nat.le_refl _)
  have d5_0_8 : η5 0 8 = η5 0 8 := rfl
  replace e12 : x12 = η5 0 11 := e12
  replace r12 : -2147483648 ≤ x12 ∧ x12 ≤ 2147483647 := r12
  have v25 : zEq (η6 0 7) (η5 0 7) := by rw [eη6]; exact (zup_ne (fun e _ => absurd e (by decide))).trans rfl
  have c6_0_7 : η6 0 7 = η5 0 7 := v25
  have v26 : zEq (η6 0 6) (η 0 6) := by rw [eη6]; exact (zup_ne (fun e _ => absurd e (by decide))).trans v22
  have c6_0_6 : η6 0 6 = η 0 6 := v26
  have v27 : zEq (η6 0 8) (η5 0 8) := by rw [eη6]; exact (zup_ne (fun e _ => absurd e (by decide))).trans rfl
  have c6_0_8 : η6 0 8 = η5 0 8 := v27
  have bx13 : (0 : Int) ≤ x13 ∧ x13 ≤ 1 := k13.1.2.1
  have w7_0_7 : (0 : Int) ≤ η7 0 7 ∧ η7 0 7 ≤ 700 := wf_ok (a := 7) (b := 7) (z := (0, 700)) k13.1.1 (by decide +kernel) (Nat.le_refl _) (Nat.le_refl _)
  have d7_0_7 : η7 0 7 = η7 0 7 := rfl
  have v29 : zEq (η7 0 6) (η 0 6) := (k13.1.2.2.2.1 0 6 (by decide +kernel)).trans v26
  have d7_0_6 : η7 0 6 = η 0 6 := v29
  have w7_0_8 : (0 : Int) ≤ η7 0 8 ∧ η7 0 8 ≤ 6 := wf_ok (a := 8) (b := 8) (z := (0, 6)) k13.1.1 (by decide +kernel) (Nat.le_refl _) (Nat.le_refl _)
  have d7_0_8 : η7 0 8 = η7 0 8 := rfl
  replace e14 : x14 = η7 0 11 := e14
  replace r14 : -2147483648 ≤ x14 ∧ x14 ≤ 2147483647 := r14
  have v32 : zEq (η6 8 (Int.toNat x4)) (x12) := by rw [eη6]; exact zup_eq
  have v33 : zEq (η7 8 (Int.toNat x4)) (x12) := (k13.1.2.2.2.1 8 _ (zinr_not (by decide +kernel))).trans v32
  have v34 : zEq (η8 8 (Int.toNat x4)) (x12) := by rw [eη8]; exact (zup_ne (fun e _ => absurd e (by decide))).trans v33
  replace e15 : x15 = x12 := e15.trans v34
  replace r15 : -2147483648 ≤ x15 ∧ x15 ≤ 2147483647 := r15
  first
  | replace e16 : x16 = 100 - x15 := zd_s2 (zEq_o e16) (by clear e16; exact ⟨by omega, by omega⟩)
  | clear e16
  have v35 : zEq (η8 0 7) (η7 0 7) := by rw [eη8]; exact (zup_ne (fun e _ => absurd e (by decide))).trans rfl
  have c8_0_7 : η8 0 7 = η7 0 7 := v35
  have v36 : zEq (η8 0 6) (η 0 6) := by rw [eη8]; exact (zup_ne (fun e _ => absurd e (by decide))).trans v29
  have c8_0_6 : η8 0 6 = η 0 6 := v36
  have v37 : zEq (η8 0 8) (η7 0 8) := by rw [eη8]; exact (zup_ne (fun e _ => absurd e (by decide))).trans rfl
  have c8_0_8 : η8 0 8 = η7 0 8 := v37
  have bx17 : (0 : Int) ≤ x17 ∧ x17 ≤ 1 := k17.1.2.1
  have w9_0_7 : (0 : Int) ≤ η9 0 7 ∧ η9 0 7 ≤ 700 := wf_ok (a := 7) (b := 7) (z := (0, 700)) k17.1.1 (by decide +kernel) (Nat.le_refl _) (Nat.le_refl _)
  have d9_0_7 : η9 0 7 = η9 0 7 := rfl
  have v39 : zEq (η9 0 6) (η 0 6) := (k17.1.2.2.2.1 0 6 (by decide +kernel)).trans v36
  have d9_0_6 : η9 0 6 = η 0 6 := v39
  have w9_0_8 : (0 : Int) ≤ η9 0 8 ∧ η9 0 8 ≤ 6 := wf_ok (a := 8) (b := 8) (z := (0, 6)) k17.1.1 (by decide +kernel) (Nat.le_refl _) (Nat.le_refl _)
  have d9_0_8 : η9 0 8 = η9 0 8 := rfl
  replace e18 : x18 = η9 0 11 := e18
  replace r18 : -2147483648 ≤ x18 ∧ x18 ≤ 2147483647 := r18
  have v42 : zEq (η10 0 7) (η9 0 7) := by rw [eη10]; exact (zup_ne (fun e _ => absurd e (by decide))).trans rfl
  have f0_7 : η10 0 7 = η9 0 7 := v42
  have v43 : zEq (η10 0 6) (η 0 6) := by rw [eη10]; exact (zup_ne (fun e _ => absurd e (by decide))).trans v39
  have f0_6 : η10 0 6 = η 0 6 := v43
  have v44 : zEq (η10 0 8) (η9 0 8) := by rw [eη10]; exact (zup_ne (fun e _ => absurd e (by decide))).trans rfl
  have f0_8 : η10 0 8 = η9 0 8 := v44
  have qt2 : ¬ η 0 8 = 0 → 10 * (η1 0 6 - η1 0 7) + η1 0 8 < 10 * (η 0 6 - η 0 7) + η 0 8 := k2.2.2
  have qn6 : ¬ x6 = 0 → 10 * (η2 0 6 - η2 0 7) + η2 0 8 < 10 * (η1 0 6 - η1 0 7) + η1 0 8 := k6.2.2
  have g4 : G_n η4 := by rw [eη4]; exact zGk_up gk_n k9.2 (by decide +kernel)
  have qn11 : ¬ x11 = 0 → 10 * (η5 0 6 - η5 0 7) + η5 0 8 < 10 * (η4 0 6 - η4 0 7) + η4 0 8 := k11.2.2
  have g6 : G_n η6 := by rw [eη6]; exact zGk_up gk_n k11.2.1 (by decide +kernel)
  have qn13 : ¬ x13 = 0 → 10 * (η7 0 6 - η7 0 7) + η7 0 8 < 10 * (η6 0 6 - η6 0 7) + η6 0 8 := k13.2.2
  have g8 : G_n η8 := by rw [eη8]; exact zGk_up gk_n k13.2.1 (by decide +kernel)
  have qn17 : ¬ x17 = 0 → 10 * (η9 0 6 - η9 0 7) + η9 0 8 < 10 * (η8 0 6 - η8 0 7) + η8 0 8 := k17.2.2
  have g10 : G_n η10 := by rw [eη10]; exact zGk_up gk_n k17.2.1 (by decide +kernel)
  exact g10
set_option maxHeartbeats 8000000 in
theorem zne_scratLine_o7 {ro : Nat → List Int32} (η : zE) (hp : sP wl_ne zTr zPne_scratLine [] η) (hpp : pPne_scratLine [] η) : ∀ x1 : Int, x1 = η 0 (Int.toNat 17) → zok 0 x1 → (¬ x1 = 4) → ∀ (x2 : Int) (η1 : zE), ((gC2 wl_ne [(nat_lit 0, zPne_wrong, zOne_wrong, zMne_wrong), (nat_lit 1, zPne_token, zOne_token, zMne_token), (nat_lit 2, zPne_number, zOne_number, zMne_number), (nat_lit 3, zPne_find_s, zOne_find_s, zMne_find_s)] pCne_scratLine qCne_scratLine) 1).2 [] η x2 η1 → ∀ x3 : Int, x3 = η1 0 (Int.toNat 17) → zok 0 x3 → ∀ x4 : Int, x4 = zd 0 1 4 x3 → ∀ x5 : Int, x5 = η1 0 (Int.toNat 10) → zok 0 x5 → ∀ (x6 : Int) (η2 : zE), ((gC2 wl_ne [(nat_lit 0, zPne_wrong, zOne_wrong, zMne_wrong), (nat_lit 1, zPne_token, zOne_token, zMne_token), (nat_lit 2, zPne_number, zOne_number, zMne_number), (nat_lit 3, zPne_find_s, zOne_find_s, zMne_find_s)] pCne_scratLine qCne_scratLine) 2).2 [0, 11] η1 x6 η2 → (¬ x6 = 0) → ∀ x7 : Int, x7 = η2 0 (Int.toNat 17) → zok 0 x7 → ∀ x8 : Int, x8 = η2 0 (Int.toNat 11) → zok 0 x8 → ∀ (x9 : Int) (η3 : zE), ((gC2 wl_ne [(nat_lit 0, zPne_wrong, zOne_wrong, zMne_wrong), (nat_lit 1, zPne_token, zOne_token, zMne_token), (nat_lit 2, zPne_number, zOne_number, zMne_number), (nat_lit 3, zPne_find_s, zOne_find_s, zMne_find_s)] pCne_scratLine qCne_scratLine) 3).2 [x7, x8] η2 x9 η3 → (x9 < 0) → ∀ x10 : Int, x10 = η3 0 (Int.toNat 11) → zok 0 x10 → ∀ η4 : zE, η4 = zup η3 7 (Int.toNat x4) x10 → ∀ (x11 : Int) (η5 : zE), ((gC2 wl_ne [(nat_lit 0, zPne_wrong, zOne_wrong, zMne_wrong), (nat_lit 1, zPne_token, zOne_token, zMne_token), (nat_lit 2, zPne_number, zOne_number, zMne_number), (nat_lit 3, zPne_find_s, zOne_find_s, zMne_find_s)] pCne_scratLine qCne_scratLine) 2).2 [0, 100] η4 x11 η5 → (¬ x11 = 0) → ∀ x12 : Int, x12 = η5 0 (Int.toNat 11) → zok 0 x12 → ∀ η6 : zE, η6 = zup η5 8 (Int.toNat x4) x12 → ∀ (x13 : Int) (η7 : zE), ((gC2 wl_ne [(nat_lit 0, zPne_wrong, zOne_wrong, zMne_wrong), (nat_lit 1, zPne_token, zOne_token, zMne_token), (nat_lit 2, zPne_number, zOne_number, zMne_number), (nat_lit 3, zPne_find_s, zOne_find_s, zMne_find_s)] pCne_scratLine qCne_scratLine) 2).2 [1, 9] η6 x13 η7 → (¬ x13 = 0) → ∀ x14 : Int, x14 = η7 0 (Int.toNat 11) → zok 0 x14 → ∀ η8 : zE, η8 = zup η7 9 (Int.toNat x4) x14 → ∀ x15 : Int, x15 = η8 8 (Int.toNat x4) → zok 0 x15 → ∀ x16 : Int, x16 = zd 0 2 100 x15 → ∀ (x17 : Int) (η9 : zE), ((gC2 wl_ne [(nat_lit 0, zPne_wrong, zOne_wrong, zMne_wrong), (nat_lit 1, zPne_token, zOne_token, zMne_token), (nat_lit 2, zPne_number, zOne_number, zMne_number), (nat_lit 3, zPne_find_s, zOne_find_s, zMne_find_s)] pCne_scratLine qCne_scratLine) 2).2 [0, x16] η8 x17 η9 → (¬ x17 = 0) → ∀ x18 : Int, x18 = η9 0 (Int.toNat 11) → zok 0 x18 → ∀ η10 : zE, η10 = zup η9 10 (Int.toNat x4) x18 → ∀ (x19 : Int) (η11 : zE), ((gC2 wl_ne [(nat_lit 0, zPne_wrong, zOne_wrong, zMne_wrong), (nat_lit 1, zPne_token, zOne_token, zMne_token), (nat_lit 2, zPne_number, zOne_number, zMne_number), (nat_lit 3, zPne_find_s, zOne_find_s, zMne_find_s)] pCne_scratLine qCne_scratLine) 2).2 [1, 9] η10 x19 η11 → (¬ x19 = 0) → ∀ x20 : Int, x20 = η11 0 (Int.toNat 11) → zok 0 x20 → ∀ η12 : zE, η12 = zup η11 11 (Int.toNat x4) x20 → ∀ x21 : Int, x21 = η12 0 (Int.toNat 17) → zok 0 x21 → ∀ x22 : Int, x22 = zd 0 1 x21 1 → ∀ η13 : zE, η13 = zup η12 0 (Int.toNat 17) x22 → (fun (_ : Nat) (y : Int) (η' : zE) => pQne_scratLine [] η y η') 0 1 η13 := by
  intro x1 e1 r1 c1 x2 η1 h2 x3 e3 r3 x4 e4 x5 e5 r5 x6 η2 h6 c2 x7 e7 r7 x8 e8 r8 x9 η3 h9 c3 x10 e10 r10 η4 eη4 x11 η5 h11 c4 x12 e12 r12 η6 eη6 x13 η7 h13 c5 x14 e14 r14 η8 eη8 x15 e15 r15 x16 e16 x17 η9 h17 c6 x18 e18 r18 η10 eη10 x19 η11 h19 c7 x20 e20 r20 η12 eη12 x21 e21 r21 x22 e22 η13 eη13
  have y2 : fQne_token [] η x2 η1 := h2.2.2
  have k2 : sQ wl_ne zTr zOne_token zMne_token [] η x2 η1 ∧ oQne_token [] η x2 η1 := ⟨h2.1, h2.2.1⟩
  have y6 : fQne_number [0, 11] η1 x6 η2 := h6.2.2
  have k6 : sQ wl_ne zTr zOne_number zMne_number [0, 11] η1 x6 η2 ∧ oQne_number [0, 11] η1 x6 η2 := ⟨h6.1, h6.2.1⟩
  have y9 : fQne_find_s [x7, x8] η2 x9 η3 := h9.2.2
  have k9 : sQ wl_ne zTr zOne_find_s zMne_find_s [x7, x8] η2 x9 η3 ∧ oQne_find_s [x7, x8] η2 x9 η3 := ⟨h9.1, h9.2.1⟩
  have y11 : fQne_number [0, 100] η4 x11 η5 := h11.2.2
  have k11 : sQ wl_ne zTr zOne_number zMne_number [0, 100] η4 x11 η5 ∧ oQne_number [0, 100] η4 x11 η5 := ⟨h11.1, h11.2.1⟩
  have y13 : fQne_number [1, 9] η6 x13 η7 := h13.2.2
  have k13 : sQ wl_ne zTr zOne_number zMne_number [1, 9] η6 x13 η7 ∧ oQne_number [1, 9] η6 x13 η7 := ⟨h13.1, h13.2.1⟩
  have y17 : fQne_number [0, x16] η8 x17 η9 := h17.2.2
  have k17 : sQ wl_ne zTr zOne_number zMne_number [0, x16] η8 x17 η9 ∧ oQne_number [0, x16] η8 x17 η9 := ⟨h17.1, h17.2.1⟩
  have y19 : fQne_number [1, 9] η10 x19 η11 := h19.2.2
  have k19 : sQ wl_ne zTr zOne_number zMne_number [1, 9] η10 x19 η11 ∧ oQne_number [1, 9] η10 x19 η11 := ⟨h19.1, h19.2.1⟩
  refine yj_a ?_ ?_
  · have hk : ¬ η 0 8 = 0 := hpp.2
    replace e4 := zEq_i e4
    replace e16 := zEq_i e16
    replace e22 := zEq_i e22
    have y2 : fQne_token [] η x2 η1 := h2.2.2
    have k2 : sQ wl_ne zTr zOne_token zMne_token [] η x2 η1 ∧ oQne_token [] η x2 η1 := ⟨h2.1, h2.2.1⟩
    have y6 : fQne_number [0, 11] η1 x6 η2 := h6.2.2
    have k6 : sQ wl_ne zTr zOne_number zMne_number [0, 11] η1 x6 η2 ∧ oQne_number [0, 11] η1 x6 η2 := ⟨h6.1, h6.2.1⟩
    have y9 : fQne_find_s [x7, x8] η2 x9 η3 := h9.2.2
    have k9 : sQ wl_ne zTr zOne_find_s zMne_find_s [x7, x8] η2 x9 η3 ∧ oQne_find_s [x7, x8] η2 x9 η3 := ⟨h9.1, h9.2.1⟩
    have y11 : fQne_number [0, 100] η4 x11 η5 := h11.2.2
    have k11 : sQ wl_ne zTr zOne_number zMne_number [0, 100] η4 x11 η5 ∧ oQne_number [0, 100] η4 x11 η5 := ⟨h11.1, h11.2.1⟩
    have y13 : fQne_number [1, 9] η6 x13 η7 := h13.2.2
    have k13 : sQ wl_ne zTr zOne_number zMne_number [1, 9] η6 x13 η7 ∧ oQne_number [1, 9] η6 x13 η7 := ⟨h13.1, h13.2.1⟩
    have y17 : fQne_number [0, x16] η8 x17 η9 := h17.2.2
    have k17 : sQ wl_ne zTr zOne_number zMne_number [0, x16] η8 x17 η9 ∧ oQne_number [0, x16] η8 x17 η9 := ⟨h17.1, h17.2.1⟩
    have y19 : fQne_number [1, 9] η10 x19 η11 := h19.2.2
    have k19 : sQ wl_ne zTr zOne_number zMne_number [1, 9] η10 x19 η11 ∧ oQne_number [1, 9] η10 x19 η11 := ⟨h19.1, h19.2.1⟩
    have w0_0_17 : (0 : Int) ≤ η 0 17 ∧ η 0 17 ≤ 4 := wf_ok (a := 17) (b := 17) (z := (0, 4)) hp.1 (by decide +kernel) (Nat.le_refl _) (Nat.le_refl _)
    replace e1 : x1 = η 0 17 := e1
    have w0_0_7 : (0 : Int) ≤ η 0 7 ∧ η 0 7 ≤ 700 := wf_ok (a := 7) (b := 7) (z := (0, 700)) hp.1 (by decide +kernel) (Nat.le_refl _) (Nat.le_refl _)
    have c0_0_7 : η 0 7 = η 0 7 := rfl
    have w0_0_6 : (0 : Int) ≤ η 0 6 ∧ η 0 6 ≤ 700 := wf_ok (a := 6) (b := 6) (z := (0, 700)) hp.1 (by decide +kernel) (Nat.le_refl _) (Nat.le_refl _)
    have c0_0_6 : η 0 6 = η 0 6 := rfl
    have w0_0_8 : (0 : Int) ≤ η 0 8 ∧ η 0 8 ≤ 6 := wf_ok (a := 8) (b := 8) (z := (0, 6)) hp.1 (by decide +kernel) (Nat.le_refl _) (Nat.le_refl _)
    have c0_0_8 : η 0 8 = η 0 8 := rfl
    have bx2 : (0 : Int) ≤ x2 ∧ x2 ≤ 0 := k2.1.2.1
    have w1_0_7 : (0 : Int) ≤ η1 0 7 ∧ η1 0 7 ≤ 700 := wf_ok (a := 7) (b := 7) (z := (0, 700)) k2.1.1 (by decide +kernel) (Nat.le_refl _) (Nat.le_refl _)
    have d1_0_7 : η1 0 7 = η1 0 7 := rfl
    have v5 : zEq (η1 0 6) (η 0 6) := (k2.1.2.2.2.1 0 6 (by decide +kernel)).trans rfl
    have d1_0_6 : η1 0 6 = η 0 6 := v5
    have w1_0_8 : (0 : Int) ≤ η1 0 8 ∧ η1 0 8 ≤ 6 := wf_ok (a := 8) (b := 8) (z := (0, 6)) k2.1.1 (by decide +kernel) (Nat.le_refl _) (Nat.le_refl _)
    have d1_0_8 : η1 0 8 = η1 0 8 := rfl
    have v7 : zEq (η1 0 17) (η 0 17) := (k2.1.2.2.2.1 0 17 (by decide +kernel)).trans rfl
    replace e3 : x3 = η 0 17 := e3.trans v7
    first
    | replace e4 : x4 = 4 + x3 := zd_a2 (zEq_o e4) (by clear e4; exact ⟨by omega, by omega⟩)
    | clear e4
    have w1_0_10 : (0 : Int) ≤ η1 0 10 ∧ η1 0 10 ≤ 700 := wf_ok (a := 10) (b := 10) (z := (0, 700)) k2.1.1 (by decide +kernel) (Nat.le_refl _) (Nat.le_refl _)
    replace e5 : x5 = η1 0 10 := e5
    have c1_0_7 : η1 0 7 = η1 0 7 := rfl
    have c1_0_6 : η1 0 6 = η 0 6 := v5
    have c1_0_8 : η1 0 8 = η1 0 8 := rfl
    have bx6 : (0 : Int) ≤ x6 ∧ x6 ≤ 1 := k6.1.2.1
    have w2_0_7 : (0 : Int) ≤ η2 0 7 ∧ η2 0 7 ≤ 700 := wf_ok (a := 7) (b := 7) (z := (0, 700)) k6.1.1 (by decide +kernel) (Nat.le_refl _) (Nat.le_refl _)
    have d2_0_7 : η2 0 7 = η2 0 7 := rfl
    have v10 : zEq (η2 0 6) (η 0 6) := (k6.1.2.2.2.1 0 6 (by decide +kernel)).trans v5
    have d2_0_6 : η2 0 6 = η 0 6 := v10
    have w2_0_8 : (0 : Int) ≤ η2 0 8 ∧ η2 0 8 ≤ 6 := wf_ok (a := 8) (b := 8) (z := (0, 6)) k6.1.1 (by decide +kernel) (Nat.le_refl _) (Nat.le_refl _)
    have d2_0_8 : η2 0 8 = η2 0 8 := rfl
    have v12 : zEq (η2 0 17) (η 0 17) := (k6.1.2.2.2.1 0 17 (by decide +kernel)).trans v7
    replace e7 : x7 = η 0 17 := e7.trans v12
    replace e8 : x8 = η2 0 11 := e8
    replace r8 : -2147483648 ≤ x8 ∧ x8 ≤ 2147483647 := r8
    have c2_0_7 : η2 0 7 = η2 0 7 := rfl
    have c2_0_6 : η2 0 6 = η 0 6 := v10
    have c2_0_8 : η2 0 8 = η2 0 8 := rfl
    have bx9 : ((-1) : Int) ≤ x9 ∧ x9 ≤ 3 := k9.1.2.1
    have v14 : zEq (η3 0 7) (η2 0 7) := (k9.1.2.2.2.1 0 7 (by decide +kernel)).trans rfl
    have d3_0_7 : η3 0 7 = η2 0 7 := v14
    have v15 : zEq (η3 0 6) (η 0 6) := (k9.1.2.2.2.1 0 6 (by decide +kernel)).trans v10
    have d3_0_6 : η3 0 6 = η 0 6 := v15
    have v16 : zEq (η3 0 8) (η2 0 8) := (k9.1.2.2.2.1 0 8 (by decide +kernel)).trans rfl
    have d3_0_8 : η3 0 8 = η2 0 8 := v16
    have v17 : zEq (η3 0 11) (η2 0 11) := (k9.1.2.2.2.1 0 11 (by decide +kernel)).trans rfl
    replace e10 : x10 = η2 0 11 := e10.trans v17
    replace r10 : -2147483648 ≤ x10 ∧ x10 ≤ 2147483647 := r10
    have v18 : zEq (η4 0 7) (η2 0 7) := by rw [eη4]; exact (zup_ne (fun e _ => absurd e (by decide))).trans v14
    have c4_0_7 : η4 0 7 = η2 0 7 := v18
    have v19 : zEq (η4 0 6) (η 0 6) := by rw [eη4]; exact (zup_ne (fun e _ => absurd e (by decide))).trans v15
    have c4_0_6 : η4 0 6 = η 0 6 := v19
    have v20 : zEq (η4 0 8) (η2 0 8) := by rw [eη4]; exact (zup_ne (fun e _ => absurd e (by decide))).trans v16
    have c4_0_8 : η4 0 8 = η2 0 8 := v20
    have bx11 : (0 : Int) ≤ x11 ∧ x11 ≤ 1 := k11.1.2.1
    have w5_0_7 : (0 : Int) ≤ η5 0 7 ∧ η5 0 7 ≤ 700 := wf_ok (a := 7) (b := 7) (z := (0, 700)) k11.1.1 (by decide +kernel) (Nat.le_refl _) (Nat.le_refl _)
    have d5_0_7 : η5 0 7 = η5 0 7 := rfl
    have v22 : zEq (η5 0 6) (η 0 6) := (k11.1.2.2.2.1 0 6 (by decide +kernel)).trans v19
    have d5_0_6 : η5 0 6 = η 0 6 := v22
    have w5_0_8 : (0 : Int) ≤ η5 0 8 ∧ η5 0 8 ≤ 6 := wf_ok (a := 8) (b := 8) (z := (0, 6)) k11.1.1 (by decide +kernel) (Nat.le_refl _) (Nat.le_refl _)
    have d5_0_8 : η5 0 8 = η5 0 8 := rfl
    replace e12 : x12 = η5 0 11 := e12
    replace r12 : -2147483648 ≤ x12 ∧ x12 ≤ 2147483647 := r12
    have v25 : zEq (η6 0 7) (η5 0 7) := by rw [eη6]; exact (zup_ne (fun e _ => absurd e (by decide))).trans rfl
    have c6_0_7 : η6 0 7 = η5 0 7 := v25
    have v26 : zEq (η6 0 6) (η 0 6) := by rw [eη6]; exact (zup_ne (fun e _ => absurd e (by decide))).trans v22
    have c6_0_6 : η6 0 6 = η 0 6 := v26
    have v27 : zEq (η6 0 8) (η5 0 8) := by rw [eη6]; exact (zup_ne (fun e _ => absurd e (by decide))).trans rfl
    have c6_0_8 : η6 0 8 = η5 0 8 := v27
    have bx13 : (0 : Int) ≤ x13 ∧ x13 ≤ 1 := k13.1.2.1
    have w7_0_7 : (0 : Int) ≤ η7 0 7 ∧ η7 0 7 ≤ 700 := wf_ok (a := 7) (b := 7) (z := (0, 700)) k13.1.1 (by decide +kernel) (Nat.le_refl _) (Nat.le_refl _)
    have d7_0_7 : η7 0 7 = η7 0 7 := rfl
    have v29 : zEq (η7 0 6) (η 0 6) := (k13.1.2.2.2.1 0 6 (by decide +kernel)).trans v26
    have d7_0_6 : η7 0 6 = η 0 6 := v29
    have w7_0_8 : (0 : Int) ≤ η7 0 8 ∧ η7 0 8 ≤ 6 := wf_ok (a := 8) (b := 8) (z := (0, 6)) k13.1.1 (by decide +kernel) (Nat.le_refl _) (Nat.le_refl _)
    have d7_0_8 : η7 0 8 = η7 0 8 := rfl
    replace e14 : x14 = η7 0 11 := e14
    replace r14 : -2147483648 ≤ x14 ∧ x14 ≤ 2147483647 := r14
    have v32 : zEq (η6 8 (Int.toNat x4)) (x12) := by rw [eη6]; exact zup_eq
    have v33 : zEq (η7 8 (Int.toNat x4)) (x12) := (k13.1.2.2.2.1 8 _ (zinr_not (by decide +kernel))).trans v32
    have v34 : zEq (η8 8 (Int.toNat x4)) (x12) := by rw [eη8]; exact (zup_ne (fun e _ => absurd e (by decide))).trans v33
    replace e15 : x15 = x12 := e15.trans v34
    replace r15 : -2147483648 ≤ x15 ∧ x15 ≤ 2147483647 := r15
    first
    | replace e16 : x16 = 100 - x15 := zd_s2 (zEq_o e16) (by clear e16; exact ⟨by omega, by omega⟩)
    | clear e16
    have v35 : zEq (η8 0 7) (η7 0 7) := by rw [eη8]; exact (zup_ne (fun e _ => absurd e (by decide))).trans rfl
    have c8_0_7 : η8 0 7 = η7 0 7 := v35
    have v36 : zEq (η8 0 6) (η 0 6) := by rw [eη8]; exact (zup_ne (fun e _ => absurd e (by decide))).trans v29
    have c8_0_6 : η8 0 6 = η 0 6 := v36
    have v37 : zEq (η8 0 8) (η7 0 8) := by rw [eη8]; exact (zup_ne (fun e _ => absurd e (by decide))).trans rfl
    have c8_0_8 : η8 0 8 = η7 0 8 := v37
    have bx17 : (0 : Int) ≤ x17 ∧ x17 ≤ 1 := k17.1.2.1
    have w9_0_7 : (0 : Int) ≤ η9 0 7 ∧ η9 0 7 ≤ 700 := wf_ok (a := 7) (b := 7) (z := (0, 700)) k17.1.1 (by decide +kernel) (Nat.le_refl _) (Nat.le_refl _)
    have d9_0_7 : η9 0 7 = η9 0 7 := rfl
    have v39 : zEq (η9 0 6) (η 0 6) := (k17.1.2.2.2.1 0 6 (by decide +kernel)).trans v36
    have d9_0_6 : η9 0 6 = η 0 6 := v39
    have w9_0_8 : (0 : Int) ≤ η9 0 8 ∧ η9 0 8 ≤ 6 := wf_ok (a := 8) (b := 8) (z := (0, 6)) k17.1.1 (by decide +kernel) (Nat.le_refl _) (Nat.le_refl _)
    have d9_0_8 : η9 0 8 = η9 0 8 := rfl
    replace e18 : x18 = η9 0 11 := e18
    replace r18 : -2147483648 ≤ x18 ∧ x18 ≤ 2147483647 := r18
    have v42 : zEq (η10 0 7) (η9 0 7) := by rw [eη10]; exact (zup_ne (fun e _ => absurd e (by decide))).trans rfl
    have c10_0_7 : η10 0 7 = η9 0 7 := v42
    have v43 : zEq (η10 0 6) (η 0 6) := by rw [eη10]; exact (zup_ne (fun e _ => absurd e (by decide))).trans v39
    have c10_0_6 : η10 0 6 = η 0 6 := v43
    have v44 : zEq (η10 0 8) (η9 0 8) := by rw [eη10]; exact (zup_ne (fun e _ => absurd e (by decide))).trans rfl
    have c10_0_8 : η10 0 8 = η9 0 8 := v44
    have bx19 : (0 : Int) ≤ x19 ∧ x19 ≤ 1 := k19.1.2.1
    have w11_0_7 : (0 : Int) ≤ η11 0 7 ∧ η11 0 7 ≤ 700 := wf_ok (a := 7) (b := 7) (z := (0, 700)) k19.1.1 (by decide +kernel) (Nat.le_refl _) (Nat.le_refl _)
    have d11_0_7 : η11 0 7 = η11 0 7 := rfl
    have v46 : zEq (η11 0 6) (η 0 6) := (k19.1.2.2.2.1 0 6 (by decide +kernel)).trans v43
    have d11_0_6 : η11 0 6 = η 0 6 := v46
    have w11_0_8 : (0 : Int) ≤ η11 0 8 ∧ η11 0 8 ≤ 6 := wf_ok (a := 8) (b := 8) (z := (0, 6)) k19.1.1 (by decide +kernel) (Nat.le_refl _) (Nat.le_refl _)
    have d11_0_8 : η11 0 8 = η11 0 8 := rfl
    replace e20 : x20 = η11 0 11 := e20
    replace r20 : -2147483648 ≤ x20 ∧ x20 ≤ 2147483647 := r20
    have v49 : zEq (η3 0 17) (η 0 17) := (k9.1.2.2.2.1 0 17 (by decide +kernel)).trans v12
    have v50 : zEq (η4 0 17) (η 0 17) := by rw [eη4]; exact (zup_ne (fun e _ => absurd e (by decide))).trans v49
    have v51 : zEq (η5 0 17) (η 0 17) := (k11.1.2.2.2.1 0 17 (by decide +kernel)).trans v50
    have v52 : zEq (η6 0 17) (η 0 17) := by rw [eη6]; exact (zup_ne (fun e _ => absurd e (by decide))).trans v51
    have v53 : zEq (η7 0 17) (η 0 17) := (k13.1.2.2.2.1 0 17 (by decide +kernel)).trans v52
    have v54 : zEq (η8 0 17) (η 0 17) := by rw [eη8]; exact (zup_ne (fun e _ => absurd e (by decide))).trans v53
    have v55 : zEq (η9 0 17) (η 0 17) := (k17.1.2.2.2.1 0 17 (by decide +kernel)).trans v54
    have v56 : zEq (η10 0 17) (η 0 17) := by rw [eη10]; exact (zup_ne (fun e _ => absurd e (by decide))).trans v55
    have v57 : zEq (η11 0 17) (η 0 17) := (k19.1.2.2.2.1 0 17 (by decide +kernel)).trans v56
    have v58 : zEq (η12 0 17) (η 0 17) := by rw [eη12]; exact (zup_ne (fun e _ => absurd e (by decide))).trans v57
    replace e21 : x21 = η 0 17 := e21.trans v58
    first
    | replace e22 : x22 = x21 + 1 := zd_a2 (zEq_o e22) (by clear e22; exact ⟨by omega, by omega⟩)
    | clear e22
    have v59 : zEq (η12 0 7) (η11 0 7) := by rw [eη12]; exact (zup_ne (fun e _ => absurd e (by decide))).trans rfl
    have v60 : zEq (η13 0 7) (η11 0 7) := by rw [eη13]; exact (zup_ne (fun _ e => absurd e (by decide))).trans v59
    have f0_7 : η13 0 7 = η11 0 7 := v60
    have v61 : zEq (η12 0 6) (η 0 6) := by rw [eη12]; exact (zup_ne (fun e _ => absurd e (by decide))).trans v46
    have v62 : zEq (η13 0 6) (η 0 6) := by rw [eη13]; exact (zup_ne (fun _ e => absurd e (by decide))).trans v61
    have f0_6 : η13 0 6 = η 0 6 := v62
    have v63 : zEq (η12 0 8) (η11 0 8) := by rw [eη12]; exact (zup_ne (fun e _ => absurd e (by decide))).trans rfl
    have v64 : zEq (η13 0 8) (η11 0 8) := by rw [eη13]; exact (zup_ne (fun _ e => absurd e (by decide))).trans v63
    have f0_8 : η13 0 8 = η11 0 8 := v64
    have qt2 : ¬ η 0 8 = 0 → 10 * (η1 0 6 - η1 0 7) + η1 0 8 < 10 * (η 0 6 - η 0 7) + η 0 8 := k2.2.2
    have qn6 : ¬ x6 = 0 → 10 * (η2 0 6 - η2 0 7) + η2 0 8 < 10 * (η1 0 6 - η1 0 7) + η1 0 8 := k6.2.2
    have g4 : G_n η4 := by rw [eη4]; exact zGk_up gk_n k9.2 (by decide +kernel)
    have qn11 : ¬ x11 = 0 → 10 * (η5 0 6 - η5 0 7) + η5 0 8 < 10 * (η4 0 6 - η4 0 7) + η4 0 8 := k11.2.2
    have g6 : G_n η6 := by rw [eη6]; exact zGk_up gk_n k11.2.1 (by decide +kernel)
    have qn13 : ¬ x13 = 0 → 10 * (η7 0 6 - η7 0 7) + η7 0 8 < 10 * (η6 0 6 - η6 0 7) + η6 0 8 := k13.2.2
    have g8 : G_n η8 := by rw [eη8]; exact zGk_up gk_n k13.2.1 (by decide +kernel)
    have qn17 : ¬ x17 = 0 → 10 * (η9 0 6 - η9 0 7) + η9 0 8 < 10 * (η8 0 6 - η8 0 7) + η8 0 8 := k17.2.2
    have g10 : G_n η10 := by rw [eη10]; exact zGk_up gk_n k17.2.1 (by decide +kernel)
    have qn19 : ¬ x19 = 0 → 10 * (η11 0 6 - η11 0 7) + η11 0 8 < 10 * (η10 0 6 - η10 0 7) + η10 0 8 := k19.2.2
    have g12 : G_n η12 := by rw [eη12]; exact zGk_up gk_n k19.2.1 (by decide +kernel)
    have g13 : G_n η13 := by rw [eη13]; exact zGk_upc gk_n g12 (by decide +kernel)
    exact ⟨g13, fun _ => show 10 * (η13 0 6 - η13 0 7) + η13 0 8 < 10 * (η 0 6 - η 0 7) + η 0 8 by omega⟩
  · have e1 : x1 = η 0 17 := e1
    have b2 : η1 = (yq_tok η) := y2
    have e3 : x3 = η1 0 17 := e3
    have e4 : x4 = zd 0 1 4 x3 := e4
    have e5 : x5 = η1 0 10 := e5
    obtain ⟨a6, b6⟩ : x6 = (yq_ny 0 11 η1) ∧ η2 = (yq_ns 0 11 η1) := y6
    have e7 : x7 = η2 0 17 := e7
    have e8 : x8 = η2 0 11 := e8
    obtain ⟨a9, b9⟩ : x9 = (yp_fd (fun k => η2 7 (4 + k)) x8 (Int.toNat x7) (Int.toNat x7)) ∧ η2 = η3 := ⟨y9.1, y9.2.symm⟩
    subst b9
    have e10 : x10 = η2 0 11 := e10
    have f10 : x8 = x10 := e8.trans e10.symm
    subst f10
    have eη4 : η4 = zup η2 7 (Int.toNat x4) x8 := eη4
    obtain ⟨a11, b11⟩ : x11 = (yq_ny 0 100 η4) ∧ η5 = (yq_ns 0 100 η4) := y11
    have e12 : x12 = η5 0 11 := e12
    have eη6 : η6 = zup η5 8 (Int.toNat x4) x12 := eη6
    obtain ⟨a13, b13⟩ : x13 = (yq_ny 1 9 η6) ∧ η7 = (yq_ns 1 9 η6) := y13
    have e14 : x14 = η7 0 11 := e14
    have eη8 : η8 = zup η7 9 (Int.toNat x4) x14 := eη8
    have e15 : x15 = η8 8 (Int.toNat x4) := e15
    have e16 : x16 = zd 0 2 100 x15 := e16
    obtain ⟨a17, b17⟩ : x17 = (yq_ny 0 x16 η8) ∧ η9 = (yq_ns 0 x16 η8) := y17
    have e18 : x18 = η9 0 11 := e18
    have eη10 : η10 = zup η9 10 (Int.toNat x4) x18 := eη10
    obtain ⟨a19, b19⟩ : x19 = (yq_ny 1 9 η10) ∧ η11 = (yq_ns 1 9 η10) := y19
    have e20 : x20 = η11 0 11 := e20
    have eη12 : η12 = zup η11 11 (Int.toNat x4) x20 := eη12
    have e21 : x21 = η12 0 17 := e21
    have e22 : x22 = zd 0 1 x21 1 := e22
    have eη13 : η13 = zup η12 0 17 x22 := eη13
    show 1 = (yq_scl η).1 ∧ η13 = (yq_scl η).2
    simp only [yq_scl, yq_sc2, yq_sc3, yq_sc4, yq_sc5, yq_nt, yq_no, yq_inc, ← e1, ← b2, ← e3, ← e4, ← e5, ← a6, ← b6, ← e7, ← e8, ← a9, ← eη4, ← a11, ← b11, ← e12, ← eη6, ← a13, ← b13, ← e14, ← eη8, ← e15, ← e16, ← a17, ← b17, ← e18, ← eη10, ← a19, ← b19, ← e20, ← eη12, ← e21, ← e22, ← eη13]
    all_goals clear e4 e16 e22
    all_goals ((repeat' split) <;> first | (exfalso; omega) | exact ⟨rfl, rfl⟩ | rfl)
set_option maxHeartbeats 8000000 in
theorem zne_scratLine_o8 {ro : Nat → List Int32} (η : zE) (hp : sP wl_ne zTr zPne_scratLine [] η) (hpp : pPne_scratLine [] η) : ∀ x1 : Int, x1 = η 0 (Int.toNat 17) → zok 0 x1 → (¬ x1 = 4) → ∀ (x2 : Int) (η1 : zE), ((gC2 wl_ne [(nat_lit 0, zPne_wrong, zOne_wrong, zMne_wrong), (nat_lit 1, zPne_token, zOne_token, zMne_token), (nat_lit 2, zPne_number, zOne_number, zMne_number), (nat_lit 3, zPne_find_s, zOne_find_s, zMne_find_s)] pCne_scratLine qCne_scratLine) 1).2 [] η x2 η1 → ∀ x3 : Int, x3 = η1 0 (Int.toNat 17) → zok 0 x3 → ∀ x4 : Int, x4 = zd 0 1 4 x3 → ∀ x5 : Int, x5 = η1 0 (Int.toNat 10) → zok 0 x5 → ∀ (x6 : Int) (η2 : zE), ((gC2 wl_ne [(nat_lit 0, zPne_wrong, zOne_wrong, zMne_wrong), (nat_lit 1, zPne_token, zOne_token, zMne_token), (nat_lit 2, zPne_number, zOne_number, zMne_number), (nat_lit 3, zPne_find_s, zOne_find_s, zMne_find_s)] pCne_scratLine qCne_scratLine) 2).2 [0, 11] η1 x6 η2 → (¬ x6 = 0) → ∀ x7 : Int, x7 = η2 0 (Int.toNat 17) → zok 0 x7 → ∀ x8 : Int, x8 = η2 0 (Int.toNat 11) → zok 0 x8 → ∀ (x9 : Int) (η3 : zE), ((gC2 wl_ne [(nat_lit 0, zPne_wrong, zOne_wrong, zMne_wrong), (nat_lit 1, zPne_token, zOne_token, zMne_token), (nat_lit 2, zPne_number, zOne_number, zMne_number), (nat_lit 3, zPne_find_s, zOne_find_s, zMne_find_s)] pCne_scratLine qCne_scratLine) 3).2 [x7, x8] η2 x9 η3 → (x9 < 0) → ∀ x10 : Int, x10 = η3 0 (Int.toNat 11) → zok 0 x10 → ∀ η4 : zE, η4 = zup η3 7 (Int.toNat x4) x10 → ∀ (x11 : Int) (η5 : zE), ((gC2 wl_ne [(nat_lit 0, zPne_wrong, zOne_wrong, zMne_wrong), (nat_lit 1, zPne_token, zOne_token, zMne_token), (nat_lit 2, zPne_number, zOne_number, zMne_number), (nat_lit 3, zPne_find_s, zOne_find_s, zMne_find_s)] pCne_scratLine qCne_scratLine) 2).2 [0, 100] η4 x11 η5 → (¬ x11 = 0) → ∀ x12 : Int, x12 = η5 0 (Int.toNat 11) → zok 0 x12 → ∀ η6 : zE, η6 = zup η5 8 (Int.toNat x4) x12 → ∀ (x13 : Int) (η7 : zE), ((gC2 wl_ne [(nat_lit 0, zPne_wrong, zOne_wrong, zMne_wrong), (nat_lit 1, zPne_token, zOne_token, zMne_token), (nat_lit 2, zPne_number, zOne_number, zMne_number), (nat_lit 3, zPne_find_s, zOne_find_s, zMne_find_s)] pCne_scratLine qCne_scratLine) 2).2 [1, 9] η6 x13 η7 → (¬ x13 = 0) → ∀ x14 : Int, x14 = η7 0 (Int.toNat 11) → zok 0 x14 → ∀ η8 : zE, η8 = zup η7 9 (Int.toNat x4) x14 → ∀ x15 : Int, x15 = η8 8 (Int.toNat x4) → zok 0 x15 → ∀ x16 : Int, x16 = zd 0 2 100 x15 → ∀ (x17 : Int) (η9 : zE), ((gC2 wl_ne [(nat_lit 0, zPne_wrong, zOne_wrong, zMne_wrong), (nat_lit 1, zPne_token, zOne_token, zMne_token), (nat_lit 2, zPne_number, zOne_number, zMne_number), (nat_lit 3, zPne_find_s, zOne_find_s, zMne_find_s)] pCne_scratLine qCne_scratLine) 2).2 [0, x16] η8 x17 η9 → (¬ x17 = 0) → ∀ x18 : Int, x18 = η9 0 (Int.toNat 11) → zok 0 x18 → ∀ η10 : zE, η10 = zup η9 10 (Int.toNat x4) x18 → ∀ (x19 : Int) (η11 : zE), ((gC2 wl_ne [(nat_lit 0, zPne_wrong, zOne_wrong, zMne_wrong), (nat_lit 1, zPne_token, zOne_token, zMne_token), (nat_lit 2, zPne_number, zOne_number, zMne_number), (nat_lit 3, zPne_find_s, zOne_find_s, zMne_find_s)] pCne_scratLine qCne_scratLine) 2).2 [1, 9] η10 x19 η11 → (x19 = 0) → (fun (_ : Nat) (y : Int) (η' : zE) => pQne_scratLine [] η y η') 0 0 η11 := by
  intro x1 e1 r1 c1 x2 η1 h2 x3 e3 r3 x4 e4 x5 e5 r5 x6 η2 h6 c2 x7 e7 r7 x8 e8 r8 x9 η3 h9 c3 x10 e10 r10 η4 eη4 x11 η5 h11 c4 x12 e12 r12 η6 eη6 x13 η7 h13 c5 x14 e14 r14 η8 eη8 x15 e15 r15 x16 e16 x17 η9 h17 c6 x18 e18 r18 η10 eη10 x19 η11 h19 c7
  have y2 : fQne_token [] η x2 η1 := h2.2.2
  have k2 : sQ wl_ne zTr zOne_token zMne_token [] η x2 η1 ∧ oQne_token [] η x2 η1 := ⟨h2.1, h2.2.1⟩
  have y6 : fQne_number [0, 11] η1 x6 η2 := h6.2.2
  have k6 : sQ wl_ne zTr zOne_number zMne_number [0, 11] η1 x6 η2 ∧ oQne_number [0, 11] η1 x6 η2 := ⟨h6.1, h6.2.1⟩
  have y9 : fQne_find_s [x7, x8] η2 x9 η3 := h9.2.2
  have k9 : sQ wl_ne zTr zOne_find_s zMne_find_s [x7, x8] η2 x9 η3 ∧ oQne_find_s [x7, x8] η2 x9 η3 := ⟨h9.1, h9.2.1⟩
  have y11 : fQne_number [0, 100] η4 x11 η5 := h11.2.2
  have k11 : sQ wl_ne zTr zOne_number zMne_number [0, 100] η4 x11 η5 ∧ oQne_number [0, 100] η4 x11 η5 := ⟨h11.1, h11.2.1⟩
  have y13 : fQne_number [1, 9] η6 x13 η7 := h13.2.2
  have k13 : sQ wl_ne zTr zOne_number zMne_number [1, 9] η6 x13 η7 ∧ oQne_number [1, 9] η6 x13 η7 := ⟨h13.1, h13.2.1⟩
  have y17 : fQne_number [0, x16] η8 x17 η9 := h17.2.2
  have k17 : sQ wl_ne zTr zOne_number zMne_number [0, x16] η8 x17 η9 ∧ oQne_number [0, x16] η8 x17 η9 := ⟨h17.1, h17.2.1⟩
  have y19 : fQne_number [1, 9] η10 x19 η11 := h19.2.2
  have k19 : sQ wl_ne zTr zOne_number zMne_number [1, 9] η10 x19 η11 ∧ oQne_number [1, 9] η10 x19 η11 := ⟨h19.1, h19.2.1⟩
  refine yj_a ?_ ?_
  · have hk : ¬ η 0 8 = 0 := hpp.2
    replace e4 := zEq_i e4
    replace e16 := zEq_i e16
    have y2 : fQne_token [] η x2 η1 := h2.2.2
    have k2 : sQ wl_ne zTr zOne_token zMne_token [] η x2 η1 ∧ oQne_token [] η x2 η1 := ⟨h2.1, h2.2.1⟩
    have y6 : fQne_number [0, 11] η1 x6 η2 := h6.2.2
    have k6 : sQ wl_ne zTr zOne_number zMne_number [0, 11] η1 x6 η2 ∧ oQne_number [0, 11] η1 x6 η2 := ⟨h6.1, h6.2.1⟩
    have y9 : fQne_find_s [x7, x8] η2 x9 η3 := h9.2.2
    have k9 : sQ wl_ne zTr zOne_find_s zMne_find_s [x7, x8] η2 x9 η3 ∧ oQne_find_s [x7, x8] η2 x9 η3 := ⟨h9.1, h9.2.1⟩
    have y11 : fQne_number [0, 100] η4 x11 η5 := h11.2.2
    have k11 : sQ wl_ne zTr zOne_number zMne_number [0, 100] η4 x11 η5 ∧ oQne_number [0, 100] η4 x11 η5 := ⟨h11.1, h11.2.1⟩
    have y13 : fQne_number [1, 9] η6 x13 η7 := h13.2.2
    have k13 : sQ wl_ne zTr zOne_number zMne_number [1, 9] η6 x13 η7 ∧ oQne_number [1, 9] η6 x13 η7 := ⟨h13.1, h13.2.1⟩
    have y17 : fQne_number [0, x16] η8 x17 η9 := h17.2.2
    have k17 : sQ wl_ne zTr zOne_number zMne_number [0, x16] η8 x17 η9 ∧ oQne_number [0, x16] η8 x17 η9 := ⟨h17.1, h17.2.1⟩
    have y19 : fQne_number [1, 9] η10 x19 η11 := h19.2.2
    have k19 : sQ wl_ne zTr zOne_number zMne_number [1, 9] η10 x19 η11 ∧ oQne_number [1, 9] η10 x19 η11 := ⟨h19.1, h19.2.1⟩
    have w0_0_17 : (0 : Int) ≤ η 0 17 ∧ η 0 17 ≤ 4 := wf_ok (a := 17) (b := 17) (z := (0, 4)) hp.1 (by decide +kernel) (Nat.le_refl _) (Nat.le_refl _)
    replace e1 : x1 = η 0 17 := e1
    have w0_0_7 : (0 : Int) ≤ η 0 7 ∧ η 0 7 ≤ 700 := wf_ok (a := 7) (b := 7) (z := (0, 700)) hp.1 (by decide +kernel) (Nat.le_refl _) (Nat.le_refl _)
    have c0_0_7 : η 0 7 = η 0 7 := rfl
    have w0_0_6 : (0 : Int) ≤ η 0 6 ∧ η 0 6 ≤ 700 := wf_ok (a := 6) (b := 6) (z := (0, 700)) hp.1 (by decide +kernel) (Nat.le_refl _) (Nat.le_refl _)
    have c0_0_6 : η 0 6 = η 0 6 := rfl
    have w0_0_8 : (0 : Int) ≤ η 0 8 ∧ η 0 8 ≤ 6 := wf_ok (a := 8) (b := 8) (z := (0, 6)) hp.1 (by decide +kernel) (Nat.le_refl _) (Nat.le_refl _)
    have c0_0_8 : η 0 8 = η 0 8 := rfl
    have bx2 : (0 : Int) ≤ x2 ∧ x2 ≤ 0 := k2.1.2.1
    have w1_0_7 : (0 : Int) ≤ η1 0 7 ∧ η1 0 7 ≤ 700 := wf_ok (a := 7) (b := 7) (z := (0, 700)) k2.1.1 (by decide +kernel) (Nat.le_refl _) (Nat.le_refl _)
    have d1_0_7 : η1 0 7 = η1 0 7 := rfl
    have v5 : zEq (η1 0 6) (η 0 6) := (k2.1.2.2.2.1 0 6 (by decide +kernel)).trans rfl
    have d1_0_6 : η1 0 6 = η 0 6 := v5
    have w1_0_8 : (0 : Int) ≤ η1 0 8 ∧ η1 0 8 ≤ 6 := wf_ok (a := 8) (b := 8) (z := (0, 6)) k2.1.1 (by decide +kernel) (Nat.le_refl _) (Nat.le_refl _)
    have d1_0_8 : η1 0 8 = η1 0 8 := rfl
    have v7 : zEq (η1 0 17) (η 0 17) := (k2.1.2.2.2.1 0 17 (by decide +kernel)).trans rfl
    replace e3 : x3 = η 0 17 := e3.trans v7
    first
    | replace e4 : x4 = 4 + x3 := zd_a2 (zEq_o e4) (by clear e4; exact ⟨by omega, by omega⟩)
    | clear e4
    have w1_0_10 : (0 : Int) ≤ η1 0 10 ∧ η1 0 10 ≤ 700 := wf_ok (a := 10) (b := 10) (z := (0, 700)) k2.1.1 (by decide +kernel) (Nat.le_refl _) (Nat.le_refl _)
    replace e5 : x5 = η1 0 10 := e5
    have c1_0_7 : η1 0 7 = η1 0 7 := rfl
    have c1_0_6 : η1 0 6 = η 0 6 := v5
    have c1_0_8 : η1 0 8 = η1 0 8 := rfl
    have bx6 : (0 : Int) ≤ x6 ∧ x6 ≤ 1 := k6.1.2.1
    have w2_0_7 : (0 : Int) ≤ η2 0 7 ∧ η2 0 7 ≤ 700 := wf_ok (a := 7) (b := 7) (z := (0, 700)) k6.1.1 (by decide +kernel) (Nat.le_refl _) (Nat.le_refl _)
    have d2_0_7 : η2 0 7 = η2 0 7 := rfl
    have v10 : zEq (η2 0 6) (η 0 6) := (k6.1.2.2.2.1 0 6 (by decide +kernel)).trans v5
    have d2_0_6 : η2 0 6 = η 0 6 := v10
    have w2_0_8 : (0 : Int) ≤ η2 0 8 ∧ η2 0 8 ≤ 6 := wf_ok (a := 8) (b := 8) (z := (0, 6)) k6.1.1 (by decide +kernel) (Nat.le_refl _) (Nat.le_refl _)
    have d2_0_8 : η2 0 8 = η2 0 8 := rfl
    have v12 : zEq (η2 0 17) (η 0 17) := (k6.1.2.2.2.1 0 17 (by decide +kernel)).trans v7
    replace e7 : x7 = η 0 17 := e7.trans v12
    replace e8 : x8 = η2 0 11 := e8
    replace r8 : -2147483648 ≤ x8 ∧ x8 ≤ 2147483647 := r8
    have c2_0_7 : η2 0 7 = η2 0 7 := rfl
    have c2_0_6 : η2 0 6 = η 0 6 := v10
    have c2_0_8 : η2 0 8 = η2 0 8 := rfl
    have bx9 : ((-1) : Int) ≤ x9 ∧ x9 ≤ 3 := k9.1.2.1
    have v14 : zEq (η3 0 7) (η2 0 7) := (k9.1.2.2.2.1 0 7 (by decide +kernel)).trans rfl
    have d3_0_7 : η3 0 7 = η2 0 7 := v14
    have v15 : zEq (η3 0 6) (η 0 6) := (k9.1.2.2.2.1 0 6 (by decide +kernel)).trans v10
    have d3_0_6 : η3 0 6 = η 0 6 := v15
    have v16 : zEq (η3 0 8) (η2 0 8) := (k9.1.2.2.2.1 0 8 (by decide +kernel)).trans rfl
    have d3_0_8 : η3 0 8 = η2 0 8 := v16
    have v17 : zEq (η3 0 11) (η2 0 11) := (k9.1.2.2.2.1 0 11 (by decide +kernel)).trans rfl
    replace e10 : x10 = η2 0 11 := e10.trans v17
    replace r10 : -2147483648 ≤ x10 ∧ x10 ≤ 2147483647 := r10
    have v18 : zEq (η4 0 7) (η2 0 7) := by rw [eη4]; exact (zup_ne (fun e _ => absurd e (by decide))).trans v14
    have c4_0_7 : η4 0 7 = η2 0 7 := v18
    have v19 : zEq (η4 0 6) (η 0 6) := by rw [eη4]; exact (zup_ne (fun e _ => absurd e (by decide))).trans v15
    have c4_0_6 : η4 0 6 = η 0 6 := v19
    have v20 : zEq (η4 0 8) (η2 0 8) := by rw [eη4]; exact (zup_ne (fun e _ => absurd e (by decide))).trans v16
    have c4_0_8 : η4 0 8 = η2 0 8 := v20
    have bx11 : (0 : Int) ≤ x11 ∧ x11 ≤ 1 := k11.1.2.1
    have w5_0_7 : (0 : Int) ≤ η5 0 7 ∧ η5 0 7 ≤ 700 := wf_ok (a := 7) (b := 7) (z := (0, 700)) k11.1.1 (by decide +kernel) (Nat.le_refl _) (Nat.le_refl _)
    have d5_0_7 : η5 0 7 = η5 0 7 := rfl
    have v22 : zEq (η5 0 6) (η 0 6) := (k11.1.2.2.2.1 0 6 (by decide +kernel)).trans v19
    have d5_0_6 : η5 0 6 = η 0 6 := v22
    have w5_0_8 : (0 : Int) ≤ η5 0 8 ∧ η5 0 8 ≤ 6 := wf_ok (a := 8) (b := 8) (z := (0, 6)) k11.1.1 (by decide +kernel) (Nat.le_refl _) (Nat.le_refl _)
    have d5_0_8 : η5 0 8 = η5 0 8 := rfl
    replace e12 : x12 = η5 0 11 := e12
    replace r12 : -2147483648 ≤ x12 ∧ x12 ≤ 2147483647 := r12
    have v25 : zEq (η6 0 7) (η5 0 7) := by rw [eη6]; exact (zup_ne (fun e _ => absurd e (by decide))).trans rfl
    have c6_0_7 : η6 0 7 = η5 0 7 := v25
    have v26 : zEq (η6 0 6) (η 0 6) := by rw [eη6]; exact (zup_ne (fun e _ => absurd e (by decide))).trans v22
    have c6_0_6 : η6 0 6 = η 0 6 := v26
    have v27 : zEq (η6 0 8) (η5 0 8) := by rw [eη6]; exact (zup_ne (fun e _ => absurd e (by decide))).trans rfl
    have c6_0_8 : η6 0 8 = η5 0 8 := v27
    have bx13 : (0 : Int) ≤ x13 ∧ x13 ≤ 1 := k13.1.2.1
    have w7_0_7 : (0 : Int) ≤ η7 0 7 ∧ η7 0 7 ≤ 700 := wf_ok (a := 7) (b := 7) (z := (0, 700)) k13.1.1 (by decide +kernel) (Nat.le_refl _) (Nat.le_refl _)
    have d7_0_7 : η7 0 7 = η7 0 7 := rfl
    have v29 : zEq (η7 0 6) (η 0 6) := (k13.1.2.2.2.1 0 6 (by decide +kernel)).trans v26
    have d7_0_6 : η7 0 6 = η 0 6 := v29
    have w7_0_8 : (0 : Int) ≤ η7 0 8 ∧ η7 0 8 ≤ 6 := wf_ok (a := 8) (b := 8) (z := (0, 6)) k13.1.1 (by decide +kernel) (Nat.le_refl _) (Nat.le_refl _)
    have d7_0_8 : η7 0 8 = η7 0 8 := rfl
    replace e14 : x14 = η7 0 11 := e14
    replace r14 : -2147483648 ≤ x14 ∧ x14 ≤ 2147483647 := r14
    have v32 : zEq (η6 8 (Int.toNat x4)) (x12) := by rw [eη6]; exact zup_eq
    have v33 : zEq (η7 8 (Int.toNat x4)) (x12) := (k13.1.2.2.2.1 8 _ (zinr_not (by decide +kernel))).trans v32
    have v34 : zEq (η8 8 (Int.toNat x4)) (x12) := by rw [eη8]; exact (zup_ne (fun e _ => absurd e (by decide))).trans v33
    replace e15 : x15 = x12 := e15.trans v34
    replace r15 : -2147483648 ≤ x15 ∧ x15 ≤ 2147483647 := r15
    first
    | replace e16 : x16 = 100 - x15 := zd_s2 (zEq_o e16) (by clear e16; exact ⟨by omega, by omega⟩)
    | clear e16
    have v35 : zEq (η8 0 7) (η7 0 7) := by rw [eη8]; exact (zup_ne (fun e _ => absurd e (by decide))).trans rfl
    have c8_0_7 : η8 0 7 = η7 0 7 := v35
    have v36 : zEq (η8 0 6) (η 0 6) := by rw [eη8]; exact (zup_ne (fun e _ => absurd e (by decide))).trans v29
    have c8_0_6 : η8 0 6 = η 0 6 := v36
    have v37 : zEq (η8 0 8) (η7 0 8) := by rw [eη8]; exact (zup_ne (fun e _ => absurd e (by decide))).trans rfl
    have c8_0_8 : η8 0 8 = η7 0 8 := v37
    have bx17 : (0 : Int) ≤ x17 ∧ x17 ≤ 1 := k17.1.2.1
    have w9_0_7 : (0 : Int) ≤ η9 0 7 ∧ η9 0 7 ≤ 700 := wf_ok (a := 7) (b := 7) (z := (0, 700)) k17.1.1 (by decide +kernel) (Nat.le_refl _) (Nat.le_refl _)
    have d9_0_7 : η9 0 7 = η9 0 7 := rfl
    have v39 : zEq (η9 0 6) (η 0 6) := (k17.1.2.2.2.1 0 6 (by decide +kernel)).trans v36
    have d9_0_6 : η9 0 6 = η 0 6 := v39
    have w9_0_8 : (0 : Int) ≤ η9 0 8 ∧ η9 0 8 ≤ 6 := wf_ok (a := 8) (b := 8) (z := (0, 6)) k17.1.1 (by decide +kernel) (Nat.le_refl _) (Nat.le_refl _)
    have d9_0_8 : η9 0 8 = η9 0 8 := rfl
    replace e18 : x18 = η9 0 11 := e18
    replace r18 : -2147483648 ≤ x18 ∧ x18 ≤ 2147483647 := r18
    have v42 : zEq (η10 0 7) (η9 0 7) := by rw [eη10]; exact (zup_ne (fun e _ => absurd e (by decide))).trans rfl
    have c10_0_7 : η10 0 7 = η9 0 7 := v42
    have v43 : zEq (η10 0 6) (η 0 6) := by rw [eη10]; exact (zup_ne (fun e _ => absurd e (by decide))).trans v39
    have c10_0_6 : η10 0 6 = η 0 6 := v43
    have v44 : zEq (η10 0 8) (η9 0 8) := by rw [eη10]; exact (zup_ne (fun e _ => absurd e (by decide))).trans rfl
    have c10_0_8 : η10 0 8 = η9 0 8 := v44
    have bx19 : (0 : Int) ≤ x19 ∧ x19 ≤ 1 := k19.1.2.1
    have w11_0_7 : (0 : Int) ≤ η11 0 7 ∧ η11 0 7 ≤ 700 := wf_ok (a := 7) (b := 7) (z := (0, 700)) k19.1.1 (by decide +kernel) (Nat.le_refl _) (Nat.le_refl _)
    have d11_0_7 : η11 0 7 = η11 0 7 := rfl
    have v46 : zEq (η11 0 6) (η 0 6) := (k19.1.2.2.2.1 0 6 (by decide +kernel)).trans v43
    have d11_0_6 : η11 0 6 = η 0 6 := v46
    have w11_0_8 : (0 : Int) ≤ η11 0 8 ∧ η11 0 8 ≤ 6 := wf_ok (a := 8) (b := 8) (z := (0, 6)) k19.1.1 (by decide +kernel) (Nat.le_refl _) (Nat.le_refl _)
    have d11_0_8 : η11 0 8 = η11 0 8 := rfl
    have f0_7 : η11 0 7 = η11 0 7 := rfl
    have f0_6 : η11 0 6 = η 0 6 := v46
    have f0_8 : η11 0 8 = η11 0 8 := rfl
    have qt2 : ¬ η 0 8 = 0 → 10 * (η1 0 6 - η1 0 7) + η1 0 8 < 10 * (η 0 6 - η 0 7) + η 0 8 := k2.2.2
    have qn6 : ¬ x6 = 0 → 10 * (η2 0 6 - η2 0 7) + η2 0 8 < 10 * (η1 0 6 - η1 0 7) + η1 0 8 := k6.2.2
    have g4 : G_n η4 := by rw [eη4]; exact zGk_up gk_n k9.2 (by decide +kernel)
    have qn11 : ¬ x11 = 0 → 10 * (η5 0 6 - η5 0 7) + η5 0 8 < 10 * (η4 0 6 - η4 0 7) + η4 0 8 := k11.2.2
    have g6 : G_n η6 := by rw [eη6]; exact zGk_up gk_n k11.2.1 (by decide +kernel)
    have qn13 : ¬ x13 = 0 → 10 * (η7 0 6 - η7 0 7) + η7 0 8 < 10 * (η6 0 6 - η6 0 7) + η6 0 8 := k13.2.2
    have g8 : G_n η8 := by rw [eη8]; exact zGk_up gk_n k13.2.1 (by decide +kernel)
    have qn17 : ¬ x17 = 0 → 10 * (η9 0 6 - η9 0 7) + η9 0 8 < 10 * (η8 0 6 - η8 0 7) + η8 0 8 := k17.2.2
    have g10 : G_n η10 := by rw [eη10]; exact zGk_up gk_n k17.2.1 (by decide +kernel)
    have qn19 : ¬ x19 = 0 → 10 * (η11 0 6 - η11 0 7) + η11 0 8 < 10 * (η10 0 6 - η10 0 7) + η10 0 8 := k19.2.2
    exact ⟨k19.2.1, fun w => absurd (show (0 : Int) = 0 by apply Int.le_antisymm <;> omega) w⟩
  · have e1 : x1 = η 0 17 := e1
    have b2 : η1 = (yq_tok η) := y2
    have e3 : x3 = η1 0 17 := e3
    have e4 : x4 = zd 0 1 4 x3 := e4
    have e5 : x5 = η1 0 10 := e5
    obtain ⟨a6, b6⟩ : x6 = (yq_ny 0 11 η1) ∧ η2 = (yq_ns 0 11 η1) := y6
    have e7 : x7 = η2 0 17 := e7
    have e8 : x8 = η2 0 11 := e8
    obtain ⟨a9, b9⟩ : x9 = (yp_fd (fun k => η2 7 (4 + k)) x8 (Int.toNat x7) (Int.toNat x7)) ∧ η2 = η3 := ⟨y9.1, y9.2.symm⟩
    subst b9
    have e10 : x10 = η2 0 11 := e10
    have f10 : x8 = x10 := e8.trans e10.symm
    subst f10
    have eη4 : η4 = zup η2 7 (Int.toNat x4) x8 := eη4
    obtain ⟨a11, b11⟩ : x11 = (yq_ny 0 100 η4) ∧ η5 = (yq_ns 0 100 η4) := y11
    have e12 : x12 = η5 0 11 := e12
    have eη6 : η6 = zup η5 8 (Int.toNat x4) x12 := eη6
    obtain ⟨a13, b13⟩ : x13 = (yq_ny 1 9 η6) ∧ η7 = (yq_ns 1 9 η6) := y13
    have e14 : x14 = η7 0 11 := e14
    have eη8 : η8 = zup η7 9 (Int.toNat x4) x14 := eη8
    have e15 : x15 = η8 8 (Int.toNat x4) := e15
    have e16 : x16 = zd 0 2 100 x15 := e16
    obtain ⟨a17, b17⟩ : x17 = (yq_ny 0 x16 η8) ∧ η9 = (yq_ns 0 x16 η8) := y17
    have e18 : x18 = η9 0 11 := e18
    have eη10 : η10 = zup η9 10 (Int.toNat x4) x18 := eη10
    obtain ⟨a19, b19⟩ : x19 = (yq_ny 1 9 η10) ∧ η11 = (yq_ns 1 9 η10) := y19
    show 0 = (yq_scl η).1 ∧ η11 = (yq_scl η).2
    simp only [yq_scl, yq_sc2, yq_sc3, yq_sc4, yq_sc5, yq_nt, yq_no, yq_inc, ← e1, ← b2, ← e3, ← e4, ← e5, ← a6, ← b6, ← e7, ← e8, ← a9, ← eη4, ← a11, ← b11, ← e12, ← eη6, ← a13, ← b13, ← e14, ← eη8, ← e15, ← e16, ← a17, ← b17, ← e18, ← eη10, ← a19, ← b19]
    all_goals clear e4 e16
    all_goals ((repeat' split) <;> first | (exfalso; omega) | exact ⟨rfl, rfl⟩ | rfl)
set_option maxHeartbeats 8000000 in
theorem zne_scratLine_o9 {ro : Nat → List Int32} (η : zE) (hp : sP wl_ne zTr zPne_scratLine [] η) (hpp : pPne_scratLine [] η) : ∀ x1 : Int, x1 = η 0 (Int.toNat 17) → zok 0 x1 → (¬ x1 = 4) → ∀ (x2 : Int) (η1 : zE), ((gC2 wl_ne [(nat_lit 0, zPne_wrong, zOne_wrong, zMne_wrong), (nat_lit 1, zPne_token, zOne_token, zMne_token), (nat_lit 2, zPne_number, zOne_number, zMne_number), (nat_lit 3, zPne_find_s, zOne_find_s, zMne_find_s)] pCne_scratLine qCne_scratLine) 1).2 [] η x2 η1 → ∀ x3 : Int, x3 = η1 0 (Int.toNat 17) → zok 0 x3 → ∀ x4 : Int, x4 = zd 0 1 4 x3 → ∀ x5 : Int, x5 = η1 0 (Int.toNat 10) → zok 0 x5 → ∀ (x6 : Int) (η2 : zE), ((gC2 wl_ne [(nat_lit 0, zPne_wrong, zOne_wrong, zMne_wrong), (nat_lit 1, zPne_token, zOne_token, zMne_token), (nat_lit 2, zPne_number, zOne_number, zMne_number), (nat_lit 3, zPne_find_s, zOne_find_s, zMne_find_s)] pCne_scratLine qCne_scratLine) 2).2 [0, 11] η1 x6 η2 → (¬ x6 = 0) → ∀ x7 : Int, x7 = η2 0 (Int.toNat 17) → zok 0 x7 → ∀ x8 : Int, x8 = η2 0 (Int.toNat 11) → zok 0 x8 → ∀ (x9 : Int) (η3 : zE), ((gC2 wl_ne [(nat_lit 0, zPne_wrong, zOne_wrong, zMne_wrong), (nat_lit 1, zPne_token, zOne_token, zMne_token), (nat_lit 2, zPne_number, zOne_number, zMne_number), (nat_lit 3, zPne_find_s, zOne_find_s, zMne_find_s)] pCne_scratLine qCne_scratLine) 3).2 [x7, x8] η2 x9 η3 → (x9 < 0) → ∀ x10 : Int, x10 = η3 0 (Int.toNat 11) → zok 0 x10 → ∀ η4 : zE, η4 = zup η3 7 (Int.toNat x4) x10 → ∀ (x11 : Int) (η5 : zE), ((gC2 wl_ne [(nat_lit 0, zPne_wrong, zOne_wrong, zMne_wrong), (nat_lit 1, zPne_token, zOne_token, zMne_token), (nat_lit 2, zPne_number, zOne_number, zMne_number), (nat_lit 3, zPne_find_s, zOne_find_s, zMne_find_s)] pCne_scratLine qCne_scratLine) 2).2 [0, 100] η4 x11 η5 → (¬ x11 = 0) → ∀ x12 : Int, x12 = η5 0 (Int.toNat 11) → zok 0 x12 → ∀ η6 : zE, η6 = zup η5 8 (Int.toNat x4) x12 → ∀ (x13 : Int) (η7 : zE), ((gC2 wl_ne [(nat_lit 0, zPne_wrong, zOne_wrong, zMne_wrong), (nat_lit 1, zPne_token, zOne_token, zMne_token), (nat_lit 2, zPne_number, zOne_number, zMne_number), (nat_lit 3, zPne_find_s, zOne_find_s, zMne_find_s)] pCne_scratLine qCne_scratLine) 2).2 [1, 9] η6 x13 η7 → (¬ x13 = 0) → ∀ x14 : Int, x14 = η7 0 (Int.toNat 11) → zok 0 x14 → ∀ η8 : zE, η8 = zup η7 9 (Int.toNat x4) x14 → ∀ x15 : Int, x15 = η8 8 (Int.toNat x4) → zok 0 x15 → ∀ x16 : Int, x16 = zd 0 2 100 x15 → ∀ (x17 : Int) (η9 : zE), ((gC2 wl_ne [(nat_lit 0, zPne_wrong, zOne_wrong, zMne_wrong), (nat_lit 1, zPne_token, zOne_token, zMne_token), (nat_lit 2, zPne_number, zOne_number, zMne_number), (nat_lit 3, zPne_find_s, zOne_find_s, zMne_find_s)] pCne_scratLine qCne_scratLine) 2).2 [0, x16] η8 x17 η9 → (x17 = 0) → (fun (_ : Nat) (y : Int) (η' : zE) => pQne_scratLine [] η y η') 0 0 η9 := by
  intro x1 e1 r1 c1 x2 η1 h2 x3 e3 r3 x4 e4 x5 e5 r5 x6 η2 h6 c2 x7 e7 r7 x8 e8 r8 x9 η3 h9 c3 x10 e10 r10 η4 eη4 x11 η5 h11 c4 x12 e12 r12 η6 eη6 x13 η7 h13 c5 x14 e14 r14 η8 eη8 x15 e15 r15 x16 e16 x17 η9 h17 c6
  have y2 : fQne_token [] η x2 η1 := h2.2.2
  have k2 : sQ wl_ne zTr zOne_token zMne_token [] η x2 η1 ∧ oQne_token [] η x2 η1 := ⟨h2.1, h2.2.1⟩
  have y6 : fQne_number [0, 11] η1 x6 η2 := h6.2.2
  have k6 : sQ wl_ne zTr zOne_number zMne_number [0, 11] η1 x6 η2 ∧ oQne_number [0, 11] η1 x6 η2 := ⟨h6.1, h6.2.1⟩
  have y9 : fQne_find_s [x7, x8] η2 x9 η3 := h9.2.2
  have k9 : sQ wl_ne zTr zOne_find_s zMne_find_s [x7, x8] η2 x9 η3 ∧ oQne_find_s [x7, x8] η2 x9 η3 := ⟨h9.1, h9.2.1⟩
  have y11 : fQne_number [0, 100] η4 x11 η5 := h11.2.2
  have k11 : sQ wl_ne zTr zOne_number zMne_number [0, 100] η4 x11 η5 ∧ oQne_number [0, 100] η4 x11 η5 := ⟨h11.1, h11.2.1⟩
  have y13 : fQne_number [1, 9] η6 x13 η7 := h13.2.2
  have k13 : sQ wl_ne zTr zOne_number zMne_number [1, 9] η6 x13 η7 ∧ oQne_number [1, 9] η6 x13 η7 := ⟨h13.1, h13.2.1⟩
  have y17 : fQne_number [0, x16] η8 x17 η9 := h17.2.2
  have k17 : sQ wl_ne zTr zOne_number zMne_number [0, x16] η8 x17 η9 ∧ oQne_number [0, x16] η8 x17 η9 := ⟨h17.1, h17.2.1⟩
  refine yj_a ?_ ?_
  · have hk : ¬ η 0 8 = 0 := hpp.2
    replace e4 := zEq_i e4
    replace e16 := zEq_i e16
    have y2 : fQne_token [] η x2 η1 := h2.2.2
    have k2 : sQ wl_ne zTr zOne_token zMne_token [] η x2 η1 ∧ oQne_token [] η x2 η1 := ⟨h2.1, h2.2.1⟩
    have y6 : fQne_number [0, 11] η1 x6 η2 := h6.2.2
    have k6 : sQ wl_ne zTr zOne_number zMne_number [0, 11] η1 x6 η2 ∧ oQne_number [0, 11] η1 x6 η2 := ⟨h6.1, h6.2.1⟩
    have y9 : fQne_find_s [x7, x8] η2 x9 η3 := h9.2.2
    have k9 : sQ wl_ne zTr zOne_find_s zMne_find_s [x7, x8] η2 x9 η3 ∧ oQne_find_s [x7, x8] η2 x9 η3 := ⟨h9.1, h9.2.1⟩
    have y11 : fQne_number [0, 100] η4 x11 η5 := h11.2.2
    have k11 : sQ wl_ne zTr zOne_number zMne_number [0, 100] η4 x11 η5 ∧ oQne_number [0, 100] η4 x11 η5 := ⟨h11.1, h11.2.1⟩
    have y13 : fQne_number [1, 9] η6 x13 η7 := h13.2.2
    have k13 : sQ wl_ne zTr zOne_number zMne_number [1, 9] η6 x13 η7 ∧ oQne_number [1, 9] η6 x13 η7 := ⟨h13.1, h13.2.1⟩
    have y17 : fQne_number [0, x16] η8 x17 η9 := h17.2.2
    have k17 : sQ wl_ne zTr zOne_number zMne_number [0, x16] η8 x17 η9 ∧ oQne_number [0, x16] η8 x17 η9 := ⟨h17.1, h17.2.1⟩
    have w0_0_17 : (0 : Int) ≤ η 0 17 ∧ η 0 17 ≤ 4 := wf_ok (a := 17) (b := 17) (z := (0, 4)) hp.1 (by decide +kernel) (Nat.le_refl _) (Nat.le_refl _)
    replace e1 : x1 = η 0 17 := e1
    have w0_0_7 : (0 : Int) ≤ η 0 7 ∧ η 0 7 ≤ 700 := wf_ok (a := 7) (b := 7) (z := (0, 700)) hp.1 (by decide +kernel) (Nat.le_refl _) (Nat.le_refl _)
    have c0_0_7 : η 0 7 = η 0 7 := rfl
    have w0_0_6 : (0 : Int) ≤ η 0 6 ∧ η 0 6 ≤ 700 := wf_ok (a := 6) (b := 6) (z := (0, 700)) hp.1 (by decide +kernel) (Nat.le_refl _) (Nat.le_refl _)
    have c0_0_6 : η 0 6 = η 0 6 := rfl
    have w0_0_8 : (0 : Int) ≤ η 0 8 ∧ η 0 8 ≤ 6 := wf_ok (a := 8) (b := 8) (z := (0, 6)) hp.1 (by decide +kernel) (Nat.le_refl _) (Nat.le_refl _)
    have c0_0_8 : η 0 8 = η 0 8 := rfl
    have bx2 : (0 : Int) ≤ x2 ∧ x2 ≤ 0 := k2.1.2.1
    have w1_0_7 : (0 : Int) ≤ η1 0 7 ∧ η1 0 7 ≤ 700 := wf_ok (a := 7) (b := 7) (z := (0, 700)) k2.1.1 (by decide +kernel) (Nat.le_refl _) (Nat.le_refl _)
    have d1_0_7 : η1 0 7 = η1 0 7 := rfl
    have v5 : zEq (η1 0 6) (η 0 6) := (k2.1.2.2.2.1 0 6 (by decide +kernel)).trans rfl
    have d1_0_6 : η1 0 6 = η 0 6 := v5
    have w1_0_8 : (0 : Int) ≤ η1 0 8 ∧ η1 0 8 ≤ 6 := wf_ok (a := 8) (b := 8) (z := (0, 6)) k2.1.1 (by decide +kernel) (Nat.le_refl _) (Nat.le_refl _)
    have d1_0_8 : η1 0 8 = η1 0 8 := rfl
    have v7 : zEq (η1 0 17) (η 0 17) := (k2.1.2.2.2.1 0 17 (by decide +kernel)).trans rfl
    replace e3 : x3 = η 0 17 := e3.trans v7
    first
    | replace e4 : x4 = 4 + x3 := zd_a2 (zEq_o e4) (by clear e4; exact ⟨by omega, by omega⟩)
    | clear e4
    have w1_0_10 : (0 : Int) ≤ η1 0 10 ∧ η1 0 10 ≤ 700 := wf_ok (a := 10) (b := 10) (z := (0, 700)) k2.1.1 (by decide +kernel) (Nat.le_refl _) (Nat.le_refl _)
    replace e5 : x5 = η1 0 10 := e5
    have c1_0_7 : η1 0 7 = η1 0 7 := rfl
    have c1_0_6 : η1 0 6 = η 0 6 := v5
    have c1_0_8 : η1 0 8 = η1 0 8 := rfl
    have bx6 : (0 : Int) ≤ x6 ∧ x6 ≤ 1 := k6.1.2.1
    have w2_0_7 : (0 : Int) ≤ η2 0 7 ∧ η2 0 7 ≤ 700 := wf_ok (a := 7) (b := 7) (z := (0, 700)) k6.1.1 (by decide +kernel) (Nat.le_refl _) (Nat.le_refl _)
    have d2_0_7 : η2 0 7 = η2 0 7 := rfl
    have v10 : zEq (η2 0 6) (η 0 6) := (k6.1.2.2.2.1 0 6 (by decide +kernel)).trans v5
    have d2_0_6 : η2 0 6 = η 0 6 := v10
    have w2_0_8 : (0 : Int) ≤ η2 0 8 ∧ η2 0 8 ≤ 6 := wf_ok (a := 8) (b := 8) (z := (0, 6)) k6.1.1 (by decide +kernel) (Nat.le_refl _) (Nat.le_refl _)
    have d2_0_8 : η2 0 8 = η2 0 8 := rfl
    have v12 : zEq (η2 0 17) (η 0 17) := (k6.1.2.2.2.1 0 17 (by decide +kernel)).trans v7
    replace e7 : x7 = η 0 17 := e7.trans v12
    replace e8 : x8 = η2 0 11 := e8
    replace r8 : -2147483648 ≤ x8 ∧ x8 ≤ 2147483647 := r8
    have c2_0_7 : η2 0 7 = η2 0 7 := rfl
    have c2_0_6 : η2 0 6 = η 0 6 := v10
    have c2_0_8 : η2 0 8 = η2 0 8 := rfl
    have bx9 : ((-1) : Int) ≤ x9 ∧ x9 ≤ 3 := k9.1.2.1
    have v14 : zEq (η3 0 7) (η2 0 7) := (k9.1.2.2.2.1 0 7 (by decide +kernel)).trans rfl
    have d3_0_7 : η3 0 7 = η2 0 7 := v14
    have v15 : zEq (η3 0 6) (η 0 6) := (k9.1.2.2.2.1 0 6 (by decide +kernel)).trans v10
    have d3_0_6 : η3 0 6 = η 0 6 := v15
    have v16 : zEq (η3 0 8) (η2 0 8) := (k9.1.2.2.2.1 0 8 (by decide +kernel)).trans rfl
    have d3_0_8 : η3 0 8 = η2 0 8 := v16
    have v17 : zEq (η3 0 11) (η2 0 11) := (k9.1.2.2.2.1 0 11 (by decide +kernel)).trans rfl
    replace e10 : x10 = η2 0 11 := e10.trans v17
    replace r10 : -2147483648 ≤ x10 ∧ x10 ≤ 2147483647 := r10
    have v18 : zEq (η4 0 7) (η2 0 7) := by rw [eη4]; exact (zup_ne (fun e _ => absurd e (by decide))).trans v14
    have c4_0_7 : η4 0 7 = η2 0 7 := v18
    have v19 : zEq (η4 0 6) (η 0 6) := by rw [eη4]; exact (zup_ne (fun e _ => absurd e (by decide))).trans v15
    have c4_0_6 : η4 0 6 = η 0 6 := v19
    have v20 : zEq (η4 0 8) (η2 0 8) := by rw [eη4]; exact (zup_ne (fun e _ => absurd e (by decide))).trans v16
    have c4_0_8 : η4 0 8 = η2 0 8 := v20
    have bx11 : (0 : Int) ≤ x11 ∧ x11 ≤ 1 := k11.1.2.1
    have w5_0_7 : (0 : Int) ≤ η5 0 7 ∧ η5 0 7 ≤ 700 := wf_ok (a := 7) (b := 7) (z := (0, 700)) k11.1.1 (by decide +kernel) (Nat.le_refl _) (Nat.le_refl _)
    have d5_0_7 : η5 0 7 = η5 0 7 := rfl
    have v22 : zEq (η5 0 6) (η 0 6) := (k11.1.2.2.2.1 0 6 (by decide +kernel)).trans v19
    have d5_0_6 : η5 0 6 = η 0 6 := v22
    have w5_0_8 : (0 : Int) ≤ η5 0 8 ∧ η5 0 8 ≤ 6 := wf_ok (a := 8) (b := 8) (z := (0, 6)) k11.1.1 (by decide +kernel) (Nat.le_refl _) (Nat.le_refl _)
    have d5_0_8 : η5 0 8 = η5 0 8 := rfl
    replace e12 : x12 = η5 0 11 := e12
    replace r12 : -2147483648 ≤ x12 ∧ x12 ≤ 2147483647 := r12
    have v25 : zEq (η6 0 7) (η5 0 7) := by rw [eη6]; exact (zup_ne (fun e _ => absurd e (by decide))).trans rfl
    have c6_0_7 : η6 0 7 = η5 0 7 := v25
    have v26 : zEq (η6 0 6) (η 0 6) := by rw [eη6]; exact (zup_ne (fun e _ => absurd e (by decide))).trans v22
    have c6_0_6 : η6 0 6 = η 0 6 := v26
    have v27 : zEq (η6 0 8) (η5 0 8) := by rw [eη6]; exact (zup_ne (fun e _ => absurd e (by decide))).trans rfl
    have c6_0_8 : η6 0 8 = η5 0 8 := v27
    have bx13 : (0 : Int) ≤ x13 ∧ x13 ≤ 1 := k13.1.2.1
    have w7_0_7 : (0 : Int) ≤ η7 0 7 ∧ η7 0 7 ≤ 700 := wf_ok (a := 7) (b := 7) (z := (0, 700)) k13.1.1 (by decide +kernel) (Nat.le_refl _) (Nat.le_refl _)
    have d7_0_7 : η7 0 7 = η7 0 7 := rfl
    have v29 : zEq (η7 0 6) (η 0 6) := (k13.1.2.2.2.1 0 6 (by decide +kernel)).trans v26
    have d7_0_6 : η7 0 6 = η 0 6 := v29
    have w7_0_8 : (0 : Int) ≤ η7 0 8 ∧ η7 0 8 ≤ 6 := wf_ok (a := 8) (b := 8) (z := (0, 6)) k13.1.1 (by decide +kernel) (Nat.le_refl _) (Nat.le_refl _)
    have d7_0_8 : η7 0 8 = η7 0 8 := rfl
    replace e14 : x14 = η7 0 11 := e14
    replace r14 : -2147483648 ≤ x14 ∧ x14 ≤ 2147483647 := r14
    have v32 : zEq (η6 8 (Int.toNat x4)) (x12) := by rw [eη6]; exact zup_eq
    have v33 : zEq (η7 8 (Int.toNat x4)) (x12) := (k13.1.2.2.2.1 8 _ (zinr_not (by decide +kernel))).trans v32
    have v34 : zEq (η8 8 (Int.toNat x4)) (x12) := by rw [eη8]; exact (zup_ne (fun e _ => absurd e (by decide))).trans v33
    replace e15 : x15 = x12 := e15.trans v34
    replace r15 : -2147483648 ≤ x15 ∧ x15 ≤ 2147483647 := r15
    first
    | replace e16 : x16 = 100 - x15 := zd_s2 (zEq_o e16) (by clear e16; exact ⟨by omega, by omega⟩)
    | clear e16
    have v35 : zEq (η8 0 7) (η7 0 7) := by rw [eη8]; exact (zup_ne (fun e _ => absurd e (by decide))).trans rfl
    have c8_0_7 : η8 0 7 = η7 0 7 := v35
    have v36 : zEq (η8 0 6) (η 0 6) := by rw [eη8]; exact (zup_ne (fun e _ => absurd e (by decide))).trans v29
    have c8_0_6 : η8 0 6 = η 0 6 := v36
    have v37 : zEq (η8 0 8) (η7 0 8) := by rw [eη8]; exact (zup_ne (fun e _ => absurd e (by decide))).trans rfl
    have c8_0_8 : η8 0 8 = η7 0 8 := v37
    have bx17 : (0 : Int) ≤ x17 ∧ x17 ≤ 1 := k17.1.2.1
    have w9_0_7 : (0 : Int) ≤ η9 0 7 ∧ η9 0 7 ≤ 700 := wf_ok (a := 7) (b := 7) (z := (0, 700)) k17.1.1 (by decide +kernel) (Nat.le_refl _) (Nat.le_refl _)
    have d9_0_7 : η9 0 7 = η9 0 7 := rfl
    have v39 : zEq (η9 0 6) (η 0 6) := (k17.1.2.2.2.1 0 6 (by decide +kernel)).trans v36
    have d9_0_6 : η9 0 6 = η 0 6 := v39
    have w9_0_8 : (0 : Int) ≤ η9 0 8 ∧ η9 0 8 ≤ 6 := wf_ok (a := 8) (b := 8) (z := (0, 6)) k17.1.1 (by decide +kernel) (Nat.le_refl _) (Nat.le_refl _)
    have d9_0_8 : η9 0 8 = η9 0 8 := rfl
    have f0_7 : η9 0 7 = η9 0 7 := rfl
    have f0_6 : η9 0 6 = η 0 6 := v39
    have f0_8 : η9 0 8 = η9 0 8 := rfl
    have qt2 : ¬ η 0 8 = 0 → 10 * (η1 0 6 - η1 0 7) + η1 0 8 < 10 * (η 0 6 - η 0 7) + η 0 8 := k2.2.2
    have qn6 : ¬ x6 = 0 → 10 * (η2 0 6 - η2 0 7) + η2 0 8 < 10 * (η1 0 6 - η1 0 7) + η1 0 8 := k6.2.2
    have g4 : G_n η4 := by rw [eη4]; exact zGk_up gk_n k9.2 (by decide +kernel)
    have qn11 : ¬ x11 = 0 → 10 * (η5 0 6 - η5 0 7) + η5 0 8 < 10 * (η4 0 6 - η4 0 7) + η4 0 8 := k11.2.2
    have g6 : G_n η6 := by rw [eη6]; exact zGk_up gk_n k11.2.1 (by decide +kernel)
    have qn13 : ¬ x13 = 0 → 10 * (η7 0 6 - η7 0 7) + η7 0 8 < 10 * (η6 0 6 - η6 0 7) + η6 0 8 := k13.2.2
    have g8 : G_n η8 := by rw [eη8]; exact zGk_up gk_n k13.2.1 (by decide +kernel)
    have qn17 : ¬ x17 = 0 → 10 * (η9 0 6 - η9 0 7) + η9 0 8 < 10 * (η8 0 6 - η8 0 7) + η8 0 8 := k17.2.2
    exact ⟨k17.2.1, fun w => absurd (show (0 : Int) = 0 by apply Int.le_antisymm <;> omega) w⟩
  · have e1 : x1 = η 0 17 := e1
    have b2 : η1 = (yq_tok η) := y2
    have e3 : x3 = η1 0 17 := e3
    have e4 : x4 = zd 0 1 4 x3 := e4
    have e5 : x5 = η1 0 10 := e5
    obtain ⟨a6, b6⟩ : x6 = (yq_ny 0 11 η1) ∧ η2 = (yq_ns 0 11 η1) := y6
    have e7 : x7 = η2 0 17 := e7
    have e8 : x8 = η2 0 11 := e8
    obtain ⟨a9, b9⟩ : x9 = (yp_fd (fun k => η2 7 (4 + k)) x8 (Int.toNat x7) (Int.toNat x7)) ∧ η2 = η3 := ⟨y9.1, y9.2.symm⟩
    subst b9
    have e10 : x10 = η2 0 11 := e10
    have f10 : x8 = x10 := e8.trans e10.symm
    subst f10
    have eη4 : η4 = zup η2 7 (Int.toNat x4) x8 := eη4
    obtain ⟨a11, b11⟩ : x11 = (yq_ny 0 100 η4) ∧ η5 = (yq_ns 0 100 η4) := y11
    have e12 : x12 = η5 0 11 := e12
    have eη6 : η6 = zup η5 8 (Int.toNat x4) x12 := eη6
    obtain ⟨a13, b13⟩ : x13 = (yq_ny 1 9 η6) ∧ η7 = (yq_ns 1 9 η6) := y13
    have e14 : x14 = η7 0 11 := e14
    have eη8 : η8 = zup η7 9 (Int.toNat x4) x14 := eη8
    have e15 : x15 = η8 8 (Int.toNat x4) := e15
    have e16 : x16 = zd 0 2 100 x15 := e16
    obtain ⟨a17, b17⟩ : x17 = (yq_ny 0 x16 η8) ∧ η9 = (yq_ns 0 x16 η8) := y17
    show 0 = (yq_scl η).1 ∧ η9 = (yq_scl η).2
    simp only [yq_scl, yq_sc2, yq_sc3, yq_sc4, yq_sc5, yq_nt, yq_no, yq_inc, ← e1, ← b2, ← e3, ← e4, ← e5, ← a6, ← b6, ← e7, ← e8, ← a9, ← eη4, ← a11, ← b11, ← e12, ← eη6, ← a13, ← b13, ← e14, ← eη8, ← e15, ← e16, ← a17, ← b17]
    all_goals clear e4 e16
    all_goals ((repeat' split) <;> first | (exfalso; omega) | exact ⟨rfl, rfl⟩ | rfl)
set_option maxHeartbeats 8000000 in
theorem zne_scratLine_o10 {ro : Nat → List Int32} (η : zE) (hp : sP wl_ne zTr zPne_scratLine [] η) (hpp : pPne_scratLine [] η) : ∀ x1 : Int, x1 = η 0 (Int.toNat 17) → zok 0 x1 → (¬ x1 = 4) → ∀ (x2 : Int) (η1 : zE), ((gC2 wl_ne [(nat_lit 0, zPne_wrong, zOne_wrong, zMne_wrong), (nat_lit 1, zPne_token, zOne_token, zMne_token), (nat_lit 2, zPne_number, zOne_number, zMne_number), (nat_lit 3, zPne_find_s, zOne_find_s, zMne_find_s)] pCne_scratLine qCne_scratLine) 1).2 [] η x2 η1 → ∀ x3 : Int, x3 = η1 0 (Int.toNat 17) → zok 0 x3 → ∀ x4 : Int, x4 = zd 0 1 4 x3 → ∀ x5 : Int, x5 = η1 0 (Int.toNat 10) → zok 0 x5 → ∀ (x6 : Int) (η2 : zE), ((gC2 wl_ne [(nat_lit 0, zPne_wrong, zOne_wrong, zMne_wrong), (nat_lit 1, zPne_token, zOne_token, zMne_token), (nat_lit 2, zPne_number, zOne_number, zMne_number), (nat_lit 3, zPne_find_s, zOne_find_s, zMne_find_s)] pCne_scratLine qCne_scratLine) 2).2 [0, 11] η1 x6 η2 → (¬ x6 = 0) → ∀ x7 : Int, x7 = η2 0 (Int.toNat 17) → zok 0 x7 → ∀ x8 : Int, x8 = η2 0 (Int.toNat 11) → zok 0 x8 → ∀ (x9 : Int) (η3 : zE), ((gC2 wl_ne [(nat_lit 0, zPne_wrong, zOne_wrong, zMne_wrong), (nat_lit 1, zPne_token, zOne_token, zMne_token), (nat_lit 2, zPne_number, zOne_number, zMne_number), (nat_lit 3, zPne_find_s, zOne_find_s, zMne_find_s)] pCne_scratLine qCne_scratLine) 3).2 [x7, x8] η2 x9 η3 → (x9 < 0) → ∀ x10 : Int, x10 = η3 0 (Int.toNat 11) → zok 0 x10 → ∀ η4 : zE, η4 = zup η3 7 (Int.toNat x4) x10 → ∀ (x11 : Int) (η5 : zE), ((gC2 wl_ne [(nat_lit 0, zPne_wrong, zOne_wrong, zMne_wrong), (nat_lit 1, zPne_token, zOne_token, zMne_token), (nat_lit 2, zPne_number, zOne_number, zMne_number), (nat_lit 3, zPne_find_s, zOne_find_s, zMne_find_s)] pCne_scratLine qCne_scratLine) 2).2 [0, 100] η4 x11 η5 → (¬ x11 = 0) → ∀ x12 : Int, x12 = η5 0 (Int.toNat 11) → zok 0 x12 → ∀ η6 : zE, η6 = zup η5 8 (Int.toNat x4) x12 → ∀ (x13 : Int) (η7 : zE), ((gC2 wl_ne [(nat_lit 0, zPne_wrong, zOne_wrong, zMne_wrong), (nat_lit 1, zPne_token, zOne_token, zMne_token), (nat_lit 2, zPne_number, zOne_number, zMne_number), (nat_lit 3, zPne_find_s, zOne_find_s, zMne_find_s)] pCne_scratLine qCne_scratLine) 2).2 [1, 9] η6 x13 η7 → (x13 = 0) → (fun (_ : Nat) (y : Int) (η' : zE) => pQne_scratLine [] η y η') 0 0 η7 := by
  intro x1 e1 r1 c1 x2 η1 h2 x3 e3 r3 x4 e4 x5 e5 r5 x6 η2 h6 c2 x7 e7 r7 x8 e8 r8 x9 η3 h9 c3 x10 e10 r10 η4 eη4 x11 η5 h11 c4 x12 e12 r12 η6 eη6 x13 η7 h13 c5
  have y2 : fQne_token [] η x2 η1 := h2.2.2
  have k2 : sQ wl_ne zTr zOne_token zMne_token [] η x2 η1 ∧ oQne_token [] η x2 η1 := ⟨h2.1, h2.2.1⟩
  have y6 : fQne_number [0, 11] η1 x6 η2 := h6.2.2
  have k6 : sQ wl_ne zTr zOne_number zMne_number [0, 11] η1 x6 η2 ∧ oQne_number [0, 11] η1 x6 η2 := ⟨h6.1, h6.2.1⟩
  have y9 : fQne_find_s [x7, x8] η2 x9 η3 := h9.2.2
  have k9 : sQ wl_ne zTr zOne_find_s zMne_find_s [x7, x8] η2 x9 η3 ∧ oQne_find_s [x7, x8] η2 x9 η3 := ⟨h9.1, h9.2.1⟩
  have y11 : fQne_number [0, 100] η4 x11 η5 := h11.2.2
  have k11 : sQ wl_ne zTr zOne_number zMne_number [0, 100] η4 x11 η5 ∧ oQne_number [0, 100] η4 x11 η5 := ⟨h11.1, h11.2.1⟩
  have y13 : fQne_number [1, 9] η6 x13 η7 := h13.2.2
  have k13 : sQ wl_ne zTr zOne_number zMne_number [1, 9] η6 x13 η7 ∧ oQne_number [1, 9] η6 x13 η7 := ⟨h13.1, h13.2.1⟩
  refine yj_a ?_ ?_
  · have hk : ¬ η 0 8 = 0 := hpp.2
    replace e4 := zEq_i e4
    have y2 : fQne_token [] η x2 η1 := h2.2.2
    have k2 : sQ wl_ne zTr zOne_token zMne_token [] η x2 η1 ∧ oQne_token [] η x2 η1 := ⟨h2.1, h2.2.1⟩
    have y6 : fQne_number [0, 11] η1 x6 η2 := h6.2.2
    have k6 : sQ wl_ne zTr zOne_number zMne_number [0, 11] η1 x6 η2 ∧ oQne_number [0, 11] η1 x6 η2 := ⟨h6.1, h6.2.1⟩
    have y9 : fQne_find_s [x7, x8] η2 x9 η3 := h9.2.2
    have k9 : sQ wl_ne zTr zOne_find_s zMne_find_s [x7, x8] η2 x9 η3 ∧ oQne_find_s [x7, x8] η2 x9 η3 := ⟨h9.1, h9.2.1⟩
    have y11 : fQne_number [0, 100] η4 x11 η5 := h11.2.2
    have k11 : sQ wl_ne zTr zOne_number zMne_number [0, 100] η4 x11 η5 ∧ oQne_number [0, 100] η4 x11 η5 := ⟨h11.1, h11.2.1⟩
    have y13 : fQne_number [1, 9] η6 x13 η7 := h13.2.2
    have k13 : sQ wl_ne zTr zOne_number zMne_number [1, 9] η6 x13 η7 ∧ oQne_number [1, 9] η6 x13 η7 := ⟨h13.1, h13.2.1⟩
    have w0_0_17 : (0 : Int) ≤ η 0 17 ∧ η 0 17 ≤ 4 := wf_ok (a := 17) (b := 17) (z := (0, 4)) hp.1 (by decide +kernel) (Nat.le_refl _) (Nat.le_refl _)
    replace e1 : x1 = η 0 17 := e1
    have w0_0_7 : (0 : Int) ≤ η 0 7 ∧ η 0 7 ≤ 700 := wf_ok (a := 7) (b := 7) (z := (0, 700)) hp.1 (by decide +kernel) (Nat.le_refl _) (Nat.le_refl _)
    have c0_0_7 : η 0 7 = η 0 7 := rfl
    have w0_0_6 : (0 : Int) ≤ η 0 6 ∧ η 0 6 ≤ 700 := wf_ok (a := 6) (b := 6) (z := (0, 700)) hp.1 (by decide +kernel) (Nat.le_refl _) (Nat.le_refl _)
    have c0_0_6 : η 0 6 = η 0 6 := rfl
    have w0_0_8 : (0 : Int) ≤ η 0 8 ∧ η 0 8 ≤ 6 := wf_ok (a := 8) (b := 8) (z := (0, 6)) hp.1 (by decide +kernel) (Nat.le_refl _) (Nat.le_refl _)
    have c0_0_8 : η 0 8 = η 0 8 := rfl
    have bx2 : (0 : Int) ≤ x2 ∧ x2 ≤ 0 := k2.1.2.1
    have w1_0_7 : (0 : Int) ≤ η1 0 7 ∧ η1 0 7 ≤ 700 := wf_ok (a := 7) (b := 7) (z := (0, 700)) k2.1.1 (by decide +kernel) (Nat.le_refl _) (Nat.le_refl _)
    have d1_0_7 : η1 0 7 = η1 0 7 := rfl
    have v5 : zEq (η1 0 6) (η 0 6) := (k2.1.2.2.2.1 0 6 (by decide +kernel)).trans rfl
    have d1_0_6 : η1 0 6 = η 0 6 := v5
    have w1_0_8 : (0 : Int) ≤ η1 0 8 ∧ η1 0 8 ≤ 6 := wf_ok (a := 8) (b := 8) (z := (0, 6)) k2.1.1 (by decide +kernel) (Nat.le_refl _) (Nat.le_refl _)
    have d1_0_8 : η1 0 8 = η1 0 8 := rfl
    have v7 : zEq (η1 0 17) (η 0 17) := (k2.1.2.2.2.1 0 17 (by decide +kernel)).trans rfl
    replace e3 : x3 = η 0 17 := e3.trans v7
    first
    | replace e4 : x4 = 4 + x3 := zd_a2 (zEq_o e4) (by clear e4; exact ⟨by omega, by omega⟩)
    | clear e4
    have w1_0_10 : (0 : Int) ≤ η1 0 10 ∧ η1 0 10 ≤ 700 := wf_ok (a := 10) (b := 10) (z := (0, 700)) k2.1.1 (by decide +kernel) (Nat.le_refl _) (Nat.le_refl _)
    replace e5 : x5 = η1 0 10 := e5
    have c1_0_7 : η1 0 7 = η1 0 7 := rfl
    have c1_0_6 : η1 0 6 = η 0 6 := v5
    have c1_0_8 : η1 0 8 = η1 0 8 := rfl
    have bx6 : (0 : Int) ≤ x6 ∧ x6 ≤ 1 := k6.1.2.1
    have w2_0_7 : (0 : Int) ≤ η2 0 7 ∧ η2 0 7 ≤ 700 := wf_ok (a := 7) (b := 7) (z := (0, 700)) k6.1.1 (by decide +kernel) (Nat.le_refl _) (Nat.le_refl _)
    have d2_0_7 : η2 0 7 = η2 0 7 := rfl
    have v10 : zEq (η2 0 6) (η 0 6) := (k6.1.2.2.2.1 0 6 (by decide +kernel)).trans v5
    have d2_0_6 : η2 0 6 = η 0 6 := v10
    have w2_0_8 : (0 : Int) ≤ η2 0 8 ∧ η2 0 8 ≤ 6 := wf_ok (a := 8) (b := 8) (z := (0, 6)) k6.1.1 (by decide +kernel) (Nat.le_refl _) (Nat.le_refl _)
    have d2_0_8 : η2 0 8 = η2 0 8 := rfl
    have v12 : zEq (η2 0 17) (η 0 17) := (k6.1.2.2.2.1 0 17 (by decide +kernel)).trans v7
    replace e7 : x7 = η 0 17 := e7.trans v12
    replace e8 : x8 = η2 0 11 := e8
    replace r8 : -2147483648 ≤ x8 ∧ x8 ≤ 2147483647 := r8
    have c2_0_7 : η2 0 7 = η2 0 7 := rfl
    have c2_0_6 : η2 0 6 = η 0 6 := v10
    have c2_0_8 : η2 0 8 = η2 0 8 := rfl
    have bx9 : ((-1) : Int) ≤ x9 ∧ x9 ≤ 3 := k9.1.2.1
    have v14 : zEq (η3 0 7) (η2 0 7) := (k9.1.2.2.2.1 0 7 (by decide +kernel)).trans rfl
    have d3_0_7 : η3 0 7 = η2 0 7 := v14
    have v15 : zEq (η3 0 6) (η 0 6) := (k9.1.2.2.2.1 0 6 (by decide +kernel)).trans v10
    have d3_0_6 : η3 0 6 = η 0 6 := v15
    have v16 : zEq (η3 0 8) (η2 0 8) := (k9.1.2.2.2.1 0 8 (by decide +kernel)).trans rfl
    have d3_0_8 : η3 0 8 = η2 0 8 := v16
    have v17 : zEq (η3 0 11) (η2 0 11) := (k9.1.2.2.2.1 0 11 (by decide +kernel)).trans rfl
    replace e10 : x10 = η2 0 11 := e10.trans v17
    replace r10 : -2147483648 ≤ x10 ∧ x10 ≤ 2147483647 := r10
    have v18 : zEq (η4 0 7) (η2 0 7) := by rw [eη4]; exact (zup_ne (fun e _ => absurd e (by decide))).trans v14
    have c4_0_7 : η4 0 7 = η2 0 7 := v18
    have v19 : zEq (η4 0 6) (η 0 6) := by rw [eη4]; exact (zup_ne (fun e _ => absurd e (by decide))).trans v15
    have c4_0_6 : η4 0 6 = η 0 6 := v19
    have v20 : zEq (η4 0 8) (η2 0 8) := by rw [eη4]; exact (zup_ne (fun e _ => absurd e (by decide))).trans v16
    have c4_0_8 : η4 0 8 = η2 0 8 := v20
    have bx11 : (0 : Int) ≤ x11 ∧ x11 ≤ 1 := k11.1.2.1
    have w5_0_7 : (0 : Int) ≤ η5 0 7 ∧ η5 0 7 ≤ 700 := wf_ok (a := 7) (b := 7) (z := (0, 700)) k11.1.1 (by decide +kernel) (Nat.le_refl _) (Nat.le_refl _)
    have d5_0_7 : η5 0 7 = η5 0 7 := rfl
    have v22 : zEq (η5 0 6) (η 0 6) := (k11.1.2.2.2.1 0 6 (by decide +kernel)).trans v19
    have d5_0_6 : η5 0 6 = η 0 6 := v22
    have w5_0_8 : (0 : Int) ≤ η5 0 8 ∧ η5 0 8 ≤ 6 := wf_ok (a := 8) (b := 8) (z := (0, 6)) k11.1.1 (by decide +kernel) (Nat.le_refl _) (Nat.le_refl _)
    have d5_0_8 : η5 0 8 = η5 0 8 := rfl
    replace e12 : x12 = η5 0 11 := e12
    replace r12 : -2147483648 ≤ x12 ∧ x12 ≤ 2147483647 := r12
    have v25 : zEq (η6 0 7) (η5 0 7) := by rw [eη6]; exact (zup_ne (fun e _ => absurd e (by decide))).trans rfl
    have c6_0_7 : η6 0 7 = η5 0 7 := v25
    have v26 : zEq (η6 0 6) (η 0 6) := by rw [eη6]; exact (zup_ne (fun e _ => absurd e (by decide))).trans v22
    have c6_0_6 : η6 0 6 = η 0 6 := v26
    have v27 : zEq (η6 0 8) (η5 0 8) := by rw [eη6]; exact (zup_ne (fun e _ => absurd e (by decide))).trans rfl
    have c6_0_8 : η6 0 8 = η5 0 8 := v27
    have bx13 : (0 : Int) ≤ x13 ∧ x13 ≤ 1 := k13.1.2.1
    have w7_0_7 : (0 : Int) ≤ η7 0 7 ∧ η7 0 7 ≤ 700 := wf_ok (a := 7) (b := 7) (z := (0, 700)) k13.1.1 (by decide +kernel) (Nat.le_refl _) (Nat.le_refl _)
    have d7_0_7 : η7 0 7 = η7 0 7 := rfl
    have v29 : zEq (η7 0 6) (η 0 6) := (k13.1.2.2.2.1 0 6 (by decide +kernel)).trans v26
    have d7_0_6 : η7 0 6 = η 0 6 := v29
    have w7_0_8 : (0 : Int) ≤ η7 0 8 ∧ η7 0 8 ≤ 6 := wf_ok (a := 8) (b := 8) (z := (0, 6)) k13.1.1 (by decide +kernel) (Nat.le_refl _) (Nat.le_refl _)
    have d7_0_8 : η7 0 8 = η7 0 8 := rfl
    have f0_7 : η7 0 7 = η7 0 7 := rfl
    have f0_6 : η7 0 6 = η 0 6 := v29
    have f0_8 : η7 0 8 = η7 0 8 := rfl
    have qt2 : ¬ η 0 8 = 0 → 10 * (η1 0 6 - η1 0 7) + η1 0 8 < 10 * (η 0 6 - η 0 7) + η 0 8 := k2.2.2
    have qn6 : ¬ x6 = 0 → 10 * (η2 0 6 - η2 0 7) + η2 0 8 < 10 * (η1 0 6 - η1 0 7) + η1 0 8 := k6.2.2
    have g4 : G_n η4 := by rw [eη4]; exact zGk_up gk_n k9.2 (by decide +kernel)
    have qn11 : ¬ x11 = 0 → 10 * (η5 0 6 - η5 0 7) + η5 0 8 < 10 * (η4 0 6 - η4 0 7) + η4 0 8 := k11.2.2
    have g6 : G_n η6 := by rw [eη6]; exact zGk_up gk_n k11.2.1 (by decide +kernel)
    have qn13 : ¬ x13 = 0 → 10 * (η7 0 6 - η7 0 7) + η7 0 8 < 10 * (η6 0 6 - η6 0 7) + η6 0 8 := k13.2.2
    exact ⟨k13.2.1, fun w => absurd (show (0 : Int) = 0 by apply Int.le_antisymm <;> omega) w⟩
  · have e1 : x1 = η 0 17 := e1
    have b2 : η1 = (yq_tok η) := y2
    have e3 : x3 = η1 0 17 := e3
    have e4 : x4 = zd 0 1 4 x3 := e4
    have e5 : x5 = η1 0 10 := e5
    obtain ⟨a6, b6⟩ : x6 = (yq_ny 0 11 η1) ∧ η2 = (yq_ns 0 11 η1) := y6
    have e7 : x7 = η2 0 17 := e7
    have e8 : x8 = η2 0 11 := e8
    obtain ⟨a9, b9⟩ : x9 = (yp_fd (fun k => η2 7 (4 + k)) x8 (Int.toNat x7) (Int.toNat x7)) ∧ η2 = η3 := ⟨y9.1, y9.2.symm⟩
    subst b9
    have e10 : x10 = η2 0 11 := e10
    have f10 : x8 = x10 := e8.trans e10.symm
    subst f10
    have eη4 : η4 = zup η2 7 (Int.toNat x4) x8 := eη4
    obtain ⟨a11, b11⟩ : x11 = (yq_ny 0 100 η4) ∧ η5 = (yq_ns 0 100 η4) := y11
    have e12 : x12 = η5 0 11 := e12
    have eη6 : η6 = zup η5 8 (Int.toNat x4) x12 := eη6
    obtain ⟨a13, b13⟩ : x13 = (yq_ny 1 9 η6) ∧ η7 = (yq_ns 1 9 η6) := y13
    show 0 = (yq_scl η).1 ∧ η7 = (yq_scl η).2
    simp only [yq_scl, yq_sc2, yq_sc3, yq_sc4, yq_sc5, yq_nt, yq_no, yq_inc, ← e1, ← b2, ← e3, ← e4, ← e5, ← a6, ← b6, ← e7, ← e8, ← a9, ← eη4, ← a11, ← b11, ← e12, ← eη6, ← a13, ← b13]
    all_goals clear e4
    all_goals ((repeat' split) <;> first | (exfalso; omega) | exact ⟨rfl, rfl⟩ | rfl)
