def tm_le : zTm := tm_l
def wl_le : wL := wl_l
def gr_le : List zCe := gr_l
def G_le : zE → Prop := G_l
theorem gk_le : zGk G_le gr_le := gk_l
def zPle_wrong : zPq := zPke_wrong
def zOle_wrong : zPo := zOke_wrong
def zMle_wrong : List zCe := zMke_wrong
def pPle_wrong : List Int → zE → Prop := fun _ η => G_le η
def oQle_wrong : List Int → zE → Int → zE → Prop := fun _ _ _ η' => G_le η'
def fQle_wrong : List Int → zE → Int → zE → Prop := fQke_wrong
def pQle_wrong : List Int → zE → Int → zE → Prop := fun xs η y η' => oQle_wrong xs η y η' ∧ fQle_wrong xs η y η'
theorem zle_wrong {ro : Nat → List Int32} : zMet pr_P pr_K pr_df ro (sm_X0 1 6) 0 118 tm_le [(.inr (.inr (.inl (nat_lit 0)))), (.inl (nat_lit 1, (.ofNat (nat_lit 0))))] 2 [(nat_lit 0, nat_lit 0, nat_lit 1), (nat_lit 0, nat_lit 3, nat_lit 2), (nat_lit 0, nat_lit 20, nat_lit 3), (nat_lit 0, nat_lit 21, nat_lit 4), (nat_lit 0, nat_lit 22, nat_lit 5), (nat_lit 0, nat_lit 23, nat_lit 6), (nat_lit 0, nat_lit 24, nat_lit 7), (nat_lit 0, nat_lit 25, nat_lit 8), (nat_lit 0, nat_lit 26, nat_lit 9), (nat_lit 0, nat_lit 27, nat_lit 10), (nat_lit 0, nat_lit 28, nat_lit 11), (nat_lit 0, nat_lit 29, nat_lit 12), (nat_lit 0, nat_lit 30, nat_lit 13), (nat_lit 0, nat_lit 31, nat_lit 14), (nat_lit 0, nat_lit 32, nat_lit 15), (nat_lit 0, nat_lit 33, nat_lit 16), (nat_lit 0, nat_lit 34, nat_lit 17), (nat_lit 0, nat_lit 35, nat_lit 18), (nat_lit 0, nat_lit 36, nat_lit 19), (nat_lit 0, nat_lit 37, nat_lit 20), (nat_lit 0, nat_lit 38, nat_lit 21), (nat_lit 0, nat_lit 39, nat_lit 22), (nat_lit 0, nat_lit 40, nat_lit 23), (nat_lit 0, nat_lit 47, nat_lit 24), (nat_lit 0, nat_lit 48, nat_lit 25), (nat_lit 0, nat_lit 50, nat_lit 26), (nat_lit 0, nat_lit 51, nat_lit 27), (nat_lit 0, nat_lit 52, nat_lit 28), (nat_lit 0, nat_lit 53, nat_lit 29), (nat_lit 0, nat_lit 54, nat_lit 30), (nat_lit 0, nat_lit 55, nat_lit 31), (nat_lit 0, nat_lit 56, nat_lit 32), (nat_lit 0, nat_lit 57, nat_lit 33), (nat_lit 0, nat_lit 58, nat_lit 34), (nat_lit 0, nat_lit 59, nat_lit 35), (nat_lit 0, nat_lit 72, nat_lit 36), (nat_lit 0, nat_lit 73, nat_lit 37), (nat_lit 0, nat_lit 76, nat_lit 38), (nat_lit 0, nat_lit 77, nat_lit 39), (nat_lit 0, nat_lit 79, nat_lit 40), (nat_lit 0, nat_lit 81, nat_lit 41), (nat_lit 0, nat_lit 82, nat_lit 42)] [] (fun xs η => sP wl_le zTr zPle_wrong xs η ∧ pPle_wrong xs η) (fun xs η y η' => sQ wl_le zTr zOle_wrong zMle_wrong xs η y η' ∧ pQle_wrong xs η y η') :=
  zmet_cs zke_wrong (fun xs η h => ⟨h.1, h.2.1.1⟩) (fun xs η y η' h k0 => by
    have k : sQ wl_ke zTr zOke_wrong zMke_wrong xs η y η' ∧ oQke_wrong xs η y η' := ⟨k0.1, k0.2.1⟩
    exact ⟨k.1, ⟨⟨k.2, zGk_fm2 (G := T_l) (GR := [(19, 0), (20, 0), (21, 0)]) tk_l h.2.1.2 k.1.2.2.2.1 (by decide +kernel)⟩, zGk_fm2 jk_l h.2.2 k.1.2.2.2.1 (by decide +kernel)⟩, k0.2.2⟩)
def zPle_isKey : zPq := zPke_isKey
def zOle_isKey : zPo := zOke_isKey
def zMle_isKey : List zCe := zMke_isKey
def pPle_isKey : List Int → zE → Prop := fun _ η => G_le η
def oQle_isKey : List Int → zE → Int → zE → Prop := fun _ η y η' => G_l η' ∧ (¬ y = 0 → η 0 8 = 1)
def fQle_isKey : List Int → zE → Int → zE → Prop := fQke_isKey
def pQle_isKey : List Int → zE → Int → zE → Prop := fun xs η y η' => oQle_isKey xs η y η' ∧ fQle_isKey xs η y η'
theorem zle_isKey {ro : Nat → List Int32} : zMet pr_P pr_K pr_df ro (sm_X0 1 6) 0 125 tm_le [(.inr (.inr (.inl (nat_lit 0)))), (.inl (nat_lit 1, (.ofNat (nat_lit 0))))] 2 [(nat_lit 0, nat_lit 0, nat_lit 1), (nat_lit 0, nat_lit 3, nat_lit 2), (nat_lit 0, nat_lit 20, nat_lit 3), (nat_lit 0, nat_lit 21, nat_lit 4), (nat_lit 0, nat_lit 22, nat_lit 5), (nat_lit 0, nat_lit 23, nat_lit 6), (nat_lit 0, nat_lit 24, nat_lit 7), (nat_lit 0, nat_lit 25, nat_lit 8), (nat_lit 0, nat_lit 26, nat_lit 9), (nat_lit 0, nat_lit 27, nat_lit 10), (nat_lit 0, nat_lit 28, nat_lit 11), (nat_lit 0, nat_lit 29, nat_lit 12), (nat_lit 0, nat_lit 30, nat_lit 13), (nat_lit 0, nat_lit 31, nat_lit 14), (nat_lit 0, nat_lit 32, nat_lit 15), (nat_lit 0, nat_lit 33, nat_lit 16), (nat_lit 0, nat_lit 34, nat_lit 17), (nat_lit 0, nat_lit 35, nat_lit 18), (nat_lit 0, nat_lit 36, nat_lit 19), (nat_lit 0, nat_lit 37, nat_lit 20), (nat_lit 0, nat_lit 38, nat_lit 21), (nat_lit 0, nat_lit 39, nat_lit 22), (nat_lit 0, nat_lit 40, nat_lit 23), (nat_lit 0, nat_lit 47, nat_lit 24), (nat_lit 0, nat_lit 48, nat_lit 25), (nat_lit 0, nat_lit 50, nat_lit 26), (nat_lit 0, nat_lit 51, nat_lit 27), (nat_lit 0, nat_lit 52, nat_lit 28), (nat_lit 0, nat_lit 53, nat_lit 29), (nat_lit 0, nat_lit 54, nat_lit 30), (nat_lit 0, nat_lit 55, nat_lit 31), (nat_lit 0, nat_lit 56, nat_lit 32), (nat_lit 0, nat_lit 57, nat_lit 33), (nat_lit 0, nat_lit 58, nat_lit 34), (nat_lit 0, nat_lit 59, nat_lit 35), (nat_lit 0, nat_lit 72, nat_lit 36), (nat_lit 0, nat_lit 73, nat_lit 37), (nat_lit 0, nat_lit 76, nat_lit 38), (nat_lit 0, nat_lit 77, nat_lit 39), (nat_lit 0, nat_lit 79, nat_lit 40), (nat_lit 0, nat_lit 81, nat_lit 41), (nat_lit 0, nat_lit 82, nat_lit 42)] [] (fun xs η => sP wl_le zTr zPle_isKey xs η ∧ pPle_isKey xs η) (fun xs η y η' => sQ wl_le zTr zOle_isKey zMle_isKey xs η y η' ∧ pQle_isKey xs η y η') :=
  zmet_cs zke_isKey (fun xs η h => ⟨h.1, h.2.1.1⟩) (fun xs η y η' h k0 => by
    have k : sQ wl_ke zTr zOke_isKey zMke_isKey xs η y η' ∧ oQke_isKey xs η y η' := ⟨k0.1, k0.2.1⟩
    exact ⟨k.1, ⟨⟨⟨k.2.1, zGk_fm2 (G := T_l) (GR := [(19, 0), (20, 0), (21, 0)]) tk_l h.2.1.2 k.1.2.2.2.1 (by decide +kernel)⟩, zGk_fm2 jk_l h.2.2 k.1.2.2.2.1 (by decide +kernel)⟩, k.2.2⟩, k0.2.2⟩)
def zPle_isSign : zPq := zPke_isSign
def zOle_isSign : zPo := zOke_isSign
def zMle_isSign : List zCe := zMke_isSign
def pPle_isSign : List Int → zE → Prop := fun _ η => G_le η
def oQle_isSign : List Int → zE → Int → zE → Prop := fun _ η y η' => G_l η' ∧ (¬ y = 0 → η 0 8 = 4)
def fQle_isSign : List Int → zE → Int → zE → Prop := fQke_isSign
def pQle_isSign : List Int → zE → Int → zE → Prop := fun xs η y η' => oQle_isSign xs η y η' ∧ fQle_isSign xs η y η'
theorem zle_isSign {ro : Nat → List Int32} : zMet pr_P pr_K pr_df ro (sm_X0 1 6) 0 126 tm_le [(.inr (.inr (.inl (nat_lit 0)))), (.inl (nat_lit 1, (.ofNat (nat_lit 0))))] 2 [(nat_lit 0, nat_lit 0, nat_lit 1), (nat_lit 0, nat_lit 3, nat_lit 2), (nat_lit 0, nat_lit 20, nat_lit 3), (nat_lit 0, nat_lit 21, nat_lit 4), (nat_lit 0, nat_lit 22, nat_lit 5), (nat_lit 0, nat_lit 23, nat_lit 6), (nat_lit 0, nat_lit 24, nat_lit 7), (nat_lit 0, nat_lit 25, nat_lit 8), (nat_lit 0, nat_lit 26, nat_lit 9), (nat_lit 0, nat_lit 27, nat_lit 10), (nat_lit 0, nat_lit 28, nat_lit 11), (nat_lit 0, nat_lit 29, nat_lit 12), (nat_lit 0, nat_lit 30, nat_lit 13), (nat_lit 0, nat_lit 31, nat_lit 14), (nat_lit 0, nat_lit 32, nat_lit 15), (nat_lit 0, nat_lit 33, nat_lit 16), (nat_lit 0, nat_lit 34, nat_lit 17), (nat_lit 0, nat_lit 35, nat_lit 18), (nat_lit 0, nat_lit 36, nat_lit 19), (nat_lit 0, nat_lit 37, nat_lit 20), (nat_lit 0, nat_lit 38, nat_lit 21), (nat_lit 0, nat_lit 39, nat_lit 22), (nat_lit 0, nat_lit 40, nat_lit 23), (nat_lit 0, nat_lit 47, nat_lit 24), (nat_lit 0, nat_lit 48, nat_lit 25), (nat_lit 0, nat_lit 50, nat_lit 26), (nat_lit 0, nat_lit 51, nat_lit 27), (nat_lit 0, nat_lit 52, nat_lit 28), (nat_lit 0, nat_lit 53, nat_lit 29), (nat_lit 0, nat_lit 54, nat_lit 30), (nat_lit 0, nat_lit 55, nat_lit 31), (nat_lit 0, nat_lit 56, nat_lit 32), (nat_lit 0, nat_lit 57, nat_lit 33), (nat_lit 0, nat_lit 58, nat_lit 34), (nat_lit 0, nat_lit 59, nat_lit 35), (nat_lit 0, nat_lit 72, nat_lit 36), (nat_lit 0, nat_lit 73, nat_lit 37), (nat_lit 0, nat_lit 76, nat_lit 38), (nat_lit 0, nat_lit 77, nat_lit 39), (nat_lit 0, nat_lit 79, nat_lit 40), (nat_lit 0, nat_lit 81, nat_lit 41), (nat_lit 0, nat_lit 82, nat_lit 42)] [] (fun xs η => sP wl_le zTr zPle_isSign xs η ∧ pPle_isSign xs η) (fun xs η y η' => sQ wl_le zTr zOle_isSign zMle_isSign xs η y η' ∧ pQle_isSign xs η y η') :=
  zmet_cs zke_isSign (fun xs η h => ⟨h.1, h.2.1.1⟩) (fun xs η y η' h k0 => by
    have k : sQ wl_ke zTr zOke_isSign zMke_isSign xs η y η' ∧ oQke_isSign xs η y η' := ⟨k0.1, k0.2.1⟩
    exact ⟨k.1, ⟨⟨⟨k.2.1, zGk_fm2 (G := T_l) (GR := [(19, 0), (20, 0), (21, 0)]) tk_l h.2.1.2 k.1.2.2.2.1 (by decide +kernel)⟩, zGk_fm2 jk_l h.2.2 k.1.2.2.2.1 (by decide +kernel)⟩, k.2.2⟩, k0.2.2⟩)
def zPle_nameMet : zPq := zPke_nameMet
def zOle_nameMet : zPo := zOke_nameMet
def zMle_nameMet : List zCe := zMke_nameMet
def pPle_nameMet : List Int → zE → Prop := fun _ η => G_le η
def oQle_nameMet : List Int → zE → Int → zE → Prop := fun _ η y η' => G_l η' ∧ (0 ≤ y → η 0 8 = 1)
def fQle_nameMet : List Int → zE → Int → zE → Prop := fQke_nameMet
def pQle_nameMet : List Int → zE → Int → zE → Prop := fun xs η y η' => oQle_nameMet xs η y η' ∧ fQle_nameMet xs η y η'
theorem zle_nameMet {ro : Nat → List Int32} : zMet pr_P pr_K pr_df ro (sm_X0 1 6) 0 146 tm_le [(.inr (.inr (.inl (nat_lit 0))))] 1 [(nat_lit 0, nat_lit 0, nat_lit 1), (nat_lit 0, nat_lit 3, nat_lit 2), (nat_lit 0, nat_lit 20, nat_lit 3), (nat_lit 0, nat_lit 21, nat_lit 4), (nat_lit 0, nat_lit 22, nat_lit 5), (nat_lit 0, nat_lit 23, nat_lit 6), (nat_lit 0, nat_lit 24, nat_lit 7), (nat_lit 0, nat_lit 25, nat_lit 8), (nat_lit 0, nat_lit 26, nat_lit 9), (nat_lit 0, nat_lit 27, nat_lit 10), (nat_lit 0, nat_lit 28, nat_lit 11), (nat_lit 0, nat_lit 29, nat_lit 12), (nat_lit 0, nat_lit 30, nat_lit 13), (nat_lit 0, nat_lit 31, nat_lit 14), (nat_lit 0, nat_lit 32, nat_lit 15), (nat_lit 0, nat_lit 33, nat_lit 16), (nat_lit 0, nat_lit 34, nat_lit 17), (nat_lit 0, nat_lit 35, nat_lit 18), (nat_lit 0, nat_lit 36, nat_lit 19), (nat_lit 0, nat_lit 37, nat_lit 20), (nat_lit 0, nat_lit 38, nat_lit 21), (nat_lit 0, nat_lit 39, nat_lit 22), (nat_lit 0, nat_lit 40, nat_lit 23), (nat_lit 0, nat_lit 47, nat_lit 24), (nat_lit 0, nat_lit 48, nat_lit 25), (nat_lit 0, nat_lit 50, nat_lit 26), (nat_lit 0, nat_lit 51, nat_lit 27), (nat_lit 0, nat_lit 52, nat_lit 28), (nat_lit 0, nat_lit 53, nat_lit 29), (nat_lit 0, nat_lit 54, nat_lit 30), (nat_lit 0, nat_lit 55, nat_lit 31), (nat_lit 0, nat_lit 56, nat_lit 32), (nat_lit 0, nat_lit 57, nat_lit 33), (nat_lit 0, nat_lit 58, nat_lit 34), (nat_lit 0, nat_lit 59, nat_lit 35), (nat_lit 0, nat_lit 72, nat_lit 36), (nat_lit 0, nat_lit 73, nat_lit 37), (nat_lit 0, nat_lit 76, nat_lit 38), (nat_lit 0, nat_lit 77, nat_lit 39), (nat_lit 0, nat_lit 79, nat_lit 40), (nat_lit 0, nat_lit 81, nat_lit 41), (nat_lit 0, nat_lit 82, nat_lit 42)] [] (fun xs η => sP wl_le zTr zPle_nameMet xs η ∧ pPle_nameMet xs η) (fun xs η y η' => sQ wl_le zTr zOle_nameMet zMle_nameMet xs η y η' ∧ pQle_nameMet xs η y η') :=
  zmet_cs zke_nameMet (fun xs η h => ⟨h.1, h.2.1.1⟩) (fun xs η y η' h k0 => by
    have k : sQ wl_ke zTr zOke_nameMet zMke_nameMet xs η y η' ∧ oQke_nameMet xs η y η' := ⟨k0.1, k0.2.1⟩
    exact ⟨k.1, ⟨⟨⟨k.2.1, zGk_fm2 (G := T_l) (GR := [(19, 0), (20, 0), (21, 0)]) tk_l h.2.1.2 k.1.2.2.2.1 (by decide +kernel)⟩, zGk_fm2 jk_l h.2.2 k.1.2.2.2.1 (by decide +kernel)⟩, k.2.2⟩, k0.2.2⟩)
def zPle_token : zPq := zPke_token
def zOle_token : zPo := zOke_token
def zMle_token : List zCe := zMke_token
def pPle_token : List Int → zE → Prop := fun _ η => G_le η
def oQle_token : List Int → zE → Int → zE → Prop := fun _ η _ η' => G_l η' ∧ (¬ η 0 8 = 0 → 10 * (η' 0 6 - η' 0 7) + η' 0 8 < 10 * (η 0 6 - η 0 7) + η 0 8)
def fQle_token : List Int → zE → Int → zE → Prop := fQke_token
def pQle_token : List Int → zE → Int → zE → Prop := fun xs η y η' => oQle_token xs η y η' ∧ fQle_token xs η y η'
theorem zle_token {ro : Nat → List Int32} : zMet pr_P pr_K pr_df ro (sm_X0 1 6) 1 122 tm_le [(.inr (.inr (.inl (nat_lit 0))))] 0 [(nat_lit 0, nat_lit 0, nat_lit 1), (nat_lit 0, nat_lit 3, nat_lit 2), (nat_lit 0, nat_lit 20, nat_lit 3), (nat_lit 0, nat_lit 21, nat_lit 4), (nat_lit 0, nat_lit 22, nat_lit 5), (nat_lit 0, nat_lit 23, nat_lit 6), (nat_lit 0, nat_lit 24, nat_lit 7), (nat_lit 0, nat_lit 25, nat_lit 8), (nat_lit 0, nat_lit 26, nat_lit 9), (nat_lit 0, nat_lit 27, nat_lit 10), (nat_lit 0, nat_lit 28, nat_lit 11), (nat_lit 0, nat_lit 29, nat_lit 12), (nat_lit 0, nat_lit 30, nat_lit 13), (nat_lit 0, nat_lit 31, nat_lit 14), (nat_lit 0, nat_lit 32, nat_lit 15), (nat_lit 0, nat_lit 33, nat_lit 16), (nat_lit 0, nat_lit 34, nat_lit 17), (nat_lit 0, nat_lit 35, nat_lit 18), (nat_lit 0, nat_lit 36, nat_lit 19), (nat_lit 0, nat_lit 37, nat_lit 20), (nat_lit 0, nat_lit 38, nat_lit 21), (nat_lit 0, nat_lit 39, nat_lit 22), (nat_lit 0, nat_lit 40, nat_lit 23), (nat_lit 0, nat_lit 47, nat_lit 24), (nat_lit 0, nat_lit 48, nat_lit 25), (nat_lit 0, nat_lit 50, nat_lit 26), (nat_lit 0, nat_lit 51, nat_lit 27), (nat_lit 0, nat_lit 52, nat_lit 28), (nat_lit 0, nat_lit 53, nat_lit 29), (nat_lit 0, nat_lit 54, nat_lit 30), (nat_lit 0, nat_lit 55, nat_lit 31), (nat_lit 0, nat_lit 56, nat_lit 32), (nat_lit 0, nat_lit 57, nat_lit 33), (nat_lit 0, nat_lit 58, nat_lit 34), (nat_lit 0, nat_lit 59, nat_lit 35), (nat_lit 0, nat_lit 72, nat_lit 36), (nat_lit 0, nat_lit 73, nat_lit 37), (nat_lit 0, nat_lit 76, nat_lit 38), (nat_lit 0, nat_lit 77, nat_lit 39), (nat_lit 0, nat_lit 79, nat_lit 40), (nat_lit 0, nat_lit 81, nat_lit 41), (nat_lit 0, nat_lit 82, nat_lit 42)] [] (fun xs η => sP wl_le zTr zPle_token xs η ∧ pPle_token xs η) (fun xs η y η' => sQ wl_le zTr zOle_token zMle_token xs η y η' ∧ pQle_token xs η y η') :=
  zmet_cs zke_token (fun xs η h => ⟨h.1, h.2.1.1⟩) (fun xs η y η' h k0 => by
    have k : sQ wl_ke zTr zOke_token zMke_token xs η y η' ∧ oQke_token xs η y η' := ⟨k0.1, k0.2.1⟩
    exact ⟨k.1, ⟨⟨⟨k.2.1, zGk_fm2 (G := T_l) (GR := [(19, 0), (20, 0), (21, 0)]) tk_l h.2.1.2 k.1.2.2.2.1 (by decide +kernel)⟩, zGk_fm2 jk_l h.2.2 k.1.2.2.2.1 (by decide +kernel)⟩, k.2.2⟩, k0.2.2⟩)
def zPle_rank : zPq := ([((.negSucc (nat_lit 2147483647)), (.ofNat (nat_lit 2147483647)))], [])
def zOle_rank : zPo := (((.ofNat (nat_lit 0)), (.ofNat (nat_lit 6))), [], [])
def zMle_rank : List zCe := []
def pPle_rank : List Int → zE → Prop := (fun _ η => G_le η)
def oQle_rank : List Int → zE → Int → zE → Prop := fun xs _ y η' => G_l η' ∧ (1 ≤ y → 2 ≤ xs.getD 0 0) ∧ (2 ≤ xs.getD 0 0 → 1 ≤ y)
def fQle_rank : List Int → zE → Int → zE → Prop := fun xs η y η' => y = (yq_rk (xs.getD 0 0)) ∧ η' = η
def pQle_rank : List Int → zE → Int → zE → Prop := fun xs η y η' => oQle_rank xs η y η' ∧ fQle_rank xs η y η'
def pCle_rank : Nat → List Int → zE → Prop := fun c => match c with
  | _ => fun _ _ => True
def qCle_rank : Nat → List Int → zE → Int → zE → Prop := fun c => match c with
  | _ => fun _ _ _ _ => True
def iCle_rank : List Int → zE → Nat → List Int → zE → Prop := fun xs η0 c => match c with
  | _ => fun _ _ => True
def zVle_rank : List zIv := []
def zDle_rank : List (List zK) := []
def zEle_rank : List (List zK) := [[(nat_lit 11, nat_lit 0, [(nat_lit 0, (.ofNat (nat_lit 0)))]), (nat_lit 6, nat_lit 1, [(nat_lit 1, (.ofNat (nat_lit 0))), (nat_lit 0, (.ofNat (nat_lit 4)))]), (nat_lit 6, nat_lit 1, [(nat_lit 1, (.ofNat (nat_lit 0))), (nat_lit 0, (.ofNat (nat_lit 3)))]), (nat_lit 6, nat_lit 1, [(nat_lit 1, (.ofNat (nat_lit 0))), (nat_lit 0, (.ofNat (nat_lit 2)))]), (nat_lit 6, nat_lit 2, [(nat_lit 1, (.ofNat (nat_lit 0))), (nat_lit 0, (.ofNat (nat_lit 5)))]), (nat_lit 6, nat_lit 2, [(nat_lit 1, (.ofNat (nat_lit 0))), (nat_lit 0, (.ofNat (nat_lit 11)))]), (nat_lit 6, nat_lit 2, [(nat_lit 1, (.ofNat (nat_lit 0))), (nat_lit 0, (.ofNat (nat_lit 13)))])],
  [(nat_lit 11, nat_lit 0, [(nat_lit 0, (.ofNat (nat_lit 1)))]), (nat_lit 6, nat_lit 0, [(nat_lit 1, (.ofNat (nat_lit 0))), (nat_lit 0, (.ofNat (nat_lit 4)))]), (nat_lit 6, nat_lit 1, [(nat_lit 1, (.ofNat (nat_lit 0))), (nat_lit 0, (.ofNat (nat_lit 3)))]), (nat_lit 6, nat_lit 1, [(nat_lit 1, (.ofNat (nat_lit 0))), (nat_lit 0, (.ofNat (nat_lit 2)))]), (nat_lit 6, nat_lit 2, [(nat_lit 1, (.ofNat (nat_lit 0))), (nat_lit 0, (.ofNat (nat_lit 5)))]), (nat_lit 6, nat_lit 2, [(nat_lit 1, (.ofNat (nat_lit 0))), (nat_lit 0, (.ofNat (nat_lit 11)))]), (nat_lit 6, nat_lit 2, [(nat_lit 1, (.ofNat (nat_lit 0))), (nat_lit 0, (.ofNat (nat_lit 13)))])],
  [(nat_lit 11, nat_lit 0, [(nat_lit 0, (.ofNat (nat_lit 2)))]), (nat_lit 6, nat_lit 0, [(nat_lit 1, (.ofNat (nat_lit 0))), (nat_lit 0, (.ofNat (nat_lit 3)))]), (nat_lit 6, nat_lit 1, [(nat_lit 1, (.ofNat (nat_lit 0))), (nat_lit 0, (.ofNat (nat_lit 2)))]), (nat_lit 6, nat_lit 2, [(nat_lit 1, (.ofNat (nat_lit 0))), (nat_lit 0, (.ofNat (nat_lit 5)))]), (nat_lit 6, nat_lit 2, [(nat_lit 1, (.ofNat (nat_lit 0))), (nat_lit 0, (.ofNat (nat_lit 11)))]), (nat_lit 6, nat_lit 2, [(nat_lit 1, (.ofNat (nat_lit 0))), (nat_lit 0, (.ofNat (nat_lit 13)))])],
  [(nat_lit 11, nat_lit 0, [(nat_lit 0, (.ofNat (nat_lit 3)))]), (nat_lit 6, nat_lit 0, [(nat_lit 1, (.ofNat (nat_lit 0))), (nat_lit 0, (.ofNat (nat_lit 2)))]), (nat_lit 6, nat_lit 2, [(nat_lit 1, (.ofNat (nat_lit 0))), (nat_lit 0, (.ofNat (nat_lit 5)))]), (nat_lit 6, nat_lit 2, [(nat_lit 1, (.ofNat (nat_lit 0))), (nat_lit 0, (.ofNat (nat_lit 11)))]), (nat_lit 6, nat_lit 2, [(nat_lit 1, (.ofNat (nat_lit 0))), (nat_lit 0, (.ofNat (nat_lit 13)))])],
  [(nat_lit 11, nat_lit 0, [(nat_lit 0, (.ofNat (nat_lit 4)))]), (nat_lit 6, nat_lit 3, [(nat_lit 1, (.ofNat (nat_lit 0))), (nat_lit 0, (.ofNat (nat_lit 5)))]), (nat_lit 6, nat_lit 2, [(nat_lit 1, (.ofNat (nat_lit 0))), (nat_lit 0, (.ofNat (nat_lit 11)))]), (nat_lit 6, nat_lit 2, [(nat_lit 1, (.ofNat (nat_lit 0))), (nat_lit 0, (.ofNat (nat_lit 13)))])],
  [(nat_lit 11, nat_lit 0, [(nat_lit 0, (.ofNat (nat_lit 5)))]), (nat_lit 6, nat_lit 3, [(nat_lit 1, (.ofNat (nat_lit 0))), (nat_lit 0, (.ofNat (nat_lit 11)))]), (nat_lit 6, nat_lit 2, [(nat_lit 1, (.ofNat (nat_lit 0))), (nat_lit 0, (.ofNat (nat_lit 13)))])],
  [(nat_lit 11, nat_lit 0, [(nat_lit 0, (.ofNat (nat_lit 6)))]), (nat_lit 6, nat_lit 3, [(nat_lit 1, (.ofNat (nat_lit 0))), (nat_lit 0, (.ofNat (nat_lit 13)))])]]
def zFle_rank : List (List zK) := []
set_option maxHeartbeats 8000000 in
theorem zle_rank {ro : Nat → List Int32} : zMet pr_P pr_K pr_df ro (sm_X0 1 6) 0 140 tm_le [(.inl (nat_lit 1, (.ofNat (nat_lit 0))))] 1 [(nat_lit 0, nat_lit 0, nat_lit 1), (nat_lit 0, nat_lit 3, nat_lit 2), (nat_lit 0, nat_lit 20, nat_lit 3), (nat_lit 0, nat_lit 21, nat_lit 4), (nat_lit 0, nat_lit 22, nat_lit 5), (nat_lit 0, nat_lit 23, nat_lit 6), (nat_lit 0, nat_lit 24, nat_lit 7), (nat_lit 0, nat_lit 25, nat_lit 8), (nat_lit 0, nat_lit 26, nat_lit 9), (nat_lit 0, nat_lit 27, nat_lit 10), (nat_lit 0, nat_lit 28, nat_lit 11), (nat_lit 0, nat_lit 29, nat_lit 12), (nat_lit 0, nat_lit 30, nat_lit 13), (nat_lit 0, nat_lit 31, nat_lit 14), (nat_lit 0, nat_lit 32, nat_lit 15), (nat_lit 0, nat_lit 33, nat_lit 16), (nat_lit 0, nat_lit 34, nat_lit 17), (nat_lit 0, nat_lit 35, nat_lit 18), (nat_lit 0, nat_lit 36, nat_lit 19), (nat_lit 0, nat_lit 37, nat_lit 20), (nat_lit 0, nat_lit 38, nat_lit 21), (nat_lit 0, nat_lit 39, nat_lit 22), (nat_lit 0, nat_lit 40, nat_lit 23), (nat_lit 0, nat_lit 47, nat_lit 24), (nat_lit 0, nat_lit 48, nat_lit 25), (nat_lit 0, nat_lit 50, nat_lit 26), (nat_lit 0, nat_lit 51, nat_lit 27), (nat_lit 0, nat_lit 52, nat_lit 28), (nat_lit 0, nat_lit 53, nat_lit 29), (nat_lit 0, nat_lit 54, nat_lit 30), (nat_lit 0, nat_lit 55, nat_lit 31), (nat_lit 0, nat_lit 56, nat_lit 32), (nat_lit 0, nat_lit 57, nat_lit 33), (nat_lit 0, nat_lit 58, nat_lit 34), (nat_lit 0, nat_lit 59, nat_lit 35), (nat_lit 0, nat_lit 72, nat_lit 36), (nat_lit 0, nat_lit 73, nat_lit 37), (nat_lit 0, nat_lit 76, nat_lit 38), (nat_lit 0, nat_lit 77, nat_lit 39), (nat_lit 0, nat_lit 79, nat_lit 40), (nat_lit 0, nat_lit 81, nat_lit 41), (nat_lit 0, nat_lit 82, nat_lit 42)] [] (fun xs η => sP wl_le zTr zPle_rank xs η ∧ pPle_rank xs η) (fun xs η y η' => sQ wl_le zTr zOle_rank zMle_rank xs η y η' ∧ pQle_rank xs η y η') :=
  zmet_alt (zmea_gen (mi := (nat_lit 1, nat_lit 0, nat_lit 8, nat_lit 1, nat_lit 1, tX8_rank)) (cd := []) (cu := []) (cs := []) (iv := zVle_rank) (po := [zOle_rank]) (pr := zPle_rank) (mods := zMle_rank) (D7 := zDle_rank) (D0 := zEle_rank) (Dm := zFle_rank) (f0 := 25) pCle_rank qCle_rank iCle_rank pPle_rank (fun xs η _ y η' => pQle_rank xs η y η') zX_low pr_mtR rfl (fun _ h => nomatch h) (by decide +kernel) (by decide +kernel) (by decide +kernel)
    (by
      intro xs η hr hl hp hpp
      match xs, hl, hp, hpp with
      | [x1], _, hp, hpp =>
        refine List.forall_mem_cons.mpr ⟨?_, List.forall_mem_cons.mpr ⟨?_, List.forall_mem_cons.mpr ⟨?_, List.forall_mem_cons.mpr ⟨?_, List.forall_mem_cons.mpr ⟨?_, List.forall_mem_cons.mpr ⟨?_, List.forall_mem_cons.mpr ⟨?_, fun _ h => nomatch h⟩⟩⟩⟩⟩⟩⟩
        · show (x1 < 13) → (x1 < 11) → (x1 < 5) → (¬ x1 = 2) → (¬ x1 = 3) → (¬ x1 = 4) → (fun (_ : Nat) (y : Int) (η' : zE) => pQle_rank [x1] η y η') 0 0 η
          intro c1 c2 c3 c4 c5 c6
          refine yj_a ?_ ?_
          · have bx1 : ((-2147483648) : Int) ≤ x1 ∧ x1 ≤ 2147483647 := hp.2.1.1
            have fmE : zFm zMle_rank η η := zFm_rf
            have fr22_0 : ∀ j, η 22 j = η 22 j := fun _ => rfl
            have fr22 : ∀ j, η 22 j = η 22 j := fun _ => rfl
            have f0_41 : η 0 41 = η 0 41 := rfl
            have w0_0_43 : (0 : Int) ≤ η 0 43 ∧ η 0 43 ≤ 8 := wf_ok (a := 43) (b := 43) (z := (0, 8)) hp.1 (by decide +kernel) (Nat.le_refl _) (Nat.le_refl _)
            have f0_43 : η 0 43 = η 0 43 := rfl
            have f0_42 : η 0 42 = η 0 42 := rfl
            have f0_45 : η 0 45 = η 0 45 := rfl
            have w0_0_19 : (0 : Int) ≤ η 0 19 ∧ η 0 19 ≤ 64 := wf_ok (a := 19) (b := 19) (z := (0, 64)) hp.1 (by decide +kernel) (Nat.le_refl _) (Nat.le_refl _)
            have f0_19 : η 0 19 = η 0 19 := rfl
            have w0_0_44 : (0 : Int) ≤ η 0 44 ∧ η 0 44 ≤ 64 := wf_ok (a := 44) (b := 44) (z := (0, 64)) hp.1 (by decide +kernel) (Nat.le_refl _) (Nat.le_refl _)
            have f0_44 : η 0 44 = η 0 44 := rfl
            refine ⟨hpp, fun w => ?_, fun w => ?_⟩
            · show (2 : Int) ≤ x1
              first
              | omega
              | exact absurd w (by decide)
            · have w : 2 ≤ x1 := w
              first
              | (exfalso; omega)
              | decide
          · show 0 = (yq_rk x1) ∧ η = η
            refine ⟨?_, rfl⟩
            unfold yq_rk
            (repeat' split) <;> first | (exfalso; omega) | rfl
        · show (x1 < 13) → (x1 < 11) → (x1 < 5) → (¬ x1 = 2) → (¬ x1 = 3) → (x1 = 4) → (fun (_ : Nat) (y : Int) (η' : zE) => pQle_rank [x1] η y η') 0 1 η
          intro c1 c2 c3 c4 c5 c6
          refine yj_a ?_ ?_
          · have bx1 : ((-2147483648) : Int) ≤ x1 ∧ x1 ≤ 2147483647 := hp.2.1.1
            have fmE : zFm zMle_rank η η := zFm_rf
            have fr22_0 : ∀ j, η 22 j = η 22 j := fun _ => rfl
            have fr22 : ∀ j, η 22 j = η 22 j := fun _ => rfl
            have f0_41 : η 0 41 = η 0 41 := rfl
            have w0_0_43 : (0 : Int) ≤ η 0 43 ∧ η 0 43 ≤ 8 := wf_ok (a := 43) (b := 43) (z := (0, 8)) hp.1 (by decide +kernel) (Nat.le_refl _) (Nat.le_refl _)
            have f0_43 : η 0 43 = η 0 43 := rfl
            have f0_42 : η 0 42 = η 0 42 := rfl
            have f0_45 : η 0 45 = η 0 45 := rfl
            have w0_0_19 : (0 : Int) ≤ η 0 19 ∧ η 0 19 ≤ 64 := wf_ok (a := 19) (b := 19) (z := (0, 64)) hp.1 (by decide +kernel) (Nat.le_refl _) (Nat.le_refl _)
            have f0_19 : η 0 19 = η 0 19 := rfl
            have w0_0_44 : (0 : Int) ≤ η 0 44 ∧ η 0 44 ≤ 64 := wf_ok (a := 44) (b := 44) (z := (0, 64)) hp.1 (by decide +kernel) (Nat.le_refl _) (Nat.le_refl _)
            have f0_44 : η 0 44 = η 0 44 := rfl
            refine ⟨hpp, fun w => ?_, fun w => ?_⟩
            · show (2 : Int) ≤ x1
              first
              | omega
              | exact absurd w (by decide)
            · have w : 2 ≤ x1 := w
              first
              | (exfalso; omega)
              | decide
          · show 1 = (yq_rk x1) ∧ η = η
            refine ⟨?_, rfl⟩
            unfold yq_rk
            (repeat' split) <;> first | (exfalso; omega) | rfl
        · show (x1 < 13) → (x1 < 11) → (x1 < 5) → (¬ x1 = 2) → (x1 = 3) → (fun (_ : Nat) (y : Int) (η' : zE) => pQle_rank [x1] η y η') 0 2 η
          intro c1 c2 c3 c4 c5
          refine yj_a ?_ ?_
          · have bx1 : ((-2147483648) : Int) ≤ x1 ∧ x1 ≤ 2147483647 := hp.2.1.1
            have fmE : zFm zMle_rank η η := zFm_rf
            have fr22_0 : ∀ j, η 22 j = η 22 j := fun _ => rfl
            have fr22 : ∀ j, η 22 j = η 22 j := fun _ => rfl
            have f0_41 : η 0 41 = η 0 41 := rfl
            have w0_0_43 : (0 : Int) ≤ η 0 43 ∧ η 0 43 ≤ 8 := wf_ok (a := 43) (b := 43) (z := (0, 8)) hp.1 (by decide +kernel) (Nat.le_refl _) (Nat.le_refl _)
            have f0_43 : η 0 43 = η 0 43 := rfl
            have f0_42 : η 0 42 = η 0 42 := rfl
            have f0_45 : η 0 45 = η 0 45 := rfl
            have w0_0_19 : (0 : Int) ≤ η 0 19 ∧ η 0 19 ≤ 64 := wf_ok (a := 19) (b := 19) (z := (0, 64)) hp.1 (by decide +kernel) (Nat.le_refl _) (Nat.le_refl _)
            have f0_19 : η 0 19 = η 0 19 := rfl
            have w0_0_44 : (0 : Int) ≤ η 0 44 ∧ η 0 44 ≤ 64 := wf_ok (a := 44) (b := 44) (z := (0, 64)) hp.1 (by decide +kernel) (Nat.le_refl _) (Nat.le_refl _)
            have f0_44 : η 0 44 = η 0 44 := rfl
            refine ⟨hpp, fun w => ?_, fun w => ?_⟩
            · show (2 : Int) ≤ x1
              first
              | omega
              | exact absurd w (by decide)
            · have w : 2 ≤ x1 := w
              first
              | (exfalso; omega)
              | decide
          · show 2 = (yq_rk x1) ∧ η = η
            refine ⟨?_, rfl⟩
            unfold yq_rk
            (repeat' split) <;> first | (exfalso; omega) | rfl
        · show (x1 < 13) → (x1 < 11) → (x1 < 5) → (x1 = 2) → (fun (_ : Nat) (y : Int) (η' : zE) => pQle_rank [x1] η y η') 0 3 η
          intro c1 c2 c3 c4
          refine yj_a ?_ ?_
          · have bx1 : ((-2147483648) : Int) ≤ x1 ∧ x1 ≤ 2147483647 := hp.2.1.1
            have fmE : zFm zMle_rank η η := zFm_rf
            have fr22_0 : ∀ j, η 22 j = η 22 j := fun _ => rfl
            have fr22 : ∀ j, η 22 j = η 22 j := fun _ => rfl
            have f0_41 : η 0 41 = η 0 41 := rfl
            have w0_0_43 : (0 : Int) ≤ η 0 43 ∧ η 0 43 ≤ 8 := wf_ok (a := 43) (b := 43) (z := (0, 8)) hp.1 (by decide +kernel) (Nat.le_refl _) (Nat.le_refl _)
            have f0_43 : η 0 43 = η 0 43 := rfl
            have f0_42 : η 0 42 = η 0 42 := rfl
            have f0_45 : η 0 45 = η 0 45 := rfl
            have w0_0_19 : (0 : Int) ≤ η 0 19 ∧ η 0 19 ≤ 64 := wf_ok (a := 19) (b := 19) (z := (0, 64)) hp.1 (by decide +kernel) (Nat.le_refl _) (Nat.le_refl _)
            have f0_19 : η 0 19 = η 0 19 := rfl
            have w0_0_44 : (0 : Int) ≤ η 0 44 ∧ η 0 44 ≤ 64 := wf_ok (a := 44) (b := 44) (z := (0, 64)) hp.1 (by decide +kernel) (Nat.le_refl _) (Nat.le_refl _)
            have f0_44 : η 0 44 = η 0 44 := rfl
            refine ⟨hpp, fun w => ?_, fun w => ?_⟩
            · show (2 : Int) ≤ x1
              first
              | omega
              | exact absurd w (by decide)
            · have w : 2 ≤ x1 := w
              first
              | (exfalso; omega)
              | decide
          · show 3 = (yq_rk x1) ∧ η = η
            refine ⟨?_, rfl⟩
            unfold yq_rk
            (repeat' split) <;> first | (exfalso; omega) | rfl
        · show (x1 < 13) → (x1 < 11) → (5 ≤ x1) → (fun (_ : Nat) (y : Int) (η' : zE) => pQle_rank [x1] η y η') 0 4 η
          intro c1 c2 c3
          refine yj_a ?_ ?_
          · have bx1 : ((-2147483648) : Int) ≤ x1 ∧ x1 ≤ 2147483647 := hp.2.1.1
            have fmE : zFm zMle_rank η η := zFm_rf
            have fr22_0 : ∀ j, η 22 j = η 22 j := fun _ => rfl
            have fr22 : ∀ j, η 22 j = η 22 j := fun _ => rfl
            have f0_41 : η 0 41 = η 0 41 := rfl
            have w0_0_43 : (0 : Int) ≤ η 0 43 ∧ η 0 43 ≤ 8 := wf_ok (a := 43) (b := 43) (z := (0, 8)) hp.1 (by decide +kernel) (Nat.le_refl _) (Nat.le_refl _)
            have f0_43 : η 0 43 = η 0 43 := rfl
            have f0_42 : η 0 42 = η 0 42 := rfl
            have f0_45 : η 0 45 = η 0 45 := rfl
            have w0_0_19 : (0 : Int) ≤ η 0 19 ∧ η 0 19 ≤ 64 := wf_ok (a := 19) (b := 19) (z := (0, 64)) hp.1 (by decide +kernel) (Nat.le_refl _) (Nat.le_refl _)
            have f0_19 : η 0 19 = η 0 19 := rfl
            have w0_0_44 : (0 : Int) ≤ η 0 44 ∧ η 0 44 ≤ 64 := wf_ok (a := 44) (b := 44) (z := (0, 64)) hp.1 (by decide +kernel) (Nat.le_refl _) (Nat.le_refl _)
            have f0_44 : η 0 44 = η 0 44 := rfl
            refine ⟨hpp, fun w => ?_, fun w => ?_⟩
            · show (2 : Int) ≤ x1
              first
              | omega
              | exact absurd w (by decide)
            · have w : 2 ≤ x1 := w
              first
              | (exfalso; omega)
              | decide
          · show 4 = (yq_rk x1) ∧ η = η
            refine ⟨?_, rfl⟩
            unfold yq_rk
            (repeat' split) <;> first | (exfalso; omega) | rfl
        · show (x1 < 13) → (11 ≤ x1) → (fun (_ : Nat) (y : Int) (η' : zE) => pQle_rank [x1] η y η') 0 5 η
          intro c1 c2
          refine yj_a ?_ ?_
          · have bx1 : ((-2147483648) : Int) ≤ x1 ∧ x1 ≤ 2147483647 := hp.2.1.1
            have fmE : zFm zMle_rank η η := zFm_rf
            have fr22_0 : ∀ j, η 22 j = η 22 j := fun _ => rfl
            have fr22 : ∀ j, η 22 j = η 22 j := fun _ => rfl
            have f0_41 : η 0 41 = η 0 41 := rfl
            have w0_0_43 : (0 : Int) ≤ η 0 43 ∧ η 0 43 ≤ 8 := wf_ok (a := 43) (b := 43) (z := (0, 8)) hp.1 (by decide +kernel) (Nat.le_refl _) (Nat.le_refl _)
            have f0_43 : η 0 43 = η 0 43 := rfl
            have f0_42 : η 0 42 = η 0 42 := rfl
            have f0_45 : η 0 45 = η 0 45 := rfl
            have w0_0_19 : (0 : Int) ≤ η 0 19 ∧ η 0 19 ≤ 64 := wf_ok (a := 19) (b := 19) (z := (0, 64)) hp.1 (by decide +kernel) (Nat.le_refl _) (Nat.le_refl _)
            have f0_19 : η 0 19 = η 0 19 := rfl
            have w0_0_44 : (0 : Int) ≤ η 0 44 ∧ η 0 44 ≤ 64 := wf_ok (a := 44) (b := 44) (z := (0, 64)) hp.1 (by decide +kernel) (Nat.le_refl _) (Nat.le_refl _)
            have f0_44 : η 0 44 = η 0 44 := rfl
            refine ⟨hpp, fun w => ?_, fun w => ?_⟩
            · show (2 : Int) ≤ x1
              first
              | omega
              | exact absurd w (by decide)
            · have w : 2 ≤ x1 := w
              first
              | (exfalso; omega)
              | decide
          · show 5 = (yq_rk x1) ∧ η = η
            refine ⟨?_, rfl⟩
            unfold yq_rk
            (repeat' split) <;> first | (exfalso; omega) | rfl
        · show (13 ≤ x1) → (fun (_ : Nat) (y : Int) (η' : zE) => pQle_rank [x1] η y η') 0 6 η
          intro c1
          refine yj_a ?_ ?_
          · have bx1 : ((-2147483648) : Int) ≤ x1 ∧ x1 ≤ 2147483647 := hp.2.1.1
            have fmE : zFm zMle_rank η η := zFm_rf
            have fr22_0 : ∀ j, η 22 j = η 22 j := fun _ => rfl
            have fr22 : ∀ j, η 22 j = η 22 j := fun _ => rfl
            have f0_41 : η 0 41 = η 0 41 := rfl
            have w0_0_43 : (0 : Int) ≤ η 0 43 ∧ η 0 43 ≤ 8 := wf_ok (a := 43) (b := 43) (z := (0, 8)) hp.1 (by decide +kernel) (Nat.le_refl _) (Nat.le_refl _)
            have f0_43 : η 0 43 = η 0 43 := rfl
            have f0_42 : η 0 42 = η 0 42 := rfl
            have f0_45 : η 0 45 = η 0 45 := rfl
            have w0_0_19 : (0 : Int) ≤ η 0 19 ∧ η 0 19 ≤ 64 := wf_ok (a := 19) (b := 19) (z := (0, 64)) hp.1 (by decide +kernel) (Nat.le_refl _) (Nat.le_refl _)
            have f0_19 : η 0 19 = η 0 19 := rfl
            have w0_0_44 : (0 : Int) ≤ η 0 44 ∧ η 0 44 ≤ 64 := wf_ok (a := 44) (b := 44) (z := (0, 64)) hp.1 (by decide +kernel) (Nat.le_refl _) (Nat.le_refl _)
            have f0_44 : η 0 44 = η 0 44 := rfl
            refine ⟨hpp, fun w => ?_, fun w => ?_⟩
            · show (2 : Int) ≤ x1
              first
              | omega
              | exact absurd w (by decide)
            · have w : 2 ≤ x1 := w
              first
              | (exfalso; omega)
              | decide
          · show 6 = (yq_rk x1) ∧ η = η
            refine ⟨?_, rfl⟩
            unfold yq_rk
            (repeat' split) <;> first | (exfalso; omega) | rfl
      )
    (fun _ _ _ _ _ _ _ h => nomatch h)
    (fun _ h => nomatch h))
def zPle_isCounted : zPq := ([], [])
def zOle_isCounted : zPo := (((.ofNat (nat_lit 0)), (.ofNat (nat_lit 1))), [], [])
def zMle_isCounted : List zCe := [(nat_lit 0, nat_lit 5), (nat_lit 0, nat_lit 6), (nat_lit 0, nat_lit 45)]
def pPle_isCounted : List Int → zE → Prop := (fun _ η => G_le η)
def oQle_isCounted : List Int → zE → Int → zE → Prop := fun _ _ y η' => (¬ y = 0 → H_l 1 0 0 η') ∧ (y = 0 → G_l η')
def fQle_isCounted : List Int → zE → Int → zE → Prop := fun xs η y η' => y = (yq_cny η) ∧ η' = (yq_cns η)
def pQle_isCounted : List Int → zE → Int → zE → Prop := fun xs η y η' => oQle_isCounted xs η y η' ∧ fQle_isCounted xs η y η'
def pCle_isCounted : Nat → List Int → zE → Prop := fun c => match c with
  | 0 => pPle_wrong
  | _ => fun _ _ => True
def qCle_isCounted : Nat → List Int → zE → Int → zE → Prop := fun c => match c with
  | 0 => pQle_wrong
  | _ => fun _ _ _ _ => True
def iCle_isCounted : List Int → zE → Nat → List Int → zE → Prop := fun xs η0 c => match c with
  | _ => fun _ _ => True
def zVle_isCounted : List zIv := []
def zDle_isCounted : List (List zK) := [[(nat_lit 7, nat_lit 2, [(nat_lit 0, (.ofNat (nat_lit 1)))]), (nat_lit 5, nat_lit 0, [(nat_lit 0, (.ofNat (nat_lit 0))), (nat_lit 0, (.ofNat (nat_lit 44))), (nat_lit 3, (.ofNat (nat_lit 0)))]), (nat_lit 0, nat_lit 1, [(nat_lit 2, (.ofNat (nat_lit 0))), (nat_lit 0, (.ofNat (nat_lit 1)))]), (nat_lit 4, nat_lit 0, [(nat_lit 0, (.ofNat (nat_lit 0))), (nat_lit 0, (.ofNat (nat_lit 44)))]), (nat_lit 6, nat_lit 1, [(nat_lit 1, (.ofNat (nat_lit 0))), (nat_lit 0, (.ofNat (nat_lit 64)))]), (nat_lit 4, nat_lit 0, [(nat_lit 0, (.ofNat (nat_lit 0))), (nat_lit 0, (.ofNat (nat_lit 44)))])],
  [(nat_lit 7, nat_lit 2, [(nat_lit 2, (.ofNat (nat_lit 0)))]), (nat_lit 8, nat_lit 0, [(nat_lit 0, (.ofNat (nat_lit 2)))]), (nat_lit 6, nat_lit 0, [(nat_lit 1, (.ofNat (nat_lit 0))), (nat_lit 0, (.ofNat (nat_lit 64)))]), (nat_lit 4, nat_lit 0, [(nat_lit 0, (.ofNat (nat_lit 0))), (nat_lit 0, (.ofNat (nat_lit 44)))])]]
def zEle_isCounted : List (List zK) := [[(nat_lit 11, nat_lit 0, [(nat_lit 0, (.ofNat (nat_lit 1)))]), (nat_lit 5, nat_lit 0, [(nat_lit 0, (.ofNat (nat_lit 0))), (nat_lit 0, (.ofNat (nat_lit 44))), (nat_lit 3, (.ofNat (nat_lit 0)))]), (nat_lit 0, nat_lit 1, [(nat_lit 2, (.ofNat (nat_lit 0))), (nat_lit 0, (.ofNat (nat_lit 1)))]), (nat_lit 4, nat_lit 0, [(nat_lit 0, (.ofNat (nat_lit 0))), (nat_lit 0, (.ofNat (nat_lit 44)))]), (nat_lit 6, nat_lit 1, [(nat_lit 1, (.ofNat (nat_lit 0))), (nat_lit 0, (.ofNat (nat_lit 64)))]), (nat_lit 4, nat_lit 0, [(nat_lit 0, (.ofNat (nat_lit 0))), (nat_lit 0, (.ofNat (nat_lit 44)))])],
  [(nat_lit 13, nat_lit 0, [(nat_lit 0, (.ofNat (nat_lit 2)))]), (nat_lit 6, nat_lit 0, [(nat_lit 1, (.ofNat (nat_lit 0))), (nat_lit 0, (.ofNat (nat_lit 64)))]), (nat_lit 4, nat_lit 0, [(nat_lit 0, (.ofNat (nat_lit 0))), (nat_lit 0, (.ofNat (nat_lit 44)))])],
  [(nat_lit 11, nat_lit 0, [(nat_lit 2, (.ofNat (nat_lit 0)))]), (nat_lit 8, nat_lit 0, [(nat_lit 0, (.ofNat (nat_lit 2)))]), (nat_lit 6, nat_lit 0, [(nat_lit 1, (.ofNat (nat_lit 0))), (nat_lit 0, (.ofNat (nat_lit 64)))]), (nat_lit 4, nat_lit 0, [(nat_lit 0, (.ofNat (nat_lit 0))), (nat_lit 0, (.ofNat (nat_lit 44)))])]]
def zFle_isCounted : List (List zK) := []
set_option maxHeartbeats 8000000 in
theorem zle_isCounted {ro : Nat → List Int32} : zMet pr_P pr_K pr_df ro (sm_X0 1 6) 1 144 tm_le [(.inr (.inr (.inl (nat_lit 0))))] 2 [(nat_lit 0, nat_lit 0, nat_lit 1), (nat_lit 0, nat_lit 3, nat_lit 2), (nat_lit 0, nat_lit 20, nat_lit 3), (nat_lit 0, nat_lit 21, nat_lit 4), (nat_lit 0, nat_lit 22, nat_lit 5), (nat_lit 0, nat_lit 23, nat_lit 6), (nat_lit 0, nat_lit 24, nat_lit 7), (nat_lit 0, nat_lit 25, nat_lit 8), (nat_lit 0, nat_lit 26, nat_lit 9), (nat_lit 0, nat_lit 27, nat_lit 10), (nat_lit 0, nat_lit 28, nat_lit 11), (nat_lit 0, nat_lit 29, nat_lit 12), (nat_lit 0, nat_lit 30, nat_lit 13), (nat_lit 0, nat_lit 31, nat_lit 14), (nat_lit 0, nat_lit 32, nat_lit 15), (nat_lit 0, nat_lit 33, nat_lit 16), (nat_lit 0, nat_lit 34, nat_lit 17), (nat_lit 0, nat_lit 35, nat_lit 18), (nat_lit 0, nat_lit 36, nat_lit 19), (nat_lit 0, nat_lit 37, nat_lit 20), (nat_lit 0, nat_lit 38, nat_lit 21), (nat_lit 0, nat_lit 39, nat_lit 22), (nat_lit 0, nat_lit 40, nat_lit 23), (nat_lit 0, nat_lit 47, nat_lit 24), (nat_lit 0, nat_lit 48, nat_lit 25), (nat_lit 0, nat_lit 50, nat_lit 26), (nat_lit 0, nat_lit 51, nat_lit 27), (nat_lit 0, nat_lit 52, nat_lit 28), (nat_lit 0, nat_lit 53, nat_lit 29), (nat_lit 0, nat_lit 54, nat_lit 30), (nat_lit 0, nat_lit 55, nat_lit 31), (nat_lit 0, nat_lit 56, nat_lit 32), (nat_lit 0, nat_lit 57, nat_lit 33), (nat_lit 0, nat_lit 58, nat_lit 34), (nat_lit 0, nat_lit 59, nat_lit 35), (nat_lit 0, nat_lit 72, nat_lit 36), (nat_lit 0, nat_lit 73, nat_lit 37), (nat_lit 0, nat_lit 76, nat_lit 38), (nat_lit 0, nat_lit 77, nat_lit 39), (nat_lit 0, nat_lit 79, nat_lit 40), (nat_lit 0, nat_lit 81, nat_lit 41), (nat_lit 0, nat_lit 82, nat_lit 42)] [] (fun xs η => sP wl_le zTr zPle_isCounted xs η ∧ pPle_isCounted xs η) (fun xs η y η' => sQ wl_le zTr zOle_isCounted zMle_isCounted xs η y η' ∧ pQle_isCounted xs η y η') :=
  zmet_alt (zmea_gen (mi := (nat_lit 0, nat_lit 1, nat_lit 8, nat_lit 1, nat_lit 2, tX8_isCounted)) (cd := [(nat_lit 118, nat_lit 0, nat_lit 0, [(.inr (.inr (.inl (nat_lit 0)))), (.inl (nat_lit 1, (.ofNat (nat_lit 0))))], nat_lit 2, [(nat_lit 0, nat_lit 0, nat_lit 1), (nat_lit 0, nat_lit 3, nat_lit 2), (nat_lit 0, nat_lit 20, nat_lit 3), (nat_lit 0, nat_lit 21, nat_lit 4), (nat_lit 0, nat_lit 22, nat_lit 5), (nat_lit 0, nat_lit 23, nat_lit 6), (nat_lit 0, nat_lit 24, nat_lit 7), (nat_lit 0, nat_lit 25, nat_lit 8), (nat_lit 0, nat_lit 26, nat_lit 9), (nat_lit 0, nat_lit 27, nat_lit 10), (nat_lit 0, nat_lit 28, nat_lit 11), (nat_lit 0, nat_lit 29, nat_lit 12), (nat_lit 0, nat_lit 30, nat_lit 13), (nat_lit 0, nat_lit 31, nat_lit 14), (nat_lit 0, nat_lit 32, nat_lit 15), (nat_lit 0, nat_lit 33, nat_lit 16), (nat_lit 0, nat_lit 34, nat_lit 17), (nat_lit 0, nat_lit 35, nat_lit 18), (nat_lit 0, nat_lit 36, nat_lit 19), (nat_lit 0, nat_lit 37, nat_lit 20), (nat_lit 0, nat_lit 38, nat_lit 21), (nat_lit 0, nat_lit 39, nat_lit 22), (nat_lit 0, nat_lit 40, nat_lit 23), (nat_lit 0, nat_lit 47, nat_lit 24), (nat_lit 0, nat_lit 48, nat_lit 25), (nat_lit 0, nat_lit 50, nat_lit 26), (nat_lit 0, nat_lit 51, nat_lit 27), (nat_lit 0, nat_lit 52, nat_lit 28), (nat_lit 0, nat_lit 53, nat_lit 29), (nat_lit 0, nat_lit 54, nat_lit 30), (nat_lit 0, nat_lit 55, nat_lit 31), (nat_lit 0, nat_lit 56, nat_lit 32), (nat_lit 0, nat_lit 57, nat_lit 33), (nat_lit 0, nat_lit 58, nat_lit 34), (nat_lit 0, nat_lit 59, nat_lit 35), (nat_lit 0, nat_lit 72, nat_lit 36), (nat_lit 0, nat_lit 73, nat_lit 37), (nat_lit 0, nat_lit 76, nat_lit 38), (nat_lit 0, nat_lit 77, nat_lit 39), (nat_lit 0, nat_lit 79, nat_lit 40), (nat_lit 0, nat_lit 81, nat_lit 41), (nat_lit 0, nat_lit 82, nat_lit 42)], [])]) (cu := []) (cs := [(nat_lit 0, zPle_wrong, zOle_wrong, zMle_wrong)]) (iv := zVle_isCounted) (po := [zOle_isCounted]) (pr := zPle_isCounted) (mods := zMle_isCounted) (D7 := zDle_isCounted) (D0 := zEle_isCounted) (Dm := zFle_isCounted) (f0 := 16) pCle_isCounted qCle_isCounted iCle_isCounted pPle_isCounted (fun xs η _ y η' => pQle_isCounted xs η y η') zX_low pr_mtR rfl (List.forall_mem_cons.mpr ⟨zle_wrong, fun _ h => nomatch h⟩) (by decide +kernel) (by decide +kernel) (by decide +kernel)
    (by
      intro xs η hr hl hp hpp
      match xs, hl, hp, hpp with
      | [], _, hp, hpp =>
        refine List.forall_mem_cons.mpr ⟨?_, List.forall_mem_cons.mpr ⟨?_, List.forall_mem_cons.mpr ⟨?_, fun _ h => nomatch h⟩⟩⟩
        · show ∀ x1 : Int, x1 = η 0 (Int.toNat 44) → zok 0 x1 → (¬ x1 = 64) → ∀ x2 : Int, x2 = η 0 (Int.toNat 44) → zok 0 x2 → ∀ x3 : Int, x3 = zd 0 1 x2 1 → ∀ η1 : zE, η1 = zup η 0 (Int.toNat 44) x3 → (fun (_ : Nat) (y : Int) (η' : zE) => pQle_isCounted [] η y η') 0 1 η1
          intro x1 e1 r1 c1 x2 e2 r2 x3 e3 η1 eη1
          refine yj_a ?_ ?_
          · obtain ⟨j1, j2, j3, j4⟩ := hpp.2
            replace e3 := zEq_i e3
            have w0_0_44 : (0 : Int) ≤ η 0 44 ∧ η 0 44 ≤ 64 := wf_ok (a := 44) (b := 44) (z := (0, 64)) hp.1 (by decide +kernel) (Nat.le_refl _) (Nat.le_refl _)
            replace e1 : x1 = η 0 44 := e1
            replace r1 : -2147483648 ≤ x1 ∧ x1 ≤ 2147483647 := r1
            replace e2 : x2 = η 0 44 := e2
            replace r2 : -2147483648 ≤ x2 ∧ x2 ≤ 2147483647 := r2
            first
            | replace e3 : x3 = x2 + 1 := zd_a2 (zEq_o e3) (by clear e3; exact ⟨by omega, by omega⟩)
            | clear e3
            have c0_0_44 : η 0 44 = η 0 44 := rfl
            have fm1 : zFm zMle_isCounted η η1 := by rw [eη1]; exact zFm_up zFm_rf rfl
            have fmE : zFm zMle_isCounted η η1 := fm1
            have fr22_0 : ∀ j, η 22 j = η 22 j := fun _ => rfl
            have v1 : ∀ j, η1 22 j = η 22 j := fun j => by rw [eη1]; exact zup_ne (fun e _ => absurd e (by decide))
            have fr22_1 : ∀ j, η1 22 j = η 22 j := v1
            have fr22 : ∀ j, η1 22 j = η 22 j := v1
            have v3 : zEq (η1 0 41) (η 0 41) := by rw [eη1]; exact (zup_ne (fun _ e => absurd e (by decide))).trans rfl
            have f0_41 : η1 0 41 = η 0 41 := v3
            have w0_0_43 : (0 : Int) ≤ η 0 43 ∧ η 0 43 ≤ 8 := wf_ok (a := 43) (b := 43) (z := (0, 8)) hp.1 (by decide +kernel) (Nat.le_refl _) (Nat.le_refl _)
            have v5 : zEq (η1 0 43) (η 0 43) := by rw [eη1]; exact (zup_ne (fun _ e => absurd e (by decide))).trans rfl
            have f0_43 : η1 0 43 = η 0 43 := v5
            have v7 : zEq (η1 0 42) (η 0 42) := by rw [eη1]; exact (zup_ne (fun _ e => absurd e (by decide))).trans rfl
            have f0_42 : η1 0 42 = η 0 42 := v7
            have v9 : zEq (η1 0 45) (η 0 45) := by rw [eη1]; exact (zup_ne (fun _ e => absurd e (by decide))).trans rfl
            have f0_45 : η1 0 45 = η 0 45 := v9
            have w0_0_19 : (0 : Int) ≤ η 0 19 ∧ η 0 19 ≤ 64 := wf_ok (a := 19) (b := 19) (z := (0, 64)) hp.1 (by decide +kernel) (Nat.le_refl _) (Nat.le_refl _)
            have v11 : zEq (η1 0 19) (η 0 19) := by rw [eη1]; exact (zup_ne (fun _ e => absurd e (by decide))).trans rfl
            have f0_19 : η1 0 19 = η 0 19 := v11
            have v12 : zEq (η1 0 44) (x3) := by rw [eη1]; exact zup_eq
            have f0_44 : η1 0 44 = x3 := v12
            have cw := cz_below (η := η) (η' := η1) (η 0 41).toNat (fun j _ => fr22 j)
            have HG := hpp.1
            exact ⟨fun _ => h_w (zGk_fm2 g0k_l HG fmE (by decide +kernel)) f0_41 f0_43 f0_42 f0_45 f0_19 f0_44 ⟨by omega, by apply Int.le_antisymm <;> omega, by apply Int.le_antisymm <;> omega, by apply Int.le_antisymm <;> omega⟩, fun w => absurd w (by decide)⟩
          · have e1 : x1 = η 0 44 := e1
            have e2 : x2 = η 0 44 := e2
            have f2 : x1 = x2 := e1.trans e2.symm
            subst f2
            have e3 : x3 = zd 0 1 x1 1 := e3
            have eη1 : η1 = zup η 0 44 x3 := eη1
            show 1 = (yq_cny η) ∧ η1 = (yq_cns η)
            simp only [yq_cns, yq_cny, yq_inc, ← e1, ← e3, ← eη1]
            all_goals clear e3
            all_goals ((repeat' split) <;> first | (exfalso; omega) | exact ⟨rfl, rfl⟩ | rfl)
        · show ∀ x1 : Int, x1 = η 0 (Int.toNat 44) → zok 0 x1 → (x1 = 64) → ((gC2 wl_le [(nat_lit 0, zPle_wrong, zOle_wrong, zMle_wrong)] pCle_isCounted qCle_isCounted) 0).1 [2] η
          intro x1 e1 r1 c1
          exact hpp
        · show ∀ x1 : Int, x1 = η 0 (Int.toNat 44) → zok 0 x1 → (x1 = 64) → ∀ (x2 : Int) (η1 : zE), ((gC2 wl_le [(nat_lit 0, zPle_wrong, zOle_wrong, zMle_wrong)] pCle_isCounted qCle_isCounted) 0).2 [2] η x2 η1 → (fun (_ : Nat) (y : Int) (η' : zE) => pQle_isCounted [] η y η') 0 x2 η1
          intro x1 e1 r1 c1 x2 η1 h2
          have y2 : fQle_wrong [2] η x2 η1 := h2.2.2
          have k2 : sQ wl_le zTr zOle_wrong zMle_wrong [2] η x2 η1 ∧ oQle_wrong [2] η x2 η1 := ⟨h2.1, h2.2.1⟩
          refine yj_a ?_ ?_
          · have y2 : fQle_wrong [2] η x2 η1 := h2.2.2
            have k2 : sQ wl_le zTr zOle_wrong zMle_wrong [2] η x2 η1 ∧ oQle_wrong [2] η x2 η1 := ⟨h2.1, h2.2.1⟩
            have w0_0_44 : (0 : Int) ≤ η 0 44 ∧ η 0 44 ≤ 64 := wf_ok (a := 44) (b := 44) (z := (0, 64)) hp.1 (by decide +kernel) (Nat.le_refl _) (Nat.le_refl _)
            replace e1 : x1 = η 0 44 := e1
            replace r1 : -2147483648 ≤ x1 ∧ x1 ≤ 2147483647 := r1
            have c0_0_41 : η 0 41 = η 0 41 := rfl
            have w0_0_43 : (0 : Int) ≤ η 0 43 ∧ η 0 43 ≤ 8 := wf_ok (a := 43) (b := 43) (z := (0, 8)) hp.1 (by decide +kernel) (Nat.le_refl _) (Nat.le_refl _)
            have c0_0_43 : η 0 43 = η 0 43 := rfl
            have c0_0_42 : η 0 42 = η 0 42 := rfl
            have c0_0_45 : η 0 45 = η 0 45 := rfl
            have w0_0_19 : (0 : Int) ≤ η 0 19 ∧ η 0 19 ≤ 64 := wf_ok (a := 19) (b := 19) (z := (0, 64)) hp.1 (by decide +kernel) (Nat.le_refl _) (Nat.le_refl _)
            have c0_0_19 : η 0 19 = η 0 19 := rfl
            have c0_0_44 : η 0 44 = η 0 44 := rfl
            have bx2 : (0 : Int) ≤ x2 ∧ x2 ≤ 0 := k2.1.2.1
            have fm1 : zFm zMle_isCounted η η1 := zFm_tr2 zFm_rf k2.1.2.2.2.1 (by decide +kernel)
            have fmE : zFm zMle_isCounted η η1 := fm1
            have fr22_0 : ∀ j, η 22 j = η 22 j := fun _ => rfl
            have v6 : ∀ j, η1 22 j = η 22 j := fun j => k2.1.2.2.2.1 22 _ (zinr_not (by decide +kernel))
            have fr22_1 : ∀ j, η1 22 j = η 22 j := v6
            have fr22 : ∀ j, η1 22 j = η 22 j := v6
            have v7 : zEq (η1 0 41) (η 0 41) := (k2.1.2.2.2.1 0 41 (by decide +kernel)).trans rfl
            have f0_41 : η1 0 41 = η 0 41 := v7
            have v8 : zEq (η1 0 43) (η 0 43) := (k2.1.2.2.2.1 0 43 (by decide +kernel)).trans rfl
            have f0_43 : η1 0 43 = η 0 43 := v8
            have v9 : zEq (η1 0 42) (η 0 42) := (k2.1.2.2.2.1 0 42 (by decide +kernel)).trans rfl
            have f0_42 : η1 0 42 = η 0 42 := v9
            have v10 : zEq (η1 0 45) (η 0 45) := (k2.1.2.2.2.1 0 45 (by decide +kernel)).trans rfl
            have f0_45 : η1 0 45 = η 0 45 := v10
            have v11 : zEq (η1 0 19) (η 0 19) := (k2.1.2.2.2.1 0 19 (by decide +kernel)).trans rfl
            have f0_19 : η1 0 19 = η 0 19 := v11
            have v12 : zEq (η1 0 44) (η 0 44) := (k2.1.2.2.2.1 0 44 (by decide +kernel)).trans rfl
            have f0_44 : η1 0 44 = η 0 44 := v12
            exact ⟨fun w => absurd (show x2 = 0 by omega) w, fun _ => k2.2⟩
          · have e1 : x1 = η 0 44 := e1
            obtain ⟨a2, b2⟩ : x2 = 0 ∧ η1 = (yq_wr 2 η) := y2
            show x2 = (yq_cny η) ∧ η1 = (yq_cns η)
            simp only [yq_cns, yq_cny, yq_inc, ← e1, ← b2, a2]
            all_goals ((repeat' split) <;> first | (exfalso; omega) | exact ⟨rfl, rfl⟩ | rfl)
      )
    (fun _ _ _ _ _ _ _ h => nomatch h)
    (fun _ h => nomatch h))
def zPle_waitsFor0 : zPq := ([], [])
def zOle_waitsFor0 : zPo := (((.ofNat (nat_lit 0)), (.ofNat (nat_lit 0))), [], [])
def zMle_waitsFor0 : List zCe := [(nat_lit 0, nat_lit 42), (nat_lit 22, nat_lit 0)]
def pPle_waitsFor0 : List Int → zE → Prop := fun _ η => H_l 0 1 0 η
def oQle_waitsFor0 : List Int → zE → Int → zE → Prop := (fun _ _ _ η' => G_le η')
def fQle_waitsFor0 : List Int → zE → Int → zE → Prop := fun xs η y η' => η' = (yq_wai 0 η)
def pQle_waitsFor0 : List Int → zE → Int → zE → Prop := fun xs η y η' => oQle_waitsFor0 xs η y η' ∧ fQle_waitsFor0 xs η y η'
def pCle_waitsFor0 : Nat → List Int → zE → Prop := fun c => match c with
  | _ => fun _ _ => True
def qCle_waitsFor0 : Nat → List Int → zE → Int → zE → Prop := fun c => match c with
  | _ => fun _ _ _ _ => True
def iCle_waitsFor0 : List Int → zE → Nat → List Int → zE → Prop := fun xs η0 c => match c with
  | _ => fun _ _ => True
def zVle_waitsFor0 : List zIv := []
def zDle_waitsFor0 : List (List zK) := []
def zEle_waitsFor0 : List (List zK) := []
def zFle_waitsFor0 : List (List zK) := [[(nat_lit 7, nat_lit 0, [(nat_lit 1, (.ofNat (nat_lit 0))), (nat_lit 0, (.ofNat (nat_lit 96)))]), (nat_lit 4, nat_lit 0, [(nat_lit 0, (.ofNat (nat_lit 0))), (nat_lit 0, (.ofNat (nat_lit 41)))])],
  [(nat_lit 11, nat_lit 0, [(nat_lit 0, (.ofNat (nat_lit 0)))]), (nat_lit 5, nat_lit 0, [(nat_lit 0, (.ofNat (nat_lit 0))), (nat_lit 0, (.ofNat (nat_lit 41))), (nat_lit 3, (.ofNat (nat_lit 0)))]), (nat_lit 0, nat_lit 1, [(nat_lit 2, (.ofNat (nat_lit 0))), (nat_lit 0, (.ofNat (nat_lit 1)))]), (nat_lit 4, nat_lit 0, [(nat_lit 0, (.ofNat (nat_lit 0))), (nat_lit 0, (.ofNat (nat_lit 41)))]), (nat_lit 5, nat_lit 0, [(nat_lit 22, (.ofNat (nat_lit 0))), (nat_lit 1, (.ofNat (nat_lit 0))), (nat_lit 0, (.ofNat (nat_lit 0)))]), (nat_lit 4, nat_lit 0, [(nat_lit 0, (.ofNat (nat_lit 0))), (nat_lit 0, (.ofNat (nat_lit 41)))])]]
set_option maxHeartbeats 8000000 in
theorem zle_waitsFor0 {ro : Nat → List Int32} : zMet pr_P pr_K pr_df ro (sm_X0 1 6) 0 145 tm_le [(.inr (.inr (.inl (nat_lit 0)))), (.inl (nat_lit 0, (.ofNat (nat_lit 0))))] 0 [(nat_lit 0, nat_lit 0, nat_lit 1), (nat_lit 0, nat_lit 3, nat_lit 2), (nat_lit 0, nat_lit 20, nat_lit 3), (nat_lit 0, nat_lit 21, nat_lit 4), (nat_lit 0, nat_lit 22, nat_lit 5), (nat_lit 0, nat_lit 23, nat_lit 6), (nat_lit 0, nat_lit 24, nat_lit 7), (nat_lit 0, nat_lit 25, nat_lit 8), (nat_lit 0, nat_lit 26, nat_lit 9), (nat_lit 0, nat_lit 27, nat_lit 10), (nat_lit 0, nat_lit 28, nat_lit 11), (nat_lit 0, nat_lit 29, nat_lit 12), (nat_lit 0, nat_lit 30, nat_lit 13), (nat_lit 0, nat_lit 31, nat_lit 14), (nat_lit 0, nat_lit 32, nat_lit 15), (nat_lit 0, nat_lit 33, nat_lit 16), (nat_lit 0, nat_lit 34, nat_lit 17), (nat_lit 0, nat_lit 35, nat_lit 18), (nat_lit 0, nat_lit 36, nat_lit 19), (nat_lit 0, nat_lit 37, nat_lit 20), (nat_lit 0, nat_lit 38, nat_lit 21), (nat_lit 0, nat_lit 39, nat_lit 22), (nat_lit 0, nat_lit 40, nat_lit 23), (nat_lit 0, nat_lit 47, nat_lit 24), (nat_lit 0, nat_lit 48, nat_lit 25), (nat_lit 0, nat_lit 50, nat_lit 26), (nat_lit 0, nat_lit 51, nat_lit 27), (nat_lit 0, nat_lit 52, nat_lit 28), (nat_lit 0, nat_lit 53, nat_lit 29), (nat_lit 0, nat_lit 54, nat_lit 30), (nat_lit 0, nat_lit 55, nat_lit 31), (nat_lit 0, nat_lit 56, nat_lit 32), (nat_lit 0, nat_lit 57, nat_lit 33), (nat_lit 0, nat_lit 58, nat_lit 34), (nat_lit 0, nat_lit 59, nat_lit 35), (nat_lit 0, nat_lit 72, nat_lit 36), (nat_lit 0, nat_lit 73, nat_lit 37), (nat_lit 0, nat_lit 76, nat_lit 38), (nat_lit 0, nat_lit 77, nat_lit 39), (nat_lit 0, nat_lit 79, nat_lit 40), (nat_lit 0, nat_lit 81, nat_lit 41), (nat_lit 0, nat_lit 82, nat_lit 42)] [] (fun xs η => sP wl_le zTr zPle_waitsFor0 xs η ∧ pPle_waitsFor0 xs η) (fun xs η y η' => sQ wl_le zTr zOle_waitsFor0 zMle_waitsFor0 xs η y η' ∧ pQle_waitsFor0 xs η y η') :=
  zmet_alt (zmea_gen (mi := (nat_lit 1, nat_lit 1, nat_lit 8, nat_lit 2, nat_lit 0, tX8_waitsFor)) (cd := []) (cu := []) (cs := []) (iv := zVle_waitsFor0) (po := [zOle_waitsFor0]) (pr := zPle_waitsFor0) (mods := zMle_waitsFor0) (D7 := zDle_waitsFor0) (D0 := zEle_waitsFor0) (Dm := zFle_waitsFor0) (f0 := 17) pCle_waitsFor0 qCle_waitsFor0 iCle_waitsFor0 pPle_waitsFor0 (fun xs η _ y η' => pQle_waitsFor0 xs η y η') zX_low pr_mtR rfl (fun _ h => nomatch h) (by decide +kernel) (by decide +kernel) (by decide +kernel)
    (fun _ _ _ _ _ _ _ h => nomatch h)
    (by
      intro xs η hr hl hp hpp
      match xs, hl, hp, hpp with
      | [], _, hp, hpp =>
        refine List.forall_mem_cons.mpr ⟨?_, List.forall_mem_cons.mpr ⟨?_, fun _ h => nomatch h⟩⟩
        · show ∀ x1 : Int, x1 = η 0 (Int.toNat 41) → zok 0 x1 → (0 : Int) ≤ x1 ∧ (x1 : Int) < 96
          obtain ⟨j1, j2, j3, j4⟩ := hpp.2
          have cn := cz_n (η := η) (η 0 41).toNat
          have bd43 : (0 : Int) ≤ η 0 43 ∧ η 0 43 ≤ 8 := wf_ok (a := 43) (b := 43) (z := (0, 8)) hp.1 (by decide +kernel) (Nat.le_refl _) (Nat.le_refl _)
          have bd44 : (0 : Int) ≤ η 0 44 ∧ η 0 44 ≤ 64 := wf_ok (a := 44) (b := 44) (z := (0, 64)) hp.1 (by decide +kernel) (Nat.le_refl _) (Nat.le_refl _)
          have bd19 : (0 : Int) ≤ η 0 19 ∧ η 0 19 ≤ 64 := wf_ok (a := 19) (b := 19) (z := (0, 64)) hp.1 (by decide +kernel) (Nat.le_refl _) (Nat.le_refl _)
          intro x1 e1 r1
          replace e1 : x1 = η 0 41 := e1
          replace r1 : -2147483648 ≤ x1 ∧ x1 ≤ 2147483647 := r1
          have fmE : zFm zMle_waitsFor0 η η := zFm_rf
          have fr22_0 : ∀ j, η 22 j = η 22 j := fun _ => rfl
          have fr22 : ∀ j, η 22 j = η 22 j := fun _ => rfl
          have f0_41 : η 0 41 = η 0 41 := rfl
          have w0_0_43 : (0 : Int) ≤ η 0 43 ∧ η 0 43 ≤ 8 := wf_ok (a := 43) (b := 43) (z := (0, 8)) hp.1 (by decide +kernel) (Nat.le_refl _) (Nat.le_refl _)
          have f0_43 : η 0 43 = η 0 43 := rfl
          have f0_42 : η 0 42 = η 0 42 := rfl
          have f0_45 : η 0 45 = η 0 45 := rfl
          have w0_0_19 : (0 : Int) ≤ η 0 19 ∧ η 0 19 ≤ 64 := wf_ok (a := 19) (b := 19) (z := (0, 64)) hp.1 (by decide +kernel) (Nat.le_refl _) (Nat.le_refl _)
          have f0_19 : η 0 19 = η 0 19 := rfl
          have w0_0_44 : (0 : Int) ≤ η 0 44 ∧ η 0 44 ≤ 64 := wf_ok (a := 44) (b := 44) (z := (0, 64)) hp.1 (by decide +kernel) (Nat.le_refl _) (Nat.le_refl _)
          have f0_44 : η 0 44 = η 0 44 := rfl
          exact ⟨by omega, by omega⟩
        · show ∀ x1 : Int, x1 = η 0 (Int.toNat 41) → zok 0 x1 → ∀ η1 : zE, η1 = zup η 22 (Int.toNat x1) 0 → ∀ x2 : Int, x2 = η1 0 (Int.toNat 41) → zok 0 x2 → ∀ x3 : Int, x3 = zd 0 1 x2 1 → ∀ η2 : zE, η2 = zup η1 0 (Int.toNat 41) x3 → (fun j y η1 => zsQ wl_le zTr [zOle_waitsFor0] zMle_waitsFor0 [] η j y η1 ∧ pQle_waitsFor0 [] η y η1) 0 0 η2
          intro x1 e1 r1 η1 eη1 x2 e2 r2 x3 e3 η2 eη2
          refine yj_b ?_ ?_
          · obtain ⟨j1, j2, j3, j4⟩ := hpp.2
            have cn := cz_n (η := η) (η 0 41).toNat
            have bd43 : (0 : Int) ≤ η 0 43 ∧ η 0 43 ≤ 8 := wf_ok (a := 43) (b := 43) (z := (0, 8)) hp.1 (by decide +kernel) (Nat.le_refl _) (Nat.le_refl _)
            have bd44 : (0 : Int) ≤ η 0 44 ∧ η 0 44 ≤ 64 := wf_ok (a := 44) (b := 44) (z := (0, 64)) hp.1 (by decide +kernel) (Nat.le_refl _) (Nat.le_refl _)
            have bd19 : (0 : Int) ≤ η 0 19 ∧ η 0 19 ≤ 64 := wf_ok (a := 19) (b := 19) (z := (0, 64)) hp.1 (by decide +kernel) (Nat.le_refl _) (Nat.le_refl _)
            replace e3 := zEq_i e3
            replace e1 : x1 = η 0 41 := e1
            replace r1 : -2147483648 ≤ x1 ∧ x1 ≤ 2147483647 := r1
            have wb1 : wB wl_le zTr η1 := by rw [eη1]; exact wk_ok (a := 0) (b := 95) (z := (0, 14)) zTr_k (GR := []) hp.1 (by decide +kernel) (by omega) (by omega) (show (0 : Int) ≤ 0 by omega) (show 0 ≤ (14 : Int) by omega)
            have v1 : zEq (η1 0 41) (η 0 41) := by rw [eη1]; exact (zup_ne (fun e _ => absurd e (by decide))).trans rfl
            replace e2 : x2 = η 0 41 := e2.trans v1
            replace r2 : -2147483648 ≤ x2 ∧ x2 ≤ 2147483647 := r2
            first
            | replace e3 : x3 = x2 + 1 := zd_a2 (zEq_o e3) (by clear e3; exact ⟨by omega, by omega⟩)
            | clear e3
            have c1_0_41 : η1 0 41 = η 0 41 := v1
            have wb2 : wB wl_le zTr η2 := by rw [eη2]; exact wk_ok (a := 41) (b := 41) (z := ((-2147483648), 2147483647)) zTr_k (GR := []) wb1 (by decide +kernel) (by decide) (by decide) (show ((-2147483648) : Int) ≤ x3 by omega) (show x3 ≤ (2147483647 : Int) by omega)
            have fm1 : zFm zMle_waitsFor0 η η1 := by rw [eη1]; exact zFm_up zFm_rf (zin2_of (q := (22, 0)) (by decide) rfl (Or.inl rfl))
            have fm2 : zFm zMle_waitsFor0 η η2 := by rw [eη2]; exact zFm_up fm1 rfl
            have fmE : zFm zMle_waitsFor0 η η2 := fm2
            have fr22_0 : ∀ j, η 22 j = η 22 j := fun _ => rfl
            have fr22_1 : ∀ j, η1 22 j = η1 22 j := fun _ => rfl
            have v3 : ∀ j, η2 22 j = η1 22 j := fun j => by rw [eη2]; exact zup_ne (fun e _ => absurd e (by decide))
            have fr22_2 : ∀ j, η2 22 j = η1 22 j := v3
            have fr22 : ∀ j, η2 22 j = η1 22 j := v3
            have v4 : zEq (η2 0 41) (x3) := by rw [eη2]; exact zup_eq
            have f0_41 : η2 0 41 = x3 := v4
            have w0_0_43 : (0 : Int) ≤ η 0 43 ∧ η 0 43 ≤ 8 := wf_ok (a := 43) (b := 43) (z := (0, 8)) hp.1 (by decide +kernel) (Nat.le_refl _) (Nat.le_refl _)
            have v6 : zEq (η1 0 43) (η 0 43) := by rw [eη1]; exact (zup_ne (fun e _ => absurd e (by decide))).trans rfl
            have v7 : zEq (η2 0 43) (η 0 43) := by rw [eη2]; exact (zup_ne (fun _ e => absurd e (by decide))).trans v6
            have f0_43 : η2 0 43 = η 0 43 := v7
            have v9 : zEq (η1 0 42) (η 0 42) := by rw [eη1]; exact (zup_ne (fun e _ => absurd e (by decide))).trans rfl
            have v10 : zEq (η2 0 42) (η 0 42) := by rw [eη2]; exact (zup_ne (fun _ e => absurd e (by decide))).trans v9
            have f0_42 : η2 0 42 = η 0 42 := v10
            have v12 : zEq (η1 0 45) (η 0 45) := by rw [eη1]; exact (zup_ne (fun e _ => absurd e (by decide))).trans rfl
            have v13 : zEq (η2 0 45) (η 0 45) := by rw [eη2]; exact (zup_ne (fun _ e => absurd e (by decide))).trans v12
            have f0_45 : η2 0 45 = η 0 45 := v13
            have w0_0_19 : (0 : Int) ≤ η 0 19 ∧ η 0 19 ≤ 64 := wf_ok (a := 19) (b := 19) (z := (0, 64)) hp.1 (by decide +kernel) (Nat.le_refl _) (Nat.le_refl _)
            have v15 : zEq (η1 0 19) (η 0 19) := by rw [eη1]; exact (zup_ne (fun e _ => absurd e (by decide))).trans rfl
            have v16 : zEq (η2 0 19) (η 0 19) := by rw [eη2]; exact (zup_ne (fun _ e => absurd e (by decide))).trans v15
            have f0_19 : η2 0 19 = η 0 19 := v16
            have w0_0_44 : (0 : Int) ≤ η 0 44 ∧ η 0 44 ≤ 64 := wf_ok (a := 44) (b := 44) (z := (0, 64)) hp.1 (by decide +kernel) (Nat.le_refl _) (Nat.le_refl _)
            have v18 : zEq (η1 0 44) (η 0 44) := by rw [eη1]; exact (zup_ne (fun e _ => absurd e (by decide))).trans rfl
            have v19 : zEq (η2 0 44) (η 0 44) := by rw [eη2]; exact (zup_ne (fun _ e => absurd e (by decide))).trans v18
            have f0_44 : η2 0 44 = η 0 44 := v19
            have wbE : wB wl_le zTr η2 := wb2
            
            rw [e1] at eη1
            have cp := cz_push0 (η := η) (w := η 0 41) (x := 0) j1 rfl
            rw [← eη1, show η 0 41 + 1 = x3 by omega] at cp
            have cq := cz_zup (η := η1) (r := 0) (j := Int.toNat 41) (x := x3) (by decide) x3.toNat
            rw [← eη2] at cq
            have HG := hpp.1
            exact ⟨⟨wbE, ⟨by decide, by decide⟩, (fun f hf => nomatch hf), fmE, fun _ _ w => nomatch w⟩, h_w (zGk_fm2 g0k_l HG fmE (by decide +kernel)) f0_41 f0_43 f0_42 f0_45 f0_19 f0_44 ⟨by omega, by apply Int.le_antisymm <;> omega, by apply Int.le_antisymm <;> omega, by apply Int.le_antisymm <;> omega⟩⟩
          · have e1 : x1 = η 0 41 := e1
            clear r1
            have eη1 : η1 = zup η 22 (Int.toNat x1) 0 := eη1
            have e2 : x2 = η1 0 41 := e2
            clear r2
            have eη2 : η2 = zup η1 0 41 x3 := eη2
            show η2 = (yq_wai 0 η)
            subst e1
            subst eη1
            subst e2
            subst e3
            subst eη2
            rfl
      )
    (fun _ h => nomatch h))
def zPle_waitsFor2 : zPq := ([], [])
def zOle_waitsFor2 : zPo := (((.ofNat (nat_lit 0)), (.ofNat (nat_lit 0))), [], [])
def zMle_waitsFor2 : List zCe := [(nat_lit 0, nat_lit 42), (nat_lit 22, nat_lit 0)]
def pPle_waitsFor2 : List Int → zE → Prop := fun _ η => H_l 1 0 0 η
def oQle_waitsFor2 : List Int → zE → Int → zE → Prop := (fun _ _ _ η' => G_le η')
def fQle_waitsFor2 : List Int → zE → Int → zE → Prop := fun xs η y η' => η' = (yq_wai 2 η)
def pQle_waitsFor2 : List Int → zE → Int → zE → Prop := fun xs η y η' => oQle_waitsFor2 xs η y η' ∧ fQle_waitsFor2 xs η y η'
def pCle_waitsFor2 : Nat → List Int → zE → Prop := fun c => match c with
  | _ => fun _ _ => True
def qCle_waitsFor2 : Nat → List Int → zE → Int → zE → Prop := fun c => match c with
  | _ => fun _ _ _ _ => True
def iCle_waitsFor2 : List Int → zE → Nat → List Int → zE → Prop := fun xs η0 c => match c with
  | _ => fun _ _ => True
def zVle_waitsFor2 : List zIv := []
def zDle_waitsFor2 : List (List zK) := []
def zEle_waitsFor2 : List (List zK) := []
def zFle_waitsFor2 : List (List zK) := [[(nat_lit 7, nat_lit 0, [(nat_lit 1, (.ofNat (nat_lit 0))), (nat_lit 0, (.ofNat (nat_lit 96)))]), (nat_lit 4, nat_lit 0, [(nat_lit 0, (.ofNat (nat_lit 0))), (nat_lit 0, (.ofNat (nat_lit 41)))])],
  [(nat_lit 11, nat_lit 0, [(nat_lit 0, (.ofNat (nat_lit 0)))]), (nat_lit 5, nat_lit 0, [(nat_lit 0, (.ofNat (nat_lit 0))), (nat_lit 0, (.ofNat (nat_lit 41))), (nat_lit 3, (.ofNat (nat_lit 0)))]), (nat_lit 0, nat_lit 1, [(nat_lit 2, (.ofNat (nat_lit 0))), (nat_lit 0, (.ofNat (nat_lit 1)))]), (nat_lit 4, nat_lit 0, [(nat_lit 0, (.ofNat (nat_lit 0))), (nat_lit 0, (.ofNat (nat_lit 41)))]), (nat_lit 5, nat_lit 0, [(nat_lit 22, (.ofNat (nat_lit 0))), (nat_lit 1, (.ofNat (nat_lit 0))), (nat_lit 0, (.ofNat (nat_lit 2)))]), (nat_lit 4, nat_lit 0, [(nat_lit 0, (.ofNat (nat_lit 0))), (nat_lit 0, (.ofNat (nat_lit 41)))])]]
set_option maxHeartbeats 8000000 in
theorem zle_waitsFor2 {ro : Nat → List Int32} : zMet pr_P pr_K pr_df ro (sm_X0 1 6) 0 145 tm_le [(.inr (.inr (.inl (nat_lit 0)))), (.inl (nat_lit 0, (.ofNat (nat_lit 2))))] 0 [(nat_lit 0, nat_lit 0, nat_lit 1), (nat_lit 0, nat_lit 3, nat_lit 2), (nat_lit 0, nat_lit 20, nat_lit 3), (nat_lit 0, nat_lit 21, nat_lit 4), (nat_lit 0, nat_lit 22, nat_lit 5), (nat_lit 0, nat_lit 23, nat_lit 6), (nat_lit 0, nat_lit 24, nat_lit 7), (nat_lit 0, nat_lit 25, nat_lit 8), (nat_lit 0, nat_lit 26, nat_lit 9), (nat_lit 0, nat_lit 27, nat_lit 10), (nat_lit 0, nat_lit 28, nat_lit 11), (nat_lit 0, nat_lit 29, nat_lit 12), (nat_lit 0, nat_lit 30, nat_lit 13), (nat_lit 0, nat_lit 31, nat_lit 14), (nat_lit 0, nat_lit 32, nat_lit 15), (nat_lit 0, nat_lit 33, nat_lit 16), (nat_lit 0, nat_lit 34, nat_lit 17), (nat_lit 0, nat_lit 35, nat_lit 18), (nat_lit 0, nat_lit 36, nat_lit 19), (nat_lit 0, nat_lit 37, nat_lit 20), (nat_lit 0, nat_lit 38, nat_lit 21), (nat_lit 0, nat_lit 39, nat_lit 22), (nat_lit 0, nat_lit 40, nat_lit 23), (nat_lit 0, nat_lit 47, nat_lit 24), (nat_lit 0, nat_lit 48, nat_lit 25), (nat_lit 0, nat_lit 50, nat_lit 26), (nat_lit 0, nat_lit 51, nat_lit 27), (nat_lit 0, nat_lit 52, nat_lit 28), (nat_lit 0, nat_lit 53, nat_lit 29), (nat_lit 0, nat_lit 54, nat_lit 30), (nat_lit 0, nat_lit 55, nat_lit 31), (nat_lit 0, nat_lit 56, nat_lit 32), (nat_lit 0, nat_lit 57, nat_lit 33), (nat_lit 0, nat_lit 58, nat_lit 34), (nat_lit 0, nat_lit 59, nat_lit 35), (nat_lit 0, nat_lit 72, nat_lit 36), (nat_lit 0, nat_lit 73, nat_lit 37), (nat_lit 0, nat_lit 76, nat_lit 38), (nat_lit 0, nat_lit 77, nat_lit 39), (nat_lit 0, nat_lit 79, nat_lit 40), (nat_lit 0, nat_lit 81, nat_lit 41), (nat_lit 0, nat_lit 82, nat_lit 42)] [] (fun xs η => sP wl_le zTr zPle_waitsFor2 xs η ∧ pPle_waitsFor2 xs η) (fun xs η y η' => sQ wl_le zTr zOle_waitsFor2 zMle_waitsFor2 xs η y η' ∧ pQle_waitsFor2 xs η y η') :=
  zmet_alt (zmea_gen (mi := (nat_lit 1, nat_lit 1, nat_lit 8, nat_lit 2, nat_lit 0, tX8_waitsFor)) (cd := []) (cu := []) (cs := []) (iv := zVle_waitsFor2) (po := [zOle_waitsFor2]) (pr := zPle_waitsFor2) (mods := zMle_waitsFor2) (D7 := zDle_waitsFor2) (D0 := zEle_waitsFor2) (Dm := zFle_waitsFor2) (f0 := 17) pCle_waitsFor2 qCle_waitsFor2 iCle_waitsFor2 pPle_waitsFor2 (fun xs η _ y η' => pQle_waitsFor2 xs η y η') zX_low pr_mtR rfl (fun _ h => nomatch h) (by decide +kernel) (by decide +kernel) (by decide +kernel)
    (fun _ _ _ _ _ _ _ h => nomatch h)
    (by
      intro xs η hr hl hp hpp
      match xs, hl, hp, hpp with
      | [], _, hp, hpp =>
        refine List.forall_mem_cons.mpr ⟨?_, List.forall_mem_cons.mpr ⟨?_, fun _ h => nomatch h⟩⟩
        · show ∀ x1 : Int, x1 = η 0 (Int.toNat 41) → zok 0 x1 → (0 : Int) ≤ x1 ∧ (x1 : Int) < 96
          obtain ⟨j1, j2, j3, j4⟩ := hpp.2
          have cn := cz_n (η := η) (η 0 41).toNat
          have bd43 : (0 : Int) ≤ η 0 43 ∧ η 0 43 ≤ 8 := wf_ok (a := 43) (b := 43) (z := (0, 8)) hp.1 (by decide +kernel) (Nat.le_refl _) (Nat.le_refl _)
          have bd44 : (0 : Int) ≤ η 0 44 ∧ η 0 44 ≤ 64 := wf_ok (a := 44) (b := 44) (z := (0, 64)) hp.1 (by decide +kernel) (Nat.le_refl _) (Nat.le_refl _)
          have bd19 : (0 : Int) ≤ η 0 19 ∧ η 0 19 ≤ 64 := wf_ok (a := 19) (b := 19) (z := (0, 64)) hp.1 (by decide +kernel) (Nat.le_refl _) (Nat.le_refl _)
          intro x1 e1 r1
          replace e1 : x1 = η 0 41 := e1
          replace r1 : -2147483648 ≤ x1 ∧ x1 ≤ 2147483647 := r1
          have fmE : zFm zMle_waitsFor2 η η := zFm_rf
          have fr22_0 : ∀ j, η 22 j = η 22 j := fun _ => rfl
          have fr22 : ∀ j, η 22 j = η 22 j := fun _ => rfl
          have f0_41 : η 0 41 = η 0 41 := rfl
          have w0_0_43 : (0 : Int) ≤ η 0 43 ∧ η 0 43 ≤ 8 := wf_ok (a := 43) (b := 43) (z := (0, 8)) hp.1 (by decide +kernel) (Nat.le_refl _) (Nat.le_refl _)
          have f0_43 : η 0 43 = η 0 43 := rfl
          have f0_42 : η 0 42 = η 0 42 := rfl
          have f0_45 : η 0 45 = η 0 45 := rfl
          have w0_0_19 : (0 : Int) ≤ η 0 19 ∧ η 0 19 ≤ 64 := wf_ok (a := 19) (b := 19) (z := (0, 64)) hp.1 (by decide +kernel) (Nat.le_refl _) (Nat.le_refl _)
          have f0_19 : η 0 19 = η 0 19 := rfl
          have w0_0_44 : (0 : Int) ≤ η 0 44 ∧ η 0 44 ≤ 64 := wf_ok (a := 44) (b := 44) (z := (0, 64)) hp.1 (by decide +kernel) (Nat.le_refl _) (Nat.le_refl _)
          have f0_44 : η 0 44 = η 0 44 := rfl
          exact ⟨by omega, by omega⟩
        · show ∀ x1 : Int, x1 = η 0 (Int.toNat 41) → zok 0 x1 → ∀ η1 : zE, η1 = zup η 22 (Int.toNat x1) 2 → ∀ x2 : Int, x2 = η1 0 (Int.toNat 41) → zok 0 x2 → ∀ x3 : Int, x3 = zd 0 1 x2 1 → ∀ η2 : zE, η2 = zup η1 0 (Int.toNat 41) x3 → (fun j y η1 => zsQ wl_le zTr [zOle_waitsFor2] zMle_waitsFor2 [] η j y η1 ∧ pQle_waitsFor2 [] η y η1) 0 0 η2
          intro x1 e1 r1 η1 eη1 x2 e2 r2 x3 e3 η2 eη2
          refine yj_b ?_ ?_
          · obtain ⟨j1, j2, j3, j4⟩ := hpp.2
            have cn := cz_n (η := η) (η 0 41).toNat
            have bd43 : (0 : Int) ≤ η 0 43 ∧ η 0 43 ≤ 8 := wf_ok (a := 43) (b := 43) (z := (0, 8)) hp.1 (by decide +kernel) (Nat.le_refl _) (Nat.le_refl _)
            have bd44 : (0 : Int) ≤ η 0 44 ∧ η 0 44 ≤ 64 := wf_ok (a := 44) (b := 44) (z := (0, 64)) hp.1 (by decide +kernel) (Nat.le_refl _) (Nat.le_refl _)
            have bd19 : (0 : Int) ≤ η 0 19 ∧ η 0 19 ≤ 64 := wf_ok (a := 19) (b := 19) (z := (0, 64)) hp.1 (by decide +kernel) (Nat.le_refl _) (Nat.le_refl _)
            replace e3 := zEq_i e3
            replace e1 : x1 = η 0 41 := e1
            replace r1 : -2147483648 ≤ x1 ∧ x1 ≤ 2147483647 := r1
            have wb1 : wB wl_le zTr η1 := by rw [eη1]; exact wk_ok (a := 0) (b := 95) (z := (0, 14)) zTr_k (GR := []) hp.1 (by decide +kernel) (by omega) (by omega) (show (0 : Int) ≤ 2 by omega) (show 2 ≤ (14 : Int) by omega)
            have v1 : zEq (η1 0 41) (η 0 41) := by rw [eη1]; exact (zup_ne (fun e _ => absurd e (by decide))).trans rfl
            replace e2 : x2 = η 0 41 := e2.trans v1
            replace r2 : -2147483648 ≤ x2 ∧ x2 ≤ 2147483647 := r2
            first
            | replace e3 : x3 = x2 + 1 := zd_a2 (zEq_o e3) (by clear e3; exact ⟨by omega, by omega⟩)
            | clear e3
            have c1_0_41 : η1 0 41 = η 0 41 := v1
            have wb2 : wB wl_le zTr η2 := by rw [eη2]; exact wk_ok (a := 41) (b := 41) (z := ((-2147483648), 2147483647)) zTr_k (GR := []) wb1 (by decide +kernel) (by decide) (by decide) (show ((-2147483648) : Int) ≤ x3 by omega) (show x3 ≤ (2147483647 : Int) by omega)
            have fm1 : zFm zMle_waitsFor2 η η1 := by rw [eη1]; exact zFm_up zFm_rf (zin2_of (q := (22, 0)) (by decide) rfl (Or.inl rfl))
            have fm2 : zFm zMle_waitsFor2 η η2 := by rw [eη2]; exact zFm_up fm1 rfl
            have fmE : zFm zMle_waitsFor2 η η2 := fm2
            have fr22_0 : ∀ j, η 22 j = η 22 j := fun _ => rfl
            have fr22_1 : ∀ j, η1 22 j = η1 22 j := fun _ => rfl
            have v3 : ∀ j, η2 22 j = η1 22 j := fun j => by rw [eη2]; exact zup_ne (fun e _ => absurd e (by decide))
            have fr22_2 : ∀ j, η2 22 j = η1 22 j := v3
            have fr22 : ∀ j, η2 22 j = η1 22 j := v3
            have v4 : zEq (η2 0 41) (x3) := by rw [eη2]; exact zup_eq
            have f0_41 : η2 0 41 = x3 := v4
            have w0_0_43 : (0 : Int) ≤ η 0 43 ∧ η 0 43 ≤ 8 := wf_ok (a := 43) (b := 43) (z := (0, 8)) hp.1 (by decide +kernel) (Nat.le_refl _) (Nat.le_refl _)
            have v6 : zEq (η1 0 43) (η 0 43) := by rw [eη1]; exact (zup_ne (fun e _ => absurd e (by decide))).trans rfl
            have v7 : zEq (η2 0 43) (η 0 43) := by rw [eη2]; exact (zup_ne (fun _ e => absurd e (by decide))).trans v6
            have f0_43 : η2 0 43 = η 0 43 := v7
            have v9 : zEq (η1 0 42) (η 0 42) := by rw [eη1]; exact (zup_ne (fun e _ => absurd e (by decide))).trans rfl
            have v10 : zEq (η2 0 42) (η 0 42) := by rw [eη2]; exact (zup_ne (fun _ e => absurd e (by decide))).trans v9
            have f0_42 : η2 0 42 = η 0 42 := v10
            have v12 : zEq (η1 0 45) (η 0 45) := by rw [eη1]; exact (zup_ne (fun e _ => absurd e (by decide))).trans rfl
            have v13 : zEq (η2 0 45) (η 0 45) := by rw [eη2]; exact (zup_ne (fun _ e => absurd e (by decide))).trans v12
            have f0_45 : η2 0 45 = η 0 45 := v13
            have w0_0_19 : (0 : Int) ≤ η 0 19 ∧ η 0 19 ≤ 64 := wf_ok (a := 19) (b := 19) (z := (0, 64)) hp.1 (by decide +kernel) (Nat.le_refl _) (Nat.le_refl _)
            have v15 : zEq (η1 0 19) (η 0 19) := by rw [eη1]; exact (zup_ne (fun e _ => absurd e (by decide))).trans rfl
            have v16 : zEq (η2 0 19) (η 0 19) := by rw [eη2]; exact (zup_ne (fun _ e => absurd e (by decide))).trans v15
            have f0_19 : η2 0 19 = η 0 19 := v16
            have w0_0_44 : (0 : Int) ≤ η 0 44 ∧ η 0 44 ≤ 64 := wf_ok (a := 44) (b := 44) (z := (0, 64)) hp.1 (by decide +kernel) (Nat.le_refl _) (Nat.le_refl _)
            have v18 : zEq (η1 0 44) (η 0 44) := by rw [eη1]; exact (zup_ne (fun e _ => absurd e (by decide))).trans rfl
            have v19 : zEq (η2 0 44) (η 0 44) := by rw [eη2]; exact (zup_ne (fun _ e => absurd e (by decide))).trans v18
            have f0_44 : η2 0 44 = η 0 44 := v19
            have wbE : wB wl_le zTr η2 := wb2
            
            rw [e1] at eη1
            have cp := cz_push2 (η := η) (w := η 0 41) (x := 2) j1 rfl
            rw [← eη1, show η 0 41 + 1 = x3 by omega] at cp
            have cq := cz_zup (η := η1) (r := 0) (j := Int.toNat 41) (x := x3) (by decide) x3.toNat
            rw [← eη2] at cq
            have HG := hpp.1
            exact ⟨⟨wbE, ⟨by decide, by decide⟩, (fun f hf => nomatch hf), fmE, fun _ _ w => nomatch w⟩, h_w (zGk_fm2 g0k_l HG fmE (by decide +kernel)) f0_41 f0_43 f0_42 f0_45 f0_19 f0_44 ⟨by omega, by apply Int.le_antisymm <;> omega, by apply Int.le_antisymm <;> omega, by apply Int.le_antisymm <;> omega⟩⟩
          · have e1 : x1 = η 0 41 := e1
            clear r1
            have eη1 : η1 = zup η 22 (Int.toNat x1) 2 := eη1
            have e2 : x2 = η1 0 41 := e2
            clear r2
            have eη2 : η2 = zup η1 0 41 x3 := eη2
            show η2 = (yq_wai 2 η)
            subst e1
            subst eη1
            subst e2
            subst e3
            subst eη2
            rfl
      )
    (fun _ h => nomatch h))
def zPle_waitsFor : zPq := ([((.ofNat (nat_lit 3)), (.ofNat (nat_lit 14)))], [])
def zOle_waitsFor : zPo := (((.ofNat (nat_lit 0)), (.ofNat (nat_lit 0))), [], [])
def zMle_waitsFor : List zCe := [(nat_lit 0, nat_lit 42), (nat_lit 22, nat_lit 0)]
def pPle_waitsFor : List Int → zE → Prop := fun _ η => H_l 1 0 0 η
def oQle_waitsFor : List Int → zE → Int → zE → Prop := fun _ _ _ η' => H_l 0 0 (-1) η'
def fQle_waitsFor : List Int → zE → Int → zE → Prop := fun xs η y η' => η' = (yq_wai (xs.getD 0 0) η)
def pQle_waitsFor : List Int → zE → Int → zE → Prop := fun xs η y η' => oQle_waitsFor xs η y η' ∧ fQle_waitsFor xs η y η'
def pCle_waitsFor : Nat → List Int → zE → Prop := fun c => match c with
  | _ => fun _ _ => True
def qCle_waitsFor : Nat → List Int → zE → Int → zE → Prop := fun c => match c with
  | _ => fun _ _ _ _ => True
def iCle_waitsFor : List Int → zE → Nat → List Int → zE → Prop := fun xs η0 c => match c with
  | _ => fun _ _ => True
def zVle_waitsFor : List zIv := []
def zDle_waitsFor : List (List zK) := []
def zEle_waitsFor : List (List zK) := []
def zFle_waitsFor : List (List zK) := [[(nat_lit 7, nat_lit 0, [(nat_lit 2, (.ofNat (nat_lit 0))), (nat_lit 0, (.ofNat (nat_lit 96)))]), (nat_lit 4, nat_lit 0, [(nat_lit 0, (.ofNat (nat_lit 0))), (nat_lit 0, (.ofNat (nat_lit 41)))])],
  [(nat_lit 11, nat_lit 0, [(nat_lit 0, (.ofNat (nat_lit 0)))]), (nat_lit 5, nat_lit 0, [(nat_lit 0, (.ofNat (nat_lit 0))), (nat_lit 0, (.ofNat (nat_lit 41))), (nat_lit 4, (.ofNat (nat_lit 0)))]), (nat_lit 0, nat_lit 1, [(nat_lit 3, (.ofNat (nat_lit 0))), (nat_lit 0, (.ofNat (nat_lit 1)))]), (nat_lit 4, nat_lit 0, [(nat_lit 0, (.ofNat (nat_lit 0))), (nat_lit 0, (.ofNat (nat_lit 41)))]), (nat_lit 5, nat_lit 0, [(nat_lit 22, (.ofNat (nat_lit 0))), (nat_lit 2, (.ofNat (nat_lit 0))), (nat_lit 1, (.ofNat (nat_lit 0)))]), (nat_lit 4, nat_lit 0, [(nat_lit 0, (.ofNat (nat_lit 0))), (nat_lit 0, (.ofNat (nat_lit 41)))])]]
set_option maxHeartbeats 8000000 in
theorem zle_waitsFor {ro : Nat → List Int32} : zMet pr_P pr_K pr_df ro (sm_X0 1 6) 0 145 tm_le [(.inr (.inr (.inl (nat_lit 0)))), (.inl (nat_lit 1, (.ofNat (nat_lit 0))))] 0 [(nat_lit 0, nat_lit 0, nat_lit 1), (nat_lit 0, nat_lit 3, nat_lit 2), (nat_lit 0, nat_lit 20, nat_lit 3), (nat_lit 0, nat_lit 21, nat_lit 4), (nat_lit 0, nat_lit 22, nat_lit 5), (nat_lit 0, nat_lit 23, nat_lit 6), (nat_lit 0, nat_lit 24, nat_lit 7), (nat_lit 0, nat_lit 25, nat_lit 8), (nat_lit 0, nat_lit 26, nat_lit 9), (nat_lit 0, nat_lit 27, nat_lit 10), (nat_lit 0, nat_lit 28, nat_lit 11), (nat_lit 0, nat_lit 29, nat_lit 12), (nat_lit 0, nat_lit 30, nat_lit 13), (nat_lit 0, nat_lit 31, nat_lit 14), (nat_lit 0, nat_lit 32, nat_lit 15), (nat_lit 0, nat_lit 33, nat_lit 16), (nat_lit 0, nat_lit 34, nat_lit 17), (nat_lit 0, nat_lit 35, nat_lit 18), (nat_lit 0, nat_lit 36, nat_lit 19), (nat_lit 0, nat_lit 37, nat_lit 20), (nat_lit 0, nat_lit 38, nat_lit 21), (nat_lit 0, nat_lit 39, nat_lit 22), (nat_lit 0, nat_lit 40, nat_lit 23), (nat_lit 0, nat_lit 47, nat_lit 24), (nat_lit 0, nat_lit 48, nat_lit 25), (nat_lit 0, nat_lit 50, nat_lit 26), (nat_lit 0, nat_lit 51, nat_lit 27), (nat_lit 0, nat_lit 52, nat_lit 28), (nat_lit 0, nat_lit 53, nat_lit 29), (nat_lit 0, nat_lit 54, nat_lit 30), (nat_lit 0, nat_lit 55, nat_lit 31), (nat_lit 0, nat_lit 56, nat_lit 32), (nat_lit 0, nat_lit 57, nat_lit 33), (nat_lit 0, nat_lit 58, nat_lit 34), (nat_lit 0, nat_lit 59, nat_lit 35), (nat_lit 0, nat_lit 72, nat_lit 36), (nat_lit 0, nat_lit 73, nat_lit 37), (nat_lit 0, nat_lit 76, nat_lit 38), (nat_lit 0, nat_lit 77, nat_lit 39), (nat_lit 0, nat_lit 79, nat_lit 40), (nat_lit 0, nat_lit 81, nat_lit 41), (nat_lit 0, nat_lit 82, nat_lit 42)] [] (fun xs η => sP wl_le zTr zPle_waitsFor xs η ∧ pPle_waitsFor xs η) (fun xs η y η' => sQ wl_le zTr zOle_waitsFor zMle_waitsFor xs η y η' ∧ pQle_waitsFor xs η y η') :=
  zmet_alt (zmea_gen (mi := (nat_lit 1, nat_lit 1, nat_lit 8, nat_lit 2, nat_lit 0, tX8_waitsFor)) (cd := []) (cu := []) (cs := []) (iv := zVle_waitsFor) (po := [zOle_waitsFor]) (pr := zPle_waitsFor) (mods := zMle_waitsFor) (D7 := zDle_waitsFor) (D0 := zEle_waitsFor) (Dm := zFle_waitsFor) (f0 := 17) pCle_waitsFor qCle_waitsFor iCle_waitsFor pPle_waitsFor (fun xs η _ y η' => pQle_waitsFor xs η y η') zX_low pr_mtR rfl (fun _ h => nomatch h) (by decide +kernel) (by decide +kernel) (by decide +kernel)
    (fun _ _ _ _ _ _ _ h => nomatch h)
    (by
      intro xs η hr hl hp hpp
      match xs, hl, hp, hpp with
      | [x1], _, hp, hpp =>
        refine List.forall_mem_cons.mpr ⟨?_, List.forall_mem_cons.mpr ⟨?_, fun _ h => nomatch h⟩⟩
        · show ∀ x2 : Int, x2 = η 0 (Int.toNat 41) → zok 0 x2 → (0 : Int) ≤ x2 ∧ (x2 : Int) < 96
          obtain ⟨j1, j2, j3, j4⟩ := hpp.2
          have cn := cz_n (η := η) (η 0 41).toNat
          have bd43 : (0 : Int) ≤ η 0 43 ∧ η 0 43 ≤ 8 := wf_ok (a := 43) (b := 43) (z := (0, 8)) hp.1 (by decide +kernel) (Nat.le_refl _) (Nat.le_refl _)
          have bd44 : (0 : Int) ≤ η 0 44 ∧ η 0 44 ≤ 64 := wf_ok (a := 44) (b := 44) (z := (0, 64)) hp.1 (by decide +kernel) (Nat.le_refl _) (Nat.le_refl _)
          have bd19 : (0 : Int) ≤ η 0 19 ∧ η 0 19 ≤ 64 := wf_ok (a := 19) (b := 19) (z := (0, 64)) hp.1 (by decide +kernel) (Nat.le_refl _) (Nat.le_refl _)
          intro x2 e2 r2
          have bx1 : (3 : Int) ≤ x1 ∧ x1 ≤ 14 := hp.2.1.1
          replace e2 : x2 = η 0 41 := e2
          replace r2 : -2147483648 ≤ x2 ∧ x2 ≤ 2147483647 := r2
          have fmE : zFm zMle_waitsFor η η := zFm_rf
          have fr22_0 : ∀ j, η 22 j = η 22 j := fun _ => rfl
          have fr22 : ∀ j, η 22 j = η 22 j := fun _ => rfl
          have f0_41 : η 0 41 = η 0 41 := rfl
          have w0_0_43 : (0 : Int) ≤ η 0 43 ∧ η 0 43 ≤ 8 := wf_ok (a := 43) (b := 43) (z := (0, 8)) hp.1 (by decide +kernel) (Nat.le_refl _) (Nat.le_refl _)
          have f0_43 : η 0 43 = η 0 43 := rfl
          have f0_42 : η 0 42 = η 0 42 := rfl
          have f0_45 : η 0 45 = η 0 45 := rfl
          have w0_0_19 : (0 : Int) ≤ η 0 19 ∧ η 0 19 ≤ 64 := wf_ok (a := 19) (b := 19) (z := (0, 64)) hp.1 (by decide +kernel) (Nat.le_refl _) (Nat.le_refl _)
          have f0_19 : η 0 19 = η 0 19 := rfl
          have w0_0_44 : (0 : Int) ≤ η 0 44 ∧ η 0 44 ≤ 64 := wf_ok (a := 44) (b := 44) (z := (0, 64)) hp.1 (by decide +kernel) (Nat.le_refl _) (Nat.le_refl _)
          have f0_44 : η 0 44 = η 0 44 := rfl
          exact ⟨by omega, by omega⟩
        · show ∀ x2 : Int, x2 = η 0 (Int.toNat 41) → zok 0 x2 → ∀ η1 : zE, η1 = zup η 22 (Int.toNat x2) x1 → ∀ x3 : Int, x3 = η1 0 (Int.toNat 41) → zok 0 x3 → ∀ x4 : Int, x4 = zd 0 1 x3 1 → ∀ η2 : zE, η2 = zup η1 0 (Int.toNat 41) x4 → (fun j y η1 => zsQ wl_le zTr [zOle_waitsFor] zMle_waitsFor [x1] η j y η1 ∧ pQle_waitsFor [x1] η y η1) 0 0 η2
          intro x2 e2 r2 η1 eη1 x3 e3 r3 x4 e4 η2 eη2
          refine yj_b ?_ ?_
          · obtain ⟨j1, j2, j3, j4⟩ := hpp.2
            have cn := cz_n (η := η) (η 0 41).toNat
            have bd43 : (0 : Int) ≤ η 0 43 ∧ η 0 43 ≤ 8 := wf_ok (a := 43) (b := 43) (z := (0, 8)) hp.1 (by decide +kernel) (Nat.le_refl _) (Nat.le_refl _)
            have bd44 : (0 : Int) ≤ η 0 44 ∧ η 0 44 ≤ 64 := wf_ok (a := 44) (b := 44) (z := (0, 64)) hp.1 (by decide +kernel) (Nat.le_refl _) (Nat.le_refl _)
            have bd19 : (0 : Int) ≤ η 0 19 ∧ η 0 19 ≤ 64 := wf_ok (a := 19) (b := 19) (z := (0, 64)) hp.1 (by decide +kernel) (Nat.le_refl _) (Nat.le_refl _)
            replace e4 := zEq_i e4
            have bx1 : (3 : Int) ≤ x1 ∧ x1 ≤ 14 := hp.2.1.1
            replace e2 : x2 = η 0 41 := e2
            replace r2 : -2147483648 ≤ x2 ∧ x2 ≤ 2147483647 := r2
            have wb1 : wB wl_le zTr η1 := by rw [eη1]; exact wk_ok (a := 0) (b := 95) (z := (0, 14)) zTr_k (GR := []) hp.1 (by decide +kernel) (by omega) (by omega) (show (0 : Int) ≤ x1 by omega) (show x1 ≤ (14 : Int) by omega)
            have v1 : zEq (η1 0 41) (η 0 41) := by rw [eη1]; exact (zup_ne (fun e _ => absurd e (by decide))).trans rfl
            replace e3 : x3 = η 0 41 := e3.trans v1
            replace r3 : -2147483648 ≤ x3 ∧ x3 ≤ 2147483647 := r3
            first
            | replace e4 : x4 = x3 + 1 := zd_a2 (zEq_o e4) (by clear e4; exact ⟨by omega, by omega⟩)
            | clear e4
            have c1_0_41 : η1 0 41 = η 0 41 := v1
            have wb2 : wB wl_le zTr η2 := by rw [eη2]; exact wk_ok (a := 41) (b := 41) (z := ((-2147483648), 2147483647)) zTr_k (GR := []) wb1 (by decide +kernel) (by decide) (by decide) (show ((-2147483648) : Int) ≤ x4 by omega) (show x4 ≤ (2147483647 : Int) by omega)
            have fm1 : zFm zMle_waitsFor η η1 := by rw [eη1]; exact zFm_up zFm_rf (zin2_of (q := (22, 0)) (by decide) rfl (Or.inl rfl))
            have fm2 : zFm zMle_waitsFor η η2 := by rw [eη2]; exact zFm_up fm1 rfl
            have fmE : zFm zMle_waitsFor η η2 := fm2
            have fr22_0 : ∀ j, η 22 j = η 22 j := fun _ => rfl
            have fr22_1 : ∀ j, η1 22 j = η1 22 j := fun _ => rfl
            have v3 : ∀ j, η2 22 j = η1 22 j := fun j => by rw [eη2]; exact zup_ne (fun e _ => absurd e (by decide))
            have fr22_2 : ∀ j, η2 22 j = η1 22 j := v3
            have fr22 : ∀ j, η2 22 j = η1 22 j := v3
            have v4 : zEq (η2 0 41) (x4) := by rw [eη2]; exact zup_eq
            have f0_41 : η2 0 41 = x4 := v4
            have w0_0_43 : (0 : Int) ≤ η 0 43 ∧ η 0 43 ≤ 8 := wf_ok (a := 43) (b := 43) (z := (0, 8)) hp.1 (by decide +kernel) (Nat.le_refl _) (Nat.le_refl _)
            have v6 : zEq (η1 0 43) (η 0 43) := by rw [eη1]; exact (zup_ne (fun e _ => absurd e (by decide))).trans rfl
            have v7 : zEq (η2 0 43) (η 0 43) := by rw [eη2]; exact (zup_ne (fun _ e => absurd e (by decide))).trans v6
            have f0_43 : η2 0 43 = η 0 43 := v7
            have v9 : zEq (η1 0 42) (η 0 42) := by rw [eη1]; exact (zup_ne (fun e _ => absurd e (by decide))).trans rfl
            have v10 : zEq (η2 0 42) (η 0 42) := by rw [eη2]; exact (zup_ne (fun _ e => absurd e (by decide))).trans v9
            have f0_42 : η2 0 42 = η 0 42 := v10
            have v12 : zEq (η1 0 45) (η 0 45) := by rw [eη1]; exact (zup_ne (fun e _ => absurd e (by decide))).trans rfl
            have v13 : zEq (η2 0 45) (η 0 45) := by rw [eη2]; exact (zup_ne (fun _ e => absurd e (by decide))).trans v12
            have f0_45 : η2 0 45 = η 0 45 := v13
            have w0_0_19 : (0 : Int) ≤ η 0 19 ∧ η 0 19 ≤ 64 := wf_ok (a := 19) (b := 19) (z := (0, 64)) hp.1 (by decide +kernel) (Nat.le_refl _) (Nat.le_refl _)
            have v15 : zEq (η1 0 19) (η 0 19) := by rw [eη1]; exact (zup_ne (fun e _ => absurd e (by decide))).trans rfl
            have v16 : zEq (η2 0 19) (η 0 19) := by rw [eη2]; exact (zup_ne (fun _ e => absurd e (by decide))).trans v15
            have f0_19 : η2 0 19 = η 0 19 := v16
            have w0_0_44 : (0 : Int) ≤ η 0 44 ∧ η 0 44 ≤ 64 := wf_ok (a := 44) (b := 44) (z := (0, 64)) hp.1 (by decide +kernel) (Nat.le_refl _) (Nat.le_refl _)
            have v18 : zEq (η1 0 44) (η 0 44) := by rw [eη1]; exact (zup_ne (fun e _ => absurd e (by decide))).trans rfl
            have v19 : zEq (η2 0 44) (η 0 44) := by rw [eη2]; exact (zup_ne (fun _ e => absurd e (by decide))).trans v18
            have f0_44 : η2 0 44 = η 0 44 := v19
            have wbE : wB wl_le zTr η2 := wb2
            
            rw [e2] at eη1
            have cp := cz_push3 (η := η) (w := η 0 41) (x := x1) j1 bx1.1
            rw [← eη1, show η 0 41 + 1 = x4 by omega] at cp
            have cq := cz_zup (η := η1) (r := 0) (j := Int.toNat 41) (x := x4) (by decide) x4.toNat
            rw [← eη2] at cq
            have HG := hpp.1
            exact ⟨⟨wbE, ⟨by decide, by decide⟩, (fun f hf => nomatch hf), fmE, fun _ _ w => nomatch w⟩, h_w (zGk_fm2 g0k_l HG fmE (by decide +kernel)) f0_41 f0_43 f0_42 f0_45 f0_19 f0_44 ⟨by omega, by apply Int.le_antisymm <;> omega, by apply Int.le_antisymm <;> omega, by apply Int.le_antisymm <;> omega⟩⟩
          · have e2 : x2 = η 0 41 := e2
            clear r2
            have eη1 : η1 = zup η 22 (Int.toNat x2) x1 := eη1
            have e3 : x3 = η1 0 41 := e3
            clear r3
            have eη2 : η2 = zup η1 0 41 x4 := eη2
            show η2 = (yq_wai x1 η)
            subst e2
            subst eη1
            subst e3
            subst e4
            subst eη2
            rfl
      )
    (fun _ h => nomatch h))
def zPle_dropHeld : zPq := ([], [])
def zOle_dropHeld : zPo := (((.ofNat (nat_lit 0)), (.ofNat (nat_lit 63))), [], [])
def zMle_dropHeld : List zCe := [(nat_lit 0, nat_lit 43)]
def pPle_dropHeld : List Int → zE → Prop := fun _ η => (∃ f, H_l 1 0 f η) ∧ 1 ≤ η 0 42 ∧ η 0 42 ≤ 96
def oQle_dropHeld : List Int → zE → Int → zE → Prop := fun _ η _ η' => (∀ f, H_l 1 0 f η → H_l 1 0 (f - 1) η') ∧ η' 0 42 = η 0 42 - 1
def fQle_dropHeld : List Int → zE → Int → zE → Prop := fun xs η y η' => y = (yq_drY η) ∧ η' = (yq_drS η)
def pQle_dropHeld : List Int → zE → Int → zE → Prop := fun xs η y η' => oQle_dropHeld xs η y η' ∧ fQle_dropHeld xs η y η'
def pCle_dropHeld : Nat → List Int → zE → Prop := fun c => match c with
  | _ => fun _ _ => True
def qCle_dropHeld : Nat → List Int → zE → Int → zE → Prop := fun c => match c with
  | _ => fun _ _ _ _ => True
def iCle_dropHeld : List Int → zE → Nat → List Int → zE → Prop := fun xs η0 c => match c with
  | _ => fun _ _ => True
def zVle_dropHeld : List zIv := []
def zDle_dropHeld : List (List zK) := []
def zEle_dropHeld : List (List zK) := []
def zFle_dropHeld : List (List zK) := [[(nat_lit 7, nat_lit 0, [(nat_lit 3, (.ofNat (nat_lit 0))), (nat_lit 0, (.ofNat (nat_lit 96)))]), (nat_lit 4, nat_lit 0, [(nat_lit 0, (.ofNat (nat_lit 0))), (nat_lit 0, (.ofNat (nat_lit 42)))]), (nat_lit 5, nat_lit 0, [(nat_lit 0, (.ofNat (nat_lit 0))), (nat_lit 0, (.ofNat (nat_lit 42))), (nat_lit 2, (.ofNat (nat_lit 0)))]), (nat_lit 0, nat_lit 2, [(nat_lit 1, (.ofNat (nat_lit 0))), (nat_lit 0, (.ofNat (nat_lit 1)))]), (nat_lit 4, nat_lit 0, [(nat_lit 0, (.ofNat (nat_lit 0))), (nat_lit 0, (.ofNat (nat_lit 42)))])],
  [(nat_lit 11, nat_lit 0, [(nat_lit 4, (.ofNat (nat_lit 0)))]), (nat_lit 4, nat_lit 0, [(nat_lit 23, (.ofNat (nat_lit 0))), (nat_lit 3, (.ofNat (nat_lit 0)))]), (nat_lit 4, nat_lit 0, [(nat_lit 0, (.ofNat (nat_lit 0))), (nat_lit 0, (.ofNat (nat_lit 42)))]), (nat_lit 5, nat_lit 0, [(nat_lit 0, (.ofNat (nat_lit 0))), (nat_lit 0, (.ofNat (nat_lit 42))), (nat_lit 2, (.ofNat (nat_lit 0)))]), (nat_lit 0, nat_lit 2, [(nat_lit 1, (.ofNat (nat_lit 0))), (nat_lit 0, (.ofNat (nat_lit 1)))]), (nat_lit 4, nat_lit 0, [(nat_lit 0, (.ofNat (nat_lit 0))), (nat_lit 0, (.ofNat (nat_lit 42)))])]]
set_option maxHeartbeats 8000000 in
theorem zle_dropHeld {ro : Nat → List Int32} : zMet pr_P pr_K pr_df ro (sm_X0 1 6) 0 142 tm_le [(.inr (.inr (.inl (nat_lit 0))))] 1 [(nat_lit 0, nat_lit 0, nat_lit 1), (nat_lit 0, nat_lit 3, nat_lit 2), (nat_lit 0, nat_lit 20, nat_lit 3), (nat_lit 0, nat_lit 21, nat_lit 4), (nat_lit 0, nat_lit 22, nat_lit 5), (nat_lit 0, nat_lit 23, nat_lit 6), (nat_lit 0, nat_lit 24, nat_lit 7), (nat_lit 0, nat_lit 25, nat_lit 8), (nat_lit 0, nat_lit 26, nat_lit 9), (nat_lit 0, nat_lit 27, nat_lit 10), (nat_lit 0, nat_lit 28, nat_lit 11), (nat_lit 0, nat_lit 29, nat_lit 12), (nat_lit 0, nat_lit 30, nat_lit 13), (nat_lit 0, nat_lit 31, nat_lit 14), (nat_lit 0, nat_lit 32, nat_lit 15), (nat_lit 0, nat_lit 33, nat_lit 16), (nat_lit 0, nat_lit 34, nat_lit 17), (nat_lit 0, nat_lit 35, nat_lit 18), (nat_lit 0, nat_lit 36, nat_lit 19), (nat_lit 0, nat_lit 37, nat_lit 20), (nat_lit 0, nat_lit 38, nat_lit 21), (nat_lit 0, nat_lit 39, nat_lit 22), (nat_lit 0, nat_lit 40, nat_lit 23), (nat_lit 0, nat_lit 47, nat_lit 24), (nat_lit 0, nat_lit 48, nat_lit 25), (nat_lit 0, nat_lit 50, nat_lit 26), (nat_lit 0, nat_lit 51, nat_lit 27), (nat_lit 0, nat_lit 52, nat_lit 28), (nat_lit 0, nat_lit 53, nat_lit 29), (nat_lit 0, nat_lit 54, nat_lit 30), (nat_lit 0, nat_lit 55, nat_lit 31), (nat_lit 0, nat_lit 56, nat_lit 32), (nat_lit 0, nat_lit 57, nat_lit 33), (nat_lit 0, nat_lit 58, nat_lit 34), (nat_lit 0, nat_lit 59, nat_lit 35), (nat_lit 0, nat_lit 72, nat_lit 36), (nat_lit 0, nat_lit 73, nat_lit 37), (nat_lit 0, nat_lit 76, nat_lit 38), (nat_lit 0, nat_lit 77, nat_lit 39), (nat_lit 0, nat_lit 79, nat_lit 40), (nat_lit 0, nat_lit 81, nat_lit 41), (nat_lit 0, nat_lit 82, nat_lit 42)] [] (fun xs η => sP wl_le zTr zPle_dropHeld xs η ∧ pPle_dropHeld xs η) (fun xs η y η' => sQ wl_le zTr zOle_dropHeld zMle_dropHeld xs η y η' ∧ pQle_dropHeld xs η y η') :=
  zmet_alt (zmea_gen (mi := (nat_lit 0, nat_lit 1, nat_lit 8, nat_lit 1, nat_lit 1, tX8_dropHeld)) (cd := []) (cu := []) (cs := []) (iv := zVle_dropHeld) (po := [zOle_dropHeld]) (pr := zPle_dropHeld) (mods := zMle_dropHeld) (D7 := zDle_dropHeld) (D0 := zEle_dropHeld) (Dm := zFle_dropHeld) (f0 := 16) pCle_dropHeld qCle_dropHeld iCle_dropHeld pPle_dropHeld (fun xs η _ y η' => pQle_dropHeld xs η y η') zX_low pr_mtR rfl (fun _ h => nomatch h) (by decide +kernel) (by decide +kernel) (by decide +kernel)
    (fun _ _ _ _ _ _ _ h => nomatch h)
    (by
      intro xs η hr hl hp hpp
      match xs, hl, hp, hpp with
      | [], _, hp, hpp =>
        refine List.forall_mem_cons.mpr ⟨?_, List.forall_mem_cons.mpr ⟨?_, fun _ h => nomatch h⟩⟩
        · show ∀ x1 : Int, x1 = η 0 (Int.toNat 42) → zok 0 x1 → ∀ x2 : Int, x2 = zd 0 2 x1 1 → ∀ η1 : zE, η1 = zup η 0 (Int.toNat 42) x2 → ∀ x3 : Int, x3 = η1 0 (Int.toNat 42) → zok 0 x3 → (0 : Int) ≤ x3 ∧ (x3 : Int) < 96
          have a1 : 1 ≤ η 0 42 := hpp.2.1
          have a2 : η 0 42 ≤ 96 := hpp.2.2
          intro x1 e1 r1 x2 e2 η1 eη1 x3 e3 r3
          replace e2 := zEq_i e2
          replace e1 : x1 = η 0 42 := e1
          replace r1 : -2147483648 ≤ x1 ∧ x1 ≤ 2147483647 := r1
          first
          | replace e2 : x2 = x1 - 1 := zd_s2 (zEq_o e2) (by clear e2; exact ⟨by omega, by omega⟩)
          | clear e2
          have c0_0_42 : η 0 42 = η 0 42 := rfl
          have v1 : zEq (η1 0 42) (x2) := by rw [eη1]; exact zup_eq
          replace e3 : x3 = x2 := e3.trans v1
          replace r3 : -2147483648 ≤ x3 ∧ x3 ≤ 2147483647 := r3
          have fm1 : zFm zMle_dropHeld η η1 := by rw [eη1]; exact zFm_up zFm_rf rfl
          have fmE : zFm zMle_dropHeld η η1 := fm1
          have fr22_0 : ∀ j, η 22 j = η 22 j := fun _ => rfl
          have v2 : ∀ j, η1 22 j = η 22 j := fun j => by rw [eη1]; exact zup_ne (fun e _ => absurd e (by decide))
          have fr22_1 : ∀ j, η1 22 j = η 22 j := v2
          have fr22 : ∀ j, η1 22 j = η 22 j := v2
          have v4 : zEq (η1 0 41) (η 0 41) := by rw [eη1]; exact (zup_ne (fun _ e => absurd e (by decide))).trans rfl
          have f0_41 : η1 0 41 = η 0 41 := v4
          have w0_0_43 : (0 : Int) ≤ η 0 43 ∧ η 0 43 ≤ 8 := wf_ok (a := 43) (b := 43) (z := (0, 8)) hp.1 (by decide +kernel) (Nat.le_refl _) (Nat.le_refl _)
          have v6 : zEq (η1 0 43) (η 0 43) := by rw [eη1]; exact (zup_ne (fun _ e => absurd e (by decide))).trans rfl
          have f0_43 : η1 0 43 = η 0 43 := v6
          have f0_42 : η1 0 42 = x2 := v1
          have v8 : zEq (η1 0 45) (η 0 45) := by rw [eη1]; exact (zup_ne (fun _ e => absurd e (by decide))).trans rfl
          have f0_45 : η1 0 45 = η 0 45 := v8
          have w0_0_19 : (0 : Int) ≤ η 0 19 ∧ η 0 19 ≤ 64 := wf_ok (a := 19) (b := 19) (z := (0, 64)) hp.1 (by decide +kernel) (Nat.le_refl _) (Nat.le_refl _)
          have v10 : zEq (η1 0 19) (η 0 19) := by rw [eη1]; exact (zup_ne (fun _ e => absurd e (by decide))).trans rfl
          have f0_19 : η1 0 19 = η 0 19 := v10
          have w0_0_44 : (0 : Int) ≤ η 0 44 ∧ η 0 44 ≤ 64 := wf_ok (a := 44) (b := 44) (z := (0, 64)) hp.1 (by decide +kernel) (Nat.le_refl _) (Nat.le_refl _)
          have v12 : zEq (η1 0 44) (η 0 44) := by rw [eη1]; exact (zup_ne (fun _ e => absurd e (by decide))).trans rfl
          have f0_44 : η1 0 44 = η 0 44 := v12
          exact ⟨by omega, by omega⟩
        · show ∀ x1 : Int, x1 = η 0 (Int.toNat 42) → zok 0 x1 → ∀ x2 : Int, x2 = zd 0 2 x1 1 → ∀ η1 : zE, η1 = zup η 0 (Int.toNat 42) x2 → ∀ x3 : Int, x3 = η1 0 (Int.toNat 42) → zok 0 x3 → ∀ x4 : Int, x4 = η1 23 (Int.toNat x3) → zok 0 x4 → (fun j y η1 => zsQ wl_le zTr [zOle_dropHeld] zMle_dropHeld [] η j y η1 ∧ pQle_dropHeld [] η y η1) 0 x4 η1
          intro x1 e1 r1 x2 e2 η1 eη1 x3 e3 r3 x4 e4 r4
          refine yj_b ?_ ?_
          · have a1 : 1 ≤ η 0 42 := hpp.2.1
            have a2 : η 0 42 ≤ 96 := hpp.2.2
            replace e2 := zEq_i e2
            replace e1 : x1 = η 0 42 := e1
            replace r1 : -2147483648 ≤ x1 ∧ x1 ≤ 2147483647 := r1
            first
            | replace e2 : x2 = x1 - 1 := zd_s2 (zEq_o e2) (by clear e2; exact ⟨by omega, by omega⟩)
            | clear e2
            have c0_0_42 : η 0 42 = η 0 42 := rfl
            have wb1 : wB wl_le zTr η1 := by rw [eη1]; exact wk_ok (a := 42) (b := 42) (z := ((-2147483648), 2147483647)) zTr_k (GR := []) hp.1 (by decide +kernel) (by decide) (by decide) (show ((-2147483648) : Int) ≤ x2 by omega) (show x2 ≤ (2147483647 : Int) by omega)
            have v1 : zEq (η1 0 42) (x2) := by rw [eη1]; exact zup_eq
            replace e3 : x3 = x2 := e3.trans v1
            replace r3 : -2147483648 ≤ x3 ∧ x3 ≤ 2147483647 := r3
            have v3 : zEq (η1 23 (Int.toNat x3)) (η 23 (Int.toNat x3)) := by rw [eη1]; exact (zup_ne (fun e _ => absurd e (by decide))).trans rfl
            replace e4 : x4 = η 23 (Int.toNat x3) := e4.trans v3
            replace r4 : -2147483648 ≤ x4 ∧ x4 ≤ 2147483647 := r4
            try have rb4 : (0 : Int) ≤ η 23 (Int.toNat x3) ∧ η 23 (Int.toNat x3) ≤ 63 := wf_ok (a := 0) (b := 95) (z := (0, 63)) hp.1 (by decide +kernel) (Nat.zero_le _) (by omega)
            have fm1 : zFm zMle_dropHeld η η1 := by rw [eη1]; exact zFm_up zFm_rf rfl
            have fmE : zFm zMle_dropHeld η η1 := fm1
            have fr22_0 : ∀ j, η 22 j = η 22 j := fun _ => rfl
            have v4 : ∀ j, η1 22 j = η 22 j := fun j => by rw [eη1]; exact zup_ne (fun e _ => absurd e (by decide))
            have fr22_1 : ∀ j, η1 22 j = η 22 j := v4
            have fr22 : ∀ j, η1 22 j = η 22 j := v4
            have v6 : zEq (η1 0 41) (η 0 41) := by rw [eη1]; exact (zup_ne (fun _ e => absurd e (by decide))).trans rfl
            have f0_41 : η1 0 41 = η 0 41 := v6
            have w0_0_43 : (0 : Int) ≤ η 0 43 ∧ η 0 43 ≤ 8 := wf_ok (a := 43) (b := 43) (z := (0, 8)) hp.1 (by decide +kernel) (Nat.le_refl _) (Nat.le_refl _)
            have v8 : zEq (η1 0 43) (η 0 43) := by rw [eη1]; exact (zup_ne (fun _ e => absurd e (by decide))).trans rfl
            have f0_43 : η1 0 43 = η 0 43 := v8
            have f0_42 : η1 0 42 = x2 := v1
            have v10 : zEq (η1 0 45) (η 0 45) := by rw [eη1]; exact (zup_ne (fun _ e => absurd e (by decide))).trans rfl
            have f0_45 : η1 0 45 = η 0 45 := v10
            have w0_0_19 : (0 : Int) ≤ η 0 19 ∧ η 0 19 ≤ 64 := wf_ok (a := 19) (b := 19) (z := (0, 64)) hp.1 (by decide +kernel) (Nat.le_refl _) (Nat.le_refl _)
            have v12 : zEq (η1 0 19) (η 0 19) := by rw [eη1]; exact (zup_ne (fun _ e => absurd e (by decide))).trans rfl
            have f0_19 : η1 0 19 = η 0 19 := v12
            have w0_0_44 : (0 : Int) ≤ η 0 44 ∧ η 0 44 ≤ 64 := wf_ok (a := 44) (b := 44) (z := (0, 64)) hp.1 (by decide +kernel) (Nat.le_refl _) (Nat.le_refl _)
            have v14 : zEq (η1 0 44) (η 0 44) := by rw [eη1]; exact (zup_ne (fun _ e => absurd e (by decide))).trans rfl
            have f0_44 : η1 0 44 = η 0 44 := v14
            have wbE : wB wl_le zTr η1 := wb1
            
            have cw := cz_below (η := η) (η' := η1) (η 0 41).toNat (fun j _ => fr22 j)
            exact ⟨⟨wbE, ⟨show (0 : Int) ≤ x4 by omega, show x4 ≤ 63 by omega⟩, (fun f hf => nomatch hf), fmE, fun _ _ w => nomatch w⟩, fun f H => by
              obtain ⟨j1, j2, j3, j4⟩ := H.2
              have HG := H.1
              exact h_w (zGk_fm2 g0k_l HG fmE (by decide +kernel)) f0_41 f0_43 f0_42 f0_45 f0_19 f0_44 ⟨by omega, by apply Int.le_antisymm <;> omega, by apply Int.le_antisymm <;> omega, by apply Int.le_antisymm <;> omega⟩, show η1 0 42 = η 0 42 - 1 by omega⟩
          · have e1 : x1 = η 0 42 := e1
            clear r1
            have eη1 : η1 = zup η 0 42 x2 := eη1
            have e3 : x3 = η1 0 42 := e3
            clear r3
            have e4 : x4 = η1 23 (Int.toNat x3) := e4
            clear r4
            show x4 = (yq_drY η) ∧ η1 = (yq_drS η)
            subst e1
            subst e2
            subst eη1
            subst e3
            subst e4
            exact ⟨rfl, rfl⟩
      )
    (fun _ h => nomatch h))
def zPle_grown : zPq := ([((.ofNat (nat_lit 0)), (.ofNat (nat_lit 14))), ((.negSucc (nat_lit 2147483647)), (.ofNat (nat_lit 2147483647))), ((.negSucc (nat_lit 2147483647)), (.ofNat (nat_lit 2147483647)))], [])
def zOle_grown : zPo := (((.ofNat (nat_lit 0)), (.ofNat (nat_lit 0))), [], [])
def zMle_grown : List zCe := [(nat_lit 0, nat_lit 43), (nat_lit 0, nat_lit 20), (nat_lit 19, nat_lit 0), (nat_lit 20, nat_lit 0), (nat_lit 21, nat_lit 0), (nat_lit 23, nat_lit 0)]
def pPle_grown : List Int → zE → Prop := fun xs η => (H_l 1 0 0 η ∨ H_l 1 0 (-1) η) ∧ T3_l (xs.getD 0 0) (xs.getD 1 0) (xs.getD 2 0) ∧ 0 ≤ η 0 42 ∧ η 0 42 ≤ 95
def oQle_grown : List Int → zE → Int → zE → Prop := fun _ η _ η' => (H_l 1 0 0 η → H_l 0 0 1 η') ∧ (H_l 1 0 (-1) η → G_l η') ∧ η' 0 19 = η 0 19 + 1
def fQle_grown : List Int → zE → Int → zE → Prop := fun xs η y η' => η' = (yq_gro (xs.getD 0 0) (xs.getD 1 0) (xs.getD 2 0) η)
def pQle_grown : List Int → zE → Int → zE → Prop := fun xs η y η' => oQle_grown xs η y η' ∧ fQle_grown xs η y η'
def pCle_grown : Nat → List Int → zE → Prop := fun c => match c with
  | _ => fun _ _ => True
def qCle_grown : Nat → List Int → zE → Int → zE → Prop := fun c => match c with
  | _ => fun _ _ _ _ => True
def iCle_grown : List Int → zE → Nat → List Int → zE → Prop := fun xs η0 c => match c with
  | _ => fun _ _ => True
def zVle_grown : List zIv := []
def zDle_grown : List (List zK) := []
def zEle_grown : List (List zK) := []
def zFle_grown : List (List zK) := [[(nat_lit 7, nat_lit 0, [(nat_lit 5, (.ofNat (nat_lit 0))), (nat_lit 0, (.ofNat (nat_lit 128)))]), (nat_lit 0, nat_lit 1, [(nat_lit 0, (.ofNat (nat_lit 64))), (nat_lit 4, (.ofNat (nat_lit 0)))]), (nat_lit 4, nat_lit 0, [(nat_lit 0, (.ofNat (nat_lit 0))), (nat_lit 0, (.ofNat (nat_lit 19)))])],
  [(nat_lit 7, nat_lit 0, [(nat_lit 7, (.ofNat (nat_lit 0))), (nat_lit 0, (.ofNat (nat_lit 128)))]), (nat_lit 0, nat_lit 1, [(nat_lit 0, (.ofNat (nat_lit 64))), (nat_lit 6, (.ofNat (nat_lit 0)))]), (nat_lit 4, nat_lit 0, [(nat_lit 0, (.ofNat (nat_lit 0))), (nat_lit 0, (.ofNat (nat_lit 19)))]), (nat_lit 5, nat_lit 0, [(nat_lit 19, (.ofNat (nat_lit 0))), (nat_lit 5, (.ofNat (nat_lit 0))), (nat_lit 1, (.ofNat (nat_lit 0)))]), (nat_lit 0, nat_lit 1, [(nat_lit 0, (.ofNat (nat_lit 64))), (nat_lit 4, (.ofNat (nat_lit 0)))]), (nat_lit 4, nat_lit 0, [(nat_lit 0, (.ofNat (nat_lit 0))), (nat_lit 0, (.ofNat (nat_lit 19)))])],
  [(nat_lit 7, nat_lit 0, [(nat_lit 9, (.ofNat (nat_lit 0))), (nat_lit 0, (.ofNat (nat_lit 128)))]), (nat_lit 0, nat_lit 1, [(nat_lit 0, (.ofNat (nat_lit 64))), (nat_lit 8, (.ofNat (nat_lit 0)))]), (nat_lit 4, nat_lit 0, [(nat_lit 0, (.ofNat (nat_lit 0))), (nat_lit 0, (.ofNat (nat_lit 19)))]), (nat_lit 5, nat_lit 0, [(nat_lit 20, (.ofNat (nat_lit 0))), (nat_lit 7, (.ofNat (nat_lit 0))), (nat_lit 2, (.ofNat (nat_lit 0)))]), (nat_lit 0, nat_lit 1, [(nat_lit 0, (.ofNat (nat_lit 64))), (nat_lit 6, (.ofNat (nat_lit 0)))]), (nat_lit 4, nat_lit 0, [(nat_lit 0, (.ofNat (nat_lit 0))), (nat_lit 0, (.ofNat (nat_lit 19)))]), (nat_lit 5, nat_lit 0, [(nat_lit 19, (.ofNat (nat_lit 0))), (nat_lit 5, (.ofNat (nat_lit 0))), (nat_lit 1, (.ofNat (nat_lit 0)))]), (nat_lit 0, nat_lit 1, [(nat_lit 0, (.ofNat (nat_lit 64))), (nat_lit 4, (.ofNat (nat_lit 0)))]), (nat_lit 4, nat_lit 0, [(nat_lit 0, (.ofNat (nat_lit 0))), (nat_lit 0, (.ofNat (nat_lit 19)))])],
  [(nat_lit 7, nat_lit 0, [(nat_lit 10, (.ofNat (nat_lit 0))), (nat_lit 0, (.ofNat (nat_lit 96)))]), (nat_lit 4, nat_lit 0, [(nat_lit 0, (.ofNat (nat_lit 0))), (nat_lit 0, (.ofNat (nat_lit 19)))]), (nat_lit 4, nat_lit 0, [(nat_lit 0, (.ofNat (nat_lit 0))), (nat_lit 0, (.ofNat (nat_lit 42)))]), (nat_lit 5, nat_lit 0, [(nat_lit 21, (.ofNat (nat_lit 0))), (nat_lit 9, (.ofNat (nat_lit 0))), (nat_lit 3, (.ofNat (nat_lit 0)))]), (nat_lit 0, nat_lit 1, [(nat_lit 0, (.ofNat (nat_lit 64))), (nat_lit 8, (.ofNat (nat_lit 0)))]), (nat_lit 4, nat_lit 0, [(nat_lit 0, (.ofNat (nat_lit 0))), (nat_lit 0, (.ofNat (nat_lit 19)))]), (nat_lit 5, nat_lit 0, [(nat_lit 20, (.ofNat (nat_lit 0))), (nat_lit 7, (.ofNat (nat_lit 0))), (nat_lit 2, (.ofNat (nat_lit 0)))]), (nat_lit 0, nat_lit 1, [(nat_lit 0, (.ofNat (nat_lit 64))), (nat_lit 6, (.ofNat (nat_lit 0)))]), (nat_lit 4, nat_lit 0, [(nat_lit 0, (.ofNat (nat_lit 0))), (nat_lit 0, (.ofNat (nat_lit 19)))]), (nat_lit 5, nat_lit 0, [(nat_lit 19, (.ofNat (nat_lit 0))), (nat_lit 5, (.ofNat (nat_lit 0))), (nat_lit 1, (.ofNat (nat_lit 0)))]), (nat_lit 0, nat_lit 1, [(nat_lit 0, (.ofNat (nat_lit 64))), (nat_lit 4, (.ofNat (nat_lit 0)))]), (nat_lit 4, nat_lit 0, [(nat_lit 0, (.ofNat (nat_lit 0))), (nat_lit 0, (.ofNat (nat_lit 19)))])],
  [(nat_lit 11, nat_lit 0, [(nat_lit 0, (.ofNat (nat_lit 0)))]), (nat_lit 5, nat_lit 0, [(nat_lit 0, (.ofNat (nat_lit 0))), (nat_lit 0, (.ofNat (nat_lit 19))), (nat_lit 15, (.ofNat (nat_lit 0)))]), (nat_lit 0, nat_lit 1, [(nat_lit 14, (.ofNat (nat_lit 0))), (nat_lit 0, (.ofNat (nat_lit 1)))]), (nat_lit 4, nat_lit 0, [(nat_lit 0, (.ofNat (nat_lit 0))), (nat_lit 0, (.ofNat (nat_lit 19)))]), (nat_lit 5, nat_lit 0, [(nat_lit 0, (.ofNat (nat_lit 0))), (nat_lit 0, (.ofNat (nat_lit 42))), (nat_lit 13, (.ofNat (nat_lit 0)))]), (nat_lit 0, nat_lit 1, [(nat_lit 12, (.ofNat (nat_lit 0))), (nat_lit 0, (.ofNat (nat_lit 1)))]), (nat_lit 4, nat_lit 0, [(nat_lit 0, (.ofNat (nat_lit 0))), (nat_lit 0, (.ofNat (nat_lit 42)))]), (nat_lit 5, nat_lit 0, [(nat_lit 23, (.ofNat (nat_lit 0))), (nat_lit 10, (.ofNat (nat_lit 0))), (nat_lit 11, (.ofNat (nat_lit 0)))]), (nat_lit 4, nat_lit 0, [(nat_lit 0, (.ofNat (nat_lit 0))), (nat_lit 0, (.ofNat (nat_lit 19)))]), (nat_lit 4, nat_lit 0, [(nat_lit 0, (.ofNat (nat_lit 0))), (nat_lit 0, (.ofNat (nat_lit 42)))]), (nat_lit 5, nat_lit 0, [(nat_lit 21, (.ofNat (nat_lit 0))), (nat_lit 9, (.ofNat (nat_lit 0))), (nat_lit 3, (.ofNat (nat_lit 0)))]), (nat_lit 0, nat_lit 1, [(nat_lit 0, (.ofNat (nat_lit 64))), (nat_lit 8, (.ofNat (nat_lit 0)))]), (nat_lit 4, nat_lit 0, [(nat_lit 0, (.ofNat (nat_lit 0))), (nat_lit 0, (.ofNat (nat_lit 19)))]), (nat_lit 5, nat_lit 0, [(nat_lit 20, (.ofNat (nat_lit 0))), (nat_lit 7, (.ofNat (nat_lit 0))), (nat_lit 2, (.ofNat (nat_lit 0)))]), (nat_lit 0, nat_lit 1, [(nat_lit 0, (.ofNat (nat_lit 64))), (nat_lit 6, (.ofNat (nat_lit 0)))]), (nat_lit 4, nat_lit 0, [(nat_lit 0, (.ofNat (nat_lit 0))), (nat_lit 0, (.ofNat (nat_lit 19)))]), (nat_lit 5, nat_lit 0, [(nat_lit 19, (.ofNat (nat_lit 0))), (nat_lit 5, (.ofNat (nat_lit 0))), (nat_lit 1, (.ofNat (nat_lit 0)))]), (nat_lit 0, nat_lit 1, [(nat_lit 0, (.ofNat (nat_lit 64))), (nat_lit 4, (.ofNat (nat_lit 0)))]), (nat_lit 4, nat_lit 0, [(nat_lit 0, (.ofNat (nat_lit 0))), (nat_lit 0, (.ofNat (nat_lit 19)))])]]
set_option maxHeartbeats 8000000 in
theorem zle_grown {ro : Nat → List Int32} : zMet pr_P pr_K pr_df ro (sm_X0 1 6) 0 141 tm_le [(.inr (.inr (.inl (nat_lit 0)))), (.inl (nat_lit 1, (.ofNat (nat_lit 0)))), (.inl (nat_lit 2, (.ofNat (nat_lit 0)))), (.inl (nat_lit 3, (.ofNat (nat_lit 0))))] 0 [(nat_lit 0, nat_lit 0, nat_lit 1), (nat_lit 0, nat_lit 3, nat_lit 2), (nat_lit 0, nat_lit 20, nat_lit 3), (nat_lit 0, nat_lit 21, nat_lit 4), (nat_lit 0, nat_lit 22, nat_lit 5), (nat_lit 0, nat_lit 23, nat_lit 6), (nat_lit 0, nat_lit 24, nat_lit 7), (nat_lit 0, nat_lit 25, nat_lit 8), (nat_lit 0, nat_lit 26, nat_lit 9), (nat_lit 0, nat_lit 27, nat_lit 10), (nat_lit 0, nat_lit 28, nat_lit 11), (nat_lit 0, nat_lit 29, nat_lit 12), (nat_lit 0, nat_lit 30, nat_lit 13), (nat_lit 0, nat_lit 31, nat_lit 14), (nat_lit 0, nat_lit 32, nat_lit 15), (nat_lit 0, nat_lit 33, nat_lit 16), (nat_lit 0, nat_lit 34, nat_lit 17), (nat_lit 0, nat_lit 35, nat_lit 18), (nat_lit 0, nat_lit 36, nat_lit 19), (nat_lit 0, nat_lit 37, nat_lit 20), (nat_lit 0, nat_lit 38, nat_lit 21), (nat_lit 0, nat_lit 39, nat_lit 22), (nat_lit 0, nat_lit 40, nat_lit 23), (nat_lit 0, nat_lit 47, nat_lit 24), (nat_lit 0, nat_lit 48, nat_lit 25), (nat_lit 0, nat_lit 50, nat_lit 26), (nat_lit 0, nat_lit 51, nat_lit 27), (nat_lit 0, nat_lit 52, nat_lit 28), (nat_lit 0, nat_lit 53, nat_lit 29), (nat_lit 0, nat_lit 54, nat_lit 30), (nat_lit 0, nat_lit 55, nat_lit 31), (nat_lit 0, nat_lit 56, nat_lit 32), (nat_lit 0, nat_lit 57, nat_lit 33), (nat_lit 0, nat_lit 58, nat_lit 34), (nat_lit 0, nat_lit 59, nat_lit 35), (nat_lit 0, nat_lit 72, nat_lit 36), (nat_lit 0, nat_lit 73, nat_lit 37), (nat_lit 0, nat_lit 76, nat_lit 38), (nat_lit 0, nat_lit 77, nat_lit 39), (nat_lit 0, nat_lit 79, nat_lit 40), (nat_lit 0, nat_lit 81, nat_lit 41), (nat_lit 0, nat_lit 82, nat_lit 42)] [] (fun xs η => sP wl_le zTr zPle_grown xs η ∧ pPle_grown xs η) (fun xs η y η' => sQ wl_le zTr zOle_grown zMle_grown xs η y η' ∧ pQle_grown xs η y η') :=
  zmet_alt (zmea_gen (mi := (nat_lit 3, nat_lit 1, nat_lit 8, nat_lit 4, nat_lit 0, tX8_grown)) (cd := []) (cu := []) (cs := []) (iv := zVle_grown) (po := [zOle_grown]) (pr := zPle_grown) (mods := zMle_grown) (D7 := zDle_grown) (D0 := zEle_grown) (Dm := zFle_grown) (f0 := 48) pCle_grown qCle_grown iCle_grown pPle_grown (fun xs η _ y η' => pQle_grown xs η y η') zX_low pr_mtR rfl (fun _ h => nomatch h) (by decide +kernel) (by decide +kernel) (by decide +kernel)
    (fun _ _ _ _ _ _ _ h => nomatch h)
    (by
      intro xs η hr hl hp hpp
      match xs, hl, hp, hpp with
      | [x1, x2, x3], _, hp, hpp =>
        refine List.forall_mem_cons.mpr ⟨?_, List.forall_mem_cons.mpr ⟨?_, List.forall_mem_cons.mpr ⟨?_, List.forall_mem_cons.mpr ⟨?_, List.forall_mem_cons.mpr ⟨?_, fun _ h => nomatch h⟩⟩⟩⟩⟩
        · show ∀ x4 : Int, x4 = η 0 (Int.toNat 19) → zok 0 x4 → ∀ x5 : Int, x5 = zd 0 1 64 x4 → (0 : Int) ≤ x5 ∧ (x5 : Int) < 128
          have hj : ∃ f, J_l 1 0 f η := by
            rcases hpp.1 with H | H
            · exact ⟨_, H.2⟩
            · exact ⟨_, H.2⟩
          obtain ⟨f, j1, j2, j3, j4⟩ := hj
          have cn := cz_n (η := η) (η 0 41).toNat
          have h0 : 0 ≤ η 0 42 := hpp.2.2.1
          have h1 : η 0 42 ≤ 95 := hpp.2.2.2
          have bd43 : (0 : Int) ≤ η 0 43 ∧ η 0 43 ≤ 8 := wf_ok (a := 43) (b := 43) (z := (0, 8)) hp.1 (by decide +kernel) (Nat.le_refl _) (Nat.le_refl _)
          have bd44 : (0 : Int) ≤ η 0 44 ∧ η 0 44 ≤ 64 := wf_ok (a := 44) (b := 44) (z := (0, 64)) hp.1 (by decide +kernel) (Nat.le_refl _) (Nat.le_refl _)
          have bd19 : (0 : Int) ≤ η 0 19 ∧ η 0 19 ≤ 64 := wf_ok (a := 19) (b := 19) (z := (0, 64)) hp.1 (by decide +kernel) (Nat.le_refl _) (Nat.le_refl _)
          intro x4 e4 r4 x5 e5
          replace e5 := zEq_i e5
          have bx1 : (0 : Int) ≤ x1 ∧ x1 ≤ 14 := hp.2.1.1
          have bx2 : ((-2147483648) : Int) ≤ x2 ∧ x2 ≤ 2147483647 := hp.2.1.2.1
          have bx3 : ((-2147483648) : Int) ≤ x3 ∧ x3 ≤ 2147483647 := hp.2.1.2.2.1
          have w0_0_19 : (0 : Int) ≤ η 0 19 ∧ η 0 19 ≤ 64 := wf_ok (a := 19) (b := 19) (z := (0, 64)) hp.1 (by decide +kernel) (Nat.le_refl _) (Nat.le_refl _)
          replace e4 : x4 = η 0 19 := e4
          replace r4 : -2147483648 ≤ x4 ∧ x4 ≤ 2147483647 := r4
          first
          | replace e5 : x5 = 64 + x4 := zd_a2 (zEq_o e5) (by clear e5; exact ⟨by omega, by omega⟩)
          | clear e5
          have fmE : zFm zMle_grown η η := zFm_rf
          have fr22_0 : ∀ j, η 22 j = η 22 j := fun _ => rfl
          have fr22 : ∀ j, η 22 j = η 22 j := fun _ => rfl
          have f0_41 : η 0 41 = η 0 41 := rfl
          have w0_0_43 : (0 : Int) ≤ η 0 43 ∧ η 0 43 ≤ 8 := wf_ok (a := 43) (b := 43) (z := (0, 8)) hp.1 (by decide +kernel) (Nat.le_refl _) (Nat.le_refl _)
          have f0_43 : η 0 43 = η 0 43 := rfl
          have f0_42 : η 0 42 = η 0 42 := rfl
          have f0_45 : η 0 45 = η 0 45 := rfl
          have f0_19 : η 0 19 = η 0 19 := rfl
          have w0_0_44 : (0 : Int) ≤ η 0 44 ∧ η 0 44 ≤ 64 := wf_ok (a := 44) (b := 44) (z := (0, 64)) hp.1 (by decide +kernel) (Nat.le_refl _) (Nat.le_refl _)
          have f0_44 : η 0 44 = η 0 44 := rfl
          exact ⟨by omega, by omega⟩
        · show ∀ x4 : Int, x4 = η 0 (Int.toNat 19) → zok 0 x4 → ∀ x5 : Int, x5 = zd 0 1 64 x4 → ∀ η1 : zE, η1 = zup η 19 (Int.toNat x5) x1 → ∀ x6 : Int, x6 = η1 0 (Int.toNat 19) → zok 0 x6 → ∀ x7 : Int, x7 = zd 0 1 64 x6 → (0 : Int) ≤ x7 ∧ (x7 : Int) < 128
          have hj : ∃ f, J_l 1 0 f η := by
            rcases hpp.1 with H | H
            · exact ⟨_, H.2⟩
            · exact ⟨_, H.2⟩
          obtain ⟨f, j1, j2, j3, j4⟩ := hj
          have cn := cz_n (η := η) (η 0 41).toNat
          have h0 : 0 ≤ η 0 42 := hpp.2.2.1
          have h1 : η 0 42 ≤ 95 := hpp.2.2.2
          have bd43 : (0 : Int) ≤ η 0 43 ∧ η 0 43 ≤ 8 := wf_ok (a := 43) (b := 43) (z := (0, 8)) hp.1 (by decide +kernel) (Nat.le_refl _) (Nat.le_refl _)
          have bd44 : (0 : Int) ≤ η 0 44 ∧ η 0 44 ≤ 64 := wf_ok (a := 44) (b := 44) (z := (0, 64)) hp.1 (by decide +kernel) (Nat.le_refl _) (Nat.le_refl _)
          have bd19 : (0 : Int) ≤ η 0 19 ∧ η 0 19 ≤ 64 := wf_ok (a := 19) (b := 19) (z := (0, 64)) hp.1 (by decide +kernel) (Nat.le_refl _) (Nat.le_refl _)
          intro x4 e4 r4 x5 e5 η1 eη1 x6 e6 r6 x7 e7
          replace e5 := zEq_i e5
          replace e7 := zEq_i e7
          have bx1 : (0 : Int) ≤ x1 ∧ x1 ≤ 14 := hp.2.1.1
          have bx2 : ((-2147483648) : Int) ≤ x2 ∧ x2 ≤ 2147483647 := hp.2.1.2.1
          have bx3 : ((-2147483648) : Int) ≤ x3 ∧ x3 ≤ 2147483647 := hp.2.1.2.2.1
          have w0_0_19 : (0 : Int) ≤ η 0 19 ∧ η 0 19 ≤ 64 := wf_ok (a := 19) (b := 19) (z := (0, 64)) hp.1 (by decide +kernel) (Nat.le_refl _) (Nat.le_refl _)
          replace e4 : x4 = η 0 19 := e4
          replace r4 : -2147483648 ≤ x4 ∧ x4 ≤ 2147483647 := r4
          first
          | replace e5 : x5 = 64 + x4 := zd_a2 (zEq_o e5) (by clear e5; exact ⟨by omega, by omega⟩)
          | clear e5
          have v1 : zEq (η1 0 19) (η 0 19) := by rw [eη1]; exact (zup_ne (fun e _ => absurd e (by decide))).trans rfl
          replace e6 : x6 = η 0 19 := e6.trans v1
          replace r6 : -2147483648 ≤ x6 ∧ x6 ≤ 2147483647 := r6
          first
          | replace e7 : x7 = 64 + x6 := zd_a2 (zEq_o e7) (by clear e7; exact ⟨by omega, by omega⟩)
          | clear e7
          have fm1 : zFm zMle_grown η η1 := by rw [eη1]; exact zFm_up zFm_rf (zin2_of (q := (19, 0)) (by decide) rfl (Or.inl rfl))
          have fmE : zFm zMle_grown η η1 := fm1
          have fr22_0 : ∀ j, η 22 j = η 22 j := fun _ => rfl
          have v2 : ∀ j, η1 22 j = η 22 j := fun j => by rw [eη1]; exact zup_ne (fun e _ => absurd e (by decide))
          have fr22_1 : ∀ j, η1 22 j = η 22 j := v2
          have fr22 : ∀ j, η1 22 j = η 22 j := v2
          have v4 : zEq (η1 0 41) (η 0 41) := by rw [eη1]; exact (zup_ne (fun e _ => absurd e (by decide))).trans rfl
          have f0_41 : η1 0 41 = η 0 41 := v4
          have w0_0_43 : (0 : Int) ≤ η 0 43 ∧ η 0 43 ≤ 8 := wf_ok (a := 43) (b := 43) (z := (0, 8)) hp.1 (by decide +kernel) (Nat.le_refl _) (Nat.le_refl _)
          have v6 : zEq (η1 0 43) (η 0 43) := by rw [eη1]; exact (zup_ne (fun e _ => absurd e (by decide))).trans rfl
          have f0_43 : η1 0 43 = η 0 43 := v6
          have v8 : zEq (η1 0 42) (η 0 42) := by rw [eη1]; exact (zup_ne (fun e _ => absurd e (by decide))).trans rfl
          have f0_42 : η1 0 42 = η 0 42 := v8
          have v10 : zEq (η1 0 45) (η 0 45) := by rw [eη1]; exact (zup_ne (fun e _ => absurd e (by decide))).trans rfl
          have f0_45 : η1 0 45 = η 0 45 := v10
          have f0_19 : η1 0 19 = η 0 19 := v1
          have w0_0_44 : (0 : Int) ≤ η 0 44 ∧ η 0 44 ≤ 64 := wf_ok (a := 44) (b := 44) (z := (0, 64)) hp.1 (by decide +kernel) (Nat.le_refl _) (Nat.le_refl _)
          have v12 : zEq (η1 0 44) (η 0 44) := by rw [eη1]; exact (zup_ne (fun e _ => absurd e (by decide))).trans rfl
          have f0_44 : η1 0 44 = η 0 44 := v12
          exact ⟨by omega, by omega⟩
        · show ∀ x4 : Int, x4 = η 0 (Int.toNat 19) → zok 0 x4 → ∀ x5 : Int, x5 = zd 0 1 64 x4 → ∀ η1 : zE, η1 = zup η 19 (Int.toNat x5) x1 → ∀ x6 : Int, x6 = η1 0 (Int.toNat 19) → zok 0 x6 → ∀ x7 : Int, x7 = zd 0 1 64 x6 → ∀ η2 : zE, η2 = zup η1 20 (Int.toNat x7) x2 → ∀ x8 : Int, x8 = η2 0 (Int.toNat 19) → zok 0 x8 → ∀ x9 : Int, x9 = zd 0 1 64 x8 → (0 : Int) ≤ x9 ∧ (x9 : Int) < 128
          have hj : ∃ f, J_l 1 0 f η := by
            rcases hpp.1 with H | H
            · exact ⟨_, H.2⟩
            · exact ⟨_, H.2⟩
          obtain ⟨f, j1, j2, j3, j4⟩ := hj
          have cn := cz_n (η := η) (η 0 41).toNat
          have h0 : 0 ≤ η 0 42 := hpp.2.2.1
          have h1 : η 0 42 ≤ 95 := hpp.2.2.2
          have bd43 : (0 : Int) ≤ η 0 43 ∧ η 0 43 ≤ 8 := wf_ok (a := 43) (b := 43) (z := (0, 8)) hp.1 (by decide +kernel) (Nat.le_refl _) (Nat.le_refl _)
          have bd44 : (0 : Int) ≤ η 0 44 ∧ η 0 44 ≤ 64 := wf_ok (a := 44) (b := 44) (z := (0, 64)) hp.1 (by decide +kernel) (Nat.le_refl _) (Nat.le_refl _)
          have bd19 : (0 : Int) ≤ η 0 19 ∧ η 0 19 ≤ 64 := wf_ok (a := 19) (b := 19) (z := (0, 64)) hp.1 (by decide +kernel) (Nat.le_refl _) (Nat.le_refl _)
          intro x4 e4 r4 x5 e5 η1 eη1 x6 e6 r6 x7 e7 η2 eη2 x8 e8 r8 x9 e9
          replace e5 := zEq_i e5
          replace e7 := zEq_i e7
          replace e9 := zEq_i e9
          have bx1 : (0 : Int) ≤ x1 ∧ x1 ≤ 14 := hp.2.1.1
          have bx2 : ((-2147483648) : Int) ≤ x2 ∧ x2 ≤ 2147483647 := hp.2.1.2.1
          have bx3 : ((-2147483648) : Int) ≤ x3 ∧ x3 ≤ 2147483647 := hp.2.1.2.2.1
          have w0_0_19 : (0 : Int) ≤ η 0 19 ∧ η 0 19 ≤ 64 := wf_ok (a := 19) (b := 19) (z := (0, 64)) hp.1 (by decide +kernel) (Nat.le_refl _) (Nat.le_refl _)
          replace e4 : x4 = η 0 19 := e4
          replace r4 : -2147483648 ≤ x4 ∧ x4 ≤ 2147483647 := r4
          first
          | replace e5 : x5 = 64 + x4 := zd_a2 (zEq_o e5) (by clear e5; exact ⟨by omega, by omega⟩)
          | clear e5
          have v1 : zEq (η1 0 19) (η 0 19) := by rw [eη1]; exact (zup_ne (fun e _ => absurd e (by decide))).trans rfl
          replace e6 : x6 = η 0 19 := e6.trans v1
          replace r6 : -2147483648 ≤ x6 ∧ x6 ≤ 2147483647 := r6
          first
          | replace e7 : x7 = 64 + x6 := zd_a2 (zEq_o e7) (by clear e7; exact ⟨by omega, by omega⟩)
          | clear e7
          have v2 : zEq (η2 0 19) (η 0 19) := by rw [eη2]; exact (zup_ne (fun e _ => absurd e (by decide))).trans v1
          replace e8 : x8 = η 0 19 := e8.trans v2
          replace r8 : -2147483648 ≤ x8 ∧ x8 ≤ 2147483647 := r8
          first
          | replace e9 : x9 = 64 + x8 := zd_a2 (zEq_o e9) (by clear e9; exact ⟨by omega, by omega⟩)
          | clear e9
          have fm1 : zFm zMle_grown η η1 := by rw [eη1]; exact zFm_up zFm_rf (zin2_of (q := (19, 0)) (by decide) rfl (Or.inl rfl))
          have fm2 : zFm zMle_grown η η2 := by rw [eη2]; exact zFm_up fm1 (zin2_of (q := (20, 0)) (by decide) rfl (Or.inl rfl))
          have fmE : zFm zMle_grown η η2 := fm2
          have fr22_0 : ∀ j, η 22 j = η 22 j := fun _ => rfl
          have v3 : ∀ j, η1 22 j = η 22 j := fun j => by rw [eη1]; exact zup_ne (fun e _ => absurd e (by decide))
          have fr22_1 : ∀ j, η1 22 j = η 22 j := v3
          have v4 : ∀ j, η2 22 j = η 22 j := fun j => by rw [eη2]; exact (zup_ne (fun e _ => absurd e (by decide))).trans (v3 j)
          have fr22_2 : ∀ j, η2 22 j = η 22 j := v4
          have fr22 : ∀ j, η2 22 j = η 22 j := v4
          have v6 : zEq (η1 0 41) (η 0 41) := by rw [eη1]; exact (zup_ne (fun e _ => absurd e (by decide))).trans rfl
          have v7 : zEq (η2 0 41) (η 0 41) := by rw [eη2]; exact (zup_ne (fun e _ => absurd e (by decide))).trans v6
          have f0_41 : η2 0 41 = η 0 41 := v7
          have w0_0_43 : (0 : Int) ≤ η 0 43 ∧ η 0 43 ≤ 8 := wf_ok (a := 43) (b := 43) (z := (0, 8)) hp.1 (by decide +kernel) (Nat.le_refl _) (Nat.le_refl _)
          have v9 : zEq (η1 0 43) (η 0 43) := by rw [eη1]; exact (zup_ne (fun e _ => absurd e (by decide))).trans rfl
          have v10 : zEq (η2 0 43) (η 0 43) := by rw [eη2]; exact (zup_ne (fun e _ => absurd e (by decide))).trans v9
          have f0_43 : η2 0 43 = η 0 43 := v10
          have v12 : zEq (η1 0 42) (η 0 42) := by rw [eη1]; exact (zup_ne (fun e _ => absurd e (by decide))).trans rfl
          have v13 : zEq (η2 0 42) (η 0 42) := by rw [eη2]; exact (zup_ne (fun e _ => absurd e (by decide))).trans v12
          have f0_42 : η2 0 42 = η 0 42 := v13
          have v15 : zEq (η1 0 45) (η 0 45) := by rw [eη1]; exact (zup_ne (fun e _ => absurd e (by decide))).trans rfl
          have v16 : zEq (η2 0 45) (η 0 45) := by rw [eη2]; exact (zup_ne (fun e _ => absurd e (by decide))).trans v15
          have f0_45 : η2 0 45 = η 0 45 := v16
          have f0_19 : η2 0 19 = η 0 19 := v2
          have w0_0_44 : (0 : Int) ≤ η 0 44 ∧ η 0 44 ≤ 64 := wf_ok (a := 44) (b := 44) (z := (0, 64)) hp.1 (by decide +kernel) (Nat.le_refl _) (Nat.le_refl _)
          have v18 : zEq (η1 0 44) (η 0 44) := by rw [eη1]; exact (zup_ne (fun e _ => absurd e (by decide))).trans rfl
          have v19 : zEq (η2 0 44) (η 0 44) := by rw [eη2]; exact (zup_ne (fun e _ => absurd e (by decide))).trans v18
          have f0_44 : η2 0 44 = η 0 44 := v19
          exact ⟨by omega, by omega⟩
        · show ∀ x4 : Int, x4 = η 0 (Int.toNat 19) → zok 0 x4 → ∀ x5 : Int, x5 = zd 0 1 64 x4 → ∀ η1 : zE, η1 = zup η 19 (Int.toNat x5) x1 → ∀ x6 : Int, x6 = η1 0 (Int.toNat 19) → zok 0 x6 → ∀ x7 : Int, x7 = zd 0 1 64 x6 → ∀ η2 : zE, η2 = zup η1 20 (Int.toNat x7) x2 → ∀ x8 : Int, x8 = η2 0 (Int.toNat 19) → zok 0 x8 → ∀ x9 : Int, x9 = zd 0 1 64 x8 → ∀ η3 : zE, η3 = zup η2 21 (Int.toNat x9) x3 → ∀ x10 : Int, x10 = η3 0 (Int.toNat 42) → zok 0 x10 → ∀ x11 : Int, x11 = η3 0 (Int.toNat 19) → zok 0 x11 → (0 : Int) ≤ x10 ∧ (x10 : Int) < 96
          have hj : ∃ f, J_l 1 0 f η := by
            rcases hpp.1 with H | H
            · exact ⟨_, H.2⟩
            · exact ⟨_, H.2⟩
          obtain ⟨f, j1, j2, j3, j4⟩ := hj
          have cn := cz_n (η := η) (η 0 41).toNat
          have h0 : 0 ≤ η 0 42 := hpp.2.2.1
          have h1 : η 0 42 ≤ 95 := hpp.2.2.2
          have bd43 : (0 : Int) ≤ η 0 43 ∧ η 0 43 ≤ 8 := wf_ok (a := 43) (b := 43) (z := (0, 8)) hp.1 (by decide +kernel) (Nat.le_refl _) (Nat.le_refl _)
          have bd44 : (0 : Int) ≤ η 0 44 ∧ η 0 44 ≤ 64 := wf_ok (a := 44) (b := 44) (z := (0, 64)) hp.1 (by decide +kernel) (Nat.le_refl _) (Nat.le_refl _)
          have bd19 : (0 : Int) ≤ η 0 19 ∧ η 0 19 ≤ 64 := wf_ok (a := 19) (b := 19) (z := (0, 64)) hp.1 (by decide +kernel) (Nat.le_refl _) (Nat.le_refl _)
          intro x4 e4 r4 x5 e5 η1 eη1 x6 e6 r6 x7 e7 η2 eη2 x8 e8 r8 x9 e9 η3 eη3 x10 e10 r10 x11 e11 r11
          replace e5 := zEq_i e5
          replace e7 := zEq_i e7
          replace e9 := zEq_i e9
          have bx1 : (0 : Int) ≤ x1 ∧ x1 ≤ 14 := hp.2.1.1
          have bx2 : ((-2147483648) : Int) ≤ x2 ∧ x2 ≤ 2147483647 := hp.2.1.2.1
          have bx3 : ((-2147483648) : Int) ≤ x3 ∧ x3 ≤ 2147483647 := hp.2.1.2.2.1
          have w0_0_19 : (0 : Int) ≤ η 0 19 ∧ η 0 19 ≤ 64 := wf_ok (a := 19) (b := 19) (z := (0, 64)) hp.1 (by decide +kernel) (Nat.le_refl _) (Nat.le_refl _)
          replace e4 : x4 = η 0 19 := e4
          replace r4 : -2147483648 ≤ x4 ∧ x4 ≤ 2147483647 := r4
          first
          | replace e5 : x5 = 64 + x4 := zd_a2 (zEq_o e5) (by clear e5; exact ⟨by omega, by omega⟩)
          | clear e5
          have v1 : zEq (η1 0 19) (η 0 19) := by rw [eη1]; exact (zup_ne (fun e _ => absurd e (by decide))).trans rfl
          replace e6 : x6 = η 0 19 := e6.trans v1
          replace r6 : -2147483648 ≤ x6 ∧ x6 ≤ 2147483647 := r6
          first
          | replace e7 : x7 = 64 + x6 := zd_a2 (zEq_o e7) (by clear e7; exact ⟨by omega, by omega⟩)
          | clear e7
          have v2 : zEq (η2 0 19) (η 0 19) := by rw [eη2]; exact (zup_ne (fun e _ => absurd e (by decide))).trans v1
          replace e8 : x8 = η 0 19 := e8.trans v2
          replace r8 : -2147483648 ≤ x8 ∧ x8 ≤ 2147483647 := r8
          first
          | replace e9 : x9 = 64 + x8 := zd_a2 (zEq_o e9) (by clear e9; exact ⟨by omega, by omega⟩)
          | clear e9
          have v4 : zEq (η1 0 42) (η 0 42) := by rw [eη1]; exact (zup_ne (fun e _ => absurd e (by decide))).trans rfl
          have v5 : zEq (η2 0 42) (η 0 42) := by rw [eη2]; exact (zup_ne (fun e _ => absurd e (by decide))).trans v4
          have v6 : zEq (η3 0 42) (η 0 42) := by rw [eη3]; exact (zup_ne (fun e _ => absurd e (by decide))).trans v5
          replace e10 : x10 = η 0 42 := e10.trans v6
          replace r10 : -2147483648 ≤ x10 ∧ x10 ≤ 2147483647 := r10
          have v7 : zEq (η3 0 19) (η 0 19) := by rw [eη3]; exact (zup_ne (fun e _ => absurd e (by decide))).trans v2
          replace e11 : x11 = η 0 19 := e11.trans v7
          replace r11 : -2147483648 ≤ x11 ∧ x11 ≤ 2147483647 := r11
          have fm1 : zFm zMle_grown η η1 := by rw [eη1]; exact zFm_up zFm_rf (zin2_of (q := (19, 0)) (by decide) rfl (Or.inl rfl))
          have fm2 : zFm zMle_grown η η2 := by rw [eη2]; exact zFm_up fm1 (zin2_of (q := (20, 0)) (by decide) rfl (Or.inl rfl))
          have fm3 : zFm zMle_grown η η3 := by rw [eη3]; exact zFm_up fm2 (zin2_of (q := (21, 0)) (by decide) rfl (Or.inl rfl))
          have fmE : zFm zMle_grown η η3 := fm3
          have fr22_0 : ∀ j, η 22 j = η 22 j := fun _ => rfl
          have v8 : ∀ j, η1 22 j = η 22 j := fun j => by rw [eη1]; exact zup_ne (fun e _ => absurd e (by decide))
          have fr22_1 : ∀ j, η1 22 j = η 22 j := v8
          have v9 : ∀ j, η2 22 j = η 22 j := fun j => by rw [eη2]; exact (zup_ne (fun e _ => absurd e (by decide))).trans (v8 j)
          have fr22_2 : ∀ j, η2 22 j = η 22 j := v9
          have v10 : ∀ j, η3 22 j = η 22 j := fun j => by rw [eη3]; exact (zup_ne (fun e _ => absurd e (by decide))).trans (v9 j)
          have fr22_3 : ∀ j, η3 22 j = η 22 j := v10
          have fr22 : ∀ j, η3 22 j = η 22 j := v10
          have v12 : zEq (η1 0 41) (η 0 41) := by rw [eη1]; exact (zup_ne (fun e _ => absurd e (by decide))).trans rfl
          have v13 : zEq (η2 0 41) (η 0 41) := by rw [eη2]; exact (zup_ne (fun e _ => absurd e (by decide))).trans v12
          have v14 : zEq (η3 0 41) (η 0 41) := by rw [eη3]; exact (zup_ne (fun e _ => absurd e (by decide))).trans v13
          have f0_41 : η3 0 41 = η 0 41 := v14
          have w0_0_43 : (0 : Int) ≤ η 0 43 ∧ η 0 43 ≤ 8 := wf_ok (a := 43) (b := 43) (z := (0, 8)) hp.1 (by decide +kernel) (Nat.le_refl _) (Nat.le_refl _)
          have v16 : zEq (η1 0 43) (η 0 43) := by rw [eη1]; exact (zup_ne (fun e _ => absurd e (by decide))).trans rfl
          have v17 : zEq (η2 0 43) (η 0 43) := by rw [eη2]; exact (zup_ne (fun e _ => absurd e (by decide))).trans v16
          have v18 : zEq (η3 0 43) (η 0 43) := by rw [eη3]; exact (zup_ne (fun e _ => absurd e (by decide))).trans v17
          have f0_43 : η3 0 43 = η 0 43 := v18
          have f0_42 : η3 0 42 = η 0 42 := v6
          have v20 : zEq (η1 0 45) (η 0 45) := by rw [eη1]; exact (zup_ne (fun e _ => absurd e (by decide))).trans rfl
          have v21 : zEq (η2 0 45) (η 0 45) := by rw [eη2]; exact (zup_ne (fun e _ => absurd e (by decide))).trans v20
          have v22 : zEq (η3 0 45) (η 0 45) := by rw [eη3]; exact (zup_ne (fun e _ => absurd e (by decide))).trans v21
          have f0_45 : η3 0 45 = η 0 45 := v22
          have f0_19 : η3 0 19 = η 0 19 := v7
          have w0_0_44 : (0 : Int) ≤ η 0 44 ∧ η 0 44 ≤ 64 := wf_ok (a := 44) (b := 44) (z := (0, 64)) hp.1 (by decide +kernel) (Nat.le_refl _) (Nat.le_refl _)
          have v24 : zEq (η1 0 44) (η 0 44) := by rw [eη1]; exact (zup_ne (fun e _ => absurd e (by decide))).trans rfl
          have v25 : zEq (η2 0 44) (η 0 44) := by rw [eη2]; exact (zup_ne (fun e _ => absurd e (by decide))).trans v24
          have v26 : zEq (η3 0 44) (η 0 44) := by rw [eη3]; exact (zup_ne (fun e _ => absurd e (by decide))).trans v25
          have f0_44 : η3 0 44 = η 0 44 := v26
          exact ⟨by omega, by omega⟩
        · show ∀ x4 : Int, x4 = η 0 (Int.toNat 19) → zok 0 x4 → ∀ x5 : Int, x5 = zd 0 1 64 x4 → ∀ η1 : zE, η1 = zup η 19 (Int.toNat x5) x1 → ∀ x6 : Int, x6 = η1 0 (Int.toNat 19) → zok 0 x6 → ∀ x7 : Int, x7 = zd 0 1 64 x6 → ∀ η2 : zE, η2 = zup η1 20 (Int.toNat x7) x2 → ∀ x8 : Int, x8 = η2 0 (Int.toNat 19) → zok 0 x8 → ∀ x9 : Int, x9 = zd 0 1 64 x8 → ∀ η3 : zE, η3 = zup η2 21 (Int.toNat x9) x3 → ∀ x10 : Int, x10 = η3 0 (Int.toNat 42) → zok 0 x10 → ∀ x11 : Int, x11 = η3 0 (Int.toNat 19) → zok 0 x11 → ∀ η4 : zE, η4 = zup η3 23 (Int.toNat x10) x11 → ∀ x12 : Int, x12 = η4 0 (Int.toNat 42) → zok 0 x12 → ∀ x13 : Int, x13 = zd 0 1 x12 1 → ∀ η5 : zE, η5 = zup η4 0 (Int.toNat 42) x13 → ∀ x14 : Int, x14 = η5 0 (Int.toNat 19) → zok 0 x14 → ∀ x15 : Int, x15 = zd 0 1 x14 1 → ∀ η6 : zE, η6 = zup η5 0 (Int.toNat 19) x15 → (fun j y η1 => zsQ wl_le zTr [zOle_grown] zMle_grown [x1, x2, x3] η j y η1 ∧ pQle_grown [x1, x2, x3] η y η1) 0 0 η6
          intro x4 e4 r4 x5 e5 η1 eη1 x6 e6 r6 x7 e7 η2 eη2 x8 e8 r8 x9 e9 η3 eη3 x10 e10 r10 x11 e11 r11 η4 eη4 x12 e12 r12 x13 e13 η5 eη5 x14 e14 r14 x15 e15 η6 eη6
          refine yj_b ?_ ?_
          · have hj : ∃ f, J_l 1 0 f η := by
              rcases hpp.1 with H | H
              · exact ⟨_, H.2⟩
              · exact ⟨_, H.2⟩
            obtain ⟨f, j1, j2, j3, j4⟩ := hj
            have cn := cz_n (η := η) (η 0 41).toNat
            have h0 : 0 ≤ η 0 42 := hpp.2.2.1
            have h1 : η 0 42 ≤ 95 := hpp.2.2.2
            have bd43 : (0 : Int) ≤ η 0 43 ∧ η 0 43 ≤ 8 := wf_ok (a := 43) (b := 43) (z := (0, 8)) hp.1 (by decide +kernel) (Nat.le_refl _) (Nat.le_refl _)
            have bd44 : (0 : Int) ≤ η 0 44 ∧ η 0 44 ≤ 64 := wf_ok (a := 44) (b := 44) (z := (0, 64)) hp.1 (by decide +kernel) (Nat.le_refl _) (Nat.le_refl _)
            have bd19 : (0 : Int) ≤ η 0 19 ∧ η 0 19 ≤ 64 := wf_ok (a := 19) (b := 19) (z := (0, 64)) hp.1 (by decide +kernel) (Nat.le_refl _) (Nat.le_refl _)
            replace e5 := zEq_i e5
            replace e7 := zEq_i e7
            replace e9 := zEq_i e9
            replace e13 := zEq_i e13
            replace e15 := zEq_i e15
            have bx1 : (0 : Int) ≤ x1 ∧ x1 ≤ 14 := hp.2.1.1
            have bx2 : ((-2147483648) : Int) ≤ x2 ∧ x2 ≤ 2147483647 := hp.2.1.2.1
            have bx3 : ((-2147483648) : Int) ≤ x3 ∧ x3 ≤ 2147483647 := hp.2.1.2.2.1
            have w0_0_19 : (0 : Int) ≤ η 0 19 ∧ η 0 19 ≤ 64 := wf_ok (a := 19) (b := 19) (z := (0, 64)) hp.1 (by decide +kernel) (Nat.le_refl _) (Nat.le_refl _)
            replace e4 : x4 = η 0 19 := e4
            replace r4 : -2147483648 ≤ x4 ∧ x4 ≤ 2147483647 := r4
            first
            | replace e5 : x5 = 64 + x4 := zd_a2 (zEq_o e5) (by clear e5; exact ⟨by omega, by omega⟩)
            | clear e5
            have wb1 : wB wl_le zTr η1 := by rw [eη1]; exact wk_ok (a := 0) (b := 127) (z := ((-2147483648), 2147483647)) zTr_k (GR := []) hp.1 (by decide +kernel) (by omega) (by omega) (show ((-2147483648) : Int) ≤ x1 by omega) (show x1 ≤ (2147483647 : Int) by omega)
            have v1 : zEq (η1 0 19) (η 0 19) := by rw [eη1]; exact (zup_ne (fun e _ => absurd e (by decide))).trans rfl
            replace e6 : x6 = η 0 19 := e6.trans v1
            replace r6 : -2147483648 ≤ x6 ∧ x6 ≤ 2147483647 := r6
            first
            | replace e7 : x7 = 64 + x6 := zd_a2 (zEq_o e7) (by clear e7; exact ⟨by omega, by omega⟩)
            | clear e7
            have wb2 : wB wl_le zTr η2 := by rw [eη2]; exact wk_ok (a := 0) (b := 127) (z := ((-2147483648), 2147483647)) zTr_k (GR := []) wb1 (by decide +kernel) (by omega) (by omega) (show ((-2147483648) : Int) ≤ x2 by omega) (show x2 ≤ (2147483647 : Int) by omega)
            have v2 : zEq (η2 0 19) (η 0 19) := by rw [eη2]; exact (zup_ne (fun e _ => absurd e (by decide))).trans v1
            replace e8 : x8 = η 0 19 := e8.trans v2
            replace r8 : -2147483648 ≤ x8 ∧ x8 ≤ 2147483647 := r8
            first
            | replace e9 : x9 = 64 + x8 := zd_a2 (zEq_o e9) (by clear e9; exact ⟨by omega, by omega⟩)
            | clear e9
            have wb3 : wB wl_le zTr η3 := by rw [eη3]; exact wk_ok (a := 0) (b := 127) (z := ((-2147483648), 2147483647)) zTr_k (GR := []) wb2 (by decide +kernel) (by omega) (by omega) (show ((-2147483648) : Int) ≤ x3 by omega) (show x3 ≤ (2147483647 : Int) by omega)
            have v4 : zEq (η1 0 42) (η 0 42) := by rw [eη1]; exact (zup_ne (fun e _ => absurd e (by decide))).trans rfl
            have v5 : zEq (η2 0 42) (η 0 42) := by rw [eη2]; exact (zup_ne (fun e _ => absurd e (by decide))).trans v4
            have v6 : zEq (η3 0 42) (η 0 42) := by rw [eη3]; exact (zup_ne (fun e _ => absurd e (by decide))).trans v5
            replace e10 : x10 = η 0 42 := e10.trans v6
            replace r10 : -2147483648 ≤ x10 ∧ x10 ≤ 2147483647 := r10
            have v7 : zEq (η3 0 19) (η 0 19) := by rw [eη3]; exact (zup_ne (fun e _ => absurd e (by decide))).trans v2
            replace e11 : x11 = η 0 19 := e11.trans v7
            replace r11 : -2147483648 ≤ x11 ∧ x11 ≤ 2147483647 := r11
            have wb4 : wB wl_le zTr η4 := by rw [eη4]; exact wk_ok (a := 0) (b := 95) (z := (0, 63)) zTr_k (GR := []) wb3 (by decide +kernel) (by omega) (by omega) (show (0 : Int) ≤ x11 by omega) (show x11 ≤ (63 : Int) by omega)
            have v8 : zEq (η4 0 42) (η 0 42) := by rw [eη4]; exact (zup_ne (fun e _ => absurd e (by decide))).trans v6
            replace e12 : x12 = η 0 42 := e12.trans v8
            replace r12 : -2147483648 ≤ x12 ∧ x12 ≤ 2147483647 := r12
            first
            | replace e13 : x13 = x12 + 1 := zd_a2 (zEq_o e13) (by clear e13; exact ⟨by omega, by omega⟩)
            | clear e13
            have c4_0_42 : η4 0 42 = η 0 42 := v8
            have wb5 : wB wl_le zTr η5 := by rw [eη5]; exact wk_ok (a := 42) (b := 42) (z := ((-2147483648), 2147483647)) zTr_k (GR := []) wb4 (by decide +kernel) (by decide) (by decide) (show ((-2147483648) : Int) ≤ x13 by omega) (show x13 ≤ (2147483647 : Int) by omega)
            have v9 : zEq (η4 0 19) (η 0 19) := by rw [eη4]; exact (zup_ne (fun e _ => absurd e (by decide))).trans v7
            have v10 : zEq (η5 0 19) (η 0 19) := by rw [eη5]; exact (zup_ne (fun _ e => absurd e (by decide))).trans v9
            replace e14 : x14 = η 0 19 := e14.trans v10
            replace r14 : -2147483648 ≤ x14 ∧ x14 ≤ 2147483647 := r14
            first
            | replace e15 : x15 = x14 + 1 := zd_a2 (zEq_o e15) (by clear e15; exact ⟨by omega, by omega⟩)
            | clear e15
            have c5_0_19 : η5 0 19 = η 0 19 := v10
            have wb6 : wB wl_le zTr η6 := by rw [eη6]; exact wk_ok (a := 19) (b := 19) (z := (0, 64)) zTr_k (GR := []) wb5 (by decide +kernel) (by decide) (by decide) (show (0 : Int) ≤ x15 by omega) (show x15 ≤ (64 : Int) by omega)
            have fm1 : zFm zMle_grown η η1 := by rw [eη1]; exact zFm_up zFm_rf (zin2_of (q := (19, 0)) (by decide) rfl (Or.inl rfl))
            have fm2 : zFm zMle_grown η η2 := by rw [eη2]; exact zFm_up fm1 (zin2_of (q := (20, 0)) (by decide) rfl (Or.inl rfl))
            have fm3 : zFm zMle_grown η η3 := by rw [eη3]; exact zFm_up fm2 (zin2_of (q := (21, 0)) (by decide) rfl (Or.inl rfl))
            have fm4 : zFm zMle_grown η η4 := by rw [eη4]; exact zFm_up fm3 (zin2_of (q := (23, 0)) (by decide) rfl (Or.inl rfl))
            have fm5 : zFm zMle_grown η η5 := by rw [eη5]; exact zFm_up fm4 rfl
            have fm6 : zFm zMle_grown η η6 := by rw [eη6]; exact zFm_up fm5 rfl
            have fmE : zFm zMle_grown η η6 := fm6
            have fr22_0 : ∀ j, η 22 j = η 22 j := fun _ => rfl
            have v11 : ∀ j, η1 22 j = η 22 j := fun j => by rw [eη1]; exact zup_ne (fun e _ => absurd e (by decide))
            have fr22_1 : ∀ j, η1 22 j = η 22 j := v11
            have v12 : ∀ j, η2 22 j = η 22 j := fun j => by rw [eη2]; exact (zup_ne (fun e _ => absurd e (by decide))).trans (v11 j)
            have fr22_2 : ∀ j, η2 22 j = η 22 j := v12
            have v13 : ∀ j, η3 22 j = η 22 j := fun j => by rw [eη3]; exact (zup_ne (fun e _ => absurd e (by decide))).trans (v12 j)
            have fr22_3 : ∀ j, η3 22 j = η 22 j := v13
            have v14 : ∀ j, η4 22 j = η 22 j := fun j => by rw [eη4]; exact (zup_ne (fun e _ => absurd e (by decide))).trans (v13 j)
            have fr22_4 : ∀ j, η4 22 j = η 22 j := v14
            have v15 : ∀ j, η5 22 j = η 22 j := fun j => by rw [eη5]; exact (zup_ne (fun e _ => absurd e (by decide))).trans (v14 j)
            have fr22_5 : ∀ j, η5 22 j = η 22 j := v15
            have v16 : ∀ j, η6 22 j = η 22 j := fun j => by rw [eη6]; exact (zup_ne (fun e _ => absurd e (by decide))).trans (v15 j)
            have fr22_6 : ∀ j, η6 22 j = η 22 j := v16
            have fr22 : ∀ j, η6 22 j = η 22 j := v16
            have v18 : zEq (η1 0 41) (η 0 41) := by rw [eη1]; exact (zup_ne (fun e _ => absurd e (by decide))).trans rfl
            have v19 : zEq (η2 0 41) (η 0 41) := by rw [eη2]; exact (zup_ne (fun e _ => absurd e (by decide))).trans v18
            have v20 : zEq (η3 0 41) (η 0 41) := by rw [eη3]; exact (zup_ne (fun e _ => absurd e (by decide))).trans v19
            have v21 : zEq (η4 0 41) (η 0 41) := by rw [eη4]; exact (zup_ne (fun e _ => absurd e (by decide))).trans v20
            have v22 : zEq (η5 0 41) (η 0 41) := by rw [eη5]; exact (zup_ne (fun _ e => absurd e (by decide))).trans v21
            have v23 : zEq (η6 0 41) (η 0 41) := by rw [eη6]; exact (zup_ne (fun _ e => absurd e (by decide))).trans v22
            have f0_41 : η6 0 41 = η 0 41 := v23
            have w0_0_43 : (0 : Int) ≤ η 0 43 ∧ η 0 43 ≤ 8 := wf_ok (a := 43) (b := 43) (z := (0, 8)) hp.1 (by decide +kernel) (Nat.le_refl _) (Nat.le_refl _)
            have v25 : zEq (η1 0 43) (η 0 43) := by rw [eη1]; exact (zup_ne (fun e _ => absurd e (by decide))).trans rfl
            have v26 : zEq (η2 0 43) (η 0 43) := by rw [eη2]; exact (zup_ne (fun e _ => absurd e (by decide))).trans v25
            have v27 : zEq (η3 0 43) (η 0 43) := by rw [eη3]; exact (zup_ne (fun e _ => absurd e (by decide))).trans v26
            have v28 : zEq (η4 0 43) (η 0 43) := by rw [eη4]; exact (zup_ne (fun e _ => absurd e (by decide))).trans v27
            have v29 : zEq (η5 0 43) (η 0 43) := by rw [eη5]; exact (zup_ne (fun _ e => absurd e (by decide))).trans v28
            have v30 : zEq (η6 0 43) (η 0 43) := by rw [eη6]; exact (zup_ne (fun _ e => absurd e (by decide))).trans v29
            have f0_43 : η6 0 43 = η 0 43 := v30
            have v31 : zEq (η5 0 42) (x13) := by rw [eη5]; exact zup_eq
            have v32 : zEq (η6 0 42) (x13) := by rw [eη6]; exact (zup_ne (fun _ e => absurd e (by decide))).trans v31
            have f0_42 : η6 0 42 = x13 := v32
            have v34 : zEq (η1 0 45) (η 0 45) := by rw [eη1]; exact (zup_ne (fun e _ => absurd e (by decide))).trans rfl
            have v35 : zEq (η2 0 45) (η 0 45) := by rw [eη2]; exact (zup_ne (fun e _ => absurd e (by decide))).trans v34
            have v36 : zEq (η3 0 45) (η 0 45) := by rw [eη3]; exact (zup_ne (fun e _ => absurd e (by decide))).trans v35
            have v37 : zEq (η4 0 45) (η 0 45) := by rw [eη4]; exact (zup_ne (fun e _ => absurd e (by decide))).trans v36
            have v38 : zEq (η5 0 45) (η 0 45) := by rw [eη5]; exact (zup_ne (fun _ e => absurd e (by decide))).trans v37
            have v39 : zEq (η6 0 45) (η 0 45) := by rw [eη6]; exact (zup_ne (fun _ e => absurd e (by decide))).trans v38
            have f0_45 : η6 0 45 = η 0 45 := v39
            have v40 : zEq (η6 0 19) (x15) := by rw [eη6]; exact zup_eq
            have f0_19 : η6 0 19 = x15 := v40
            have w0_0_44 : (0 : Int) ≤ η 0 44 ∧ η 0 44 ≤ 64 := wf_ok (a := 44) (b := 44) (z := (0, 64)) hp.1 (by decide +kernel) (Nat.le_refl _) (Nat.le_refl _)
            have v42 : zEq (η1 0 44) (η 0 44) := by rw [eη1]; exact (zup_ne (fun e _ => absurd e (by decide))).trans rfl
            have v43 : zEq (η2 0 44) (η 0 44) := by rw [eη2]; exact (zup_ne (fun e _ => absurd e (by decide))).trans v42
            have v44 : zEq (η3 0 44) (η 0 44) := by rw [eη3]; exact (zup_ne (fun e _ => absurd e (by decide))).trans v43
            have v45 : zEq (η4 0 44) (η 0 44) := by rw [eη4]; exact (zup_ne (fun e _ => absurd e (by decide))).trans v44
            have v46 : zEq (η5 0 44) (η 0 44) := by rw [eη5]; exact (zup_ne (fun _ e => absurd e (by decide))).trans v45
            have v47 : zEq (η6 0 44) (η 0 44) := by rw [eη6]; exact (zup_ne (fun _ e => absurd e (by decide))).trans v46
            have f0_44 : η6 0 44 = η 0 44 := v47
            have wbE : wB wl_le zTr η6 := wb6
            
            have ht : G0_l η := by rcases hpp.1 with H | H <;> exact H.1
            have q7 : x7 = x5 := by rw [e7, e6, e5, e4]
            have q9 : x9 = x5 := by rw [e9, e8, e5, e4]
            have t3 : T3_l x1 x2 x3 := hpp.2.1
            have HG : G0_l η6 := by
              rw [eη6, eη5, eη4, eη3, eη2, eη1, q7, q9]
              exact grow_g ht t3
            have cw := cz_below (η := η) (η' := η6) (η 0 41).toNat (fun j _ => fr22 j)
            have cz1 : cz_l η6 (η 0 41).toNat = cz_l η (η 0 41).toNat := cw.1
            refine ⟨⟨wbE, ⟨by decide, by decide⟩, (fun f hf => nomatch hf), fmE, fun _ _ w => nomatch w⟩, fun H => ?_, fun H => ?_, show η6 0 19 = η 0 19 + 1 by omega⟩
            · obtain ⟨i1, i2, i3, i4⟩ := H.2
              exact h_w (HG) f0_41 f0_43 f0_42 f0_45 f0_19 f0_44 ⟨by omega, by apply Int.le_antisymm <;> omega, by apply Int.le_antisymm <;> omega, by apply Int.le_antisymm <;> omega⟩
            · obtain ⟨i1, i2, i3, i4⟩ := H.2
              exact h_w (HG) f0_41 f0_43 f0_42 f0_45 f0_19 f0_44 ⟨by omega, by apply Int.le_antisymm <;> omega, by apply Int.le_antisymm <;> omega, by apply Int.le_antisymm <;> omega⟩
          · have e4 : x4 = η 0 19 := e4
            clear r4
            have eη1 : η1 = zup η 19 (Int.toNat x5) x1 := eη1
            have e6 : x6 = η1 0 19 := e6
            clear r6
            have eη2 : η2 = zup η1 20 (Int.toNat x7) x2 := eη2
            have e8 : x8 = η2 0 19 := e8
            clear r8
            have eη3 : η3 = zup η2 21 (Int.toNat x9) x3 := eη3
            have e10 : x10 = η3 0 42 := e10
            clear r10
            have e11 : x11 = η3 0 19 := e11
            clear r11
            have eη4 : η4 = zup η3 23 (Int.toNat x10) x11 := eη4
            have e12 : x12 = η4 0 42 := e12
            clear r12
            have eη5 : η5 = zup η4 0 42 x13 := eη5
            have e14 : x14 = η5 0 19 := e14
            clear r14
            have eη6 : η6 = zup η5 0 19 x15 := eη6
            show η6 = (yq_gro x1 x2 x3 η)
            subst e4
            subst e5
            subst eη1
            subst e6
            subst e7
            subst eη2
            subst e8
            subst e9
            subst eη3
            subst e10
            subst e11
            subst eη4
            subst e12
            subst e13
            subst eη5
            subst e14
            subst e15
            subst eη6
            rfl
      )
    (fun _ h => nomatch h))
def zPle_bind : zPq := ([((.ofNat (nat_lit 1)), (.ofNat (nat_lit 6)))], [])
def zOle_bind : zPo := (((.ofNat (nat_lit 0)), (.ofNat (nat_lit 0))), [], [])
def zMle_bind : List zCe := [(nat_lit 0, nat_lit 42), (nat_lit 0, nat_lit 43), (nat_lit 0, nat_lit 20), (nat_lit 19, nat_lit 0), (nat_lit 20, nat_lit 0), (nat_lit 21, nat_lit 0), (nat_lit 23, nat_lit 0)]
def pPle_bind : List Int → zE → Prop := fun _ η => G_l η ∧ η 0 45 = 0
def oQle_bind : List Int → zE → Int → zE → Prop := fun xs η _ η' => G_l η' ∧ (xs.getD 0 0 = 1 → η' 0 41 = 0 ∨ η' 22 (η' 0 41 - 1).toNat ≤ 1) ∧ η 0 19 ≤ η' 0 19
def fQle_bind : List Int → zE → Int → zE → Prop := fun xs η y η' => η' = (yq_bin (xs.getD 0 0) η)
def pQle_bind : List Int → zE → Int → zE → Prop := fun xs η y η' => oQle_bind xs η y η' ∧ fQle_bind xs η y η'
def pCle_bind : Nat → List Int → zE → Prop := fun c => match c with
  | 0 => pPle_rank
  | 1 => pPle_dropHeld
  | 2 => pPle_grown
  | _ => fun _ _ => True
def qCle_bind : Nat → List Int → zE → Int → zE → Prop := fun c => match c with
  | 0 => pQle_rank
  | 1 => pQle_dropHeld
  | 2 => pQle_grown
  | _ => fun _ _ _ _ => True
def iCle_bind : List Int → zE → Nat → List Int → zE → Prop := fun xs η0 c => match c with
  | 0 => fun ys η => (G_l η ∧ η 0 45 = 0 ∧ ys.getD 0 0 = xs.getD 0 0 ∧ η0 0 19 ≤ η 0 19) ∧ (yq_bik (xs.getD 0 0) (η0 0 41).toNat η0 = yq_bik (xs.getD 0 0) (η 0 41).toNat η)
  | _ => fun _ _ => True
def zVle_bind : List zIv := [(nat_lit 0, ([((.ofNat (nat_lit 1)), (.ofNat (nat_lit 6)))], []), ((.ofNat (nat_lit 200)), [((.ofNat (nat_lit 1)), nat_lit 1, nat_lit 0, nat_lit 41)]))]
def zUle_bind : List zCu := [(nat_lit 0, nat_lit 0, [(nat_lit 0, (.inr (.inr (.inl (nat_lit 0))))), (nat_lit 1, (.inl (nat_lit 1, (.ofNat (nat_lit 0)))))], [])]
def zDle_bind : List (List zK) := []
def zEle_bind : List (List zK) := [[(nat_lit 12, nat_lit 0, [(nat_lit 1, (.ofNat (nat_lit 0)))])]]
def zFle_bind : List (List zK) := []
def zDle_bind_0 : List (List zK) := []
def zEle_bind_0 : List (List zK) := [[(nat_lit 11, nat_lit 0, [(nat_lit 0, (.ofNat (nat_lit 0)))]), (nat_lit 6, nat_lit 5, [(nat_lit 2, (.ofNat (nat_lit 0))), (nat_lit 0, (.ofNat (nat_lit 0)))]), (nat_lit 4, nat_lit 0, [(nat_lit 0, (.ofNat (nat_lit 0))), (nat_lit 0, (.ofNat (nat_lit 41)))])],
  [(nat_lit 13, nat_lit 0, [(nat_lit 5, (.ofNat (nat_lit 0)))]), (nat_lit 4, nat_lit 0, [(nat_lit 22, (.ofNat (nat_lit 0))), (nat_lit 4, (.ofNat (nat_lit 0)))]), (nat_lit 0, nat_lit 2, [(nat_lit 3, (.ofNat (nat_lit 0))), (nat_lit 0, (.ofNat (nat_lit 1)))]), (nat_lit 4, nat_lit 0, [(nat_lit 0, (.ofNat (nat_lit 0))), (nat_lit 0, (.ofNat (nat_lit 41)))]), (nat_lit 6, nat_lit 4, [(nat_lit 2, (.ofNat (nat_lit 0))), (nat_lit 0, (.ofNat (nat_lit 0)))]), (nat_lit 4, nat_lit 0, [(nat_lit 0, (.ofNat (nat_lit 0))), (nat_lit 0, (.ofNat (nat_lit 41)))])],
  [(nat_lit 11, nat_lit 0, [(nat_lit 0, (.ofNat (nat_lit 0)))]), (nat_lit 6, nat_lit 2, [(nat_lit 6, (.ofNat (nat_lit 0))), (nat_lit 1, (.ofNat (nat_lit 0)))]), (nat_lit 8, nat_lit 0, [(nat_lit 5, (.ofNat (nat_lit 0)))]), (nat_lit 4, nat_lit 0, [(nat_lit 22, (.ofNat (nat_lit 0))), (nat_lit 4, (.ofNat (nat_lit 0)))]), (nat_lit 0, nat_lit 2, [(nat_lit 3, (.ofNat (nat_lit 0))), (nat_lit 0, (.ofNat (nat_lit 1)))]), (nat_lit 4, nat_lit 0, [(nat_lit 0, (.ofNat (nat_lit 0))), (nat_lit 0, (.ofNat (nat_lit 41)))]), (nat_lit 6, nat_lit 4, [(nat_lit 2, (.ofNat (nat_lit 0))), (nat_lit 0, (.ofNat (nat_lit 0)))]), (nat_lit 4, nat_lit 0, [(nat_lit 0, (.ofNat (nat_lit 0))), (nat_lit 0, (.ofNat (nat_lit 41)))])],
  [(nat_lit 13, nat_lit 1, []), (nat_lit 6, nat_lit 1, [(nat_lit 10, (.ofNat (nat_lit 0))), (nat_lit 0, (.ofNat (nat_lit 2)))]), (nat_lit 4, nat_lit 0, [(nat_lit 22, (.ofNat (nat_lit 0))), (nat_lit 9, (.ofNat (nat_lit 0)))]), (nat_lit 4, nat_lit 0, [(nat_lit 0, (.ofNat (nat_lit 0))), (nat_lit 0, (.ofNat (nat_lit 41)))]), (nat_lit 5, nat_lit 0, [(nat_lit 0, (.ofNat (nat_lit 0))), (nat_lit 0, (.ofNat (nat_lit 41))), (nat_lit 8, (.ofNat (nat_lit 0)))]), (nat_lit 0, nat_lit 2, [(nat_lit 7, (.ofNat (nat_lit 0))), (nat_lit 0, (.ofNat (nat_lit 1)))]), (nat_lit 4, nat_lit 0, [(nat_lit 0, (.ofNat (nat_lit 0))), (nat_lit 0, (.ofNat (nat_lit 41)))]), (nat_lit 6, nat_lit 3, [(nat_lit 6, (.ofNat (nat_lit 0))), (nat_lit 1, (.ofNat (nat_lit 0)))]), (nat_lit 8, nat_lit 0, [(nat_lit 5, (.ofNat (nat_lit 0)))]), (nat_lit 4, nat_lit 0, [(nat_lit 22, (.ofNat (nat_lit 0))), (nat_lit 4, (.ofNat (nat_lit 0)))]), (nat_lit 0, nat_lit 2, [(nat_lit 3, (.ofNat (nat_lit 0))), (nat_lit 0, (.ofNat (nat_lit 1)))]), (nat_lit 4, nat_lit 0, [(nat_lit 0, (.ofNat (nat_lit 0))), (nat_lit 0, (.ofNat (nat_lit 41)))]), (nat_lit 6, nat_lit 4, [(nat_lit 2, (.ofNat (nat_lit 0))), (nat_lit 0, (.ofNat (nat_lit 0)))]), (nat_lit 4, nat_lit 0, [(nat_lit 0, (.ofNat (nat_lit 0))), (nat_lit 0, (.ofNat (nat_lit 41)))])],
  [(nat_lit 13, nat_lit 1, []), (nat_lit 8, nat_lit 1, []), (nat_lit 6, nat_lit 1, [(nat_lit 10, (.ofNat (nat_lit 0))), (nat_lit 0, (.ofNat (nat_lit 2)))]), (nat_lit 4, nat_lit 0, [(nat_lit 22, (.ofNat (nat_lit 0))), (nat_lit 9, (.ofNat (nat_lit 0)))]), (nat_lit 4, nat_lit 0, [(nat_lit 0, (.ofNat (nat_lit 0))), (nat_lit 0, (.ofNat (nat_lit 41)))]), (nat_lit 5, nat_lit 0, [(nat_lit 0, (.ofNat (nat_lit 0))), (nat_lit 0, (.ofNat (nat_lit 41))), (nat_lit 8, (.ofNat (nat_lit 0)))]), (nat_lit 0, nat_lit 2, [(nat_lit 7, (.ofNat (nat_lit 0))), (nat_lit 0, (.ofNat (nat_lit 1)))]), (nat_lit 4, nat_lit 0, [(nat_lit 0, (.ofNat (nat_lit 0))), (nat_lit 0, (.ofNat (nat_lit 41)))]), (nat_lit 6, nat_lit 3, [(nat_lit 6, (.ofNat (nat_lit 0))), (nat_lit 1, (.ofNat (nat_lit 0)))]), (nat_lit 8, nat_lit 0, [(nat_lit 5, (.ofNat (nat_lit 0)))]), (nat_lit 4, nat_lit 0, [(nat_lit 22, (.ofNat (nat_lit 0))), (nat_lit 4, (.ofNat (nat_lit 0)))]), (nat_lit 0, nat_lit 2, [(nat_lit 3, (.ofNat (nat_lit 0))), (nat_lit 0, (.ofNat (nat_lit 1)))]), (nat_lit 4, nat_lit 0, [(nat_lit 0, (.ofNat (nat_lit 0))), (nat_lit 0, (.ofNat (nat_lit 41)))]), (nat_lit 6, nat_lit 4, [(nat_lit 2, (.ofNat (nat_lit 0))), (nat_lit 0, (.ofNat (nat_lit 0)))]), (nat_lit 4, nat_lit 0, [(nat_lit 0, (.ofNat (nat_lit 0))), (nat_lit 0, (.ofNat (nat_lit 41)))])],
  [(nat_lit 10, nat_lit 0, [(nat_lit 1, (.ofNat (nat_lit 0)))]), (nat_lit 8, nat_lit 2, [(nat_lit 10, (.ofNat (nat_lit 0))), (nat_lit 12, (.ofNat (nat_lit 0))), (nat_lit 11, (.ofNat (nat_lit 0)))]), (nat_lit 8, nat_lit 1, []), (nat_lit 8, nat_lit 1, []), (nat_lit 6, nat_lit 1, [(nat_lit 10, (.ofNat (nat_lit 0))), (nat_lit 0, (.ofNat (nat_lit 2)))]), (nat_lit 4, nat_lit 0, [(nat_lit 22, (.ofNat (nat_lit 0))), (nat_lit 9, (.ofNat (nat_lit 0)))]), (nat_lit 4, nat_lit 0, [(nat_lit 0, (.ofNat (nat_lit 0))), (nat_lit 0, (.ofNat (nat_lit 41)))]), (nat_lit 5, nat_lit 0, [(nat_lit 0, (.ofNat (nat_lit 0))), (nat_lit 0, (.ofNat (nat_lit 41))), (nat_lit 8, (.ofNat (nat_lit 0)))]), (nat_lit 0, nat_lit 2, [(nat_lit 7, (.ofNat (nat_lit 0))), (nat_lit 0, (.ofNat (nat_lit 1)))]), (nat_lit 4, nat_lit 0, [(nat_lit 0, (.ofNat (nat_lit 0))), (nat_lit 0, (.ofNat (nat_lit 41)))]), (nat_lit 6, nat_lit 3, [(nat_lit 6, (.ofNat (nat_lit 0))), (nat_lit 1, (.ofNat (nat_lit 0)))]), (nat_lit 8, nat_lit 0, [(nat_lit 5, (.ofNat (nat_lit 0)))]), (nat_lit 4, nat_lit 0, [(nat_lit 22, (.ofNat (nat_lit 0))), (nat_lit 4, (.ofNat (nat_lit 0)))]), (nat_lit 0, nat_lit 2, [(nat_lit 3, (.ofNat (nat_lit 0))), (nat_lit 0, (.ofNat (nat_lit 1)))]), (nat_lit 4, nat_lit 0, [(nat_lit 0, (.ofNat (nat_lit 0))), (nat_lit 0, (.ofNat (nat_lit 41)))]), (nat_lit 6, nat_lit 4, [(nat_lit 2, (.ofNat (nat_lit 0))), (nat_lit 0, (.ofNat (nat_lit 0)))]), (nat_lit 4, nat_lit 0, [(nat_lit 0, (.ofNat (nat_lit 0))), (nat_lit 0, (.ofNat (nat_lit 41)))])],
  [(nat_lit 13, nat_lit 1, []), (nat_lit 6, nat_lit 0, [(nat_lit 10, (.ofNat (nat_lit 0))), (nat_lit 0, (.ofNat (nat_lit 2)))]), (nat_lit 4, nat_lit 0, [(nat_lit 22, (.ofNat (nat_lit 0))), (nat_lit 9, (.ofNat (nat_lit 0)))]), (nat_lit 4, nat_lit 0, [(nat_lit 0, (.ofNat (nat_lit 0))), (nat_lit 0, (.ofNat (nat_lit 41)))]), (nat_lit 5, nat_lit 0, [(nat_lit 0, (.ofNat (nat_lit 0))), (nat_lit 0, (.ofNat (nat_lit 41))), (nat_lit 8, (.ofNat (nat_lit 0)))]), (nat_lit 0, nat_lit 2, [(nat_lit 7, (.ofNat (nat_lit 0))), (nat_lit 0, (.ofNat (nat_lit 1)))]), (nat_lit 4, nat_lit 0, [(nat_lit 0, (.ofNat (nat_lit 0))), (nat_lit 0, (.ofNat (nat_lit 41)))]), (nat_lit 6, nat_lit 3, [(nat_lit 6, (.ofNat (nat_lit 0))), (nat_lit 1, (.ofNat (nat_lit 0)))]), (nat_lit 8, nat_lit 0, [(nat_lit 5, (.ofNat (nat_lit 0)))]), (nat_lit 4, nat_lit 0, [(nat_lit 22, (.ofNat (nat_lit 0))), (nat_lit 4, (.ofNat (nat_lit 0)))]), (nat_lit 0, nat_lit 2, [(nat_lit 3, (.ofNat (nat_lit 0))), (nat_lit 0, (.ofNat (nat_lit 1)))]), (nat_lit 4, nat_lit 0, [(nat_lit 0, (.ofNat (nat_lit 0))), (nat_lit 0, (.ofNat (nat_lit 41)))]), (nat_lit 6, nat_lit 4, [(nat_lit 2, (.ofNat (nat_lit 0))), (nat_lit 0, (.ofNat (nat_lit 0)))]), (nat_lit 4, nat_lit 0, [(nat_lit 0, (.ofNat (nat_lit 0))), (nat_lit 0, (.ofNat (nat_lit 41)))])],
  [(nat_lit 13, nat_lit 2, [(nat_lit 10, (.ofNat (nat_lit 0))), (nat_lit 11, (.ofNat (nat_lit 0))), (nat_lit 0, (.negSucc (nat_lit 0)))]), (nat_lit 8, nat_lit 1, []), (nat_lit 6, nat_lit 0, [(nat_lit 10, (.ofNat (nat_lit 0))), (nat_lit 0, (.ofNat (nat_lit 2)))]), (nat_lit 4, nat_lit 0, [(nat_lit 22, (.ofNat (nat_lit 0))), (nat_lit 9, (.ofNat (nat_lit 0)))]), (nat_lit 4, nat_lit 0, [(nat_lit 0, (.ofNat (nat_lit 0))), (nat_lit 0, (.ofNat (nat_lit 41)))]), (nat_lit 5, nat_lit 0, [(nat_lit 0, (.ofNat (nat_lit 0))), (nat_lit 0, (.ofNat (nat_lit 41))), (nat_lit 8, (.ofNat (nat_lit 0)))]), (nat_lit 0, nat_lit 2, [(nat_lit 7, (.ofNat (nat_lit 0))), (nat_lit 0, (.ofNat (nat_lit 1)))]), (nat_lit 4, nat_lit 0, [(nat_lit 0, (.ofNat (nat_lit 0))), (nat_lit 0, (.ofNat (nat_lit 41)))]), (nat_lit 6, nat_lit 3, [(nat_lit 6, (.ofNat (nat_lit 0))), (nat_lit 1, (.ofNat (nat_lit 0)))]), (nat_lit 8, nat_lit 0, [(nat_lit 5, (.ofNat (nat_lit 0)))]), (nat_lit 4, nat_lit 0, [(nat_lit 22, (.ofNat (nat_lit 0))), (nat_lit 4, (.ofNat (nat_lit 0)))]), (nat_lit 0, nat_lit 2, [(nat_lit 3, (.ofNat (nat_lit 0))), (nat_lit 0, (.ofNat (nat_lit 1)))]), (nat_lit 4, nat_lit 0, [(nat_lit 0, (.ofNat (nat_lit 0))), (nat_lit 0, (.ofNat (nat_lit 41)))]), (nat_lit 6, nat_lit 4, [(nat_lit 2, (.ofNat (nat_lit 0))), (nat_lit 0, (.ofNat (nat_lit 0)))]), (nat_lit 4, nat_lit 0, [(nat_lit 0, (.ofNat (nat_lit 0))), (nat_lit 0, (.ofNat (nat_lit 41)))])],
  [(nat_lit 10, nat_lit 0, [(nat_lit 1, (.ofNat (nat_lit 0)))]), (nat_lit 8, nat_lit 2, [(nat_lit 10, (.ofNat (nat_lit 0))), (nat_lit 11, (.ofNat (nat_lit 0))), (nat_lit 0, (.negSucc (nat_lit 0)))]), (nat_lit 8, nat_lit 1, []), (nat_lit 6, nat_lit 0, [(nat_lit 10, (.ofNat (nat_lit 0))), (nat_lit 0, (.ofNat (nat_lit 2)))]), (nat_lit 4, nat_lit 0, [(nat_lit 22, (.ofNat (nat_lit 0))), (nat_lit 9, (.ofNat (nat_lit 0)))]), (nat_lit 4, nat_lit 0, [(nat_lit 0, (.ofNat (nat_lit 0))), (nat_lit 0, (.ofNat (nat_lit 41)))]), (nat_lit 5, nat_lit 0, [(nat_lit 0, (.ofNat (nat_lit 0))), (nat_lit 0, (.ofNat (nat_lit 41))), (nat_lit 8, (.ofNat (nat_lit 0)))]), (nat_lit 0, nat_lit 2, [(nat_lit 7, (.ofNat (nat_lit 0))), (nat_lit 0, (.ofNat (nat_lit 1)))]), (nat_lit 4, nat_lit 0, [(nat_lit 0, (.ofNat (nat_lit 0))), (nat_lit 0, (.ofNat (nat_lit 41)))]), (nat_lit 6, nat_lit 3, [(nat_lit 6, (.ofNat (nat_lit 0))), (nat_lit 1, (.ofNat (nat_lit 0)))]), (nat_lit 8, nat_lit 0, [(nat_lit 5, (.ofNat (nat_lit 0)))]), (nat_lit 4, nat_lit 0, [(nat_lit 22, (.ofNat (nat_lit 0))), (nat_lit 4, (.ofNat (nat_lit 0)))]), (nat_lit 0, nat_lit 2, [(nat_lit 3, (.ofNat (nat_lit 0))), (nat_lit 0, (.ofNat (nat_lit 1)))]), (nat_lit 4, nat_lit 0, [(nat_lit 0, (.ofNat (nat_lit 0))), (nat_lit 0, (.ofNat (nat_lit 41)))]), (nat_lit 6, nat_lit 4, [(nat_lit 2, (.ofNat (nat_lit 0))), (nat_lit 0, (.ofNat (nat_lit 0)))]), (nat_lit 4, nat_lit 0, [(nat_lit 0, (.ofNat (nat_lit 0))), (nat_lit 0, (.ofNat (nat_lit 41)))])]]
def zFle_bind_0 : List (List zK) := [[(nat_lit 7, nat_lit 0, [(nat_lit 4, (.ofNat (nat_lit 0))), (nat_lit 0, (.ofNat (nat_lit 96)))]), (nat_lit 0, nat_lit 2, [(nat_lit 3, (.ofNat (nat_lit 0))), (nat_lit 0, (.ofNat (nat_lit 1)))]), (nat_lit 4, nat_lit 0, [(nat_lit 0, (.ofNat (nat_lit 0))), (nat_lit 0, (.ofNat (nat_lit 41)))]), (nat_lit 6, nat_lit 4, [(nat_lit 2, (.ofNat (nat_lit 0))), (nat_lit 0, (.ofNat (nat_lit 0)))]), (nat_lit 4, nat_lit 0, [(nat_lit 0, (.ofNat (nat_lit 0))), (nat_lit 0, (.ofNat (nat_lit 41)))])],
  [(nat_lit 7, nat_lit 0, [(nat_lit 9, (.ofNat (nat_lit 0))), (nat_lit 0, (.ofNat (nat_lit 96)))]), (nat_lit 4, nat_lit 0, [(nat_lit 0, (.ofNat (nat_lit 0))), (nat_lit 0, (.ofNat (nat_lit 41)))]), (nat_lit 5, nat_lit 0, [(nat_lit 0, (.ofNat (nat_lit 0))), (nat_lit 0, (.ofNat (nat_lit 41))), (nat_lit 8, (.ofNat (nat_lit 0)))]), (nat_lit 0, nat_lit 2, [(nat_lit 7, (.ofNat (nat_lit 0))), (nat_lit 0, (.ofNat (nat_lit 1)))]), (nat_lit 4, nat_lit 0, [(nat_lit 0, (.ofNat (nat_lit 0))), (nat_lit 0, (.ofNat (nat_lit 41)))]), (nat_lit 6, nat_lit 3, [(nat_lit 6, (.ofNat (nat_lit 0))), (nat_lit 1, (.ofNat (nat_lit 0)))]), (nat_lit 8, nat_lit 0, [(nat_lit 5, (.ofNat (nat_lit 0)))]), (nat_lit 4, nat_lit 0, [(nat_lit 22, (.ofNat (nat_lit 0))), (nat_lit 4, (.ofNat (nat_lit 0)))]), (nat_lit 0, nat_lit 2, [(nat_lit 3, (.ofNat (nat_lit 0))), (nat_lit 0, (.ofNat (nat_lit 1)))]), (nat_lit 4, nat_lit 0, [(nat_lit 0, (.ofNat (nat_lit 0))), (nat_lit 0, (.ofNat (nat_lit 41)))]), (nat_lit 6, nat_lit 4, [(nat_lit 2, (.ofNat (nat_lit 0))), (nat_lit 0, (.ofNat (nat_lit 0)))]), (nat_lit 4, nat_lit 0, [(nat_lit 0, (.ofNat (nat_lit 0))), (nat_lit 0, (.ofNat (nat_lit 41)))])],
  [(nat_lit 13, nat_lit 2, [(nat_lit 10, (.ofNat (nat_lit 0))), (nat_lit 12, (.ofNat (nat_lit 0))), (nat_lit 11, (.ofNat (nat_lit 0)))]), (nat_lit 8, nat_lit 1, []), (nat_lit 8, nat_lit 1, []), (nat_lit 6, nat_lit 1, [(nat_lit 10, (.ofNat (nat_lit 0))), (nat_lit 0, (.ofNat (nat_lit 2)))]), (nat_lit 4, nat_lit 0, [(nat_lit 22, (.ofNat (nat_lit 0))), (nat_lit 9, (.ofNat (nat_lit 0)))]), (nat_lit 4, nat_lit 0, [(nat_lit 0, (.ofNat (nat_lit 0))), (nat_lit 0, (.ofNat (nat_lit 41)))]), (nat_lit 5, nat_lit 0, [(nat_lit 0, (.ofNat (nat_lit 0))), (nat_lit 0, (.ofNat (nat_lit 41))), (nat_lit 8, (.ofNat (nat_lit 0)))]), (nat_lit 0, nat_lit 2, [(nat_lit 7, (.ofNat (nat_lit 0))), (nat_lit 0, (.ofNat (nat_lit 1)))]), (nat_lit 4, nat_lit 0, [(nat_lit 0, (.ofNat (nat_lit 0))), (nat_lit 0, (.ofNat (nat_lit 41)))]), (nat_lit 6, nat_lit 3, [(nat_lit 6, (.ofNat (nat_lit 0))), (nat_lit 1, (.ofNat (nat_lit 0)))]), (nat_lit 8, nat_lit 0, [(nat_lit 5, (.ofNat (nat_lit 0)))]), (nat_lit 4, nat_lit 0, [(nat_lit 22, (.ofNat (nat_lit 0))), (nat_lit 4, (.ofNat (nat_lit 0)))]), (nat_lit 0, nat_lit 2, [(nat_lit 3, (.ofNat (nat_lit 0))), (nat_lit 0, (.ofNat (nat_lit 1)))]), (nat_lit 4, nat_lit 0, [(nat_lit 0, (.ofNat (nat_lit 0))), (nat_lit 0, (.ofNat (nat_lit 41)))]), (nat_lit 6, nat_lit 4, [(nat_lit 2, (.ofNat (nat_lit 0))), (nat_lit 0, (.ofNat (nat_lit 0)))]), (nat_lit 4, nat_lit 0, [(nat_lit 0, (.ofNat (nat_lit 0))), (nat_lit 0, (.ofNat (nat_lit 41)))])]]
set_option maxHeartbeats 8000000 in
theorem zle_bind_o0 {ro : Nat → List Int32} (xs : List Int) (η0 : zE) (hp : sP wl_le zTr zPle_bind xs η0) (hpp : pPle_bind xs η0) (x1 : Int) (η : zE) (hI : zsI wl_le zTr zVle_bind zMle_bind η0 0 [x1] η) (hig : iCle_bind xs η0 0 [x1] η) : ∀ x2 : Int, x2 = η 0 (Int.toNat 41) → zok 0 x2 → (x2 ≤ 0) → (fun (_ : Nat) (y : Int) (η' : zE) => pQle_bind xs η0 y η') 0 0 η := by
  have fig := hig.2
  have hig := hig.1
  intro x2 e2 r2 c1
  refine yj_a ?_ ?_
  · exact ⟨hig.1, fun _ => Or.inl (by have j := hig.1.2.1; have e2 : x2 = η 0 41 := e2; omega), hig.2.2.2⟩
  · obtain ⟨⟨g0, j1, j2, j3, j4⟩, hw, rk0, hk⟩ := hig
    have rk0 : x1 = xs.getD 0 0 := rk0
    have j1 : 0 ≤ η 0 41 := j1
    have bd43 : (0 : Int) ≤ η 0 43 ∧ η 0 43 ≤ 8 := wf_ok (a := 43) (b := 43) (z := (0, 8)) hI.1.1 (by decide +kernel) (Nat.le_refl _) (Nat.le_refl _)
    have bd44 : (0 : Int) ≤ η 0 44 ∧ η 0 44 ≤ 64 := wf_ok (a := 44) (b := 44) (z := (0, 64)) hI.1.1 (by decide +kernel) (Nat.le_refl _) (Nat.le_refl _)
    have bd19 : (0 : Int) ≤ η 0 19 ∧ η 0 19 ≤ 64 := wf_ok (a := 19) (b := 19) (z := (0, 64)) hI.1.1 (by decide +kernel) (Nat.le_refl _) (Nat.le_refl _)
    have b41 : η 0 41 ≤ 96 := by omega
    have fig : yq_bik (xs.getD 0 0) (η0 0 41).toNat η0 = yq_bik (xs.getD 0 0) (η 0 41).toNat η := fig
    clear j2 j3 j4
    have e2 : x2 = η 0 41 := e2
    show η = yq_bik (xs.getD 0 0) (η0 0 41).toNat η0
    rw [fig]
    exact (qik_x (fun w => by omega)).symm
set_option maxHeartbeats 8000000 in
theorem zle_bind_o1 {ro : Nat → List Int32} (xs : List Int) (η0 : zE) (hp : sP wl_le zTr zPle_bind xs η0) (hpp : pPle_bind xs η0) (x1 : Int) (η : zE) (hI : zsI wl_le zTr zVle_bind zMle_bind η0 0 [x1] η) (hig : iCle_bind xs η0 0 [x1] η) : ∀ x2 : Int, x2 = η 0 (Int.toNat 41) → zok 0 x2 → (0 < x2) → ∀ x3 : Int, x3 = η 0 (Int.toNat 41) → zok 0 x3 → ∀ x4 : Int, x4 = zd 0 2 x3 1 → ∀ x5 : Int, x5 = η 22 (Int.toNat x4) → zok 0 x5 → ((gC2 wl_le [(nat_lit 0, zPle_rank, zOle_rank, zMle_rank), (nat_lit 1, zPle_dropHeld, zOle_dropHeld, zMle_dropHeld), (nat_lit 2, zPle_grown, zOle_grown, zMle_grown)] pCle_bind qCle_bind) 0).1 [x5] η := by
  have fig := hig.2
  have hig := hig.1
  intro x2 e2 r2 c1 x3 e3 r3 x4 e4 x5 e5 r5
  exact hig.1
set_option maxHeartbeats 8000000 in
theorem zle_bind_o2 {ro : Nat → List Int32} (xs : List Int) (η0 : zE) (hp : sP wl_le zTr zPle_bind xs η0) (hpp : pPle_bind xs η0) (x1 : Int) (η : zE) (hI : zsI wl_le zTr zVle_bind zMle_bind η0 0 [x1] η) (hig : iCle_bind xs η0 0 [x1] η) : ∀ x2 : Int, x2 = η 0 (Int.toNat 41) → zok 0 x2 → (0 < x2) → ∀ x3 : Int, x3 = η 0 (Int.toNat 41) → zok 0 x3 → ∀ x4 : Int, x4 = zd 0 2 x3 1 → ∀ x5 : Int, x5 = η 22 (Int.toNat x4) → zok 0 x5 → ∀ (x6 : Int) (η1 : zE), ((gC2 wl_le [(nat_lit 0, zPle_rank, zOle_rank, zMle_rank), (nat_lit 1, zPle_dropHeld, zOle_dropHeld, zMle_dropHeld), (nat_lit 2, zPle_grown, zOle_grown, zMle_grown)] pCle_bind qCle_bind) 0).2 [x5] η x6 η1 → (x6 < x1) → (fun (_ : Nat) (y : Int) (η' : zE) => pQle_bind xs η0 y η') 0 0 η1 := by
  have fig := hig.2
  have hig := hig.1
  intro x2 e2 r2 c1 x3 e3 r3 x4 e4 x5 e5 r5 x6 η1 h6 c2
  have y6 : fQle_rank [x5] η x6 η1 := h6.2.2
  have k6 : sQ wl_le zTr zOle_rank zMle_rank [x5] η x6 η1 ∧ oQle_rank [x5] η x6 η1 := ⟨h6.1, h6.2.1⟩
  refine yj_a ?_ ?_
  · obtain ⟨⟨g0, j1, j2, j3, j4⟩, hw, hy, hk⟩ := hig
    have hk : η0 0 19 ≤ η 0 19 := hk
    have hw : η 0 45 = 0 := hw
    have hy : x1 = xs.getD 0 0 := hy
    have cn := cz_n (η := η) (η 0 41).toNat
    have cn1 := cz_n (η := η) (η 0 41 - 1).toNat
    have bd43 : (0 : Int) ≤ η 0 43 ∧ η 0 43 ≤ 8 := wf_ok (a := 43) (b := 43) (z := (0, 8)) hI.1.1 (by decide +kernel) (Nat.le_refl _) (Nat.le_refl _)
    have bd44 : (0 : Int) ≤ η 0 44 ∧ η 0 44 ≤ 64 := wf_ok (a := 44) (b := 44) (z := (0, 64)) hI.1.1 (by decide +kernel) (Nat.le_refl _) (Nat.le_refl _)
    have bd19 : (0 : Int) ≤ η 0 19 ∧ η 0 19 ≤ 64 := wf_ok (a := 19) (b := 19) (z := (0, 64)) hI.1.1 (by decide +kernel) (Nat.le_refl _) (Nat.le_refl _)
    replace e4 := zEq_i e4
    have y6 : fQle_rank [x5] η x6 η1 := h6.2.2
    have k6 : sQ wl_le zTr zOle_rank zMle_rank [x5] η x6 η1 ∧ oQle_rank [x5] η x6 η1 := ⟨h6.1, h6.2.1⟩
    have bx1 : (1 : Int) ≤ x1 ∧ x1 ≤ 6 := hI.1.2.1.1
    replace e2 : x2 = η 0 41 := e2
    replace r2 : -2147483648 ≤ x2 ∧ x2 ≤ 2147483647 := r2
    replace e3 : x3 = η 0 41 := e3
    replace r3 : -2147483648 ≤ x3 ∧ x3 ≤ 2147483647 := r3
    first
    | replace e4 : x4 = x3 - 1 := zd_s2 (zEq_o e4) (by clear e4; exact ⟨by omega, by omega⟩)
    | clear e4
    replace e5 : x5 = η 22 (Int.toNat x4) := e5
    replace r5 : -2147483648 ≤ x5 ∧ x5 ≤ 2147483647 := r5
    try have rb5 : (0 : Int) ≤ η 22 (Int.toNat x4) ∧ η 22 (Int.toNat x4) ≤ 14 := wf_ok (a := 0) (b := 95) (z := (0, 14)) hI.1.1 (by decide +kernel) (Nat.zero_le _) (by omega)
    have c0_0_41 : η 0 41 = η 0 41 := rfl
    have w0_0_43 : (0 : Int) ≤ η 0 43 ∧ η 0 43 ≤ 8 := wf_ok (a := 43) (b := 43) (z := (0, 8)) hI.1.1 (by decide +kernel) (Nat.le_refl _) (Nat.le_refl _)
    have c0_0_43 : η 0 43 = η 0 43 := rfl
    have c0_0_42 : η 0 42 = η 0 42 := rfl
    have c0_0_45 : η 0 45 = η 0 45 := rfl
    have w0_0_19 : (0 : Int) ≤ η 0 19 ∧ η 0 19 ≤ 64 := wf_ok (a := 19) (b := 19) (z := (0, 64)) hI.1.1 (by decide +kernel) (Nat.le_refl _) (Nat.le_refl _)
    have c0_0_19 : η 0 19 = η 0 19 := rfl
    have w0_0_44 : (0 : Int) ≤ η 0 44 ∧ η 0 44 ≤ 64 := wf_ok (a := 44) (b := 44) (z := (0, 64)) hI.1.1 (by decide +kernel) (Nat.le_refl _) (Nat.le_refl _)
    have c0_0_44 : η 0 44 = η 0 44 := rfl
    have bx6 : (0 : Int) ≤ x6 ∧ x6 ≤ 6 := k6.1.2.1
    have fm1 : zFm zMle_bind η0 η1 := zFm_tr2 hI.2 k6.1.2.2.2.1 (by decide +kernel)
    have fmE : zFm zMle_bind η0 η1 := fm1
    have fr22_0 : ∀ j, η 22 j = η 22 j := fun _ => rfl
    have v7 : ∀ j, η1 22 j = η 22 j := fun j => k6.1.2.2.2.1 22 _ (zinr_not (by decide +kernel))
    have fr22_1 : ∀ j, η1 22 j = η 22 j := v7
    have fr22 : ∀ j, η1 22 j = η 22 j := v7
    have v8 : zEq (η1 0 41) (η 0 41) := (k6.1.2.2.2.1 0 41 (by decide +kernel)).trans rfl
    have f0_41 : η1 0 41 = η 0 41 := v8
    have v9 : zEq (η1 0 43) (η 0 43) := (k6.1.2.2.2.1 0 43 (by decide +kernel)).trans rfl
    have f0_43 : η1 0 43 = η 0 43 := v9
    have v10 : zEq (η1 0 42) (η 0 42) := (k6.1.2.2.2.1 0 42 (by decide +kernel)).trans rfl
    have f0_42 : η1 0 42 = η 0 42 := v10
    have v11 : zEq (η1 0 45) (η 0 45) := (k6.1.2.2.2.1 0 45 (by decide +kernel)).trans rfl
    have f0_45 : η1 0 45 = η 0 45 := v11
    have v12 : zEq (η1 0 19) (η 0 19) := (k6.1.2.2.2.1 0 19 (by decide +kernel)).trans rfl
    have f0_19 : η1 0 19 = η 0 19 := v12
    have v13 : zEq (η1 0 44) (η 0 44) := (k6.1.2.2.2.1 0 44 (by decide +kernel)).trans rfl
    have f0_44 : η1 0 44 = η 0 44 := v13
    have q6 : 2 ≤ x5 → 1 ≤ x6 := k6.2.2.2
    exact ⟨k6.2.1, fun w => Or.inr (by
      have w : xs.getD 0 0 = 1 := w
      rw [fr22, f0_41, show η 0 41 - 1 = x4 by omega]
      omega), show η0 0 19 ≤ η1 0 19 by omega⟩
  · obtain ⟨⟨g0, j1, j2, j3, j4⟩, hw, rk0, hk⟩ := hig
    have rk0 : x1 = xs.getD 0 0 := rk0
    have j1 : 0 ≤ η 0 41 := j1
    have bd43 : (0 : Int) ≤ η 0 43 ∧ η 0 43 ≤ 8 := wf_ok (a := 43) (b := 43) (z := (0, 8)) hI.1.1 (by decide +kernel) (Nat.le_refl _) (Nat.le_refl _)
    have bd44 : (0 : Int) ≤ η 0 44 ∧ η 0 44 ≤ 64 := wf_ok (a := 44) (b := 44) (z := (0, 64)) hI.1.1 (by decide +kernel) (Nat.le_refl _) (Nat.le_refl _)
    have bd19 : (0 : Int) ≤ η 0 19 ∧ η 0 19 ≤ 64 := wf_ok (a := 19) (b := 19) (z := (0, 64)) hI.1.1 (by decide +kernel) (Nat.le_refl _) (Nat.le_refl _)
    have b41 : η 0 41 ≤ 96 := by omega
    have fig : yq_bik (xs.getD 0 0) (η0 0 41).toNat η0 = yq_bik (xs.getD 0 0) (η 0 41).toNat η := fig
    clear j2 j3 j4
    have e2 : x2 = η 0 41 := e2
    have e3 : x3 = η 0 41 := e3
    have e4 : x4 = zd 0 2 x3 1 := e4
    have e5 : x5 = η 22 x4.toNat := e5
    obtain ⟨a6, b6⟩ : x6 = yq_rk x5 ∧ η1 = η := y6
    show η1 = yq_bik (xs.getD 0 0) (η0 0 41).toNat η0
    rw [b6, fig]
    rw [e3] at e4
    clear e3
    exact (qik_x (fun w => by rw [← e4, ← e5, ← a6] at w; omega)).symm
set_option maxHeartbeats 8000000 in
theorem zle_bind_o3 {ro : Nat → List Int32} (xs : List Int) (η0 : zE) (hp : sP wl_le zTr zPle_bind xs η0) (hpp : pPle_bind xs η0) (x1 : Int) (η : zE) (hI : zsI wl_le zTr zVle_bind zMle_bind η0 0 [x1] η) (hig : iCle_bind xs η0 0 [x1] η) : ∀ x2 : Int, x2 = η 0 (Int.toNat 41) → zok 0 x2 → (0 < x2) → ∀ x3 : Int, x3 = η 0 (Int.toNat 41) → zok 0 x3 → ∀ x4 : Int, x4 = zd 0 2 x3 1 → ∀ x5 : Int, x5 = η 22 (Int.toNat x4) → zok 0 x5 → ∀ (x6 : Int) (η1 : zE), ((gC2 wl_le [(nat_lit 0, zPle_rank, zOle_rank, zMle_rank), (nat_lit 1, zPle_dropHeld, zOle_dropHeld, zMle_dropHeld), (nat_lit 2, zPle_grown, zOle_grown, zMle_grown)] pCle_bind qCle_bind) 0).2 [x5] η x6 η1 → (x1 ≤ x6) → ∀ x7 : Int, x7 = η1 0 (Int.toNat 41) → zok 0 x7 → ∀ x8 : Int, x8 = zd 0 2 x7 1 → ∀ η2 : zE, η2 = zup η1 0 (Int.toNat 41) x8 → ∀ x9 : Int, x9 = η2 0 (Int.toNat 41) → zok 0 x9 → ∀ x10 : Int, x10 = η2 22 (Int.toNat x9) → zok 0 x10 → (¬ x10 = 2) → ((gC2 wl_le [(nat_lit 0, zPle_rank, zOle_rank, zMle_rank), (nat_lit 1, zPle_dropHeld, zOle_dropHeld, zMle_dropHeld), (nat_lit 2, zPle_grown, zOle_grown, zMle_grown)] pCle_bind qCle_bind) 1).1 [] η2 := by
  have fig := hig.2
  have hig := hig.1
  obtain ⟨⟨g0, j1, j2, j3, j4⟩, hw, hy, hk⟩ := hig
  have hk : η0 0 19 ≤ η 0 19 := hk
  have hw : η 0 45 = 0 := hw
  have hy : x1 = xs.getD 0 0 := hy
  have cn := cz_n (η := η) (η 0 41).toNat
  have cn1 := cz_n (η := η) (η 0 41 - 1).toNat
  have bd43 : (0 : Int) ≤ η 0 43 ∧ η 0 43 ≤ 8 := wf_ok (a := 43) (b := 43) (z := (0, 8)) hI.1.1 (by decide +kernel) (Nat.le_refl _) (Nat.le_refl _)
  have bd44 : (0 : Int) ≤ η 0 44 ∧ η 0 44 ≤ 64 := wf_ok (a := 44) (b := 44) (z := (0, 64)) hI.1.1 (by decide +kernel) (Nat.le_refl _) (Nat.le_refl _)
  have bd19 : (0 : Int) ≤ η 0 19 ∧ η 0 19 ≤ 64 := wf_ok (a := 19) (b := 19) (z := (0, 64)) hI.1.1 (by decide +kernel) (Nat.le_refl _) (Nat.le_refl _)
  intro x2 e2 r2 c1 x3 e3 r3 x4 e4 x5 e5 r5 x6 η1 h6 c2 x7 e7 r7 x8 e8 η2 eη2 x9 e9 r9 x10 e10 r10 c3
  replace e4 := zEq_i e4
  replace e8 := zEq_i e8
  have y6 : fQle_rank [x5] η x6 η1 := h6.2.2
  have k6 : sQ wl_le zTr zOle_rank zMle_rank [x5] η x6 η1 ∧ oQle_rank [x5] η x6 η1 := ⟨h6.1, h6.2.1⟩
  have bx1 : (1 : Int) ≤ x1 ∧ x1 ≤ 6 := hI.1.2.1.1
  replace e2 : x2 = η 0 41 := e2
  replace r2 : -2147483648 ≤ x2 ∧ x2 ≤ 2147483647 := r2
  replace e3 : x3 = η 0 41 := e3
  replace r3 : -2147483648 ≤ x3 ∧ x3 ≤ 2147483647 := r3
  first
  | replace e4 : x4 = x3 - 1 := zd_s2 (zEq_o e4) (by clear e4; exact ⟨by omega, by omega⟩)
  | clear e4
  replace e5 : x5 = η 22 (Int.toNat x4) := e5
  replace r5 : -2147483648 ≤ x5 ∧ x5 ≤ 2147483647 := r5
  try have rb5 : (0 : Int) ≤ η 22 (Int.toNat x4) ∧ η 22 (Int.toNat x4) ≤ 14 := wf_ok (a := 0) (b := 95) (z := (0, 14)) hI.1.1 (by decide +kernel) (Nat.zero_le _) (by omega)
  have c0_0_41 : η 0 41 = η 0 41 := rfl
  have w0_0_43 : (0 : Int) ≤ η 0 43 ∧ η 0 43 ≤ 8 := wf_ok (a := 43) (b := 43) (z := (0, 8)) hI.1.1 (by decide +kernel) (Nat.le_refl _) (Nat.le_refl _)
  have c0_0_43 : η 0 43 = η 0 43 := rfl
  have c0_0_42 : η 0 42 = η 0 42 := rfl
  have c0_0_45 : η 0 45 = η 0 45 := rfl
  have w0_0_19 : (0 : Int) ≤ η 0 19 ∧ η 0 19 ≤ 64 := wf_ok (a := 19) (b := 19) (z := (0, 64)) hI.1.1 (by decide +kernel) (Nat.le_refl _) (Nat.le_refl _)
  have c0_0_19 : η 0 19 = η 0 19 := rfl
  have w0_0_44 : (0 : Int) ≤ η 0 44 ∧ η 0 44 ≤ 64 := wf_ok (a := 44) (b := 44) (z := (0, 64)) hI.1.1 (by decide +kernel) (Nat.le_refl _) (Nat.le_refl _)
  have c0_0_44 : η 0 44 = η 0 44 := rfl
  have bx6 : (0 : Int) ≤ x6 ∧ x6 ≤ 6 := k6.1.2.1
  have v7 : zEq (η1 0 41) (η 0 41) := (k6.1.2.2.2.1 0 41 (by decide +kernel)).trans rfl
  replace e7 : x7 = η 0 41 := e7.trans v7
  replace r7 : -2147483648 ≤ x7 ∧ x7 ≤ 2147483647 := r7
  first
  | replace e8 : x8 = x7 - 1 := zd_s2 (zEq_o e8) (by clear e8; exact ⟨by omega, by omega⟩)
  | clear e8
  have c1_0_41 : η1 0 41 = η 0 41 := v7
  have v8 : zEq (η2 0 41) (x8) := by rw [eη2]; exact zup_eq
  replace e9 : x9 = x8 := e9.trans v8
  replace r9 : -2147483648 ≤ x9 ∧ x9 ≤ 2147483647 := r9
  have v10 : zEq (η1 22 (Int.toNat x9)) (η 22 (Int.toNat x9)) := (k6.1.2.2.2.1 22 _ (zinr_not (by decide +kernel))).trans rfl
  have v11 : zEq (η2 22 (Int.toNat x9)) (η 22 (Int.toNat x9)) := by rw [eη2]; exact (zup_ne (fun e _ => absurd e (by decide))).trans v10
  replace e10 : x10 = η 22 (Int.toNat x9) := e10.trans v11
  replace r10 : -2147483648 ≤ x10 ∧ x10 ≤ 2147483647 := r10
  try have rb10 : (0 : Int) ≤ η 22 (Int.toNat x9) ∧ η 22 (Int.toNat x9) ≤ 14 := wf_ok (a := 0) (b := 95) (z := (0, 14)) hI.1.1 (by decide +kernel) (Nat.zero_le _) (by omega)
  have fm1 : zFm zMle_bind η0 η1 := zFm_tr2 hI.2 k6.1.2.2.2.1 (by decide +kernel)
  have fm2 : zFm zMle_bind η0 η2 := by rw [eη2]; exact zFm_up fm1 rfl
  have fmE : zFm zMle_bind η0 η2 := fm2
  have fr22_0 : ∀ j, η 22 j = η 22 j := fun _ => rfl
  have v12 : ∀ j, η1 22 j = η 22 j := fun j => k6.1.2.2.2.1 22 _ (zinr_not (by decide +kernel))
  have fr22_1 : ∀ j, η1 22 j = η 22 j := v12
  have v13 : ∀ j, η2 22 j = η 22 j := fun j => by rw [eη2]; exact (zup_ne (fun e _ => absurd e (by decide))).trans (v12 j)
  have fr22_2 : ∀ j, η2 22 j = η 22 j := v13
  have fr22 : ∀ j, η2 22 j = η 22 j := v13
  have f0_41 : η2 0 41 = x8 := v8
  have v14 : zEq (η1 0 43) (η 0 43) := (k6.1.2.2.2.1 0 43 (by decide +kernel)).trans rfl
  have v15 : zEq (η2 0 43) (η 0 43) := by rw [eη2]; exact (zup_ne (fun _ e => absurd e (by decide))).trans v14
  have f0_43 : η2 0 43 = η 0 43 := v15
  have v16 : zEq (η1 0 42) (η 0 42) := (k6.1.2.2.2.1 0 42 (by decide +kernel)).trans rfl
  have v17 : zEq (η2 0 42) (η 0 42) := by rw [eη2]; exact (zup_ne (fun _ e => absurd e (by decide))).trans v16
  have f0_42 : η2 0 42 = η 0 42 := v17
  have v18 : zEq (η1 0 45) (η 0 45) := (k6.1.2.2.2.1 0 45 (by decide +kernel)).trans rfl
  have v19 : zEq (η2 0 45) (η 0 45) := by rw [eη2]; exact (zup_ne (fun _ e => absurd e (by decide))).trans v18
  have f0_45 : η2 0 45 = η 0 45 := v19
  have v20 : zEq (η1 0 19) (η 0 19) := (k6.1.2.2.2.1 0 19 (by decide +kernel)).trans rfl
  have v21 : zEq (η2 0 19) (η 0 19) := by rw [eη2]; exact (zup_ne (fun _ e => absurd e (by decide))).trans v20
  have f0_19 : η2 0 19 = η 0 19 := v21
  have v22 : zEq (η1 0 44) (η 0 44) := (k6.1.2.2.2.1 0 44 (by decide +kernel)).trans rfl
  have v23 : zEq (η2 0 44) (η 0 44) := by rw [eη2]; exact (zup_ne (fun _ e => absurd e (by decide))).trans v22
  have f0_44 : η2 0 44 = η 0 44 := v23
  have q5 : 2 ≤ x5 := k6.2.2.1 (Int.le_trans bx1.1 c2)
  have q94 : x9 = x4 := by rw [e9, e8, e7, e4, e3]
  have q10 : x10 = x5 := by rw [e10, e5, q94]
  have G2 : G0_l η2 := by rw [eη2]; exact zGk_upc g0k_l k6.2.1.1 (by decide +kernel)
  have PB := pop_b (η2 := η2) (t := x5) ⟨g0, j1, j2, j3, j4⟩ hw (by rw [← e2]; exact c1) bd43.2 bd44.2 bd19.1 G2 (f0_41.trans (by rw [e8, e7])) f0_43 f0_42 f0_45 f0_19 f0_44 fr22_2 (by rw [e5, e4, e3])
  have P2 := PB.1 (ne2_l q5 q10 c3)
  exact ⟨⟨1, P2.1⟩, Int.le_trans (by decide) P2.2.1, P2.2.2⟩
set_option maxHeartbeats 8000000 in
theorem zle_bind_o4 {ro : Nat → List Int32} (xs : List Int) (η0 : zE) (hp : sP wl_le zTr zPle_bind xs η0) (hpp : pPle_bind xs η0) (x1 : Int) (η : zE) (hI : zsI wl_le zTr zVle_bind zMle_bind η0 0 [x1] η) (hig : iCle_bind xs η0 0 [x1] η) : ∀ x2 : Int, x2 = η 0 (Int.toNat 41) → zok 0 x2 → (0 < x2) → ∀ x3 : Int, x3 = η 0 (Int.toNat 41) → zok 0 x3 → ∀ x4 : Int, x4 = zd 0 2 x3 1 → ∀ x5 : Int, x5 = η 22 (Int.toNat x4) → zok 0 x5 → ∀ (x6 : Int) (η1 : zE), ((gC2 wl_le [(nat_lit 0, zPle_rank, zOle_rank, zMle_rank), (nat_lit 1, zPle_dropHeld, zOle_dropHeld, zMle_dropHeld), (nat_lit 2, zPle_grown, zOle_grown, zMle_grown)] pCle_bind qCle_bind) 0).2 [x5] η x6 η1 → (x1 ≤ x6) → ∀ x7 : Int, x7 = η1 0 (Int.toNat 41) → zok 0 x7 → ∀ x8 : Int, x8 = zd 0 2 x7 1 → ∀ η2 : zE, η2 = zup η1 0 (Int.toNat 41) x8 → ∀ x9 : Int, x9 = η2 0 (Int.toNat 41) → zok 0 x9 → ∀ x10 : Int, x10 = η2 22 (Int.toNat x9) → zok 0 x10 → (¬ x10 = 2) → ∀ (x11 : Int) (η3 : zE), ((gC2 wl_le [(nat_lit 0, zPle_rank, zOle_rank, zMle_rank), (nat_lit 1, zPle_dropHeld, zOle_dropHeld, zMle_dropHeld), (nat_lit 2, zPle_grown, zOle_grown, zMle_grown)] pCle_bind qCle_bind) 1).2 [] η2 x11 η3 → ((gC2 wl_le [(nat_lit 0, zPle_rank, zOle_rank, zMle_rank), (nat_lit 1, zPle_dropHeld, zOle_dropHeld, zMle_dropHeld), (nat_lit 2, zPle_grown, zOle_grown, zMle_grown)] pCle_bind qCle_bind) 1).1 [] η3 := by
  have fig := hig.2
  have hig := hig.1
  obtain ⟨⟨g0, j1, j2, j3, j4⟩, hw, hy, hk⟩ := hig
  have hk : η0 0 19 ≤ η 0 19 := hk
  have hw : η 0 45 = 0 := hw
  have hy : x1 = xs.getD 0 0 := hy
  have cn := cz_n (η := η) (η 0 41).toNat
  have cn1 := cz_n (η := η) (η 0 41 - 1).toNat
  have bd43 : (0 : Int) ≤ η 0 43 ∧ η 0 43 ≤ 8 := wf_ok (a := 43) (b := 43) (z := (0, 8)) hI.1.1 (by decide +kernel) (Nat.le_refl _) (Nat.le_refl _)
  have bd44 : (0 : Int) ≤ η 0 44 ∧ η 0 44 ≤ 64 := wf_ok (a := 44) (b := 44) (z := (0, 64)) hI.1.1 (by decide +kernel) (Nat.le_refl _) (Nat.le_refl _)
  have bd19 : (0 : Int) ≤ η 0 19 ∧ η 0 19 ≤ 64 := wf_ok (a := 19) (b := 19) (z := (0, 64)) hI.1.1 (by decide +kernel) (Nat.le_refl _) (Nat.le_refl _)
  intro x2 e2 r2 c1 x3 e3 r3 x4 e4 x5 e5 r5 x6 η1 h6 c2 x7 e7 r7 x8 e8 η2 eη2 x9 e9 r9 x10 e10 r10 c3 x11 η3 h11
  replace e4 := zEq_i e4
  replace e8 := zEq_i e8
  have y6 : fQle_rank [x5] η x6 η1 := h6.2.2
  have k6 : sQ wl_le zTr zOle_rank zMle_rank [x5] η x6 η1 ∧ oQle_rank [x5] η x6 η1 := ⟨h6.1, h6.2.1⟩
  have y11 : fQle_dropHeld [] η2 x11 η3 := h11.2.2
  have k11 : sQ wl_le zTr zOle_dropHeld zMle_dropHeld [] η2 x11 η3 ∧ oQle_dropHeld [] η2 x11 η3 := ⟨h11.1, h11.2.1⟩
  have bx1 : (1 : Int) ≤ x1 ∧ x1 ≤ 6 := hI.1.2.1.1
  replace e2 : x2 = η 0 41 := e2
  replace r2 : -2147483648 ≤ x2 ∧ x2 ≤ 2147483647 := r2
  replace e3 : x3 = η 0 41 := e3
  replace r3 : -2147483648 ≤ x3 ∧ x3 ≤ 2147483647 := r3
  first
  | replace e4 : x4 = x3 - 1 := zd_s2 (zEq_o e4) (by clear e4; exact ⟨by omega, by omega⟩)
  | clear e4
  replace e5 : x5 = η 22 (Int.toNat x4) := e5
  replace r5 : -2147483648 ≤ x5 ∧ x5 ≤ 2147483647 := r5
  try have rb5 : (0 : Int) ≤ η 22 (Int.toNat x4) ∧ η 22 (Int.toNat x4) ≤ 14 := wf_ok (a := 0) (b := 95) (z := (0, 14)) hI.1.1 (by decide +kernel) (Nat.zero_le _) (by omega)
  have c0_0_41 : η 0 41 = η 0 41 := rfl
  have w0_0_43 : (0 : Int) ≤ η 0 43 ∧ η 0 43 ≤ 8 := wf_ok (a := 43) (b := 43) (z := (0, 8)) hI.1.1 (by decide +kernel) (Nat.le_refl _) (Nat.le_refl _)
  have c0_0_43 : η 0 43 = η 0 43 := rfl
  have c0_0_42 : η 0 42 = η 0 42 := rfl
  have c0_0_45 : η 0 45 = η 0 45 := rfl
  have w0_0_19 : (0 : Int) ≤ η 0 19 ∧ η 0 19 ≤ 64 := wf_ok (a := 19) (b := 19) (z := (0, 64)) hI.1.1 (by decide +kernel) (Nat.le_refl _) (Nat.le_refl _)
  have c0_0_19 : η 0 19 = η 0 19 := rfl
  have w0_0_44 : (0 : Int) ≤ η 0 44 ∧ η 0 44 ≤ 64 := wf_ok (a := 44) (b := 44) (z := (0, 64)) hI.1.1 (by decide +kernel) (Nat.le_refl _) (Nat.le_refl _)
  have c0_0_44 : η 0 44 = η 0 44 := rfl
  have bx6 : (0 : Int) ≤ x6 ∧ x6 ≤ 6 := k6.1.2.1
  have v7 : zEq (η1 0 41) (η 0 41) := (k6.1.2.2.2.1 0 41 (by decide +kernel)).trans rfl
  replace e7 : x7 = η 0 41 := e7.trans v7
  replace r7 : -2147483648 ≤ x7 ∧ x7 ≤ 2147483647 := r7
  first
  | replace e8 : x8 = x7 - 1 := zd_s2 (zEq_o e8) (by clear e8; exact ⟨by omega, by omega⟩)
  | clear e8
  have c1_0_41 : η1 0 41 = η 0 41 := v7
  have v8 : zEq (η2 0 41) (x8) := by rw [eη2]; exact zup_eq
  replace e9 : x9 = x8 := e9.trans v8
  replace r9 : -2147483648 ≤ x9 ∧ x9 ≤ 2147483647 := r9
  have v10 : zEq (η1 22 (Int.toNat x9)) (η 22 (Int.toNat x9)) := (k6.1.2.2.2.1 22 _ (zinr_not (by decide +kernel))).trans rfl
  have v11 : zEq (η2 22 (Int.toNat x9)) (η 22 (Int.toNat x9)) := by rw [eη2]; exact (zup_ne (fun e _ => absurd e (by decide))).trans v10
  replace e10 : x10 = η 22 (Int.toNat x9) := e10.trans v11
  replace r10 : -2147483648 ≤ x10 ∧ x10 ≤ 2147483647 := r10
  try have rb10 : (0 : Int) ≤ η 22 (Int.toNat x9) ∧ η 22 (Int.toNat x9) ≤ 14 := wf_ok (a := 0) (b := 95) (z := (0, 14)) hI.1.1 (by decide +kernel) (Nat.zero_le _) (by omega)
  have c2_0_41 : η2 0 41 = x8 := v8
  have v12 : zEq (η1 0 43) (η 0 43) := (k6.1.2.2.2.1 0 43 (by decide +kernel)).trans rfl
  have v13 : zEq (η2 0 43) (η 0 43) := by rw [eη2]; exact (zup_ne (fun _ e => absurd e (by decide))).trans v12
  have c2_0_43 : η2 0 43 = η 0 43 := v13
  have v14 : zEq (η1 0 42) (η 0 42) := (k6.1.2.2.2.1 0 42 (by decide +kernel)).trans rfl
  have v15 : zEq (η2 0 42) (η 0 42) := by rw [eη2]; exact (zup_ne (fun _ e => absurd e (by decide))).trans v14
  have c2_0_42 : η2 0 42 = η 0 42 := v15
  have v16 : zEq (η1 0 45) (η 0 45) := (k6.1.2.2.2.1 0 45 (by decide +kernel)).trans rfl
  have v17 : zEq (η2 0 45) (η 0 45) := by rw [eη2]; exact (zup_ne (fun _ e => absurd e (by decide))).trans v16
  have c2_0_45 : η2 0 45 = η 0 45 := v17
  have v18 : zEq (η1 0 19) (η 0 19) := (k6.1.2.2.2.1 0 19 (by decide +kernel)).trans rfl
  have v19 : zEq (η2 0 19) (η 0 19) := by rw [eη2]; exact (zup_ne (fun _ e => absurd e (by decide))).trans v18
  have c2_0_19 : η2 0 19 = η 0 19 := v19
  have v20 : zEq (η1 0 44) (η 0 44) := (k6.1.2.2.2.1 0 44 (by decide +kernel)).trans rfl
  have v21 : zEq (η2 0 44) (η 0 44) := by rw [eη2]; exact (zup_ne (fun _ e => absurd e (by decide))).trans v20
  have c2_0_44 : η2 0 44 = η 0 44 := v21
  have bx11 : (0 : Int) ≤ x11 ∧ x11 ≤ 63 := k11.1.2.1
  have fm1 : zFm zMle_bind η0 η1 := zFm_tr2 hI.2 k6.1.2.2.2.1 (by decide +kernel)
  have fm2 : zFm zMle_bind η0 η2 := by rw [eη2]; exact zFm_up fm1 rfl
  have fm3 : zFm zMle_bind η0 η3 := zFm_tr2 fm2 k11.1.2.2.2.1 (by decide +kernel)
  have fmE : zFm zMle_bind η0 η3 := fm3
  have fr22_0 : ∀ j, η 22 j = η 22 j := fun _ => rfl
  have v22 : ∀ j, η1 22 j = η 22 j := fun j => k6.1.2.2.2.1 22 _ (zinr_not (by decide +kernel))
  have fr22_1 : ∀ j, η1 22 j = η 22 j := v22
  have v23 : ∀ j, η2 22 j = η 22 j := fun j => by rw [eη2]; exact (zup_ne (fun e _ => absurd e (by decide))).trans (v22 j)
  have fr22_2 : ∀ j, η2 22 j = η 22 j := v23
  have v24 : ∀ j, η3 22 j = η 22 j := fun j => (k11.1.2.2.2.1 22 _ (zinr_not (by decide +kernel))).trans (v23 j)
  have fr22_3 : ∀ j, η3 22 j = η 22 j := v24
  have fr22 : ∀ j, η3 22 j = η 22 j := v24
  have v25 : zEq (η3 0 41) (x8) := (k11.1.2.2.2.1 0 41 (by decide +kernel)).trans v8
  have f0_41 : η3 0 41 = x8 := v25
  have v26 : zEq (η3 0 43) (η 0 43) := (k11.1.2.2.2.1 0 43 (by decide +kernel)).trans v13
  have f0_43 : η3 0 43 = η 0 43 := v26
  have f0_42 : η3 0 42 = η3 0 42 := rfl
  have v28 : zEq (η3 0 45) (η 0 45) := (k11.1.2.2.2.1 0 45 (by decide +kernel)).trans v17
  have f0_45 : η3 0 45 = η 0 45 := v28
  have v29 : zEq (η3 0 19) (η 0 19) := (k11.1.2.2.2.1 0 19 (by decide +kernel)).trans v19
  have f0_19 : η3 0 19 = η 0 19 := v29
  have v30 : zEq (η3 0 44) (η 0 44) := (k11.1.2.2.2.1 0 44 (by decide +kernel)).trans v21
  have f0_44 : η3 0 44 = η 0 44 := v30
  have q5 : 2 ≤ x5 := k6.2.2.1 (Int.le_trans bx1.1 c2)
  have q94 : x9 = x4 := by rw [e9, e8, e7, e4, e3]
  have q10 : x10 = x5 := by rw [e10, e5, q94]
  have G2 : G0_l η2 := by rw [eη2]; exact zGk_upc g0k_l k6.2.1.1 (by decide +kernel)
  have PB := pop_b (η2 := η2) (t := x5) ⟨g0, j1, j2, j3, j4⟩ hw (by rw [← e2]; exact c1) bd43.2 bd44.2 bd19.1 G2 (c2_0_41.trans (by rw [e8, e7])) c2_0_43 c2_0_42 c2_0_45 c2_0_19 c2_0_44 fr22_2 (by rw [e5, e4, e3])
  have P2 := PB.1 (ne2_l q5 q10 c3)
  have q11 : η3 0 42 = η2 0 42 - 1 := k11.2.2
  have H3 : H_l 1 0 (1 - 1) η3 := k11.2.1 1 P2.1
  have h3 := s1_l q11 P2.2.1 P2.2.2
  exact ⟨⟨_, H3⟩, h3.1, Int.le_trans h3.2 (by decide)⟩
set_option maxHeartbeats 8000000 in
theorem zle_bind_o5 {ro : Nat → List Int32} (xs : List Int) (η0 : zE) (hp : sP wl_le zTr zPle_bind xs η0) (hpp : pPle_bind xs η0) (x1 : Int) (η : zE) (hI : zsI wl_le zTr zVle_bind zMle_bind η0 0 [x1] η) (hig : iCle_bind xs η0 0 [x1] η) : ∀ x2 : Int, x2 = η 0 (Int.toNat 41) → zok 0 x2 → (0 < x2) → ∀ x3 : Int, x3 = η 0 (Int.toNat 41) → zok 0 x3 → ∀ x4 : Int, x4 = zd 0 2 x3 1 → ∀ x5 : Int, x5 = η 22 (Int.toNat x4) → zok 0 x5 → ∀ (x6 : Int) (η1 : zE), ((gC2 wl_le [(nat_lit 0, zPle_rank, zOle_rank, zMle_rank), (nat_lit 1, zPle_dropHeld, zOle_dropHeld, zMle_dropHeld), (nat_lit 2, zPle_grown, zOle_grown, zMle_grown)] pCle_bind qCle_bind) 0).2 [x5] η x6 η1 → (x1 ≤ x6) → ∀ x7 : Int, x7 = η1 0 (Int.toNat 41) → zok 0 x7 → ∀ x8 : Int, x8 = zd 0 2 x7 1 → ∀ η2 : zE, η2 = zup η1 0 (Int.toNat 41) x8 → ∀ x9 : Int, x9 = η2 0 (Int.toNat 41) → zok 0 x9 → ∀ x10 : Int, x10 = η2 22 (Int.toNat x9) → zok 0 x10 → (¬ x10 = 2) → ∀ (x11 : Int) (η3 : zE), ((gC2 wl_le [(nat_lit 0, zPle_rank, zOle_rank, zMle_rank), (nat_lit 1, zPle_dropHeld, zOle_dropHeld, zMle_dropHeld), (nat_lit 2, zPle_grown, zOle_grown, zMle_grown)] pCle_bind qCle_bind) 1).2 [] η2 x11 η3 → ∀ (x12 : Int) (η4 : zE), ((gC2 wl_le [(nat_lit 0, zPle_rank, zOle_rank, zMle_rank), (nat_lit 1, zPle_dropHeld, zOle_dropHeld, zMle_dropHeld), (nat_lit 2, zPle_grown, zOle_grown, zMle_grown)] pCle_bind qCle_bind) 1).2 [] η3 x12 η4 → ∀ (x13 : Int) (η5 : zE), ((gC2 wl_le [(nat_lit 0, zPle_rank, zOle_rank, zMle_rank), (nat_lit 1, zPle_dropHeld, zOle_dropHeld, zMle_dropHeld), (nat_lit 2, zPle_grown, zOle_grown, zMle_grown)] pCle_bind qCle_bind) 2).2 [x10, x12, x11] η4 x13 η5 → (iCle_bind xs η0) 0 [x1] η5 ∧ (fun (_ : Nat) (_ : List Int) (_ : zE) => (0 : Nat)) 0 [x1] η5 < 1 := by
  have fig := hig.2
  have hig := hig.1
  intro x2 e2 r2 c1 x3 e3 r3 x4 e4 x5 e5 r5 x6 η1 h6 c2 x7 e7 r7 x8 e8 η2 eη2 x9 e9 r9 x10 e10 r10 c3 x11 η3 h11 x12 η4 h12 x13 η5 h13
  have y6 : fQle_rank [x5] η x6 η1 := h6.2.2
  have k6 : sQ wl_le zTr zOle_rank zMle_rank [x5] η x6 η1 ∧ oQle_rank [x5] η x6 η1 := ⟨h6.1, h6.2.1⟩
  have y11 : fQle_dropHeld [] η2 x11 η3 := h11.2.2
  have k11 : sQ wl_le zTr zOle_dropHeld zMle_dropHeld [] η2 x11 η3 ∧ oQle_dropHeld [] η2 x11 η3 := ⟨h11.1, h11.2.1⟩
  have y12 : fQle_dropHeld [] η3 x12 η4 := h12.2.2
  have k12 : sQ wl_le zTr zOle_dropHeld zMle_dropHeld [] η3 x12 η4 ∧ oQle_dropHeld [] η3 x12 η4 := ⟨h12.1, h12.2.1⟩
  have y13 : fQle_grown [x10, x12, x11] η4 x13 η5 := h13.2.2
  have k13 : sQ wl_le zTr zOle_grown zMle_grown [x10, x12, x11] η4 x13 η5 ∧ oQle_grown [x10, x12, x11] η4 x13 η5 := ⟨h13.1, h13.2.1⟩
  refine yj_c ?_ ?_
  · obtain ⟨⟨g0, j1, j2, j3, j4⟩, hw, hy, hk⟩ := hig
    have hk : η0 0 19 ≤ η 0 19 := hk
    have hw : η 0 45 = 0 := hw
    have hy : x1 = xs.getD 0 0 := hy
    have cn := cz_n (η := η) (η 0 41).toNat
    have cn1 := cz_n (η := η) (η 0 41 - 1).toNat
    have bd43 : (0 : Int) ≤ η 0 43 ∧ η 0 43 ≤ 8 := wf_ok (a := 43) (b := 43) (z := (0, 8)) hI.1.1 (by decide +kernel) (Nat.le_refl _) (Nat.le_refl _)
    have bd44 : (0 : Int) ≤ η 0 44 ∧ η 0 44 ≤ 64 := wf_ok (a := 44) (b := 44) (z := (0, 64)) hI.1.1 (by decide +kernel) (Nat.le_refl _) (Nat.le_refl _)
    have bd19 : (0 : Int) ≤ η 0 19 ∧ η 0 19 ≤ 64 := wf_ok (a := 19) (b := 19) (z := (0, 64)) hI.1.1 (by decide +kernel) (Nat.le_refl _) (Nat.le_refl _)
    replace e4 := zEq_i e4
    replace e8 := zEq_i e8
    have y6 : fQle_rank [x5] η x6 η1 := h6.2.2
    have k6 : sQ wl_le zTr zOle_rank zMle_rank [x5] η x6 η1 ∧ oQle_rank [x5] η x6 η1 := ⟨h6.1, h6.2.1⟩
    have y11 : fQle_dropHeld [] η2 x11 η3 := h11.2.2
    have k11 : sQ wl_le zTr zOle_dropHeld zMle_dropHeld [] η2 x11 η3 ∧ oQle_dropHeld [] η2 x11 η3 := ⟨h11.1, h11.2.1⟩
    have y12 : fQle_dropHeld [] η3 x12 η4 := h12.2.2
    have k12 : sQ wl_le zTr zOle_dropHeld zMle_dropHeld [] η3 x12 η4 ∧ oQle_dropHeld [] η3 x12 η4 := ⟨h12.1, h12.2.1⟩
    have y13 : fQle_grown [x10, x12, x11] η4 x13 η5 := h13.2.2
    have k13 : sQ wl_le zTr zOle_grown zMle_grown [x10, x12, x11] η4 x13 η5 ∧ oQle_grown [x10, x12, x11] η4 x13 η5 := ⟨h13.1, h13.2.1⟩
    have bx1 : (1 : Int) ≤ x1 ∧ x1 ≤ 6 := hI.1.2.1.1
    replace e2 : x2 = η 0 41 := e2
    replace r2 : -2147483648 ≤ x2 ∧ x2 ≤ 2147483647 := r2
    replace e3 : x3 = η 0 41 := e3
    replace r3 : -2147483648 ≤ x3 ∧ x3 ≤ 2147483647 := r3
    first
    | replace e4 : x4 = x3 - 1 := zd_s2 (zEq_o e4) (by clear e4; exact ⟨by omega, by omega⟩)
    | clear e4
    replace e5 : x5 = η 22 (Int.toNat x4) := e5
    replace r5 : -2147483648 ≤ x5 ∧ x5 ≤ 2147483647 := r5
    try have rb5 : (0 : Int) ≤ η 22 (Int.toNat x4) ∧ η 22 (Int.toNat x4) ≤ 14 := wf_ok (a := 0) (b := 95) (z := (0, 14)) hI.1.1 (by decide +kernel) (Nat.zero_le _) (by omega)
    have c0_0_41 : η 0 41 = η 0 41 := rfl
    have w0_0_43 : (0 : Int) ≤ η 0 43 ∧ η 0 43 ≤ 8 := wf_ok (a := 43) (b := 43) (z := (0, 8)) hI.1.1 (by decide +kernel) (Nat.le_refl _) (Nat.le_refl _)
    have c0_0_43 : η 0 43 = η 0 43 := rfl
    have c0_0_42 : η 0 42 = η 0 42 := rfl
    have c0_0_45 : η 0 45 = η 0 45 := rfl
    have w0_0_19 : (0 : Int) ≤ η 0 19 ∧ η 0 19 ≤ 64 := wf_ok (a := 19) (b := 19) (z := (0, 64)) hI.1.1 (by decide +kernel) (Nat.le_refl _) (Nat.le_refl _)
    have c0_0_19 : η 0 19 = η 0 19 := rfl
    have w0_0_44 : (0 : Int) ≤ η 0 44 ∧ η 0 44 ≤ 64 := wf_ok (a := 44) (b := 44) (z := (0, 64)) hI.1.1 (by decide +kernel) (Nat.le_refl _) (Nat.le_refl _)
    have c0_0_44 : η 0 44 = η 0 44 := rfl
    have bx6 : (0 : Int) ≤ x6 ∧ x6 ≤ 6 := k6.1.2.1
    have v7 : zEq (η1 0 41) (η 0 41) := (k6.1.2.2.2.1 0 41 (by decide +kernel)).trans rfl
    replace e7 : x7 = η 0 41 := e7.trans v7
    replace r7 : -2147483648 ≤ x7 ∧ x7 ≤ 2147483647 := r7
    first
    | replace e8 : x8 = x7 - 1 := zd_s2 (zEq_o e8) (by clear e8; exact ⟨by omega, by omega⟩)
    | clear e8
    have c1_0_41 : η1 0 41 = η 0 41 := v7
    have v8 : zEq (η2 0 41) (x8) := by rw [eη2]; exact zup_eq
    replace e9 : x9 = x8 := e9.trans v8
    replace r9 : -2147483648 ≤ x9 ∧ x9 ≤ 2147483647 := r9
    have v10 : zEq (η1 22 (Int.toNat x9)) (η 22 (Int.toNat x9)) := (k6.1.2.2.2.1 22 _ (zinr_not (by decide +kernel))).trans rfl
    have v11 : zEq (η2 22 (Int.toNat x9)) (η 22 (Int.toNat x9)) := by rw [eη2]; exact (zup_ne (fun e _ => absurd e (by decide))).trans v10
    replace e10 : x10 = η 22 (Int.toNat x9) := e10.trans v11
    replace r10 : -2147483648 ≤ x10 ∧ x10 ≤ 2147483647 := r10
    try have rb10 : (0 : Int) ≤ η 22 (Int.toNat x9) ∧ η 22 (Int.toNat x9) ≤ 14 := wf_ok (a := 0) (b := 95) (z := (0, 14)) hI.1.1 (by decide +kernel) (Nat.zero_le _) (by omega)
    have c2_0_41 : η2 0 41 = x8 := v8
    have v12 : zEq (η1 0 43) (η 0 43) := (k6.1.2.2.2.1 0 43 (by decide +kernel)).trans rfl
    have v13 : zEq (η2 0 43) (η 0 43) := by rw [eη2]; exact (zup_ne (fun _ e => absurd e (by decide))).trans v12
    have c2_0_43 : η2 0 43 = η 0 43 := v13
    have v14 : zEq (η1 0 42) (η 0 42) := (k6.1.2.2.2.1 0 42 (by decide +kernel)).trans rfl
    have v15 : zEq (η2 0 42) (η 0 42) := by rw [eη2]; exact (zup_ne (fun _ e => absurd e (by decide))).trans v14
    have c2_0_42 : η2 0 42 = η 0 42 := v15
    have v16 : zEq (η1 0 45) (η 0 45) := (k6.1.2.2.2.1 0 45 (by decide +kernel)).trans rfl
    have v17 : zEq (η2 0 45) (η 0 45) := by rw [eη2]; exact (zup_ne (fun _ e => absurd e (by decide))).trans v16
    have c2_0_45 : η2 0 45 = η 0 45 := v17
    have v18 : zEq (η1 0 19) (η 0 19) := (k6.1.2.2.2.1 0 19 (by decide +kernel)).trans rfl
    have v19 : zEq (η2 0 19) (η 0 19) := by rw [eη2]; exact (zup_ne (fun _ e => absurd e (by decide))).trans v18
    have c2_0_19 : η2 0 19 = η 0 19 := v19
    have v20 : zEq (η1 0 44) (η 0 44) := (k6.1.2.2.2.1 0 44 (by decide +kernel)).trans rfl
    have v21 : zEq (η2 0 44) (η 0 44) := by rw [eη2]; exact (zup_ne (fun _ e => absurd e (by decide))).trans v20
    have c2_0_44 : η2 0 44 = η 0 44 := v21
    have bx11 : (0 : Int) ≤ x11 ∧ x11 ≤ 63 := k11.1.2.1
    have v22 : zEq (η3 0 41) (x8) := (k11.1.2.2.2.1 0 41 (by decide +kernel)).trans v8
    have c3_0_41 : η3 0 41 = x8 := v22
    have v23 : zEq (η3 0 43) (η 0 43) := (k11.1.2.2.2.1 0 43 (by decide +kernel)).trans v13
    have c3_0_43 : η3 0 43 = η 0 43 := v23
    have c3_0_42 : η3 0 42 = η3 0 42 := rfl
    have v25 : zEq (η3 0 45) (η 0 45) := (k11.1.2.2.2.1 0 45 (by decide +kernel)).trans v17
    have c3_0_45 : η3 0 45 = η 0 45 := v25
    have v26 : zEq (η3 0 19) (η 0 19) := (k11.1.2.2.2.1 0 19 (by decide +kernel)).trans v19
    have c3_0_19 : η3 0 19 = η 0 19 := v26
    have v27 : zEq (η3 0 44) (η 0 44) := (k11.1.2.2.2.1 0 44 (by decide +kernel)).trans v21
    have c3_0_44 : η3 0 44 = η 0 44 := v27
    have bx12 : (0 : Int) ≤ x12 ∧ x12 ≤ 63 := k12.1.2.1
    have v28 : zEq (η4 0 41) (x8) := (k12.1.2.2.2.1 0 41 (by decide +kernel)).trans v22
    have c4_0_41 : η4 0 41 = x8 := v28
    have v29 : zEq (η4 0 43) (η 0 43) := (k12.1.2.2.2.1 0 43 (by decide +kernel)).trans v23
    have c4_0_43 : η4 0 43 = η 0 43 := v29
    have c4_0_42 : η4 0 42 = η4 0 42 := rfl
    have v31 : zEq (η4 0 45) (η 0 45) := (k12.1.2.2.2.1 0 45 (by decide +kernel)).trans v25
    have c4_0_45 : η4 0 45 = η 0 45 := v31
    have v32 : zEq (η4 0 19) (η 0 19) := (k12.1.2.2.2.1 0 19 (by decide +kernel)).trans v26
    have c4_0_19 : η4 0 19 = η 0 19 := v32
    have v33 : zEq (η4 0 44) (η 0 44) := (k12.1.2.2.2.1 0 44 (by decide +kernel)).trans v27
    have c4_0_44 : η4 0 44 = η 0 44 := v33
    have bx13 : (0 : Int) ≤ x13 ∧ x13 ≤ 0 := k13.1.2.1
    have fm1 : zFm zMle_bind η0 η1 := zFm_tr2 hI.2 k6.1.2.2.2.1 (by decide +kernel)
    have fm2 : zFm zMle_bind η0 η2 := by rw [eη2]; exact zFm_up fm1 rfl
    have fm3 : zFm zMle_bind η0 η3 := zFm_tr2 fm2 k11.1.2.2.2.1 (by decide +kernel)
    have fm4 : zFm zMle_bind η0 η4 := zFm_tr2 fm3 k12.1.2.2.2.1 (by decide +kernel)
    have fm5 : zFm zMle_bind η0 η5 := zFm_tr2 fm4 k13.1.2.2.2.1 (by decide +kernel)
    have fmE : zFm zMle_bind η0 η5 := fm5
    have fr22_0 : ∀ j, η 22 j = η 22 j := fun _ => rfl
    have v34 : ∀ j, η1 22 j = η 22 j := fun j => k6.1.2.2.2.1 22 _ (zinr_not (by decide +kernel))
    have fr22_1 : ∀ j, η1 22 j = η 22 j := v34
    have v35 : ∀ j, η2 22 j = η 22 j := fun j => by rw [eη2]; exact (zup_ne (fun e _ => absurd e (by decide))).trans (v34 j)
    have fr22_2 : ∀ j, η2 22 j = η 22 j := v35
    have v36 : ∀ j, η3 22 j = η 22 j := fun j => (k11.1.2.2.2.1 22 _ (zinr_not (by decide +kernel))).trans (v35 j)
    have fr22_3 : ∀ j, η3 22 j = η 22 j := v36
    have v37 : ∀ j, η4 22 j = η 22 j := fun j => (k12.1.2.2.2.1 22 _ (zinr_not (by decide +kernel))).trans (v36 j)
    have fr22_4 : ∀ j, η4 22 j = η 22 j := v37
    have v38 : ∀ j, η5 22 j = η 22 j := fun j => (k13.1.2.2.2.1 22 _ (zinr_not (by decide +kernel))).trans (v37 j)
    have fr22_5 : ∀ j, η5 22 j = η 22 j := v38
    have fr22 : ∀ j, η5 22 j = η 22 j := v38
    have v39 : zEq (η5 0 41) (x8) := (k13.1.2.2.2.1 0 41 (by decide +kernel)).trans v28
    have f0_41 : η5 0 41 = x8 := v39
    have v40 : zEq (η5 0 43) (η 0 43) := (k13.1.2.2.2.1 0 43 (by decide +kernel)).trans v29
    have f0_43 : η5 0 43 = η 0 43 := v40
    have f0_42 : η5 0 42 = η5 0 42 := rfl
    have v42 : zEq (η5 0 45) (η 0 45) := (k13.1.2.2.2.1 0 45 (by decide +kernel)).trans v31
    have f0_45 : η5 0 45 = η 0 45 := v42
    have w5_0_19 : (0 : Int) ≤ η5 0 19 ∧ η5 0 19 ≤ 64 := wf_ok (a := 19) (b := 19) (z := (0, 64)) k13.1.1 (by decide +kernel) (Nat.le_refl _) (Nat.le_refl _)
    have f0_19 : η5 0 19 = η5 0 19 := rfl
    have v44 : zEq (η5 0 44) (η 0 44) := (k13.1.2.2.2.1 0 44 (by decide +kernel)).trans v33
    have f0_44 : η5 0 44 = η 0 44 := v44
    have q5 : 2 ≤ x5 := k6.2.2.1 (Int.le_trans bx1.1 c2)
    have q94 : x9 = x4 := by rw [e9, e8, e7, e4, e3]
    have q10 : x10 = x5 := by rw [e10, e5, q94]
    have G2 : G0_l η2 := by rw [eη2]; exact zGk_upc g0k_l k6.2.1.1 (by decide +kernel)
    have PB := pop_b (η2 := η2) (t := x5) ⟨g0, j1, j2, j3, j4⟩ hw (by rw [← e2]; exact c1) bd43.2 bd44.2 bd19.1 G2 (c2_0_41.trans (by rw [e8, e7])) c2_0_43 c2_0_42 c2_0_45 c2_0_19 c2_0_44 fr22_2 (by rw [e5, e4, e3])
    have P2 := PB.1 (ne2_l q5 q10 c3)
    have q11 : η3 0 42 = η2 0 42 - 1 := k11.2.2
    have H3 : H_l 1 0 (1 - 1) η3 := k11.2.1 1 P2.1
    have h3 := s1_l q11 P2.2.1 P2.2.2
    have q12 : η4 0 42 = η3 0 42 - 1 := k12.2.2
    have H4 : H_l 1 0 (-1) η4 := k12.2.1 _ H3
    have h4 := s1_l q12 h3.1 h3.2
    exact ⟨⟨k13.2.2.1 H4, f0_45.trans hw, hy, kr_l hk c4_0_19 k13.2.2.2⟩, Nat.zero_lt_one⟩
  · obtain ⟨⟨g0, j1, j2, j3, j4⟩, hw, rk0, hk⟩ := hig
    have rk0 : x1 = xs.getD 0 0 := rk0
    have j1 : 0 ≤ η 0 41 := j1
    have bd43 : (0 : Int) ≤ η 0 43 ∧ η 0 43 ≤ 8 := wf_ok (a := 43) (b := 43) (z := (0, 8)) hI.1.1 (by decide +kernel) (Nat.le_refl _) (Nat.le_refl _)
    have bd44 : (0 : Int) ≤ η 0 44 ∧ η 0 44 ≤ 64 := wf_ok (a := 44) (b := 44) (z := (0, 64)) hI.1.1 (by decide +kernel) (Nat.le_refl _) (Nat.le_refl _)
    have bd19 : (0 : Int) ≤ η 0 19 ∧ η 0 19 ≤ 64 := wf_ok (a := 19) (b := 19) (z := (0, 64)) hI.1.1 (by decide +kernel) (Nat.le_refl _) (Nat.le_refl _)
    have b41 : η 0 41 ≤ 96 := by omega
    have fig : yq_bik (xs.getD 0 0) (η0 0 41).toNat η0 = yq_bik (xs.getD 0 0) (η 0 41).toNat η := fig
    clear j2 j3 j4
    have e2 : x2 = η 0 41 := e2
    have e3 : x3 = η 0 41 := e3
    have e4 : x4 = zd 0 2 x3 1 := e4
    have e5 : x5 = η 22 x4.toNat := e5
    obtain ⟨a6, b6⟩ : x6 = yq_rk x5 ∧ η1 = η := y6
    have e7 : x7 = η1 0 41 := e7
    have e8 : x8 = zd 0 2 x7 1 := e8
    have eη2 : η2 = zup η1 0 41 x8 := eη2
    have kx : yq_dec 0 41 η = η2 := by
      rw [eη2, e8, e7, b6]
      rfl
    have e9 : x9 = η2 0 41 := e9
    have e10 : x10 = η2 22 x9.toNat := e10
    obtain ⟨a11, b11⟩ : x11 = yq_drY η2 ∧ η3 = yq_drS η2 := y11
    obtain ⟨a12, b12⟩ : x12 = yq_drY η3 ∧ η4 = yq_drS η3 := y12
    have b13 : η5 = yq_gro x10 x12 x11 η4 := y13
    have c2 : x1 ≤ x6 := c2
    clear e7 e8 eη2 b6
    rw [e3] at e4
    clear e3
    refine fig.trans (qik_s (by omega) b41 (by rw [← e4, ← e5, ← a6]; omega) ?_)
    clear e4
    unfold yq_bi1 yq_bi2
    rw [kx, ← e9, ← e10, if_neg (by omega), ← b11, ← a11, ← b12, ← a12, ← b13]
set_option maxHeartbeats 8000000 in
theorem zle_bind_o6 {ro : Nat → List Int32} (xs : List Int) (η0 : zE) (hp : sP wl_le zTr zPle_bind xs η0) (hpp : pPle_bind xs η0) (x1 : Int) (η : zE) (hI : zsI wl_le zTr zVle_bind zMle_bind η0 0 [x1] η) (hig : iCle_bind xs η0 0 [x1] η) : ∀ x2 : Int, x2 = η 0 (Int.toNat 41) → zok 0 x2 → (0 < x2) → ∀ x3 : Int, x3 = η 0 (Int.toNat 41) → zok 0 x3 → ∀ x4 : Int, x4 = zd 0 2 x3 1 → ∀ x5 : Int, x5 = η 22 (Int.toNat x4) → zok 0 x5 → ∀ (x6 : Int) (η1 : zE), ((gC2 wl_le [(nat_lit 0, zPle_rank, zOle_rank, zMle_rank), (nat_lit 1, zPle_dropHeld, zOle_dropHeld, zMle_dropHeld), (nat_lit 2, zPle_grown, zOle_grown, zMle_grown)] pCle_bind qCle_bind) 0).2 [x5] η x6 η1 → (x1 ≤ x6) → ∀ x7 : Int, x7 = η1 0 (Int.toNat 41) → zok 0 x7 → ∀ x8 : Int, x8 = zd 0 2 x7 1 → ∀ η2 : zE, η2 = zup η1 0 (Int.toNat 41) x8 → ∀ x9 : Int, x9 = η2 0 (Int.toNat 41) → zok 0 x9 → ∀ x10 : Int, x10 = η2 22 (Int.toNat x9) → zok 0 x10 → (x10 = 2) → ((gC2 wl_le [(nat_lit 0, zPle_rank, zOle_rank, zMle_rank), (nat_lit 1, zPle_dropHeld, zOle_dropHeld, zMle_dropHeld), (nat_lit 2, zPle_grown, zOle_grown, zMle_grown)] pCle_bind qCle_bind) 1).1 [] η2 := by
  have fig := hig.2
  have hig := hig.1
  obtain ⟨⟨g0, j1, j2, j3, j4⟩, hw, hy, hk⟩ := hig
  have hk : η0 0 19 ≤ η 0 19 := hk
  have hw : η 0 45 = 0 := hw
  have hy : x1 = xs.getD 0 0 := hy
  have cn := cz_n (η := η) (η 0 41).toNat
  have cn1 := cz_n (η := η) (η 0 41 - 1).toNat
  have bd43 : (0 : Int) ≤ η 0 43 ∧ η 0 43 ≤ 8 := wf_ok (a := 43) (b := 43) (z := (0, 8)) hI.1.1 (by decide +kernel) (Nat.le_refl _) (Nat.le_refl _)
  have bd44 : (0 : Int) ≤ η 0 44 ∧ η 0 44 ≤ 64 := wf_ok (a := 44) (b := 44) (z := (0, 64)) hI.1.1 (by decide +kernel) (Nat.le_refl _) (Nat.le_refl _)
  have bd19 : (0 : Int) ≤ η 0 19 ∧ η 0 19 ≤ 64 := wf_ok (a := 19) (b := 19) (z := (0, 64)) hI.1.1 (by decide +kernel) (Nat.le_refl _) (Nat.le_refl _)
  intro x2 e2 r2 c1 x3 e3 r3 x4 e4 x5 e5 r5 x6 η1 h6 c2 x7 e7 r7 x8 e8 η2 eη2 x9 e9 r9 x10 e10 r10 c3
  replace e4 := zEq_i e4
  replace e8 := zEq_i e8
  have y6 : fQle_rank [x5] η x6 η1 := h6.2.2
  have k6 : sQ wl_le zTr zOle_rank zMle_rank [x5] η x6 η1 ∧ oQle_rank [x5] η x6 η1 := ⟨h6.1, h6.2.1⟩
  have bx1 : (1 : Int) ≤ x1 ∧ x1 ≤ 6 := hI.1.2.1.1
  replace e2 : x2 = η 0 41 := e2
  replace r2 : -2147483648 ≤ x2 ∧ x2 ≤ 2147483647 := r2
  replace e3 : x3 = η 0 41 := e3
  replace r3 : -2147483648 ≤ x3 ∧ x3 ≤ 2147483647 := r3
  first
  | replace e4 : x4 = x3 - 1 := zd_s2 (zEq_o e4) (by clear e4; exact ⟨by omega, by omega⟩)
  | clear e4
  replace e5 : x5 = η 22 (Int.toNat x4) := e5
  replace r5 : -2147483648 ≤ x5 ∧ x5 ≤ 2147483647 := r5
  try have rb5 : (0 : Int) ≤ η 22 (Int.toNat x4) ∧ η 22 (Int.toNat x4) ≤ 14 := wf_ok (a := 0) (b := 95) (z := (0, 14)) hI.1.1 (by decide +kernel) (Nat.zero_le _) (by omega)
  have c0_0_41 : η 0 41 = η 0 41 := rfl
  have w0_0_43 : (0 : Int) ≤ η 0 43 ∧ η 0 43 ≤ 8 := wf_ok (a := 43) (b := 43) (z := (0, 8)) hI.1.1 (by decide +kernel) (Nat.le_refl _) (Nat.le_refl _)
  have c0_0_43 : η 0 43 = η 0 43 := rfl
  have c0_0_42 : η 0 42 = η 0 42 := rfl
  have c0_0_45 : η 0 45 = η 0 45 := rfl
  have w0_0_19 : (0 : Int) ≤ η 0 19 ∧ η 0 19 ≤ 64 := wf_ok (a := 19) (b := 19) (z := (0, 64)) hI.1.1 (by decide +kernel) (Nat.le_refl _) (Nat.le_refl _)
  have c0_0_19 : η 0 19 = η 0 19 := rfl
  have w0_0_44 : (0 : Int) ≤ η 0 44 ∧ η 0 44 ≤ 64 := wf_ok (a := 44) (b := 44) (z := (0, 64)) hI.1.1 (by decide +kernel) (Nat.le_refl _) (Nat.le_refl _)
  have c0_0_44 : η 0 44 = η 0 44 := rfl
  have bx6 : (0 : Int) ≤ x6 ∧ x6 ≤ 6 := k6.1.2.1
  have v7 : zEq (η1 0 41) (η 0 41) := (k6.1.2.2.2.1 0 41 (by decide +kernel)).trans rfl
  replace e7 : x7 = η 0 41 := e7.trans v7
  replace r7 : -2147483648 ≤ x7 ∧ x7 ≤ 2147483647 := r7
  first
  | replace e8 : x8 = x7 - 1 := zd_s2 (zEq_o e8) (by clear e8; exact ⟨by omega, by omega⟩)
  | clear e8
  have c1_0_41 : η1 0 41 = η 0 41 := v7
  have v8 : zEq (η2 0 41) (x8) := by rw [eη2]; exact zup_eq
  replace e9 : x9 = x8 := e9.trans v8
  replace r9 : -2147483648 ≤ x9 ∧ x9 ≤ 2147483647 := r9
  have v10 : zEq (η1 22 (Int.toNat x9)) (η 22 (Int.toNat x9)) := (k6.1.2.2.2.1 22 _ (zinr_not (by decide +kernel))).trans rfl
  have v11 : zEq (η2 22 (Int.toNat x9)) (η 22 (Int.toNat x9)) := by rw [eη2]; exact (zup_ne (fun e _ => absurd e (by decide))).trans v10
  replace e10 : x10 = η 22 (Int.toNat x9) := e10.trans v11
  replace r10 : -2147483648 ≤ x10 ∧ x10 ≤ 2147483647 := r10
  try have rb10 : (0 : Int) ≤ η 22 (Int.toNat x9) ∧ η 22 (Int.toNat x9) ≤ 14 := wf_ok (a := 0) (b := 95) (z := (0, 14)) hI.1.1 (by decide +kernel) (Nat.zero_le _) (by omega)
  have fm1 : zFm zMle_bind η0 η1 := zFm_tr2 hI.2 k6.1.2.2.2.1 (by decide +kernel)
  have fm2 : zFm zMle_bind η0 η2 := by rw [eη2]; exact zFm_up fm1 rfl
  have fmE : zFm zMle_bind η0 η2 := fm2
  have fr22_0 : ∀ j, η 22 j = η 22 j := fun _ => rfl
  have v12 : ∀ j, η1 22 j = η 22 j := fun j => k6.1.2.2.2.1 22 _ (zinr_not (by decide +kernel))
  have fr22_1 : ∀ j, η1 22 j = η 22 j := v12
  have v13 : ∀ j, η2 22 j = η 22 j := fun j => by rw [eη2]; exact (zup_ne (fun e _ => absurd e (by decide))).trans (v12 j)
  have fr22_2 : ∀ j, η2 22 j = η 22 j := v13
  have fr22 : ∀ j, η2 22 j = η 22 j := v13
  have f0_41 : η2 0 41 = x8 := v8
  have v14 : zEq (η1 0 43) (η 0 43) := (k6.1.2.2.2.1 0 43 (by decide +kernel)).trans rfl
  have v15 : zEq (η2 0 43) (η 0 43) := by rw [eη2]; exact (zup_ne (fun _ e => absurd e (by decide))).trans v14
  have f0_43 : η2 0 43 = η 0 43 := v15
  have v16 : zEq (η1 0 42) (η 0 42) := (k6.1.2.2.2.1 0 42 (by decide +kernel)).trans rfl
  have v17 : zEq (η2 0 42) (η 0 42) := by rw [eη2]; exact (zup_ne (fun _ e => absurd e (by decide))).trans v16
  have f0_42 : η2 0 42 = η 0 42 := v17
  have v18 : zEq (η1 0 45) (η 0 45) := (k6.1.2.2.2.1 0 45 (by decide +kernel)).trans rfl
  have v19 : zEq (η2 0 45) (η 0 45) := by rw [eη2]; exact (zup_ne (fun _ e => absurd e (by decide))).trans v18
  have f0_45 : η2 0 45 = η 0 45 := v19
  have v20 : zEq (η1 0 19) (η 0 19) := (k6.1.2.2.2.1 0 19 (by decide +kernel)).trans rfl
  have v21 : zEq (η2 0 19) (η 0 19) := by rw [eη2]; exact (zup_ne (fun _ e => absurd e (by decide))).trans v20
  have f0_19 : η2 0 19 = η 0 19 := v21
  have v22 : zEq (η1 0 44) (η 0 44) := (k6.1.2.2.2.1 0 44 (by decide +kernel)).trans rfl
  have v23 : zEq (η2 0 44) (η 0 44) := by rw [eη2]; exact (zup_ne (fun _ e => absurd e (by decide))).trans v22
  have f0_44 : η2 0 44 = η 0 44 := v23
  have q5 : 2 ≤ x5 := k6.2.2.1 (Int.le_trans bx1.1 c2)
  have q94 : x9 = x4 := by rw [e9, e8, e7, e4, e3]
  have q10 : x10 = x5 := by rw [e10, e5, q94]
  have G2 : G0_l η2 := by rw [eη2]; exact zGk_upc g0k_l k6.2.1.1 (by decide +kernel)
  have PB := pop_b (η2 := η2) (t := x5) ⟨g0, j1, j2, j3, j4⟩ hw (by rw [← e2]; exact c1) bd43.2 bd44.2 bd19.1 G2 (f0_41.trans (by rw [e8, e7])) f0_43 f0_42 f0_45 f0_19 f0_44 fr22_2 (by rw [e5, e4, e3])
  have P2 := PB.2 (q10.symm.trans c3)
  exact ⟨⟨0, P2.1⟩, P2.2.1, P2.2.2⟩
set_option maxHeartbeats 8000000 in
theorem zle_bind_o7 {ro : Nat → List Int32} (xs : List Int) (η0 : zE) (hp : sP wl_le zTr zPle_bind xs η0) (hpp : pPle_bind xs η0) (x1 : Int) (η : zE) (hI : zsI wl_le zTr zVle_bind zMle_bind η0 0 [x1] η) (hig : iCle_bind xs η0 0 [x1] η) : ∀ x2 : Int, x2 = η 0 (Int.toNat 41) → zok 0 x2 → (0 < x2) → ∀ x3 : Int, x3 = η 0 (Int.toNat 41) → zok 0 x3 → ∀ x4 : Int, x4 = zd 0 2 x3 1 → ∀ x5 : Int, x5 = η 22 (Int.toNat x4) → zok 0 x5 → ∀ (x6 : Int) (η1 : zE), ((gC2 wl_le [(nat_lit 0, zPle_rank, zOle_rank, zMle_rank), (nat_lit 1, zPle_dropHeld, zOle_dropHeld, zMle_dropHeld), (nat_lit 2, zPle_grown, zOle_grown, zMle_grown)] pCle_bind qCle_bind) 0).2 [x5] η x6 η1 → (x1 ≤ x6) → ∀ x7 : Int, x7 = η1 0 (Int.toNat 41) → zok 0 x7 → ∀ x8 : Int, x8 = zd 0 2 x7 1 → ∀ η2 : zE, η2 = zup η1 0 (Int.toNat 41) x8 → ∀ x9 : Int, x9 = η2 0 (Int.toNat 41) → zok 0 x9 → ∀ x10 : Int, x10 = η2 22 (Int.toNat x9) → zok 0 x10 → (x10 = 2) → ∀ (x11 : Int) (η3 : zE), ((gC2 wl_le [(nat_lit 0, zPle_rank, zOle_rank, zMle_rank), (nat_lit 1, zPle_dropHeld, zOle_dropHeld, zMle_dropHeld), (nat_lit 2, zPle_grown, zOle_grown, zMle_grown)] pCle_bind qCle_bind) 1).2 [] η2 x11 η3 → ((gC2 wl_le [(nat_lit 0, zPle_rank, zOle_rank, zMle_rank), (nat_lit 1, zPle_dropHeld, zOle_dropHeld, zMle_dropHeld), (nat_lit 2, zPle_grown, zOle_grown, zMle_grown)] pCle_bind qCle_bind) 2).1 [x10, x11, (-1)] η3 := by
  have fig := hig.2
  have hig := hig.1
  obtain ⟨⟨g0, j1, j2, j3, j4⟩, hw, hy, hk⟩ := hig
  have hk : η0 0 19 ≤ η 0 19 := hk
  have hw : η 0 45 = 0 := hw
  have hy : x1 = xs.getD 0 0 := hy
  have cn := cz_n (η := η) (η 0 41).toNat
  have cn1 := cz_n (η := η) (η 0 41 - 1).toNat
  have bd43 : (0 : Int) ≤ η 0 43 ∧ η 0 43 ≤ 8 := wf_ok (a := 43) (b := 43) (z := (0, 8)) hI.1.1 (by decide +kernel) (Nat.le_refl _) (Nat.le_refl _)
  have bd44 : (0 : Int) ≤ η 0 44 ∧ η 0 44 ≤ 64 := wf_ok (a := 44) (b := 44) (z := (0, 64)) hI.1.1 (by decide +kernel) (Nat.le_refl _) (Nat.le_refl _)
  have bd19 : (0 : Int) ≤ η 0 19 ∧ η 0 19 ≤ 64 := wf_ok (a := 19) (b := 19) (z := (0, 64)) hI.1.1 (by decide +kernel) (Nat.le_refl _) (Nat.le_refl _)
  intro x2 e2 r2 c1 x3 e3 r3 x4 e4 x5 e5 r5 x6 η1 h6 c2 x7 e7 r7 x8 e8 η2 eη2 x9 e9 r9 x10 e10 r10 c3 x11 η3 h11
  replace e4 := zEq_i e4
  replace e8 := zEq_i e8
  have y6 : fQle_rank [x5] η x6 η1 := h6.2.2
  have k6 : sQ wl_le zTr zOle_rank zMle_rank [x5] η x6 η1 ∧ oQle_rank [x5] η x6 η1 := ⟨h6.1, h6.2.1⟩
  have y11 : fQle_dropHeld [] η2 x11 η3 := h11.2.2
  have k11 : sQ wl_le zTr zOle_dropHeld zMle_dropHeld [] η2 x11 η3 ∧ oQle_dropHeld [] η2 x11 η3 := ⟨h11.1, h11.2.1⟩
  have bx1 : (1 : Int) ≤ x1 ∧ x1 ≤ 6 := hI.1.2.1.1
  replace e2 : x2 = η 0 41 := e2
  replace r2 : -2147483648 ≤ x2 ∧ x2 ≤ 2147483647 := r2
  replace e3 : x3 = η 0 41 := e3
  replace r3 : -2147483648 ≤ x3 ∧ x3 ≤ 2147483647 := r3
  first
  | replace e4 : x4 = x3 - 1 := zd_s2 (zEq_o e4) (by clear e4; exact ⟨by omega, by omega⟩)
  | clear e4
  replace e5 : x5 = η 22 (Int.toNat x4) := e5
  replace r5 : -2147483648 ≤ x5 ∧ x5 ≤ 2147483647 := r5
  try have rb5 : (0 : Int) ≤ η 22 (Int.toNat x4) ∧ η 22 (Int.toNat x4) ≤ 14 := wf_ok (a := 0) (b := 95) (z := (0, 14)) hI.1.1 (by decide +kernel) (Nat.zero_le _) (by omega)
  have c0_0_41 : η 0 41 = η 0 41 := rfl
  have w0_0_43 : (0 : Int) ≤ η 0 43 ∧ η 0 43 ≤ 8 := wf_ok (a := 43) (b := 43) (z := (0, 8)) hI.1.1 (by decide +kernel) (Nat.le_refl _) (Nat.le_refl _)
  have c0_0_43 : η 0 43 = η 0 43 := rfl
  have c0_0_42 : η 0 42 = η 0 42 := rfl
  have c0_0_45 : η 0 45 = η 0 45 := rfl
  have w0_0_19 : (0 : Int) ≤ η 0 19 ∧ η 0 19 ≤ 64 := wf_ok (a := 19) (b := 19) (z := (0, 64)) hI.1.1 (by decide +kernel) (Nat.le_refl _) (Nat.le_refl _)
  have c0_0_19 : η 0 19 = η 0 19 := rfl
  have w0_0_44 : (0 : Int) ≤ η 0 44 ∧ η 0 44 ≤ 64 := wf_ok (a := 44) (b := 44) (z := (0, 64)) hI.1.1 (by decide +kernel) (Nat.le_refl _) (Nat.le_refl _)
  have c0_0_44 : η 0 44 = η 0 44 := rfl
  have bx6 : (0 : Int) ≤ x6 ∧ x6 ≤ 6 := k6.1.2.1
  have v7 : zEq (η1 0 41) (η 0 41) := (k6.1.2.2.2.1 0 41 (by decide +kernel)).trans rfl
  replace e7 : x7 = η 0 41 := e7.trans v7
  replace r7 : -2147483648 ≤ x7 ∧ x7 ≤ 2147483647 := r7
  first
  | replace e8 : x8 = x7 - 1 := zd_s2 (zEq_o e8) (by clear e8; exact ⟨by omega, by omega⟩)
  | clear e8
  have c1_0_41 : η1 0 41 = η 0 41 := v7
  have v8 : zEq (η2 0 41) (x8) := by rw [eη2]; exact zup_eq
  replace e9 : x9 = x8 := e9.trans v8
  replace r9 : -2147483648 ≤ x9 ∧ x9 ≤ 2147483647 := r9
  have v10 : zEq (η1 22 (Int.toNat x9)) (η 22 (Int.toNat x9)) := (k6.1.2.2.2.1 22 _ (zinr_not (by decide +kernel))).trans rfl
  have v11 : zEq (η2 22 (Int.toNat x9)) (η 22 (Int.toNat x9)) := by rw [eη2]; exact (zup_ne (fun e _ => absurd e (by decide))).trans v10
  replace e10 : x10 = η 22 (Int.toNat x9) := e10.trans v11
  replace r10 : -2147483648 ≤ x10 ∧ x10 ≤ 2147483647 := r10
  try have rb10 : (0 : Int) ≤ η 22 (Int.toNat x9) ∧ η 22 (Int.toNat x9) ≤ 14 := wf_ok (a := 0) (b := 95) (z := (0, 14)) hI.1.1 (by decide +kernel) (Nat.zero_le _) (by omega)
  have c2_0_41 : η2 0 41 = x8 := v8
  have v12 : zEq (η1 0 43) (η 0 43) := (k6.1.2.2.2.1 0 43 (by decide +kernel)).trans rfl
  have v13 : zEq (η2 0 43) (η 0 43) := by rw [eη2]; exact (zup_ne (fun _ e => absurd e (by decide))).trans v12
  have c2_0_43 : η2 0 43 = η 0 43 := v13
  have v14 : zEq (η1 0 42) (η 0 42) := (k6.1.2.2.2.1 0 42 (by decide +kernel)).trans rfl
  have v15 : zEq (η2 0 42) (η 0 42) := by rw [eη2]; exact (zup_ne (fun _ e => absurd e (by decide))).trans v14
  have c2_0_42 : η2 0 42 = η 0 42 := v15
  have v16 : zEq (η1 0 45) (η 0 45) := (k6.1.2.2.2.1 0 45 (by decide +kernel)).trans rfl
  have v17 : zEq (η2 0 45) (η 0 45) := by rw [eη2]; exact (zup_ne (fun _ e => absurd e (by decide))).trans v16
  have c2_0_45 : η2 0 45 = η 0 45 := v17
  have v18 : zEq (η1 0 19) (η 0 19) := (k6.1.2.2.2.1 0 19 (by decide +kernel)).trans rfl
  have v19 : zEq (η2 0 19) (η 0 19) := by rw [eη2]; exact (zup_ne (fun _ e => absurd e (by decide))).trans v18
  have c2_0_19 : η2 0 19 = η 0 19 := v19
  have v20 : zEq (η1 0 44) (η 0 44) := (k6.1.2.2.2.1 0 44 (by decide +kernel)).trans rfl
  have v21 : zEq (η2 0 44) (η 0 44) := by rw [eη2]; exact (zup_ne (fun _ e => absurd e (by decide))).trans v20
  have c2_0_44 : η2 0 44 = η 0 44 := v21
  have bx11 : (0 : Int) ≤ x11 ∧ x11 ≤ 63 := k11.1.2.1
  have fm1 : zFm zMle_bind η0 η1 := zFm_tr2 hI.2 k6.1.2.2.2.1 (by decide +kernel)
  have fm2 : zFm zMle_bind η0 η2 := by rw [eη2]; exact zFm_up fm1 rfl
  have fm3 : zFm zMle_bind η0 η3 := zFm_tr2 fm2 k11.1.2.2.2.1 (by decide +kernel)
  have fmE : zFm zMle_bind η0 η3 := fm3
  have fr22_0 : ∀ j, η 22 j = η 22 j := fun _ => rfl
  have v22 : ∀ j, η1 22 j = η 22 j := fun j => k6.1.2.2.2.1 22 _ (zinr_not (by decide +kernel))
  have fr22_1 : ∀ j, η1 22 j = η 22 j := v22
  have v23 : ∀ j, η2 22 j = η 22 j := fun j => by rw [eη2]; exact (zup_ne (fun e _ => absurd e (by decide))).trans (v22 j)
  have fr22_2 : ∀ j, η2 22 j = η 22 j := v23
  have v24 : ∀ j, η3 22 j = η 22 j := fun j => (k11.1.2.2.2.1 22 _ (zinr_not (by decide +kernel))).trans (v23 j)
  have fr22_3 : ∀ j, η3 22 j = η 22 j := v24
  have fr22 : ∀ j, η3 22 j = η 22 j := v24
  have v25 : zEq (η3 0 41) (x8) := (k11.1.2.2.2.1 0 41 (by decide +kernel)).trans v8
  have f0_41 : η3 0 41 = x8 := v25
  have v26 : zEq (η3 0 43) (η 0 43) := (k11.1.2.2.2.1 0 43 (by decide +kernel)).trans v13
  have f0_43 : η3 0 43 = η 0 43 := v26
  have f0_42 : η3 0 42 = η3 0 42 := rfl
  have v28 : zEq (η3 0 45) (η 0 45) := (k11.1.2.2.2.1 0 45 (by decide +kernel)).trans v17
  have f0_45 : η3 0 45 = η 0 45 := v28
  have v29 : zEq (η3 0 19) (η 0 19) := (k11.1.2.2.2.1 0 19 (by decide +kernel)).trans v19
  have f0_19 : η3 0 19 = η 0 19 := v29
  have v30 : zEq (η3 0 44) (η 0 44) := (k11.1.2.2.2.1 0 44 (by decide +kernel)).trans v21
  have f0_44 : η3 0 44 = η 0 44 := v30
  have q5 : 2 ≤ x5 := k6.2.2.1 (Int.le_trans bx1.1 c2)
  have q94 : x9 = x4 := by rw [e9, e8, e7, e4, e3]
  have q10 : x10 = x5 := by rw [e10, e5, q94]
  have G2 : G0_l η2 := by rw [eη2]; exact zGk_upc g0k_l k6.2.1.1 (by decide +kernel)
  have PB := pop_b (η2 := η2) (t := x5) ⟨g0, j1, j2, j3, j4⟩ hw (by rw [← e2]; exact c1) bd43.2 bd44.2 bd19.1 G2 (c2_0_41.trans (by rw [e8, e7])) c2_0_43 c2_0_42 c2_0_45 c2_0_19 c2_0_44 fr22_2 (by rw [e5, e4, e3])
  have P2 := PB.2 (q10.symm.trans c3)
  have q11 : η3 0 42 = η2 0 42 - 1 := k11.2.2
  have H3 : H_l 1 0 (-1) η3 := k11.2.1 0 P2.1
  have h3 := s1_l q11 P2.2.1 P2.2.2
  exact ⟨Or.inr H3, ⟨fun w => absurd (c3.symm.trans w) (by decide), fun _ _ => bx11, fun _ _ w => absurd c3 w⟩, h3.1, Int.le_trans h3.2 (by decide)⟩
set_option maxHeartbeats 8000000 in
theorem zle_bind_o8 {ro : Nat → List Int32} (xs : List Int) (η0 : zE) (hp : sP wl_le zTr zPle_bind xs η0) (hpp : pPle_bind xs η0) (x1 : Int) (η : zE) (hI : zsI wl_le zTr zVle_bind zMle_bind η0 0 [x1] η) (hig : iCle_bind xs η0 0 [x1] η) : ∀ x2 : Int, x2 = η 0 (Int.toNat 41) → zok 0 x2 → (0 < x2) → ∀ x3 : Int, x3 = η 0 (Int.toNat 41) → zok 0 x3 → ∀ x4 : Int, x4 = zd 0 2 x3 1 → ∀ x5 : Int, x5 = η 22 (Int.toNat x4) → zok 0 x5 → ∀ (x6 : Int) (η1 : zE), ((gC2 wl_le [(nat_lit 0, zPle_rank, zOle_rank, zMle_rank), (nat_lit 1, zPle_dropHeld, zOle_dropHeld, zMle_dropHeld), (nat_lit 2, zPle_grown, zOle_grown, zMle_grown)] pCle_bind qCle_bind) 0).2 [x5] η x6 η1 → (x1 ≤ x6) → ∀ x7 : Int, x7 = η1 0 (Int.toNat 41) → zok 0 x7 → ∀ x8 : Int, x8 = zd 0 2 x7 1 → ∀ η2 : zE, η2 = zup η1 0 (Int.toNat 41) x8 → ∀ x9 : Int, x9 = η2 0 (Int.toNat 41) → zok 0 x9 → ∀ x10 : Int, x10 = η2 22 (Int.toNat x9) → zok 0 x10 → (x10 = 2) → ∀ (x11 : Int) (η3 : zE), ((gC2 wl_le [(nat_lit 0, zPle_rank, zOle_rank, zMle_rank), (nat_lit 1, zPle_dropHeld, zOle_dropHeld, zMle_dropHeld), (nat_lit 2, zPle_grown, zOle_grown, zMle_grown)] pCle_bind qCle_bind) 1).2 [] η2 x11 η3 → ∀ (x12 : Int) (η4 : zE), ((gC2 wl_le [(nat_lit 0, zPle_rank, zOle_rank, zMle_rank), (nat_lit 1, zPle_dropHeld, zOle_dropHeld, zMle_dropHeld), (nat_lit 2, zPle_grown, zOle_grown, zMle_grown)] pCle_bind qCle_bind) 2).2 [x10, x11, (-1)] η3 x12 η4 → (iCle_bind xs η0) 0 [x1] η4 ∧ (fun (_ : Nat) (_ : List Int) (_ : zE) => (0 : Nat)) 0 [x1] η4 < 1 := by
  have fig := hig.2
  have hig := hig.1
  intro x2 e2 r2 c1 x3 e3 r3 x4 e4 x5 e5 r5 x6 η1 h6 c2 x7 e7 r7 x8 e8 η2 eη2 x9 e9 r9 x10 e10 r10 c3 x11 η3 h11 x12 η4 h12
  have y6 : fQle_rank [x5] η x6 η1 := h6.2.2
  have k6 : sQ wl_le zTr zOle_rank zMle_rank [x5] η x6 η1 ∧ oQle_rank [x5] η x6 η1 := ⟨h6.1, h6.2.1⟩
  have y11 : fQle_dropHeld [] η2 x11 η3 := h11.2.2
  have k11 : sQ wl_le zTr zOle_dropHeld zMle_dropHeld [] η2 x11 η3 ∧ oQle_dropHeld [] η2 x11 η3 := ⟨h11.1, h11.2.1⟩
  have y12 : fQle_grown [x10, x11, (-1)] η3 x12 η4 := h12.2.2
  have k12 : sQ wl_le zTr zOle_grown zMle_grown [x10, x11, (-1)] η3 x12 η4 ∧ oQle_grown [x10, x11, (-1)] η3 x12 η4 := ⟨h12.1, h12.2.1⟩
  refine yj_c ?_ ?_
  · obtain ⟨⟨g0, j1, j2, j3, j4⟩, hw, hy, hk⟩ := hig
    have hk : η0 0 19 ≤ η 0 19 := hk
    have hw : η 0 45 = 0 := hw
    have hy : x1 = xs.getD 0 0 := hy
    have cn := cz_n (η := η) (η 0 41).toNat
    have cn1 := cz_n (η := η) (η 0 41 - 1).toNat
    have bd43 : (0 : Int) ≤ η 0 43 ∧ η 0 43 ≤ 8 := wf_ok (a := 43) (b := 43) (z := (0, 8)) hI.1.1 (by decide +kernel) (Nat.le_refl _) (Nat.le_refl _)
    have bd44 : (0 : Int) ≤ η 0 44 ∧ η 0 44 ≤ 64 := wf_ok (a := 44) (b := 44) (z := (0, 64)) hI.1.1 (by decide +kernel) (Nat.le_refl _) (Nat.le_refl _)
    have bd19 : (0 : Int) ≤ η 0 19 ∧ η 0 19 ≤ 64 := wf_ok (a := 19) (b := 19) (z := (0, 64)) hI.1.1 (by decide +kernel) (Nat.le_refl _) (Nat.le_refl _)
    replace e4 := zEq_i e4
    replace e8 := zEq_i e8
    have y6 : fQle_rank [x5] η x6 η1 := h6.2.2
    have k6 : sQ wl_le zTr zOle_rank zMle_rank [x5] η x6 η1 ∧ oQle_rank [x5] η x6 η1 := ⟨h6.1, h6.2.1⟩
    have y11 : fQle_dropHeld [] η2 x11 η3 := h11.2.2
    have k11 : sQ wl_le zTr zOle_dropHeld zMle_dropHeld [] η2 x11 η3 ∧ oQle_dropHeld [] η2 x11 η3 := ⟨h11.1, h11.2.1⟩
    have y12 : fQle_grown [x10, x11, (-1)] η3 x12 η4 := h12.2.2
    have k12 : sQ wl_le zTr zOle_grown zMle_grown [x10, x11, (-1)] η3 x12 η4 ∧ oQle_grown [x10, x11, (-1)] η3 x12 η4 := ⟨h12.1, h12.2.1⟩
    have bx1 : (1 : Int) ≤ x1 ∧ x1 ≤ 6 := hI.1.2.1.1
    replace e2 : x2 = η 0 41 := e2
    replace r2 : -2147483648 ≤ x2 ∧ x2 ≤ 2147483647 := r2
    replace e3 : x3 = η 0 41 := e3
    replace r3 : -2147483648 ≤ x3 ∧ x3 ≤ 2147483647 := r3
    first
    | replace e4 : x4 = x3 - 1 := zd_s2 (zEq_o e4) (by clear e4; exact ⟨by omega, by omega⟩)
    | clear e4
    replace e5 : x5 = η 22 (Int.toNat x4) := e5
    replace r5 : -2147483648 ≤ x5 ∧ x5 ≤ 2147483647 := r5
    try have rb5 : (0 : Int) ≤ η 22 (Int.toNat x4) ∧ η 22 (Int.toNat x4) ≤ 14 := wf_ok (a := 0) (b := 95) (z := (0, 14)) hI.1.1 (by decide +kernel) (Nat.zero_le _) (by omega)
    have c0_0_41 : η 0 41 = η 0 41 := rfl
    have w0_0_43 : (0 : Int) ≤ η 0 43 ∧ η 0 43 ≤ 8 := wf_ok (a := 43) (b := 43) (z := (0, 8)) hI.1.1 (by decide +kernel) (Nat.le_refl _) (Nat.le_refl _)
    have c0_0_43 : η 0 43 = η 0 43 := rfl
    have c0_0_42 : η 0 42 = η 0 42 := rfl
    have c0_0_45 : η 0 45 = η 0 45 := rfl
    have w0_0_19 : (0 : Int) ≤ η 0 19 ∧ η 0 19 ≤ 64 := wf_ok (a := 19) (b := 19) (z := (0, 64)) hI.1.1 (by decide +kernel) (Nat.le_refl _) (Nat.le_refl _)
    have c0_0_19 : η 0 19 = η 0 19 := rfl
    have w0_0_44 : (0 : Int) ≤ η 0 44 ∧ η 0 44 ≤ 64 := wf_ok (a := 44) (b := 44) (z := (0, 64)) hI.1.1 (by decide +kernel) (Nat.le_refl _) (Nat.le_refl _)
    have c0_0_44 : η 0 44 = η 0 44 := rfl
    have bx6 : (0 : Int) ≤ x6 ∧ x6 ≤ 6 := k6.1.2.1
    have v7 : zEq (η1 0 41) (η 0 41) := (k6.1.2.2.2.1 0 41 (by decide +kernel)).trans rfl
    replace e7 : x7 = η 0 41 := e7.trans v7
    replace r7 : -2147483648 ≤ x7 ∧ x7 ≤ 2147483647 := r7
    first
    | replace e8 : x8 = x7 - 1 := zd_s2 (zEq_o e8) (by clear e8; exact ⟨by omega, by omega⟩)
    | clear e8
    have c1_0_41 : η1 0 41 = η 0 41 := v7
    have v8 : zEq (η2 0 41) (x8) := by rw [eη2]; exact zup_eq
    replace e9 : x9 = x8 := e9.trans v8
    replace r9 : -2147483648 ≤ x9 ∧ x9 ≤ 2147483647 := r9
    have v10 : zEq (η1 22 (Int.toNat x9)) (η 22 (Int.toNat x9)) := (k6.1.2.2.2.1 22 _ (zinr_not (by decide +kernel))).trans rfl
    have v11 : zEq (η2 22 (Int.toNat x9)) (η 22 (Int.toNat x9)) := by rw [eη2]; exact (zup_ne (fun e _ => absurd e (by decide))).trans v10
    replace e10 : x10 = η 22 (Int.toNat x9) := e10.trans v11
    replace r10 : -2147483648 ≤ x10 ∧ x10 ≤ 2147483647 := r10
    try have rb10 : (0 : Int) ≤ η 22 (Int.toNat x9) ∧ η 22 (Int.toNat x9) ≤ 14 := wf_ok (a := 0) (b := 95) (z := (0, 14)) hI.1.1 (by decide +kernel) (Nat.zero_le _) (by omega)
    have c2_0_41 : η2 0 41 = x8 := v8
    have v12 : zEq (η1 0 43) (η 0 43) := (k6.1.2.2.2.1 0 43 (by decide +kernel)).trans rfl
    have v13 : zEq (η2 0 43) (η 0 43) := by rw [eη2]; exact (zup_ne (fun _ e => absurd e (by decide))).trans v12
    have c2_0_43 : η2 0 43 = η 0 43 := v13
    have v14 : zEq (η1 0 42) (η 0 42) := (k6.1.2.2.2.1 0 42 (by decide +kernel)).trans rfl
    have v15 : zEq (η2 0 42) (η 0 42) := by rw [eη2]; exact (zup_ne (fun _ e => absurd e (by decide))).trans v14
    have c2_0_42 : η2 0 42 = η 0 42 := v15
    have v16 : zEq (η1 0 45) (η 0 45) := (k6.1.2.2.2.1 0 45 (by decide +kernel)).trans rfl
    have v17 : zEq (η2 0 45) (η 0 45) := by rw [eη2]; exact (zup_ne (fun _ e => absurd e (by decide))).trans v16
    have c2_0_45 : η2 0 45 = η 0 45 := v17
    have v18 : zEq (η1 0 19) (η 0 19) := (k6.1.2.2.2.1 0 19 (by decide +kernel)).trans rfl
    have v19 : zEq (η2 0 19) (η 0 19) := by rw [eη2]; exact (zup_ne (fun _ e => absurd e (by decide))).trans v18
    have c2_0_19 : η2 0 19 = η 0 19 := v19
    have v20 : zEq (η1 0 44) (η 0 44) := (k6.1.2.2.2.1 0 44 (by decide +kernel)).trans rfl
    have v21 : zEq (η2 0 44) (η 0 44) := by rw [eη2]; exact (zup_ne (fun _ e => absurd e (by decide))).trans v20
    have c2_0_44 : η2 0 44 = η 0 44 := v21
    have bx11 : (0 : Int) ≤ x11 ∧ x11 ≤ 63 := k11.1.2.1
    have v22 : zEq (η3 0 41) (x8) := (k11.1.2.2.2.1 0 41 (by decide +kernel)).trans v8
    have c3_0_41 : η3 0 41 = x8 := v22
    have v23 : zEq (η3 0 43) (η 0 43) := (k11.1.2.2.2.1 0 43 (by decide +kernel)).trans v13
    have c3_0_43 : η3 0 43 = η 0 43 := v23
    have c3_0_42 : η3 0 42 = η3 0 42 := rfl
    have v25 : zEq (η3 0 45) (η 0 45) := (k11.1.2.2.2.1 0 45 (by decide +kernel)).trans v17
    have c3_0_45 : η3 0 45 = η 0 45 := v25
    have v26 : zEq (η3 0 19) (η 0 19) := (k11.1.2.2.2.1 0 19 (by decide +kernel)).trans v19
    have c3_0_19 : η3 0 19 = η 0 19 := v26
    have v27 : zEq (η3 0 44) (η 0 44) := (k11.1.2.2.2.1 0 44 (by decide +kernel)).trans v21
    have c3_0_44 : η3 0 44 = η 0 44 := v27
    have bx12 : (0 : Int) ≤ x12 ∧ x12 ≤ 0 := k12.1.2.1
    have fm1 : zFm zMle_bind η0 η1 := zFm_tr2 hI.2 k6.1.2.2.2.1 (by decide +kernel)
    have fm2 : zFm zMle_bind η0 η2 := by rw [eη2]; exact zFm_up fm1 rfl
    have fm3 : zFm zMle_bind η0 η3 := zFm_tr2 fm2 k11.1.2.2.2.1 (by decide +kernel)
    have fm4 : zFm zMle_bind η0 η4 := zFm_tr2 fm3 k12.1.2.2.2.1 (by decide +kernel)
    have fmE : zFm zMle_bind η0 η4 := fm4
    have fr22_0 : ∀ j, η 22 j = η 22 j := fun _ => rfl
    have v28 : ∀ j, η1 22 j = η 22 j := fun j => k6.1.2.2.2.1 22 _ (zinr_not (by decide +kernel))
    have fr22_1 : ∀ j, η1 22 j = η 22 j := v28
    have v29 : ∀ j, η2 22 j = η 22 j := fun j => by rw [eη2]; exact (zup_ne (fun e _ => absurd e (by decide))).trans (v28 j)
    have fr22_2 : ∀ j, η2 22 j = η 22 j := v29
    have v30 : ∀ j, η3 22 j = η 22 j := fun j => (k11.1.2.2.2.1 22 _ (zinr_not (by decide +kernel))).trans (v29 j)
    have fr22_3 : ∀ j, η3 22 j = η 22 j := v30
    have v31 : ∀ j, η4 22 j = η 22 j := fun j => (k12.1.2.2.2.1 22 _ (zinr_not (by decide +kernel))).trans (v30 j)
    have fr22_4 : ∀ j, η4 22 j = η 22 j := v31
    have fr22 : ∀ j, η4 22 j = η 22 j := v31
    have v32 : zEq (η4 0 41) (x8) := (k12.1.2.2.2.1 0 41 (by decide +kernel)).trans v22
    have f0_41 : η4 0 41 = x8 := v32
    have v33 : zEq (η4 0 43) (η 0 43) := (k12.1.2.2.2.1 0 43 (by decide +kernel)).trans v23
    have f0_43 : η4 0 43 = η 0 43 := v33
    have f0_42 : η4 0 42 = η4 0 42 := rfl
    have v35 : zEq (η4 0 45) (η 0 45) := (k12.1.2.2.2.1 0 45 (by decide +kernel)).trans v25
    have f0_45 : η4 0 45 = η 0 45 := v35
    have w4_0_19 : (0 : Int) ≤ η4 0 19 ∧ η4 0 19 ≤ 64 := wf_ok (a := 19) (b := 19) (z := (0, 64)) k12.1.1 (by decide +kernel) (Nat.le_refl _) (Nat.le_refl _)
    have f0_19 : η4 0 19 = η4 0 19 := rfl
    have v37 : zEq (η4 0 44) (η 0 44) := (k12.1.2.2.2.1 0 44 (by decide +kernel)).trans v27
    have f0_44 : η4 0 44 = η 0 44 := v37
    have q5 : 2 ≤ x5 := k6.2.2.1 (Int.le_trans bx1.1 c2)
    have q94 : x9 = x4 := by rw [e9, e8, e7, e4, e3]
    have q10 : x10 = x5 := by rw [e10, e5, q94]
    have G2 : G0_l η2 := by rw [eη2]; exact zGk_upc g0k_l k6.2.1.1 (by decide +kernel)
    have PB := pop_b (η2 := η2) (t := x5) ⟨g0, j1, j2, j3, j4⟩ hw (by rw [← e2]; exact c1) bd43.2 bd44.2 bd19.1 G2 (c2_0_41.trans (by rw [e8, e7])) c2_0_43 c2_0_42 c2_0_45 c2_0_19 c2_0_44 fr22_2 (by rw [e5, e4, e3])
    have P2 := PB.2 (q10.symm.trans c3)
    have q11 : η3 0 42 = η2 0 42 - 1 := k11.2.2
    have H3 : H_l 1 0 (-1) η3 := k11.2.1 0 P2.1
    have h3 := s1_l q11 P2.2.1 P2.2.2
    exact ⟨⟨k12.2.2.1 H3, f0_45.trans hw, hy, kr_l hk c3_0_19 k12.2.2.2⟩, Nat.zero_lt_one⟩
  · obtain ⟨⟨g0, j1, j2, j3, j4⟩, hw, rk0, hk⟩ := hig
    have rk0 : x1 = xs.getD 0 0 := rk0
    have j1 : 0 ≤ η 0 41 := j1
    have bd43 : (0 : Int) ≤ η 0 43 ∧ η 0 43 ≤ 8 := wf_ok (a := 43) (b := 43) (z := (0, 8)) hI.1.1 (by decide +kernel) (Nat.le_refl _) (Nat.le_refl _)
    have bd44 : (0 : Int) ≤ η 0 44 ∧ η 0 44 ≤ 64 := wf_ok (a := 44) (b := 44) (z := (0, 64)) hI.1.1 (by decide +kernel) (Nat.le_refl _) (Nat.le_refl _)
    have bd19 : (0 : Int) ≤ η 0 19 ∧ η 0 19 ≤ 64 := wf_ok (a := 19) (b := 19) (z := (0, 64)) hI.1.1 (by decide +kernel) (Nat.le_refl _) (Nat.le_refl _)
    have b41 : η 0 41 ≤ 96 := by omega
    have fig : yq_bik (xs.getD 0 0) (η0 0 41).toNat η0 = yq_bik (xs.getD 0 0) (η 0 41).toNat η := fig
    clear j2 j3 j4
    have e2 : x2 = η 0 41 := e2
    have e3 : x3 = η 0 41 := e3
    have e4 : x4 = zd 0 2 x3 1 := e4
    have e5 : x5 = η 22 x4.toNat := e5
    obtain ⟨a6, b6⟩ : x6 = yq_rk x5 ∧ η1 = η := y6
    have e7 : x7 = η1 0 41 := e7
    have e8 : x8 = zd 0 2 x7 1 := e8
    have eη2 : η2 = zup η1 0 41 x8 := eη2
    have kx : yq_dec 0 41 η = η2 := by
      rw [eη2, e8, e7, b6]
      rfl
    have e9 : x9 = η2 0 41 := e9
    have e10 : x10 = η2 22 x9.toNat := e10
    obtain ⟨a11, b11⟩ : x11 = yq_drY η2 ∧ η3 = yq_drS η2 := y11
    have b12 : η4 = yq_gro x10 x11 (-1) η3 := y12
    have c2 : x1 ≤ x6 := c2
    clear e7 e8 eη2 b6
    rw [e3] at e4
    clear e3
    refine fig.trans (qik_s (by omega) b41 (by rw [← e4, ← e5, ← a6]; omega) ?_)
    clear e4
    unfold yq_bi1 yq_bi2
    rw [kx, ← e9, ← e10, if_pos (by omega), ← b11, ← a11, ← b12]
set_option maxHeartbeats 8000000 in
theorem zle_bind_o9 {ro : Nat → List Int32} (xs : List Int) (η0 : zE) (hp : sP wl_le zTr zPle_bind xs η0) (hpp : pPle_bind xs η0) (x1 : Int) (η : zE) (hI : zsI wl_le zTr zVle_bind zMle_bind η0 0 [x1] η) (hig : iCle_bind xs η0 0 [x1] η) : ∀ x2 : Int, x2 = η 0 (Int.toNat 41) → zok 0 x2 → (0 < x2) → ∀ x3 : Int, x3 = η 0 (Int.toNat 41) → zok 0 x3 → ∀ x4 : Int, x4 = zd 0 2 x3 1 → (0 : Int) ≤ x4 ∧ (x4 : Int) < 96 := by
  have fig := hig.2
  have hig := hig.1
  obtain ⟨⟨g0, j1, j2, j3, j4⟩, hw, hy, hk⟩ := hig
  have hk : η0 0 19 ≤ η 0 19 := hk
  have hw : η 0 45 = 0 := hw
  have hy : x1 = xs.getD 0 0 := hy
  have cn := cz_n (η := η) (η 0 41).toNat
  have cn1 := cz_n (η := η) (η 0 41 - 1).toNat
  have bd43 : (0 : Int) ≤ η 0 43 ∧ η 0 43 ≤ 8 := wf_ok (a := 43) (b := 43) (z := (0, 8)) hI.1.1 (by decide +kernel) (Nat.le_refl _) (Nat.le_refl _)
  have bd44 : (0 : Int) ≤ η 0 44 ∧ η 0 44 ≤ 64 := wf_ok (a := 44) (b := 44) (z := (0, 64)) hI.1.1 (by decide +kernel) (Nat.le_refl _) (Nat.le_refl _)
  have bd19 : (0 : Int) ≤ η 0 19 ∧ η 0 19 ≤ 64 := wf_ok (a := 19) (b := 19) (z := (0, 64)) hI.1.1 (by decide +kernel) (Nat.le_refl _) (Nat.le_refl _)
  intro x2 e2 r2 c1 x3 e3 r3 x4 e4
  replace e4 := zEq_i e4
  have bx1 : (1 : Int) ≤ x1 ∧ x1 ≤ 6 := hI.1.2.1.1
  replace e2 : x2 = η 0 41 := e2
  replace r2 : -2147483648 ≤ x2 ∧ x2 ≤ 2147483647 := r2
  replace e3 : x3 = η 0 41 := e3
  replace r3 : -2147483648 ≤ x3 ∧ x3 ≤ 2147483647 := r3
  first
  | replace e4 : x4 = x3 - 1 := zd_s2 (zEq_o e4) (by clear e4; exact ⟨by omega, by omega⟩)
  | clear e4
  have fmE : zFm zMle_bind η0 η := hI.2
  have fr22_0 : ∀ j, η 22 j = η 22 j := fun _ => rfl
  have fr22 : ∀ j, η 22 j = η 22 j := fun _ => rfl
  have f0_41 : η 0 41 = η 0 41 := rfl
  have w0_0_43 : (0 : Int) ≤ η 0 43 ∧ η 0 43 ≤ 8 := wf_ok (a := 43) (b := 43) (z := (0, 8)) hI.1.1 (by decide +kernel) (Nat.le_refl _) (Nat.le_refl _)
  have f0_43 : η 0 43 = η 0 43 := rfl
  have f0_42 : η 0 42 = η 0 42 := rfl
  have f0_45 : η 0 45 = η 0 45 := rfl
  have w0_0_19 : (0 : Int) ≤ η 0 19 ∧ η 0 19 ≤ 64 := wf_ok (a := 19) (b := 19) (z := (0, 64)) hI.1.1 (by decide +kernel) (Nat.le_refl _) (Nat.le_refl _)
  have f0_19 : η 0 19 = η 0 19 := rfl
  have w0_0_44 : (0 : Int) ≤ η 0 44 ∧ η 0 44 ≤ 64 := wf_ok (a := 44) (b := 44) (z := (0, 64)) hI.1.1 (by decide +kernel) (Nat.le_refl _) (Nat.le_refl _)
  have f0_44 : η 0 44 = η 0 44 := rfl
  exact ⟨by omega, by omega⟩
set_option maxHeartbeats 8000000 in
theorem zle_bind_o10 {ro : Nat → List Int32} (xs : List Int) (η0 : zE) (hp : sP wl_le zTr zPle_bind xs η0) (hpp : pPle_bind xs η0) (x1 : Int) (η : zE) (hI : zsI wl_le zTr zVle_bind zMle_bind η0 0 [x1] η) (hig : iCle_bind xs η0 0 [x1] η) : ∀ x2 : Int, x2 = η 0 (Int.toNat 41) → zok 0 x2 → (0 < x2) → ∀ x3 : Int, x3 = η 0 (Int.toNat 41) → zok 0 x3 → ∀ x4 : Int, x4 = zd 0 2 x3 1 → ∀ x5 : Int, x5 = η 22 (Int.toNat x4) → zok 0 x5 → ∀ (x6 : Int) (η1 : zE), ((gC wl_le [(nat_lit 0, zPle_rank, zOle_rank, zMle_rank), (nat_lit 1, zPle_dropHeld, zOle_dropHeld, zMle_dropHeld), (nat_lit 2, zPle_grown, zOle_grown, zMle_grown)] pCle_bind qCle_bind) 0).2 [x5] η x6 η1 → (x1 ≤ x6) → ∀ x7 : Int, x7 = η1 0 (Int.toNat 41) → zok 0 x7 → ∀ x8 : Int, x8 = zd 0 2 x7 1 → ∀ η2 : zE, η2 = zup η1 0 (Int.toNat 41) x8 → ∀ x9 : Int, x9 = η2 0 (Int.toNat 41) → zok 0 x9 → (0 : Int) ≤ x9 ∧ (x9 : Int) < 96 := by
  have fig := hig.2
  have hig := hig.1
  obtain ⟨⟨g0, j1, j2, j3, j4⟩, hw, hy, hk⟩ := hig
  have hk : η0 0 19 ≤ η 0 19 := hk
  have hw : η 0 45 = 0 := hw
  have hy : x1 = xs.getD 0 0 := hy
  have cn := cz_n (η := η) (η 0 41).toNat
  have cn1 := cz_n (η := η) (η 0 41 - 1).toNat
  have bd43 : (0 : Int) ≤ η 0 43 ∧ η 0 43 ≤ 8 := wf_ok (a := 43) (b := 43) (z := (0, 8)) hI.1.1 (by decide +kernel) (Nat.le_refl _) (Nat.le_refl _)
  have bd44 : (0 : Int) ≤ η 0 44 ∧ η 0 44 ≤ 64 := wf_ok (a := 44) (b := 44) (z := (0, 64)) hI.1.1 (by decide +kernel) (Nat.le_refl _) (Nat.le_refl _)
  have bd19 : (0 : Int) ≤ η 0 19 ∧ η 0 19 ≤ 64 := wf_ok (a := 19) (b := 19) (z := (0, 64)) hI.1.1 (by decide +kernel) (Nat.le_refl _) (Nat.le_refl _)
  intro x2 e2 r2 c1 x3 e3 r3 x4 e4 x5 e5 r5 x6 η1 h6 c2 x7 e7 r7 x8 e8 η2 eη2 x9 e9 r9
  replace e4 := zEq_i e4
  replace e8 := zEq_i e8
  have y6 : fQle_rank [x5] η x6 η1 := h6.2.2
  have k6 : sQ wl_le zTr zOle_rank zMle_rank [x5] η x6 η1 ∧ oQle_rank [x5] η x6 η1 := ⟨h6.1, h6.2.1⟩
  have bx1 : (1 : Int) ≤ x1 ∧ x1 ≤ 6 := hI.1.2.1.1
  replace e2 : x2 = η 0 41 := e2
  replace r2 : -2147483648 ≤ x2 ∧ x2 ≤ 2147483647 := r2
  replace e3 : x3 = η 0 41 := e3
  replace r3 : -2147483648 ≤ x3 ∧ x3 ≤ 2147483647 := r3
  first
  | replace e4 : x4 = x3 - 1 := zd_s2 (zEq_o e4) (by clear e4; exact ⟨by omega, by omega⟩)
  | clear e4
  replace e5 : x5 = η 22 (Int.toNat x4) := e5
  replace r5 : -2147483648 ≤ x5 ∧ x5 ≤ 2147483647 := r5
  try have rb5 : (0 : Int) ≤ η 22 (Int.toNat x4) ∧ η 22 (Int.toNat x4) ≤ 14 := wf_ok (a := 0) (b := 95) (z := (0, 14)) hI.1.1 (by decide +kernel) (Nat.zero_le _) (by omega)
  have c0_0_41 : η 0 41 = η 0 41 := rfl
  have w0_0_43 : (0 : Int) ≤ η 0 43 ∧ η 0 43 ≤ 8 := wf_ok (a := 43) (b := 43) (z := (0, 8)) hI.1.1 (by decide +kernel) (Nat.le_refl _) (Nat.le_refl _)
  have c0_0_43 : η 0 43 = η 0 43 := rfl
  have c0_0_42 : η 0 42 = η 0 42 := rfl
  have c0_0_45 : η 0 45 = η 0 45 := rfl
  have w0_0_19 : (0 : Int) ≤ η 0 19 ∧ η 0 19 ≤ 64 := wf_ok (a := 19) (b := 19) (z := (0, 64)) hI.1.1 (by decide +kernel) (Nat.le_refl _) (Nat.le_refl _)
  have c0_0_19 : η 0 19 = η 0 19 := rfl
  have w0_0_44 : (0 : Int) ≤ η 0 44 ∧ η 0 44 ≤ 64 := wf_ok (a := 44) (b := 44) (z := (0, 64)) hI.1.1 (by decide +kernel) (Nat.le_refl _) (Nat.le_refl _)
  have c0_0_44 : η 0 44 = η 0 44 := rfl
  have bx6 : (0 : Int) ≤ x6 ∧ x6 ≤ 6 := k6.1.2.1
  have v7 : zEq (η1 0 41) (η 0 41) := (k6.1.2.2.2.1 0 41 (by decide +kernel)).trans rfl
  replace e7 : x7 = η 0 41 := e7.trans v7
  replace r7 : -2147483648 ≤ x7 ∧ x7 ≤ 2147483647 := r7
  first
  | replace e8 : x8 = x7 - 1 := zd_s2 (zEq_o e8) (by clear e8; exact ⟨by omega, by omega⟩)
  | clear e8
  have c1_0_41 : η1 0 41 = η 0 41 := v7
  have v8 : zEq (η2 0 41) (x8) := by rw [eη2]; exact zup_eq
  replace e9 : x9 = x8 := e9.trans v8
  replace r9 : -2147483648 ≤ x9 ∧ x9 ≤ 2147483647 := r9
  have fm1 : zFm zMle_bind η0 η1 := zFm_tr2 hI.2 k6.1.2.2.2.1 (by decide +kernel)
  have fm2 : zFm zMle_bind η0 η2 := by rw [eη2]; exact zFm_up fm1 rfl
  have fmE : zFm zMle_bind η0 η2 := fm2
  have fr22_0 : ∀ j, η 22 j = η 22 j := fun _ => rfl
  have v9 : ∀ j, η1 22 j = η 22 j := fun j => k6.1.2.2.2.1 22 _ (zinr_not (by decide +kernel))
  have fr22_1 : ∀ j, η1 22 j = η 22 j := v9
  have v10 : ∀ j, η2 22 j = η 22 j := fun j => by rw [eη2]; exact (zup_ne (fun e _ => absurd e (by decide))).trans (v9 j)
  have fr22_2 : ∀ j, η2 22 j = η 22 j := v10
  have fr22 : ∀ j, η2 22 j = η 22 j := v10
  have f0_41 : η2 0 41 = x8 := v8
  have v11 : zEq (η1 0 43) (η 0 43) := (k6.1.2.2.2.1 0 43 (by decide +kernel)).trans rfl
  have v12 : zEq (η2 0 43) (η 0 43) := by rw [eη2]; exact (zup_ne (fun _ e => absurd e (by decide))).trans v11
  have f0_43 : η2 0 43 = η 0 43 := v12
  have v13 : zEq (η1 0 42) (η 0 42) := (k6.1.2.2.2.1 0 42 (by decide +kernel)).trans rfl
  have v14 : zEq (η2 0 42) (η 0 42) := by rw [eη2]; exact (zup_ne (fun _ e => absurd e (by decide))).trans v13
  have f0_42 : η2 0 42 = η 0 42 := v14
  have v15 : zEq (η1 0 45) (η 0 45) := (k6.1.2.2.2.1 0 45 (by decide +kernel)).trans rfl
  have v16 : zEq (η2 0 45) (η 0 45) := by rw [eη2]; exact (zup_ne (fun _ e => absurd e (by decide))).trans v15
  have f0_45 : η2 0 45 = η 0 45 := v16
  have v17 : zEq (η1 0 19) (η 0 19) := (k6.1.2.2.2.1 0 19 (by decide +kernel)).trans rfl
  have v18 : zEq (η2 0 19) (η 0 19) := by rw [eη2]; exact (zup_ne (fun _ e => absurd e (by decide))).trans v17
  have f0_19 : η2 0 19 = η 0 19 := v18
  have v19 : zEq (η1 0 44) (η 0 44) := (k6.1.2.2.2.1 0 44 (by decide +kernel)).trans rfl
  have v20 : zEq (η2 0 44) (η 0 44) := by rw [eη2]; exact (zup_ne (fun _ e => absurd e (by decide))).trans v19
  have f0_44 : η2 0 44 = η 0 44 := v20
  exact ⟨by omega, by omega⟩
set_option maxHeartbeats 8000000 in
theorem zle_bind_o11 {ro : Nat → List Int32} (xs : List Int) (η0 : zE) (hp : sP wl_le zTr zPle_bind xs η0) (hpp : pPle_bind xs η0) (x1 : Int) (η : zE) (hI : zsI wl_le zTr zVle_bind zMle_bind η0 0 [x1] η) (hig : iCle_bind xs η0 0 [x1] η) : ∀ x2 : Int, x2 = η 0 (Int.toNat 41) → zok 0 x2 → (0 < x2) → ∀ x3 : Int, x3 = η 0 (Int.toNat 41) → zok 0 x3 → ∀ x4 : Int, x4 = zd 0 2 x3 1 → ∀ x5 : Int, x5 = η 22 (Int.toNat x4) → zok 0 x5 → ∀ (x6 : Int) (η1 : zE), ((gC wl_le [(nat_lit 0, zPle_rank, zOle_rank, zMle_rank), (nat_lit 1, zPle_dropHeld, zOle_dropHeld, zMle_dropHeld), (nat_lit 2, zPle_grown, zOle_grown, zMle_grown)] pCle_bind qCle_bind) 0).2 [x5] η x6 η1 → (x1 ≤ x6) → ∀ x7 : Int, x7 = η1 0 (Int.toNat 41) → zok 0 x7 → ∀ x8 : Int, x8 = zd 0 2 x7 1 → ∀ η2 : zE, η2 = zup η1 0 (Int.toNat 41) x8 → ∀ x9 : Int, x9 = η2 0 (Int.toNat 41) → zok 0 x9 → ∀ x10 : Int, x10 = η2 22 (Int.toNat x9) → zok 0 x10 → (¬ x10 = 2) → ∀ (x11 : Int) (η3 : zE), ((gC wl_le [(nat_lit 0, zPle_rank, zOle_rank, zMle_rank), (nat_lit 1, zPle_dropHeld, zOle_dropHeld, zMle_dropHeld), (nat_lit 2, zPle_grown, zOle_grown, zMle_grown)] pCle_bind qCle_bind) 1).2 [] η2 x11 η3 → ∀ (x12 : Int) (η4 : zE), ((gC wl_le [(nat_lit 0, zPle_rank, zOle_rank, zMle_rank), (nat_lit 1, zPle_dropHeld, zOle_dropHeld, zMle_dropHeld), (nat_lit 2, zPle_grown, zOle_grown, zMle_grown)] pCle_bind qCle_bind) 1).2 [] η3 x12 η4 → ((gC wl_le [(nat_lit 0, zPle_rank, zOle_rank, zMle_rank), (nat_lit 1, zPle_dropHeld, zOle_dropHeld, zMle_dropHeld), (nat_lit 2, zPle_grown, zOle_grown, zMle_grown)] pCle_bind qCle_bind) 2).1 [x10, x12, x11] η4 := by
  have fig := hig.2
  have hig := hig.1
  obtain ⟨⟨g0, j1, j2, j3, j4⟩, hw, hy, hk⟩ := hig
  have hk : η0 0 19 ≤ η 0 19 := hk
  have hw : η 0 45 = 0 := hw
  have hy : x1 = xs.getD 0 0 := hy
  have cn := cz_n (η := η) (η 0 41).toNat
  have cn1 := cz_n (η := η) (η 0 41 - 1).toNat
  have bd43 : (0 : Int) ≤ η 0 43 ∧ η 0 43 ≤ 8 := wf_ok (a := 43) (b := 43) (z := (0, 8)) hI.1.1 (by decide +kernel) (Nat.le_refl _) (Nat.le_refl _)
  have bd44 : (0 : Int) ≤ η 0 44 ∧ η 0 44 ≤ 64 := wf_ok (a := 44) (b := 44) (z := (0, 64)) hI.1.1 (by decide +kernel) (Nat.le_refl _) (Nat.le_refl _)
  have bd19 : (0 : Int) ≤ η 0 19 ∧ η 0 19 ≤ 64 := wf_ok (a := 19) (b := 19) (z := (0, 64)) hI.1.1 (by decide +kernel) (Nat.le_refl _) (Nat.le_refl _)
  intro x2 e2 r2 c1 x3 e3 r3 x4 e4 x5 e5 r5 x6 η1 h6 c2 x7 e7 r7 x8 e8 η2 eη2 x9 e9 r9 x10 e10 r10 c3 x11 η3 h11 x12 η4 h12
  replace e4 := zEq_i e4
  replace e8 := zEq_i e8
  have y6 : fQle_rank [x5] η x6 η1 := h6.2.2
  have k6 : sQ wl_le zTr zOle_rank zMle_rank [x5] η x6 η1 ∧ oQle_rank [x5] η x6 η1 := ⟨h6.1, h6.2.1⟩
  have y11 : fQle_dropHeld [] η2 x11 η3 := h11.2.2
  have k11 : sQ wl_le zTr zOle_dropHeld zMle_dropHeld [] η2 x11 η3 ∧ oQle_dropHeld [] η2 x11 η3 := ⟨h11.1, h11.2.1⟩
  have y12 : fQle_dropHeld [] η3 x12 η4 := h12.2.2
  have k12 : sQ wl_le zTr zOle_dropHeld zMle_dropHeld [] η3 x12 η4 ∧ oQle_dropHeld [] η3 x12 η4 := ⟨h12.1, h12.2.1⟩
  have bx1 : (1 : Int) ≤ x1 ∧ x1 ≤ 6 := hI.1.2.1.1
  replace e2 : x2 = η 0 41 := e2
  replace r2 : -2147483648 ≤ x2 ∧ x2 ≤ 2147483647 := r2
  replace e3 : x3 = η 0 41 := e3
  replace r3 : -2147483648 ≤ x3 ∧ x3 ≤ 2147483647 := r3
  first
  | replace e4 : x4 = x3 - 1 := zd_s2 (zEq_o e4) (by clear e4; exact ⟨by omega, by omega⟩)
  | clear e4
  replace e5 : x5 = η 22 (Int.toNat x4) := e5
  replace r5 : -2147483648 ≤ x5 ∧ x5 ≤ 2147483647 := r5
  try have rb5 : (0 : Int) ≤ η 22 (Int.toNat x4) ∧ η 22 (Int.toNat x4) ≤ 14 := wf_ok (a := 0) (b := 95) (z := (0, 14)) hI.1.1 (by decide +kernel) (Nat.zero_le _) (by omega)
  have c0_0_41 : η 0 41 = η 0 41 := rfl
  have w0_0_43 : (0 : Int) ≤ η 0 43 ∧ η 0 43 ≤ 8 := wf_ok (a := 43) (b := 43) (z := (0, 8)) hI.1.1 (by decide +kernel) (Nat.le_refl _) (Nat.le_refl _)
  have c0_0_43 : η 0 43 = η 0 43 := rfl
  have c0_0_42 : η 0 42 = η 0 42 := rfl
  have c0_0_45 : η 0 45 = η 0 45 := rfl
  have w0_0_19 : (0 : Int) ≤ η 0 19 ∧ η 0 19 ≤ 64 := wf_ok (a := 19) (b := 19) (z := (0, 64)) hI.1.1 (by decide +kernel) (Nat.le_refl _) (Nat.le_refl _)
  have c0_0_19 : η 0 19 = η 0 19 := rfl
  have w0_0_44 : (0 : Int) ≤ η 0 44 ∧ η 0 44 ≤ 64 := wf_ok (a := 44) (b := 44) (z := (0, 64)) hI.1.1 (by decide +kernel) (Nat.le_refl _) (Nat.le_refl _)
  have c0_0_44 : η 0 44 = η 0 44 := rfl
  have bx6 : (0 : Int) ≤ x6 ∧ x6 ≤ 6 := k6.1.2.1
  have v7 : zEq (η1 0 41) (η 0 41) := (k6.1.2.2.2.1 0 41 (by decide +kernel)).trans rfl
  replace e7 : x7 = η 0 41 := e7.trans v7
  replace r7 : -2147483648 ≤ x7 ∧ x7 ≤ 2147483647 := r7
  first
  | replace e8 : x8 = x7 - 1 := zd_s2 (zEq_o e8) (by clear e8; exact ⟨by omega, by omega⟩)
  | clear e8
  have c1_0_41 : η1 0 41 = η 0 41 := v7
  have v8 : zEq (η2 0 41) (x8) := by rw [eη2]; exact zup_eq
  replace e9 : x9 = x8 := e9.trans v8
  replace r9 : -2147483648 ≤ x9 ∧ x9 ≤ 2147483647 := r9
  have v10 : zEq (η1 22 (Int.toNat x9)) (η 22 (Int.toNat x9)) := (k6.1.2.2.2.1 22 _ (zinr_not (by decide +kernel))).trans rfl
  have v11 : zEq (η2 22 (Int.toNat x9)) (η 22 (Int.toNat x9)) := by rw [eη2]; exact (zup_ne (fun e _ => absurd e (by decide))).trans v10
  replace e10 : x10 = η 22 (Int.toNat x9) := e10.trans v11
  replace r10 : -2147483648 ≤ x10 ∧ x10 ≤ 2147483647 := r10
  try have rb10 : (0 : Int) ≤ η 22 (Int.toNat x9) ∧ η 22 (Int.toNat x9) ≤ 14 := wf_ok (a := 0) (b := 95) (z := (0, 14)) hI.1.1 (by decide +kernel) (Nat.zero_le _) (by omega)
  have c2_0_41 : η2 0 41 = x8 := v8
  have v12 : zEq (η1 0 43) (η 0 43) := (k6.1.2.2.2.1 0 43 (by decide +kernel)).trans rfl
  have v13 : zEq (η2 0 43) (η 0 43) := by rw [eη2]; exact (zup_ne (fun _ e => absurd e (by decide))).trans v12
  have c2_0_43 : η2 0 43 = η 0 43 := v13
  have v14 : zEq (η1 0 42) (η 0 42) := (k6.1.2.2.2.1 0 42 (by decide +kernel)).trans rfl
  have v15 : zEq (η2 0 42) (η 0 42) := by rw [eη2]; exact (zup_ne (fun _ e => absurd e (by decide))).trans v14
  have c2_0_42 : η2 0 42 = η 0 42 := v15
  have v16 : zEq (η1 0 45) (η 0 45) := (k6.1.2.2.2.1 0 45 (by decide +kernel)).trans rfl
  have v17 : zEq (η2 0 45) (η 0 45) := by rw [eη2]; exact (zup_ne (fun _ e => absurd e (by decide))).trans v16
  have c2_0_45 : η2 0 45 = η 0 45 := v17
  have v18 : zEq (η1 0 19) (η 0 19) := (k6.1.2.2.2.1 0 19 (by decide +kernel)).trans rfl
  have v19 : zEq (η2 0 19) (η 0 19) := by rw [eη2]; exact (zup_ne (fun _ e => absurd e (by decide))).trans v18
  have c2_0_19 : η2 0 19 = η 0 19 := v19
  have v20 : zEq (η1 0 44) (η 0 44) := (k6.1.2.2.2.1 0 44 (by decide +kernel)).trans rfl
  have v21 : zEq (η2 0 44) (η 0 44) := by rw [eη2]; exact (zup_ne (fun _ e => absurd e (by decide))).trans v20
  have c2_0_44 : η2 0 44 = η 0 44 := v21
  have bx11 : (0 : Int) ≤ x11 ∧ x11 ≤ 63 := k11.1.2.1
  have v22 : zEq (η3 0 41) (x8) := (k11.1.2.2.2.1 0 41 (by decide +kernel)).trans v8
  have c3_0_41 : η3 0 41 = x8 := v22
  have v23 : zEq (η3 0 43) (η 0 43) := (k11.1.2.2.2.1 0 43 (by decide +kernel)).trans v13
  have c3_0_43 : η3 0 43 = η 0 43 := v23
  have c3_0_42 : η3 0 42 = η3 0 42 := rfl
  have v25 : zEq (η3 0 45) (η 0 45) := (k11.1.2.2.2.1 0 45 (by decide +kernel)).trans v17
  have c3_0_45 : η3 0 45 = η 0 45 := v25
  have v26 : zEq (η3 0 19) (η 0 19) := (k11.1.2.2.2.1 0 19 (by decide +kernel)).trans v19
  have c3_0_19 : η3 0 19 = η 0 19 := v26
  have v27 : zEq (η3 0 44) (η 0 44) := (k11.1.2.2.2.1 0 44 (by decide +kernel)).trans v21
  have c3_0_44 : η3 0 44 = η 0 44 := v27
  have bx12 : (0 : Int) ≤ x12 ∧ x12 ≤ 63 := k12.1.2.1
  have fm1 : zFm zMle_bind η0 η1 := zFm_tr2 hI.2 k6.1.2.2.2.1 (by decide +kernel)
  have fm2 : zFm zMle_bind η0 η2 := by rw [eη2]; exact zFm_up fm1 rfl
  have fm3 : zFm zMle_bind η0 η3 := zFm_tr2 fm2 k11.1.2.2.2.1 (by decide +kernel)
  have fm4 : zFm zMle_bind η0 η4 := zFm_tr2 fm3 k12.1.2.2.2.1 (by decide +kernel)
  have fmE : zFm zMle_bind η0 η4 := fm4
  have fr22_0 : ∀ j, η 22 j = η 22 j := fun _ => rfl
  have v28 : ∀ j, η1 22 j = η 22 j := fun j => k6.1.2.2.2.1 22 _ (zinr_not (by decide +kernel))
  have fr22_1 : ∀ j, η1 22 j = η 22 j := v28
  have v29 : ∀ j, η2 22 j = η 22 j := fun j => by rw [eη2]; exact (zup_ne (fun e _ => absurd e (by decide))).trans (v28 j)
  have fr22_2 : ∀ j, η2 22 j = η 22 j := v29
  have v30 : ∀ j, η3 22 j = η 22 j := fun j => (k11.1.2.2.2.1 22 _ (zinr_not (by decide +kernel))).trans (v29 j)
  have fr22_3 : ∀ j, η3 22 j = η 22 j := v30
  have v31 : ∀ j, η4 22 j = η 22 j := fun j => (k12.1.2.2.2.1 22 _ (zinr_not (by decide +kernel))).trans (v30 j)
  have fr22_4 : ∀ j, η4 22 j = η 22 j := v31
  have fr22 : ∀ j, η4 22 j = η 22 j := v31
  have v32 : zEq (η4 0 41) (x8) := (k12.1.2.2.2.1 0 41 (by decide +kernel)).trans v22
  have f0_41 : η4 0 41 = x8 := v32
  have v33 : zEq (η4 0 43) (η 0 43) := (k12.1.2.2.2.1 0 43 (by decide +kernel)).trans v23
  have f0_43 : η4 0 43 = η 0 43 := v33
  have f0_42 : η4 0 42 = η4 0 42 := rfl
  have v35 : zEq (η4 0 45) (η 0 45) := (k12.1.2.2.2.1 0 45 (by decide +kernel)).trans v25
  have f0_45 : η4 0 45 = η 0 45 := v35
  have v36 : zEq (η4 0 19) (η 0 19) := (k12.1.2.2.2.1 0 19 (by decide +kernel)).trans v26
  have f0_19 : η4 0 19 = η 0 19 := v36
  have v37 : zEq (η4 0 44) (η 0 44) := (k12.1.2.2.2.1 0 44 (by decide +kernel)).trans v27
  have f0_44 : η4 0 44 = η 0 44 := v37
  have q5 : 2 ≤ x5 := k6.2.2.1 (Int.le_trans bx1.1 c2)
  have q94 : x9 = x4 := by rw [e9, e8, e7, e4, e3]
  have q10 : x10 = x5 := by rw [e10, e5, q94]
  have G2 : G0_l η2 := by rw [eη2]; exact zGk_upc g0k_l k6.2.1.1 (by decide +kernel)
  have PB := pop_b (η2 := η2) (t := x5) ⟨g0, j1, j2, j3, j4⟩ hw (by rw [← e2]; exact c1) bd43.2 bd44.2 bd19.1 G2 (c2_0_41.trans (by rw [e8, e7])) c2_0_43 c2_0_42 c2_0_45 c2_0_19 c2_0_44 fr22_2 (by rw [e5, e4, e3])
  have P2 := PB.1 (ne2_l q5 q10 c3)
  have q11 : η3 0 42 = η2 0 42 - 1 := k11.2.2
  have H3 : H_l 1 0 (1 - 1) η3 := k11.2.1 1 P2.1
  have h3 := s1_l q11 P2.2.1 P2.2.2
  have q12 : η4 0 42 = η3 0 42 - 1 := k12.2.2
  have H4 : H_l 1 0 (-1) η4 := k12.2.1 _ H3
  have h4 := s1_l q12 h3.1 h3.2
  exact ⟨⟨k12.1.1, ⟨⟨by rw [e10]; exact rb10.1, by rw [e10]; exact rb10.2⟩, f32_l bx12 (by decide), f32_l bx11 (by decide), trivial⟩, fun f hf => nomatch hf⟩, Or.inr H4, ⟨fun w => absurd (show x10 = 1 from w) (by have := ne2_l q5 q10 c3; rw [q10]; exact fun z => by omega), fun _ _ => bx12, fun _ _ _ => bx11⟩, h4.1, Int.le_trans h4.2 (by decide)⟩
set_option maxHeartbeats 8000000 in
theorem zle_bind {ro : Nat → List Int32} : zMet pr_P pr_K pr_df ro (sm_X0 1 6) 1 143 tm_le [(.inr (.inr (.inl (nat_lit 0)))), (.inl (nat_lit 1, (.ofNat (nat_lit 0))))] 0 [(nat_lit 0, nat_lit 0, nat_lit 1), (nat_lit 0, nat_lit 3, nat_lit 2), (nat_lit 0, nat_lit 20, nat_lit 3), (nat_lit 0, nat_lit 21, nat_lit 4), (nat_lit 0, nat_lit 22, nat_lit 5), (nat_lit 0, nat_lit 23, nat_lit 6), (nat_lit 0, nat_lit 24, nat_lit 7), (nat_lit 0, nat_lit 25, nat_lit 8), (nat_lit 0, nat_lit 26, nat_lit 9), (nat_lit 0, nat_lit 27, nat_lit 10), (nat_lit 0, nat_lit 28, nat_lit 11), (nat_lit 0, nat_lit 29, nat_lit 12), (nat_lit 0, nat_lit 30, nat_lit 13), (nat_lit 0, nat_lit 31, nat_lit 14), (nat_lit 0, nat_lit 32, nat_lit 15), (nat_lit 0, nat_lit 33, nat_lit 16), (nat_lit 0, nat_lit 34, nat_lit 17), (nat_lit 0, nat_lit 35, nat_lit 18), (nat_lit 0, nat_lit 36, nat_lit 19), (nat_lit 0, nat_lit 37, nat_lit 20), (nat_lit 0, nat_lit 38, nat_lit 21), (nat_lit 0, nat_lit 39, nat_lit 22), (nat_lit 0, nat_lit 40, nat_lit 23), (nat_lit 0, nat_lit 47, nat_lit 24), (nat_lit 0, nat_lit 48, nat_lit 25), (nat_lit 0, nat_lit 50, nat_lit 26), (nat_lit 0, nat_lit 51, nat_lit 27), (nat_lit 0, nat_lit 52, nat_lit 28), (nat_lit 0, nat_lit 53, nat_lit 29), (nat_lit 0, nat_lit 54, nat_lit 30), (nat_lit 0, nat_lit 55, nat_lit 31), (nat_lit 0, nat_lit 56, nat_lit 32), (nat_lit 0, nat_lit 57, nat_lit 33), (nat_lit 0, nat_lit 58, nat_lit 34), (nat_lit 0, nat_lit 59, nat_lit 35), (nat_lit 0, nat_lit 72, nat_lit 36), (nat_lit 0, nat_lit 73, nat_lit 37), (nat_lit 0, nat_lit 76, nat_lit 38), (nat_lit 0, nat_lit 77, nat_lit 39), (nat_lit 0, nat_lit 79, nat_lit 40), (nat_lit 0, nat_lit 81, nat_lit 41), (nat_lit 0, nat_lit 82, nat_lit 42)] [] (fun xs η => sP wl_le zTr zPle_bind xs η ∧ pPle_bind xs η) (fun xs η y η' => sQ wl_le zTr zOle_bind zMle_bind xs η y η' ∧ pQle_bind xs η y η') :=
  zmet_alt (zmea_gen (mi := (nat_lit 1, nat_lit 1, nat_lit 8, nat_lit 5, nat_lit 0, tX8_bind)) (cd := [(nat_lit 140, nat_lit 0, nat_lit 0, [(.inl (nat_lit 1, (.ofNat (nat_lit 0))))], nat_lit 1, [(nat_lit 0, nat_lit 0, nat_lit 1), (nat_lit 0, nat_lit 3, nat_lit 2), (nat_lit 0, nat_lit 20, nat_lit 3), (nat_lit 0, nat_lit 21, nat_lit 4), (nat_lit 0, nat_lit 22, nat_lit 5), (nat_lit 0, nat_lit 23, nat_lit 6), (nat_lit 0, nat_lit 24, nat_lit 7), (nat_lit 0, nat_lit 25, nat_lit 8), (nat_lit 0, nat_lit 26, nat_lit 9), (nat_lit 0, nat_lit 27, nat_lit 10), (nat_lit 0, nat_lit 28, nat_lit 11), (nat_lit 0, nat_lit 29, nat_lit 12), (nat_lit 0, nat_lit 30, nat_lit 13), (nat_lit 0, nat_lit 31, nat_lit 14), (nat_lit 0, nat_lit 32, nat_lit 15), (nat_lit 0, nat_lit 33, nat_lit 16), (nat_lit 0, nat_lit 34, nat_lit 17), (nat_lit 0, nat_lit 35, nat_lit 18), (nat_lit 0, nat_lit 36, nat_lit 19), (nat_lit 0, nat_lit 37, nat_lit 20), (nat_lit 0, nat_lit 38, nat_lit 21), (nat_lit 0, nat_lit 39, nat_lit 22), (nat_lit 0, nat_lit 40, nat_lit 23), (nat_lit 0, nat_lit 47, nat_lit 24), (nat_lit 0, nat_lit 48, nat_lit 25), (nat_lit 0, nat_lit 50, nat_lit 26), (nat_lit 0, nat_lit 51, nat_lit 27), (nat_lit 0, nat_lit 52, nat_lit 28), (nat_lit 0, nat_lit 53, nat_lit 29), (nat_lit 0, nat_lit 54, nat_lit 30), (nat_lit 0, nat_lit 55, nat_lit 31), (nat_lit 0, nat_lit 56, nat_lit 32), (nat_lit 0, nat_lit 57, nat_lit 33), (nat_lit 0, nat_lit 58, nat_lit 34), (nat_lit 0, nat_lit 59, nat_lit 35), (nat_lit 0, nat_lit 72, nat_lit 36), (nat_lit 0, nat_lit 73, nat_lit 37), (nat_lit 0, nat_lit 76, nat_lit 38), (nat_lit 0, nat_lit 77, nat_lit 39), (nat_lit 0, nat_lit 79, nat_lit 40), (nat_lit 0, nat_lit 81, nat_lit 41), (nat_lit 0, nat_lit 82, nat_lit 42)], []), (nat_lit 142, nat_lit 1, nat_lit 0, [(.inr (.inr (.inl (nat_lit 0))))], nat_lit 1, [(nat_lit 0, nat_lit 0, nat_lit 1), (nat_lit 0, nat_lit 3, nat_lit 2), (nat_lit 0, nat_lit 20, nat_lit 3), (nat_lit 0, nat_lit 21, nat_lit 4), (nat_lit 0, nat_lit 22, nat_lit 5), (nat_lit 0, nat_lit 23, nat_lit 6), (nat_lit 0, nat_lit 24, nat_lit 7), (nat_lit 0, nat_lit 25, nat_lit 8), (nat_lit 0, nat_lit 26, nat_lit 9), (nat_lit 0, nat_lit 27, nat_lit 10), (nat_lit 0, nat_lit 28, nat_lit 11), (nat_lit 0, nat_lit 29, nat_lit 12), (nat_lit 0, nat_lit 30, nat_lit 13), (nat_lit 0, nat_lit 31, nat_lit 14), (nat_lit 0, nat_lit 32, nat_lit 15), (nat_lit 0, nat_lit 33, nat_lit 16), (nat_lit 0, nat_lit 34, nat_lit 17), (nat_lit 0, nat_lit 35, nat_lit 18), (nat_lit 0, nat_lit 36, nat_lit 19), (nat_lit 0, nat_lit 37, nat_lit 20), (nat_lit 0, nat_lit 38, nat_lit 21), (nat_lit 0, nat_lit 39, nat_lit 22), (nat_lit 0, nat_lit 40, nat_lit 23), (nat_lit 0, nat_lit 47, nat_lit 24), (nat_lit 0, nat_lit 48, nat_lit 25), (nat_lit 0, nat_lit 50, nat_lit 26), (nat_lit 0, nat_lit 51, nat_lit 27), (nat_lit 0, nat_lit 52, nat_lit 28), (nat_lit 0, nat_lit 53, nat_lit 29), (nat_lit 0, nat_lit 54, nat_lit 30), (nat_lit 0, nat_lit 55, nat_lit 31), (nat_lit 0, nat_lit 56, nat_lit 32), (nat_lit 0, nat_lit 57, nat_lit 33), (nat_lit 0, nat_lit 58, nat_lit 34), (nat_lit 0, nat_lit 59, nat_lit 35), (nat_lit 0, nat_lit 72, nat_lit 36), (nat_lit 0, nat_lit 73, nat_lit 37), (nat_lit 0, nat_lit 76, nat_lit 38), (nat_lit 0, nat_lit 77, nat_lit 39), (nat_lit 0, nat_lit 79, nat_lit 40), (nat_lit 0, nat_lit 81, nat_lit 41), (nat_lit 0, nat_lit 82, nat_lit 42)], []), (nat_lit 141, nat_lit 2, nat_lit 0, [(.inr (.inr (.inl (nat_lit 0)))), (.inl (nat_lit 1, (.ofNat (nat_lit 0)))), (.inl (nat_lit 2, (.ofNat (nat_lit 0)))), (.inl (nat_lit 3, (.ofNat (nat_lit 0))))], nat_lit 0, [(nat_lit 0, nat_lit 0, nat_lit 1), (nat_lit 0, nat_lit 3, nat_lit 2), (nat_lit 0, nat_lit 20, nat_lit 3), (nat_lit 0, nat_lit 21, nat_lit 4), (nat_lit 0, nat_lit 22, nat_lit 5), (nat_lit 0, nat_lit 23, nat_lit 6), (nat_lit 0, nat_lit 24, nat_lit 7), (nat_lit 0, nat_lit 25, nat_lit 8), (nat_lit 0, nat_lit 26, nat_lit 9), (nat_lit 0, nat_lit 27, nat_lit 10), (nat_lit 0, nat_lit 28, nat_lit 11), (nat_lit 0, nat_lit 29, nat_lit 12), (nat_lit 0, nat_lit 30, nat_lit 13), (nat_lit 0, nat_lit 31, nat_lit 14), (nat_lit 0, nat_lit 32, nat_lit 15), (nat_lit 0, nat_lit 33, nat_lit 16), (nat_lit 0, nat_lit 34, nat_lit 17), (nat_lit 0, nat_lit 35, nat_lit 18), (nat_lit 0, nat_lit 36, nat_lit 19), (nat_lit 0, nat_lit 37, nat_lit 20), (nat_lit 0, nat_lit 38, nat_lit 21), (nat_lit 0, nat_lit 39, nat_lit 22), (nat_lit 0, nat_lit 40, nat_lit 23), (nat_lit 0, nat_lit 47, nat_lit 24), (nat_lit 0, nat_lit 48, nat_lit 25), (nat_lit 0, nat_lit 50, nat_lit 26), (nat_lit 0, nat_lit 51, nat_lit 27), (nat_lit 0, nat_lit 52, nat_lit 28), (nat_lit 0, nat_lit 53, nat_lit 29), (nat_lit 0, nat_lit 54, nat_lit 30), (nat_lit 0, nat_lit 55, nat_lit 31), (nat_lit 0, nat_lit 56, nat_lit 32), (nat_lit 0, nat_lit 57, nat_lit 33), (nat_lit 0, nat_lit 58, nat_lit 34), (nat_lit 0, nat_lit 59, nat_lit 35), (nat_lit 0, nat_lit 72, nat_lit 36), (nat_lit 0, nat_lit 73, nat_lit 37), (nat_lit 0, nat_lit 76, nat_lit 38), (nat_lit 0, nat_lit 77, nat_lit 39), (nat_lit 0, nat_lit 79, nat_lit 40), (nat_lit 0, nat_lit 81, nat_lit 41), (nat_lit 0, nat_lit 82, nat_lit 42)], [])]) (cu := zUle_bind) (cs := [(nat_lit 0, zPle_rank, zOle_rank, zMle_rank), (nat_lit 1, zPle_dropHeld, zOle_dropHeld, zMle_dropHeld), (nat_lit 2, zPle_grown, zOle_grown, zMle_grown)]) (iv := zVle_bind) (po := [zOle_bind]) (pr := zPle_bind) (mods := zMle_bind) (D7 := zDle_bind) (D0 := zEle_bind) (Dm := zFle_bind) (f0 := 5) pCle_bind qCle_bind iCle_bind pPle_bind (fun xs η _ y η' => pQle_bind xs η y η') zX_low pr_mtR rfl (List.forall_mem_cons.mpr ⟨zle_rank, List.forall_mem_cons.mpr ⟨zle_dropHeld, List.forall_mem_cons.mpr ⟨zle_grown, fun _ h => nomatch h⟩⟩⟩) (by decide +kernel) (by decide +kernel) (by decide +kernel)
    (by
      intro xs η hr hl hp hpp
      match xs, hl, hp, hpp with
      | [x1], _, hp, hpp =>
        refine List.forall_mem_cons.mpr ⟨?_, fun _ h => nomatch h⟩
        · show (iCle_bind [x1] η) 0 [x1] η
          refine yj_a ?_ ?_
          · exact ⟨hpp.1, hpp.2, rfl, Int.le_refl _⟩
          · exact rfl
      )
    (fun _ _ _ _ _ _ _ h => nomatch h)
    (List.forall_mem_cons.mpr ⟨⟨zDle_bind_0, zEle_bind_0, zFle_bind_0, 45, by decide +kernel, (by
      intro xs η0 hlx hp hpp ys η hr hl hI hig
      match ys, hl, hI, hig with
      | [x1], _, hI, hig =>
        refine ⟨?_, ?_⟩
        · refine List.forall_mem_cons.mpr ⟨?_, List.forall_mem_cons.mpr ⟨?_, List.forall_mem_cons.mpr ⟨?_, List.forall_mem_cons.mpr ⟨?_, List.forall_mem_cons.mpr ⟨?_, List.forall_mem_cons.mpr ⟨?_, List.forall_mem_cons.mpr ⟨?_, List.forall_mem_cons.mpr ⟨?_, List.forall_mem_cons.mpr ⟨?_, fun _ h => nomatch h⟩⟩⟩⟩⟩⟩⟩⟩⟩
          · exact zle_bind_o0 (ro := ro) xs η0 hp hpp x1 η hI hig
          · exact zle_bind_o1 (ro := ro) xs η0 hp hpp x1 η hI hig
          · exact zle_bind_o2 (ro := ro) xs η0 hp hpp x1 η hI hig
          · exact zle_bind_o3 (ro := ro) xs η0 hp hpp x1 η hI hig
          · exact zle_bind_o4 (ro := ro) xs η0 hp hpp x1 η hI hig
          · exact zle_bind_o5 (ro := ro) xs η0 hp hpp x1 η hI hig
          · exact zle_bind_o6 (ro := ro) xs η0 hp hpp x1 η hI hig
          · exact zle_bind_o7 (ro := ro) xs η0 hp hpp x1 η hI hig
          · exact zle_bind_o8 (ro := ro) xs η0 hp hpp x1 η hI hig
        · refine List.forall_mem_cons.mpr ⟨?_, List.forall_mem_cons.mpr ⟨?_, List.forall_mem_cons.mpr ⟨?_, fun _ h => nomatch h⟩⟩⟩
          · exact zle_bind_o9 (ro := ro) xs η0 hp hpp x1 η hI hig
          · exact zle_bind_o10 (ro := ro) xs η0 hp hpp x1 η hI hig
          · exact zle_bind_o11 (ro := ro) xs η0 hp hpp x1 η hI hig
      )⟩, (fun _ h => nomatch h)⟩))
