def zPne_plain : zPq := ([], [])
def zOne_plain : zPo := (((.ofNat (nat_lit 0)), (.ofNat (nat_lit 0))), [], [])
def zMne_plain : List zCe := [(nat_lit 0, nat_lit 17), (nat_lit 0, nat_lit 18), (nat_lit 0, nat_lit 19), (nat_lit 0, nat_lit 20), (nat_lit 0, nat_lit 45), (nat_lit 3, nat_lit 0), (nat_lit 4, nat_lit 0), (nat_lit 16, nat_lit 4), (nat_lit 16, nat_lit 5), (nat_lit 16, nat_lit 6)]
def pPne_plain : List Int → zE → Prop := fun _ η => G_k η ∧ T_l η ∧ PL_n 3 η
def oQne_plain : List Int → zE → Int → zE → Prop := fun _ _ _ η' => G_n η'
def fQne_plain : List Int → zE → Int → zE → Prop := fun xs η y η' => η' = (yq_pln η)
def pQne_plain : List Int → zE → Int → zE → Prop := fun xs η y η' => oQne_plain xs η y η' ∧ fQne_plain xs η y η'
def pCne_plain : Nat → List Int → zE → Prop := fun c => match c with
  | _ => fun _ _ => True
def qCne_plain : Nat → List Int → zE → Int → zE → Prop := fun c => match c with
  | _ => fun _ _ _ _ => True
def iCne_plain : List Int → zE → Nat → List Int → zE → Prop := fun xs η0 c => match c with
  | _ => fun _ _ => True
def zVne_plain : List zIv := []
def zDne_plain : List (List zK) := [[(nat_lit 7, nat_lit 3, []), (nat_lit 6, nat_lit 3, [(nat_lit 0, (.ofNat (nat_lit 0))), (nat_lit 0, (.ofNat (nat_lit 3)))]), (nat_lit 5, nat_lit 0, [(nat_lit 0, (.ofNat (nat_lit 0))), (nat_lit 0, (.ofNat (nat_lit 44))), (nat_lit 0, (.ofNat (nat_lit 0)))]), (nat_lit 5, nat_lit 0, [(nat_lit 0, (.ofNat (nat_lit 0))), (nat_lit 0, (.ofNat (nat_lit 19))), (nat_lit 0, (.ofNat (nat_lit 0)))]), (nat_lit 5, nat_lit 0, [(nat_lit 0, (.ofNat (nat_lit 0))), (nat_lit 0, (.ofNat (nat_lit 18))), (nat_lit 0, (.ofNat (nat_lit 0)))]), (nat_lit 5, nat_lit 0, [(nat_lit 0, (.ofNat (nat_lit 0))), (nat_lit 0, (.ofNat (nat_lit 17))), (nat_lit 0, (.ofNat (nat_lit 0)))]), (nat_lit 5, nat_lit 0, [(nat_lit 0, (.ofNat (nat_lit 0))), (nat_lit 0, (.ofNat (nat_lit 16))), (nat_lit 0, (.ofNat (nat_lit 0)))])],
  [(nat_lit 7, nat_lit 0, [(nat_lit 0, (.ofNat (nat_lit 0))), (nat_lit 0, (.ofNat (nat_lit 3)))]), (nat_lit 6, nat_lit 2, [(nat_lit 0, (.ofNat (nat_lit 0))), (nat_lit 0, (.ofNat (nat_lit 3)))]), (nat_lit 5, nat_lit 0, [(nat_lit 0, (.ofNat (nat_lit 0))), (nat_lit 0, (.ofNat (nat_lit 44))), (nat_lit 0, (.ofNat (nat_lit 0)))]), (nat_lit 5, nat_lit 0, [(nat_lit 0, (.ofNat (nat_lit 0))), (nat_lit 0, (.ofNat (nat_lit 19))), (nat_lit 0, (.ofNat (nat_lit 0)))]), (nat_lit 5, nat_lit 0, [(nat_lit 0, (.ofNat (nat_lit 0))), (nat_lit 0, (.ofNat (nat_lit 18))), (nat_lit 0, (.ofNat (nat_lit 0)))]), (nat_lit 5, nat_lit 0, [(nat_lit 0, (.ofNat (nat_lit 0))), (nat_lit 0, (.ofNat (nat_lit 17))), (nat_lit 0, (.ofNat (nat_lit 0)))]), (nat_lit 5, nat_lit 0, [(nat_lit 0, (.ofNat (nat_lit 0))), (nat_lit 0, (.ofNat (nat_lit 16))), (nat_lit 0, (.ofNat (nat_lit 0)))])],
  [(nat_lit 7, nat_lit 2, [(nat_lit 0, (.ofNat (nat_lit 0)))]), (nat_lit 6, nat_lit 2, [(nat_lit 0, (.ofNat (nat_lit 0))), (nat_lit 0, (.ofNat (nat_lit 3)))]), (nat_lit 5, nat_lit 0, [(nat_lit 0, (.ofNat (nat_lit 0))), (nat_lit 0, (.ofNat (nat_lit 44))), (nat_lit 0, (.ofNat (nat_lit 0)))]), (nat_lit 5, nat_lit 0, [(nat_lit 0, (.ofNat (nat_lit 0))), (nat_lit 0, (.ofNat (nat_lit 19))), (nat_lit 0, (.ofNat (nat_lit 0)))]), (nat_lit 5, nat_lit 0, [(nat_lit 0, (.ofNat (nat_lit 0))), (nat_lit 0, (.ofNat (nat_lit 18))), (nat_lit 0, (.ofNat (nat_lit 0)))]), (nat_lit 5, nat_lit 0, [(nat_lit 0, (.ofNat (nat_lit 0))), (nat_lit 0, (.ofNat (nat_lit 17))), (nat_lit 0, (.ofNat (nat_lit 0)))]), (nat_lit 5, nat_lit 0, [(nat_lit 0, (.ofNat (nat_lit 0))), (nat_lit 0, (.ofNat (nat_lit 16))), (nat_lit 0, (.ofNat (nat_lit 0)))])],
  [(nat_lit 7, nat_lit 0, [(nat_lit 1, (.ofNat (nat_lit 0))), (nat_lit 0, (.ofNat (nat_lit 6)))]), (nat_lit 0, nat_lit 1, [(nat_lit 0, (.ofNat (nat_lit 3))), (nat_lit 0, (.ofNat (nat_lit 0)))]), (nat_lit 5, nat_lit 1, [(nat_lit 3, (.ofNat (nat_lit 0))), (nat_lit 0, (.ofNat (nat_lit 0))), (nat_lit 0, (.ofNat (nat_lit 0)))]), (nat_lit 6, nat_lit 2, [(nat_lit 0, (.ofNat (nat_lit 0))), (nat_lit 0, (.ofNat (nat_lit 3)))]), (nat_lit 5, nat_lit 0, [(nat_lit 0, (.ofNat (nat_lit 0))), (nat_lit 0, (.ofNat (nat_lit 44))), (nat_lit 0, (.ofNat (nat_lit 0)))]), (nat_lit 5, nat_lit 0, [(nat_lit 0, (.ofNat (nat_lit 0))), (nat_lit 0, (.ofNat (nat_lit 19))), (nat_lit 0, (.ofNat (nat_lit 0)))]), (nat_lit 5, nat_lit 0, [(nat_lit 0, (.ofNat (nat_lit 0))), (nat_lit 0, (.ofNat (nat_lit 18))), (nat_lit 0, (.ofNat (nat_lit 0)))]), (nat_lit 5, nat_lit 0, [(nat_lit 0, (.ofNat (nat_lit 0))), (nat_lit 0, (.ofNat (nat_lit 17))), (nat_lit 0, (.ofNat (nat_lit 0)))]), (nat_lit 5, nat_lit 0, [(nat_lit 0, (.ofNat (nat_lit 0))), (nat_lit 0, (.ofNat (nat_lit 16))), (nat_lit 0, (.ofNat (nat_lit 0)))])],
  [(nat_lit 7, nat_lit 2, [(nat_lit 0, (.ofNat (nat_lit 0)))]), (nat_lit 0, nat_lit 1, [(nat_lit 0, (.ofNat (nat_lit 3))), (nat_lit 0, (.ofNat (nat_lit 0)))]), (nat_lit 5, nat_lit 1, [(nat_lit 3, (.ofNat (nat_lit 0))), (nat_lit 0, (.ofNat (nat_lit 0))), (nat_lit 0, (.ofNat (nat_lit 0)))]), (nat_lit 6, nat_lit 2, [(nat_lit 0, (.ofNat (nat_lit 0))), (nat_lit 0, (.ofNat (nat_lit 3)))]), (nat_lit 5, nat_lit 0, [(nat_lit 0, (.ofNat (nat_lit 0))), (nat_lit 0, (.ofNat (nat_lit 44))), (nat_lit 0, (.ofNat (nat_lit 0)))]), (nat_lit 5, nat_lit 0, [(nat_lit 0, (.ofNat (nat_lit 0))), (nat_lit 0, (.ofNat (nat_lit 19))), (nat_lit 0, (.ofNat (nat_lit 0)))]), (nat_lit 5, nat_lit 0, [(nat_lit 0, (.ofNat (nat_lit 0))), (nat_lit 0, (.ofNat (nat_lit 18))), (nat_lit 0, (.ofNat (nat_lit 0)))]), (nat_lit 5, nat_lit 0, [(nat_lit 0, (.ofNat (nat_lit 0))), (nat_lit 0, (.ofNat (nat_lit 17))), (nat_lit 0, (.ofNat (nat_lit 0)))]), (nat_lit 5, nat_lit 0, [(nat_lit 0, (.ofNat (nat_lit 0))), (nat_lit 0, (.ofNat (nat_lit 16))), (nat_lit 0, (.ofNat (nat_lit 0)))])],
  [(nat_lit 7, nat_lit 3, []), (nat_lit 6, nat_lit 3, [(nat_lit 2, (.ofNat (nat_lit 0))), (nat_lit 0, (.ofNat (nat_lit 3)))]), (nat_lit 0, nat_lit 1, [(nat_lit 0, (.ofNat (nat_lit 0))), (nat_lit 0, (.ofNat (nat_lit 1)))]), (nat_lit 5, nat_lit 1, [(nat_lit 16, (.ofNat (nat_lit 0))), (nat_lit 1, (.ofNat (nat_lit 0))), (nat_lit 0, (.ofNat (nat_lit 0)))]), (nat_lit 0, nat_lit 1, [(nat_lit 0, (.ofNat (nat_lit 3))), (nat_lit 0, (.ofNat (nat_lit 0)))]), (nat_lit 5, nat_lit 1, [(nat_lit 3, (.ofNat (nat_lit 0))), (nat_lit 0, (.ofNat (nat_lit 0))), (nat_lit 0, (.ofNat (nat_lit 0)))]), (nat_lit 6, nat_lit 2, [(nat_lit 0, (.ofNat (nat_lit 0))), (nat_lit 0, (.ofNat (nat_lit 3)))]), (nat_lit 5, nat_lit 0, [(nat_lit 0, (.ofNat (nat_lit 0))), (nat_lit 0, (.ofNat (nat_lit 44))), (nat_lit 0, (.ofNat (nat_lit 0)))]), (nat_lit 5, nat_lit 0, [(nat_lit 0, (.ofNat (nat_lit 0))), (nat_lit 0, (.ofNat (nat_lit 19))), (nat_lit 0, (.ofNat (nat_lit 0)))]), (nat_lit 5, nat_lit 0, [(nat_lit 0, (.ofNat (nat_lit 0))), (nat_lit 0, (.ofNat (nat_lit 18))), (nat_lit 0, (.ofNat (nat_lit 0)))]), (nat_lit 5, nat_lit 0, [(nat_lit 0, (.ofNat (nat_lit 0))), (nat_lit 0, (.ofNat (nat_lit 17))), (nat_lit 0, (.ofNat (nat_lit 0)))]), (nat_lit 5, nat_lit 0, [(nat_lit 0, (.ofNat (nat_lit 0))), (nat_lit 0, (.ofNat (nat_lit 16))), (nat_lit 0, (.ofNat (nat_lit 0)))])],
  [(nat_lit 7, nat_lit 0, [(nat_lit 2, (.ofNat (nat_lit 0))), (nat_lit 0, (.ofNat (nat_lit 3)))]), (nat_lit 6, nat_lit 2, [(nat_lit 2, (.ofNat (nat_lit 0))), (nat_lit 0, (.ofNat (nat_lit 3)))]), (nat_lit 0, nat_lit 1, [(nat_lit 0, (.ofNat (nat_lit 0))), (nat_lit 0, (.ofNat (nat_lit 1)))]), (nat_lit 5, nat_lit 1, [(nat_lit 16, (.ofNat (nat_lit 0))), (nat_lit 1, (.ofNat (nat_lit 0))), (nat_lit 0, (.ofNat (nat_lit 0)))]), (nat_lit 0, nat_lit 1, [(nat_lit 0, (.ofNat (nat_lit 3))), (nat_lit 0, (.ofNat (nat_lit 0)))]), (nat_lit 5, nat_lit 1, [(nat_lit 3, (.ofNat (nat_lit 0))), (nat_lit 0, (.ofNat (nat_lit 0))), (nat_lit 0, (.ofNat (nat_lit 0)))]), (nat_lit 6, nat_lit 2, [(nat_lit 0, (.ofNat (nat_lit 0))), (nat_lit 0, (.ofNat (nat_lit 3)))]), (nat_lit 5, nat_lit 0, [(nat_lit 0, (.ofNat (nat_lit 0))), (nat_lit 0, (.ofNat (nat_lit 44))), (nat_lit 0, (.ofNat (nat_lit 0)))]), (nat_lit 5, nat_lit 0, [(nat_lit 0, (.ofNat (nat_lit 0))), (nat_lit 0, (.ofNat (nat_lit 19))), (nat_lit 0, (.ofNat (nat_lit 0)))]), (nat_lit 5, nat_lit 0, [(nat_lit 0, (.ofNat (nat_lit 0))), (nat_lit 0, (.ofNat (nat_lit 18))), (nat_lit 0, (.ofNat (nat_lit 0)))]), (nat_lit 5, nat_lit 0, [(nat_lit 0, (.ofNat (nat_lit 0))), (nat_lit 0, (.ofNat (nat_lit 17))), (nat_lit 0, (.ofNat (nat_lit 0)))]), (nat_lit 5, nat_lit 0, [(nat_lit 0, (.ofNat (nat_lit 0))), (nat_lit 0, (.ofNat (nat_lit 16))), (nat_lit 0, (.ofNat (nat_lit 0)))])],
  [(nat_lit 7, nat_lit 2, [(nat_lit 0, (.ofNat (nat_lit 0)))]), (nat_lit 6, nat_lit 2, [(nat_lit 2, (.ofNat (nat_lit 0))), (nat_lit 0, (.ofNat (nat_lit 3)))]), (nat_lit 0, nat_lit 1, [(nat_lit 0, (.ofNat (nat_lit 0))), (nat_lit 0, (.ofNat (nat_lit 1)))]), (nat_lit 5, nat_lit 1, [(nat_lit 16, (.ofNat (nat_lit 0))), (nat_lit 1, (.ofNat (nat_lit 0))), (nat_lit 0, (.ofNat (nat_lit 0)))]), (nat_lit 0, nat_lit 1, [(nat_lit 0, (.ofNat (nat_lit 3))), (nat_lit 0, (.ofNat (nat_lit 0)))]), (nat_lit 5, nat_lit 1, [(nat_lit 3, (.ofNat (nat_lit 0))), (nat_lit 0, (.ofNat (nat_lit 0))), (nat_lit 0, (.ofNat (nat_lit 0)))]), (nat_lit 6, nat_lit 2, [(nat_lit 0, (.ofNat (nat_lit 0))), (nat_lit 0, (.ofNat (nat_lit 3)))]), (nat_lit 5, nat_lit 0, [(nat_lit 0, (.ofNat (nat_lit 0))), (nat_lit 0, (.ofNat (nat_lit 44))), (nat_lit 0, (.ofNat (nat_lit 0)))]), (nat_lit 5, nat_lit 0, [(nat_lit 0, (.ofNat (nat_lit 0))), (nat_lit 0, (.ofNat (nat_lit 19))), (nat_lit 0, (.ofNat (nat_lit 0)))]), (nat_lit 5, nat_lit 0, [(nat_lit 0, (.ofNat (nat_lit 0))), (nat_lit 0, (.ofNat (nat_lit 18))), (nat_lit 0, (.ofNat (nat_lit 0)))]), (nat_lit 5, nat_lit 0, [(nat_lit 0, (.ofNat (nat_lit 0))), (nat_lit 0, (.ofNat (nat_lit 17))), (nat_lit 0, (.ofNat (nat_lit 0)))]), (nat_lit 5, nat_lit 0, [(nat_lit 0, (.ofNat (nat_lit 0))), (nat_lit 0, (.ofNat (nat_lit 16))), (nat_lit 0, (.ofNat (nat_lit 0)))])],
  [(nat_lit 7, nat_lit 0, [(nat_lit 3, (.ofNat (nat_lit 0))), (nat_lit 0, (.ofNat (nat_lit 6)))]), (nat_lit 0, nat_lit 1, [(nat_lit 0, (.ofNat (nat_lit 3))), (nat_lit 2, (.ofNat (nat_lit 0)))]), (nat_lit 5, nat_lit 1, [(nat_lit 3, (.ofNat (nat_lit 0))), (nat_lit 2, (.ofNat (nat_lit 0))), (nat_lit 0, (.ofNat (nat_lit 0)))]), (nat_lit 6, nat_lit 2, [(nat_lit 2, (.ofNat (nat_lit 0))), (nat_lit 0, (.ofNat (nat_lit 3)))]), (nat_lit 0, nat_lit 1, [(nat_lit 0, (.ofNat (nat_lit 0))), (nat_lit 0, (.ofNat (nat_lit 1)))]), (nat_lit 5, nat_lit 1, [(nat_lit 16, (.ofNat (nat_lit 0))), (nat_lit 1, (.ofNat (nat_lit 0))), (nat_lit 0, (.ofNat (nat_lit 0)))]), (nat_lit 0, nat_lit 1, [(nat_lit 0, (.ofNat (nat_lit 3))), (nat_lit 0, (.ofNat (nat_lit 0)))]), (nat_lit 5, nat_lit 1, [(nat_lit 3, (.ofNat (nat_lit 0))), (nat_lit 0, (.ofNat (nat_lit 0))), (nat_lit 0, (.ofNat (nat_lit 0)))]), (nat_lit 6, nat_lit 2, [(nat_lit 0, (.ofNat (nat_lit 0))), (nat_lit 0, (.ofNat (nat_lit 3)))]), (nat_lit 5, nat_lit 0, [(nat_lit 0, (.ofNat (nat_lit 0))), (nat_lit 0, (.ofNat (nat_lit 44))), (nat_lit 0, (.ofNat (nat_lit 0)))]), (nat_lit 5, nat_lit 0, [(nat_lit 0, (.ofNat (nat_lit 0))), (nat_lit 0, (.ofNat (nat_lit 19))), (nat_lit 0, (.ofNat (nat_lit 0)))]), (nat_lit 5, nat_lit 0, [(nat_lit 0, (.ofNat (nat_lit 0))), (nat_lit 0, (.ofNat (nat_lit 18))), (nat_lit 0, (.ofNat (nat_lit 0)))]), (nat_lit 5, nat_lit 0, [(nat_lit 0, (.ofNat (nat_lit 0))), (nat_lit 0, (.ofNat (nat_lit 17))), (nat_lit 0, (.ofNat (nat_lit 0)))]), (nat_lit 5, nat_lit 0, [(nat_lit 0, (.ofNat (nat_lit 0))), (nat_lit 0, (.ofNat (nat_lit 16))), (nat_lit 0, (.ofNat (nat_lit 0)))])],
  [(nat_lit 7, nat_lit 2, [(nat_lit 0, (.ofNat (nat_lit 0)))]), (nat_lit 0, nat_lit 1, [(nat_lit 0, (.ofNat (nat_lit 3))), (nat_lit 2, (.ofNat (nat_lit 0)))]), (nat_lit 5, nat_lit 1, [(nat_lit 3, (.ofNat (nat_lit 0))), (nat_lit 2, (.ofNat (nat_lit 0))), (nat_lit 0, (.ofNat (nat_lit 0)))]), (nat_lit 6, nat_lit 2, [(nat_lit 2, (.ofNat (nat_lit 0))), (nat_lit 0, (.ofNat (nat_lit 3)))]), (nat_lit 0, nat_lit 1, [(nat_lit 0, (.ofNat (nat_lit 0))), (nat_lit 0, (.ofNat (nat_lit 1)))]), (nat_lit 5, nat_lit 1, [(nat_lit 16, (.ofNat (nat_lit 0))), (nat_lit 1, (.ofNat (nat_lit 0))), (nat_lit 0, (.ofNat (nat_lit 0)))]), (nat_lit 0, nat_lit 1, [(nat_lit 0, (.ofNat (nat_lit 3))), (nat_lit 0, (.ofNat (nat_lit 0)))]), (nat_lit 5, nat_lit 1, [(nat_lit 3, (.ofNat (nat_lit 0))), (nat_lit 0, (.ofNat (nat_lit 0))), (nat_lit 0, (.ofNat (nat_lit 0)))]), (nat_lit 6, nat_lit 2, [(nat_lit 0, (.ofNat (nat_lit 0))), (nat_lit 0, (.ofNat (nat_lit 3)))]), (nat_lit 5, nat_lit 0, [(nat_lit 0, (.ofNat (nat_lit 0))), (nat_lit 0, (.ofNat (nat_lit 44))), (nat_lit 0, (.ofNat (nat_lit 0)))]), (nat_lit 5, nat_lit 0, [(nat_lit 0, (.ofNat (nat_lit 0))), (nat_lit 0, (.ofNat (nat_lit 19))), (nat_lit 0, (.ofNat (nat_lit 0)))]), (nat_lit 5, nat_lit 0, [(nat_lit 0, (.ofNat (nat_lit 0))), (nat_lit 0, (.ofNat (nat_lit 18))), (nat_lit 0, (.ofNat (nat_lit 0)))]), (nat_lit 5, nat_lit 0, [(nat_lit 0, (.ofNat (nat_lit 0))), (nat_lit 0, (.ofNat (nat_lit 17))), (nat_lit 0, (.ofNat (nat_lit 0)))]), (nat_lit 5, nat_lit 0, [(nat_lit 0, (.ofNat (nat_lit 0))), (nat_lit 0, (.ofNat (nat_lit 16))), (nat_lit 0, (.ofNat (nat_lit 0)))])],
  [(nat_lit 7, nat_lit 3, []), (nat_lit 6, nat_lit 3, [(nat_lit 4, (.ofNat (nat_lit 0))), (nat_lit 0, (.ofNat (nat_lit 3)))]), (nat_lit 0, nat_lit 1, [(nat_lit 2, (.ofNat (nat_lit 0))), (nat_lit 0, (.ofNat (nat_lit 1)))]), (nat_lit 5, nat_lit 1, [(nat_lit 16, (.ofNat (nat_lit 0))), (nat_lit 3, (.ofNat (nat_lit 0))), (nat_lit 0, (.ofNat (nat_lit 0)))]), (nat_lit 0, nat_lit 1, [(nat_lit 0, (.ofNat (nat_lit 3))), (nat_lit 2, (.ofNat (nat_lit 0)))]), (nat_lit 5, nat_lit 1, [(nat_lit 3, (.ofNat (nat_lit 0))), (nat_lit 2, (.ofNat (nat_lit 0))), (nat_lit 0, (.ofNat (nat_lit 0)))]), (nat_lit 6, nat_lit 2, [(nat_lit 2, (.ofNat (nat_lit 0))), (nat_lit 0, (.ofNat (nat_lit 3)))]), (nat_lit 0, nat_lit 1, [(nat_lit 0, (.ofNat (nat_lit 0))), (nat_lit 0, (.ofNat (nat_lit 1)))]), (nat_lit 5, nat_lit 1, [(nat_lit 16, (.ofNat (nat_lit 0))), (nat_lit 1, (.ofNat (nat_lit 0))), (nat_lit 0, (.ofNat (nat_lit 0)))]), (nat_lit 0, nat_lit 1, [(nat_lit 0, (.ofNat (nat_lit 3))), (nat_lit 0, (.ofNat (nat_lit 0)))]), (nat_lit 5, nat_lit 1, [(nat_lit 3, (.ofNat (nat_lit 0))), (nat_lit 0, (.ofNat (nat_lit 0))), (nat_lit 0, (.ofNat (nat_lit 0)))]), (nat_lit 6, nat_lit 2, [(nat_lit 0, (.ofNat (nat_lit 0))), (nat_lit 0, (.ofNat (nat_lit 3)))]), (nat_lit 5, nat_lit 0, [(nat_lit 0, (.ofNat (nat_lit 0))), (nat_lit 0, (.ofNat (nat_lit 44))), (nat_lit 0, (.ofNat (nat_lit 0)))]), (nat_lit 5, nat_lit 0, [(nat_lit 0, (.ofNat (nat_lit 0))), (nat_lit 0, (.ofNat (nat_lit 19))), (nat_lit 0, (.ofNat (nat_lit 0)))]), (nat_lit 5, nat_lit 0, [(nat_lit 0, (.ofNat (nat_lit 0))), (nat_lit 0, (.ofNat (nat_lit 18))), (nat_lit 0, (.ofNat (nat_lit 0)))]), (nat_lit 5, nat_lit 0, [(nat_lit 0, (.ofNat (nat_lit 0))), (nat_lit 0, (.ofNat (nat_lit 17))), (nat_lit 0, (.ofNat (nat_lit 0)))]), (nat_lit 5, nat_lit 0, [(nat_lit 0, (.ofNat (nat_lit 0))), (nat_lit 0, (.ofNat (nat_lit 16))), (nat_lit 0, (.ofNat (nat_lit 0)))])],
  [(nat_lit 7, nat_lit 0, [(nat_lit 4, (.ofNat (nat_lit 0))), (nat_lit 0, (.ofNat (nat_lit 3)))]), (nat_lit 6, nat_lit 2, [(nat_lit 4, (.ofNat (nat_lit 0))), (nat_lit 0, (.ofNat (nat_lit 3)))]), (nat_lit 0, nat_lit 1, [(nat_lit 2, (.ofNat (nat_lit 0))), (nat_lit 0, (.ofNat (nat_lit 1)))]), (nat_lit 5, nat_lit 1, [(nat_lit 16, (.ofNat (nat_lit 0))), (nat_lit 3, (.ofNat (nat_lit 0))), (nat_lit 0, (.ofNat (nat_lit 0)))]), (nat_lit 0, nat_lit 1, [(nat_lit 0, (.ofNat (nat_lit 3))), (nat_lit 2, (.ofNat (nat_lit 0)))]), (nat_lit 5, nat_lit 1, [(nat_lit 3, (.ofNat (nat_lit 0))), (nat_lit 2, (.ofNat (nat_lit 0))), (nat_lit 0, (.ofNat (nat_lit 0)))]), (nat_lit 6, nat_lit 2, [(nat_lit 2, (.ofNat (nat_lit 0))), (nat_lit 0, (.ofNat (nat_lit 3)))]), (nat_lit 0, nat_lit 1, [(nat_lit 0, (.ofNat (nat_lit 0))), (nat_lit 0, (.ofNat (nat_lit 1)))]), (nat_lit 5, nat_lit 1, [(nat_lit 16, (.ofNat (nat_lit 0))), (nat_lit 1, (.ofNat (nat_lit 0))), (nat_lit 0, (.ofNat (nat_lit 0)))]), (nat_lit 0, nat_lit 1, [(nat_lit 0, (.ofNat (nat_lit 3))), (nat_lit 0, (.ofNat (nat_lit 0)))]), (nat_lit 5, nat_lit 1, [(nat_lit 3, (.ofNat (nat_lit 0))), (nat_lit 0, (.ofNat (nat_lit 0))), (nat_lit 0, (.ofNat (nat_lit 0)))]), (nat_lit 6, nat_lit 2, [(nat_lit 0, (.ofNat (nat_lit 0))), (nat_lit 0, (.ofNat (nat_lit 3)))]), (nat_lit 5, nat_lit 0, [(nat_lit 0, (.ofNat (nat_lit 0))), (nat_lit 0, (.ofNat (nat_lit 44))), (nat_lit 0, (.ofNat (nat_lit 0)))]), (nat_lit 5, nat_lit 0, [(nat_lit 0, (.ofNat (nat_lit 0))), (nat_lit 0, (.ofNat (nat_lit 19))), (nat_lit 0, (.ofNat (nat_lit 0)))]), (nat_lit 5, nat_lit 0, [(nat_lit 0, (.ofNat (nat_lit 0))), (nat_lit 0, (.ofNat (nat_lit 18))), (nat_lit 0, (.ofNat (nat_lit 0)))]), (nat_lit 5, nat_lit 0, [(nat_lit 0, (.ofNat (nat_lit 0))), (nat_lit 0, (.ofNat (nat_lit 17))), (nat_lit 0, (.ofNat (nat_lit 0)))]), (nat_lit 5, nat_lit 0, [(nat_lit 0, (.ofNat (nat_lit 0))), (nat_lit 0, (.ofNat (nat_lit 16))), (nat_lit 0, (.ofNat (nat_lit 0)))])],
  [(nat_lit 7, nat_lit 2, [(nat_lit 0, (.ofNat (nat_lit 0)))]), (nat_lit 6, nat_lit 2, [(nat_lit 4, (.ofNat (nat_lit 0))), (nat_lit 0, (.ofNat (nat_lit 3)))]), (nat_lit 0, nat_lit 1, [(nat_lit 2, (.ofNat (nat_lit 0))), (nat_lit 0, (.ofNat (nat_lit 1)))]), (nat_lit 5, nat_lit 1, [(nat_lit 16, (.ofNat (nat_lit 0))), (nat_lit 3, (.ofNat (nat_lit 0))), (nat_lit 0, (.ofNat (nat_lit 0)))]), (nat_lit 0, nat_lit 1, [(nat_lit 0, (.ofNat (nat_lit 3))), (nat_lit 2, (.ofNat (nat_lit 0)))]), (nat_lit 5, nat_lit 1, [(nat_lit 3, (.ofNat (nat_lit 0))), (nat_lit 2, (.ofNat (nat_lit 0))), (nat_lit 0, (.ofNat (nat_lit 0)))]), (nat_lit 6, nat_lit 2, [(nat_lit 2, (.ofNat (nat_lit 0))), (nat_lit 0, (.ofNat (nat_lit 3)))]), (nat_lit 0, nat_lit 1, [(nat_lit 0, (.ofNat (nat_lit 0))), (nat_lit 0, (.ofNat (nat_lit 1)))]), (nat_lit 5, nat_lit 1, [(nat_lit 16, (.ofNat (nat_lit 0))), (nat_lit 1, (.ofNat (nat_lit 0))), (nat_lit 0, (.ofNat (nat_lit 0)))]), (nat_lit 0, nat_lit 1, [(nat_lit 0, (.ofNat (nat_lit 3))), (nat_lit 0, (.ofNat (nat_lit 0)))]), (nat_lit 5, nat_lit 1, [(nat_lit 3, (.ofNat (nat_lit 0))), (nat_lit 0, (.ofNat (nat_lit 0))), (nat_lit 0, (.ofNat (nat_lit 0)))]), (nat_lit 6, nat_lit 2, [(nat_lit 0, (.ofNat (nat_lit 0))), (nat_lit 0, (.ofNat (nat_lit 3)))]), (nat_lit 5, nat_lit 0, [(nat_lit 0, (.ofNat (nat_lit 0))), (nat_lit 0, (.ofNat (nat_lit 44))), (nat_lit 0, (.ofNat (nat_lit 0)))]), (nat_lit 5, nat_lit 0, [(nat_lit 0, (.ofNat (nat_lit 0))), (nat_lit 0, (.ofNat (nat_lit 19))), (nat_lit 0, (.ofNat (nat_lit 0)))]), (nat_lit 5, nat_lit 0, [(nat_lit 0, (.ofNat (nat_lit 0))), (nat_lit 0, (.ofNat (nat_lit 18))), (nat_lit 0, (.ofNat (nat_lit 0)))]), (nat_lit 5, nat_lit 0, [(nat_lit 0, (.ofNat (nat_lit 0))), (nat_lit 0, (.ofNat (nat_lit 17))), (nat_lit 0, (.ofNat (nat_lit 0)))]), (nat_lit 5, nat_lit 0, [(nat_lit 0, (.ofNat (nat_lit 0))), (nat_lit 0, (.ofNat (nat_lit 16))), (nat_lit 0, (.ofNat (nat_lit 0)))])],
  [(nat_lit 7, nat_lit 0, [(nat_lit 5, (.ofNat (nat_lit 0))), (nat_lit 0, (.ofNat (nat_lit 6)))]), (nat_lit 0, nat_lit 1, [(nat_lit 0, (.ofNat (nat_lit 3))), (nat_lit 4, (.ofNat (nat_lit 0)))]), (nat_lit 5, nat_lit 1, [(nat_lit 3, (.ofNat (nat_lit 0))), (nat_lit 4, (.ofNat (nat_lit 0))), (nat_lit 0, (.ofNat (nat_lit 0)))]), (nat_lit 6, nat_lit 2, [(nat_lit 4, (.ofNat (nat_lit 0))), (nat_lit 0, (.ofNat (nat_lit 3)))]), (nat_lit 0, nat_lit 1, [(nat_lit 2, (.ofNat (nat_lit 0))), (nat_lit 0, (.ofNat (nat_lit 1)))]), (nat_lit 5, nat_lit 1, [(nat_lit 16, (.ofNat (nat_lit 0))), (nat_lit 3, (.ofNat (nat_lit 0))), (nat_lit 0, (.ofNat (nat_lit 0)))]), (nat_lit 0, nat_lit 1, [(nat_lit 0, (.ofNat (nat_lit 3))), (nat_lit 2, (.ofNat (nat_lit 0)))]), (nat_lit 5, nat_lit 1, [(nat_lit 3, (.ofNat (nat_lit 0))), (nat_lit 2, (.ofNat (nat_lit 0))), (nat_lit 0, (.ofNat (nat_lit 0)))]), (nat_lit 6, nat_lit 2, [(nat_lit 2, (.ofNat (nat_lit 0))), (nat_lit 0, (.ofNat (nat_lit 3)))]), (nat_lit 0, nat_lit 1, [(nat_lit 0, (.ofNat (nat_lit 0))), (nat_lit 0, (.ofNat (nat_lit 1)))]), (nat_lit 5, nat_lit 1, [(nat_lit 16, (.ofNat (nat_lit 0))), (nat_lit 1, (.ofNat (nat_lit 0))), (nat_lit 0, (.ofNat (nat_lit 0)))]), (nat_lit 0, nat_lit 1, [(nat_lit 0, (.ofNat (nat_lit 3))), (nat_lit 0, (.ofNat (nat_lit 0)))]), (nat_lit 5, nat_lit 1, [(nat_lit 3, (.ofNat (nat_lit 0))), (nat_lit 0, (.ofNat (nat_lit 0))), (nat_lit 0, (.ofNat (nat_lit 0)))]), (nat_lit 6, nat_lit 2, [(nat_lit 0, (.ofNat (nat_lit 0))), (nat_lit 0, (.ofNat (nat_lit 3)))]), (nat_lit 5, nat_lit 0, [(nat_lit 0, (.ofNat (nat_lit 0))), (nat_lit 0, (.ofNat (nat_lit 44))), (nat_lit 0, (.ofNat (nat_lit 0)))]), (nat_lit 5, nat_lit 0, [(nat_lit 0, (.ofNat (nat_lit 0))), (nat_lit 0, (.ofNat (nat_lit 19))), (nat_lit 0, (.ofNat (nat_lit 0)))]), (nat_lit 5, nat_lit 0, [(nat_lit 0, (.ofNat (nat_lit 0))), (nat_lit 0, (.ofNat (nat_lit 18))), (nat_lit 0, (.ofNat (nat_lit 0)))]), (nat_lit 5, nat_lit 0, [(nat_lit 0, (.ofNat (nat_lit 0))), (nat_lit 0, (.ofNat (nat_lit 17))), (nat_lit 0, (.ofNat (nat_lit 0)))]), (nat_lit 5, nat_lit 0, [(nat_lit 0, (.ofNat (nat_lit 0))), (nat_lit 0, (.ofNat (nat_lit 16))), (nat_lit 0, (.ofNat (nat_lit 0)))])],
  [(nat_lit 7, nat_lit 2, [(nat_lit 0, (.ofNat (nat_lit 0)))]), (nat_lit 0, nat_lit 1, [(nat_lit 0, (.ofNat (nat_lit 3))), (nat_lit 4, (.ofNat (nat_lit 0)))]), (nat_lit 5, nat_lit 1, [(nat_lit 3, (.ofNat (nat_lit 0))), (nat_lit 4, (.ofNat (nat_lit 0))), (nat_lit 0, (.ofNat (nat_lit 0)))]), (nat_lit 6, nat_lit 2, [(nat_lit 4, (.ofNat (nat_lit 0))), (nat_lit 0, (.ofNat (nat_lit 3)))]), (nat_lit 0, nat_lit 1, [(nat_lit 2, (.ofNat (nat_lit 0))), (nat_lit 0, (.ofNat (nat_lit 1)))]), (nat_lit 5, nat_lit 1, [(nat_lit 16, (.ofNat (nat_lit 0))), (nat_lit 3, (.ofNat (nat_lit 0))), (nat_lit 0, (.ofNat (nat_lit 0)))]), (nat_lit 0, nat_lit 1, [(nat_lit 0, (.ofNat (nat_lit 3))), (nat_lit 2, (.ofNat (nat_lit 0)))]), (nat_lit 5, nat_lit 1, [(nat_lit 3, (.ofNat (nat_lit 0))), (nat_lit 2, (.ofNat (nat_lit 0))), (nat_lit 0, (.ofNat (nat_lit 0)))]), (nat_lit 6, nat_lit 2, [(nat_lit 2, (.ofNat (nat_lit 0))), (nat_lit 0, (.ofNat (nat_lit 3)))]), (nat_lit 0, nat_lit 1, [(nat_lit 0, (.ofNat (nat_lit 0))), (nat_lit 0, (.ofNat (nat_lit 1)))]), (nat_lit 5, nat_lit 1, [(nat_lit 16, (.ofNat (nat_lit 0))), (nat_lit 1, (.ofNat (nat_lit 0))), (nat_lit 0, (.ofNat (nat_lit 0)))]), (nat_lit 0, nat_lit 1, [(nat_lit 0, (.ofNat (nat_lit 3))), (nat_lit 0, (.ofNat (nat_lit 0)))]), (nat_lit 5, nat_lit 1, [(nat_lit 3, (.ofNat (nat_lit 0))), (nat_lit 0, (.ofNat (nat_lit 0))), (nat_lit 0, (.ofNat (nat_lit 0)))]), (nat_lit 6, nat_lit 2, [(nat_lit 0, (.ofNat (nat_lit 0))), (nat_lit 0, (.ofNat (nat_lit 3)))]), (nat_lit 5, nat_lit 0, [(nat_lit 0, (.ofNat (nat_lit 0))), (nat_lit 0, (.ofNat (nat_lit 44))), (nat_lit 0, (.ofNat (nat_lit 0)))]), (nat_lit 5, nat_lit 0, [(nat_lit 0, (.ofNat (nat_lit 0))), (nat_lit 0, (.ofNat (nat_lit 19))), (nat_lit 0, (.ofNat (nat_lit 0)))]), (nat_lit 5, nat_lit 0, [(nat_lit 0, (.ofNat (nat_lit 0))), (nat_lit 0, (.ofNat (nat_lit 18))), (nat_lit 0, (.ofNat (nat_lit 0)))]), (nat_lit 5, nat_lit 0, [(nat_lit 0, (.ofNat (nat_lit 0))), (nat_lit 0, (.ofNat (nat_lit 17))), (nat_lit 0, (.ofNat (nat_lit 0)))]), (nat_lit 5, nat_lit 0, [(nat_lit 0, (.ofNat (nat_lit 0))), (nat_lit 0, (.ofNat (nat_lit 16))), (nat_lit 0, (.ofNat (nat_lit 0)))])],
  [(nat_lit 7, nat_lit 3, []), (nat_lit 6, nat_lit 3, [(nat_lit 0, (.ofNat (nat_lit 4))), (nat_lit 0, (.ofNat (nat_lit 8)))]), (nat_lit 6, nat_lit 3, [(nat_lit 6, (.ofNat (nat_lit 0))), (nat_lit 0, (.ofNat (nat_lit 3)))]), (nat_lit 0, nat_lit 1, [(nat_lit 4, (.ofNat (nat_lit 0))), (nat_lit 0, (.ofNat (nat_lit 1)))]), (nat_lit 5, nat_lit 1, [(nat_lit 16, (.ofNat (nat_lit 0))), (nat_lit 5, (.ofNat (nat_lit 0))), (nat_lit 0, (.ofNat (nat_lit 0)))]), (nat_lit 0, nat_lit 1, [(nat_lit 0, (.ofNat (nat_lit 3))), (nat_lit 4, (.ofNat (nat_lit 0)))]), (nat_lit 5, nat_lit 1, [(nat_lit 3, (.ofNat (nat_lit 0))), (nat_lit 4, (.ofNat (nat_lit 0))), (nat_lit 0, (.ofNat (nat_lit 0)))]), (nat_lit 6, nat_lit 2, [(nat_lit 4, (.ofNat (nat_lit 0))), (nat_lit 0, (.ofNat (nat_lit 3)))]), (nat_lit 0, nat_lit 1, [(nat_lit 2, (.ofNat (nat_lit 0))), (nat_lit 0, (.ofNat (nat_lit 1)))]), (nat_lit 5, nat_lit 1, [(nat_lit 16, (.ofNat (nat_lit 0))), (nat_lit 3, (.ofNat (nat_lit 0))), (nat_lit 0, (.ofNat (nat_lit 0)))]), (nat_lit 0, nat_lit 1, [(nat_lit 0, (.ofNat (nat_lit 3))), (nat_lit 2, (.ofNat (nat_lit 0)))]), (nat_lit 5, nat_lit 1, [(nat_lit 3, (.ofNat (nat_lit 0))), (nat_lit 2, (.ofNat (nat_lit 0))), (nat_lit 0, (.ofNat (nat_lit 0)))]), (nat_lit 6, nat_lit 2, [(nat_lit 2, (.ofNat (nat_lit 0))), (nat_lit 0, (.ofNat (nat_lit 3)))]), (nat_lit 0, nat_lit 1, [(nat_lit 0, (.ofNat (nat_lit 0))), (nat_lit 0, (.ofNat (nat_lit 1)))]), (nat_lit 5, nat_lit 1, [(nat_lit 16, (.ofNat (nat_lit 0))), (nat_lit 1, (.ofNat (nat_lit 0))), (nat_lit 0, (.ofNat (nat_lit 0)))]), (nat_lit 0, nat_lit 1, [(nat_lit 0, (.ofNat (nat_lit 3))), (nat_lit 0, (.ofNat (nat_lit 0)))]), (nat_lit 5, nat_lit 1, [(nat_lit 3, (.ofNat (nat_lit 0))), (nat_lit 0, (.ofNat (nat_lit 0))), (nat_lit 0, (.ofNat (nat_lit 0)))]), (nat_lit 6, nat_lit 2, [(nat_lit 0, (.ofNat (nat_lit 0))), (nat_lit 0, (.ofNat (nat_lit 3)))]), (nat_lit 5, nat_lit 0, [(nat_lit 0, (.ofNat (nat_lit 0))), (nat_lit 0, (.ofNat (nat_lit 44))), (nat_lit 0, (.ofNat (nat_lit 0)))]), (nat_lit 5, nat_lit 0, [(nat_lit 0, (.ofNat (nat_lit 0))), (nat_lit 0, (.ofNat (nat_lit 19))), (nat_lit 0, (.ofNat (nat_lit 0)))]), (nat_lit 5, nat_lit 0, [(nat_lit 0, (.ofNat (nat_lit 0))), (nat_lit 0, (.ofNat (nat_lit 18))), (nat_lit 0, (.ofNat (nat_lit 0)))]), (nat_lit 5, nat_lit 0, [(nat_lit 0, (.ofNat (nat_lit 0))), (nat_lit 0, (.ofNat (nat_lit 17))), (nat_lit 0, (.ofNat (nat_lit 0)))]), (nat_lit 5, nat_lit 0, [(nat_lit 0, (.ofNat (nat_lit 0))), (nat_lit 0, (.ofNat (nat_lit 16))), (nat_lit 0, (.ofNat (nat_lit 0)))])],
  [(nat_lit 7, nat_lit 3, []), (nat_lit 6, nat_lit 1, [(nat_lit 0, (.ofNat (nat_lit 4))), (nat_lit 0, (.ofNat (nat_lit 4)))]), (nat_lit 6, nat_lit 2, [(nat_lit 0, (.ofNat (nat_lit 4))), (nat_lit 0, (.ofNat (nat_lit 8)))]), (nat_lit 6, nat_lit 3, [(nat_lit 6, (.ofNat (nat_lit 0))), (nat_lit 0, (.ofNat (nat_lit 3)))]), (nat_lit 0, nat_lit 1, [(nat_lit 4, (.ofNat (nat_lit 0))), (nat_lit 0, (.ofNat (nat_lit 1)))]), (nat_lit 5, nat_lit 1, [(nat_lit 16, (.ofNat (nat_lit 0))), (nat_lit 5, (.ofNat (nat_lit 0))), (nat_lit 0, (.ofNat (nat_lit 0)))]), (nat_lit 0, nat_lit 1, [(nat_lit 0, (.ofNat (nat_lit 3))), (nat_lit 4, (.ofNat (nat_lit 0)))]), (nat_lit 5, nat_lit 1, [(nat_lit 3, (.ofNat (nat_lit 0))), (nat_lit 4, (.ofNat (nat_lit 0))), (nat_lit 0, (.ofNat (nat_lit 0)))]), (nat_lit 6, nat_lit 2, [(nat_lit 4, (.ofNat (nat_lit 0))), (nat_lit 0, (.ofNat (nat_lit 3)))]), (nat_lit 0, nat_lit 1, [(nat_lit 2, (.ofNat (nat_lit 0))), (nat_lit 0, (.ofNat (nat_lit 1)))]), (nat_lit 5, nat_lit 1, [(nat_lit 16, (.ofNat (nat_lit 0))), (nat_lit 3, (.ofNat (nat_lit 0))), (nat_lit 0, (.ofNat (nat_lit 0)))]), (nat_lit 0, nat_lit 1, [(nat_lit 0, (.ofNat (nat_lit 3))), (nat_lit 2, (.ofNat (nat_lit 0)))]), (nat_lit 5, nat_lit 1, [(nat_lit 3, (.ofNat (nat_lit 0))), (nat_lit 2, (.ofNat (nat_lit 0))), (nat_lit 0, (.ofNat (nat_lit 0)))]), (nat_lit 6, nat_lit 2, [(nat_lit 2, (.ofNat (nat_lit 0))), (nat_lit 0, (.ofNat (nat_lit 3)))]), (nat_lit 0, nat_lit 1, [(nat_lit 0, (.ofNat (nat_lit 0))), (nat_lit 0, (.ofNat (nat_lit 1)))]), (nat_lit 5, nat_lit 1, [(nat_lit 16, (.ofNat (nat_lit 0))), (nat_lit 1, (.ofNat (nat_lit 0))), (nat_lit 0, (.ofNat (nat_lit 0)))]), (nat_lit 0, nat_lit 1, [(nat_lit 0, (.ofNat (nat_lit 3))), (nat_lit 0, (.ofNat (nat_lit 0)))]), (nat_lit 5, nat_lit 1, [(nat_lit 3, (.ofNat (nat_lit 0))), (nat_lit 0, (.ofNat (nat_lit 0))), (nat_lit 0, (.ofNat (nat_lit 0)))]), (nat_lit 6, nat_lit 2, [(nat_lit 0, (.ofNat (nat_lit 0))), (nat_lit 0, (.ofNat (nat_lit 3)))]), (nat_lit 5, nat_lit 0, [(nat_lit 0, (.ofNat (nat_lit 0))), (nat_lit 0, (.ofNat (nat_lit 44))), (nat_lit 0, (.ofNat (nat_lit 0)))]), (nat_lit 5, nat_lit 0, [(nat_lit 0, (.ofNat (nat_lit 0))), (nat_lit 0, (.ofNat (nat_lit 19))), (nat_lit 0, (.ofNat (nat_lit 0)))]), (nat_lit 5, nat_lit 0, [(nat_lit 0, (.ofNat (nat_lit 0))), (nat_lit 0, (.ofNat (nat_lit 18))), (nat_lit 0, (.ofNat (nat_lit 0)))]), (nat_lit 5, nat_lit 0, [(nat_lit 0, (.ofNat (nat_lit 0))), (nat_lit 0, (.ofNat (nat_lit 17))), (nat_lit 0, (.ofNat (nat_lit 0)))]), (nat_lit 5, nat_lit 0, [(nat_lit 0, (.ofNat (nat_lit 0))), (nat_lit 0, (.ofNat (nat_lit 16))), (nat_lit 0, (.ofNat (nat_lit 0)))])],
  [(nat_lit 7, nat_lit 0, [(nat_lit 0, (.ofNat (nat_lit 4))), (nat_lit 0, (.ofNat (nat_lit 8)))]), (nat_lit 6, nat_lit 0, [(nat_lit 0, (.ofNat (nat_lit 4))), (nat_lit 0, (.ofNat (nat_lit 4)))]), (nat_lit 6, nat_lit 2, [(nat_lit 0, (.ofNat (nat_lit 4))), (nat_lit 0, (.ofNat (nat_lit 8)))]), (nat_lit 6, nat_lit 3, [(nat_lit 6, (.ofNat (nat_lit 0))), (nat_lit 0, (.ofNat (nat_lit 3)))]), (nat_lit 0, nat_lit 1, [(nat_lit 4, (.ofNat (nat_lit 0))), (nat_lit 0, (.ofNat (nat_lit 1)))]), (nat_lit 5, nat_lit 1, [(nat_lit 16, (.ofNat (nat_lit 0))), (nat_lit 5, (.ofNat (nat_lit 0))), (nat_lit 0, (.ofNat (nat_lit 0)))]), (nat_lit 0, nat_lit 1, [(nat_lit 0, (.ofNat (nat_lit 3))), (nat_lit 4, (.ofNat (nat_lit 0)))]), (nat_lit 5, nat_lit 1, [(nat_lit 3, (.ofNat (nat_lit 0))), (nat_lit 4, (.ofNat (nat_lit 0))), (nat_lit 0, (.ofNat (nat_lit 0)))]), (nat_lit 6, nat_lit 2, [(nat_lit 4, (.ofNat (nat_lit 0))), (nat_lit 0, (.ofNat (nat_lit 3)))]), (nat_lit 0, nat_lit 1, [(nat_lit 2, (.ofNat (nat_lit 0))), (nat_lit 0, (.ofNat (nat_lit 1)))]), (nat_lit 5, nat_lit 1, [(nat_lit 16, (.ofNat (nat_lit 0))), (nat_lit 3, (.ofNat (nat_lit 0))), (nat_lit 0, (.ofNat (nat_lit 0)))]), (nat_lit 0, nat_lit 1, [(nat_lit 0, (.ofNat (nat_lit 3))), (nat_lit 2, (.ofNat (nat_lit 0)))]), (nat_lit 5, nat_lit 1, [(nat_lit 3, (.ofNat (nat_lit 0))), (nat_lit 2, (.ofNat (nat_lit 0))), (nat_lit 0, (.ofNat (nat_lit 0)))]), (nat_lit 6, nat_lit 2, [(nat_lit 2, (.ofNat (nat_lit 0))), (nat_lit 0, (.ofNat (nat_lit 3)))]), (nat_lit 0, nat_lit 1, [(nat_lit 0, (.ofNat (nat_lit 0))), (nat_lit 0, (.ofNat (nat_lit 1)))]), (nat_lit 5, nat_lit 1, [(nat_lit 16, (.ofNat (nat_lit 0))), (nat_lit 1, (.ofNat (nat_lit 0))), (nat_lit 0, (.ofNat (nat_lit 0)))]), (nat_lit 0, nat_lit 1, [(nat_lit 0, (.ofNat (nat_lit 3))), (nat_lit 0, (.ofNat (nat_lit 0)))]), (nat_lit 5, nat_lit 1, [(nat_lit 3, (.ofNat (nat_lit 0))), (nat_lit 0, (.ofNat (nat_lit 0))), (nat_lit 0, (.ofNat (nat_lit 0)))]), (nat_lit 6, nat_lit 2, [(nat_lit 0, (.ofNat (nat_lit 0))), (nat_lit 0, (.ofNat (nat_lit 3)))]), (nat_lit 5, nat_lit 0, [(nat_lit 0, (.ofNat (nat_lit 0))), (nat_lit 0, (.ofNat (nat_lit 44))), (nat_lit 0, (.ofNat (nat_lit 0)))]), (nat_lit 5, nat_lit 0, [(nat_lit 0, (.ofNat (nat_lit 0))), (nat_lit 0, (.ofNat (nat_lit 19))), (nat_lit 0, (.ofNat (nat_lit 0)))]), (nat_lit 5, nat_lit 0, [(nat_lit 0, (.ofNat (nat_lit 0))), (nat_lit 0, (.ofNat (nat_lit 18))), (nat_lit 0, (.ofNat (nat_lit 0)))]), (nat_lit 5, nat_lit 0, [(nat_lit 0, (.ofNat (nat_lit 0))), (nat_lit 0, (.ofNat (nat_lit 17))), (nat_lit 0, (.ofNat (nat_lit 0)))]), (nat_lit 5, nat_lit 0, [(nat_lit 0, (.ofNat (nat_lit 0))), (nat_lit 0, (.ofNat (nat_lit 16))), (nat_lit 0, (.ofNat (nat_lit 0)))])],
  [(nat_lit 7, nat_lit 3, []), (nat_lit 6, nat_lit 3, [(nat_lit 7, (.ofNat (nat_lit 0))), (nat_lit 0, (.ofNat (nat_lit 8)))]), (nat_lit 0, nat_lit 1, [(nat_lit 0, (.ofNat (nat_lit 4))), (nat_lit 0, (.ofNat (nat_lit 1)))]), (nat_lit 5, nat_lit 0, [(nat_lit 4, (.ofNat (nat_lit 0))), (nat_lit 0, (.ofNat (nat_lit 4))), (nat_lit 0, (.ofNat (nat_lit 3)))]), (nat_lit 6, nat_lit 0, [(nat_lit 0, (.ofNat (nat_lit 4))), (nat_lit 0, (.ofNat (nat_lit 4)))]), (nat_lit 6, nat_lit 2, [(nat_lit 0, (.ofNat (nat_lit 4))), (nat_lit 0, (.ofNat (nat_lit 8)))]), (nat_lit 6, nat_lit 3, [(nat_lit 6, (.ofNat (nat_lit 0))), (nat_lit 0, (.ofNat (nat_lit 3)))]), (nat_lit 0, nat_lit 1, [(nat_lit 4, (.ofNat (nat_lit 0))), (nat_lit 0, (.ofNat (nat_lit 1)))]), (nat_lit 5, nat_lit 1, [(nat_lit 16, (.ofNat (nat_lit 0))), (nat_lit 5, (.ofNat (nat_lit 0))), (nat_lit 0, (.ofNat (nat_lit 0)))]), (nat_lit 0, nat_lit 1, [(nat_lit 0, (.ofNat (nat_lit 3))), (nat_lit 4, (.ofNat (nat_lit 0)))]), (nat_lit 5, nat_lit 1, [(nat_lit 3, (.ofNat (nat_lit 0))), (nat_lit 4, (.ofNat (nat_lit 0))), (nat_lit 0, (.ofNat (nat_lit 0)))]), (nat_lit 6, nat_lit 2, [(nat_lit 4, (.ofNat (nat_lit 0))), (nat_lit 0, (.ofNat (nat_lit 3)))]), (nat_lit 0, nat_lit 1, [(nat_lit 2, (.ofNat (nat_lit 0))), (nat_lit 0, (.ofNat (nat_lit 1)))]), (nat_lit 5, nat_lit 1, [(nat_lit 16, (.ofNat (nat_lit 0))), (nat_lit 3, (.ofNat (nat_lit 0))), (nat_lit 0, (.ofNat (nat_lit 0)))]), (nat_lit 0, nat_lit 1, [(nat_lit 0, (.ofNat (nat_lit 3))), (nat_lit 2, (.ofNat (nat_lit 0)))]), (nat_lit 5, nat_lit 1, [(nat_lit 3, (.ofNat (nat_lit 0))), (nat_lit 2, (.ofNat (nat_lit 0))), (nat_lit 0, (.ofNat (nat_lit 0)))]), (nat_lit 6, nat_lit 2, [(nat_lit 2, (.ofNat (nat_lit 0))), (nat_lit 0, (.ofNat (nat_lit 3)))]), (nat_lit 0, nat_lit 1, [(nat_lit 0, (.ofNat (nat_lit 0))), (nat_lit 0, (.ofNat (nat_lit 1)))]), (nat_lit 5, nat_lit 1, [(nat_lit 16, (.ofNat (nat_lit 0))), (nat_lit 1, (.ofNat (nat_lit 0))), (nat_lit 0, (.ofNat (nat_lit 0)))]), (nat_lit 0, nat_lit 1, [(nat_lit 0, (.ofNat (nat_lit 3))), (nat_lit 0, (.ofNat (nat_lit 0)))]), (nat_lit 5, nat_lit 1, [(nat_lit 3, (.ofNat (nat_lit 0))), (nat_lit 0, (.ofNat (nat_lit 0))), (nat_lit 0, (.ofNat (nat_lit 0)))]), (nat_lit 6, nat_lit 2, [(nat_lit 0, (.ofNat (nat_lit 0))), (nat_lit 0, (.ofNat (nat_lit 3)))]), (nat_lit 5, nat_lit 0, [(nat_lit 0, (.ofNat (nat_lit 0))), (nat_lit 0, (.ofNat (nat_lit 44))), (nat_lit 0, (.ofNat (nat_lit 0)))]), (nat_lit 5, nat_lit 0, [(nat_lit 0, (.ofNat (nat_lit 0))), (nat_lit 0, (.ofNat (nat_lit 19))), (nat_lit 0, (.ofNat (nat_lit 0)))]), (nat_lit 5, nat_lit 0, [(nat_lit 0, (.ofNat (nat_lit 0))), (nat_lit 0, (.ofNat (nat_lit 18))), (nat_lit 0, (.ofNat (nat_lit 0)))]), (nat_lit 5, nat_lit 0, [(nat_lit 0, (.ofNat (nat_lit 0))), (nat_lit 0, (.ofNat (nat_lit 17))), (nat_lit 0, (.ofNat (nat_lit 0)))]), (nat_lit 5, nat_lit 0, [(nat_lit 0, (.ofNat (nat_lit 0))), (nat_lit 0, (.ofNat (nat_lit 16))), (nat_lit 0, (.ofNat (nat_lit 0)))])],
  [(nat_lit 7, nat_lit 0, [(nat_lit 7, (.ofNat (nat_lit 0))), (nat_lit 0, (.ofNat (nat_lit 8)))]), (nat_lit 6, nat_lit 1, [(nat_lit 7, (.ofNat (nat_lit 0))), (nat_lit 0, (.ofNat (nat_lit 4)))]), (nat_lit 6, nat_lit 2, [(nat_lit 7, (.ofNat (nat_lit 0))), (nat_lit 0, (.ofNat (nat_lit 8)))]), (nat_lit 0, nat_lit 1, [(nat_lit 0, (.ofNat (nat_lit 4))), (nat_lit 0, (.ofNat (nat_lit 1)))]), (nat_lit 5, nat_lit 0, [(nat_lit 4, (.ofNat (nat_lit 0))), (nat_lit 0, (.ofNat (nat_lit 4))), (nat_lit 0, (.ofNat (nat_lit 3)))]), (nat_lit 6, nat_lit 0, [(nat_lit 0, (.ofNat (nat_lit 4))), (nat_lit 0, (.ofNat (nat_lit 4)))]), (nat_lit 6, nat_lit 2, [(nat_lit 0, (.ofNat (nat_lit 4))), (nat_lit 0, (.ofNat (nat_lit 8)))]), (nat_lit 6, nat_lit 3, [(nat_lit 6, (.ofNat (nat_lit 0))), (nat_lit 0, (.ofNat (nat_lit 3)))]), (nat_lit 0, nat_lit 1, [(nat_lit 4, (.ofNat (nat_lit 0))), (nat_lit 0, (.ofNat (nat_lit 1)))]), (nat_lit 5, nat_lit 1, [(nat_lit 16, (.ofNat (nat_lit 0))), (nat_lit 5, (.ofNat (nat_lit 0))), (nat_lit 0, (.ofNat (nat_lit 0)))]), (nat_lit 0, nat_lit 1, [(nat_lit 0, (.ofNat (nat_lit 3))), (nat_lit 4, (.ofNat (nat_lit 0)))]), (nat_lit 5, nat_lit 1, [(nat_lit 3, (.ofNat (nat_lit 0))), (nat_lit 4, (.ofNat (nat_lit 0))), (nat_lit 0, (.ofNat (nat_lit 0)))]), (nat_lit 6, nat_lit 2, [(nat_lit 4, (.ofNat (nat_lit 0))), (nat_lit 0, (.ofNat (nat_lit 3)))]), (nat_lit 0, nat_lit 1, [(nat_lit 2, (.ofNat (nat_lit 0))), (nat_lit 0, (.ofNat (nat_lit 1)))]), (nat_lit 5, nat_lit 1, [(nat_lit 16, (.ofNat (nat_lit 0))), (nat_lit 3, (.ofNat (nat_lit 0))), (nat_lit 0, (.ofNat (nat_lit 0)))]), (nat_lit 0, nat_lit 1, [(nat_lit 0, (.ofNat (nat_lit 3))), (nat_lit 2, (.ofNat (nat_lit 0)))]), (nat_lit 5, nat_lit 1, [(nat_lit 3, (.ofNat (nat_lit 0))), (nat_lit 2, (.ofNat (nat_lit 0))), (nat_lit 0, (.ofNat (nat_lit 0)))]), (nat_lit 6, nat_lit 2, [(nat_lit 2, (.ofNat (nat_lit 0))), (nat_lit 0, (.ofNat (nat_lit 3)))]), (nat_lit 0, nat_lit 1, [(nat_lit 0, (.ofNat (nat_lit 0))), (nat_lit 0, (.ofNat (nat_lit 1)))]), (nat_lit 5, nat_lit 1, [(nat_lit 16, (.ofNat (nat_lit 0))), (nat_lit 1, (.ofNat (nat_lit 0))), (nat_lit 0, (.ofNat (nat_lit 0)))]), (nat_lit 0, nat_lit 1, [(nat_lit 0, (.ofNat (nat_lit 3))), (nat_lit 0, (.ofNat (nat_lit 0)))]), (nat_lit 5, nat_lit 1, [(nat_lit 3, (.ofNat (nat_lit 0))), (nat_lit 0, (.ofNat (nat_lit 0))), (nat_lit 0, (.ofNat (nat_lit 0)))]), (nat_lit 6, nat_lit 2, [(nat_lit 0, (.ofNat (nat_lit 0))), (nat_lit 0, (.ofNat (nat_lit 3)))]), (nat_lit 5, nat_lit 0, [(nat_lit 0, (.ofNat (nat_lit 0))), (nat_lit 0, (.ofNat (nat_lit 44))), (nat_lit 0, (.ofNat (nat_lit 0)))]), (nat_lit 5, nat_lit 0, [(nat_lit 0, (.ofNat (nat_lit 0))), (nat_lit 0, (.ofNat (nat_lit 19))), (nat_lit 0, (.ofNat (nat_lit 0)))]), (nat_lit 5, nat_lit 0, [(nat_lit 0, (.ofNat (nat_lit 0))), (nat_lit 0, (.ofNat (nat_lit 18))), (nat_lit 0, (.ofNat (nat_lit 0)))]), (nat_lit 5, nat_lit 0, [(nat_lit 0, (.ofNat (nat_lit 0))), (nat_lit 0, (.ofNat (nat_lit 17))), (nat_lit 0, (.ofNat (nat_lit 0)))]), (nat_lit 5, nat_lit 0, [(nat_lit 0, (.ofNat (nat_lit 0))), (nat_lit 0, (.ofNat (nat_lit 16))), (nat_lit 0, (.ofNat (nat_lit 0)))])],
  [(nat_lit 7, nat_lit 3, []), (nat_lit 6, nat_lit 3, [(nat_lit 8, (.ofNat (nat_lit 0))), (nat_lit 0, (.ofNat (nat_lit 8)))]), (nat_lit 0, nat_lit 1, [(nat_lit 7, (.ofNat (nat_lit 0))), (nat_lit 0, (.ofNat (nat_lit 1)))]), (nat_lit 5, nat_lit 0, [(nat_lit 4, (.ofNat (nat_lit 0))), (nat_lit 7, (.ofNat (nat_lit 0))), (nat_lit 0, (.ofNat (nat_lit 0)))]), (nat_lit 6, nat_lit 1, [(nat_lit 7, (.ofNat (nat_lit 0))), (nat_lit 0, (.ofNat (nat_lit 4)))]), (nat_lit 6, nat_lit 2, [(nat_lit 7, (.ofNat (nat_lit 0))), (nat_lit 0, (.ofNat (nat_lit 8)))]), (nat_lit 0, nat_lit 1, [(nat_lit 0, (.ofNat (nat_lit 4))), (nat_lit 0, (.ofNat (nat_lit 1)))]), (nat_lit 5, nat_lit 0, [(nat_lit 4, (.ofNat (nat_lit 0))), (nat_lit 0, (.ofNat (nat_lit 4))), (nat_lit 0, (.ofNat (nat_lit 3)))]), (nat_lit 6, nat_lit 0, [(nat_lit 0, (.ofNat (nat_lit 4))), (nat_lit 0, (.ofNat (nat_lit 4)))]), (nat_lit 6, nat_lit 2, [(nat_lit 0, (.ofNat (nat_lit 4))), (nat_lit 0, (.ofNat (nat_lit 8)))]), (nat_lit 6, nat_lit 3, [(nat_lit 6, (.ofNat (nat_lit 0))), (nat_lit 0, (.ofNat (nat_lit 3)))]), (nat_lit 0, nat_lit 1, [(nat_lit 4, (.ofNat (nat_lit 0))), (nat_lit 0, (.ofNat (nat_lit 1)))]), (nat_lit 5, nat_lit 1, [(nat_lit 16, (.ofNat (nat_lit 0))), (nat_lit 5, (.ofNat (nat_lit 0))), (nat_lit 0, (.ofNat (nat_lit 0)))]), (nat_lit 0, nat_lit 1, [(nat_lit 0, (.ofNat (nat_lit 3))), (nat_lit 4, (.ofNat (nat_lit 0)))]), (nat_lit 5, nat_lit 1, [(nat_lit 3, (.ofNat (nat_lit 0))), (nat_lit 4, (.ofNat (nat_lit 0))), (nat_lit 0, (.ofNat (nat_lit 0)))]), (nat_lit 6, nat_lit 2, [(nat_lit 4, (.ofNat (nat_lit 0))), (nat_lit 0, (.ofNat (nat_lit 3)))]), (nat_lit 0, nat_lit 1, [(nat_lit 2, (.ofNat (nat_lit 0))), (nat_lit 0, (.ofNat (nat_lit 1)))]), (nat_lit 5, nat_lit 1, [(nat_lit 16, (.ofNat (nat_lit 0))), (nat_lit 3, (.ofNat (nat_lit 0))), (nat_lit 0, (.ofNat (nat_lit 0)))]), (nat_lit 0, nat_lit 1, [(nat_lit 0, (.ofNat (nat_lit 3))), (nat_lit 2, (.ofNat (nat_lit 0)))]), (nat_lit 5, nat_lit 1, [(nat_lit 3, (.ofNat (nat_lit 0))), (nat_lit 2, (.ofNat (nat_lit 0))), (nat_lit 0, (.ofNat (nat_lit 0)))]), (nat_lit 6, nat_lit 2, [(nat_lit 2, (.ofNat (nat_lit 0))), (nat_lit 0, (.ofNat (nat_lit 3)))]), (nat_lit 0, nat_lit 1, [(nat_lit 0, (.ofNat (nat_lit 0))), (nat_lit 0, (.ofNat (nat_lit 1)))]), (nat_lit 5, nat_lit 1, [(nat_lit 16, (.ofNat (nat_lit 0))), (nat_lit 1, (.ofNat (nat_lit 0))), (nat_lit 0, (.ofNat (nat_lit 0)))]), (nat_lit 0, nat_lit 1, [(nat_lit 0, (.ofNat (nat_lit 3))), (nat_lit 0, (.ofNat (nat_lit 0)))]), (nat_lit 5, nat_lit 1, [(nat_lit 3, (.ofNat (nat_lit 0))), (nat_lit 0, (.ofNat (nat_lit 0))), (nat_lit 0, (.ofNat (nat_lit 0)))]), (nat_lit 6, nat_lit 2, [(nat_lit 0, (.ofNat (nat_lit 0))), (nat_lit 0, (.ofNat (nat_lit 3)))]), (nat_lit 5, nat_lit 0, [(nat_lit 0, (.ofNat (nat_lit 0))), (nat_lit 0, (.ofNat (nat_lit 44))), (nat_lit 0, (.ofNat (nat_lit 0)))]), (nat_lit 5, nat_lit 0, [(nat_lit 0, (.ofNat (nat_lit 0))), (nat_lit 0, (.ofNat (nat_lit 19))), (nat_lit 0, (.ofNat (nat_lit 0)))]), (nat_lit 5, nat_lit 0, [(nat_lit 0, (.ofNat (nat_lit 0))), (nat_lit 0, (.ofNat (nat_lit 18))), (nat_lit 0, (.ofNat (nat_lit 0)))]), (nat_lit 5, nat_lit 0, [(nat_lit 0, (.ofNat (nat_lit 0))), (nat_lit 0, (.ofNat (nat_lit 17))), (nat_lit 0, (.ofNat (nat_lit 0)))]), (nat_lit 5, nat_lit 0, [(nat_lit 0, (.ofNat (nat_lit 0))), (nat_lit 0, (.ofNat (nat_lit 16))), (nat_lit 0, (.ofNat (nat_lit 0)))])],
  [(nat_lit 7, nat_lit 0, [(nat_lit 8, (.ofNat (nat_lit 0))), (nat_lit 0, (.ofNat (nat_lit 8)))]), (nat_lit 6, nat_lit 1, [(nat_lit 8, (.ofNat (nat_lit 0))), (nat_lit 0, (.ofNat (nat_lit 4)))]), (nat_lit 6, nat_lit 2, [(nat_lit 8, (.ofNat (nat_lit 0))), (nat_lit 0, (.ofNat (nat_lit 8)))]), (nat_lit 0, nat_lit 1, [(nat_lit 7, (.ofNat (nat_lit 0))), (nat_lit 0, (.ofNat (nat_lit 1)))]), (nat_lit 5, nat_lit 0, [(nat_lit 4, (.ofNat (nat_lit 0))), (nat_lit 7, (.ofNat (nat_lit 0))), (nat_lit 0, (.ofNat (nat_lit 0)))]), (nat_lit 6, nat_lit 1, [(nat_lit 7, (.ofNat (nat_lit 0))), (nat_lit 0, (.ofNat (nat_lit 4)))]), (nat_lit 6, nat_lit 2, [(nat_lit 7, (.ofNat (nat_lit 0))), (nat_lit 0, (.ofNat (nat_lit 8)))]), (nat_lit 0, nat_lit 1, [(nat_lit 0, (.ofNat (nat_lit 4))), (nat_lit 0, (.ofNat (nat_lit 1)))]), (nat_lit 5, nat_lit 0, [(nat_lit 4, (.ofNat (nat_lit 0))), (nat_lit 0, (.ofNat (nat_lit 4))), (nat_lit 0, (.ofNat (nat_lit 3)))]), (nat_lit 6, nat_lit 0, [(nat_lit 0, (.ofNat (nat_lit 4))), (nat_lit 0, (.ofNat (nat_lit 4)))]), (nat_lit 6, nat_lit 2, [(nat_lit 0, (.ofNat (nat_lit 4))), (nat_lit 0, (.ofNat (nat_lit 8)))]), (nat_lit 6, nat_lit 3, [(nat_lit 6, (.ofNat (nat_lit 0))), (nat_lit 0, (.ofNat (nat_lit 3)))]), (nat_lit 0, nat_lit 1, [(nat_lit 4, (.ofNat (nat_lit 0))), (nat_lit 0, (.ofNat (nat_lit 1)))]), (nat_lit 5, nat_lit 1, [(nat_lit 16, (.ofNat (nat_lit 0))), (nat_lit 5, (.ofNat (nat_lit 0))), (nat_lit 0, (.ofNat (nat_lit 0)))]), (nat_lit 0, nat_lit 1, [(nat_lit 0, (.ofNat (nat_lit 3))), (nat_lit 4, (.ofNat (nat_lit 0)))]), (nat_lit 5, nat_lit 1, [(nat_lit 3, (.ofNat (nat_lit 0))), (nat_lit 4, (.ofNat (nat_lit 0))), (nat_lit 0, (.ofNat (nat_lit 0)))]), (nat_lit 6, nat_lit 2, [(nat_lit 4, (.ofNat (nat_lit 0))), (nat_lit 0, (.ofNat (nat_lit 3)))]), (nat_lit 0, nat_lit 1, [(nat_lit 2, (.ofNat (nat_lit 0))), (nat_lit 0, (.ofNat (nat_lit 1)))]), (nat_lit 5, nat_lit 1, [(nat_lit 16, (.ofNat (nat_lit 0))), (nat_lit 3, (.ofNat (nat_lit 0))), (nat_lit 0, (.ofNat (nat_lit 0)))]), (nat_lit 0, nat_lit 1, [(nat_lit 0, (.ofNat (nat_lit 3))), (nat_lit 2, (.ofNat (nat_lit 0)))]), (nat_lit 5, nat_lit 1, [(nat_lit 3, (.ofNat (nat_lit 0))), (nat_lit 2, (.ofNat (nat_lit 0))), (nat_lit 0, (.ofNat (nat_lit 0)))]), (nat_lit 6, nat_lit 2, [(nat_lit 2, (.ofNat (nat_lit 0))), (nat_lit 0, (.ofNat (nat_lit 3)))]), (nat_lit 0, nat_lit 1, [(nat_lit 0, (.ofNat (nat_lit 0))), (nat_lit 0, (.ofNat (nat_lit 1)))]), (nat_lit 5, nat_lit 1, [(nat_lit 16, (.ofNat (nat_lit 0))), (nat_lit 1, (.ofNat (nat_lit 0))), (nat_lit 0, (.ofNat (nat_lit 0)))]), (nat_lit 0, nat_lit 1, [(nat_lit 0, (.ofNat (nat_lit 3))), (nat_lit 0, (.ofNat (nat_lit 0)))]), (nat_lit 5, nat_lit 1, [(nat_lit 3, (.ofNat (nat_lit 0))), (nat_lit 0, (.ofNat (nat_lit 0))), (nat_lit 0, (.ofNat (nat_lit 0)))]), (nat_lit 6, nat_lit 2, [(nat_lit 0, (.ofNat (nat_lit 0))), (nat_lit 0, (.ofNat (nat_lit 3)))]), (nat_lit 5, nat_lit 0, [(nat_lit 0, (.ofNat (nat_lit 0))), (nat_lit 0, (.ofNat (nat_lit 44))), (nat_lit 0, (.ofNat (nat_lit 0)))]), (nat_lit 5, nat_lit 0, [(nat_lit 0, (.ofNat (nat_lit 0))), (nat_lit 0, (.ofNat (nat_lit 19))), (nat_lit 0, (.ofNat (nat_lit 0)))]), (nat_lit 5, nat_lit 0, [(nat_lit 0, (.ofNat (nat_lit 0))), (nat_lit 0, (.ofNat (nat_lit 18))), (nat_lit 0, (.ofNat (nat_lit 0)))]), (nat_lit 5, nat_lit 0, [(nat_lit 0, (.ofNat (nat_lit 0))), (nat_lit 0, (.ofNat (nat_lit 17))), (nat_lit 0, (.ofNat (nat_lit 0)))]), (nat_lit 5, nat_lit 0, [(nat_lit 0, (.ofNat (nat_lit 0))), (nat_lit 0, (.ofNat (nat_lit 16))), (nat_lit 0, (.ofNat (nat_lit 0)))])],
  [(nat_lit 7, nat_lit 3, []), (nat_lit 6, nat_lit 3, [(nat_lit 9, (.ofNat (nat_lit 0))), (nat_lit 0, (.ofNat (nat_lit 8)))]), (nat_lit 0, nat_lit 1, [(nat_lit 8, (.ofNat (nat_lit 0))), (nat_lit 0, (.ofNat (nat_lit 1)))]), (nat_lit 5, nat_lit 0, [(nat_lit 4, (.ofNat (nat_lit 0))), (nat_lit 8, (.ofNat (nat_lit 0))), (nat_lit 0, (.ofNat (nat_lit 0)))]), (nat_lit 6, nat_lit 1, [(nat_lit 8, (.ofNat (nat_lit 0))), (nat_lit 0, (.ofNat (nat_lit 4)))]), (nat_lit 6, nat_lit 2, [(nat_lit 8, (.ofNat (nat_lit 0))), (nat_lit 0, (.ofNat (nat_lit 8)))]), (nat_lit 0, nat_lit 1, [(nat_lit 7, (.ofNat (nat_lit 0))), (nat_lit 0, (.ofNat (nat_lit 1)))]), (nat_lit 5, nat_lit 0, [(nat_lit 4, (.ofNat (nat_lit 0))), (nat_lit 7, (.ofNat (nat_lit 0))), (nat_lit 0, (.ofNat (nat_lit 0)))]), (nat_lit 6, nat_lit 1, [(nat_lit 7, (.ofNat (nat_lit 0))), (nat_lit 0, (.ofNat (nat_lit 4)))]), (nat_lit 6, nat_lit 2, [(nat_lit 7, (.ofNat (nat_lit 0))), (nat_lit 0, (.ofNat (nat_lit 8)))]), (nat_lit 0, nat_lit 1, [(nat_lit 0, (.ofNat (nat_lit 4))), (nat_lit 0, (.ofNat (nat_lit 1)))]), (nat_lit 5, nat_lit 0, [(nat_lit 4, (.ofNat (nat_lit 0))), (nat_lit 0, (.ofNat (nat_lit 4))), (nat_lit 0, (.ofNat (nat_lit 3)))]), (nat_lit 6, nat_lit 0, [(nat_lit 0, (.ofNat (nat_lit 4))), (nat_lit 0, (.ofNat (nat_lit 4)))]), (nat_lit 6, nat_lit 2, [(nat_lit 0, (.ofNat (nat_lit 4))), (nat_lit 0, (.ofNat (nat_lit 8)))]), (nat_lit 6, nat_lit 3, [(nat_lit 6, (.ofNat (nat_lit 0))), (nat_lit 0, (.ofNat (nat_lit 3)))]), (nat_lit 0, nat_lit 1, [(nat_lit 4, (.ofNat (nat_lit 0))), (nat_lit 0, (.ofNat (nat_lit 1)))]), (nat_lit 5, nat_lit 1, [(nat_lit 16, (.ofNat (nat_lit 0))), (nat_lit 5, (.ofNat (nat_lit 0))), (nat_lit 0, (.ofNat (nat_lit 0)))]), (nat_lit 0, nat_lit 1, [(nat_lit 0, (.ofNat (nat_lit 3))), (nat_lit 4, (.ofNat (nat_lit 0)))]), (nat_lit 5, nat_lit 1, [(nat_lit 3, (.ofNat (nat_lit 0))), (nat_lit 4, (.ofNat (nat_lit 0))), (nat_lit 0, (.ofNat (nat_lit 0)))]), (nat_lit 6, nat_lit 2, [(nat_lit 4, (.ofNat (nat_lit 0))), (nat_lit 0, (.ofNat (nat_lit 3)))]), (nat_lit 0, nat_lit 1, [(nat_lit 2, (.ofNat (nat_lit 0))), (nat_lit 0, (.ofNat (nat_lit 1)))]), (nat_lit 5, nat_lit 1, [(nat_lit 16, (.ofNat (nat_lit 0))), (nat_lit 3, (.ofNat (nat_lit 0))), (nat_lit 0, (.ofNat (nat_lit 0)))]), (nat_lit 0, nat_lit 1, [(nat_lit 0, (.ofNat (nat_lit 3))), (nat_lit 2, (.ofNat (nat_lit 0)))]), (nat_lit 5, nat_lit 1, [(nat_lit 3, (.ofNat (nat_lit 0))), (nat_lit 2, (.ofNat (nat_lit 0))), (nat_lit 0, (.ofNat (nat_lit 0)))]), (nat_lit 6, nat_lit 2, [(nat_lit 2, (.ofNat (nat_lit 0))), (nat_lit 0, (.ofNat (nat_lit 3)))]), (nat_lit 0, nat_lit 1, [(nat_lit 0, (.ofNat (nat_lit 0))), (nat_lit 0, (.ofNat (nat_lit 1)))]), (nat_lit 5, nat_lit 1, [(nat_lit 16, (.ofNat (nat_lit 0))), (nat_lit 1, (.ofNat (nat_lit 0))), (nat_lit 0, (.ofNat (nat_lit 0)))]), (nat_lit 0, nat_lit 1, [(nat_lit 0, (.ofNat (nat_lit 3))), (nat_lit 0, (.ofNat (nat_lit 0)))]), (nat_lit 5, nat_lit 1, [(nat_lit 3, (.ofNat (nat_lit 0))), (nat_lit 0, (.ofNat (nat_lit 0))), (nat_lit 0, (.ofNat (nat_lit 0)))]), (nat_lit 6, nat_lit 2, [(nat_lit 0, (.ofNat (nat_lit 0))), (nat_lit 0, (.ofNat (nat_lit 3)))]), (nat_lit 5, nat_lit 0, [(nat_lit 0, (.ofNat (nat_lit 0))), (nat_lit 0, (.ofNat (nat_lit 44))), (nat_lit 0, (.ofNat (nat_lit 0)))]), (nat_lit 5, nat_lit 0, [(nat_lit 0, (.ofNat (nat_lit 0))), (nat_lit 0, (.ofNat (nat_lit 19))), (nat_lit 0, (.ofNat (nat_lit 0)))]), (nat_lit 5, nat_lit 0, [(nat_lit 0, (.ofNat (nat_lit 0))), (nat_lit 0, (.ofNat (nat_lit 18))), (nat_lit 0, (.ofNat (nat_lit 0)))]), (nat_lit 5, nat_lit 0, [(nat_lit 0, (.ofNat (nat_lit 0))), (nat_lit 0, (.ofNat (nat_lit 17))), (nat_lit 0, (.ofNat (nat_lit 0)))]), (nat_lit 5, nat_lit 0, [(nat_lit 0, (.ofNat (nat_lit 0))), (nat_lit 0, (.ofNat (nat_lit 16))), (nat_lit 0, (.ofNat (nat_lit 0)))])],
  [(nat_lit 7, nat_lit 0, [(nat_lit 9, (.ofNat (nat_lit 0))), (nat_lit 0, (.ofNat (nat_lit 8)))]), (nat_lit 6, nat_lit 1, [(nat_lit 9, (.ofNat (nat_lit 0))), (nat_lit 0, (.ofNat (nat_lit 4)))]), (nat_lit 6, nat_lit 2, [(nat_lit 9, (.ofNat (nat_lit 0))), (nat_lit 0, (.ofNat (nat_lit 8)))]), (nat_lit 0, nat_lit 1, [(nat_lit 8, (.ofNat (nat_lit 0))), (nat_lit 0, (.ofNat (nat_lit 1)))]), (nat_lit 5, nat_lit 0, [(nat_lit 4, (.ofNat (nat_lit 0))), (nat_lit 8, (.ofNat (nat_lit 0))), (nat_lit 0, (.ofNat (nat_lit 0)))]), (nat_lit 6, nat_lit 1, [(nat_lit 8, (.ofNat (nat_lit 0))), (nat_lit 0, (.ofNat (nat_lit 4)))]), (nat_lit 6, nat_lit 2, [(nat_lit 8, (.ofNat (nat_lit 0))), (nat_lit 0, (.ofNat (nat_lit 8)))]), (nat_lit 0, nat_lit 1, [(nat_lit 7, (.ofNat (nat_lit 0))), (nat_lit 0, (.ofNat (nat_lit 1)))]), (nat_lit 5, nat_lit 0, [(nat_lit 4, (.ofNat (nat_lit 0))), (nat_lit 7, (.ofNat (nat_lit 0))), (nat_lit 0, (.ofNat (nat_lit 0)))]), (nat_lit 6, nat_lit 1, [(nat_lit 7, (.ofNat (nat_lit 0))), (nat_lit 0, (.ofNat (nat_lit 4)))]), (nat_lit 6, nat_lit 2, [(nat_lit 7, (.ofNat (nat_lit 0))), (nat_lit 0, (.ofNat (nat_lit 8)))]), (nat_lit 0, nat_lit 1, [(nat_lit 0, (.ofNat (nat_lit 4))), (nat_lit 0, (.ofNat (nat_lit 1)))]), (nat_lit 5, nat_lit 0, [(nat_lit 4, (.ofNat (nat_lit 0))), (nat_lit 0, (.ofNat (nat_lit 4))), (nat_lit 0, (.ofNat (nat_lit 3)))]), (nat_lit 6, nat_lit 0, [(nat_lit 0, (.ofNat (nat_lit 4))), (nat_lit 0, (.ofNat (nat_lit 4)))]), (nat_lit 6, nat_lit 2, [(nat_lit 0, (.ofNat (nat_lit 4))), (nat_lit 0, (.ofNat (nat_lit 8)))]), (nat_lit 6, nat_lit 3, [(nat_lit 6, (.ofNat (nat_lit 0))), (nat_lit 0, (.ofNat (nat_lit 3)))]), (nat_lit 0, nat_lit 1, [(nat_lit 4, (.ofNat (nat_lit 0))), (nat_lit 0, (.ofNat (nat_lit 1)))]), (nat_lit 5, nat_lit 1, [(nat_lit 16, (.ofNat (nat_lit 0))), (nat_lit 5, (.ofNat (nat_lit 0))), (nat_lit 0, (.ofNat (nat_lit 0)))]), (nat_lit 0, nat_lit 1, [(nat_lit 0, (.ofNat (nat_lit 3))), (nat_lit 4, (.ofNat (nat_lit 0)))]), (nat_lit 5, nat_lit 1, [(nat_lit 3, (.ofNat (nat_lit 0))), (nat_lit 4, (.ofNat (nat_lit 0))), (nat_lit 0, (.ofNat (nat_lit 0)))]), (nat_lit 6, nat_lit 2, [(nat_lit 4, (.ofNat (nat_lit 0))), (nat_lit 0, (.ofNat (nat_lit 3)))]), (nat_lit 0, nat_lit 1, [(nat_lit 2, (.ofNat (nat_lit 0))), (nat_lit 0, (.ofNat (nat_lit 1)))]), (nat_lit 5, nat_lit 1, [(nat_lit 16, (.ofNat (nat_lit 0))), (nat_lit 3, (.ofNat (nat_lit 0))), (nat_lit 0, (.ofNat (nat_lit 0)))]), (nat_lit 0, nat_lit 1, [(nat_lit 0, (.ofNat (nat_lit 3))), (nat_lit 2, (.ofNat (nat_lit 0)))]), (nat_lit 5, nat_lit 1, [(nat_lit 3, (.ofNat (nat_lit 0))), (nat_lit 2, (.ofNat (nat_lit 0))), (nat_lit 0, (.ofNat (nat_lit 0)))]), (nat_lit 6, nat_lit 2, [(nat_lit 2, (.ofNat (nat_lit 0))), (nat_lit 0, (.ofNat (nat_lit 3)))]), (nat_lit 0, nat_lit 1, [(nat_lit 0, (.ofNat (nat_lit 0))), (nat_lit 0, (.ofNat (nat_lit 1)))]), (nat_lit 5, nat_lit 1, [(nat_lit 16, (.ofNat (nat_lit 0))), (nat_lit 1, (.ofNat (nat_lit 0))), (nat_lit 0, (.ofNat (nat_lit 0)))]), (nat_lit 0, nat_lit 1, [(nat_lit 0, (.ofNat (nat_lit 3))), (nat_lit 0, (.ofNat (nat_lit 0)))]), (nat_lit 5, nat_lit 1, [(nat_lit 3, (.ofNat (nat_lit 0))), (nat_lit 0, (.ofNat (nat_lit 0))), (nat_lit 0, (.ofNat (nat_lit 0)))]), (nat_lit 6, nat_lit 2, [(nat_lit 0, (.ofNat (nat_lit 0))), (nat_lit 0, (.ofNat (nat_lit 3)))]), (nat_lit 5, nat_lit 0, [(nat_lit 0, (.ofNat (nat_lit 0))), (nat_lit 0, (.ofNat (nat_lit 44))), (nat_lit 0, (.ofNat (nat_lit 0)))]), (nat_lit 5, nat_lit 0, [(nat_lit 0, (.ofNat (nat_lit 0))), (nat_lit 0, (.ofNat (nat_lit 19))), (nat_lit 0, (.ofNat (nat_lit 0)))]), (nat_lit 5, nat_lit 0, [(nat_lit 0, (.ofNat (nat_lit 0))), (nat_lit 0, (.ofNat (nat_lit 18))), (nat_lit 0, (.ofNat (nat_lit 0)))]), (nat_lit 5, nat_lit 0, [(nat_lit 0, (.ofNat (nat_lit 0))), (nat_lit 0, (.ofNat (nat_lit 17))), (nat_lit 0, (.ofNat (nat_lit 0)))]), (nat_lit 5, nat_lit 0, [(nat_lit 0, (.ofNat (nat_lit 0))), (nat_lit 0, (.ofNat (nat_lit 16))), (nat_lit 0, (.ofNat (nat_lit 0)))])],
  [(nat_lit 7, nat_lit 3, []), (nat_lit 6, nat_lit 2, [(nat_lit 10, (.ofNat (nat_lit 0))), (nat_lit 0, (.ofNat (nat_lit 8)))]), (nat_lit 0, nat_lit 1, [(nat_lit 9, (.ofNat (nat_lit 0))), (nat_lit 0, (.ofNat (nat_lit 1)))]), (nat_lit 5, nat_lit 0, [(nat_lit 4, (.ofNat (nat_lit 0))), (nat_lit 9, (.ofNat (nat_lit 0))), (nat_lit 0, (.ofNat (nat_lit 0)))]), (nat_lit 6, nat_lit 1, [(nat_lit 9, (.ofNat (nat_lit 0))), (nat_lit 0, (.ofNat (nat_lit 4)))]), (nat_lit 6, nat_lit 2, [(nat_lit 9, (.ofNat (nat_lit 0))), (nat_lit 0, (.ofNat (nat_lit 8)))]), (nat_lit 0, nat_lit 1, [(nat_lit 8, (.ofNat (nat_lit 0))), (nat_lit 0, (.ofNat (nat_lit 1)))]), (nat_lit 5, nat_lit 0, [(nat_lit 4, (.ofNat (nat_lit 0))), (nat_lit 8, (.ofNat (nat_lit 0))), (nat_lit 0, (.ofNat (nat_lit 0)))]), (nat_lit 6, nat_lit 1, [(nat_lit 8, (.ofNat (nat_lit 0))), (nat_lit 0, (.ofNat (nat_lit 4)))]), (nat_lit 6, nat_lit 2, [(nat_lit 8, (.ofNat (nat_lit 0))), (nat_lit 0, (.ofNat (nat_lit 8)))]), (nat_lit 0, nat_lit 1, [(nat_lit 7, (.ofNat (nat_lit 0))), (nat_lit 0, (.ofNat (nat_lit 1)))]), (nat_lit 5, nat_lit 0, [(nat_lit 4, (.ofNat (nat_lit 0))), (nat_lit 7, (.ofNat (nat_lit 0))), (nat_lit 0, (.ofNat (nat_lit 0)))]), (nat_lit 6, nat_lit 1, [(nat_lit 7, (.ofNat (nat_lit 0))), (nat_lit 0, (.ofNat (nat_lit 4)))]), (nat_lit 6, nat_lit 2, [(nat_lit 7, (.ofNat (nat_lit 0))), (nat_lit 0, (.ofNat (nat_lit 8)))]), (nat_lit 0, nat_lit 1, [(nat_lit 0, (.ofNat (nat_lit 4))), (nat_lit 0, (.ofNat (nat_lit 1)))]), (nat_lit 5, nat_lit 0, [(nat_lit 4, (.ofNat (nat_lit 0))), (nat_lit 0, (.ofNat (nat_lit 4))), (nat_lit 0, (.ofNat (nat_lit 3)))]), (nat_lit 6, nat_lit 0, [(nat_lit 0, (.ofNat (nat_lit 4))), (nat_lit 0, (.ofNat (nat_lit 4)))]), (nat_lit 6, nat_lit 2, [(nat_lit 0, (.ofNat (nat_lit 4))), (nat_lit 0, (.ofNat (nat_lit 8)))]), (nat_lit 6, nat_lit 3, [(nat_lit 6, (.ofNat (nat_lit 0))), (nat_lit 0, (.ofNat (nat_lit 3)))]), (nat_lit 0, nat_lit 1, [(nat_lit 4, (.ofNat (nat_lit 0))), (nat_lit 0, (.ofNat (nat_lit 1)))]), (nat_lit 5, nat_lit 1, [(nat_lit 16, (.ofNat (nat_lit 0))), (nat_lit 5, (.ofNat (nat_lit 0))), (nat_lit 0, (.ofNat (nat_lit 0)))]), (nat_lit 0, nat_lit 1, [(nat_lit 0, (.ofNat (nat_lit 3))), (nat_lit 4, (.ofNat (nat_lit 0)))]), (nat_lit 5, nat_lit 1, [(nat_lit 3, (.ofNat (nat_lit 0))), (nat_lit 4, (.ofNat (nat_lit 0))), (nat_lit 0, (.ofNat (nat_lit 0)))]), (nat_lit 6, nat_lit 2, [(nat_lit 4, (.ofNat (nat_lit 0))), (nat_lit 0, (.ofNat (nat_lit 3)))]), (nat_lit 0, nat_lit 1, [(nat_lit 2, (.ofNat (nat_lit 0))), (nat_lit 0, (.ofNat (nat_lit 1)))]), (nat_lit 5, nat_lit 1, [(nat_lit 16, (.ofNat (nat_lit 0))), (nat_lit 3, (.ofNat (nat_lit 0))), (nat_lit 0, (.ofNat (nat_lit 0)))]), (nat_lit 0, nat_lit 1, [(nat_lit 0, (.ofNat (nat_lit 3))), (nat_lit 2, (.ofNat (nat_lit 0)))]), (nat_lit 5, nat_lit 1, [(nat_lit 3, (.ofNat (nat_lit 0))), (nat_lit 2, (.ofNat (nat_lit 0))), (nat_lit 0, (.ofNat (nat_lit 0)))]), (nat_lit 6, nat_lit 2, [(nat_lit 2, (.ofNat (nat_lit 0))), (nat_lit 0, (.ofNat (nat_lit 3)))]), (nat_lit 0, nat_lit 1, [(nat_lit 0, (.ofNat (nat_lit 0))), (nat_lit 0, (.ofNat (nat_lit 1)))]), (nat_lit 5, nat_lit 1, [(nat_lit 16, (.ofNat (nat_lit 0))), (nat_lit 1, (.ofNat (nat_lit 0))), (nat_lit 0, (.ofNat (nat_lit 0)))]), (nat_lit 0, nat_lit 1, [(nat_lit 0, (.ofNat (nat_lit 3))), (nat_lit 0, (.ofNat (nat_lit 0)))]), (nat_lit 5, nat_lit 1, [(nat_lit 3, (.ofNat (nat_lit 0))), (nat_lit 0, (.ofNat (nat_lit 0))), (nat_lit 0, (.ofNat (nat_lit 0)))]), (nat_lit 6, nat_lit 2, [(nat_lit 0, (.ofNat (nat_lit 0))), (nat_lit 0, (.ofNat (nat_lit 3)))]), (nat_lit 5, nat_lit 0, [(nat_lit 0, (.ofNat (nat_lit 0))), (nat_lit 0, (.ofNat (nat_lit 44))), (nat_lit 0, (.ofNat (nat_lit 0)))]), (nat_lit 5, nat_lit 0, [(nat_lit 0, (.ofNat (nat_lit 0))), (nat_lit 0, (.ofNat (nat_lit 19))), (nat_lit 0, (.ofNat (nat_lit 0)))]), (nat_lit 5, nat_lit 0, [(nat_lit 0, (.ofNat (nat_lit 0))), (nat_lit 0, (.ofNat (nat_lit 18))), (nat_lit 0, (.ofNat (nat_lit 0)))]), (nat_lit 5, nat_lit 0, [(nat_lit 0, (.ofNat (nat_lit 0))), (nat_lit 0, (.ofNat (nat_lit 17))), (nat_lit 0, (.ofNat (nat_lit 0)))]), (nat_lit 5, nat_lit 0, [(nat_lit 0, (.ofNat (nat_lit 0))), (nat_lit 0, (.ofNat (nat_lit 16))), (nat_lit 0, (.ofNat (nat_lit 0)))])],
  [(nat_lit 7, nat_lit 3, []), (nat_lit 6, nat_lit 0, [(nat_lit 9, (.ofNat (nat_lit 0))), (nat_lit 0, (.ofNat (nat_lit 4)))]), (nat_lit 6, nat_lit 2, [(nat_lit 9, (.ofNat (nat_lit 0))), (nat_lit 0, (.ofNat (nat_lit 8)))]), (nat_lit 0, nat_lit 1, [(nat_lit 8, (.ofNat (nat_lit 0))), (nat_lit 0, (.ofNat (nat_lit 1)))]), (nat_lit 5, nat_lit 0, [(nat_lit 4, (.ofNat (nat_lit 0))), (nat_lit 8, (.ofNat (nat_lit 0))), (nat_lit 0, (.ofNat (nat_lit 0)))]), (nat_lit 6, nat_lit 1, [(nat_lit 8, (.ofNat (nat_lit 0))), (nat_lit 0, (.ofNat (nat_lit 4)))]), (nat_lit 6, nat_lit 2, [(nat_lit 8, (.ofNat (nat_lit 0))), (nat_lit 0, (.ofNat (nat_lit 8)))]), (nat_lit 0, nat_lit 1, [(nat_lit 7, (.ofNat (nat_lit 0))), (nat_lit 0, (.ofNat (nat_lit 1)))]), (nat_lit 5, nat_lit 0, [(nat_lit 4, (.ofNat (nat_lit 0))), (nat_lit 7, (.ofNat (nat_lit 0))), (nat_lit 0, (.ofNat (nat_lit 0)))]), (nat_lit 6, nat_lit 1, [(nat_lit 7, (.ofNat (nat_lit 0))), (nat_lit 0, (.ofNat (nat_lit 4)))]), (nat_lit 6, nat_lit 2, [(nat_lit 7, (.ofNat (nat_lit 0))), (nat_lit 0, (.ofNat (nat_lit 8)))]), (nat_lit 0, nat_lit 1, [(nat_lit 0, (.ofNat (nat_lit 4))), (nat_lit 0, (.ofNat (nat_lit 1)))]), (nat_lit 5, nat_lit 0, [(nat_lit 4, (.ofNat (nat_lit 0))), (nat_lit 0, (.ofNat (nat_lit 4))), (nat_lit 0, (.ofNat (nat_lit 3)))]), (nat_lit 6, nat_lit 0, [(nat_lit 0, (.ofNat (nat_lit 4))), (nat_lit 0, (.ofNat (nat_lit 4)))]), (nat_lit 6, nat_lit 2, [(nat_lit 0, (.ofNat (nat_lit 4))), (nat_lit 0, (.ofNat (nat_lit 8)))]), (nat_lit 6, nat_lit 3, [(nat_lit 6, (.ofNat (nat_lit 0))), (nat_lit 0, (.ofNat (nat_lit 3)))]), (nat_lit 0, nat_lit 1, [(nat_lit 4, (.ofNat (nat_lit 0))), (nat_lit 0, (.ofNat (nat_lit 1)))]), (nat_lit 5, nat_lit 1, [(nat_lit 16, (.ofNat (nat_lit 0))), (nat_lit 5, (.ofNat (nat_lit 0))), (nat_lit 0, (.ofNat (nat_lit 0)))]), (nat_lit 0, nat_lit 1, [(nat_lit 0, (.ofNat (nat_lit 3))), (nat_lit 4, (.ofNat (nat_lit 0)))]), (nat_lit 5, nat_lit 1, [(nat_lit 3, (.ofNat (nat_lit 0))), (nat_lit 4, (.ofNat (nat_lit 0))), (nat_lit 0, (.ofNat (nat_lit 0)))]), (nat_lit 6, nat_lit 2, [(nat_lit 4, (.ofNat (nat_lit 0))), (nat_lit 0, (.ofNat (nat_lit 3)))]), (nat_lit 0, nat_lit 1, [(nat_lit 2, (.ofNat (nat_lit 0))), (nat_lit 0, (.ofNat (nat_lit 1)))]), (nat_lit 5, nat_lit 1, [(nat_lit 16, (.ofNat (nat_lit 0))), (nat_lit 3, (.ofNat (nat_lit 0))), (nat_lit 0, (.ofNat (nat_lit 0)))]), (nat_lit 0, nat_lit 1, [(nat_lit 0, (.ofNat (nat_lit 3))), (nat_lit 2, (.ofNat (nat_lit 0)))]), (nat_lit 5, nat_lit 1, [(nat_lit 3, (.ofNat (nat_lit 0))), (nat_lit 2, (.ofNat (nat_lit 0))), (nat_lit 0, (.ofNat (nat_lit 0)))]), (nat_lit 6, nat_lit 2, [(nat_lit 2, (.ofNat (nat_lit 0))), (nat_lit 0, (.ofNat (nat_lit 3)))]), (nat_lit 0, nat_lit 1, [(nat_lit 0, (.ofNat (nat_lit 0))), (nat_lit 0, (.ofNat (nat_lit 1)))]), (nat_lit 5, nat_lit 1, [(nat_lit 16, (.ofNat (nat_lit 0))), (nat_lit 1, (.ofNat (nat_lit 0))), (nat_lit 0, (.ofNat (nat_lit 0)))]), (nat_lit 0, nat_lit 1, [(nat_lit 0, (.ofNat (nat_lit 3))), (nat_lit 0, (.ofNat (nat_lit 0)))]), (nat_lit 5, nat_lit 1, [(nat_lit 3, (.ofNat (nat_lit 0))), (nat_lit 0, (.ofNat (nat_lit 0))), (nat_lit 0, (.ofNat (nat_lit 0)))]), (nat_lit 6, nat_lit 2, [(nat_lit 0, (.ofNat (nat_lit 0))), (nat_lit 0, (.ofNat (nat_lit 3)))]), (nat_lit 5, nat_lit 0, [(nat_lit 0, (.ofNat (nat_lit 0))), (nat_lit 0, (.ofNat (nat_lit 44))), (nat_lit 0, (.ofNat (nat_lit 0)))]), (nat_lit 5, nat_lit 0, [(nat_lit 0, (.ofNat (nat_lit 0))), (nat_lit 0, (.ofNat (nat_lit 19))), (nat_lit 0, (.ofNat (nat_lit 0)))]), (nat_lit 5, nat_lit 0, [(nat_lit 0, (.ofNat (nat_lit 0))), (nat_lit 0, (.ofNat (nat_lit 18))), (nat_lit 0, (.ofNat (nat_lit 0)))]), (nat_lit 5, nat_lit 0, [(nat_lit 0, (.ofNat (nat_lit 0))), (nat_lit 0, (.ofNat (nat_lit 17))), (nat_lit 0, (.ofNat (nat_lit 0)))]), (nat_lit 5, nat_lit 0, [(nat_lit 0, (.ofNat (nat_lit 0))), (nat_lit 0, (.ofNat (nat_lit 16))), (nat_lit 0, (.ofNat (nat_lit 0)))])],
  [(nat_lit 7, nat_lit 3, []), (nat_lit 6, nat_lit 0, [(nat_lit 8, (.ofNat (nat_lit 0))), (nat_lit 0, (.ofNat (nat_lit 4)))]), (nat_lit 6, nat_lit 2, [(nat_lit 8, (.ofNat (nat_lit 0))), (nat_lit 0, (.ofNat (nat_lit 8)))]), (nat_lit 0, nat_lit 1, [(nat_lit 7, (.ofNat (nat_lit 0))), (nat_lit 0, (.ofNat (nat_lit 1)))]), (nat_lit 5, nat_lit 0, [(nat_lit 4, (.ofNat (nat_lit 0))), (nat_lit 7, (.ofNat (nat_lit 0))), (nat_lit 0, (.ofNat (nat_lit 0)))]), (nat_lit 6, nat_lit 1, [(nat_lit 7, (.ofNat (nat_lit 0))), (nat_lit 0, (.ofNat (nat_lit 4)))]), (nat_lit 6, nat_lit 2, [(nat_lit 7, (.ofNat (nat_lit 0))), (nat_lit 0, (.ofNat (nat_lit 8)))]), (nat_lit 0, nat_lit 1, [(nat_lit 0, (.ofNat (nat_lit 4))), (nat_lit 0, (.ofNat (nat_lit 1)))]), (nat_lit 5, nat_lit 0, [(nat_lit 4, (.ofNat (nat_lit 0))), (nat_lit 0, (.ofNat (nat_lit 4))), (nat_lit 0, (.ofNat (nat_lit 3)))]), (nat_lit 6, nat_lit 0, [(nat_lit 0, (.ofNat (nat_lit 4))), (nat_lit 0, (.ofNat (nat_lit 4)))]), (nat_lit 6, nat_lit 2, [(nat_lit 0, (.ofNat (nat_lit 4))), (nat_lit 0, (.ofNat (nat_lit 8)))]), (nat_lit 6, nat_lit 3, [(nat_lit 6, (.ofNat (nat_lit 0))), (nat_lit 0, (.ofNat (nat_lit 3)))]), (nat_lit 0, nat_lit 1, [(nat_lit 4, (.ofNat (nat_lit 0))), (nat_lit 0, (.ofNat (nat_lit 1)))]), (nat_lit 5, nat_lit 1, [(nat_lit 16, (.ofNat (nat_lit 0))), (nat_lit 5, (.ofNat (nat_lit 0))), (nat_lit 0, (.ofNat (nat_lit 0)))]), (nat_lit 0, nat_lit 1, [(nat_lit 0, (.ofNat (nat_lit 3))), (nat_lit 4, (.ofNat (nat_lit 0)))]), (nat_lit 5, nat_lit 1, [(nat_lit 3, (.ofNat (nat_lit 0))), (nat_lit 4, (.ofNat (nat_lit 0))), (nat_lit 0, (.ofNat (nat_lit 0)))]), (nat_lit 6, nat_lit 2, [(nat_lit 4, (.ofNat (nat_lit 0))), (nat_lit 0, (.ofNat (nat_lit 3)))]), (nat_lit 0, nat_lit 1, [(nat_lit 2, (.ofNat (nat_lit 0))), (nat_lit 0, (.ofNat (nat_lit 1)))]), (nat_lit 5, nat_lit 1, [(nat_lit 16, (.ofNat (nat_lit 0))), (nat_lit 3, (.ofNat (nat_lit 0))), (nat_lit 0, (.ofNat (nat_lit 0)))]), (nat_lit 0, nat_lit 1, [(nat_lit 0, (.ofNat (nat_lit 3))), (nat_lit 2, (.ofNat (nat_lit 0)))]), (nat_lit 5, nat_lit 1, [(nat_lit 3, (.ofNat (nat_lit 0))), (nat_lit 2, (.ofNat (nat_lit 0))), (nat_lit 0, (.ofNat (nat_lit 0)))]), (nat_lit 6, nat_lit 2, [(nat_lit 2, (.ofNat (nat_lit 0))), (nat_lit 0, (.ofNat (nat_lit 3)))]), (nat_lit 0, nat_lit 1, [(nat_lit 0, (.ofNat (nat_lit 0))), (nat_lit 0, (.ofNat (nat_lit 1)))]), (nat_lit 5, nat_lit 1, [(nat_lit 16, (.ofNat (nat_lit 0))), (nat_lit 1, (.ofNat (nat_lit 0))), (nat_lit 0, (.ofNat (nat_lit 0)))]), (nat_lit 0, nat_lit 1, [(nat_lit 0, (.ofNat (nat_lit 3))), (nat_lit 0, (.ofNat (nat_lit 0)))]), (nat_lit 5, nat_lit 1, [(nat_lit 3, (.ofNat (nat_lit 0))), (nat_lit 0, (.ofNat (nat_lit 0))), (nat_lit 0, (.ofNat (nat_lit 0)))]), (nat_lit 6, nat_lit 2, [(nat_lit 0, (.ofNat (nat_lit 0))), (nat_lit 0, (.ofNat (nat_lit 3)))]), (nat_lit 5, nat_lit 0, [(nat_lit 0, (.ofNat (nat_lit 0))), (nat_lit 0, (.ofNat (nat_lit 44))), (nat_lit 0, (.ofNat (nat_lit 0)))]), (nat_lit 5, nat_lit 0, [(nat_lit 0, (.ofNat (nat_lit 0))), (nat_lit 0, (.ofNat (nat_lit 19))), (nat_lit 0, (.ofNat (nat_lit 0)))]), (nat_lit 5, nat_lit 0, [(nat_lit 0, (.ofNat (nat_lit 0))), (nat_lit 0, (.ofNat (nat_lit 18))), (nat_lit 0, (.ofNat (nat_lit 0)))]), (nat_lit 5, nat_lit 0, [(nat_lit 0, (.ofNat (nat_lit 0))), (nat_lit 0, (.ofNat (nat_lit 17))), (nat_lit 0, (.ofNat (nat_lit 0)))]), (nat_lit 5, nat_lit 0, [(nat_lit 0, (.ofNat (nat_lit 0))), (nat_lit 0, (.ofNat (nat_lit 16))), (nat_lit 0, (.ofNat (nat_lit 0)))])],
  [(nat_lit 7, nat_lit 3, []), (nat_lit 6, nat_lit 0, [(nat_lit 7, (.ofNat (nat_lit 0))), (nat_lit 0, (.ofNat (nat_lit 4)))]), (nat_lit 6, nat_lit 2, [(nat_lit 7, (.ofNat (nat_lit 0))), (nat_lit 0, (.ofNat (nat_lit 8)))]), (nat_lit 0, nat_lit 1, [(nat_lit 0, (.ofNat (nat_lit 4))), (nat_lit 0, (.ofNat (nat_lit 1)))]), (nat_lit 5, nat_lit 0, [(nat_lit 4, (.ofNat (nat_lit 0))), (nat_lit 0, (.ofNat (nat_lit 4))), (nat_lit 0, (.ofNat (nat_lit 3)))]), (nat_lit 6, nat_lit 0, [(nat_lit 0, (.ofNat (nat_lit 4))), (nat_lit 0, (.ofNat (nat_lit 4)))]), (nat_lit 6, nat_lit 2, [(nat_lit 0, (.ofNat (nat_lit 4))), (nat_lit 0, (.ofNat (nat_lit 8)))]), (nat_lit 6, nat_lit 3, [(nat_lit 6, (.ofNat (nat_lit 0))), (nat_lit 0, (.ofNat (nat_lit 3)))]), (nat_lit 0, nat_lit 1, [(nat_lit 4, (.ofNat (nat_lit 0))), (nat_lit 0, (.ofNat (nat_lit 1)))]), (nat_lit 5, nat_lit 1, [(nat_lit 16, (.ofNat (nat_lit 0))), (nat_lit 5, (.ofNat (nat_lit 0))), (nat_lit 0, (.ofNat (nat_lit 0)))]), (nat_lit 0, nat_lit 1, [(nat_lit 0, (.ofNat (nat_lit 3))), (nat_lit 4, (.ofNat (nat_lit 0)))]), (nat_lit 5, nat_lit 1, [(nat_lit 3, (.ofNat (nat_lit 0))), (nat_lit 4, (.ofNat (nat_lit 0))), (nat_lit 0, (.ofNat (nat_lit 0)))]), (nat_lit 6, nat_lit 2, [(nat_lit 4, (.ofNat (nat_lit 0))), (nat_lit 0, (.ofNat (nat_lit 3)))]), (nat_lit 0, nat_lit 1, [(nat_lit 2, (.ofNat (nat_lit 0))), (nat_lit 0, (.ofNat (nat_lit 1)))]), (nat_lit 5, nat_lit 1, [(nat_lit 16, (.ofNat (nat_lit 0))), (nat_lit 3, (.ofNat (nat_lit 0))), (nat_lit 0, (.ofNat (nat_lit 0)))]), (nat_lit 0, nat_lit 1, [(nat_lit 0, (.ofNat (nat_lit 3))), (nat_lit 2, (.ofNat (nat_lit 0)))]), (nat_lit 5, nat_lit 1, [(nat_lit 3, (.ofNat (nat_lit 0))), (nat_lit 2, (.ofNat (nat_lit 0))), (nat_lit 0, (.ofNat (nat_lit 0)))]), (nat_lit 6, nat_lit 2, [(nat_lit 2, (.ofNat (nat_lit 0))), (nat_lit 0, (.ofNat (nat_lit 3)))]), (nat_lit 0, nat_lit 1, [(nat_lit 0, (.ofNat (nat_lit 0))), (nat_lit 0, (.ofNat (nat_lit 1)))]), (nat_lit 5, nat_lit 1, [(nat_lit 16, (.ofNat (nat_lit 0))), (nat_lit 1, (.ofNat (nat_lit 0))), (nat_lit 0, (.ofNat (nat_lit 0)))]), (nat_lit 0, nat_lit 1, [(nat_lit 0, (.ofNat (nat_lit 3))), (nat_lit 0, (.ofNat (nat_lit 0)))]), (nat_lit 5, nat_lit 1, [(nat_lit 3, (.ofNat (nat_lit 0))), (nat_lit 0, (.ofNat (nat_lit 0))), (nat_lit 0, (.ofNat (nat_lit 0)))]), (nat_lit 6, nat_lit 2, [(nat_lit 0, (.ofNat (nat_lit 0))), (nat_lit 0, (.ofNat (nat_lit 3)))]), (nat_lit 5, nat_lit 0, [(nat_lit 0, (.ofNat (nat_lit 0))), (nat_lit 0, (.ofNat (nat_lit 44))), (nat_lit 0, (.ofNat (nat_lit 0)))]), (nat_lit 5, nat_lit 0, [(nat_lit 0, (.ofNat (nat_lit 0))), (nat_lit 0, (.ofNat (nat_lit 19))), (nat_lit 0, (.ofNat (nat_lit 0)))]), (nat_lit 5, nat_lit 0, [(nat_lit 0, (.ofNat (nat_lit 0))), (nat_lit 0, (.ofNat (nat_lit 18))), (nat_lit 0, (.ofNat (nat_lit 0)))]), (nat_lit 5, nat_lit 0, [(nat_lit 0, (.ofNat (nat_lit 0))), (nat_lit 0, (.ofNat (nat_lit 17))), (nat_lit 0, (.ofNat (nat_lit 0)))]), (nat_lit 5, nat_lit 0, [(nat_lit 0, (.ofNat (nat_lit 0))), (nat_lit 0, (.ofNat (nat_lit 16))), (nat_lit 0, (.ofNat (nat_lit 0)))])],
  [(nat_lit 7, nat_lit 3, []), (nat_lit 6, nat_lit 2, [(nat_lit 6, (.ofNat (nat_lit 0))), (nat_lit 0, (.ofNat (nat_lit 3)))]), (nat_lit 0, nat_lit 1, [(nat_lit 4, (.ofNat (nat_lit 0))), (nat_lit 0, (.ofNat (nat_lit 1)))]), (nat_lit 5, nat_lit 1, [(nat_lit 16, (.ofNat (nat_lit 0))), (nat_lit 5, (.ofNat (nat_lit 0))), (nat_lit 0, (.ofNat (nat_lit 0)))]), (nat_lit 0, nat_lit 1, [(nat_lit 0, (.ofNat (nat_lit 3))), (nat_lit 4, (.ofNat (nat_lit 0)))]), (nat_lit 5, nat_lit 1, [(nat_lit 3, (.ofNat (nat_lit 0))), (nat_lit 4, (.ofNat (nat_lit 0))), (nat_lit 0, (.ofNat (nat_lit 0)))]), (nat_lit 6, nat_lit 2, [(nat_lit 4, (.ofNat (nat_lit 0))), (nat_lit 0, (.ofNat (nat_lit 3)))]), (nat_lit 0, nat_lit 1, [(nat_lit 2, (.ofNat (nat_lit 0))), (nat_lit 0, (.ofNat (nat_lit 1)))]), (nat_lit 5, nat_lit 1, [(nat_lit 16, (.ofNat (nat_lit 0))), (nat_lit 3, (.ofNat (nat_lit 0))), (nat_lit 0, (.ofNat (nat_lit 0)))]), (nat_lit 0, nat_lit 1, [(nat_lit 0, (.ofNat (nat_lit 3))), (nat_lit 2, (.ofNat (nat_lit 0)))]), (nat_lit 5, nat_lit 1, [(nat_lit 3, (.ofNat (nat_lit 0))), (nat_lit 2, (.ofNat (nat_lit 0))), (nat_lit 0, (.ofNat (nat_lit 0)))]), (nat_lit 6, nat_lit 2, [(nat_lit 2, (.ofNat (nat_lit 0))), (nat_lit 0, (.ofNat (nat_lit 3)))]), (nat_lit 0, nat_lit 1, [(nat_lit 0, (.ofNat (nat_lit 0))), (nat_lit 0, (.ofNat (nat_lit 1)))]), (nat_lit 5, nat_lit 1, [(nat_lit 16, (.ofNat (nat_lit 0))), (nat_lit 1, (.ofNat (nat_lit 0))), (nat_lit 0, (.ofNat (nat_lit 0)))]), (nat_lit 0, nat_lit 1, [(nat_lit 0, (.ofNat (nat_lit 3))), (nat_lit 0, (.ofNat (nat_lit 0)))]), (nat_lit 5, nat_lit 1, [(nat_lit 3, (.ofNat (nat_lit 0))), (nat_lit 0, (.ofNat (nat_lit 0))), (nat_lit 0, (.ofNat (nat_lit 0)))]), (nat_lit 6, nat_lit 2, [(nat_lit 0, (.ofNat (nat_lit 0))), (nat_lit 0, (.ofNat (nat_lit 3)))]), (nat_lit 5, nat_lit 0, [(nat_lit 0, (.ofNat (nat_lit 0))), (nat_lit 0, (.ofNat (nat_lit 44))), (nat_lit 0, (.ofNat (nat_lit 0)))]), (nat_lit 5, nat_lit 0, [(nat_lit 0, (.ofNat (nat_lit 0))), (nat_lit 0, (.ofNat (nat_lit 19))), (nat_lit 0, (.ofNat (nat_lit 0)))]), (nat_lit 5, nat_lit 0, [(nat_lit 0, (.ofNat (nat_lit 0))), (nat_lit 0, (.ofNat (nat_lit 18))), (nat_lit 0, (.ofNat (nat_lit 0)))]), (nat_lit 5, nat_lit 0, [(nat_lit 0, (.ofNat (nat_lit 0))), (nat_lit 0, (.ofNat (nat_lit 17))), (nat_lit 0, (.ofNat (nat_lit 0)))]), (nat_lit 5, nat_lit 0, [(nat_lit 0, (.ofNat (nat_lit 0))), (nat_lit 0, (.ofNat (nat_lit 16))), (nat_lit 0, (.ofNat (nat_lit 0)))])]]
def zEne_plain : List (List zK) := [[(nat_lit 11, nat_lit 0, [(nat_lit 0, (.ofNat (nat_lit 0)))]), (nat_lit 6, nat_lit 3, [(nat_lit 10, (.ofNat (nat_lit 0))), (nat_lit 0, (.ofNat (nat_lit 8)))]), (nat_lit 0, nat_lit 1, [(nat_lit 9, (.ofNat (nat_lit 0))), (nat_lit 0, (.ofNat (nat_lit 1)))]), (nat_lit 5, nat_lit 0, [(nat_lit 4, (.ofNat (nat_lit 0))), (nat_lit 9, (.ofNat (nat_lit 0))), (nat_lit 0, (.ofNat (nat_lit 0)))]), (nat_lit 6, nat_lit 1, [(nat_lit 9, (.ofNat (nat_lit 0))), (nat_lit 0, (.ofNat (nat_lit 4)))]), (nat_lit 6, nat_lit 2, [(nat_lit 9, (.ofNat (nat_lit 0))), (nat_lit 0, (.ofNat (nat_lit 8)))]), (nat_lit 0, nat_lit 1, [(nat_lit 8, (.ofNat (nat_lit 0))), (nat_lit 0, (.ofNat (nat_lit 1)))]), (nat_lit 5, nat_lit 0, [(nat_lit 4, (.ofNat (nat_lit 0))), (nat_lit 8, (.ofNat (nat_lit 0))), (nat_lit 0, (.ofNat (nat_lit 0)))]), (nat_lit 6, nat_lit 1, [(nat_lit 8, (.ofNat (nat_lit 0))), (nat_lit 0, (.ofNat (nat_lit 4)))]), (nat_lit 6, nat_lit 2, [(nat_lit 8, (.ofNat (nat_lit 0))), (nat_lit 0, (.ofNat (nat_lit 8)))]), (nat_lit 0, nat_lit 1, [(nat_lit 7, (.ofNat (nat_lit 0))), (nat_lit 0, (.ofNat (nat_lit 1)))]), (nat_lit 5, nat_lit 0, [(nat_lit 4, (.ofNat (nat_lit 0))), (nat_lit 7, (.ofNat (nat_lit 0))), (nat_lit 0, (.ofNat (nat_lit 0)))]), (nat_lit 6, nat_lit 1, [(nat_lit 7, (.ofNat (nat_lit 0))), (nat_lit 0, (.ofNat (nat_lit 4)))]), (nat_lit 6, nat_lit 2, [(nat_lit 7, (.ofNat (nat_lit 0))), (nat_lit 0, (.ofNat (nat_lit 8)))]), (nat_lit 0, nat_lit 1, [(nat_lit 0, (.ofNat (nat_lit 4))), (nat_lit 0, (.ofNat (nat_lit 1)))]), (nat_lit 5, nat_lit 0, [(nat_lit 4, (.ofNat (nat_lit 0))), (nat_lit 0, (.ofNat (nat_lit 4))), (nat_lit 0, (.ofNat (nat_lit 3)))]), (nat_lit 6, nat_lit 0, [(nat_lit 0, (.ofNat (nat_lit 4))), (nat_lit 0, (.ofNat (nat_lit 4)))]), (nat_lit 6, nat_lit 2, [(nat_lit 0, (.ofNat (nat_lit 4))), (nat_lit 0, (.ofNat (nat_lit 8)))]), (nat_lit 6, nat_lit 3, [(nat_lit 6, (.ofNat (nat_lit 0))), (nat_lit 0, (.ofNat (nat_lit 3)))]), (nat_lit 0, nat_lit 1, [(nat_lit 4, (.ofNat (nat_lit 0))), (nat_lit 0, (.ofNat (nat_lit 1)))]), (nat_lit 5, nat_lit 1, [(nat_lit 16, (.ofNat (nat_lit 0))), (nat_lit 5, (.ofNat (nat_lit 0))), (nat_lit 0, (.ofNat (nat_lit 0)))]), (nat_lit 0, nat_lit 1, [(nat_lit 0, (.ofNat (nat_lit 3))), (nat_lit 4, (.ofNat (nat_lit 0)))]), (nat_lit 5, nat_lit 1, [(nat_lit 3, (.ofNat (nat_lit 0))), (nat_lit 4, (.ofNat (nat_lit 0))), (nat_lit 0, (.ofNat (nat_lit 0)))]), (nat_lit 6, nat_lit 2, [(nat_lit 4, (.ofNat (nat_lit 0))), (nat_lit 0, (.ofNat (nat_lit 3)))]), (nat_lit 0, nat_lit 1, [(nat_lit 2, (.ofNat (nat_lit 0))), (nat_lit 0, (.ofNat (nat_lit 1)))]), (nat_lit 5, nat_lit 1, [(nat_lit 16, (.ofNat (nat_lit 0))), (nat_lit 3, (.ofNat (nat_lit 0))), (nat_lit 0, (.ofNat (nat_lit 0)))]), (nat_lit 0, nat_lit 1, [(nat_lit 0, (.ofNat (nat_lit 3))), (nat_lit 2, (.ofNat (nat_lit 0)))]), (nat_lit 5, nat_lit 1, [(nat_lit 3, (.ofNat (nat_lit 0))), (nat_lit 2, (.ofNat (nat_lit 0))), (nat_lit 0, (.ofNat (nat_lit 0)))]), (nat_lit 6, nat_lit 2, [(nat_lit 2, (.ofNat (nat_lit 0))), (nat_lit 0, (.ofNat (nat_lit 3)))]), (nat_lit 0, nat_lit 1, [(nat_lit 0, (.ofNat (nat_lit 0))), (nat_lit 0, (.ofNat (nat_lit 1)))]), (nat_lit 5, nat_lit 1, [(nat_lit 16, (.ofNat (nat_lit 0))), (nat_lit 1, (.ofNat (nat_lit 0))), (nat_lit 0, (.ofNat (nat_lit 0)))]), (nat_lit 0, nat_lit 1, [(nat_lit 0, (.ofNat (nat_lit 3))), (nat_lit 0, (.ofNat (nat_lit 0)))]), (nat_lit 5, nat_lit 1, [(nat_lit 3, (.ofNat (nat_lit 0))), (nat_lit 0, (.ofNat (nat_lit 0))), (nat_lit 0, (.ofNat (nat_lit 0)))]), (nat_lit 6, nat_lit 2, [(nat_lit 0, (.ofNat (nat_lit 0))), (nat_lit 0, (.ofNat (nat_lit 3)))]), (nat_lit 5, nat_lit 0, [(nat_lit 0, (.ofNat (nat_lit 0))), (nat_lit 0, (.ofNat (nat_lit 44))), (nat_lit 0, (.ofNat (nat_lit 0)))]), (nat_lit 5, nat_lit 0, [(nat_lit 0, (.ofNat (nat_lit 0))), (nat_lit 0, (.ofNat (nat_lit 19))), (nat_lit 0, (.ofNat (nat_lit 0)))]), (nat_lit 5, nat_lit 0, [(nat_lit 0, (.ofNat (nat_lit 0))), (nat_lit 0, (.ofNat (nat_lit 18))), (nat_lit 0, (.ofNat (nat_lit 0)))]), (nat_lit 5, nat_lit 0, [(nat_lit 0, (.ofNat (nat_lit 0))), (nat_lit 0, (.ofNat (nat_lit 17))), (nat_lit 0, (.ofNat (nat_lit 0)))]), (nat_lit 5, nat_lit 0, [(nat_lit 0, (.ofNat (nat_lit 0))), (nat_lit 0, (.ofNat (nat_lit 16))), (nat_lit 0, (.ofNat (nat_lit 0)))])]]
def zFne_plain : List (List zK) := []
set_option maxHeartbeats 8000000 in
theorem zne_plain_o0 {ro : Nat → List Int32} (η : zE) (hp : sP wl_ne zTr zPne_plain [] η) (hpp : pPne_plain [] η) : ∀ η1 : zE, η1 = zup η 0 (Int.toNat 16) 0 → ∀ η2 : zE, η2 = zup η1 0 (Int.toNat 17) 0 → ∀ η3 : zE, η3 = zup η2 0 (Int.toNat 18) 0 → ∀ η4 : zE, η4 = zup η3 0 (Int.toNat 19) 0 → ∀ η5 : zE, η5 = zup η4 0 (Int.toNat 44) 0 → ((0 : Int) < (3 : Int)) → ∀ η6 : zE, η6 = zup η5 3 (Int.toNat 0) 0 → ∀ x1 : Int, x1 = zd 0 1 3 0 → ∀ η7 : zE, η7 = zup η6 16 (Int.toNat x1) 0 → ∀ x2 : Int, x2 = zd 0 1 0 1 → (x2 < 3) → ∀ η8 : zE, η8 = zup η7 3 (Int.toNat x2) 0 → ∀ x3 : Int, x3 = zd 0 1 3 x2 → ∀ η9 : zE, η9 = zup η8 16 (Int.toNat x3) 0 → ∀ x4 : Int, x4 = zd 0 1 x2 1 → (x4 < 3) → ∀ η10 : zE, η10 = zup η9 3 (Int.toNat x4) 0 → ∀ x5 : Int, x5 = zd 0 1 3 x4 → ∀ η11 : zE, η11 = zup η10 16 (Int.toNat x5) 0 → ∀ x6 : Int, x6 = zd 0 1 x4 1 → (3 ≤ x6) → ((4 : Int) < (8 : Int)) → ((4 : Int) = (4 : Int)) → ∀ η12 : zE, η12 = zup η11 4 (Int.toNat 4) 3 → ∀ x7 : Int, x7 = zd 0 1 4 1 → (x7 < 8) → (¬ x7 = 4) → ∀ η13 : zE, η13 = zup η12 4 (Int.toNat x7) 0 → ∀ x8 : Int, x8 = zd 0 1 x7 1 → (x8 < 8) → (¬ x8 = 4) → ∀ η14 : zE, η14 = zup η13 4 (Int.toNat x8) 0 → ∀ x9 : Int, x9 = zd 0 1 x8 1 → (x9 < 8) → (¬ x9 = 4) → ∀ η15 : zE, η15 = zup η14 4 (Int.toNat x9) 0 → ∀ x10 : Int, x10 = zd 0 1 x9 1 → (8 ≤ x10) → (fun (_ : Nat) (y : Int) (η' : zE) => pQne_plain [] η y η') 0 0 η15 := by
  intro η1 eη1 η2 eη2 η3 eη3 η4 eη4 η5 eη5 c1 η6 eη6 x1 e1 η7 eη7 x2 e2 c2 η8 eη8 x3 e3 η9 eη9 x4 e4 c3 η10 eη10 x5 e5 η11 eη11 x6 e6 c4 c5 c6 η12 eη12 x7 e7 c7 c8 η13 eη13 x8 e8 c9 c10 η14 eη14 x9 e9 c11 c12 η15 eη15 x10 e10 c13
  refine yj_a ?_ ?_
  · replace e1 := zEq_i e1
    replace e2 := zEq_i e2
    replace e3 := zEq_i e3
    replace e4 := zEq_i e4
    replace e5 := zEq_i e5
    replace e6 := zEq_i e6
    replace e7 := zEq_i e7
    replace e8 := zEq_i e8
    replace e9 := zEq_i e9
    replace e10 := zEq_i e10
    have w0_0_19 : (0 : Int) ≤ η 0 19 ∧ η 0 19 ≤ 64 := wf_ok (a := 19) (b := 19) (z := (0, 64)) hp.1 (by decide +kernel) (Nat.le_refl _) (Nat.le_refl _)
    have v1 : zEq (η1 0 19) (η 0 19) := by rw [eη1]; exact (zup_ne (fun _ e => absurd e (by decide))).trans rfl
    have v2 : zEq (η2 0 19) (η 0 19) := by rw [eη2]; exact (zup_ne (fun _ e => absurd e (by decide))).trans v1
    have v3 : zEq (η3 0 19) (η 0 19) := by rw [eη3]; exact (zup_ne (fun _ e => absurd e (by decide))).trans v2
    have c3_0_19 : η3 0 19 = η 0 19 := v3
    have w0_0_44 : (0 : Int) ≤ η 0 44 ∧ η 0 44 ≤ 64 := wf_ok (a := 44) (b := 44) (z := (0, 64)) hp.1 (by decide +kernel) (Nat.le_refl _) (Nat.le_refl _)
    have v5 : zEq (η1 0 44) (η 0 44) := by rw [eη1]; exact (zup_ne (fun _ e => absurd e (by decide))).trans rfl
    have v6 : zEq (η2 0 44) (η 0 44) := by rw [eη2]; exact (zup_ne (fun _ e => absurd e (by decide))).trans v5
    have v7 : zEq (η3 0 44) (η 0 44) := by rw [eη3]; exact (zup_ne (fun _ e => absurd e (by decide))).trans v6
    have v8 : zEq (η4 0 44) (η 0 44) := by rw [eη4]; exact (zup_ne (fun _ e => absurd e (by decide))).trans v7
    have c4_0_44 : η4 0 44 = η 0 44 := v8
    first
    | replace e1 : x1 = 3 + 0 := zd_a2 (zEq_o e1) (by clear e1; exact ⟨by omega, by omega⟩)
    | clear e1
    have z1 : x1 = 3 := by omega
    rw [z1] at eη7
    have v10 : zEq (η1 16 3) (η 16 3) := by rw [eη1]; exact (zup_ne (fun e _ => absurd e (by decide))).trans rfl
    have v11 : zEq (η2 16 3) (η 16 3) := by rw [eη2]; exact (zup_ne (fun e _ => absurd e (by decide))).trans v10
    have v12 : zEq (η3 16 3) (η 16 3) := by rw [eη3]; exact (zup_ne (fun e _ => absurd e (by decide))).trans v11
    have v13 : zEq (η4 16 3) (η 16 3) := by rw [eη4]; exact (zup_ne (fun e _ => absurd e (by decide))).trans v12
    have v14 : zEq (η5 16 3) (η 16 3) := by rw [eη5]; exact (zup_ne (fun e _ => absurd e (by decide))).trans v13
    have v15 : zEq (η6 16 3) (η 16 3) := by rw [eη6]; exact (zup_ne (fun e _ => absurd e (by decide))).trans v14
    have c6_16_3 : η6 16 3 = η 16 3 := v15
    first
    | replace e2 : x2 = 0 + 1 := zd_a2 (zEq_o e2) (by clear e2; exact ⟨by omega, by omega⟩)
    | clear e2
    have z2 : x2 = 1 := by omega
    rw [z2] at eη8
    first
    | replace e3 : x3 = 3 + x2 := zd_a2 (zEq_o e3) (by clear e3; exact ⟨by omega, by omega⟩)
    | clear e3
    have z3 : x3 = 4 := by omega
    rw [z3] at eη9
    have v17 : zEq (η1 16 4) (η 16 4) := by rw [eη1]; exact (zup_ne (fun e _ => absurd e (by decide))).trans rfl
    have v18 : zEq (η2 16 4) (η 16 4) := by rw [eη2]; exact (zup_ne (fun e _ => absurd e (by decide))).trans v17
    have v19 : zEq (η3 16 4) (η 16 4) := by rw [eη3]; exact (zup_ne (fun e _ => absurd e (by decide))).trans v18
    have v20 : zEq (η4 16 4) (η 16 4) := by rw [eη4]; exact (zup_ne (fun e _ => absurd e (by decide))).trans v19
    have v21 : zEq (η5 16 4) (η 16 4) := by rw [eη5]; exact (zup_ne (fun e _ => absurd e (by decide))).trans v20
    have v22 : zEq (η6 16 4) (η 16 4) := by rw [eη6]; exact (zup_ne (fun e _ => absurd e (by decide))).trans v21
    have v23 : zEq (η7 16 4) (η 16 4) := by rw [eη7]; exact (zup_ne (fun _ e => absurd e (by decide))).trans v22
    have v24 : zEq (η8 16 4) (η 16 4) := by rw [eη8]; exact (zup_ne (fun e _ => absurd e (by decide))).trans v23
    have c8_16_4 : η8 16 4 = η 16 4 := v24
    first
    | replace e4 : x4 = x2 + 1 := zd_a2 (zEq_o e4) (by clear e4; exact ⟨by omega, by omega⟩)
    | clear e4
    have z4 : x4 = 2 := by omega
    rw [z4] at eη10
    first
    | replace e5 : x5 = 3 + x4 := zd_a2 (zEq_o e5) (by clear e5; exact ⟨by omega, by omega⟩)
    | clear e5
    have z5 : x5 = 5 := by omega
    rw [z5] at eη11
    have v26 : zEq (η1 16 5) (η 16 5) := by rw [eη1]; exact (zup_ne (fun e _ => absurd e (by decide))).trans rfl
    have v27 : zEq (η2 16 5) (η 16 5) := by rw [eη2]; exact (zup_ne (fun e _ => absurd e (by decide))).trans v26
    have v28 : zEq (η3 16 5) (η 16 5) := by rw [eη3]; exact (zup_ne (fun e _ => absurd e (by decide))).trans v27
    have v29 : zEq (η4 16 5) (η 16 5) := by rw [eη4]; exact (zup_ne (fun e _ => absurd e (by decide))).trans v28
    have v30 : zEq (η5 16 5) (η 16 5) := by rw [eη5]; exact (zup_ne (fun e _ => absurd e (by decide))).trans v29
    have v31 : zEq (η6 16 5) (η 16 5) := by rw [eη6]; exact (zup_ne (fun e _ => absurd e (by decide))).trans v30
    have v32 : zEq (η7 16 5) (η 16 5) := by rw [eη7]; exact (zup_ne (fun _ e => absurd e (by decide))).trans v31
    have v33 : zEq (η8 16 5) (η 16 5) := by rw [eη8]; exact (zup_ne (fun e _ => absurd e (by decide))).trans v32
    have v34 : zEq (η9 16 5) (η 16 5) := by rw [eη9]; exact (zup_ne (fun _ e => absurd e (by decide))).trans v33
    have v35 : zEq (η10 16 5) (η 16 5) := by rw [eη10]; exact (zup_ne (fun e _ => absurd e (by decide))).trans v34
    have c10_16_5 : η10 16 5 = η 16 5 := v35
    first
    | replace e6 : x6 = x4 + 1 := zd_a2 (zEq_o e6) (by clear e6; exact ⟨by omega, by omega⟩)
    | clear e6
    have z6 : x6 = 3 := by omega
    first
    | replace e7 : x7 = 4 + 1 := zd_a2 (zEq_o e7) (by clear e7; exact ⟨by omega, by omega⟩)
    | clear e7
    have z7 : x7 = 5 := by omega
    rw [z7] at eη13
    first
    | replace e8 : x8 = x7 + 1 := zd_a2 (zEq_o e8) (by clear e8; exact ⟨by omega, by omega⟩)
    | clear e8
    have z8 : x8 = 6 := by omega
    rw [z8] at eη14
    first
    | replace e9 : x9 = x8 + 1 := zd_a2 (zEq_o e9) (by clear e9; exact ⟨by omega, by omega⟩)
    | clear e9
    have z9 : x9 = 7 := by omega
    rw [z9] at eη15
    first
    | replace e10 : x10 = x9 + 1 := zd_a2 (zEq_o e10) (by clear e10; exact ⟨by omega, by omega⟩)
    | clear e10
    have z10 : x10 = 8 := by omega
    have fm1 : zFm zMne_plain η η1 := by rw [eη1]; exact zFm_up zFm_rf rfl
    have fm2 : zFm zMne_plain η η2 := by rw [eη2]; exact zFm_up fm1 rfl
    have fm3 : zFm zMne_plain η η3 := by rw [eη3]; exact zFm_up fm2 rfl
    have fm4 : zFm zMne_plain η η4 := by rw [eη4]; exact zFm_up fm3 rfl
    have fm5 : zFm zMne_plain η η5 := by rw [eη5]; exact zFm_up fm4 rfl
    have fm6 : zFm zMne_plain η η6 := by rw [eη6]; exact zFm_up fm5 rfl
    have fm7 : zFm zMne_plain η η7 := by rw [eη7]; exact zFm_up fm6 rfl
    have fm8 : zFm zMne_plain η η8 := by rw [eη8]; exact zFm_up fm7 rfl
    have fm9 : zFm zMne_plain η η9 := by rw [eη9]; exact zFm_up fm8 rfl
    have fm10 : zFm zMne_plain η η10 := by rw [eη10]; exact zFm_up fm9 rfl
    have fm11 : zFm zMne_plain η η11 := by rw [eη11]; exact zFm_up fm10 rfl
    have fm12 : zFm zMne_plain η η12 := by rw [eη12]; exact zFm_up fm11 rfl
    have fm13 : zFm zMne_plain η η13 := by rw [eη13]; exact zFm_up fm12 rfl
    have fm14 : zFm zMne_plain η η14 := by rw [eη14]; exact zFm_up fm13 rfl
    have fm15 : zFm zMne_plain η η15 := by rw [eη15]; exact zFm_up fm14 rfl
    have fmE : zFm zMne_plain η η15 := fm15
    have v36 : ∀ j, η1 18 j = η 18 j := fun j => by rw [eη1]; exact zup_ne (fun e _ => absurd e (by decide))
    have v37 : ∀ j, η2 18 j = η 18 j := fun j => by rw [eη2]; exact (zup_ne (fun e _ => absurd e (by decide))).trans (v36 j)
    have v38 : ∀ j, η3 18 j = η 18 j := fun j => by rw [eη3]; exact (zup_ne (fun e _ => absurd e (by decide))).trans (v37 j)
    have v39 : ∀ j, η4 18 j = η 18 j := fun j => by rw [eη4]; exact (zup_ne (fun e _ => absurd e (by decide))).trans (v38 j)
    have v40 : ∀ j, η5 18 j = η 18 j := fun j => by rw [eη5]; exact (zup_ne (fun e _ => absurd e (by decide))).trans (v39 j)
    have v41 : ∀ j, η6 18 j = η 18 j := fun j => by rw [eη6]; exact (zup_ne (fun e _ => absurd e (by decide))).trans (v40 j)
    have v42 : ∀ j, η7 18 j = η 18 j := fun j => by rw [eη7]; exact (zup_ne (fun e _ => absurd e (by decide))).trans (v41 j)
    have v43 : ∀ j, η8 18 j = η 18 j := fun j => by rw [eη8]; exact (zup_ne (fun e _ => absurd e (by decide))).trans (v42 j)
    have v44 : ∀ j, η9 18 j = η 18 j := fun j => by rw [eη9]; exact (zup_ne (fun e _ => absurd e (by decide))).trans (v43 j)
    have v45 : ∀ j, η10 18 j = η 18 j := fun j => by rw [eη10]; exact (zup_ne (fun e _ => absurd e (by decide))).trans (v44 j)
    have v46 : ∀ j, η11 18 j = η 18 j := fun j => by rw [eη11]; exact (zup_ne (fun e _ => absurd e (by decide))).trans (v45 j)
    have v47 : ∀ j, η12 18 j = η 18 j := fun j => by rw [eη12]; exact (zup_ne (fun e _ => absurd e (by decide))).trans (v46 j)
    have v48 : ∀ j, η13 18 j = η 18 j := fun j => by rw [eη13]; exact (zup_ne (fun e _ => absurd e (by decide))).trans (v47 j)
    have v49 : ∀ j, η14 18 j = η 18 j := fun j => by rw [eη14]; exact (zup_ne (fun e _ => absurd e (by decide))).trans (v48 j)
    have v50 : ∀ j, η15 18 j = η 18 j := fun j => by rw [eη15]; exact (zup_ne (fun e _ => absurd e (by decide))).trans (v49 j)
    have fr18 : ∀ j, η15 18 j = η 18 j := v50
    have v51 : zEq (η4 0 19) (0) := by rw [eη4]; exact zup_eq
    have v52 : zEq (η5 0 19) (0) := by rw [eη5]; exact (zup_ne (fun _ e => absurd e (by decide))).trans v51
    have v53 : zEq (η6 0 19) (0) := by rw [eη6]; exact (zup_ne (fun e _ => absurd e (by decide))).trans v52
    have v54 : zEq (η7 0 19) (0) := by rw [eη7]; exact (zup_ne (fun e _ => absurd e (by decide))).trans v53
    have v55 : zEq (η8 0 19) (0) := by rw [eη8]; exact (zup_ne (fun e _ => absurd e (by decide))).trans v54
    have v56 : zEq (η9 0 19) (0) := by rw [eη9]; exact (zup_ne (fun e _ => absurd e (by decide))).trans v55
    have v57 : zEq (η10 0 19) (0) := by rw [eη10]; exact (zup_ne (fun e _ => absurd e (by decide))).trans v56
    have v58 : zEq (η11 0 19) (0) := by rw [eη11]; exact (zup_ne (fun e _ => absurd e (by decide))).trans v57
    have v59 : zEq (η12 0 19) (0) := by rw [eη12]; exact (zup_ne (fun e _ => absurd e (by decide))).trans v58
    have v60 : zEq (η13 0 19) (0) := by rw [eη13]; exact (zup_ne (fun e _ => absurd e (by decide))).trans v59
    have v61 : zEq (η14 0 19) (0) := by rw [eη14]; exact (zup_ne (fun e _ => absurd e (by decide))).trans v60
    have v62 : zEq (η15 0 19) (0) := by rw [eη15]; exact (zup_ne (fun e _ => absurd e (by decide))).trans v61
    have f0_19 : η15 0 19 = 0 := v62
    have v63 : zEq (η5 0 44) (0) := by rw [eη5]; exact zup_eq
    have v64 : zEq (η6 0 44) (0) := by rw [eη6]; exact (zup_ne (fun e _ => absurd e (by decide))).trans v63
    have v65 : zEq (η7 0 44) (0) := by rw [eη7]; exact (zup_ne (fun e _ => absurd e (by decide))).trans v64
    have v66 : zEq (η8 0 44) (0) := by rw [eη8]; exact (zup_ne (fun e _ => absurd e (by decide))).trans v65
    have v67 : zEq (η9 0 44) (0) := by rw [eη9]; exact (zup_ne (fun e _ => absurd e (by decide))).trans v66
    have v68 : zEq (η10 0 44) (0) := by rw [eη10]; exact (zup_ne (fun e _ => absurd e (by decide))).trans v67
    have v69 : zEq (η11 0 44) (0) := by rw [eη11]; exact (zup_ne (fun e _ => absurd e (by decide))).trans v68
    have v70 : zEq (η12 0 44) (0) := by rw [eη12]; exact (zup_ne (fun e _ => absurd e (by decide))).trans v69
    have v71 : zEq (η13 0 44) (0) := by rw [eη13]; exact (zup_ne (fun e _ => absurd e (by decide))).trans v70
    have v72 : zEq (η14 0 44) (0) := by rw [eη14]; exact (zup_ne (fun e _ => absurd e (by decide))).trans v71
    have v73 : zEq (η15 0 44) (0) := by rw [eη15]; exact (zup_ne (fun e _ => absurd e (by decide))).trans v72
    have f0_44 : η15 0 44 = 0 := v73
    have v75 : zEq (η1 16 0) (η 16 0) := by rw [eη1]; exact (zup_ne (fun e _ => absurd e (by decide))).trans rfl
    have v76 : zEq (η2 16 0) (η 16 0) := by rw [eη2]; exact (zup_ne (fun e _ => absurd e (by decide))).trans v75
    have v77 : zEq (η3 16 0) (η 16 0) := by rw [eη3]; exact (zup_ne (fun e _ => absurd e (by decide))).trans v76
    have v78 : zEq (η4 16 0) (η 16 0) := by rw [eη4]; exact (zup_ne (fun e _ => absurd e (by decide))).trans v77
    have v79 : zEq (η5 16 0) (η 16 0) := by rw [eη5]; exact (zup_ne (fun e _ => absurd e (by decide))).trans v78
    have v80 : zEq (η6 16 0) (η 16 0) := by rw [eη6]; exact (zup_ne (fun e _ => absurd e (by decide))).trans v79
    have v81 : zEq (η7 16 0) (η 16 0) := by rw [eη7]; exact (zup_ne (fun _ e => absurd e (by decide))).trans v80
    have v82 : zEq (η8 16 0) (η 16 0) := by rw [eη8]; exact (zup_ne (fun e _ => absurd e (by decide))).trans v81
    have v83 : zEq (η9 16 0) (η 16 0) := by rw [eη9]; exact (zup_ne (fun _ e => absurd e (by decide))).trans v82
    have v84 : zEq (η10 16 0) (η 16 0) := by rw [eη10]; exact (zup_ne (fun e _ => absurd e (by decide))).trans v83
    have v85 : zEq (η11 16 0) (η 16 0) := by rw [eη11]; exact (zup_ne (fun _ e => absurd e (by decide))).trans v84
    have v86 : zEq (η12 16 0) (η 16 0) := by rw [eη12]; exact (zup_ne (fun e _ => absurd e (by decide))).trans v85
    have v87 : zEq (η13 16 0) (η 16 0) := by rw [eη13]; exact (zup_ne (fun e _ => absurd e (by decide))).trans v86
    have v88 : zEq (η14 16 0) (η 16 0) := by rw [eη14]; exact (zup_ne (fun e _ => absurd e (by decide))).trans v87
    have v89 : zEq (η15 16 0) (η 16 0) := by rw [eη15]; exact (zup_ne (fun e _ => absurd e (by decide))).trans v88
    have f16_0 : η15 16 0 = η 16 0 := v89
    have v91 : zEq (η1 16 1) (η 16 1) := by rw [eη1]; exact (zup_ne (fun e _ => absurd e (by decide))).trans rfl
    have v92 : zEq (η2 16 1) (η 16 1) := by rw [eη2]; exact (zup_ne (fun e _ => absurd e (by decide))).trans v91
    have v93 : zEq (η3 16 1) (η 16 1) := by rw [eη3]; exact (zup_ne (fun e _ => absurd e (by decide))).trans v92
    have v94 : zEq (η4 16 1) (η 16 1) := by rw [eη4]; exact (zup_ne (fun e _ => absurd e (by decide))).trans v93
    have v95 : zEq (η5 16 1) (η 16 1) := by rw [eη5]; exact (zup_ne (fun e _ => absurd e (by decide))).trans v94
    have v96 : zEq (η6 16 1) (η 16 1) := by rw [eη6]; exact (zup_ne (fun e _ => absurd e (by decide))).trans v95
    have v97 : zEq (η7 16 1) (η 16 1) := by rw [eη7]; exact (zup_ne (fun _ e => absurd e (by decide))).trans v96
    have v98 : zEq (η8 16 1) (η 16 1) := by rw [eη8]; exact (zup_ne (fun e _ => absurd e (by decide))).trans v97
    have v99 : zEq (η9 16 1) (η 16 1) := by rw [eη9]; exact (zup_ne (fun _ e => absurd e (by decide))).trans v98
    have v100 : zEq (η10 16 1) (η 16 1) := by rw [eη10]; exact (zup_ne (fun e _ => absurd e (by decide))).trans v99
    have v101 : zEq (η11 16 1) (η 16 1) := by rw [eη11]; exact (zup_ne (fun _ e => absurd e (by decide))).trans v100
    have v102 : zEq (η12 16 1) (η 16 1) := by rw [eη12]; exact (zup_ne (fun e _ => absurd e (by decide))).trans v101
    have v103 : zEq (η13 16 1) (η 16 1) := by rw [eη13]; exact (zup_ne (fun e _ => absurd e (by decide))).trans v102
    have v104 : zEq (η14 16 1) (η 16 1) := by rw [eη14]; exact (zup_ne (fun e _ => absurd e (by decide))).trans v103
    have v105 : zEq (η15 16 1) (η 16 1) := by rw [eη15]; exact (zup_ne (fun e _ => absurd e (by decide))).trans v104
    have f16_1 : η15 16 1 = η 16 1 := v105
    have v107 : zEq (η1 16 2) (η 16 2) := by rw [eη1]; exact (zup_ne (fun e _ => absurd e (by decide))).trans rfl
    have v108 : zEq (η2 16 2) (η 16 2) := by rw [eη2]; exact (zup_ne (fun e _ => absurd e (by decide))).trans v107
    have v109 : zEq (η3 16 2) (η 16 2) := by rw [eη3]; exact (zup_ne (fun e _ => absurd e (by decide))).trans v108
    have v110 : zEq (η4 16 2) (η 16 2) := by rw [eη4]; exact (zup_ne (fun e _ => absurd e (by decide))).trans v109
    have v111 : zEq (η5 16 2) (η 16 2) := by rw [eη5]; exact (zup_ne (fun e _ => absurd e (by decide))).trans v110
    have v112 : zEq (η6 16 2) (η 16 2) := by rw [eη6]; exact (zup_ne (fun e _ => absurd e (by decide))).trans v111
    have v113 : zEq (η7 16 2) (η 16 2) := by rw [eη7]; exact (zup_ne (fun _ e => absurd e (by decide))).trans v112
    have v114 : zEq (η8 16 2) (η 16 2) := by rw [eη8]; exact (zup_ne (fun e _ => absurd e (by decide))).trans v113
    have v115 : zEq (η9 16 2) (η 16 2) := by rw [eη9]; exact (zup_ne (fun _ e => absurd e (by decide))).trans v114
    have v116 : zEq (η10 16 2) (η 16 2) := by rw [eη10]; exact (zup_ne (fun e _ => absurd e (by decide))).trans v115
    have v117 : zEq (η11 16 2) (η 16 2) := by rw [eη11]; exact (zup_ne (fun _ e => absurd e (by decide))).trans v116
    have v118 : zEq (η12 16 2) (η 16 2) := by rw [eη12]; exact (zup_ne (fun e _ => absurd e (by decide))).trans v117
    have v119 : zEq (η13 16 2) (η 16 2) := by rw [eη13]; exact (zup_ne (fun e _ => absurd e (by decide))).trans v118
    have v120 : zEq (η14 16 2) (η 16 2) := by rw [eη14]; exact (zup_ne (fun e _ => absurd e (by decide))).trans v119
    have v121 : zEq (η15 16 2) (η 16 2) := by rw [eη15]; exact (zup_ne (fun e _ => absurd e (by decide))).trans v120
    have f16_2 : η15 16 2 = η 16 2 := v121
    have v122 : zEq (η7 16 3) (0) := by rw [eη7]; exact zup_eq
    have v123 : zEq (η8 16 3) (0) := by rw [eη8]; exact (zup_ne (fun e _ => absurd e (by decide))).trans v122
    have v124 : zEq (η9 16 3) (0) := by rw [eη9]; exact (zup_ne (fun _ e => absurd e (by decide))).trans v123
    have v125 : zEq (η10 16 3) (0) := by rw [eη10]; exact (zup_ne (fun e _ => absurd e (by decide))).trans v124
    have v126 : zEq (η11 16 3) (0) := by rw [eη11]; exact (zup_ne (fun _ e => absurd e (by decide))).trans v125
    have v127 : zEq (η12 16 3) (0) := by rw [eη12]; exact (zup_ne (fun e _ => absurd e (by decide))).trans v126
    have v128 : zEq (η13 16 3) (0) := by rw [eη13]; exact (zup_ne (fun e _ => absurd e (by decide))).trans v127
    have v129 : zEq (η14 16 3) (0) := by rw [eη14]; exact (zup_ne (fun e _ => absurd e (by decide))).trans v128
    have v130 : zEq (η15 16 3) (0) := by rw [eη15]; exact (zup_ne (fun e _ => absurd e (by decide))).trans v129
    have f16_3 : η15 16 3 = 0 := v130
    have v131 : zEq (η9 16 4) (0) := by rw [eη9]; exact zup_eq
    have v132 : zEq (η10 16 4) (0) := by rw [eη10]; exact (zup_ne (fun e _ => absurd e (by decide))).trans v131
    have v133 : zEq (η11 16 4) (0) := by rw [eη11]; exact (zup_ne (fun _ e => absurd e (by decide))).trans v132
    have v134 : zEq (η12 16 4) (0) := by rw [eη12]; exact (zup_ne (fun e _ => absurd e (by decide))).trans v133
    have v135 : zEq (η13 16 4) (0) := by rw [eη13]; exact (zup_ne (fun e _ => absurd e (by decide))).trans v134
    have v136 : zEq (η14 16 4) (0) := by rw [eη14]; exact (zup_ne (fun e _ => absurd e (by decide))).trans v135
    have v137 : zEq (η15 16 4) (0) := by rw [eη15]; exact (zup_ne (fun e _ => absurd e (by decide))).trans v136
    have f16_4 : η15 16 4 = 0 := v137
    have v138 : zEq (η11 16 5) (0) := by rw [eη11]; exact zup_eq
    have v139 : zEq (η12 16 5) (0) := by rw [eη12]; exact (zup_ne (fun e _ => absurd e (by decide))).trans v138
    have v140 : zEq (η13 16 5) (0) := by rw [eη13]; exact (zup_ne (fun e _ => absurd e (by decide))).trans v139
    have v141 : zEq (η14 16 5) (0) := by rw [eη14]; exact (zup_ne (fun e _ => absurd e (by decide))).trans v140
    have v142 : zEq (η15 16 5) (0) := by rw [eη15]; exact (zup_ne (fun e _ => absurd e (by decide))).trans v141
    have f16_5 : η15 16 5 = 0 := v142
    refine ⟨⟨⟨zGk_fm2 gk_k hpp.1 fmE (by decide +kernel), zGk_fm2 tk_l hpp.2.1 fmE (by decide +kernel)⟩, show η15 0 19 = η15 0 44 by apply Int.le_antisymm <;> omega⟩, fun k hk w => ?_⟩
    rw [fr18]
    match k, hk, w with
    | 0, _, w => exact hpp.2.2 0 (by decide) (f16_0.symm.trans w)
    | 1, _, w => exact hpp.2.2 1 (by decide) (f16_1.symm.trans w)
    | 2, _, w => exact hpp.2.2 2 (by decide) (f16_2.symm.trans w)
    | 3, _, w => exact absurd (f16_3.symm.trans w) (by decide)
    | 4, _, w => exact absurd (f16_4.symm.trans w) (by decide)
    | 5, _, w => exact absurd (f16_5.symm.trans w) (by decide)
  · have eη1 : η1 = zup η 0 16 0 := eη1
    have eη2 : η2 = zup η1 0 17 0 := eη2
    have eη3 : η3 = zup η2 0 18 0 := eη3
    have eη4 : η4 = zup η3 0 19 0 := eη4
    have eη5 : η5 = zup η4 0 44 0 := eη5
    have eη6 : η6 = zup η5 3 0 0 := eη6
    have eη7 : η7 = zup η6 16 (Int.toNat x1) 0 := eη7
    have eη8 : η8 = zup η7 3 (Int.toNat x2) 0 := eη8
    have eη9 : η9 = zup η8 16 (Int.toNat x3) 0 := eη9
    have eη10 : η10 = zup η9 3 (Int.toNat x4) 0 := eη10
    have eη11 : η11 = zup η10 16 (Int.toNat x5) 0 := eη11
    have eη12 : η12 = zup η11 4 4 3 := eη12
    have eη13 : η13 = zup η12 4 (Int.toNat x7) 0 := eη13
    have eη14 : η14 = zup η13 4 (Int.toNat x8) 0 := eη14
    have eη15 : η15 = zup η14 4 (Int.toNat x9) 0 := eη15
    show η15 = (yq_pln η)
    subst eη1
    subst eη2
    subst eη3
    subst eη4
    subst eη5
    subst eη6
    subst e1
    subst eη7
    subst e2
    subst eη8
    subst e3
    subst eη9
    subst e4
    subst eη10
    subst e5
    subst eη11
    subst e6
    subst eη12
    subst e7
    subst eη13
    subst e8
    subst eη14
    subst e9
    subst eη15
    subst e10
    rfl
set_option maxHeartbeats 8000000 in
theorem zne_plain {ro : Nat → List Int32} : zMet pr_P pr_K pr_df ro (sm_X0 1 6) 0 128 tm_ne [(.inr (.inr (.inl (nat_lit 0))))] 0 [(nat_lit 0, nat_lit 0, nat_lit 1), (nat_lit 0, nat_lit 3, nat_lit 2), (nat_lit 0, nat_lit 20, nat_lit 3), (nat_lit 0, nat_lit 21, nat_lit 4), (nat_lit 0, nat_lit 22, nat_lit 5), (nat_lit 0, nat_lit 23, nat_lit 6), (nat_lit 0, nat_lit 24, nat_lit 7), (nat_lit 0, nat_lit 25, nat_lit 8), (nat_lit 0, nat_lit 26, nat_lit 9), (nat_lit 0, nat_lit 27, nat_lit 10), (nat_lit 0, nat_lit 28, nat_lit 11), (nat_lit 0, nat_lit 29, nat_lit 12), (nat_lit 0, nat_lit 30, nat_lit 13), (nat_lit 0, nat_lit 31, nat_lit 14), (nat_lit 0, nat_lit 32, nat_lit 15), (nat_lit 0, nat_lit 33, nat_lit 16), (nat_lit 0, nat_lit 34, nat_lit 17), (nat_lit 0, nat_lit 35, nat_lit 18), (nat_lit 0, nat_lit 36, nat_lit 19), (nat_lit 0, nat_lit 37, nat_lit 20), (nat_lit 0, nat_lit 38, nat_lit 21), (nat_lit 0, nat_lit 39, nat_lit 22), (nat_lit 0, nat_lit 40, nat_lit 23), (nat_lit 0, nat_lit 47, nat_lit 24), (nat_lit 0, nat_lit 48, nat_lit 25), (nat_lit 0, nat_lit 50, nat_lit 26), (nat_lit 0, nat_lit 51, nat_lit 27), (nat_lit 0, nat_lit 52, nat_lit 28), (nat_lit 0, nat_lit 53, nat_lit 29), (nat_lit 0, nat_lit 54, nat_lit 30), (nat_lit 0, nat_lit 55, nat_lit 31), (nat_lit 0, nat_lit 56, nat_lit 32), (nat_lit 0, nat_lit 57, nat_lit 33), (nat_lit 0, nat_lit 58, nat_lit 34), (nat_lit 0, nat_lit 59, nat_lit 35), (nat_lit 0, nat_lit 72, nat_lit 36), (nat_lit 0, nat_lit 73, nat_lit 37), (nat_lit 0, nat_lit 76, nat_lit 38), (nat_lit 0, nat_lit 77, nat_lit 39), (nat_lit 0, nat_lit 79, nat_lit 40), (nat_lit 0, nat_lit 81, nat_lit 41), (nat_lit 0, nat_lit 82, nat_lit 42)] [] (fun xs η => sP wl_ne zTr zPne_plain xs η ∧ pPne_plain xs η) (fun xs η y η' => sQ wl_ne zTr zOne_plain zMne_plain xs η y η' ∧ pQne_plain xs η y η') :=
  zmet_alt (zmea_gen (mi := (nat_lit 0, nat_lit 1, nat_lit 8, nat_lit 2, nat_lit 0, tX8_plain)) (cd := []) (cu := []) (cs := []) (iv := zVne_plain) (po := [zOne_plain]) (pr := zPne_plain) (mods := zMne_plain) (D7 := zDne_plain) (D0 := zEne_plain) (Dm := zFne_plain) (f0 := 134) pCne_plain qCne_plain iCne_plain pPne_plain (fun xs η _ y η' => pQne_plain xs η y η') zX_low pr_mtR rfl (fun _ h => nomatch h) (by decide +kernel) (by decide +kernel) (by decide +kernel)
    (by
      intro xs η hr hl hp hpp
      match xs, hl, hp, hpp with
      | [], _, hp, hpp =>
        refine List.forall_mem_cons.mpr ⟨?_, fun _ h => nomatch h⟩
        · refine zden_L (n := 1) (ρ := [0]) rfl ?_
          exact zne_plain_o0 (ro := ro)  η hp hpp
      )
    (fun _ _ _ _ _ _ _ h => nomatch h)
    (fun _ h => nomatch h))
def zPne_copies_4 : zPq := zPn_copies_4
def zOne_copies_4 : zPo := zOn_copies_4
def zMne_copies_4 : List zCe := zMn_copies_4
def pPne_copies_4 : List Int → zE → Prop := pPn_copies_4
def pQne_copies_4 : List Int → zE → Int → zE → Prop := pQn_copies_4
theorem zne_copies_4 {ro : Nat → List Int32} : zMet pr_P pr_K pr_df ro (sm_X0 1 6) 0 129 tm_ne [(.inr (.inr (.inl (nat_lit 4)))), (.inl (nat_lit 0, (.ofNat (nat_lit 4))))] 0 [] [] (fun xs η => sP wl_ne zTr zPne_copies_4 xs η ∧ pPne_copies_4 xs η) (fun xs η y η' => sQ wl_ne zTr zOne_copies_4 zMne_copies_4 xs η y η' ∧ pQne_copies_4 xs η y η') := zn_copies_4
def zPne_copies_7 : zPq := zPn_copies_7
def zOne_copies_7 : zPo := zOn_copies_7
def zMne_copies_7 : List zCe := zMn_copies_7
def pPne_copies_7 : List Int → zE → Prop := pPn_copies_7
def pQne_copies_7 : List Int → zE → Int → zE → Prop := pQn_copies_7
theorem zne_copies_7 {ro : Nat → List Int32} : zMet pr_P pr_K pr_df ro (sm_X0 1 6) 0 129 tm_ne [(.inr (.inr (.inl (nat_lit 7)))), (.inl (nat_lit 0, (.ofNat (nat_lit 4))))] 0 [] [] (fun xs η => sP wl_ne zTr zPne_copies_7 xs η ∧ pPne_copies_7 xs η) (fun xs η y η' => sQ wl_ne zTr zOne_copies_7 zMne_copies_7 xs η y η' ∧ pQne_copies_7 xs η y η') := zn_copies_7
def zPne_copies_8 : zPq := zPn_copies_8
def zOne_copies_8 : zPo := zOn_copies_8
def zMne_copies_8 : List zCe := zMn_copies_8
def pPne_copies_8 : List Int → zE → Prop := pPn_copies_8
def pQne_copies_8 : List Int → zE → Int → zE → Prop := pQn_copies_8
theorem zne_copies_8 {ro : Nat → List Int32} : zMet pr_P pr_K pr_df ro (sm_X0 1 6) 0 129 tm_ne [(.inr (.inr (.inl (nat_lit 8)))), (.inl (nat_lit 0, (.ofNat (nat_lit 4))))] 0 [] [] (fun xs η => sP wl_ne zTr zPne_copies_8 xs η ∧ pPne_copies_8 xs η) (fun xs η y η' => sQ wl_ne zTr zOne_copies_8 zMne_copies_8 xs η y η' ∧ pQne_copies_8 xs η y η') := zn_copies_8
def zPne_copies_9 : zPq := zPn_copies_9
def zOne_copies_9 : zPo := zOn_copies_9
def zMne_copies_9 : List zCe := zMn_copies_9
def pPne_copies_9 : List Int → zE → Prop := pPn_copies_9
def pQne_copies_9 : List Int → zE → Int → zE → Prop := pQn_copies_9
theorem zne_copies_9 {ro : Nat → List Int32} : zMet pr_P pr_K pr_df ro (sm_X0 1 6) 0 129 tm_ne [(.inr (.inr (.inl (nat_lit 9)))), (.inl (nat_lit 0, (.ofNat (nat_lit 4))))] 0 [] [] (fun xs η => sP wl_ne zTr zPne_copies_9 xs η ∧ pPne_copies_9 xs η) (fun xs η y η' => sQ wl_ne zTr zOne_copies_9 zMne_copies_9 xs η y η' ∧ pQne_copies_9 xs η y η') := zn_copies_9
def zPne_copies_10 : zPq := zPn_copies_10
def zOne_copies_10 : zPo := zOn_copies_10
def zMne_copies_10 : List zCe := zMn_copies_10
def pPne_copies_10 : List Int → zE → Prop := pPn_copies_10
def pQne_copies_10 : List Int → zE → Int → zE → Prop := pQn_copies_10
theorem zne_copies_10 {ro : Nat → List Int32} : zMet pr_P pr_K pr_df ro (sm_X0 1 6) 0 129 tm_ne [(.inr (.inr (.inl (nat_lit 10)))), (.inl (nat_lit 0, (.ofNat (nat_lit 4))))] 0 [] [] (fun xs η => sP wl_ne zTr zPne_copies_10 xs η ∧ pPne_copies_10 xs η) (fun xs η y η' => sQ wl_ne zTr zOne_copies_10 zMne_copies_10 xs η y η' ∧ pQne_copies_10 xs η y η') := zn_copies_10
def zPne_copies_11 : zPq := zPn_copies_11
def zOne_copies_11 : zPo := zOn_copies_11
def zMne_copies_11 : List zCe := zMn_copies_11
def pPne_copies_11 : List Int → zE → Prop := pPn_copies_11
def pQne_copies_11 : List Int → zE → Int → zE → Prop := pQn_copies_11
theorem zne_copies_11 {ro : Nat → List Int32} : zMet pr_P pr_K pr_df ro (sm_X0 1 6) 0 129 tm_ne [(.inr (.inr (.inl (nat_lit 11)))), (.inl (nat_lit 0, (.ofNat (nat_lit 4))))] 0 [] [] (fun xs η => sP wl_ne zTr zPne_copies_11 xs η ∧ pPne_copies_11 xs η) (fun xs η y η' => sQ wl_ne zTr zOne_copies_11 zMne_copies_11 xs η y η' ∧ pQne_copies_11 xs η y η') := zn_copies_11
def zPne_copies_12 : zPq := zPn_copies_12
def zOne_copies_12 : zPo := zOn_copies_12
def zMne_copies_12 : List zCe := zMn_copies_12
def pPne_copies_12 : List Int → zE → Prop := pPn_copies_12
def pQne_copies_12 : List Int → zE → Int → zE → Prop := pQn_copies_12
theorem zne_copies_12 {ro : Nat → List Int32} : zMet pr_P pr_K pr_df ro (sm_X0 1 6) 0 129 tm_ne [(.inr (.inr (.inl (nat_lit 12)))), (.inl (nat_lit 0, (.ofNat (nat_lit 4))))] 0 [] [] (fun xs η => sP wl_ne zTr zPne_copies_12 xs η ∧ pPne_copies_12 xs η) (fun xs η y η' => sQ wl_ne zTr zOne_copies_12 zMne_copies_12 xs η y η' ∧ pQne_copies_12 xs η y η') := zn_copies_12
def zPne_copies_13 : zPq := zPn_copies_13
def zOne_copies_13 : zPo := zOn_copies_13
def zMne_copies_13 : List zCe := zMn_copies_13
def pPne_copies_13 : List Int → zE → Prop := pPn_copies_13
def pQne_copies_13 : List Int → zE → Int → zE → Prop := pQn_copies_13
theorem zne_copies_13 {ro : Nat → List Int32} : zMet pr_P pr_K pr_df ro (sm_X0 1 6) 0 129 tm_ne [(.inr (.inr (.inl (nat_lit 13)))), (.inl (nat_lit 0, (.ofNat (nat_lit 4))))] 0 [] [] (fun xs η => sP wl_ne zTr zPne_copies_13 xs η ∧ pPne_copies_13 xs η) (fun xs η y η' => sQ wl_ne zTr zOne_copies_13 zMne_copies_13 xs η y η' ∧ pQne_copies_13 xs η y η') := zn_copies_13
def zPne_copies_14 : zPq := zPn_copies_14
def zOne_copies_14 : zPo := zOn_copies_14
def zMne_copies_14 : List zCe := zMn_copies_14
def pPne_copies_14 : List Int → zE → Prop := pPn_copies_14
def pQne_copies_14 : List Int → zE → Int → zE → Prop := pQn_copies_14
theorem zne_copies_14 {ro : Nat → List Int32} : zMet pr_P pr_K pr_df ro (sm_X0 1 6) 0 129 tm_ne [(.inr (.inr (.inl (nat_lit 14)))), (.inl (nat_lit 0, (.ofNat (nat_lit 4))))] 0 [] [] (fun xs η => sP wl_ne zTr zPne_copies_14 xs η ∧ pPne_copies_14 xs η) (fun xs η y η' => sQ wl_ne zTr zOne_copies_14 zMne_copies_14 xs η y η' ∧ pQne_copies_14 xs η y η') := zn_copies_14
def zPne_copies_15 : zPq := zPn_copies_15
def zOne_copies_15 : zPo := zOn_copies_15
def zMne_copies_15 : List zCe := zMn_copies_15
def pPne_copies_15 : List Int → zE → Prop := pPn_copies_15
def pQne_copies_15 : List Int → zE → Int → zE → Prop := pQn_copies_15
theorem zne_copies_15 {ro : Nat → List Int32} : zMet pr_P pr_K pr_df ro (sm_X0 1 6) 0 129 tm_ne [(.inr (.inr (.inl (nat_lit 15)))), (.inl (nat_lit 0, (.ofNat (nat_lit 4))))] 0 [] [] (fun xs η => sP wl_ne zTr zPne_copies_15 xs η ∧ pPne_copies_15 xs η) (fun xs η y η' => sQ wl_ne zTr zOne_copies_15 zMne_copies_15 xs η y η' ∧ pQne_copies_15 xs η y η') := zn_copies_15
def zPne_copies_5 : zPq := zPn_copies_5
def zOne_copies_5 : zPo := zOn_copies_5
def zMne_copies_5 : List zCe := zMn_copies_5
def pPne_copies_5 : List Int → zE → Prop := pPn_copies_5
def pQne_copies_5 : List Int → zE → Int → zE → Prop := pQn_copies_5
theorem zne_copies_5 {ro : Nat → List Int32} : zMet pr_P pr_K pr_df ro (sm_X0 1 6) 0 129 tm_ne [(.inr (.inr (.inl (nat_lit 5)))), (.inl (nat_lit 0, (.ofNat (nat_lit 12))))] 0 [] [] (fun xs η => sP wl_ne zTr zPne_copies_5 xs η ∧ pPne_copies_5 xs η) (fun xs η y η' => sQ wl_ne zTr zOne_copies_5 zMne_copies_5 xs η y η' ∧ pQne_copies_5 xs η y η') := zn_copies_5
def zPne_copies_6 : zPq := zPn_copies_6
def zOne_copies_6 : zPo := zOn_copies_6
def zMne_copies_6 : List zCe := zMn_copies_6
def pPne_copies_6 : List Int → zE → Prop := pPn_copies_6
def pQne_copies_6 : List Int → zE → Int → zE → Prop := pQn_copies_6
theorem zne_copies_6 {ro : Nat → List Int32} : zMet pr_P pr_K pr_df ro (sm_X0 1 6) 0 129 tm_ne [(.inr (.inr (.inl (nat_lit 6)))), (.inl (nat_lit 0, (.ofNat (nat_lit 12))))] 0 [] [] (fun xs η => sP wl_ne zTr zPne_copies_6 xs η ∧ pPne_copies_6 xs η) (fun xs η y η' => sQ wl_ne zTr zOne_copies_6 zMne_copies_6 xs η y η' ∧ pQne_copies_6 xs η y η') := zn_copies_6
def zPne_copies_17 : zPq := zPn_copies_17
def zOne_copies_17 : zPo := zOn_copies_17
def zMne_copies_17 : List zCe := zMn_copies_17
def pPne_copies_17 : List Int → zE → Prop := pPn_copies_17
def pQne_copies_17 : List Int → zE → Int → zE → Prop := pQn_copies_17
theorem zne_copies_17 {ro : Nat → List Int32} : zMet pr_P pr_K pr_df ro (sm_X0 1 6) 0 129 tm_ne [(.inr (.inr (.inl (nat_lit 17)))), (.inl (nat_lit 0, (.ofNat (nat_lit 3))))] 0 [] [] (fun xs η => sP wl_ne zTr zPne_copies_17 xs η ∧ pPne_copies_17 xs η) (fun xs η y η' => sQ wl_ne zTr zOne_copies_17 zMne_copies_17 xs η y η' ∧ pQne_copies_17 xs η y η') := zn_copies_17
def zPne_copies_18 : zPq := zPn_copies_18
def zOne_copies_18 : zPo := zOn_copies_18
def zMne_copies_18 : List zCe := zMn_copies_18
def pPne_copies_18 : List Int → zE → Prop := pPn_copies_18
def pQne_copies_18 : List Int → zE → Int → zE → Prop := pQn_copies_18
theorem zne_copies_18 {ro : Nat → List Int32} : zMet pr_P pr_K pr_df ro (sm_X0 1 6) 0 129 tm_ne [(.inr (.inr (.inl (nat_lit 18)))), (.inl (nat_lit 0, (.ofNat (nat_lit 3))))] 0 [] [] (fun xs η => sP wl_ne zTr zPne_copies_18 xs η ∧ pPne_copies_18 xs η) (fun xs η y η' => sQ wl_ne zTr zOne_copies_18 zMne_copies_18 xs η y η' ∧ pQne_copies_18 xs η y η') := zn_copies_18
def zPne_copies_19 : zPq := zPn_copies_19
def zOne_copies_19 : zPo := zOn_copies_19
def zMne_copies_19 : List zCe := zMn_copies_19
def pPne_copies_19 : List Int → zE → Prop := pPn_copies_19
def pQne_copies_19 : List Int → zE → Int → zE → Prop := pQn_copies_19
theorem zne_copies_19 {ro : Nat → List Int32} : zMet pr_P pr_K pr_df ro (sm_X0 1 6) 0 129 tm_ne [(.inr (.inr (.inl (nat_lit 19)))), (.inl (nat_lit 0, (.ofNat (nat_lit 64))))] 0 [] [] (fun xs η => sP wl_ne zTr zPne_copies_19 xs η ∧ pPne_copies_19 xs η) (fun xs η y η' => sQ wl_ne zTr zOne_copies_19 zMne_copies_19 xs η y η' ∧ pQne_copies_19 xs η y η') := zn_copies_19
def zPne_copies_20 : zPq := zPn_copies_20
def zOne_copies_20 : zPo := zOn_copies_20
def zMne_copies_20 : List zCe := zMn_copies_20
def pPne_copies_20 : List Int → zE → Prop := pPn_copies_20
def pQne_copies_20 : List Int → zE → Int → zE → Prop := pQn_copies_20
theorem zne_copies_20 {ro : Nat → List Int32} : zMet pr_P pr_K pr_df ro (sm_X0 1 6) 0 129 tm_ne [(.inr (.inr (.inl (nat_lit 20)))), (.inl (nat_lit 0, (.ofNat (nat_lit 64))))] 0 [] [] (fun xs η => sP wl_ne zTr zPne_copies_20 xs η ∧ pPne_copies_20 xs η) (fun xs η y η' => sQ wl_ne zTr zOne_copies_20 zMne_copies_20 xs η y η' ∧ pQne_copies_20 xs η y η') := zn_copies_20
def zPne_copies_21 : zPq := zPn_copies_21
def zOne_copies_21 : zPo := zOn_copies_21
def zMne_copies_21 : List zCe := zMn_copies_21
def pPne_copies_21 : List Int → zE → Prop := pPn_copies_21
def pQne_copies_21 : List Int → zE → Int → zE → Prop := pQn_copies_21
theorem zne_copies_21 {ro : Nat → List Int32} : zMet pr_P pr_K pr_df ro (sm_X0 1 6) 0 129 tm_ne [(.inr (.inr (.inl (nat_lit 21)))), (.inl (nat_lit 0, (.ofNat (nat_lit 64))))] 0 [] [] (fun xs η => sP wl_ne zTr zPne_copies_21 xs η ∧ pPne_copies_21 xs η) (fun xs η y η' => sQ wl_ne zTr zOne_copies_21 zMne_copies_21 xs η y η' ∧ pQne_copies_21 xs η y η') := zn_copies_21
def zPne_plainTried : zPq := zPn_plainTried
def zOne_plainTried : zPo := zOn_plainTried
def zMne_plainTried : List zCe := zMn_plainTried
def pPne_plainTried : List Int → zE → Prop := pPn_plainTried
def pQne_plainTried : List Int → zE → Int → zE → Prop := pQn_plainTried
theorem zne_plainTried {ro : Nat → List Int32} : zMet pr_P pr_K pr_df ro (sm_X0 1 6) 0 156 tm_ne [(.inr (.inr (.inl (nat_lit 0))))] 0 [(nat_lit 0, nat_lit 0, nat_lit 1), (nat_lit 0, nat_lit 3, nat_lit 2), (nat_lit 0, nat_lit 20, nat_lit 3), (nat_lit 0, nat_lit 21, nat_lit 4), (nat_lit 0, nat_lit 22, nat_lit 5), (nat_lit 0, nat_lit 23, nat_lit 6), (nat_lit 0, nat_lit 24, nat_lit 7), (nat_lit 0, nat_lit 25, nat_lit 8), (nat_lit 0, nat_lit 26, nat_lit 9), (nat_lit 0, nat_lit 27, nat_lit 10), (nat_lit 0, nat_lit 28, nat_lit 11), (nat_lit 0, nat_lit 29, nat_lit 12), (nat_lit 0, nat_lit 30, nat_lit 13), (nat_lit 0, nat_lit 31, nat_lit 14), (nat_lit 0, nat_lit 32, nat_lit 15), (nat_lit 0, nat_lit 33, nat_lit 16), (nat_lit 0, nat_lit 34, nat_lit 17), (nat_lit 0, nat_lit 35, nat_lit 18), (nat_lit 0, nat_lit 36, nat_lit 19), (nat_lit 0, nat_lit 37, nat_lit 20), (nat_lit 0, nat_lit 38, nat_lit 21), (nat_lit 0, nat_lit 39, nat_lit 22), (nat_lit 0, nat_lit 40, nat_lit 23), (nat_lit 0, nat_lit 47, nat_lit 24), (nat_lit 0, nat_lit 48, nat_lit 25), (nat_lit 0, nat_lit 50, nat_lit 26), (nat_lit 0, nat_lit 51, nat_lit 27), (nat_lit 0, nat_lit 52, nat_lit 28), (nat_lit 0, nat_lit 53, nat_lit 29), (nat_lit 0, nat_lit 54, nat_lit 30), (nat_lit 0, nat_lit 55, nat_lit 31), (nat_lit 0, nat_lit 56, nat_lit 32), (nat_lit 0, nat_lit 57, nat_lit 33), (nat_lit 0, nat_lit 58, nat_lit 34), (nat_lit 0, nat_lit 59, nat_lit 35), (nat_lit 0, nat_lit 72, nat_lit 36), (nat_lit 0, nat_lit 73, nat_lit 37), (nat_lit 0, nat_lit 76, nat_lit 38), (nat_lit 0, nat_lit 77, nat_lit 39), (nat_lit 0, nat_lit 79, nat_lit 40), (nat_lit 0, nat_lit 81, nat_lit 41), (nat_lit 0, nat_lit 82, nat_lit 42)] [] (fun xs η => sP wl_ne zTr zPne_plainTried xs η ∧ pPne_plainTried xs η) (fun xs η y η' => sQ wl_ne zTr zOne_plainTried zMne_plainTried xs η y η' ∧ pQne_plainTried xs η y η') := zn_plainTried
def zPne_atFirst : zPq := zPn_atFirst
def zOne_atFirst : zPo := zOn_atFirst
def zMne_atFirst : List zCe := zMn_atFirst
def pPne_atFirst : List Int → zE → Prop := pPn_atFirst
def pQne_atFirst : List Int → zE → Int → zE → Prop := pQn_atFirst
theorem zne_atFirst {ro : Nat → List Int32} : zMet pr_P pr_K pr_df ro (sm_X0 1 6) 0 155 tm_ne [(.inr (.inr (.inl (nat_lit 0)))), (.inl (nat_lit 0, (.ofNat (nat_lit 0))))] 0 [(nat_lit 0, nat_lit 0, nat_lit 1), (nat_lit 0, nat_lit 3, nat_lit 2), (nat_lit 0, nat_lit 20, nat_lit 3), (nat_lit 0, nat_lit 21, nat_lit 4), (nat_lit 0, nat_lit 22, nat_lit 5), (nat_lit 0, nat_lit 23, nat_lit 6), (nat_lit 0, nat_lit 24, nat_lit 7), (nat_lit 0, nat_lit 25, nat_lit 8), (nat_lit 0, nat_lit 26, nat_lit 9), (nat_lit 0, nat_lit 27, nat_lit 10), (nat_lit 0, nat_lit 28, nat_lit 11), (nat_lit 0, nat_lit 29, nat_lit 12), (nat_lit 0, nat_lit 30, nat_lit 13), (nat_lit 0, nat_lit 31, nat_lit 14), (nat_lit 0, nat_lit 32, nat_lit 15), (nat_lit 0, nat_lit 33, nat_lit 16), (nat_lit 0, nat_lit 34, nat_lit 17), (nat_lit 0, nat_lit 35, nat_lit 18), (nat_lit 0, nat_lit 36, nat_lit 19), (nat_lit 0, nat_lit 37, nat_lit 20), (nat_lit 0, nat_lit 38, nat_lit 21), (nat_lit 0, nat_lit 39, nat_lit 22), (nat_lit 0, nat_lit 40, nat_lit 23), (nat_lit 0, nat_lit 47, nat_lit 24), (nat_lit 0, nat_lit 48, nat_lit 25), (nat_lit 0, nat_lit 50, nat_lit 26), (nat_lit 0, nat_lit 51, nat_lit 27), (nat_lit 0, nat_lit 52, nat_lit 28), (nat_lit 0, nat_lit 53, nat_lit 29), (nat_lit 0, nat_lit 54, nat_lit 30), (nat_lit 0, nat_lit 55, nat_lit 31), (nat_lit 0, nat_lit 56, nat_lit 32), (nat_lit 0, nat_lit 57, nat_lit 33), (nat_lit 0, nat_lit 58, nat_lit 34), (nat_lit 0, nat_lit 59, nat_lit 35), (nat_lit 0, nat_lit 72, nat_lit 36), (nat_lit 0, nat_lit 73, nat_lit 37), (nat_lit 0, nat_lit 76, nat_lit 38), (nat_lit 0, nat_lit 77, nat_lit 39), (nat_lit 0, nat_lit 79, nat_lit 40), (nat_lit 0, nat_lit 81, nat_lit 41), (nat_lit 0, nat_lit 82, nat_lit 42)] [] (fun xs η => sP wl_ne zTr zPne_atFirst xs η ∧ pPne_atFirst xs η) (fun xs η y η' => sQ wl_ne zTr zOne_atFirst zMne_atFirst xs η y η' ∧ pQne_atFirst xs η y η') := zn_atFirst
def zPne_begin : zPq := zPn_begin
def zOne_begin : zPo := zOn_begin
def zMne_begin : List zCe := zMn_begin
def pPne_begin : List Int → zE → Prop := pPn_begin
def pQne_begin : List Int → zE → Int → zE → Prop := pQn_begin
theorem zne_begin {ro : Nat → List Int32} : zMet pr_P pr_K pr_df ro (sm_X0 1 6) 1 154 tm_ne [(.inr (.inr (.inl (nat_lit 0))))] 0 [(nat_lit 0, nat_lit 0, nat_lit 1), (nat_lit 0, nat_lit 3, nat_lit 2), (nat_lit 0, nat_lit 20, nat_lit 3), (nat_lit 0, nat_lit 21, nat_lit 4), (nat_lit 0, nat_lit 22, nat_lit 5), (nat_lit 0, nat_lit 23, nat_lit 6), (nat_lit 0, nat_lit 24, nat_lit 7), (nat_lit 0, nat_lit 25, nat_lit 8), (nat_lit 0, nat_lit 26, nat_lit 9), (nat_lit 0, nat_lit 27, nat_lit 10), (nat_lit 0, nat_lit 28, nat_lit 11), (nat_lit 0, nat_lit 29, nat_lit 12), (nat_lit 0, nat_lit 30, nat_lit 13), (nat_lit 0, nat_lit 31, nat_lit 14), (nat_lit 0, nat_lit 32, nat_lit 15), (nat_lit 0, nat_lit 33, nat_lit 16), (nat_lit 0, nat_lit 34, nat_lit 17), (nat_lit 0, nat_lit 35, nat_lit 18), (nat_lit 0, nat_lit 36, nat_lit 19), (nat_lit 0, nat_lit 37, nat_lit 20), (nat_lit 0, nat_lit 38, nat_lit 21), (nat_lit 0, nat_lit 39, nat_lit 22), (nat_lit 0, nat_lit 40, nat_lit 23), (nat_lit 0, nat_lit 47, nat_lit 24), (nat_lit 0, nat_lit 48, nat_lit 25), (nat_lit 0, nat_lit 50, nat_lit 26), (nat_lit 0, nat_lit 51, nat_lit 27), (nat_lit 0, nat_lit 52, nat_lit 28), (nat_lit 0, nat_lit 53, nat_lit 29), (nat_lit 0, nat_lit 54, nat_lit 30), (nat_lit 0, nat_lit 55, nat_lit 31), (nat_lit 0, nat_lit 56, nat_lit 32), (nat_lit 0, nat_lit 57, nat_lit 33), (nat_lit 0, nat_lit 58, nat_lit 34), (nat_lit 0, nat_lit 59, nat_lit 35), (nat_lit 0, nat_lit 72, nat_lit 36), (nat_lit 0, nat_lit 73, nat_lit 37), (nat_lit 0, nat_lit 76, nat_lit 38), (nat_lit 0, nat_lit 77, nat_lit 39), (nat_lit 0, nat_lit 79, nat_lit 40), (nat_lit 0, nat_lit 81, nat_lit 41), (nat_lit 0, nat_lit 82, nat_lit 42)] [] (fun xs η => sP wl_ne zTr zPne_begin xs η ∧ pPne_begin xs η) (fun xs η y η' => sQ wl_ne zTr zOne_begin zMne_begin xs η y η' ∧ pQne_begin xs η y η') := zn_begin
def zPne_keepText : zPq := zPn_keepText
def zOne_keepText : zPo := zOn_keepText
def zMne_keepText : List zCe := zMn_keepText
def pPne_keepText : List Int → zE → Prop := pPn_keepText
def pQne_keepText : List Int → zE → Int → zE → Prop := pQn_keepText
theorem zne_keepText {ro : Nat → List Int32} : zMet pr_P pr_K pr_df ro (sm_X0 1 6) 2 130 tm_ne [(.inr (.inr (.inl (nat_lit 0))))] 0 [(nat_lit 0, nat_lit 0, nat_lit 1), (nat_lit 0, nat_lit 3, nat_lit 2), (nat_lit 0, nat_lit 20, nat_lit 3), (nat_lit 0, nat_lit 21, nat_lit 4), (nat_lit 0, nat_lit 22, nat_lit 5), (nat_lit 0, nat_lit 23, nat_lit 6), (nat_lit 0, nat_lit 24, nat_lit 7), (nat_lit 0, nat_lit 25, nat_lit 8), (nat_lit 0, nat_lit 26, nat_lit 9), (nat_lit 0, nat_lit 27, nat_lit 10), (nat_lit 0, nat_lit 28, nat_lit 11), (nat_lit 0, nat_lit 29, nat_lit 12), (nat_lit 0, nat_lit 30, nat_lit 13), (nat_lit 0, nat_lit 31, nat_lit 14), (nat_lit 0, nat_lit 32, nat_lit 15), (nat_lit 0, nat_lit 33, nat_lit 16), (nat_lit 0, nat_lit 34, nat_lit 17), (nat_lit 0, nat_lit 35, nat_lit 18), (nat_lit 0, nat_lit 36, nat_lit 19), (nat_lit 0, nat_lit 37, nat_lit 20), (nat_lit 0, nat_lit 38, nat_lit 21), (nat_lit 0, nat_lit 39, nat_lit 22), (nat_lit 0, nat_lit 40, nat_lit 23), (nat_lit 0, nat_lit 47, nat_lit 24), (nat_lit 0, nat_lit 48, nat_lit 25), (nat_lit 0, nat_lit 50, nat_lit 26), (nat_lit 0, nat_lit 51, nat_lit 27), (nat_lit 0, nat_lit 52, nat_lit 28), (nat_lit 0, nat_lit 53, nat_lit 29), (nat_lit 0, nat_lit 54, nat_lit 30), (nat_lit 0, nat_lit 55, nat_lit 31), (nat_lit 0, nat_lit 56, nat_lit 32), (nat_lit 0, nat_lit 57, nat_lit 33), (nat_lit 0, nat_lit 58, nat_lit 34), (nat_lit 0, nat_lit 59, nat_lit 35), (nat_lit 0, nat_lit 72, nat_lit 36), (nat_lit 0, nat_lit 73, nat_lit 37), (nat_lit 0, nat_lit 76, nat_lit 38), (nat_lit 0, nat_lit 77, nat_lit 39), (nat_lit 0, nat_lit 79, nat_lit 40), (nat_lit 0, nat_lit 81, nat_lit 41), (nat_lit 0, nat_lit 82, nat_lit 42)] [] (fun xs η => sP wl_ne zTr zPne_keepText xs η ∧ pPne_keepText xs η) (fun xs η y η' => sQ wl_ne zTr zOne_keepText zMne_keepText xs η y η' ∧ pQne_keepText xs η y η') := zn_keepText
def zPne_text : zPq := ([((.negSucc (nat_lit 2147483647)), (.ofNat (nat_lit 2147483647)))], [])
def zOne_text : zPo := (((.negSucc (nat_lit 2147483647)), (.ofNat (nat_lit 2147483647))), [], [])
def zMne_text : List zCe := [(nat_lit 0, nat_lit 44), (nat_lit 0, nat_lit 45), (nat_lit 0, nat_lit 42), (nat_lit 0, nat_lit 47), (nat_lit 0, nat_lit 46), (nat_lit 0, nat_lit 43), (nat_lit 0, nat_lit 20), (nat_lit 0, nat_lit 8), (nat_lit 0, nat_lit 9), (nat_lit 0, nat_lit 10), (nat_lit 0, nat_lit 11), (nat_lit 0, nat_lit 5), (nat_lit 0, nat_lit 6), (nat_lit 22, nat_lit 0), (nat_lit 19, nat_lit 0), (nat_lit 20, nat_lit 0), (nat_lit 21, nat_lit 0), (nat_lit 23, nat_lit 0), (nat_lit 0, nat_lit 12), (nat_lit 0, nat_lit 17), (nat_lit 0, nat_lit 18), (nat_lit 0, nat_lit 19), (nat_lit 5, nat_lit 0), (nat_lit 6, nat_lit 0), (nat_lit 7, nat_lit 0), (nat_lit 8, nat_lit 0), (nat_lit 9, nat_lit 0), (nat_lit 10, nat_lit 0), (nat_lit 11, nat_lit 0), (nat_lit 12, nat_lit 0), (nat_lit 13, nat_lit 0), (nat_lit 14, nat_lit 0), (nat_lit 15, nat_lit 0), (nat_lit 4, nat_lit 0), (nat_lit 3, nat_lit 0), (nat_lit 16, nat_lit 0), (nat_lit 18, nat_lit 0), (nat_lit 17, nat_lit 0), (nat_lit 26, nat_lit 0), (nat_lit 27, nat_lit 0), (nat_lit 28, nat_lit 0), (nat_lit 29, nat_lit 0), (nat_lit 30, nat_lit 0), (nat_lit 31, nat_lit 0), (nat_lit 32, nat_lit 0), (nat_lit 33, nat_lit 0), (nat_lit 34, nat_lit 0), (nat_lit 35, nat_lit 0), (nat_lit 0, nat_lit 63), (nat_lit 0, nat_lit 64), (nat_lit 0, nat_lit 65), (nat_lit 0, nat_lit 66), (nat_lit 0, nat_lit 67), (nat_lit 0, nat_lit 68), (nat_lit 0, nat_lit 69), (nat_lit 0, nat_lit 70), (nat_lit 0, nat_lit 71), (nat_lit 0, nat_lit 61), (nat_lit 0, nat_lit 75), (nat_lit 0, nat_lit 76), (nat_lit 0, nat_lit 79), (nat_lit 0, nat_lit 81), (nat_lit 0, nat_lit 13), (nat_lit 0, nat_lit 14), (nat_lit 0, nat_lit 15), (nat_lit 0, nat_lit 16), (nat_lit 16, nat_lit 1), (nat_lit 16, nat_lit 2), (nat_lit 16, nat_lit 3), (nat_lit 0, nat_lit 2), (nat_lit 0, nat_lit 7), (nat_lit 0, nat_lit 3)]
def pPne_text : List Int → zE → Prop := fun _ η => G_k η ∧ T_l η ∧ PL_n 3 η
def oQne_text : List Int → zE → Int → zE → Prop := fun xs η _ η' => (G_k η' ∧ T_l η' ∧ PL_n 3 η') ∧ (0 ≤ xs.getD 0 0 ∧ xs.getD 0 0 ≤ η 0 1 → η' 0 1 = 0) ∧ (¬ (0 ≤ xs.getD 0 0 ∧ xs.getD 0 0 ≤ η 0 1) → η' 0 1 = η 0 1)
def fQne_text : List Int → zE → Int → zE → Prop := fun xs η y η' => yq_t (xs.getD 0 0) η y η'
def pQne_text : List Int → zE → Int → zE → Prop := fun xs η y η' => oQne_text xs η y η' ∧ fQne_text xs η y η'
def pCne_text : Nat → List Int → zE → Prop := fun c => match c with
  | 0 => pPne_plain
  | 1 => pPne_token
  | 2 => pPne_lineRead
  | 3 => pPne_keepText
  | _ => fun _ _ => True
def qCne_text : Nat → List Int → zE → Int → zE → Prop := fun c => match c with
  | 0 => pQne_plain
  | 1 => pQne_token
  | 2 => pQne_lineRead
  | 3 => pQne_keepText
  | _ => fun _ _ _ _ => True
def iCne_text : List Int → zE → Nat → List Int → zE → Prop := fun xs η0 c => match c with
  | 0 => fun ys η => (G_n η ∧ (0 ≤ xs.getD 0 0 ∧ xs.getD 0 0 ≤ η0 0 1) ∧ η 0 1 = 0) ∧ ((0 ≤ xs.getD 0 0 ∧ xs.getD 0 0 ≤ η0 0 1) ∧ ys.getD 0 0 = xs.getD 0 0 ∧ yq_rI (xs.getD 0 0) η0 (ys.getD 1 0) η)
  | _ => fun _ _ => True
def zVne_text : List zIv := [(nat_lit 0, ([((.negSucc (nat_lit 2147483647)), (.ofNat (nat_lit 2147483647))), ((.negSucc (nat_lit 2147483647)), (.ofNat (nat_lit 2147483647)))], []), ((.ofNat (nat_lit 0)), [((.ofNat (nat_lit 10)), nat_lit 1, nat_lit 0, nat_lit 6), ((.negSucc (nat_lit 9)), nat_lit 1, nat_lit 0, nat_lit 7), ((.ofNat (nat_lit 1)), nat_lit 1, nat_lit 0, nat_lit 8)]))]
def zUne_text : List zCu := [(nat_lit 55, nat_lit 0, [(nat_lit 0, (.inr (.inr (.inl (nat_lit 0))))), (nat_lit 1, (.inl (nat_lit 1, (.ofNat (nat_lit 0))))), (nat_lit 2, (.inl (nat_lit 2, (.ofNat (nat_lit 0)))))], [])]
def zDne_text : List (List zK) := []
def zEne_text : List (List zK) := [[(nat_lit 11, nat_lit 0, [(nat_lit 0, (.negSucc (nat_lit 1)))]), (nat_lit 6, nat_lit 2, [(nat_lit 1, (.ofNat (nat_lit 0))), (nat_lit 0, (.ofNat (nat_lit 0)))]), (nat_lit 5, nat_lit 0, [(nat_lit 0, (.ofNat (nat_lit 0))), (nat_lit 0, (.ofNat (nat_lit 2))), (nat_lit 0, (.ofNat (nat_lit 0)))])],
  [(nat_lit 13, nat_lit 0, []), (nat_lit 5, nat_lit 0, [(nat_lit 0, (.ofNat (nat_lit 0))), (nat_lit 0, (.ofNat (nat_lit 7))), (nat_lit 0, (.ofNat (nat_lit 0)))]), (nat_lit 5, nat_lit 0, [(nat_lit 0, (.ofNat (nat_lit 0))), (nat_lit 0, (.ofNat (nat_lit 5))), (nat_lit 0, (.negSucc (nat_lit 0)))]), (nat_lit 5, nat_lit 0, [(nat_lit 0, (.ofNat (nat_lit 0))), (nat_lit 0, (.ofNat (nat_lit 4))), (nat_lit 0, (.ofNat (nat_lit 0)))]), (nat_lit 5, nat_lit 0, [(nat_lit 0, (.ofNat (nat_lit 0))), (nat_lit 0, (.ofNat (nat_lit 1))), (nat_lit 0, (.ofNat (nat_lit 0)))]), (nat_lit 5, nat_lit 0, [(nat_lit 0, (.ofNat (nat_lit 0))), (nat_lit 0, (.ofNat (nat_lit 6))), (nat_lit 1, (.ofNat (nat_lit 0)))]), (nat_lit 6, nat_lit 5, [(nat_lit 1, (.ofNat (nat_lit 0))), (nat_lit 2, (.ofNat (nat_lit 0)))]), (nat_lit 4, nat_lit 0, [(nat_lit 0, (.ofNat (nat_lit 0))), (nat_lit 0, (.ofNat (nat_lit 1)))]), (nat_lit 6, nat_lit 3, [(nat_lit 1, (.ofNat (nat_lit 0))), (nat_lit 0, (.ofNat (nat_lit 0)))]), (nat_lit 5, nat_lit 0, [(nat_lit 0, (.ofNat (nat_lit 0))), (nat_lit 0, (.ofNat (nat_lit 2))), (nat_lit 0, (.ofNat (nat_lit 0)))])],
  [(nat_lit 13, nat_lit 1, []), (nat_lit 8, nat_lit 0, []), (nat_lit 5, nat_lit 0, [(nat_lit 0, (.ofNat (nat_lit 0))), (nat_lit 0, (.ofNat (nat_lit 7))), (nat_lit 0, (.ofNat (nat_lit 0)))]), (nat_lit 5, nat_lit 0, [(nat_lit 0, (.ofNat (nat_lit 0))), (nat_lit 0, (.ofNat (nat_lit 5))), (nat_lit 0, (.negSucc (nat_lit 0)))]), (nat_lit 5, nat_lit 0, [(nat_lit 0, (.ofNat (nat_lit 0))), (nat_lit 0, (.ofNat (nat_lit 4))), (nat_lit 0, (.ofNat (nat_lit 0)))]), (nat_lit 5, nat_lit 0, [(nat_lit 0, (.ofNat (nat_lit 0))), (nat_lit 0, (.ofNat (nat_lit 1))), (nat_lit 0, (.ofNat (nat_lit 0)))]), (nat_lit 5, nat_lit 0, [(nat_lit 0, (.ofNat (nat_lit 0))), (nat_lit 0, (.ofNat (nat_lit 6))), (nat_lit 1, (.ofNat (nat_lit 0)))]), (nat_lit 6, nat_lit 5, [(nat_lit 1, (.ofNat (nat_lit 0))), (nat_lit 2, (.ofNat (nat_lit 0)))]), (nat_lit 4, nat_lit 0, [(nat_lit 0, (.ofNat (nat_lit 0))), (nat_lit 0, (.ofNat (nat_lit 1)))]), (nat_lit 6, nat_lit 3, [(nat_lit 1, (.ofNat (nat_lit 0))), (nat_lit 0, (.ofNat (nat_lit 0)))]), (nat_lit 5, nat_lit 0, [(nat_lit 0, (.ofNat (nat_lit 0))), (nat_lit 0, (.ofNat (nat_lit 2))), (nat_lit 0, (.ofNat (nat_lit 0)))])],
  [(nat_lit 12, nat_lit 0, [(nat_lit 1, (.ofNat (nat_lit 0))), (nat_lit 0, (.ofNat (nat_lit 0)))]), (nat_lit 8, nat_lit 1, []), (nat_lit 8, nat_lit 0, []), (nat_lit 5, nat_lit 0, [(nat_lit 0, (.ofNat (nat_lit 0))), (nat_lit 0, (.ofNat (nat_lit 7))), (nat_lit 0, (.ofNat (nat_lit 0)))]), (nat_lit 5, nat_lit 0, [(nat_lit 0, (.ofNat (nat_lit 0))), (nat_lit 0, (.ofNat (nat_lit 5))), (nat_lit 0, (.negSucc (nat_lit 0)))]), (nat_lit 5, nat_lit 0, [(nat_lit 0, (.ofNat (nat_lit 0))), (nat_lit 0, (.ofNat (nat_lit 4))), (nat_lit 0, (.ofNat (nat_lit 0)))]), (nat_lit 5, nat_lit 0, [(nat_lit 0, (.ofNat (nat_lit 0))), (nat_lit 0, (.ofNat (nat_lit 1))), (nat_lit 0, (.ofNat (nat_lit 0)))]), (nat_lit 5, nat_lit 0, [(nat_lit 0, (.ofNat (nat_lit 0))), (nat_lit 0, (.ofNat (nat_lit 6))), (nat_lit 1, (.ofNat (nat_lit 0)))]), (nat_lit 6, nat_lit 5, [(nat_lit 1, (.ofNat (nat_lit 0))), (nat_lit 2, (.ofNat (nat_lit 0)))]), (nat_lit 4, nat_lit 0, [(nat_lit 0, (.ofNat (nat_lit 0))), (nat_lit 0, (.ofNat (nat_lit 1)))]), (nat_lit 6, nat_lit 3, [(nat_lit 1, (.ofNat (nat_lit 0))), (nat_lit 0, (.ofNat (nat_lit 0)))]), (nat_lit 5, nat_lit 0, [(nat_lit 0, (.ofNat (nat_lit 0))), (nat_lit 0, (.ofNat (nat_lit 2))), (nat_lit 0, (.ofNat (nat_lit 0)))])],
  [(nat_lit 11, nat_lit 0, [(nat_lit 0, (.negSucc (nat_lit 1)))]), (nat_lit 6, nat_lit 4, [(nat_lit 1, (.ofNat (nat_lit 0))), (nat_lit 2, (.ofNat (nat_lit 0)))]), (nat_lit 4, nat_lit 0, [(nat_lit 0, (.ofNat (nat_lit 0))), (nat_lit 0, (.ofNat (nat_lit 1)))]), (nat_lit 6, nat_lit 3, [(nat_lit 1, (.ofNat (nat_lit 0))), (nat_lit 0, (.ofNat (nat_lit 0)))]), (nat_lit 5, nat_lit 0, [(nat_lit 0, (.ofNat (nat_lit 0))), (nat_lit 0, (.ofNat (nat_lit 2))), (nat_lit 0, (.ofNat (nat_lit 0)))])]]
def zFne_text : List (List zK) := []
def zDne_text_0 : List (List zK) := []
def zEne_text_0 : List (List zK) := [[(nat_lit 13, nat_lit 3, []), (nat_lit 6, nat_lit 0, [(nat_lit 3, (.ofNat (nat_lit 0))), (nat_lit 0, (.ofNat (nat_lit 0)))]), (nat_lit 4, nat_lit 0, [(nat_lit 0, (.ofNat (nat_lit 0))), (nat_lit 0, (.ofNat (nat_lit 8)))])],
  [(nat_lit 11, nat_lit 0, [(nat_lit 2, (.ofNat (nat_lit 0)))]), (nat_lit 8, nat_lit 3, []), (nat_lit 6, nat_lit 0, [(nat_lit 3, (.ofNat (nat_lit 0))), (nat_lit 0, (.ofNat (nat_lit 0)))]), (nat_lit 4, nat_lit 0, [(nat_lit 0, (.ofNat (nat_lit 0))), (nat_lit 0, (.ofNat (nat_lit 8)))])],
  [(nat_lit 13, nat_lit 2, []), (nat_lit 6, nat_lit 1, [(nat_lit 3, (.ofNat (nat_lit 0))), (nat_lit 0, (.ofNat (nat_lit 0)))]), (nat_lit 4, nat_lit 0, [(nat_lit 0, (.ofNat (nat_lit 0))), (nat_lit 0, (.ofNat (nat_lit 8)))])],
  [(nat_lit 11, nat_lit 0, [(nat_lit 0, (.negSucc (nat_lit 0)))]), (nat_lit 6, nat_lit 0, [(nat_lit 4, (.ofNat (nat_lit 0))), (nat_lit 0, (.ofNat (nat_lit 0)))]), (nat_lit 8, nat_lit 2, []), (nat_lit 6, nat_lit 1, [(nat_lit 3, (.ofNat (nat_lit 0))), (nat_lit 0, (.ofNat (nat_lit 0)))]), (nat_lit 4, nat_lit 0, [(nat_lit 0, (.ofNat (nat_lit 0))), (nat_lit 0, (.ofNat (nat_lit 8)))])]]
def zFne_text_0 : List (List zK) := [[(nat_lit 10, nat_lit 0, [(nat_lit 1, (.ofNat (nat_lit 0))), (nat_lit 5, (.ofNat (nat_lit 0)))]), (nat_lit 0, nat_lit 1, [(nat_lit 2, (.ofNat (nat_lit 0))), (nat_lit 0, (.ofNat (nat_lit 1)))]), (nat_lit 6, nat_lit 1, [(nat_lit 4, (.ofNat (nat_lit 0))), (nat_lit 0, (.ofNat (nat_lit 0)))]), (nat_lit 8, nat_lit 2, []), (nat_lit 6, nat_lit 1, [(nat_lit 3, (.ofNat (nat_lit 0))), (nat_lit 0, (.ofNat (nat_lit 0)))]), (nat_lit 4, nat_lit 0, [(nat_lit 0, (.ofNat (nat_lit 0))), (nat_lit 0, (.ofNat (nat_lit 8)))])]]
set_option maxHeartbeats 8000000 in
theorem zne_text_o0 {ro : Nat → List Int32} (x1 : Int) (η : zE) (hp : sP wl_ne zTr zPne_text [x1] η) (hpp : pPne_text [x1] η) : ∀ η1 : zE, η1 = zup η 0 (Int.toNat 2) 0 → (x1 < 0) → (fun (_ : Nat) (y : Int) (η' : zE) => pQne_text [x1] η y η') 0 (-2) η1 := by
  intro η1 eη1 c1
  refine yj_a ?_ ?_
  · have bx1 : ((-2147483648) : Int) ≤ x1 ∧ x1 ≤ 2147483647 := hp.2.1.1
    have fm1 : zFm zMne_text η η1 := by rw [eη1]; exact zFm_up zFm_rf rfl
    have fmE : zFm zMne_text η η1 := fm1
    have v0 : ∀ j, η1 2 j = η 2 j := fun j => by rw [eη1]; exact zup_ne (fun e _ => absurd e (by decide))
    have fr2 : ∀ j, η1 2 j = η 2 j := v0
    have v1 : ∀ j, η1 19 j = η 19 j := fun j => by rw [eη1]; exact zup_ne (fun e _ => absurd e (by decide))
    have fr19 : ∀ j, η1 19 j = η 19 j := v1
    have v2 : ∀ j, η1 20 j = η 20 j := fun j => by rw [eη1]; exact zup_ne (fun e _ => absurd e (by decide))
    have fr20 : ∀ j, η1 20 j = η 20 j := v2
    have v3 : ∀ j, η1 21 j = η 21 j := fun j => by rw [eη1]; exact zup_ne (fun e _ => absurd e (by decide))
    have fr21 : ∀ j, η1 21 j = η 21 j := v3
    have v4 : ∀ j, η1 16 j = η 16 j := fun j => by rw [eη1]; exact zup_ne (fun e _ => absurd e (by decide))
    have fr16 : ∀ j, η1 16 j = η 16 j := v4
    have v5 : ∀ j, η1 18 j = η 18 j := fun j => by rw [eη1]; exact zup_ne (fun e _ => absurd e (by decide))
    have fr18 : ∀ j, η1 18 j = η 18 j := v5
    have w0_0_7 : (0 : Int) ≤ η 0 7 ∧ η 0 7 ≤ 700 := wf_ok (a := 7) (b := 7) (z := (0, 700)) hp.1 (by decide +kernel) (Nat.le_refl _) (Nat.le_refl _)
    have v7 : zEq (η1 0 7) (η 0 7) := by rw [eη1]; exact (zup_ne (fun _ e => absurd e (by decide))).trans rfl
    have f0_7 : η1 0 7 = η 0 7 := v7
    have w0_0_6 : (0 : Int) ≤ η 0 6 ∧ η 0 6 ≤ 700 := wf_ok (a := 6) (b := 6) (z := (0, 700)) hp.1 (by decide +kernel) (Nat.le_refl _) (Nat.le_refl _)
    have v9 : zEq (η1 0 6) (η 0 6) := by rw [eη1]; exact (zup_ne (fun _ e => absurd e (by decide))).trans rfl
    have f0_6 : η1 0 6 = η 0 6 := v9
    have w0_0_8 : (0 : Int) ≤ η 0 8 ∧ η 0 8 ≤ 6 := wf_ok (a := 8) (b := 8) (z := (0, 6)) hp.1 (by decide +kernel) (Nat.le_refl _) (Nat.le_refl _)
    have v11 : zEq (η1 0 8) (η 0 8) := by rw [eη1]; exact (zup_ne (fun _ e => absurd e (by decide))).trans rfl
    have f0_8 : η1 0 8 = η 0 8 := v11
    have v13 : zEq (η1 0 9) (η 0 9) := by rw [eη1]; exact (zup_ne (fun _ e => absurd e (by decide))).trans rfl
    have f0_9 : η1 0 9 = η 0 9 := v13
    have w0_0_1 : (0 : Int) ≤ η 0 1 ∧ η 0 1 ≤ 700 := wf_ok (a := 1) (b := 1) (z := (0, 700)) hp.1 (by decide +kernel) (Nat.le_refl _) (Nat.le_refl _)
    have v15 : zEq (η1 0 1) (η 0 1) := by rw [eη1]; exact (zup_ne (fun _ e => absurd e (by decide))).trans rfl
    have f0_1 : η1 0 1 = η 0 1 := v15
    exact ⟨⟨by rw [eη1]; exact zGk_upc gk_k hpp.1 (by decide +kernel), by rw [eη1]; exact zGk_upc tk_l hpp.2.1 (by decide +kernel), by rw [eη1]; exact zGk_upc plk_n hpp.2.2 (by decide +kernel)⟩, fun w => absurd (show (0 : Int) ≤ x1 from w.1) (by omega), fun _ => f0_1⟩
  · have eη1 : η1 = zup η 0 2 0 := eη1
    subst eη1
    show yq_t x1 η _ _
    exact ⟨fun _ => ⟨rfl, rfl, rfl⟩, fun a b => by omega⟩
set_option maxHeartbeats 8000000 in
theorem zne_text_o1 {ro : Nat → List Int32} (x1 : Int) (η : zE) (hp : sP wl_ne zTr zPne_text [x1] η) (hpp : pPne_text [x1] η) : ∀ η1 : zE, η1 = zup η 0 (Int.toNat 2) 0 → (0 ≤ x1) → ∀ x2 : Int, x2 = η1 0 (Int.toNat 1) → zok 0 x2 → (x1 ≤ x2) → ∀ η2 : zE, η2 = zup η1 0 (Int.toNat 6) x1 → ∀ η3 : zE, η3 = zup η2 0 (Int.toNat 1) 0 → ∀ η4 : zE, η4 = zup η3 0 (Int.toNat 4) 0 → ∀ η5 : zE, η5 = zup η4 0 (Int.toNat 5) (-1) → ∀ η6 : zE, η6 = zup η5 0 (Int.toNat 7) 0 → ((gC2 wl_ne [(nat_lit 0, zPne_plain, zOne_plain, zMne_plain), (nat_lit 1, zPne_token, zOne_token, zMne_token), (nat_lit 2, zPne_lineRead, zOne_lineRead, zMne_lineRead), (nat_lit 3, zPne_keepText, zOne_keepText, zMne_keepText)] pCne_text qCne_text) 0).1 [] η6 := by
  intro η1 eη1 c1 x2 e2 r2 c2 η2 eη2 η3 eη3 η4 eη4 η5 eη5 η6 eη6
  have bx1 : ((-2147483648) : Int) ≤ x1 ∧ x1 ≤ 2147483647 := hp.2.1.1
  have w0_0_1 : (0 : Int) ≤ η 0 1 ∧ η 0 1 ≤ 700 := wf_ok (a := 1) (b := 1) (z := (0, 700)) hp.1 (by decide +kernel) (Nat.le_refl _) (Nat.le_refl _)
  have v1 : zEq (η1 0 1) (η 0 1) := by rw [eη1]; exact (zup_ne (fun _ e => absurd e (by decide))).trans rfl
  replace e2 : x2 = η 0 1 := e2.trans v1
  have w0_0_6 : (0 : Int) ≤ η 0 6 ∧ η 0 6 ≤ 700 := wf_ok (a := 6) (b := 6) (z := (0, 700)) hp.1 (by decide +kernel) (Nat.le_refl _) (Nat.le_refl _)
  have v3 : zEq (η1 0 6) (η 0 6) := by rw [eη1]; exact (zup_ne (fun _ e => absurd e (by decide))).trans rfl
  have c1_0_6 : η1 0 6 = η 0 6 := v3
  have v4 : zEq (η2 0 1) (η 0 1) := by rw [eη2]; exact (zup_ne (fun _ e => absurd e (by decide))).trans v1
  have c2_0_1 : η2 0 1 = η 0 1 := v4
  have w0_0_7 : (0 : Int) ≤ η 0 7 ∧ η 0 7 ≤ 700 := wf_ok (a := 7) (b := 7) (z := (0, 700)) hp.1 (by decide +kernel) (Nat.le_refl _) (Nat.le_refl _)
  have v6 : zEq (η1 0 7) (η 0 7) := by rw [eη1]; exact (zup_ne (fun _ e => absurd e (by decide))).trans rfl
  have v7 : zEq (η2 0 7) (η 0 7) := by rw [eη2]; exact (zup_ne (fun _ e => absurd e (by decide))).trans v6
  have v8 : zEq (η3 0 7) (η 0 7) := by rw [eη3]; exact (zup_ne (fun _ e => absurd e (by decide))).trans v7
  have v9 : zEq (η4 0 7) (η 0 7) := by rw [eη4]; exact (zup_ne (fun _ e => absurd e (by decide))).trans v8
  have v10 : zEq (η5 0 7) (η 0 7) := by rw [eη5]; exact (zup_ne (fun _ e => absurd e (by decide))).trans v9
  have c5_0_7 : η5 0 7 = η 0 7 := v10
  have fm1 : zFm zMne_text η η1 := by rw [eη1]; exact zFm_up zFm_rf rfl
  have fm2 : zFm zMne_text η η2 := by rw [eη2]; exact zFm_up fm1 rfl
  have fm3 : zFm zMne_text η η3 := by rw [eη3]; exact zFm_up fm2 rfl
  have fm4 : zFm zMne_text η η4 := by rw [eη4]; exact zFm_up fm3 rfl
  have fm5 : zFm zMne_text η η5 := by rw [eη5]; exact zFm_up fm4 rfl
  have fm6 : zFm zMne_text η η6 := by rw [eη6]; exact zFm_up fm5 rfl
  have fmE : zFm zMne_text η η6 := fm6
  have v11 : ∀ j, η1 2 j = η 2 j := fun j => by rw [eη1]; exact zup_ne (fun e _ => absurd e (by decide))
  have v12 : ∀ j, η2 2 j = η 2 j := fun j => by rw [eη2]; exact (zup_ne (fun e _ => absurd e (by decide))).trans (v11 j)
  have v13 : ∀ j, η3 2 j = η 2 j := fun j => by rw [eη3]; exact (zup_ne (fun e _ => absurd e (by decide))).trans (v12 j)
  have v14 : ∀ j, η4 2 j = η 2 j := fun j => by rw [eη4]; exact (zup_ne (fun e _ => absurd e (by decide))).trans (v13 j)
  have v15 : ∀ j, η5 2 j = η 2 j := fun j => by rw [eη5]; exact (zup_ne (fun e _ => absurd e (by decide))).trans (v14 j)
  have v16 : ∀ j, η6 2 j = η 2 j := fun j => by rw [eη6]; exact (zup_ne (fun e _ => absurd e (by decide))).trans (v15 j)
  have fr2 : ∀ j, η6 2 j = η 2 j := v16
  have v17 : ∀ j, η1 19 j = η 19 j := fun j => by rw [eη1]; exact zup_ne (fun e _ => absurd e (by decide))
  have v18 : ∀ j, η2 19 j = η 19 j := fun j => by rw [eη2]; exact (zup_ne (fun e _ => absurd e (by decide))).trans (v17 j)
  have v19 : ∀ j, η3 19 j = η 19 j := fun j => by rw [eη3]; exact (zup_ne (fun e _ => absurd e (by decide))).trans (v18 j)
  have v20 : ∀ j, η4 19 j = η 19 j := fun j => by rw [eη4]; exact (zup_ne (fun e _ => absurd e (by decide))).trans (v19 j)
  have v21 : ∀ j, η5 19 j = η 19 j := fun j => by rw [eη5]; exact (zup_ne (fun e _ => absurd e (by decide))).trans (v20 j)
  have v22 : ∀ j, η6 19 j = η 19 j := fun j => by rw [eη6]; exact (zup_ne (fun e _ => absurd e (by decide))).trans (v21 j)
  have fr19 : ∀ j, η6 19 j = η 19 j := v22
  have v23 : ∀ j, η1 20 j = η 20 j := fun j => by rw [eη1]; exact zup_ne (fun e _ => absurd e (by decide))
  have v24 : ∀ j, η2 20 j = η 20 j := fun j => by rw [eη2]; exact (zup_ne (fun e _ => absurd e (by decide))).trans (v23 j)
  have v25 : ∀ j, η3 20 j = η 20 j := fun j => by rw [eη3]; exact (zup_ne (fun e _ => absurd e (by decide))).trans (v24 j)
  have v26 : ∀ j, η4 20 j = η 20 j := fun j => by rw [eη4]; exact (zup_ne (fun e _ => absurd e (by decide))).trans (v25 j)
  have v27 : ∀ j, η5 20 j = η 20 j := fun j => by rw [eη5]; exact (zup_ne (fun e _ => absurd e (by decide))).trans (v26 j)
  have v28 : ∀ j, η6 20 j = η 20 j := fun j => by rw [eη6]; exact (zup_ne (fun e _ => absurd e (by decide))).trans (v27 j)
  have fr20 : ∀ j, η6 20 j = η 20 j := v28
  have v29 : ∀ j, η1 21 j = η 21 j := fun j => by rw [eη1]; exact zup_ne (fun e _ => absurd e (by decide))
  have v30 : ∀ j, η2 21 j = η 21 j := fun j => by rw [eη2]; exact (zup_ne (fun e _ => absurd e (by decide))).trans (v29 j)
  have v31 : ∀ j, η3 21 j = η 21 j := fun j => by rw [eη3]; exact (zup_ne (fun e _ => absurd e (by decide))).trans (v30 j)
  have v32 : ∀ j, η4 21 j = η 21 j := fun j => by rw [eη4]; exact (zup_ne (fun e _ => absurd e (by decide))).trans (v31 j)
  have v33 : ∀ j, η5 21 j = η 21 j := fun j => by rw [eη5]; exact (zup_ne (fun e _ => absurd e (by decide))).trans (v32 j)
  have v34 : ∀ j, η6 21 j = η 21 j := fun j => by rw [eη6]; exact (zup_ne (fun e _ => absurd e (by decide))).trans (v33 j)
  have fr21 : ∀ j, η6 21 j = η 21 j := v34
  have v35 : ∀ j, η1 16 j = η 16 j := fun j => by rw [eη1]; exact zup_ne (fun e _ => absurd e (by decide))
  have v36 : ∀ j, η2 16 j = η 16 j := fun j => by rw [eη2]; exact (zup_ne (fun e _ => absurd e (by decide))).trans (v35 j)
  have v37 : ∀ j, η3 16 j = η 16 j := fun j => by rw [eη3]; exact (zup_ne (fun e _ => absurd e (by decide))).trans (v36 j)
  have v38 : ∀ j, η4 16 j = η 16 j := fun j => by rw [eη4]; exact (zup_ne (fun e _ => absurd e (by decide))).trans (v37 j)
  have v39 : ∀ j, η5 16 j = η 16 j := fun j => by rw [eη5]; exact (zup_ne (fun e _ => absurd e (by decide))).trans (v38 j)
  have v40 : ∀ j, η6 16 j = η 16 j := fun j => by rw [eη6]; exact (zup_ne (fun e _ => absurd e (by decide))).trans (v39 j)
  have fr16 : ∀ j, η6 16 j = η 16 j := v40
  have v41 : ∀ j, η1 18 j = η 18 j := fun j => by rw [eη1]; exact zup_ne (fun e _ => absurd e (by decide))
  have v42 : ∀ j, η2 18 j = η 18 j := fun j => by rw [eη2]; exact (zup_ne (fun e _ => absurd e (by decide))).trans (v41 j)
  have v43 : ∀ j, η3 18 j = η 18 j := fun j => by rw [eη3]; exact (zup_ne (fun e _ => absurd e (by decide))).trans (v42 j)
  have v44 : ∀ j, η4 18 j = η 18 j := fun j => by rw [eη4]; exact (zup_ne (fun e _ => absurd e (by decide))).trans (v43 j)
  have v45 : ∀ j, η5 18 j = η 18 j := fun j => by rw [eη5]; exact (zup_ne (fun e _ => absurd e (by decide))).trans (v44 j)
  have v46 : ∀ j, η6 18 j = η 18 j := fun j => by rw [eη6]; exact (zup_ne (fun e _ => absurd e (by decide))).trans (v45 j)
  have fr18 : ∀ j, η6 18 j = η 18 j := v46
  have v47 : zEq (η6 0 7) (0) := by rw [eη6]; exact zup_eq
  have f0_7 : η6 0 7 = 0 := v47
  have v48 : zEq (η2 0 6) (x1) := by rw [eη2]; exact zup_eq
  have v49 : zEq (η3 0 6) (x1) := by rw [eη3]; exact (zup_ne (fun _ e => absurd e (by decide))).trans v48
  have v50 : zEq (η4 0 6) (x1) := by rw [eη4]; exact (zup_ne (fun _ e => absurd e (by decide))).trans v49
  have v51 : zEq (η5 0 6) (x1) := by rw [eη5]; exact (zup_ne (fun _ e => absurd e (by decide))).trans v50
  have v52 : zEq (η6 0 6) (x1) := by rw [eη6]; exact (zup_ne (fun _ e => absurd e (by decide))).trans v51
  have f0_6 : η6 0 6 = x1 := v52
  have w0_0_8 : (0 : Int) ≤ η 0 8 ∧ η 0 8 ≤ 6 := wf_ok (a := 8) (b := 8) (z := (0, 6)) hp.1 (by decide +kernel) (Nat.le_refl _) (Nat.le_refl _)
  have v54 : zEq (η1 0 8) (η 0 8) := by rw [eη1]; exact (zup_ne (fun _ e => absurd e (by decide))).trans rfl
  have v55 : zEq (η2 0 8) (η 0 8) := by rw [eη2]; exact (zup_ne (fun _ e => absurd e (by decide))).trans v54
  have v56 : zEq (η3 0 8) (η 0 8) := by rw [eη3]; exact (zup_ne (fun _ e => absurd e (by decide))).trans v55
  have v57 : zEq (η4 0 8) (η 0 8) := by rw [eη4]; exact (zup_ne (fun _ e => absurd e (by decide))).trans v56
  have v58 : zEq (η5 0 8) (η 0 8) := by rw [eη5]; exact (zup_ne (fun _ e => absurd e (by decide))).trans v57
  have v59 : zEq (η6 0 8) (η 0 8) := by rw [eη6]; exact (zup_ne (fun _ e => absurd e (by decide))).trans v58
  have f0_8 : η6 0 8 = η 0 8 := v59
  have v61 : zEq (η1 0 9) (η 0 9) := by rw [eη1]; exact (zup_ne (fun _ e => absurd e (by decide))).trans rfl
  have v62 : zEq (η2 0 9) (η 0 9) := by rw [eη2]; exact (zup_ne (fun _ e => absurd e (by decide))).trans v61
  have v63 : zEq (η3 0 9) (η 0 9) := by rw [eη3]; exact (zup_ne (fun _ e => absurd e (by decide))).trans v62
  have v64 : zEq (η4 0 9) (η 0 9) := by rw [eη4]; exact (zup_ne (fun _ e => absurd e (by decide))).trans v63
  have v65 : zEq (η5 0 9) (η 0 9) := by rw [eη5]; exact (zup_ne (fun _ e => absurd e (by decide))).trans v64
  have v66 : zEq (η6 0 9) (η 0 9) := by rw [eη6]; exact (zup_ne (fun _ e => absurd e (by decide))).trans v65
  have f0_9 : η6 0 9 = η 0 9 := v66
  have v67 : zEq (η3 0 1) (0) := by rw [eη3]; exact zup_eq
  have v68 : zEq (η4 0 1) (0) := by rw [eη4]; exact (zup_ne (fun _ e => absurd e (by decide))).trans v67
  have v69 : zEq (η5 0 1) (0) := by rw [eη5]; exact (zup_ne (fun _ e => absurd e (by decide))).trans v68
  have v70 : zEq (η6 0 1) (0) := by rw [eη6]; exact (zup_ne (fun _ e => absurd e (by decide))).trans v69
  have f0_1 : η6 0 1 = 0 := v70
  exact ⟨gk_of hpp.1 (show η6 0 7 ≤ η6 0 6 by omega) (by rw [f0_8, f0_9]; exact hpp.1.2.1) fr2, by rw [eη6, eη5, eη4, eη3, eη2, eη1]; exact (zGk_upc tk_l (zGk_upc tk_l (zGk_upc tk_l (zGk_upc tk_l (zGk_upc tk_l (zGk_upc tk_l hpp.2.1 (by decide +kernel)) (by decide +kernel)) (by decide +kernel)) (by decide +kernel)) (by decide +kernel)) (by decide +kernel)), by rw [eη6, eη5, eη4, eη3, eη2, eη1]; exact (zGk_upc plk_n (zGk_upc plk_n (zGk_upc plk_n (zGk_upc plk_n (zGk_upc plk_n (zGk_upc plk_n hpp.2.2 (by decide +kernel)) (by decide +kernel)) (by decide +kernel)) (by decide +kernel)) (by decide +kernel)) (by decide +kernel))⟩
set_option maxHeartbeats 8000000 in
theorem zne_text_o2 {ro : Nat → List Int32} (x1 : Int) (η : zE) (hp : sP wl_ne zTr zPne_text [x1] η) (hpp : pPne_text [x1] η) : ∀ η1 : zE, η1 = zup η 0 (Int.toNat 2) 0 → (0 ≤ x1) → ∀ x2 : Int, x2 = η1 0 (Int.toNat 1) → zok 0 x2 → (x1 ≤ x2) → ∀ η2 : zE, η2 = zup η1 0 (Int.toNat 6) x1 → ∀ η3 : zE, η3 = zup η2 0 (Int.toNat 1) 0 → ∀ η4 : zE, η4 = zup η3 0 (Int.toNat 4) 0 → ∀ η5 : zE, η5 = zup η4 0 (Int.toNat 5) (-1) → ∀ η6 : zE, η6 = zup η5 0 (Int.toNat 7) 0 → ∀ (x3 : Int) (η7 : zE), ((gC2 wl_ne [(nat_lit 0, zPne_plain, zOne_plain, zMne_plain), (nat_lit 1, zPne_token, zOne_token, zMne_token), (nat_lit 2, zPne_lineRead, zOne_lineRead, zMne_lineRead), (nat_lit 3, zPne_keepText, zOne_keepText, zMne_keepText)] pCne_text qCne_text) 0).2 [] η6 x3 η7 → ((gC2 wl_ne [(nat_lit 0, zPne_plain, zOne_plain, zMne_plain), (nat_lit 1, zPne_token, zOne_token, zMne_token), (nat_lit 2, zPne_lineRead, zOne_lineRead, zMne_lineRead), (nat_lit 3, zPne_keepText, zOne_keepText, zMne_keepText)] pCne_text qCne_text) 1).1 [] η7 := by
  intro η1 eη1 c1 x2 e2 r2 c2 η2 eη2 η3 eη3 η4 eη4 η5 eη5 η6 eη6 x3 η7 h3
  have y3 : fQne_plain [] η6 x3 η7 := h3.2.2
  have k3 : sQ wl_ne zTr zOne_plain zMne_plain [] η6 x3 η7 ∧ oQne_plain [] η6 x3 η7 := ⟨h3.1, h3.2.1⟩
  exact k3.2
set_option maxHeartbeats 8000000 in
theorem zne_text_o3 {ro : Nat → List Int32} (x1 : Int) (η : zE) (hp : sP wl_ne zTr zPne_text [x1] η) (hpp : pPne_text [x1] η) : ∀ η1 : zE, η1 = zup η 0 (Int.toNat 2) 0 → (0 ≤ x1) → ∀ x2 : Int, x2 = η1 0 (Int.toNat 1) → zok 0 x2 → (x1 ≤ x2) → ∀ η2 : zE, η2 = zup η1 0 (Int.toNat 6) x1 → ∀ η3 : zE, η3 = zup η2 0 (Int.toNat 1) 0 → ∀ η4 : zE, η4 = zup η3 0 (Int.toNat 4) 0 → ∀ η5 : zE, η5 = zup η4 0 (Int.toNat 5) (-1) → ∀ η6 : zE, η6 = zup η5 0 (Int.toNat 7) 0 → ∀ (x3 : Int) (η7 : zE), ((gC2 wl_ne [(nat_lit 0, zPne_plain, zOne_plain, zMne_plain), (nat_lit 1, zPne_token, zOne_token, zMne_token), (nat_lit 2, zPne_lineRead, zOne_lineRead, zMne_lineRead), (nat_lit 3, zPne_keepText, zOne_keepText, zMne_keepText)] pCne_text qCne_text) 0).2 [] η6 x3 η7 → ∀ (x4 : Int) (η8 : zE), ((gC2 wl_ne [(nat_lit 0, zPne_plain, zOne_plain, zMne_plain), (nat_lit 1, zPne_token, zOne_token, zMne_token), (nat_lit 2, zPne_lineRead, zOne_lineRead, zMne_lineRead), (nat_lit 3, zPne_keepText, zOne_keepText, zMne_keepText)] pCne_text qCne_text) 1).2 [] η7 x4 η8 → (iCne_text [x1] η) 0 [x1, 0] η8 := by
  intro η1 eη1 c1 x2 e2 r2 c2 η2 eη2 η3 eη3 η4 eη4 η5 eη5 η6 eη6 x3 η7 h3 x4 η8 h4
  have y3 : fQne_plain [] η6 x3 η7 := h3.2.2
  have k3 : sQ wl_ne zTr zOne_plain zMne_plain [] η6 x3 η7 ∧ oQne_plain [] η6 x3 η7 := ⟨h3.1, h3.2.1⟩
  have y4 : fQne_token [] η7 x4 η8 := h4.2.2
  have k4 : sQ wl_ne zTr zOne_token zMne_token [] η7 x4 η8 ∧ oQne_token [] η7 x4 η8 := ⟨h4.1, h4.2.1⟩
  refine yj_a ?_ ?_
  · have y3 : fQne_plain [] η6 x3 η7 := h3.2.2
    have k3 : sQ wl_ne zTr zOne_plain zMne_plain [] η6 x3 η7 ∧ oQne_plain [] η6 x3 η7 := ⟨h3.1, h3.2.1⟩
    have y4 : fQne_token [] η7 x4 η8 := h4.2.2
    have k4 : sQ wl_ne zTr zOne_token zMne_token [] η7 x4 η8 ∧ oQne_token [] η7 x4 η8 := ⟨h4.1, h4.2.1⟩
    have bx1 : ((-2147483648) : Int) ≤ x1 ∧ x1 ≤ 2147483647 := hp.2.1.1
    have w0_0_1 : (0 : Int) ≤ η 0 1 ∧ η 0 1 ≤ 700 := wf_ok (a := 1) (b := 1) (z := (0, 700)) hp.1 (by decide +kernel) (Nat.le_refl _) (Nat.le_refl _)
    have v1 : zEq (η1 0 1) (η 0 1) := by rw [eη1]; exact (zup_ne (fun _ e => absurd e (by decide))).trans rfl
    replace e2 : x2 = η 0 1 := e2.trans v1
    have w0_0_6 : (0 : Int) ≤ η 0 6 ∧ η 0 6 ≤ 700 := wf_ok (a := 6) (b := 6) (z := (0, 700)) hp.1 (by decide +kernel) (Nat.le_refl _) (Nat.le_refl _)
    have v3 : zEq (η1 0 6) (η 0 6) := by rw [eη1]; exact (zup_ne (fun _ e => absurd e (by decide))).trans rfl
    have c1_0_6 : η1 0 6 = η 0 6 := v3
    have v4 : zEq (η2 0 1) (η 0 1) := by rw [eη2]; exact (zup_ne (fun _ e => absurd e (by decide))).trans v1
    have c2_0_1 : η2 0 1 = η 0 1 := v4
    have w0_0_7 : (0 : Int) ≤ η 0 7 ∧ η 0 7 ≤ 700 := wf_ok (a := 7) (b := 7) (z := (0, 700)) hp.1 (by decide +kernel) (Nat.le_refl _) (Nat.le_refl _)
    have v6 : zEq (η1 0 7) (η 0 7) := by rw [eη1]; exact (zup_ne (fun _ e => absurd e (by decide))).trans rfl
    have v7 : zEq (η2 0 7) (η 0 7) := by rw [eη2]; exact (zup_ne (fun _ e => absurd e (by decide))).trans v6
    have v8 : zEq (η3 0 7) (η 0 7) := by rw [eη3]; exact (zup_ne (fun _ e => absurd e (by decide))).trans v7
    have v9 : zEq (η4 0 7) (η 0 7) := by rw [eη4]; exact (zup_ne (fun _ e => absurd e (by decide))).trans v8
    have v10 : zEq (η5 0 7) (η 0 7) := by rw [eη5]; exact (zup_ne (fun _ e => absurd e (by decide))).trans v9
    have c5_0_7 : η5 0 7 = η 0 7 := v10
    have bx3 : (0 : Int) ≤ x3 ∧ x3 ≤ 0 := k3.1.2.1
    have bx4 : (0 : Int) ≤ x4 ∧ x4 ≤ 0 := k4.1.2.1
    have fm1 : zFm zMne_text η η1 := by rw [eη1]; exact zFm_up zFm_rf rfl
    have fm2 : zFm zMne_text η η2 := by rw [eη2]; exact zFm_up fm1 rfl
    have fm3 : zFm zMne_text η η3 := by rw [eη3]; exact zFm_up fm2 rfl
    have fm4 : zFm zMne_text η η4 := by rw [eη4]; exact zFm_up fm3 rfl
    have fm5 : zFm zMne_text η η5 := by rw [eη5]; exact zFm_up fm4 rfl
    have fm6 : zFm zMne_text η η6 := by rw [eη6]; exact zFm_up fm5 rfl
    have fm7 : zFm zMne_text η η7 := zFm_tr2 fm6 k3.1.2.2.2.1 (by decide +kernel)
    have fm8 : zFm zMne_text η η8 := zFm_tr2 fm7 k4.1.2.2.2.1 (by decide +kernel)
    have fmE : zFm zMne_text η η8 := fm8
    have v11 : ∀ j, η1 2 j = η 2 j := fun j => by rw [eη1]; exact zup_ne (fun e _ => absurd e (by decide))
    have v12 : ∀ j, η2 2 j = η 2 j := fun j => by rw [eη2]; exact (zup_ne (fun e _ => absurd e (by decide))).trans (v11 j)
    have v13 : ∀ j, η3 2 j = η 2 j := fun j => by rw [eη3]; exact (zup_ne (fun e _ => absurd e (by decide))).trans (v12 j)
    have v14 : ∀ j, η4 2 j = η 2 j := fun j => by rw [eη4]; exact (zup_ne (fun e _ => absurd e (by decide))).trans (v13 j)
    have v15 : ∀ j, η5 2 j = η 2 j := fun j => by rw [eη5]; exact (zup_ne (fun e _ => absurd e (by decide))).trans (v14 j)
    have v16 : ∀ j, η6 2 j = η 2 j := fun j => by rw [eη6]; exact (zup_ne (fun e _ => absurd e (by decide))).trans (v15 j)
    have v17 : ∀ j, η7 2 j = η 2 j := fun j => (k3.1.2.2.2.1 2 _ (zinr_not (by decide +kernel))).trans (v16 j)
    have v18 : ∀ j, η8 2 j = η 2 j := fun j => (k4.1.2.2.2.1 2 _ (zinr_not (by decide +kernel))).trans (v17 j)
    have fr2 : ∀ j, η8 2 j = η 2 j := v18
    have v19 : ∀ j, η1 19 j = η 19 j := fun j => by rw [eη1]; exact zup_ne (fun e _ => absurd e (by decide))
    have v20 : ∀ j, η2 19 j = η 19 j := fun j => by rw [eη2]; exact (zup_ne (fun e _ => absurd e (by decide))).trans (v19 j)
    have v21 : ∀ j, η3 19 j = η 19 j := fun j => by rw [eη3]; exact (zup_ne (fun e _ => absurd e (by decide))).trans (v20 j)
    have v22 : ∀ j, η4 19 j = η 19 j := fun j => by rw [eη4]; exact (zup_ne (fun e _ => absurd e (by decide))).trans (v21 j)
    have v23 : ∀ j, η5 19 j = η 19 j := fun j => by rw [eη5]; exact (zup_ne (fun e _ => absurd e (by decide))).trans (v22 j)
    have v24 : ∀ j, η6 19 j = η 19 j := fun j => by rw [eη6]; exact (zup_ne (fun e _ => absurd e (by decide))).trans (v23 j)
    have v25 : ∀ j, η7 19 j = η 19 j := fun j => (k3.1.2.2.2.1 19 _ (zinr_not (by decide +kernel))).trans (v24 j)
    have v26 : ∀ j, η8 19 j = η 19 j := fun j => (k4.1.2.2.2.1 19 _ (zinr_not (by decide +kernel))).trans (v25 j)
    have fr19 : ∀ j, η8 19 j = η 19 j := v26
    have v27 : ∀ j, η1 20 j = η 20 j := fun j => by rw [eη1]; exact zup_ne (fun e _ => absurd e (by decide))
    have v28 : ∀ j, η2 20 j = η 20 j := fun j => by rw [eη2]; exact (zup_ne (fun e _ => absurd e (by decide))).trans (v27 j)
    have v29 : ∀ j, η3 20 j = η 20 j := fun j => by rw [eη3]; exact (zup_ne (fun e _ => absurd e (by decide))).trans (v28 j)
    have v30 : ∀ j, η4 20 j = η 20 j := fun j => by rw [eη4]; exact (zup_ne (fun e _ => absurd e (by decide))).trans (v29 j)
    have v31 : ∀ j, η5 20 j = η 20 j := fun j => by rw [eη5]; exact (zup_ne (fun e _ => absurd e (by decide))).trans (v30 j)
    have v32 : ∀ j, η6 20 j = η 20 j := fun j => by rw [eη6]; exact (zup_ne (fun e _ => absurd e (by decide))).trans (v31 j)
    have v33 : ∀ j, η7 20 j = η 20 j := fun j => (k3.1.2.2.2.1 20 _ (zinr_not (by decide +kernel))).trans (v32 j)
    have v34 : ∀ j, η8 20 j = η 20 j := fun j => (k4.1.2.2.2.1 20 _ (zinr_not (by decide +kernel))).trans (v33 j)
    have fr20 : ∀ j, η8 20 j = η 20 j := v34
    have v35 : ∀ j, η1 21 j = η 21 j := fun j => by rw [eη1]; exact zup_ne (fun e _ => absurd e (by decide))
    have v36 : ∀ j, η2 21 j = η 21 j := fun j => by rw [eη2]; exact (zup_ne (fun e _ => absurd e (by decide))).trans (v35 j)
    have v37 : ∀ j, η3 21 j = η 21 j := fun j => by rw [eη3]; exact (zup_ne (fun e _ => absurd e (by decide))).trans (v36 j)
    have v38 : ∀ j, η4 21 j = η 21 j := fun j => by rw [eη4]; exact (zup_ne (fun e _ => absurd e (by decide))).trans (v37 j)
    have v39 : ∀ j, η5 21 j = η 21 j := fun j => by rw [eη5]; exact (zup_ne (fun e _ => absurd e (by decide))).trans (v38 j)
    have v40 : ∀ j, η6 21 j = η 21 j := fun j => by rw [eη6]; exact (zup_ne (fun e _ => absurd e (by decide))).trans (v39 j)
    have v41 : ∀ j, η7 21 j = η 21 j := fun j => (k3.1.2.2.2.1 21 _ (zinr_not (by decide +kernel))).trans (v40 j)
    have v42 : ∀ j, η8 21 j = η 21 j := fun j => (k4.1.2.2.2.1 21 _ (zinr_not (by decide +kernel))).trans (v41 j)
    have fr21 : ∀ j, η8 21 j = η 21 j := v42
    have v44 : ∀ j, η8 16 j = η7 16 j := fun j => k4.1.2.2.2.1 16 _ (zinr_not (by decide +kernel))
    have fr16 : ∀ j, η8 16 j = η7 16 j := v44
    have v45 : ∀ j, η1 18 j = η 18 j := fun j => by rw [eη1]; exact zup_ne (fun e _ => absurd e (by decide))
    have v46 : ∀ j, η2 18 j = η 18 j := fun j => by rw [eη2]; exact (zup_ne (fun e _ => absurd e (by decide))).trans (v45 j)
    have v47 : ∀ j, η3 18 j = η 18 j := fun j => by rw [eη3]; exact (zup_ne (fun e _ => absurd e (by decide))).trans (v46 j)
    have v48 : ∀ j, η4 18 j = η 18 j := fun j => by rw [eη4]; exact (zup_ne (fun e _ => absurd e (by decide))).trans (v47 j)
    have v49 : ∀ j, η5 18 j = η 18 j := fun j => by rw [eη5]; exact (zup_ne (fun e _ => absurd e (by decide))).trans (v48 j)
    have v50 : ∀ j, η6 18 j = η 18 j := fun j => by rw [eη6]; exact (zup_ne (fun e _ => absurd e (by decide))).trans (v49 j)
    have v51 : ∀ j, η7 18 j = η 18 j := fun j => (k3.1.2.2.2.1 18 _ (zinr_not (by decide +kernel))).trans (v50 j)
    have v52 : ∀ j, η8 18 j = η 18 j := fun j => (k4.1.2.2.2.1 18 _ (zinr_not (by decide +kernel))).trans (v51 j)
    have fr18 : ∀ j, η8 18 j = η 18 j := v52
    have w8_0_7 : (0 : Int) ≤ η8 0 7 ∧ η8 0 7 ≤ 700 := wf_ok (a := 7) (b := 7) (z := (0, 700)) k4.1.1 (by decide +kernel) (Nat.le_refl _) (Nat.le_refl _)
    have f0_7 : η8 0 7 = η8 0 7 := rfl
    have v54 : zEq (η2 0 6) (x1) := by rw [eη2]; exact zup_eq
    have v55 : zEq (η3 0 6) (x1) := by rw [eη3]; exact (zup_ne (fun _ e => absurd e (by decide))).trans v54
    have v56 : zEq (η4 0 6) (x1) := by rw [eη4]; exact (zup_ne (fun _ e => absurd e (by decide))).trans v55
    have v57 : zEq (η5 0 6) (x1) := by rw [eη5]; exact (zup_ne (fun _ e => absurd e (by decide))).trans v56
    have v58 : zEq (η6 0 6) (x1) := by rw [eη6]; exact (zup_ne (fun _ e => absurd e (by decide))).trans v57
    have v59 : zEq (η7 0 6) (x1) := (k3.1.2.2.2.1 0 6 (by decide +kernel)).trans v58
    have v60 : zEq (η8 0 6) (x1) := (k4.1.2.2.2.1 0 6 (by decide +kernel)).trans v59
    have f0_6 : η8 0 6 = x1 := v60
    have w8_0_8 : (0 : Int) ≤ η8 0 8 ∧ η8 0 8 ≤ 6 := wf_ok (a := 8) (b := 8) (z := (0, 6)) k4.1.1 (by decide +kernel) (Nat.le_refl _) (Nat.le_refl _)
    have f0_8 : η8 0 8 = η8 0 8 := rfl
    have f0_9 : η8 0 9 = η8 0 9 := rfl
    have v63 : zEq (η3 0 1) (0) := by rw [eη3]; exact zup_eq
    have v64 : zEq (η4 0 1) (0) := by rw [eη4]; exact (zup_ne (fun _ e => absurd e (by decide))).trans v63
    have v65 : zEq (η5 0 1) (0) := by rw [eη5]; exact (zup_ne (fun _ e => absurd e (by decide))).trans v64
    have v66 : zEq (η6 0 1) (0) := by rw [eη6]; exact (zup_ne (fun _ e => absurd e (by decide))).trans v65
    have v67 : zEq (η7 0 1) (0) := (k3.1.2.2.2.1 0 1 (by decide +kernel)).trans v66
    have v68 : zEq (η8 0 1) (0) := (k4.1.2.2.2.1 0 1 (by decide +kernel)).trans v67
    have f0_1 : η8 0 1 = 0 := v68
    exact ⟨k4.2.1, ⟨show (0 : Int) ≤ x1 by omega, show x1 ≤ η 0 1 by omega⟩, f0_1⟩
  · have eη1 : η1 = zup η 0 2 0 := eη1
    have e2 : x2 = η1 0 1 := e2
    have g2 : x2 = η 0 1 := by rw [e2, eη1]; rfl
    clear r2
    have eη2 : η2 = zup η1 0 6 x1 := eη2
    have eη3 : η3 = zup η2 0 1 0 := eη3
    have eη4 : η4 = zup η3 0 4 0 := eη4
    have eη5 : η5 = zup η4 0 5 (-1) := eη5
    have eη6 : η6 = zup η5 0 7 0 := eη6
    have b3 : η7 = (yq_pln η6) := y3
    clear k3 h3
    have b4 : η8 = (yq_tok η7) := y4
    clear k4 h4
    subst eη1
    subst e2
    subst eη2
    subst eη3
    subst eη4
    subst eη5
    subst eη6
    subst b3
    subst b4
    show (0 ≤ x1 ∧ x1 ≤ η 0 1) ∧ x1 = x1 ∧ yq_rI x1 η 0 _
    exact ⟨⟨by omega, by omega⟩, rfl, qrI_0 rfl⟩
set_option maxHeartbeats 8000000 in
theorem zne_text_o4 {ro : Nat → List Int32} (x1 : Int) (η : zE) (hp : sP wl_ne zTr zPne_text [x1] η) (hpp : pPne_text [x1] η) : ∀ η1 : zE, η1 = zup η 0 (Int.toNat 2) 0 → (0 ≤ x1) → ∀ x2 : Int, x2 = η1 0 (Int.toNat 1) → zok 0 x2 → (x2 < x1) → (fun (_ : Nat) (y : Int) (η' : zE) => pQne_text [x1] η y η') 0 (-2) η1 := by
  intro η1 eη1 c1 x2 e2 r2 c2
  refine yj_a ?_ ?_
  · have bx1 : ((-2147483648) : Int) ≤ x1 ∧ x1 ≤ 2147483647 := hp.2.1.1
    have w0_0_1 : (0 : Int) ≤ η 0 1 ∧ η 0 1 ≤ 700 := wf_ok (a := 1) (b := 1) (z := (0, 700)) hp.1 (by decide +kernel) (Nat.le_refl _) (Nat.le_refl _)
    have v1 : zEq (η1 0 1) (η 0 1) := by rw [eη1]; exact (zup_ne (fun _ e => absurd e (by decide))).trans rfl
    replace e2 : x2 = η 0 1 := e2.trans v1
    have fm1 : zFm zMne_text η η1 := by rw [eη1]; exact zFm_up zFm_rf rfl
    have fmE : zFm zMne_text η η1 := fm1
    have v2 : ∀ j, η1 2 j = η 2 j := fun j => by rw [eη1]; exact zup_ne (fun e _ => absurd e (by decide))
    have fr2 : ∀ j, η1 2 j = η 2 j := v2
    have v3 : ∀ j, η1 19 j = η 19 j := fun j => by rw [eη1]; exact zup_ne (fun e _ => absurd e (by decide))
    have fr19 : ∀ j, η1 19 j = η 19 j := v3
    have v4 : ∀ j, η1 20 j = η 20 j := fun j => by rw [eη1]; exact zup_ne (fun e _ => absurd e (by decide))
    have fr20 : ∀ j, η1 20 j = η 20 j := v4
    have v5 : ∀ j, η1 21 j = η 21 j := fun j => by rw [eη1]; exact zup_ne (fun e _ => absurd e (by decide))
    have fr21 : ∀ j, η1 21 j = η 21 j := v5
    have v6 : ∀ j, η1 16 j = η 16 j := fun j => by rw [eη1]; exact zup_ne (fun e _ => absurd e (by decide))
    have fr16 : ∀ j, η1 16 j = η 16 j := v6
    have v7 : ∀ j, η1 18 j = η 18 j := fun j => by rw [eη1]; exact zup_ne (fun e _ => absurd e (by decide))
    have fr18 : ∀ j, η1 18 j = η 18 j := v7
    have w0_0_7 : (0 : Int) ≤ η 0 7 ∧ η 0 7 ≤ 700 := wf_ok (a := 7) (b := 7) (z := (0, 700)) hp.1 (by decide +kernel) (Nat.le_refl _) (Nat.le_refl _)
    have v9 : zEq (η1 0 7) (η 0 7) := by rw [eη1]; exact (zup_ne (fun _ e => absurd e (by decide))).trans rfl
    have f0_7 : η1 0 7 = η 0 7 := v9
    have w0_0_6 : (0 : Int) ≤ η 0 6 ∧ η 0 6 ≤ 700 := wf_ok (a := 6) (b := 6) (z := (0, 700)) hp.1 (by decide +kernel) (Nat.le_refl _) (Nat.le_refl _)
    have v11 : zEq (η1 0 6) (η 0 6) := by rw [eη1]; exact (zup_ne (fun _ e => absurd e (by decide))).trans rfl
    have f0_6 : η1 0 6 = η 0 6 := v11
    have w0_0_8 : (0 : Int) ≤ η 0 8 ∧ η 0 8 ≤ 6 := wf_ok (a := 8) (b := 8) (z := (0, 6)) hp.1 (by decide +kernel) (Nat.le_refl _) (Nat.le_refl _)
    have v13 : zEq (η1 0 8) (η 0 8) := by rw [eη1]; exact (zup_ne (fun _ e => absurd e (by decide))).trans rfl
    have f0_8 : η1 0 8 = η 0 8 := v13
    have v15 : zEq (η1 0 9) (η 0 9) := by rw [eη1]; exact (zup_ne (fun _ e => absurd e (by decide))).trans rfl
    have f0_9 : η1 0 9 = η 0 9 := v15
    have f0_1 : η1 0 1 = η 0 1 := v1
    exact ⟨⟨by rw [eη1]; exact zGk_upc gk_k hpp.1 (by decide +kernel), by rw [eη1]; exact zGk_upc tk_l hpp.2.1 (by decide +kernel), by rw [eη1]; exact zGk_upc plk_n hpp.2.2 (by decide +kernel)⟩, fun w => absurd (show x1 ≤ η 0 1 from w.2) (by omega), fun _ => f0_1⟩
  · have eη1 : η1 = zup η 0 2 0 := eη1
    have e2 : x2 = η1 0 1 := e2
    have g2 : x2 = η 0 1 := by rw [e2, eη1]; rfl
    clear r2
    subst eη1
    subst e2
    show yq_t x1 η _ _
    exact ⟨fun _ => ⟨rfl, rfl, rfl⟩, fun a b => by omega⟩
set_option maxHeartbeats 8000000 in
theorem zne_text_o5 {ro : Nat → List Int32} (xs : List Int) (η0 : zE) (hp : sP wl_ne zTr zPne_text xs η0) (hpp : pPne_text xs η0) (x1 x2 : Int) (η : zE) (hI : zsI wl_ne zTr zVne_text zMne_text η0 0 [x1, x2] η) (hig : iCne_text xs η0 0 [x1, x2] η) : ∀ x3 : Int, x3 = η 0 (Int.toNat 8) → zok 0 x3 → (x3 = 0) → ((gC2 wl_ne [(nat_lit 0, zPne_plain, zOne_plain, zMne_plain), (nat_lit 1, zPne_token, zOne_token, zMne_token), (nat_lit 2, zPne_lineRead, zOne_lineRead, zMne_lineRead), (nat_lit 3, zPne_keepText, zOne_keepText, zMne_keepText)] pCne_text qCne_text) 3).1 [] η := by
  have fig := hig.2
  have hig := hig.1
  intro x3 e3 r3 c1
  exact ⟨hig.1.1.1, hig.1.2⟩
set_option maxHeartbeats 8000000 in
theorem zne_text_o6 {ro : Nat → List Int32} (xs : List Int) (η0 : zE) (hp : sP wl_ne zTr zPne_text xs η0) (hpp : pPne_text xs η0) (x1 x2 : Int) (η : zE) (hI : zsI wl_ne zTr zVne_text zMne_text η0 0 [x1, x2] η) (hig : iCne_text xs η0 0 [x1, x2] η) : ∀ x3 : Int, x3 = η 0 (Int.toNat 8) → zok 0 x3 → (x3 = 0) → ∀ (x4 : Int) (η1 : zE), ((gC2 wl_ne [(nat_lit 0, zPne_plain, zOne_plain, zMne_plain), (nat_lit 1, zPne_token, zOne_token, zMne_token), (nat_lit 2, zPne_lineRead, zOne_lineRead, zMne_lineRead), (nat_lit 3, zPne_keepText, zOne_keepText, zMne_keepText)] pCne_text qCne_text) 3).2 [] η x4 η1 → (fun (_ : Nat) (y : Int) (η' : zE) => pQne_text xs η0 y η') 0 x2 η1 := by
  have fig := hig.2
  have hig := hig.1
  intro x3 e3 r3 c1 x4 η1 h4
  have k4 : sQ wl_ne zTr zOne_keepText zMne_keepText [] η x4 η1 ∧ pQne_keepText [] η x4 η1 := h4
  refine yj_a ?_ ?_
  · have k4 : sQ wl_ne zTr zOne_keepText zMne_keepText [] η x4 η1 ∧ pQne_keepText [] η x4 η1 := h4
    have bx1 : ((-2147483648) : Int) ≤ x1 ∧ x1 ≤ 2147483647 := hI.1.2.1.1
    have bx2 : ((-2147483648) : Int) ≤ x2 ∧ x2 ≤ 2147483647 := hI.1.2.1.2.1
    have w0_0_8 : (0 : Int) ≤ η 0 8 ∧ η 0 8 ≤ 6 := wf_ok (a := 8) (b := 8) (z := (0, 6)) hI.1.1 (by decide +kernel) (Nat.le_refl _) (Nat.le_refl _)
    replace e3 : x3 = η 0 8 := e3
    have bx4 : (0 : Int) ≤ x4 ∧ x4 ≤ 0 := k4.1.2.1
    have fm1 : zFm zMne_text η0 η1 := zFm_tr2 hI.2 k4.1.2.2.2.1 (by decide +kernel)
    have fmE : zFm zMne_text η0 η1 := fm1
    have v1 : ∀ j, η1 2 j = η 2 j := fun j => k4.1.2.2.2.1 2 _ (zinr_not (by decide +kernel))
    have fr2 : ∀ j, η1 2 j = η 2 j := v1
    have fr19 : ∀ j, η1 19 j = η1 19 j := fun _ => rfl
    have fr20 : ∀ j, η1 20 j = η1 20 j := fun _ => rfl
    have fr21 : ∀ j, η1 21 j = η1 21 j := fun _ => rfl
    have fr16 : ∀ j, η1 16 j = η1 16 j := fun _ => rfl
    have fr18 : ∀ j, η1 18 j = η1 18 j := fun _ => rfl
    have w0_0_7 : (0 : Int) ≤ η 0 7 ∧ η 0 7 ≤ 700 := wf_ok (a := 7) (b := 7) (z := (0, 700)) hI.1.1 (by decide +kernel) (Nat.le_refl _) (Nat.le_refl _)
    have v8 : zEq (η1 0 7) (η 0 7) := (k4.1.2.2.2.1 0 7 (by decide +kernel)).trans rfl
    have f0_7 : η1 0 7 = η 0 7 := v8
    have w0_0_6 : (0 : Int) ≤ η 0 6 ∧ η 0 6 ≤ 700 := wf_ok (a := 6) (b := 6) (z := (0, 700)) hI.1.1 (by decide +kernel) (Nat.le_refl _) (Nat.le_refl _)
    have v10 : zEq (η1 0 6) (η 0 6) := (k4.1.2.2.2.1 0 6 (by decide +kernel)).trans rfl
    have f0_6 : η1 0 6 = η 0 6 := v10
    have v11 : zEq (η1 0 8) (η 0 8) := (k4.1.2.2.2.1 0 8 (by decide +kernel)).trans rfl
    have f0_8 : η1 0 8 = η 0 8 := v11
    have v13 : zEq (η1 0 9) (η 0 9) := (k4.1.2.2.2.1 0 9 (by decide +kernel)).trans rfl
    have f0_9 : η1 0 9 = η 0 9 := v13
    have w0_0_1 : (0 : Int) ≤ η 0 1 ∧ η 0 1 ≤ 700 := wf_ok (a := 1) (b := 1) (z := (0, 700)) hI.1.1 (by decide +kernel) (Nat.le_refl _) (Nat.le_refl _)
    have v15 : zEq (η1 0 1) (η 0 1) := (k4.1.2.2.2.1 0 1 (by decide +kernel)).trans rfl
    have f0_1 : η1 0 1 = η 0 1 := v15
    exact ⟨k4.2, fun _ => f0_1.trans hig.2.2, fun w => absurd hig.2.1 w⟩
  · obtain ⟨⟨f1, f2⟩, f3, fI⟩ : (0 ≤ xs.getD 0 0 ∧ xs.getD 0 0 ≤ η0 0 1) ∧ x1 = xs.getD 0 0 ∧ yq_rI (xs.getD 0 0) η0 x2 η := fig
    have e3 : x3 = η 0 8 := e3
    have q := qrI_e fI (by omega)
    have g4 : η1 0 4 = η 0 4 := k4.1.2.2.2.1 0 4 (by decide +kernel)
    have g5 : η1 0 5 = η 0 5 := k4.1.2.2.2.1 0 5 (by decide +kernel)
    show yq_t (xs.getD 0 0) η0 x2 η1
    refine ⟨fun w => by omega, fun _ _ => ?_⟩
    rw [q]
    exact ⟨rfl, g4, g5⟩
set_option maxHeartbeats 8000000 in
theorem zne_text_o7 {ro : Nat → List Int32} (xs : List Int) (η0 : zE) (hp : sP wl_ne zTr zPne_text xs η0) (hpp : pPne_text xs η0) (x1 x2 : Int) (η : zE) (hI : zsI wl_ne zTr zVne_text zMne_text η0 0 [x1, x2] η) (hig : iCne_text xs η0 0 [x1, x2] η) : ∀ x3 : Int, x3 = η 0 (Int.toNat 8) → zok 0 x3 → (¬ x3 = 0) → ((gC2 wl_ne [(nat_lit 0, zPne_plain, zOne_plain, zMne_plain), (nat_lit 1, zPne_token, zOne_token, zMne_token), (nat_lit 2, zPne_lineRead, zOne_lineRead, zMne_lineRead), (nat_lit 3, zPne_keepText, zOne_keepText, zMne_keepText)] pCne_text qCne_text) 2).1 [] η := by
  have fig := hig.2
  have hig := hig.1
  intro x3 e3 r3 c1
  exact hig.1
set_option maxHeartbeats 8000000 in
theorem zne_text_o8 {ro : Nat → List Int32} (xs : List Int) (η0 : zE) (hp : sP wl_ne zTr zPne_text xs η0) (hpp : pPne_text xs η0) (x1 x2 : Int) (η : zE) (hI : zsI wl_ne zTr zVne_text zMne_text η0 0 [x1, x2] η) (hig : iCne_text xs η0 0 [x1, x2] η) : ∀ x3 : Int, x3 = η 0 (Int.toNat 8) → zok 0 x3 → (¬ x3 = 0) → ∀ (x4 : Int) (η1 : zE), ((gC2 wl_ne [(nat_lit 0, zPne_plain, zOne_plain, zMne_plain), (nat_lit 1, zPne_token, zOne_token, zMne_token), (nat_lit 2, zPne_lineRead, zOne_lineRead, zMne_lineRead), (nat_lit 3, zPne_keepText, zOne_keepText, zMne_keepText)] pCne_text qCne_text) 2).2 [] η x4 η1 → (x4 = 0) → (fun (_ : Nat) (y : Int) (η' : zE) => pQne_text xs η0 y η') 0 (-1) η1 := by
  have fig := hig.2
  have hig := hig.1
  intro x3 e3 r3 c1 x4 η1 h4 c2
  have y4 : fQne_lineRead [] η x4 η1 := h4.2.2
  have k4 : sQ wl_ne zTr zOne_lineRead zMne_lineRead [] η x4 η1 ∧ oQne_lineRead [] η x4 η1 := ⟨h4.1, h4.2.1⟩
  refine yj_a ?_ ?_
  · have y4 : fQne_lineRead [] η x4 η1 := h4.2.2
    have k4 : sQ wl_ne zTr zOne_lineRead zMne_lineRead [] η x4 η1 ∧ oQne_lineRead [] η x4 η1 := ⟨h4.1, h4.2.1⟩
    have bx1 : ((-2147483648) : Int) ≤ x1 ∧ x1 ≤ 2147483647 := hI.1.2.1.1
    have bx2 : ((-2147483648) : Int) ≤ x2 ∧ x2 ≤ 2147483647 := hI.1.2.1.2.1
    have w0_0_8 : (0 : Int) ≤ η 0 8 ∧ η 0 8 ≤ 6 := wf_ok (a := 8) (b := 8) (z := (0, 6)) hI.1.1 (by decide +kernel) (Nat.le_refl _) (Nat.le_refl _)
    replace e3 : x3 = η 0 8 := e3
    have bx4 : (0 : Int) ≤ x4 ∧ x4 ≤ 1 := k4.1.2.1
    have fm1 : zFm zMne_text η0 η1 := zFm_tr2 hI.2 k4.1.2.2.2.1 (by decide +kernel)
    have fmE : zFm zMne_text η0 η1 := fm1
    have v1 : ∀ j, η1 2 j = η 2 j := fun j => k4.1.2.2.2.1 2 _ (zinr_not (by decide +kernel))
    have fr2 : ∀ j, η1 2 j = η 2 j := v1
    have fr19 : ∀ j, η1 19 j = η1 19 j := fun _ => rfl
    have fr20 : ∀ j, η1 20 j = η1 20 j := fun _ => rfl
    have fr21 : ∀ j, η1 21 j = η1 21 j := fun _ => rfl
    have fr16 : ∀ j, η1 16 j = η1 16 j := fun _ => rfl
    have fr18 : ∀ j, η1 18 j = η1 18 j := fun _ => rfl
    have w1_0_7 : (0 : Int) ≤ η1 0 7 ∧ η1 0 7 ≤ 700 := wf_ok (a := 7) (b := 7) (z := (0, 700)) k4.1.1 (by decide +kernel) (Nat.le_refl _) (Nat.le_refl _)
    have f0_7 : η1 0 7 = η1 0 7 := rfl
    have w0_0_6 : (0 : Int) ≤ η 0 6 ∧ η 0 6 ≤ 700 := wf_ok (a := 6) (b := 6) (z := (0, 700)) hI.1.1 (by decide +kernel) (Nat.le_refl _) (Nat.le_refl _)
    have v9 : zEq (η1 0 6) (η 0 6) := (k4.1.2.2.2.1 0 6 (by decide +kernel)).trans rfl
    have f0_6 : η1 0 6 = η 0 6 := v9
    have w1_0_8 : (0 : Int) ≤ η1 0 8 ∧ η1 0 8 ≤ 6 := wf_ok (a := 8) (b := 8) (z := (0, 6)) k4.1.1 (by decide +kernel) (Nat.le_refl _) (Nat.le_refl _)
    have f0_8 : η1 0 8 = η1 0 8 := rfl
    have f0_9 : η1 0 9 = η1 0 9 := rfl
    have w0_0_1 : (0 : Int) ≤ η 0 1 ∧ η 0 1 ≤ 700 := wf_ok (a := 1) (b := 1) (z := (0, 700)) hI.1.1 (by decide +kernel) (Nat.le_refl _) (Nat.le_refl _)
    have v13 : zEq (η1 0 1) (η 0 1) := (k4.1.2.2.2.1 0 1 (by decide +kernel)).trans rfl
    have f0_1 : η1 0 1 = η 0 1 := v13
    exact ⟨⟨k4.2.1.1, k4.2.1.2, k4.2.2.1⟩, fun _ => f0_1.trans hig.2.2, fun w => absurd hig.2.1 w⟩
  · obtain ⟨⟨f1, f2⟩, f3, fI⟩ : (0 ≤ xs.getD 0 0 ∧ xs.getD 0 0 ≤ η0 0 1) ∧ x1 = xs.getD 0 0 ∧ yq_rI (xs.getD 0 0) η0 x2 η := fig
    have e3 : x3 = η 0 8 := e3
    obtain ⟨a4, b4⟩ : x4 = (yq_lnr η).1 ∧ η1 = (yq_lnr η).2 := y4
    have q := qrI_s fI (by omega)
    rw [← a4, ← b4] at q
    have q := q.1 (by omega)
    show yq_t (xs.getD 0 0) η0 (-1) η1
    refine ⟨fun w => by omega, fun _ _ => ?_⟩
    rw [q]
    exact ⟨rfl, rfl, rfl⟩
set_option maxHeartbeats 8000000 in
theorem zne_text_o9 {ro : Nat → List Int32} (xs : List Int) (η0 : zE) (hp : sP wl_ne zTr zPne_text xs η0) (hpp : pPne_text xs η0) (x1 x2 : Int) (η : zE) (hI : zsI wl_ne zTr zVne_text zMne_text η0 0 [x1, x2] η) (hig : iCne_text xs η0 0 [x1, x2] η) : ∀ x3 : Int, x3 = η 0 (Int.toNat 8) → zok 0 x3 → (¬ x3 = 0) → ∀ (x4 : Int) (η1 : zE), ((gC wl_ne [(nat_lit 0, zPne_plain, zOne_plain, zMne_plain), (nat_lit 1, zPne_token, zOne_token, zMne_token), (nat_lit 2, zPne_lineRead, zOne_lineRead, zMne_lineRead), (nat_lit 3, zPne_keepText, zOne_keepText, zMne_keepText)] pCne_text qCne_text) 2).2 [] η x4 η1 → (¬ x4 = 0) → ∀ x5 : Int, x5 = zd 0 1 x2 1 → (fun c ys η1 => zsI wl_ne zTr zVne_text zMne_text η0 c ys η1 ∧ iCne_text xs η0 c ys η1) 0 [x1, x5] η1 ∧ (zsM zVne_text) 0 [x1, x5] η1 < zsM zVne_text 0 [x1, x2] η := by
  have fig := hig.2
  have hig := hig.1
  intro x3 e3 r3 c1 x4 η1 h4 c2 x5 e5
  have y4 : fQne_lineRead [] η x4 η1 := h4.2.2
  have k4 : sQ wl_ne zTr zOne_lineRead zMne_lineRead [] η x4 η1 ∧ oQne_lineRead [] η x4 η1 := ⟨h4.1, h4.2.1⟩
  refine yj_d ?_ ?_
  · have y4 : fQne_lineRead [] η x4 η1 := h4.2.2
    have k4 : sQ wl_ne zTr zOne_lineRead zMne_lineRead [] η x4 η1 ∧ oQne_lineRead [] η x4 η1 := ⟨h4.1, h4.2.1⟩
    have b5 : z32 x5 := by rw [e5]; exact zd_32 (by decide)
    clear e5
    have sc := k4.2.2.2 c2
    have mu : 10 * (η1 0 6 - η1 0 7) + η1 0 8 < 10 * (η 0 6 - η 0 7) + η 0 8 := sc.2
    have hs : η1 0 7 ≤ η1 0 6 := sc.1.1.1.1.1
    have wk : (0 : Int) ≤ η1 0 8 ∧ η1 0 8 ≤ 6 := wf_ok (a := 8) (b := 8) (z := (0, 6)) k4.1.1 (by decide +kernel) (Nat.le_refl _) (Nat.le_refl _)
    exact ⟨⟨⟨⟨k4.1.1, ⟨hI.1.2.1.1, b5, trivial⟩, fun f hf => nomatch hf⟩, zFm_tr2 hI.2 k4.1.2.2.2.1 (by decide +kernel)⟩, sc.1, hig.2.1, (k4.1.2.2.2.1 0 1 (by decide +kernel)).trans hig.2.2⟩, by
      show ((0 : Int) + (10 * η1 0 6 + (-10 * η1 0 7 + (1 * η1 0 8 + 0)))).toNat < ((0 : Int) + (10 * η 0 6 + (-10 * η 0 7 + (1 * η 0 8 + 0)))).toNat
      omega⟩
  · obtain ⟨⟨f1, f2⟩, f3, fI⟩ : (0 ≤ xs.getD 0 0 ∧ xs.getD 0 0 ≤ η0 0 1) ∧ x1 = xs.getD 0 0 ∧ yq_rI (xs.getD 0 0) η0 x2 η := fig
    have e3 : x3 = η 0 8 := e3
    obtain ⟨a4, b4⟩ : x4 = (yq_lnr η).1 ∧ η1 = (yq_lnr η).2 := y4
    have q := qrI_s fI (by omega)
    rw [← a4, ← b4] at q
    have e5 : x5 = zd 0 1 x2 1 := e5
    have sc := k4.2.2.2 c2
    have mu := sc.2
    have hs := sc.1.1.1.1.1
    have w8 : (0 : Int) ≤ η1 0 8 ∧ η1 0 8 ≤ 6 := wf_ok (a := 8) (b := 8) (z := (0, 6)) k4.1.1 (by decide +kernel) (Nat.le_refl _) (Nat.le_refl _)
    have q := q.2 (by omega) (by unfold yq_mu; omega)
    rw [← e5] at q
    exact ⟨⟨f1, f2⟩, f3, q⟩
set_option maxHeartbeats 8000000 in
theorem zne_text {ro : Nat → List Int32} : zMet pr_P pr_K pr_df ro (sm_X0 1 6) 5 137 tm_ne [(.inr (.inr (.inl (nat_lit 0)))), (.inl (nat_lit 1, (.ofNat (nat_lit 0))))] 1 [(nat_lit 0, nat_lit 0, nat_lit 1), (nat_lit 0, nat_lit 3, nat_lit 2), (nat_lit 0, nat_lit 20, nat_lit 3), (nat_lit 0, nat_lit 21, nat_lit 4), (nat_lit 0, nat_lit 22, nat_lit 5), (nat_lit 0, nat_lit 23, nat_lit 6), (nat_lit 0, nat_lit 24, nat_lit 7), (nat_lit 0, nat_lit 25, nat_lit 8), (nat_lit 0, nat_lit 26, nat_lit 9), (nat_lit 0, nat_lit 27, nat_lit 10), (nat_lit 0, nat_lit 28, nat_lit 11), (nat_lit 0, nat_lit 29, nat_lit 12), (nat_lit 0, nat_lit 30, nat_lit 13), (nat_lit 0, nat_lit 31, nat_lit 14), (nat_lit 0, nat_lit 32, nat_lit 15), (nat_lit 0, nat_lit 33, nat_lit 16), (nat_lit 0, nat_lit 34, nat_lit 17), (nat_lit 0, nat_lit 35, nat_lit 18), (nat_lit 0, nat_lit 36, nat_lit 19), (nat_lit 0, nat_lit 37, nat_lit 20), (nat_lit 0, nat_lit 38, nat_lit 21), (nat_lit 0, nat_lit 39, nat_lit 22), (nat_lit 0, nat_lit 40, nat_lit 23), (nat_lit 0, nat_lit 47, nat_lit 24), (nat_lit 0, nat_lit 48, nat_lit 25), (nat_lit 0, nat_lit 50, nat_lit 26), (nat_lit 0, nat_lit 51, nat_lit 27), (nat_lit 0, nat_lit 52, nat_lit 28), (nat_lit 0, nat_lit 53, nat_lit 29), (nat_lit 0, nat_lit 54, nat_lit 30), (nat_lit 0, nat_lit 55, nat_lit 31), (nat_lit 0, nat_lit 56, nat_lit 32), (nat_lit 0, nat_lit 57, nat_lit 33), (nat_lit 0, nat_lit 58, nat_lit 34), (nat_lit 0, nat_lit 59, nat_lit 35), (nat_lit 0, nat_lit 72, nat_lit 36), (nat_lit 0, nat_lit 73, nat_lit 37), (nat_lit 0, nat_lit 76, nat_lit 38), (nat_lit 0, nat_lit 77, nat_lit 39), (nat_lit 0, nat_lit 79, nat_lit 40), (nat_lit 0, nat_lit 81, nat_lit 41), (nat_lit 0, nat_lit 82, nat_lit 42)] [] (fun xs η => sP wl_ne zTr zPne_text xs η ∧ pPne_text xs η) (fun xs η y η' => sQ wl_ne zTr zOne_text zMne_text xs η y η' ∧ pQne_text xs η y η') :=
  zmet_alt (zmea_gen (mi := (nat_lit 1, nat_lit 1, nat_lit 8, nat_lit 3, nat_lit 1, tX8_text)) (cd := [(nat_lit 128, nat_lit 0, nat_lit 0, [(.inr (.inr (.inl (nat_lit 0))))], nat_lit 0, [(nat_lit 0, nat_lit 0, nat_lit 1), (nat_lit 0, nat_lit 3, nat_lit 2), (nat_lit 0, nat_lit 20, nat_lit 3), (nat_lit 0, nat_lit 21, nat_lit 4), (nat_lit 0, nat_lit 22, nat_lit 5), (nat_lit 0, nat_lit 23, nat_lit 6), (nat_lit 0, nat_lit 24, nat_lit 7), (nat_lit 0, nat_lit 25, nat_lit 8), (nat_lit 0, nat_lit 26, nat_lit 9), (nat_lit 0, nat_lit 27, nat_lit 10), (nat_lit 0, nat_lit 28, nat_lit 11), (nat_lit 0, nat_lit 29, nat_lit 12), (nat_lit 0, nat_lit 30, nat_lit 13), (nat_lit 0, nat_lit 31, nat_lit 14), (nat_lit 0, nat_lit 32, nat_lit 15), (nat_lit 0, nat_lit 33, nat_lit 16), (nat_lit 0, nat_lit 34, nat_lit 17), (nat_lit 0, nat_lit 35, nat_lit 18), (nat_lit 0, nat_lit 36, nat_lit 19), (nat_lit 0, nat_lit 37, nat_lit 20), (nat_lit 0, nat_lit 38, nat_lit 21), (nat_lit 0, nat_lit 39, nat_lit 22), (nat_lit 0, nat_lit 40, nat_lit 23), (nat_lit 0, nat_lit 47, nat_lit 24), (nat_lit 0, nat_lit 48, nat_lit 25), (nat_lit 0, nat_lit 50, nat_lit 26), (nat_lit 0, nat_lit 51, nat_lit 27), (nat_lit 0, nat_lit 52, nat_lit 28), (nat_lit 0, nat_lit 53, nat_lit 29), (nat_lit 0, nat_lit 54, nat_lit 30), (nat_lit 0, nat_lit 55, nat_lit 31), (nat_lit 0, nat_lit 56, nat_lit 32), (nat_lit 0, nat_lit 57, nat_lit 33), (nat_lit 0, nat_lit 58, nat_lit 34), (nat_lit 0, nat_lit 59, nat_lit 35), (nat_lit 0, nat_lit 72, nat_lit 36), (nat_lit 0, nat_lit 73, nat_lit 37), (nat_lit 0, nat_lit 76, nat_lit 38), (nat_lit 0, nat_lit 77, nat_lit 39), (nat_lit 0, nat_lit 79, nat_lit 40), (nat_lit 0, nat_lit 81, nat_lit 41), (nat_lit 0, nat_lit 82, nat_lit 42)], []), (nat_lit 122, nat_lit 1, nat_lit 1, [(.inr (.inr (.inl (nat_lit 0))))], nat_lit 0, [(nat_lit 0, nat_lit 0, nat_lit 1), (nat_lit 0, nat_lit 3, nat_lit 2), (nat_lit 0, nat_lit 20, nat_lit 3), (nat_lit 0, nat_lit 21, nat_lit 4), (nat_lit 0, nat_lit 22, nat_lit 5), (nat_lit 0, nat_lit 23, nat_lit 6), (nat_lit 0, nat_lit 24, nat_lit 7), (nat_lit 0, nat_lit 25, nat_lit 8), (nat_lit 0, nat_lit 26, nat_lit 9), (nat_lit 0, nat_lit 27, nat_lit 10), (nat_lit 0, nat_lit 28, nat_lit 11), (nat_lit 0, nat_lit 29, nat_lit 12), (nat_lit 0, nat_lit 30, nat_lit 13), (nat_lit 0, nat_lit 31, nat_lit 14), (nat_lit 0, nat_lit 32, nat_lit 15), (nat_lit 0, nat_lit 33, nat_lit 16), (nat_lit 0, nat_lit 34, nat_lit 17), (nat_lit 0, nat_lit 35, nat_lit 18), (nat_lit 0, nat_lit 36, nat_lit 19), (nat_lit 0, nat_lit 37, nat_lit 20), (nat_lit 0, nat_lit 38, nat_lit 21), (nat_lit 0, nat_lit 39, nat_lit 22), (nat_lit 0, nat_lit 40, nat_lit 23), (nat_lit 0, nat_lit 47, nat_lit 24), (nat_lit 0, nat_lit 48, nat_lit 25), (nat_lit 0, nat_lit 50, nat_lit 26), (nat_lit 0, nat_lit 51, nat_lit 27), (nat_lit 0, nat_lit 52, nat_lit 28), (nat_lit 0, nat_lit 53, nat_lit 29), (nat_lit 0, nat_lit 54, nat_lit 30), (nat_lit 0, nat_lit 55, nat_lit 31), (nat_lit 0, nat_lit 56, nat_lit 32), (nat_lit 0, nat_lit 57, nat_lit 33), (nat_lit 0, nat_lit 58, nat_lit 34), (nat_lit 0, nat_lit 59, nat_lit 35), (nat_lit 0, nat_lit 72, nat_lit 36), (nat_lit 0, nat_lit 73, nat_lit 37), (nat_lit 0, nat_lit 76, nat_lit 38), (nat_lit 0, nat_lit 77, nat_lit 39), (nat_lit 0, nat_lit 79, nat_lit 40), (nat_lit 0, nat_lit 81, nat_lit 41), (nat_lit 0, nat_lit 82, nat_lit 42)], []), (nat_lit 136, nat_lit 2, nat_lit 4, [(.inr (.inr (.inl (nat_lit 0))))], nat_lit 2, [(nat_lit 0, nat_lit 0, nat_lit 1), (nat_lit 0, nat_lit 3, nat_lit 2), (nat_lit 0, nat_lit 20, nat_lit 3), (nat_lit 0, nat_lit 21, nat_lit 4), (nat_lit 0, nat_lit 22, nat_lit 5), (nat_lit 0, nat_lit 23, nat_lit 6), (nat_lit 0, nat_lit 24, nat_lit 7), (nat_lit 0, nat_lit 25, nat_lit 8), (nat_lit 0, nat_lit 26, nat_lit 9), (nat_lit 0, nat_lit 27, nat_lit 10), (nat_lit 0, nat_lit 28, nat_lit 11), (nat_lit 0, nat_lit 29, nat_lit 12), (nat_lit 0, nat_lit 30, nat_lit 13), (nat_lit 0, nat_lit 31, nat_lit 14), (nat_lit 0, nat_lit 32, nat_lit 15), (nat_lit 0, nat_lit 33, nat_lit 16), (nat_lit 0, nat_lit 34, nat_lit 17), (nat_lit 0, nat_lit 35, nat_lit 18), (nat_lit 0, nat_lit 36, nat_lit 19), (nat_lit 0, nat_lit 37, nat_lit 20), (nat_lit 0, nat_lit 38, nat_lit 21), (nat_lit 0, nat_lit 39, nat_lit 22), (nat_lit 0, nat_lit 40, nat_lit 23), (nat_lit 0, nat_lit 47, nat_lit 24), (nat_lit 0, nat_lit 48, nat_lit 25), (nat_lit 0, nat_lit 50, nat_lit 26), (nat_lit 0, nat_lit 51, nat_lit 27), (nat_lit 0, nat_lit 52, nat_lit 28), (nat_lit 0, nat_lit 53, nat_lit 29), (nat_lit 0, nat_lit 54, nat_lit 30), (nat_lit 0, nat_lit 55, nat_lit 31), (nat_lit 0, nat_lit 56, nat_lit 32), (nat_lit 0, nat_lit 57, nat_lit 33), (nat_lit 0, nat_lit 58, nat_lit 34), (nat_lit 0, nat_lit 59, nat_lit 35), (nat_lit 0, nat_lit 72, nat_lit 36), (nat_lit 0, nat_lit 73, nat_lit 37), (nat_lit 0, nat_lit 76, nat_lit 38), (nat_lit 0, nat_lit 77, nat_lit 39), (nat_lit 0, nat_lit 79, nat_lit 40), (nat_lit 0, nat_lit 81, nat_lit 41), (nat_lit 0, nat_lit 82, nat_lit 42)], []), (nat_lit 130, nat_lit 3, nat_lit 2, [(.inr (.inr (.inl (nat_lit 0))))], nat_lit 0, [(nat_lit 0, nat_lit 0, nat_lit 1), (nat_lit 0, nat_lit 3, nat_lit 2), (nat_lit 0, nat_lit 20, nat_lit 3), (nat_lit 0, nat_lit 21, nat_lit 4), (nat_lit 0, nat_lit 22, nat_lit 5), (nat_lit 0, nat_lit 23, nat_lit 6), (nat_lit 0, nat_lit 24, nat_lit 7), (nat_lit 0, nat_lit 25, nat_lit 8), (nat_lit 0, nat_lit 26, nat_lit 9), (nat_lit 0, nat_lit 27, nat_lit 10), (nat_lit 0, nat_lit 28, nat_lit 11), (nat_lit 0, nat_lit 29, nat_lit 12), (nat_lit 0, nat_lit 30, nat_lit 13), (nat_lit 0, nat_lit 31, nat_lit 14), (nat_lit 0, nat_lit 32, nat_lit 15), (nat_lit 0, nat_lit 33, nat_lit 16), (nat_lit 0, nat_lit 34, nat_lit 17), (nat_lit 0, nat_lit 35, nat_lit 18), (nat_lit 0, nat_lit 36, nat_lit 19), (nat_lit 0, nat_lit 37, nat_lit 20), (nat_lit 0, nat_lit 38, nat_lit 21), (nat_lit 0, nat_lit 39, nat_lit 22), (nat_lit 0, nat_lit 40, nat_lit 23), (nat_lit 0, nat_lit 47, nat_lit 24), (nat_lit 0, nat_lit 48, nat_lit 25), (nat_lit 0, nat_lit 50, nat_lit 26), (nat_lit 0, nat_lit 51, nat_lit 27), (nat_lit 0, nat_lit 52, nat_lit 28), (nat_lit 0, nat_lit 53, nat_lit 29), (nat_lit 0, nat_lit 54, nat_lit 30), (nat_lit 0, nat_lit 55, nat_lit 31), (nat_lit 0, nat_lit 56, nat_lit 32), (nat_lit 0, nat_lit 57, nat_lit 33), (nat_lit 0, nat_lit 58, nat_lit 34), (nat_lit 0, nat_lit 59, nat_lit 35), (nat_lit 0, nat_lit 72, nat_lit 36), (nat_lit 0, nat_lit 73, nat_lit 37), (nat_lit 0, nat_lit 76, nat_lit 38), (nat_lit 0, nat_lit 77, nat_lit 39), (nat_lit 0, nat_lit 79, nat_lit 40), (nat_lit 0, nat_lit 81, nat_lit 41), (nat_lit 0, nat_lit 82, nat_lit 42)], [])]) (cu := zUne_text) (cs := [(nat_lit 0, zPne_plain, zOne_plain, zMne_plain), (nat_lit 1, zPne_token, zOne_token, zMne_token), (nat_lit 2, zPne_lineRead, zOne_lineRead, zMne_lineRead), (nat_lit 3, zPne_keepText, zOne_keepText, zMne_keepText)]) (iv := zVne_text) (po := [zOne_text]) (pr := zPne_text) (mods := zMne_text) (D7 := zDne_text) (D0 := zEne_text) (Dm := zFne_text) (f0 := 35) pCne_text qCne_text iCne_text pPne_text (fun xs η _ y η' => pQne_text xs η y η') zX_low pr_mtR rfl (List.forall_mem_cons.mpr ⟨zne_plain, List.forall_mem_cons.mpr ⟨zne_token, List.forall_mem_cons.mpr ⟨zne_lineRead, List.forall_mem_cons.mpr ⟨zne_keepText, fun _ h => nomatch h⟩⟩⟩⟩) (by decide +kernel) (by decide +kernel) (by decide +kernel)
    (by
      intro xs η hr hl hp hpp
      match xs, hl, hp, hpp with
      | [x1], _, hp, hpp =>
        refine List.forall_mem_cons.mpr ⟨?_, List.forall_mem_cons.mpr ⟨?_, List.forall_mem_cons.mpr ⟨?_, List.forall_mem_cons.mpr ⟨?_, List.forall_mem_cons.mpr ⟨?_, fun _ h => nomatch h⟩⟩⟩⟩⟩
        · refine zden_L (n := 2) (ρ := [x1, 0]) rfl ?_
          exact zne_text_o0 (ro := ro) x1 η hp hpp
        · refine zden_L (n := 2) (ρ := [x1, 0]) rfl ?_
          exact zne_text_o1 (ro := ro) x1 η hp hpp
        · refine zden_L (n := 2) (ρ := [x1, 0]) rfl ?_
          exact zne_text_o2 (ro := ro) x1 η hp hpp
        · refine zden_L (n := 2) (ρ := [x1, 0]) rfl ?_
          exact zne_text_o3 (ro := ro) x1 η hp hpp
        · refine zden_L (n := 2) (ρ := [x1, 0]) rfl ?_
          exact zne_text_o4 (ro := ro) x1 η hp hpp
      )
    (fun _ _ _ _ _ _ _ h => nomatch h)
    (List.forall_mem_cons.mpr ⟨⟨zDne_text_0, zEne_text_0, zFne_text_0, 13, by decide +kernel, (by
      intro xs η0 hlx hp hpp ys η hr hl hI hig
      match ys, hl, hI, hig with
      | [x1, x2], _, hI, hig =>
        refine ⟨?_, ?_⟩
        · refine List.forall_mem_cons.mpr ⟨?_, List.forall_mem_cons.mpr ⟨?_, List.forall_mem_cons.mpr ⟨?_, List.forall_mem_cons.mpr ⟨?_, fun _ h => nomatch h⟩⟩⟩⟩
          · refine zden_L (n := 3) (ρ := [x2, x1, 0]) rfl ?_
            exact zne_text_o5 (ro := ro) xs η0 hp hpp x1 x2 η hI hig
          · refine zden_L (n := 3) (ρ := [x2, x1, 0]) rfl ?_
            exact zne_text_o6 (ro := ro) xs η0 hp hpp x1 x2 η hI hig
          · refine zden_L (n := 3) (ρ := [x2, x1, 0]) rfl ?_
            exact zne_text_o7 (ro := ro) xs η0 hp hpp x1 x2 η hI hig
          · refine zden_L (n := 3) (ρ := [x2, x1, 0]) rfl ?_
            exact zne_text_o8 (ro := ro) xs η0 hp hpp x1 x2 η hI hig
        · refine List.forall_mem_cons.mpr ⟨?_, fun _ h => nomatch h⟩
          · refine zden_L (n := 3) (ρ := [x2, x1, 0]) rfl ?_
            exact zne_text_o9 (ro := ro) xs η0 hp hpp x1 x2 η hI hig
      )⟩, (fun _ h => nomatch h)⟩))
