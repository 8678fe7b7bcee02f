def tm_ge : zTm := tm_c
def wl_ge : wL := wl_c
def zPge_putBytes : zPq := ([((.negSucc (nat_lit 2147483647)), (.ofNat (nat_lit 2147483647)))], [])
def zOge_putBytes : zPo := (((.ofNat (nat_lit 0)), (.ofNat (nat_lit 0))), [], [])
def zMge_putBytes : List zCe := [(nat_lit 0, nat_lit 2), (nat_lit 1, nat_lit 0)]
def pPge_putBytes : List Int → zE → Prop := fun _ η => η 0 1 + 4 ≤ 700
def oQge_putBytes : List Int → zE → Int → zE → Prop := fun _ η _ η' => η' 0 1 = η 0 1 + 4
def fQge_putBytes : List Int → zE → Int → zE → Prop := fun xs η y η' => η' = (yf_p (xs.getD 0 0) η)
def pQge_putBytes : List Int → zE → Int → zE → Prop := fun xs η y η' => oQge_putBytes xs η y η' ∧ fQge_putBytes xs η y η'
def pCge_putBytes : Nat → List Int → zE → Prop := fun c => match c with
  | _ => fun _ _ => True
def qCge_putBytes : Nat → List Int → zE → Int → zE → Prop := fun c => match c with
  | _ => fun _ _ _ _ => True
def iCge_putBytes : List Int → zE → Nat → List Int → zE → Prop := fun xs η0 c => match c with
  | _ => fun _ _ => True
def zVge_putBytes : List zIv := []
def zDge_putBytes : List (List zK) := [[(nat_lit 7, nat_lit 3, []), (nat_lit 6, nat_lit 2, [(nat_lit 0, (.ofNat (nat_lit 24))), (nat_lit 0, (.ofNat (nat_lit 0)))])],
  [(nat_lit 7, nat_lit 0, [(nat_lit 3, (.ofNat (nat_lit 0))), (nat_lit 0, (.ofNat (nat_lit 700)))]), (nat_lit 0, nat_lit 12, [(nat_lit 4, (.ofNat (nat_lit 0))), (nat_lit 4, (.ofNat (nat_lit 0)))]), (nat_lit 0, nat_lit 7, [(nat_lit 1, (.ofNat (nat_lit 0))), (nat_lit 0, (.ofNat (nat_lit 24)))]), (nat_lit 4, nat_lit 0, [(nat_lit 0, (.ofNat (nat_lit 0))), (nat_lit 0, (.ofNat (nat_lit 1)))]), (nat_lit 6, nat_lit 2, [(nat_lit 2, (.ofNat (nat_lit 0))), (nat_lit 0, (.ofNat (nat_lit 700)))]), (nat_lit 4, nat_lit 0, [(nat_lit 0, (.ofNat (nat_lit 0))), (nat_lit 0, (.ofNat (nat_lit 1)))]), (nat_lit 6, nat_lit 3, [(nat_lit 0, (.ofNat (nat_lit 24))), (nat_lit 0, (.ofNat (nat_lit 0)))])],
  [(nat_lit 7, nat_lit 3, []), (nat_lit 6, nat_lit 2, [(nat_lit 9, (.ofNat (nat_lit 0))), (nat_lit 0, (.ofNat (nat_lit 0)))]), (nat_lit 0, nat_lit 1, [(nat_lit 0, (.ofNat (nat_lit 24))), (nat_lit 0, (.negSucc (nat_lit 7)))]), (nat_lit 5, nat_lit 0, [(nat_lit 0, (.ofNat (nat_lit 0))), (nat_lit 0, (.ofNat (nat_lit 1))), (nat_lit 8, (.ofNat (nat_lit 0)))]), (nat_lit 0, nat_lit 1, [(nat_lit 7, (.ofNat (nat_lit 0))), (nat_lit 0, (.ofNat (nat_lit 1)))]), (nat_lit 4, nat_lit 0, [(nat_lit 0, (.ofNat (nat_lit 0))), (nat_lit 0, (.ofNat (nat_lit 1)))]), (nat_lit 5, nat_lit 4, [(nat_lit 1, (.ofNat (nat_lit 0))), (nat_lit 3, (.ofNat (nat_lit 0))), (nat_lit 6, (.ofNat (nat_lit 0)))]), (nat_lit 0, nat_lit 12, [(nat_lit 5, (.ofNat (nat_lit 0))), (nat_lit 5, (.ofNat (nat_lit 0)))]), (nat_lit 0, nat_lit 12, [(nat_lit 4, (.ofNat (nat_lit 0))), (nat_lit 4, (.ofNat (nat_lit 0)))]), (nat_lit 0, nat_lit 7, [(nat_lit 1, (.ofNat (nat_lit 0))), (nat_lit 0, (.ofNat (nat_lit 24)))]), (nat_lit 4, nat_lit 0, [(nat_lit 0, (.ofNat (nat_lit 0))), (nat_lit 0, (.ofNat (nat_lit 1)))]), (nat_lit 6, nat_lit 2, [(nat_lit 2, (.ofNat (nat_lit 0))), (nat_lit 0, (.ofNat (nat_lit 700)))]), (nat_lit 4, nat_lit 0, [(nat_lit 0, (.ofNat (nat_lit 0))), (nat_lit 0, (.ofNat (nat_lit 1)))]), (nat_lit 6, nat_lit 3, [(nat_lit 0, (.ofNat (nat_lit 24))), (nat_lit 0, (.ofNat (nat_lit 0)))])],
  [(nat_lit 7, nat_lit 0, [(nat_lit 11, (.ofNat (nat_lit 0))), (nat_lit 0, (.ofNat (nat_lit 700)))]), (nat_lit 0, nat_lit 12, [(nat_lit 12, (.ofNat (nat_lit 0))), (nat_lit 12, (.ofNat (nat_lit 0)))]), (nat_lit 0, nat_lit 7, [(nat_lit 1, (.ofNat (nat_lit 0))), (nat_lit 9, (.ofNat (nat_lit 0)))]), (nat_lit 4, nat_lit 0, [(nat_lit 0, (.ofNat (nat_lit 0))), (nat_lit 0, (.ofNat (nat_lit 1)))]), (nat_lit 6, nat_lit 2, [(nat_lit 10, (.ofNat (nat_lit 0))), (nat_lit 0, (.ofNat (nat_lit 700)))]), (nat_lit 4, nat_lit 0, [(nat_lit 0, (.ofNat (nat_lit 0))), (nat_lit 0, (.ofNat (nat_lit 1)))]), (nat_lit 6, nat_lit 3, [(nat_lit 9, (.ofNat (nat_lit 0))), (nat_lit 0, (.ofNat (nat_lit 0)))]), (nat_lit 0, nat_lit 1, [(nat_lit 0, (.ofNat (nat_lit 24))), (nat_lit 0, (.negSucc (nat_lit 7)))]), (nat_lit 5, nat_lit 0, [(nat_lit 0, (.ofNat (nat_lit 0))), (nat_lit 0, (.ofNat (nat_lit 1))), (nat_lit 8, (.ofNat (nat_lit 0)))]), (nat_lit 0, nat_lit 1, [(nat_lit 7, (.ofNat (nat_lit 0))), (nat_lit 0, (.ofNat (nat_lit 1)))]), (nat_lit 4, nat_lit 0, [(nat_lit 0, (.ofNat (nat_lit 0))), (nat_lit 0, (.ofNat (nat_lit 1)))]), (nat_lit 5, nat_lit 4, [(nat_lit 1, (.ofNat (nat_lit 0))), (nat_lit 3, (.ofNat (nat_lit 0))), (nat_lit 6, (.ofNat (nat_lit 0)))]), (nat_lit 0, nat_lit 12, [(nat_lit 5, (.ofNat (nat_lit 0))), (nat_lit 5, (.ofNat (nat_lit 0)))]), (nat_lit 0, nat_lit 12, [(nat_lit 4, (.ofNat (nat_lit 0))), (nat_lit 4, (.ofNat (nat_lit 0)))]), (nat_lit 0, nat_lit 7, [(nat_lit 1, (.ofNat (nat_lit 0))), (nat_lit 0, (.ofNat (nat_lit 24)))]), (nat_lit 4, nat_lit 0, [(nat_lit 0, (.ofNat (nat_lit 0))), (nat_lit 0, (.ofNat (nat_lit 1)))]), (nat_lit 6, nat_lit 2, [(nat_lit 2, (.ofNat (nat_lit 0))), (nat_lit 0, (.ofNat (nat_lit 700)))]), (nat_lit 4, nat_lit 0, [(nat_lit 0, (.ofNat (nat_lit 0))), (nat_lit 0, (.ofNat (nat_lit 1)))]), (nat_lit 6, nat_lit 3, [(nat_lit 0, (.ofNat (nat_lit 24))), (nat_lit 0, (.ofNat (nat_lit 0)))])],
  [(nat_lit 7, nat_lit 3, []), (nat_lit 6, nat_lit 2, [(nat_lit 17, (.ofNat (nat_lit 0))), (nat_lit 0, (.ofNat (nat_lit 0)))]), (nat_lit 0, nat_lit 1, [(nat_lit 9, (.ofNat (nat_lit 0))), (nat_lit 0, (.negSucc (nat_lit 7)))]), (nat_lit 5, nat_lit 0, [(nat_lit 0, (.ofNat (nat_lit 0))), (nat_lit 0, (.ofNat (nat_lit 1))), (nat_lit 16, (.ofNat (nat_lit 0)))]), (nat_lit 0, nat_lit 1, [(nat_lit 15, (.ofNat (nat_lit 0))), (nat_lit 0, (.ofNat (nat_lit 1)))]), (nat_lit 4, nat_lit 0, [(nat_lit 0, (.ofNat (nat_lit 0))), (nat_lit 0, (.ofNat (nat_lit 1)))]), (nat_lit 5, nat_lit 4, [(nat_lit 1, (.ofNat (nat_lit 0))), (nat_lit 11, (.ofNat (nat_lit 0))), (nat_lit 14, (.ofNat (nat_lit 0)))]), (nat_lit 0, nat_lit 12, [(nat_lit 13, (.ofNat (nat_lit 0))), (nat_lit 13, (.ofNat (nat_lit 0)))]), (nat_lit 0, nat_lit 12, [(nat_lit 12, (.ofNat (nat_lit 0))), (nat_lit 12, (.ofNat (nat_lit 0)))]), (nat_lit 0, nat_lit 7, [(nat_lit 1, (.ofNat (nat_lit 0))), (nat_lit 9, (.ofNat (nat_lit 0)))]), (nat_lit 4, nat_lit 0, [(nat_lit 0, (.ofNat (nat_lit 0))), (nat_lit 0, (.ofNat (nat_lit 1)))]), (nat_lit 6, nat_lit 2, [(nat_lit 10, (.ofNat (nat_lit 0))), (nat_lit 0, (.ofNat (nat_lit 700)))]), (nat_lit 4, nat_lit 0, [(nat_lit 0, (.ofNat (nat_lit 0))), (nat_lit 0, (.ofNat (nat_lit 1)))]), (nat_lit 6, nat_lit 3, [(nat_lit 9, (.ofNat (nat_lit 0))), (nat_lit 0, (.ofNat (nat_lit 0)))]), (nat_lit 0, nat_lit 1, [(nat_lit 0, (.ofNat (nat_lit 24))), (nat_lit 0, (.negSucc (nat_lit 7)))]), (nat_lit 5, nat_lit 0, [(nat_lit 0, (.ofNat (nat_lit 0))), (nat_lit 0, (.ofNat (nat_lit 1))), (nat_lit 8, (.ofNat (nat_lit 0)))]), (nat_lit 0, nat_lit 1, [(nat_lit 7, (.ofNat (nat_lit 0))), (nat_lit 0, (.ofNat (nat_lit 1)))]), (nat_lit 4, nat_lit 0, [(nat_lit 0, (.ofNat (nat_lit 0))), (nat_lit 0, (.ofNat (nat_lit 1)))]), (nat_lit 5, nat_lit 4, [(nat_lit 1, (.ofNat (nat_lit 0))), (nat_lit 3, (.ofNat (nat_lit 0))), (nat_lit 6, (.ofNat (nat_lit 0)))]), (nat_lit 0, nat_lit 12, [(nat_lit 5, (.ofNat (nat_lit 0))), (nat_lit 5, (.ofNat (nat_lit 0)))]), (nat_lit 0, nat_lit 12, [(nat_lit 4, (.ofNat (nat_lit 0))), (nat_lit 4, (.ofNat (nat_lit 0)))]), (nat_lit 0, nat_lit 7, [(nat_lit 1, (.ofNat (nat_lit 0))), (nat_lit 0, (.ofNat (nat_lit 24)))]), (nat_lit 4, nat_lit 0, [(nat_lit 0, (.ofNat (nat_lit 0))), (nat_lit 0, (.ofNat (nat_lit 1)))]), (nat_lit 6, nat_lit 2, [(nat_lit 2, (.ofNat (nat_lit 0))), (nat_lit 0, (.ofNat (nat_lit 700)))]), (nat_lit 4, nat_lit 0, [(nat_lit 0, (.ofNat (nat_lit 0))), (nat_lit 0, (.ofNat (nat_lit 1)))]), (nat_lit 6, nat_lit 3, [(nat_lit 0, (.ofNat (nat_lit 24))), (nat_lit 0, (.ofNat (nat_lit 0)))])],
  [(nat_lit 7, nat_lit 0, [(nat_lit 19, (.ofNat (nat_lit 0))), (nat_lit 0, (.ofNat (nat_lit 700)))]), (nat_lit 0, nat_lit 12, [(nat_lit 20, (.ofNat (nat_lit 0))), (nat_lit 20, (.ofNat (nat_lit 0)))]), (nat_lit 0, nat_lit 7, [(nat_lit 1, (.ofNat (nat_lit 0))), (nat_lit 17, (.ofNat (nat_lit 0)))]), (nat_lit 4, nat_lit 0, [(nat_lit 0, (.ofNat (nat_lit 0))), (nat_lit 0, (.ofNat (nat_lit 1)))]), (nat_lit 6, nat_lit 2, [(nat_lit 18, (.ofNat (nat_lit 0))), (nat_lit 0, (.ofNat (nat_lit 700)))]), (nat_lit 4, nat_lit 0, [(nat_lit 0, (.ofNat (nat_lit 0))), (nat_lit 0, (.ofNat (nat_lit 1)))]), (nat_lit 6, nat_lit 3, [(nat_lit 17, (.ofNat (nat_lit 0))), (nat_lit 0, (.ofNat (nat_lit 0)))]), (nat_lit 0, nat_lit 1, [(nat_lit 9, (.ofNat (nat_lit 0))), (nat_lit 0, (.negSucc (nat_lit 7)))]), (nat_lit 5, nat_lit 0, [(nat_lit 0, (.ofNat (nat_lit 0))), (nat_lit 0, (.ofNat (nat_lit 1))), (nat_lit 16, (.ofNat (nat_lit 0)))]), (nat_lit 0, nat_lit 1, [(nat_lit 15, (.ofNat (nat_lit 0))), (nat_lit 0, (.ofNat (nat_lit 1)))]), (nat_lit 4, nat_lit 0, [(nat_lit 0, (.ofNat (nat_lit 0))), (nat_lit 0, (.ofNat (nat_lit 1)))]), (nat_lit 5, nat_lit 4, [(nat_lit 1, (.ofNat (nat_lit 0))), (nat_lit 11, (.ofNat (nat_lit 0))), (nat_lit 14, (.ofNat (nat_lit 0)))]), (nat_lit 0, nat_lit 12, [(nat_lit 13, (.ofNat (nat_lit 0))), (nat_lit 13, (.ofNat (nat_lit 0)))]), (nat_lit 0, nat_lit 12, [(nat_lit 12, (.ofNat (nat_lit 0))), (nat_lit 12, (.ofNat (nat_lit 0)))]), (nat_lit 0, nat_lit 7, [(nat_lit 1, (.ofNat (nat_lit 0))), (nat_lit 9, (.ofNat (nat_lit 0)))]), (nat_lit 4, nat_lit 0, [(nat_lit 0, (.ofNat (nat_lit 0))), (nat_lit 0, (.ofNat (nat_lit 1)))]), (nat_lit 6, nat_lit 2, [(nat_lit 10, (.ofNat (nat_lit 0))), (nat_lit 0, (.ofNat (nat_lit 700)))]), (nat_lit 4, nat_lit 0, [(nat_lit 0, (.ofNat (nat_lit 0))), (nat_lit 0, (.ofNat (nat_lit 1)))]), (nat_lit 6, nat_lit 3, [(nat_lit 9, (.ofNat (nat_lit 0))), (nat_lit 0, (.ofNat (nat_lit 0)))]), (nat_lit 0, nat_lit 1, [(nat_lit 0, (.ofNat (nat_lit 24))), (nat_lit 0, (.negSucc (nat_lit 7)))]), (nat_lit 5, nat_lit 0, [(nat_lit 0, (.ofNat (nat_lit 0))), (nat_lit 0, (.ofNat (nat_lit 1))), (nat_lit 8, (.ofNat (nat_lit 0)))]), (nat_lit 0, nat_lit 1, [(nat_lit 7, (.ofNat (nat_lit 0))), (nat_lit 0, (.ofNat (nat_lit 1)))]), (nat_lit 4, nat_lit 0, [(nat_lit 0, (.ofNat (nat_lit 0))), (nat_lit 0, (.ofNat (nat_lit 1)))]), (nat_lit 5, nat_lit 4, [(nat_lit 1, (.ofNat (nat_lit 0))), (nat_lit 3, (.ofNat (nat_lit 0))), (nat_lit 6, (.ofNat (nat_lit 0)))]), (nat_lit 0, nat_lit 12, [(nat_lit 5, (.ofNat (nat_lit 0))), (nat_lit 5, (.ofNat (nat_lit 0)))]), (nat_lit 0, nat_lit 12, [(nat_lit 4, (.ofNat (nat_lit 0))), (nat_lit 4, (.ofNat (nat_lit 0)))]), (nat_lit 0, nat_lit 7, [(nat_lit 1, (.ofNat (nat_lit 0))), (nat_lit 0, (.ofNat (nat_lit 24)))]), (nat_lit 4, nat_lit 0, [(nat_lit 0, (.ofNat (nat_lit 0))), (nat_lit 0, (.ofNat (nat_lit 1)))]), (nat_lit 6, nat_lit 2, [(nat_lit 2, (.ofNat (nat_lit 0))), (nat_lit 0, (.ofNat (nat_lit 700)))]), (nat_lit 4, nat_lit 0, [(nat_lit 0, (.ofNat (nat_lit 0))), (nat_lit 0, (.ofNat (nat_lit 1)))]), (nat_lit 6, nat_lit 3, [(nat_lit 0, (.ofNat (nat_lit 24))), (nat_lit 0, (.ofNat (nat_lit 0)))])],
  [(nat_lit 7, nat_lit 3, []), (nat_lit 6, nat_lit 2, [(nat_lit 25, (.ofNat (nat_lit 0))), (nat_lit 0, (.ofNat (nat_lit 0)))]), (nat_lit 0, nat_lit 1, [(nat_lit 17, (.ofNat (nat_lit 0))), (nat_lit 0, (.negSucc (nat_lit 7)))]), (nat_lit 5, nat_lit 0, [(nat_lit 0, (.ofNat (nat_lit 0))), (nat_lit 0, (.ofNat (nat_lit 1))), (nat_lit 24, (.ofNat (nat_lit 0)))]), (nat_lit 0, nat_lit 1, [(nat_lit 23, (.ofNat (nat_lit 0))), (nat_lit 0, (.ofNat (nat_lit 1)))]), (nat_lit 4, nat_lit 0, [(nat_lit 0, (.ofNat (nat_lit 0))), (nat_lit 0, (.ofNat (nat_lit 1)))]), (nat_lit 5, nat_lit 4, [(nat_lit 1, (.ofNat (nat_lit 0))), (nat_lit 19, (.ofNat (nat_lit 0))), (nat_lit 22, (.ofNat (nat_lit 0)))]), (nat_lit 0, nat_lit 12, [(nat_lit 21, (.ofNat (nat_lit 0))), (nat_lit 21, (.ofNat (nat_lit 0)))]), (nat_lit 0, nat_lit 12, [(nat_lit 20, (.ofNat (nat_lit 0))), (nat_lit 20, (.ofNat (nat_lit 0)))]), (nat_lit 0, nat_lit 7, [(nat_lit 1, (.ofNat (nat_lit 0))), (nat_lit 17, (.ofNat (nat_lit 0)))]), (nat_lit 4, nat_lit 0, [(nat_lit 0, (.ofNat (nat_lit 0))), (nat_lit 0, (.ofNat (nat_lit 1)))]), (nat_lit 6, nat_lit 2, [(nat_lit 18, (.ofNat (nat_lit 0))), (nat_lit 0, (.ofNat (nat_lit 700)))]), (nat_lit 4, nat_lit 0, [(nat_lit 0, (.ofNat (nat_lit 0))), (nat_lit 0, (.ofNat (nat_lit 1)))]), (nat_lit 6, nat_lit 3, [(nat_lit 17, (.ofNat (nat_lit 0))), (nat_lit 0, (.ofNat (nat_lit 0)))]), (nat_lit 0, nat_lit 1, [(nat_lit 9, (.ofNat (nat_lit 0))), (nat_lit 0, (.negSucc (nat_lit 7)))]), (nat_lit 5, nat_lit 0, [(nat_lit 0, (.ofNat (nat_lit 0))), (nat_lit 0, (.ofNat (nat_lit 1))), (nat_lit 16, (.ofNat (nat_lit 0)))]), (nat_lit 0, nat_lit 1, [(nat_lit 15, (.ofNat (nat_lit 0))), (nat_lit 0, (.ofNat (nat_lit 1)))]), (nat_lit 4, nat_lit 0, [(nat_lit 0, (.ofNat (nat_lit 0))), (nat_lit 0, (.ofNat (nat_lit 1)))]), (nat_lit 5, nat_lit 4, [(nat_lit 1, (.ofNat (nat_lit 0))), (nat_lit 11, (.ofNat (nat_lit 0))), (nat_lit 14, (.ofNat (nat_lit 0)))]), (nat_lit 0, nat_lit 12, [(nat_lit 13, (.ofNat (nat_lit 0))), (nat_lit 13, (.ofNat (nat_lit 0)))]), (nat_lit 0, nat_lit 12, [(nat_lit 12, (.ofNat (nat_lit 0))), (nat_lit 12, (.ofNat (nat_lit 0)))]), (nat_lit 0, nat_lit 7, [(nat_lit 1, (.ofNat (nat_lit 0))), (nat_lit 9, (.ofNat (nat_lit 0)))]), (nat_lit 4, nat_lit 0, [(nat_lit 0, (.ofNat (nat_lit 0))), (nat_lit 0, (.ofNat (nat_lit 1)))]), (nat_lit 6, nat_lit 2, [(nat_lit 10, (.ofNat (nat_lit 0))), (nat_lit 0, (.ofNat (nat_lit 700)))]), (nat_lit 4, nat_lit 0, [(nat_lit 0, (.ofNat (nat_lit 0))), (nat_lit 0, (.ofNat (nat_lit 1)))]), (nat_lit 6, nat_lit 3, [(nat_lit 9, (.ofNat (nat_lit 0))), (nat_lit 0, (.ofNat (nat_lit 0)))]), (nat_lit 0, nat_lit 1, [(nat_lit 0, (.ofNat (nat_lit 24))), (nat_lit 0, (.negSucc (nat_lit 7)))]), (nat_lit 5, nat_lit 0, [(nat_lit 0, (.ofNat (nat_lit 0))), (nat_lit 0, (.ofNat (nat_lit 1))), (nat_lit 8, (.ofNat (nat_lit 0)))]), (nat_lit 0, nat_lit 1, [(nat_lit 7, (.ofNat (nat_lit 0))), (nat_lit 0, (.ofNat (nat_lit 1)))]), (nat_lit 4, nat_lit 0, [(nat_lit 0, (.ofNat (nat_lit 0))), (nat_lit 0, (.ofNat (nat_lit 1)))]), (nat_lit 5, nat_lit 4, [(nat_lit 1, (.ofNat (nat_lit 0))), (nat_lit 3, (.ofNat (nat_lit 0))), (nat_lit 6, (.ofNat (nat_lit 0)))]), (nat_lit 0, nat_lit 12, [(nat_lit 5, (.ofNat (nat_lit 0))), (nat_lit 5, (.ofNat (nat_lit 0)))]), (nat_lit 0, nat_lit 12, [(nat_lit 4, (.ofNat (nat_lit 0))), (nat_lit 4, (.ofNat (nat_lit 0)))]), (nat_lit 0, nat_lit 7, [(nat_lit 1, (.ofNat (nat_lit 0))), (nat_lit 0, (.ofNat (nat_lit 24)))]), (nat_lit 4, nat_lit 0, [(nat_lit 0, (.ofNat (nat_lit 0))), (nat_lit 0, (.ofNat (nat_lit 1)))]), (nat_lit 6, nat_lit 2, [(nat_lit 2, (.ofNat (nat_lit 0))), (nat_lit 0, (.ofNat (nat_lit 700)))]), (nat_lit 4, nat_lit 0, [(nat_lit 0, (.ofNat (nat_lit 0))), (nat_lit 0, (.ofNat (nat_lit 1)))]), (nat_lit 6, nat_lit 3, [(nat_lit 0, (.ofNat (nat_lit 24))), (nat_lit 0, (.ofNat (nat_lit 0)))])],
  [(nat_lit 7, nat_lit 0, [(nat_lit 27, (.ofNat (nat_lit 0))), (nat_lit 0, (.ofNat (nat_lit 700)))]), (nat_lit 0, nat_lit 12, [(nat_lit 28, (.ofNat (nat_lit 0))), (nat_lit 28, (.ofNat (nat_lit 0)))]), (nat_lit 0, nat_lit 7, [(nat_lit 1, (.ofNat (nat_lit 0))), (nat_lit 25, (.ofNat (nat_lit 0)))]), (nat_lit 4, nat_lit 0, [(nat_lit 0, (.ofNat (nat_lit 0))), (nat_lit 0, (.ofNat (nat_lit 1)))]), (nat_lit 6, nat_lit 2, [(nat_lit 26, (.ofNat (nat_lit 0))), (nat_lit 0, (.ofNat (nat_lit 700)))]), (nat_lit 4, nat_lit 0, [(nat_lit 0, (.ofNat (nat_lit 0))), (nat_lit 0, (.ofNat (nat_lit 1)))]), (nat_lit 6, nat_lit 3, [(nat_lit 25, (.ofNat (nat_lit 0))), (nat_lit 0, (.ofNat (nat_lit 0)))]), (nat_lit 0, nat_lit 1, [(nat_lit 17, (.ofNat (nat_lit 0))), (nat_lit 0, (.negSucc (nat_lit 7)))]), (nat_lit 5, nat_lit 0, [(nat_lit 0, (.ofNat (nat_lit 0))), (nat_lit 0, (.ofNat (nat_lit 1))), (nat_lit 24, (.ofNat (nat_lit 0)))]), (nat_lit 0, nat_lit 1, [(nat_lit 23, (.ofNat (nat_lit 0))), (nat_lit 0, (.ofNat (nat_lit 1)))]), (nat_lit 4, nat_lit 0, [(nat_lit 0, (.ofNat (nat_lit 0))), (nat_lit 0, (.ofNat (nat_lit 1)))]), (nat_lit 5, nat_lit 4, [(nat_lit 1, (.ofNat (nat_lit 0))), (nat_lit 19, (.ofNat (nat_lit 0))), (nat_lit 22, (.ofNat (nat_lit 0)))]), (nat_lit 0, nat_lit 12, [(nat_lit 21, (.ofNat (nat_lit 0))), (nat_lit 21, (.ofNat (nat_lit 0)))]), (nat_lit 0, nat_lit 12, [(nat_lit 20, (.ofNat (nat_lit 0))), (nat_lit 20, (.ofNat (nat_lit 0)))]), (nat_lit 0, nat_lit 7, [(nat_lit 1, (.ofNat (nat_lit 0))), (nat_lit 17, (.ofNat (nat_lit 0)))]), (nat_lit 4, nat_lit 0, [(nat_lit 0, (.ofNat (nat_lit 0))), (nat_lit 0, (.ofNat (nat_lit 1)))]), (nat_lit 6, nat_lit 2, [(nat_lit 18, (.ofNat (nat_lit 0))), (nat_lit 0, (.ofNat (nat_lit 700)))]), (nat_lit 4, nat_lit 0, [(nat_lit 0, (.ofNat (nat_lit 0))), (nat_lit 0, (.ofNat (nat_lit 1)))]), (nat_lit 6, nat_lit 3, [(nat_lit 17, (.ofNat (nat_lit 0))), (nat_lit 0, (.ofNat (nat_lit 0)))]), (nat_lit 0, nat_lit 1, [(nat_lit 9, (.ofNat (nat_lit 0))), (nat_lit 0, (.negSucc (nat_lit 7)))]), (nat_lit 5, nat_lit 0, [(nat_lit 0, (.ofNat (nat_lit 0))), (nat_lit 0, (.ofNat (nat_lit 1))), (nat_lit 16, (.ofNat (nat_lit 0)))]), (nat_lit 0, nat_lit 1, [(nat_lit 15, (.ofNat (nat_lit 0))), (nat_lit 0, (.ofNat (nat_lit 1)))]), (nat_lit 4, nat_lit 0, [(nat_lit 0, (.ofNat (nat_lit 0))), (nat_lit 0, (.ofNat (nat_lit 1)))]), (nat_lit 5, nat_lit 4, [(nat_lit 1, (.ofNat (nat_lit 0))), (nat_lit 11, (.ofNat (nat_lit 0))), (nat_lit 14, (.ofNat (nat_lit 0)))]), (nat_lit 0, nat_lit 12, [(nat_lit 13, (.ofNat (nat_lit 0))), (nat_lit 13, (.ofNat (nat_lit 0)))]), (nat_lit 0, nat_lit 12, [(nat_lit 12, (.ofNat (nat_lit 0))), (nat_lit 12, (.ofNat (nat_lit 0)))]), (nat_lit 0, nat_lit 7, [(nat_lit 1, (.ofNat (nat_lit 0))), (nat_lit 9, (.ofNat (nat_lit 0)))]), (nat_lit 4, nat_lit 0, [(nat_lit 0, (.ofNat (nat_lit 0))), (nat_lit 0, (.ofNat (nat_lit 1)))]), (nat_lit 6, nat_lit 2, [(nat_lit 10, (.ofNat (nat_lit 0))), (nat_lit 0, (.ofNat (nat_lit 700)))]), (nat_lit 4, nat_lit 0, [(nat_lit 0, (.ofNat (nat_lit 0))), (nat_lit 0, (.ofNat (nat_lit 1)))]), (nat_lit 6, nat_lit 3, [(nat_lit 9, (.ofNat (nat_lit 0))), (nat_lit 0, (.ofNat (nat_lit 0)))]), (nat_lit 0, nat_lit 1, [(nat_lit 0, (.ofNat (nat_lit 24))), (nat_lit 0, (.negSucc (nat_lit 7)))]), (nat_lit 5, nat_lit 0, [(nat_lit 0, (.ofNat (nat_lit 0))), (nat_lit 0, (.ofNat (nat_lit 1))), (nat_lit 8, (.ofNat (nat_lit 0)))]), (nat_lit 0, nat_lit 1, [(nat_lit 7, (.ofNat (nat_lit 0))), (nat_lit 0, (.ofNat (nat_lit 1)))]), (nat_lit 4, nat_lit 0, [(nat_lit 0, (.ofNat (nat_lit 0))), (nat_lit 0, (.ofNat (nat_lit 1)))]), (nat_lit 5, nat_lit 4, [(nat_lit 1, (.ofNat (nat_lit 0))), (nat_lit 3, (.ofNat (nat_lit 0))), (nat_lit 6, (.ofNat (nat_lit 0)))]), (nat_lit 0, nat_lit 12, [(nat_lit 5, (.ofNat (nat_lit 0))), (nat_lit 5, (.ofNat (nat_lit 0)))]), (nat_lit 0, nat_lit 12, [(nat_lit 4, (.ofNat (nat_lit 0))), (nat_lit 4, (.ofNat (nat_lit 0)))]), (nat_lit 0, nat_lit 7, [(nat_lit 1, (.ofNat (nat_lit 0))), (nat_lit 0, (.ofNat (nat_lit 24)))]), (nat_lit 4, nat_lit 0, [(nat_lit 0, (.ofNat (nat_lit 0))), (nat_lit 0, (.ofNat (nat_lit 1)))]), (nat_lit 6, nat_lit 2, [(nat_lit 2, (.ofNat (nat_lit 0))), (nat_lit 0, (.ofNat (nat_lit 700)))]), (nat_lit 4, nat_lit 0, [(nat_lit 0, (.ofNat (nat_lit 0))), (nat_lit 0, (.ofNat (nat_lit 1)))]), (nat_lit 6, nat_lit 3, [(nat_lit 0, (.ofNat (nat_lit 24))), (nat_lit 0, (.ofNat (nat_lit 0)))])],
  [(nat_lit 7, nat_lit 3, []), (nat_lit 6, nat_lit 3, [(nat_lit 33, (.ofNat (nat_lit 0))), (nat_lit 0, (.ofNat (nat_lit 0)))]), (nat_lit 0, nat_lit 1, [(nat_lit 25, (.ofNat (nat_lit 0))), (nat_lit 0, (.negSucc (nat_lit 7)))]), (nat_lit 5, nat_lit 0, [(nat_lit 0, (.ofNat (nat_lit 0))), (nat_lit 0, (.ofNat (nat_lit 1))), (nat_lit 32, (.ofNat (nat_lit 0)))]), (nat_lit 0, nat_lit 1, [(nat_lit 31, (.ofNat (nat_lit 0))), (nat_lit 0, (.ofNat (nat_lit 1)))]), (nat_lit 4, nat_lit 0, [(nat_lit 0, (.ofNat (nat_lit 0))), (nat_lit 0, (.ofNat (nat_lit 1)))]), (nat_lit 5, nat_lit 4, [(nat_lit 1, (.ofNat (nat_lit 0))), (nat_lit 27, (.ofNat (nat_lit 0))), (nat_lit 30, (.ofNat (nat_lit 0)))]), (nat_lit 0, nat_lit 12, [(nat_lit 29, (.ofNat (nat_lit 0))), (nat_lit 29, (.ofNat (nat_lit 0)))]), (nat_lit 0, nat_lit 12, [(nat_lit 28, (.ofNat (nat_lit 0))), (nat_lit 28, (.ofNat (nat_lit 0)))]), (nat_lit 0, nat_lit 7, [(nat_lit 1, (.ofNat (nat_lit 0))), (nat_lit 25, (.ofNat (nat_lit 0)))]), (nat_lit 4, nat_lit 0, [(nat_lit 0, (.ofNat (nat_lit 0))), (nat_lit 0, (.ofNat (nat_lit 1)))]), (nat_lit 6, nat_lit 2, [(nat_lit 26, (.ofNat (nat_lit 0))), (nat_lit 0, (.ofNat (nat_lit 700)))]), (nat_lit 4, nat_lit 0, [(nat_lit 0, (.ofNat (nat_lit 0))), (nat_lit 0, (.ofNat (nat_lit 1)))]), (nat_lit 6, nat_lit 3, [(nat_lit 25, (.ofNat (nat_lit 0))), (nat_lit 0, (.ofNat (nat_lit 0)))]), (nat_lit 0, nat_lit 1, [(nat_lit 17, (.ofNat (nat_lit 0))), (nat_lit 0, (.negSucc (nat_lit 7)))]), (nat_lit 5, nat_lit 0, [(nat_lit 0, (.ofNat (nat_lit 0))), (nat_lit 0, (.ofNat (nat_lit 1))), (nat_lit 24, (.ofNat (nat_lit 0)))]), (nat_lit 0, nat_lit 1, [(nat_lit 23, (.ofNat (nat_lit 0))), (nat_lit 0, (.ofNat (nat_lit 1)))]), (nat_lit 4, nat_lit 0, [(nat_lit 0, (.ofNat (nat_lit 0))), (nat_lit 0, (.ofNat (nat_lit 1)))]), (nat_lit 5, nat_lit 4, [(nat_lit 1, (.ofNat (nat_lit 0))), (nat_lit 19, (.ofNat (nat_lit 0))), (nat_lit 22, (.ofNat (nat_lit 0)))]), (nat_lit 0, nat_lit 12, [(nat_lit 21, (.ofNat (nat_lit 0))), (nat_lit 21, (.ofNat (nat_lit 0)))]), (nat_lit 0, nat_lit 12, [(nat_lit 20, (.ofNat (nat_lit 0))), (nat_lit 20, (.ofNat (nat_lit 0)))]), (nat_lit 0, nat_lit 7, [(nat_lit 1, (.ofNat (nat_lit 0))), (nat_lit 17, (.ofNat (nat_lit 0)))]), (nat_lit 4, nat_lit 0, [(nat_lit 0, (.ofNat (nat_lit 0))), (nat_lit 0, (.ofNat (nat_lit 1)))]), (nat_lit 6, nat_lit 2, [(nat_lit 18, (.ofNat (nat_lit 0))), (nat_lit 0, (.ofNat (nat_lit 700)))]), (nat_lit 4, nat_lit 0, [(nat_lit 0, (.ofNat (nat_lit 0))), (nat_lit 0, (.ofNat (nat_lit 1)))]), (nat_lit 6, nat_lit 3, [(nat_lit 17, (.ofNat (nat_lit 0))), (nat_lit 0, (.ofNat (nat_lit 0)))]), (nat_lit 0, nat_lit 1, [(nat_lit 9, (.ofNat (nat_lit 0))), (nat_lit 0, (.negSucc (nat_lit 7)))]), (nat_lit 5, nat_lit 0, [(nat_lit 0, (.ofNat (nat_lit 0))), (nat_lit 0, (.ofNat (nat_lit 1))), (nat_lit 16, (.ofNat (nat_lit 0)))]), (nat_lit 0, nat_lit 1, [(nat_lit 15, (.ofNat (nat_lit 0))), (nat_lit 0, (.ofNat (nat_lit 1)))]), (nat_lit 4, nat_lit 0, [(nat_lit 0, (.ofNat (nat_lit 0))), (nat_lit 0, (.ofNat (nat_lit 1)))]), (nat_lit 5, nat_lit 4, [(nat_lit 1, (.ofNat (nat_lit 0))), (nat_lit 11, (.ofNat (nat_lit 0))), (nat_lit 14, (.ofNat (nat_lit 0)))]), (nat_lit 0, nat_lit 12, [(nat_lit 13, (.ofNat (nat_lit 0))), (nat_lit 13, (.ofNat (nat_lit 0)))]), (nat_lit 0, nat_lit 12, [(nat_lit 12, (.ofNat (nat_lit 0))), (nat_lit 12, (.ofNat (nat_lit 0)))]), (nat_lit 0, nat_lit 7, [(nat_lit 1, (.ofNat (nat_lit 0))), (nat_lit 9, (.ofNat (nat_lit 0)))]), (nat_lit 4, nat_lit 0, [(nat_lit 0, (.ofNat (nat_lit 0))), (nat_lit 0, (.ofNat (nat_lit 1)))]), (nat_lit 6, nat_lit 2, [(nat_lit 10, (.ofNat (nat_lit 0))), (nat_lit 0, (.ofNat (nat_lit 700)))]), (nat_lit 4, nat_lit 0, [(nat_lit 0, (.ofNat (nat_lit 0))), (nat_lit 0, (.ofNat (nat_lit 1)))]), (nat_lit 6, nat_lit 3, [(nat_lit 9, (.ofNat (nat_lit 0))), (nat_lit 0, (.ofNat (nat_lit 0)))]), (nat_lit 0, nat_lit 1, [(nat_lit 0, (.ofNat (nat_lit 24))), (nat_lit 0, (.negSucc (nat_lit 7)))]), (nat_lit 5, nat_lit 0, [(nat_lit 0, (.ofNat (nat_lit 0))), (nat_lit 0, (.ofNat (nat_lit 1))), (nat_lit 8, (.ofNat (nat_lit 0)))]), (nat_lit 0, nat_lit 1, [(nat_lit 7, (.ofNat (nat_lit 0))), (nat_lit 0, (.ofNat (nat_lit 1)))]), (nat_lit 4, nat_lit 0, [(nat_lit 0, (.ofNat (nat_lit 0))), (nat_lit 0, (.ofNat (nat_lit 1)))]), (nat_lit 5, nat_lit 4, [(nat_lit 1, (.ofNat (nat_lit 0))), (nat_lit 3, (.ofNat (nat_lit 0))), (nat_lit 6, (.ofNat (nat_lit 0)))]), (nat_lit 0, nat_lit 12, [(nat_lit 5, (.ofNat (nat_lit 0))), (nat_lit 5, (.ofNat (nat_lit 0)))]), (nat_lit 0, nat_lit 12, [(nat_lit 4, (.ofNat (nat_lit 0))), (nat_lit 4, (.ofNat (nat_lit 0)))]), (nat_lit 0, nat_lit 7, [(nat_lit 1, (.ofNat (nat_lit 0))), (nat_lit 0, (.ofNat (nat_lit 24)))]), (nat_lit 4, nat_lit 0, [(nat_lit 0, (.ofNat (nat_lit 0))), (nat_lit 0, (.ofNat (nat_lit 1)))]), (nat_lit 6, nat_lit 2, [(nat_lit 2, (.ofNat (nat_lit 0))), (nat_lit 0, (.ofNat (nat_lit 700)))]), (nat_lit 4, nat_lit 0, [(nat_lit 0, (.ofNat (nat_lit 0))), (nat_lit 0, (.ofNat (nat_lit 1)))]), (nat_lit 6, nat_lit 3, [(nat_lit 0, (.ofNat (nat_lit 24))), (nat_lit 0, (.ofNat (nat_lit 0)))])]]
def zEge_putBytes : List (List zK) := [[(nat_lit 11, nat_lit 0, [(nat_lit 0, (.ofNat (nat_lit 0)))]), (nat_lit 6, nat_lit 3, [(nat_lit 2, (.ofNat (nat_lit 0))), (nat_lit 0, (.ofNat (nat_lit 700)))]), (nat_lit 4, nat_lit 0, [(nat_lit 0, (.ofNat (nat_lit 0))), (nat_lit 0, (.ofNat (nat_lit 1)))]), (nat_lit 6, nat_lit 3, [(nat_lit 0, (.ofNat (nat_lit 24))), (nat_lit 0, (.ofNat (nat_lit 0)))])],
  [(nat_lit 11, nat_lit 0, [(nat_lit 0, (.ofNat (nat_lit 0)))]), (nat_lit 6, nat_lit 3, [(nat_lit 10, (.ofNat (nat_lit 0))), (nat_lit 0, (.ofNat (nat_lit 700)))]), (nat_lit 4, nat_lit 0, [(nat_lit 0, (.ofNat (nat_lit 0))), (nat_lit 0, (.ofNat (nat_lit 1)))]), (nat_lit 6, nat_lit 3, [(nat_lit 9, (.ofNat (nat_lit 0))), (nat_lit 0, (.ofNat (nat_lit 0)))]), (nat_lit 0, nat_lit 1, [(nat_lit 0, (.ofNat (nat_lit 24))), (nat_lit 0, (.negSucc (nat_lit 7)))]), (nat_lit 5, nat_lit 0, [(nat_lit 0, (.ofNat (nat_lit 0))), (nat_lit 0, (.ofNat (nat_lit 1))), (nat_lit 8, (.ofNat (nat_lit 0)))]), (nat_lit 0, nat_lit 1, [(nat_lit 7, (.ofNat (nat_lit 0))), (nat_lit 0, (.ofNat (nat_lit 1)))]), (nat_lit 4, nat_lit 0, [(nat_lit 0, (.ofNat (nat_lit 0))), (nat_lit 0, (.ofNat (nat_lit 1)))]), (nat_lit 5, nat_lit 4, [(nat_lit 1, (.ofNat (nat_lit 0))), (nat_lit 3, (.ofNat (nat_lit 0))), (nat_lit 6, (.ofNat (nat_lit 0)))]), (nat_lit 0, nat_lit 12, [(nat_lit 5, (.ofNat (nat_lit 0))), (nat_lit 5, (.ofNat (nat_lit 0)))]), (nat_lit 0, nat_lit 12, [(nat_lit 4, (.ofNat (nat_lit 0))), (nat_lit 4, (.ofNat (nat_lit 0)))]), (nat_lit 0, nat_lit 7, [(nat_lit 1, (.ofNat (nat_lit 0))), (nat_lit 0, (.ofNat (nat_lit 24)))]), (nat_lit 4, nat_lit 0, [(nat_lit 0, (.ofNat (nat_lit 0))), (nat_lit 0, (.ofNat (nat_lit 1)))]), (nat_lit 6, nat_lit 2, [(nat_lit 2, (.ofNat (nat_lit 0))), (nat_lit 0, (.ofNat (nat_lit 700)))]), (nat_lit 4, nat_lit 0, [(nat_lit 0, (.ofNat (nat_lit 0))), (nat_lit 0, (.ofNat (nat_lit 1)))]), (nat_lit 6, nat_lit 3, [(nat_lit 0, (.ofNat (nat_lit 24))), (nat_lit 0, (.ofNat (nat_lit 0)))])],
  [(nat_lit 11, nat_lit 0, [(nat_lit 0, (.ofNat (nat_lit 0)))]), (nat_lit 6, nat_lit 3, [(nat_lit 18, (.ofNat (nat_lit 0))), (nat_lit 0, (.ofNat (nat_lit 700)))]), (nat_lit 4, nat_lit 0, [(nat_lit 0, (.ofNat (nat_lit 0))), (nat_lit 0, (.ofNat (nat_lit 1)))]), (nat_lit 6, nat_lit 3, [(nat_lit 17, (.ofNat (nat_lit 0))), (nat_lit 0, (.ofNat (nat_lit 0)))]), (nat_lit 0, nat_lit 1, [(nat_lit 9, (.ofNat (nat_lit 0))), (nat_lit 0, (.negSucc (nat_lit 7)))]), (nat_lit 5, nat_lit 0, [(nat_lit 0, (.ofNat (nat_lit 0))), (nat_lit 0, (.ofNat (nat_lit 1))), (nat_lit 16, (.ofNat (nat_lit 0)))]), (nat_lit 0, nat_lit 1, [(nat_lit 15, (.ofNat (nat_lit 0))), (nat_lit 0, (.ofNat (nat_lit 1)))]), (nat_lit 4, nat_lit 0, [(nat_lit 0, (.ofNat (nat_lit 0))), (nat_lit 0, (.ofNat (nat_lit 1)))]), (nat_lit 5, nat_lit 4, [(nat_lit 1, (.ofNat (nat_lit 0))), (nat_lit 11, (.ofNat (nat_lit 0))), (nat_lit 14, (.ofNat (nat_lit 0)))]), (nat_lit 0, nat_lit 12, [(nat_lit 13, (.ofNat (nat_lit 0))), (nat_lit 13, (.ofNat (nat_lit 0)))]), (nat_lit 0, nat_lit 12, [(nat_lit 12, (.ofNat (nat_lit 0))), (nat_lit 12, (.ofNat (nat_lit 0)))]), (nat_lit 0, nat_lit 7, [(nat_lit 1, (.ofNat (nat_lit 0))), (nat_lit 9, (.ofNat (nat_lit 0)))]), (nat_lit 4, nat_lit 0, [(nat_lit 0, (.ofNat (nat_lit 0))), (nat_lit 0, (.ofNat (nat_lit 1)))]), (nat_lit 6, nat_lit 2, [(nat_lit 10, (.ofNat (nat_lit 0))), (nat_lit 0, (.ofNat (nat_lit 700)))]), (nat_lit 4, nat_lit 0, [(nat_lit 0, (.ofNat (nat_lit 0))), (nat_lit 0, (.ofNat (nat_lit 1)))]), (nat_lit 6, nat_lit 3, [(nat_lit 9, (.ofNat (nat_lit 0))), (nat_lit 0, (.ofNat (nat_lit 0)))]), (nat_lit 0, nat_lit 1, [(nat_lit 0, (.ofNat (nat_lit 24))), (nat_lit 0, (.negSucc (nat_lit 7)))]), (nat_lit 5, nat_lit 0, [(nat_lit 0, (.ofNat (nat_lit 0))), (nat_lit 0, (.ofNat (nat_lit 1))), (nat_lit 8, (.ofNat (nat_lit 0)))]), (nat_lit 0, nat_lit 1, [(nat_lit 7, (.ofNat (nat_lit 0))), (nat_lit 0, (.ofNat (nat_lit 1)))]), (nat_lit 4, nat_lit 0, [(nat_lit 0, (.ofNat (nat_lit 0))), (nat_lit 0, (.ofNat (nat_lit 1)))]), (nat_lit 5, nat_lit 4, [(nat_lit 1, (.ofNat (nat_lit 0))), (nat_lit 3, (.ofNat (nat_lit 0))), (nat_lit 6, (.ofNat (nat_lit 0)))]), (nat_lit 0, nat_lit 12, [(nat_lit 5, (.ofNat (nat_lit 0))), (nat_lit 5, (.ofNat (nat_lit 0)))]), (nat_lit 0, nat_lit 12, [(nat_lit 4, (.ofNat (nat_lit 0))), (nat_lit 4, (.ofNat (nat_lit 0)))]), (nat_lit 0, nat_lit 7, [(nat_lit 1, (.ofNat (nat_lit 0))), (nat_lit 0, (.ofNat (nat_lit 24)))]), (nat_lit 4, nat_lit 0, [(nat_lit 0, (.ofNat (nat_lit 0))), (nat_lit 0, (.ofNat (nat_lit 1)))]), (nat_lit 6, nat_lit 2, [(nat_lit 2, (.ofNat (nat_lit 0))), (nat_lit 0, (.ofNat (nat_lit 700)))]), (nat_lit 4, nat_lit 0, [(nat_lit 0, (.ofNat (nat_lit 0))), (nat_lit 0, (.ofNat (nat_lit 1)))]), (nat_lit 6, nat_lit 3, [(nat_lit 0, (.ofNat (nat_lit 24))), (nat_lit 0, (.ofNat (nat_lit 0)))])],
  [(nat_lit 11, nat_lit 0, [(nat_lit 0, (.ofNat (nat_lit 0)))]), (nat_lit 6, nat_lit 3, [(nat_lit 26, (.ofNat (nat_lit 0))), (nat_lit 0, (.ofNat (nat_lit 700)))]), (nat_lit 4, nat_lit 0, [(nat_lit 0, (.ofNat (nat_lit 0))), (nat_lit 0, (.ofNat (nat_lit 1)))]), (nat_lit 6, nat_lit 3, [(nat_lit 25, (.ofNat (nat_lit 0))), (nat_lit 0, (.ofNat (nat_lit 0)))]), (nat_lit 0, nat_lit 1, [(nat_lit 17, (.ofNat (nat_lit 0))), (nat_lit 0, (.negSucc (nat_lit 7)))]), (nat_lit 5, nat_lit 0, [(nat_lit 0, (.ofNat (nat_lit 0))), (nat_lit 0, (.ofNat (nat_lit 1))), (nat_lit 24, (.ofNat (nat_lit 0)))]), (nat_lit 0, nat_lit 1, [(nat_lit 23, (.ofNat (nat_lit 0))), (nat_lit 0, (.ofNat (nat_lit 1)))]), (nat_lit 4, nat_lit 0, [(nat_lit 0, (.ofNat (nat_lit 0))), (nat_lit 0, (.ofNat (nat_lit 1)))]), (nat_lit 5, nat_lit 4, [(nat_lit 1, (.ofNat (nat_lit 0))), (nat_lit 19, (.ofNat (nat_lit 0))), (nat_lit 22, (.ofNat (nat_lit 0)))]), (nat_lit 0, nat_lit 12, [(nat_lit 21, (.ofNat (nat_lit 0))), (nat_lit 21, (.ofNat (nat_lit 0)))]), (nat_lit 0, nat_lit 12, [(nat_lit 20, (.ofNat (nat_lit 0))), (nat_lit 20, (.ofNat (nat_lit 0)))]), (nat_lit 0, nat_lit 7, [(nat_lit 1, (.ofNat (nat_lit 0))), (nat_lit 17, (.ofNat (nat_lit 0)))]), (nat_lit 4, nat_lit 0, [(nat_lit 0, (.ofNat (nat_lit 0))), (nat_lit 0, (.ofNat (nat_lit 1)))]), (nat_lit 6, nat_lit 2, [(nat_lit 18, (.ofNat (nat_lit 0))), (nat_lit 0, (.ofNat (nat_lit 700)))]), (nat_lit 4, nat_lit 0, [(nat_lit 0, (.ofNat (nat_lit 0))), (nat_lit 0, (.ofNat (nat_lit 1)))]), (nat_lit 6, nat_lit 3, [(nat_lit 17, (.ofNat (nat_lit 0))), (nat_lit 0, (.ofNat (nat_lit 0)))]), (nat_lit 0, nat_lit 1, [(nat_lit 9, (.ofNat (nat_lit 0))), (nat_lit 0, (.negSucc (nat_lit 7)))]), (nat_lit 5, nat_lit 0, [(nat_lit 0, (.ofNat (nat_lit 0))), (nat_lit 0, (.ofNat (nat_lit 1))), (nat_lit 16, (.ofNat (nat_lit 0)))]), (nat_lit 0, nat_lit 1, [(nat_lit 15, (.ofNat (nat_lit 0))), (nat_lit 0, (.ofNat (nat_lit 1)))]), (nat_lit 4, nat_lit 0, [(nat_lit 0, (.ofNat (nat_lit 0))), (nat_lit 0, (.ofNat (nat_lit 1)))]), (nat_lit 5, nat_lit 4, [(nat_lit 1, (.ofNat (nat_lit 0))), (nat_lit 11, (.ofNat (nat_lit 0))), (nat_lit 14, (.ofNat (nat_lit 0)))]), (nat_lit 0, nat_lit 12, [(nat_lit 13, (.ofNat (nat_lit 0))), (nat_lit 13, (.ofNat (nat_lit 0)))]), (nat_lit 0, nat_lit 12, [(nat_lit 12, (.ofNat (nat_lit 0))), (nat_lit 12, (.ofNat (nat_lit 0)))]), (nat_lit 0, nat_lit 7, [(nat_lit 1, (.ofNat (nat_lit 0))), (nat_lit 9, (.ofNat (nat_lit 0)))]), (nat_lit 4, nat_lit 0, [(nat_lit 0, (.ofNat (nat_lit 0))), (nat_lit 0, (.ofNat (nat_lit 1)))]), (nat_lit 6, nat_lit 2, [(nat_lit 10, (.ofNat (nat_lit 0))), (nat_lit 0, (.ofNat (nat_lit 700)))]), (nat_lit 4, nat_lit 0, [(nat_lit 0, (.ofNat (nat_lit 0))), (nat_lit 0, (.ofNat (nat_lit 1)))]), (nat_lit 6, nat_lit 3, [(nat_lit 9, (.ofNat (nat_lit 0))), (nat_lit 0, (.ofNat (nat_lit 0)))]), (nat_lit 0, nat_lit 1, [(nat_lit 0, (.ofNat (nat_lit 24))), (nat_lit 0, (.negSucc (nat_lit 7)))]), (nat_lit 5, nat_lit 0, [(nat_lit 0, (.ofNat (nat_lit 0))), (nat_lit 0, (.ofNat (nat_lit 1))), (nat_lit 8, (.ofNat (nat_lit 0)))]), (nat_lit 0, nat_lit 1, [(nat_lit 7, (.ofNat (nat_lit 0))), (nat_lit 0, (.ofNat (nat_lit 1)))]), (nat_lit 4, nat_lit 0, [(nat_lit 0, (.ofNat (nat_lit 0))), (nat_lit 0, (.ofNat (nat_lit 1)))]), (nat_lit 5, nat_lit 4, [(nat_lit 1, (.ofNat (nat_lit 0))), (nat_lit 3, (.ofNat (nat_lit 0))), (nat_lit 6, (.ofNat (nat_lit 0)))]), (nat_lit 0, nat_lit 12, [(nat_lit 5, (.ofNat (nat_lit 0))), (nat_lit 5, (.ofNat (nat_lit 0)))]), (nat_lit 0, nat_lit 12, [(nat_lit 4, (.ofNat (nat_lit 0))), (nat_lit 4, (.ofNat (nat_lit 0)))]), (nat_lit 0, nat_lit 7, [(nat_lit 1, (.ofNat (nat_lit 0))), (nat_lit 0, (.ofNat (nat_lit 24)))]), (nat_lit 4, nat_lit 0, [(nat_lit 0, (.ofNat (nat_lit 0))), (nat_lit 0, (.ofNat (nat_lit 1)))]), (nat_lit 6, nat_lit 2, [(nat_lit 2, (.ofNat (nat_lit 0))), (nat_lit 0, (.ofNat (nat_lit 700)))]), (nat_lit 4, nat_lit 0, [(nat_lit 0, (.ofNat (nat_lit 0))), (nat_lit 0, (.ofNat (nat_lit 1)))]), (nat_lit 6, nat_lit 3, [(nat_lit 0, (.ofNat (nat_lit 24))), (nat_lit 0, (.ofNat (nat_lit 0)))])],
  [(nat_lit 11, nat_lit 0, [(nat_lit 0, (.ofNat (nat_lit 0)))]), (nat_lit 6, nat_lit 2, [(nat_lit 33, (.ofNat (nat_lit 0))), (nat_lit 0, (.ofNat (nat_lit 0)))]), (nat_lit 0, nat_lit 1, [(nat_lit 25, (.ofNat (nat_lit 0))), (nat_lit 0, (.negSucc (nat_lit 7)))]), (nat_lit 5, nat_lit 0, [(nat_lit 0, (.ofNat (nat_lit 0))), (nat_lit 0, (.ofNat (nat_lit 1))), (nat_lit 32, (.ofNat (nat_lit 0)))]), (nat_lit 0, nat_lit 1, [(nat_lit 31, (.ofNat (nat_lit 0))), (nat_lit 0, (.ofNat (nat_lit 1)))]), (nat_lit 4, nat_lit 0, [(nat_lit 0, (.ofNat (nat_lit 0))), (nat_lit 0, (.ofNat (nat_lit 1)))]), (nat_lit 5, nat_lit 4, [(nat_lit 1, (.ofNat (nat_lit 0))), (nat_lit 27, (.ofNat (nat_lit 0))), (nat_lit 30, (.ofNat (nat_lit 0)))]), (nat_lit 0, nat_lit 12, [(nat_lit 29, (.ofNat (nat_lit 0))), (nat_lit 29, (.ofNat (nat_lit 0)))]), (nat_lit 0, nat_lit 12, [(nat_lit 28, (.ofNat (nat_lit 0))), (nat_lit 28, (.ofNat (nat_lit 0)))]), (nat_lit 0, nat_lit 7, [(nat_lit 1, (.ofNat (nat_lit 0))), (nat_lit 25, (.ofNat (nat_lit 0)))]), (nat_lit 4, nat_lit 0, [(nat_lit 0, (.ofNat (nat_lit 0))), (nat_lit 0, (.ofNat (nat_lit 1)))]), (nat_lit 6, nat_lit 2, [(nat_lit 26, (.ofNat (nat_lit 0))), (nat_lit 0, (.ofNat (nat_lit 700)))]), (nat_lit 4, nat_lit 0, [(nat_lit 0, (.ofNat (nat_lit 0))), (nat_lit 0, (.ofNat (nat_lit 1)))]), (nat_lit 6, nat_lit 3, [(nat_lit 25, (.ofNat (nat_lit 0))), (nat_lit 0, (.ofNat (nat_lit 0)))]), (nat_lit 0, nat_lit 1, [(nat_lit 17, (.ofNat (nat_lit 0))), (nat_lit 0, (.negSucc (nat_lit 7)))]), (nat_lit 5, nat_lit 0, [(nat_lit 0, (.ofNat (nat_lit 0))), (nat_lit 0, (.ofNat (nat_lit 1))), (nat_lit 24, (.ofNat (nat_lit 0)))]), (nat_lit 0, nat_lit 1, [(nat_lit 23, (.ofNat (nat_lit 0))), (nat_lit 0, (.ofNat (nat_lit 1)))]), (nat_lit 4, nat_lit 0, [(nat_lit 0, (.ofNat (nat_lit 0))), (nat_lit 0, (.ofNat (nat_lit 1)))]), (nat_lit 5, nat_lit 4, [(nat_lit 1, (.ofNat (nat_lit 0))), (nat_lit 19, (.ofNat (nat_lit 0))), (nat_lit 22, (.ofNat (nat_lit 0)))]), (nat_lit 0, nat_lit 12, [(nat_lit 21, (.ofNat (nat_lit 0))), (nat_lit 21, (.ofNat (nat_lit 0)))]), (nat_lit 0, nat_lit 12, [(nat_lit 20, (.ofNat (nat_lit 0))), (nat_lit 20, (.ofNat (nat_lit 0)))]), (nat_lit 0, nat_lit 7, [(nat_lit 1, (.ofNat (nat_lit 0))), (nat_lit 17, (.ofNat (nat_lit 0)))]), (nat_lit 4, nat_lit 0, [(nat_lit 0, (.ofNat (nat_lit 0))), (nat_lit 0, (.ofNat (nat_lit 1)))]), (nat_lit 6, nat_lit 2, [(nat_lit 18, (.ofNat (nat_lit 0))), (nat_lit 0, (.ofNat (nat_lit 700)))]), (nat_lit 4, nat_lit 0, [(nat_lit 0, (.ofNat (nat_lit 0))), (nat_lit 0, (.ofNat (nat_lit 1)))]), (nat_lit 6, nat_lit 3, [(nat_lit 17, (.ofNat (nat_lit 0))), (nat_lit 0, (.ofNat (nat_lit 0)))]), (nat_lit 0, nat_lit 1, [(nat_lit 9, (.ofNat (nat_lit 0))), (nat_lit 0, (.negSucc (nat_lit 7)))]), (nat_lit 5, nat_lit 0, [(nat_lit 0, (.ofNat (nat_lit 0))), (nat_lit 0, (.ofNat (nat_lit 1))), (nat_lit 16, (.ofNat (nat_lit 0)))]), (nat_lit 0, nat_lit 1, [(nat_lit 15, (.ofNat (nat_lit 0))), (nat_lit 0, (.ofNat (nat_lit 1)))]), (nat_lit 4, nat_lit 0, [(nat_lit 0, (.ofNat (nat_lit 0))), (nat_lit 0, (.ofNat (nat_lit 1)))]), (nat_lit 5, nat_lit 4, [(nat_lit 1, (.ofNat (nat_lit 0))), (nat_lit 11, (.ofNat (nat_lit 0))), (nat_lit 14, (.ofNat (nat_lit 0)))]), (nat_lit 0, nat_lit 12, [(nat_lit 13, (.ofNat (nat_lit 0))), (nat_lit 13, (.ofNat (nat_lit 0)))]), (nat_lit 0, nat_lit 12, [(nat_lit 12, (.ofNat (nat_lit 0))), (nat_lit 12, (.ofNat (nat_lit 0)))]), (nat_lit 0, nat_lit 7, [(nat_lit 1, (.ofNat (nat_lit 0))), (nat_lit 9, (.ofNat (nat_lit 0)))]), (nat_lit 4, nat_lit 0, [(nat_lit 0, (.ofNat (nat_lit 0))), (nat_lit 0, (.ofNat (nat_lit 1)))]), (nat_lit 6, nat_lit 2, [(nat_lit 10, (.ofNat (nat_lit 0))), (nat_lit 0, (.ofNat (nat_lit 700)))]), (nat_lit 4, nat_lit 0, [(nat_lit 0, (.ofNat (nat_lit 0))), (nat_lit 0, (.ofNat (nat_lit 1)))]), (nat_lit 6, nat_lit 3, [(nat_lit 9, (.ofNat (nat_lit 0))), (nat_lit 0, (.ofNat (nat_lit 0)))]), (nat_lit 0, nat_lit 1, [(nat_lit 0, (.ofNat (nat_lit 24))), (nat_lit 0, (.negSucc (nat_lit 7)))]), (nat_lit 5, nat_lit 0, [(nat_lit 0, (.ofNat (nat_lit 0))), (nat_lit 0, (.ofNat (nat_lit 1))), (nat_lit 8, (.ofNat (nat_lit 0)))]), (nat_lit 0, nat_lit 1, [(nat_lit 7, (.ofNat (nat_lit 0))), (nat_lit 0, (.ofNat (nat_lit 1)))]), (nat_lit 4, nat_lit 0, [(nat_lit 0, (.ofNat (nat_lit 0))), (nat_lit 0, (.ofNat (nat_lit 1)))]), (nat_lit 5, nat_lit 4, [(nat_lit 1, (.ofNat (nat_lit 0))), (nat_lit 3, (.ofNat (nat_lit 0))), (nat_lit 6, (.ofNat (nat_lit 0)))]), (nat_lit 0, nat_lit 12, [(nat_lit 5, (.ofNat (nat_lit 0))), (nat_lit 5, (.ofNat (nat_lit 0)))]), (nat_lit 0, nat_lit 12, [(nat_lit 4, (.ofNat (nat_lit 0))), (nat_lit 4, (.ofNat (nat_lit 0)))]), (nat_lit 0, nat_lit 7, [(nat_lit 1, (.ofNat (nat_lit 0))), (nat_lit 0, (.ofNat (nat_lit 24)))]), (nat_lit 4, nat_lit 0, [(nat_lit 0, (.ofNat (nat_lit 0))), (nat_lit 0, (.ofNat (nat_lit 1)))]), (nat_lit 6, nat_lit 2, [(nat_lit 2, (.ofNat (nat_lit 0))), (nat_lit 0, (.ofNat (nat_lit 700)))]), (nat_lit 4, nat_lit 0, [(nat_lit 0, (.ofNat (nat_lit 0))), (nat_lit 0, (.ofNat (nat_lit 1)))]), (nat_lit 6, nat_lit 3, [(nat_lit 0, (.ofNat (nat_lit 24))), (nat_lit 0, (.ofNat (nat_lit 0)))])]]
def zFge_putBytes : List (List zK) := []
set_option maxHeartbeats 8000000 in
theorem zge_putBytes_o0 {ro : Nat → List Int32} (x1 : Int) (η : zE) (hp : sP wl_ge zTr zPge_putBytes [x1] η) (hpp : pPge_putBytes [x1] η) : ((0 : Int) ≤ (24 : Int)) → ∀ x2 : Int, x2 = η 0 (Int.toNat 1) → zok 0 x2 → (700 ≤ x2) → (fun (_ : Nat) (y : Int) (η' : zE) => pQge_putBytes [x1] η y η') 0 0 η := by
  intro c1 x2 e2 r2 c2
  refine yj_a ?_ ?_
  · have hh : η 0 1 + 4 ≤ 700 := hpp
    have bx1 : ((-2147483648) : Int) ≤ x1 ∧ x1 ≤ 2147483647 := hp.2.1.1
    have w0_0_1 : (0 : Int) ≤ η 0 1 ∧ η 0 1 ≤ 700 := wf_ok (a := 1) (b := 1) (z := (0, 700)) hp.1 (by decide +kernel) (Nat.le_refl _) (Nat.le_refl _)
    replace e2 : x2 = η 0 1 := e2
    replace r2 : -2147483648 ≤ x2 ∧ x2 ≤ 2147483647 := r2
    have f0_1 : η 0 1 = η 0 1 := rfl
    first
    | (exfalso; omega)
    | exact show η 0 1 = η 0 1 + 4 by omega
  · have hh : η 0 1 + 4 ≤ 700 := hpp
    have bx1 : ((-2147483648) : Int) ≤ x1 ∧ x1 ≤ 2147483647 := hp.2.1.1
    have w0_0_1 : (0 : Int) ≤ η 0 1 ∧ η 0 1 ≤ 700 := wf_ok (a := 1) (b := 1) (z := (0, 700)) hp.1 (by decide +kernel) (Nat.le_refl _) (Nat.le_refl _)
    replace e2 : x2 = η 0 1 := e2
    replace r2 : -2147483648 ≤ x2 ∧ x2 ≤ 2147483647 := r2
    have f0_1 : η 0 1 = η 0 1 := rfl
    exfalso
    omega
set_option maxHeartbeats 8000000 in
theorem zge_putBytes_o1 {ro : Nat → List Int32} (x1 : Int) (η : zE) (hp : sP wl_ge zTr zPge_putBytes [x1] η) (hpp : pPge_putBytes [x1] η) : ((0 : Int) ≤ (24 : Int)) → ∀ x2 : Int, x2 = η 0 (Int.toNat 1) → zok 0 x2 → (x2 < 700) → ∀ x3 : Int, x3 = η 0 (Int.toNat 1) → zok 0 x3 → ∀ x4 : Int, x4 = zd 0 7 x1 24 → ∀ x5 : Int, x5 = zd 0 12 x4 x4 → ∀ x6 : Int, x6 = zd 0 12 x5 x5 → ∀ η1 : zE, η1 = zup η 1 (Int.toNat x3) x6 → ∀ x7 : Int, x7 = η1 0 (Int.toNat 1) → zok 0 x7 → ∀ x8 : Int, x8 = zd 0 1 x7 1 → ∀ η2 : zE, η2 = zup η1 0 (Int.toNat 1) x8 → ∀ x9 : Int, x9 = zd 0 1 24 (-8) → (0 ≤ x9) → ∀ x10 : Int, x10 = η2 0 (Int.toNat 1) → zok 0 x10 → (700 ≤ x10) → (fun (_ : Nat) (y : Int) (η' : zE) => pQge_putBytes [x1] η y η') 0 0 η2 := by
  intro c1 x2 e2 r2 c2 x3 e3 r3 x4 e4 x5 e5 x6 e6 η1 eη1 x7 e7 r7 x8 e8 η2 eη2 x9 e9 c3 x10 e10 r10 c4
  refine yj_a ?_ ?_
  · have hh : η 0 1 + 4 ≤ 700 := hpp
    replace e4 := zEq_i e4
    replace e5 := zEq_i e5
    replace e6 := zEq_i e6
    replace e8 := zEq_i e8
    replace e9 := zEq_i e9
    have bx1 : ((-2147483648) : Int) ≤ x1 ∧ x1 ≤ 2147483647 := hp.2.1.1
    have w0_0_1 : (0 : Int) ≤ η 0 1 ∧ η 0 1 ≤ 700 := wf_ok (a := 1) (b := 1) (z := (0, 700)) hp.1 (by decide +kernel) (Nat.le_refl _) (Nat.le_refl _)
    replace e2 : x2 = η 0 1 := e2
    replace r2 : -2147483648 ≤ x2 ∧ x2 ≤ 2147483647 := r2
    replace e3 : x3 = η 0 1 := e3
    replace r3 : -2147483648 ≤ x3 ∧ x3 ≤ 2147483647 := r3
    clear e4
    clear e5
    clear e6
    have v1 : zEq (η1 0 1) (η 0 1) := by rw [eη1]; exact (zup_ne (fun e _ => absurd e (by decide))).trans rfl
    replace e7 : x7 = η 0 1 := e7.trans v1
    replace r7 : -2147483648 ≤ x7 ∧ x7 ≤ 2147483647 := r7
    first
    | replace e8 : x8 = x7 + 1 := zd_a2 (zEq_o e8) (by clear e8; exact ⟨by omega, by omega⟩)
    | clear e8
    have c1_0_1 : η1 0 1 = η 0 1 := v1
    first
    | replace e9 : x9 = 24 + (-8) := zd_a2 (zEq_o e9) (by clear e9; exact ⟨by omega, by omega⟩)
    | clear e9
    have v2 : zEq (η2 0 1) (x8) := by rw [eη2]; exact zup_eq
    replace e10 : x10 = x8 := e10.trans v2
    replace r10 : -2147483648 ≤ x10 ∧ x10 ≤ 2147483647 := r10
    have f0_1 : η2 0 1 = x8 := v2
    first
    | (exfalso; omega)
    | exact show η2 0 1 = η 0 1 + 4 by omega
  · have hh : η 0 1 + 4 ≤ 700 := hpp
    replace e4 := zEq_i e4
    replace e5 := zEq_i e5
    replace e6 := zEq_i e6
    replace e8 := zEq_i e8
    replace e9 := zEq_i e9
    have bx1 : ((-2147483648) : Int) ≤ x1 ∧ x1 ≤ 2147483647 := hp.2.1.1
    have w0_0_1 : (0 : Int) ≤ η 0 1 ∧ η 0 1 ≤ 700 := wf_ok (a := 1) (b := 1) (z := (0, 700)) hp.1 (by decide +kernel) (Nat.le_refl _) (Nat.le_refl _)
    replace e2 : x2 = η 0 1 := e2
    replace r2 : -2147483648 ≤ x2 ∧ x2 ≤ 2147483647 := r2
    replace e3 : x3 = η 0 1 := e3
    replace r3 : -2147483648 ≤ x3 ∧ x3 ≤ 2147483647 := r3
    clear e4
    clear e5
    clear e6
    have v1 : zEq (η1 0 1) (η 0 1) := by rw [eη1]; exact (zup_ne (fun e _ => absurd e (by decide))).trans rfl
    replace e7 : x7 = η 0 1 := e7.trans v1
    replace r7 : -2147483648 ≤ x7 ∧ x7 ≤ 2147483647 := r7
    first
    | replace e8 : x8 = x7 + 1 := zd_a2 (zEq_o e8) (by clear e8; exact ⟨by omega, by omega⟩)
    | clear e8
    have c1_0_1 : η1 0 1 = η 0 1 := v1
    first
    | replace e9 : x9 = 24 + (-8) := zd_a2 (zEq_o e9) (by clear e9; exact ⟨by omega, by omega⟩)
    | clear e9
    have v2 : zEq (η2 0 1) (x8) := by rw [eη2]; exact zup_eq
    replace e10 : x10 = x8 := e10.trans v2
    replace r10 : -2147483648 ≤ x10 ∧ x10 ≤ 2147483647 := r10
    have f0_1 : η2 0 1 = x8 := v2
    exfalso
    omega
set_option maxHeartbeats 8000000 in
theorem zge_putBytes_o2 {ro : Nat → List Int32} (x1 : Int) (η : zE) (hp : sP wl_ge zTr zPge_putBytes [x1] η) (hpp : pPge_putBytes [x1] η) : ((0 : Int) ≤ (24 : Int)) → ∀ x2 : Int, x2 = η 0 (Int.toNat 1) → zok 0 x2 → (x2 < 700) → ∀ x3 : Int, x3 = η 0 (Int.toNat 1) → zok 0 x3 → ∀ x4 : Int, x4 = zd 0 7 x1 24 → ∀ x5 : Int, x5 = zd 0 12 x4 x4 → ∀ x6 : Int, x6 = zd 0 12 x5 x5 → ∀ η1 : zE, η1 = zup η 1 (Int.toNat x3) x6 → ∀ x7 : Int, x7 = η1 0 (Int.toNat 1) → zok 0 x7 → ∀ x8 : Int, x8 = zd 0 1 x7 1 → ∀ η2 : zE, η2 = zup η1 0 (Int.toNat 1) x8 → ∀ x9 : Int, x9 = zd 0 1 24 (-8) → (0 ≤ x9) → ∀ x10 : Int, x10 = η2 0 (Int.toNat 1) → zok 0 x10 → (x10 < 700) → ∀ x11 : Int, x11 = η2 0 (Int.toNat 1) → zok 0 x11 → ∀ x12 : Int, x12 = zd 0 7 x1 x9 → ∀ x13 : Int, x13 = zd 0 12 x12 x12 → ∀ x14 : Int, x14 = zd 0 12 x13 x13 → ∀ η3 : zE, η3 = zup η2 1 (Int.toNat x11) x14 → ∀ x15 : Int, x15 = η3 0 (Int.toNat 1) → zok 0 x15 → ∀ x16 : Int, x16 = zd 0 1 x15 1 → ∀ η4 : zE, η4 = zup η3 0 (Int.toNat 1) x16 → ∀ x17 : Int, x17 = zd 0 1 x9 (-8) → (0 ≤ x17) → ∀ x18 : Int, x18 = η4 0 (Int.toNat 1) → zok 0 x18 → (700 ≤ x18) → (fun (_ : Nat) (y : Int) (η' : zE) => pQge_putBytes [x1] η y η') 0 0 η4 := by
  intro c1 x2 e2 r2 c2 x3 e3 r3 x4 e4 x5 e5 x6 e6 η1 eη1 x7 e7 r7 x8 e8 η2 eη2 x9 e9 c3 x10 e10 r10 c4 x11 e11 r11 x12 e12 x13 e13 x14 e14 η3 eη3 x15 e15 r15 x16 e16 η4 eη4 x17 e17 c5 x18 e18 r18 c6
  refine yj_a ?_ ?_
  · have hh : η 0 1 + 4 ≤ 700 := hpp
    replace e4 := zEq_i e4
    replace e5 := zEq_i e5
    replace e6 := zEq_i e6
    replace e8 := zEq_i e8
    replace e9 := zEq_i e9
    replace e12 := zEq_i e12
    replace e13 := zEq_i e13
    replace e14 := zEq_i e14
    replace e16 := zEq_i e16
    replace e17 := zEq_i e17
    have bx1 : ((-2147483648) : Int) ≤ x1 ∧ x1 ≤ 2147483647 := hp.2.1.1
    have w0_0_1 : (0 : Int) ≤ η 0 1 ∧ η 0 1 ≤ 700 := wf_ok (a := 1) (b := 1) (z := (0, 700)) hp.1 (by decide +kernel) (Nat.le_refl _) (Nat.le_refl _)
    replace e2 : x2 = η 0 1 := e2
    replace r2 : -2147483648 ≤ x2 ∧ x2 ≤ 2147483647 := r2
    replace e3 : x3 = η 0 1 := e3
    replace r3 : -2147483648 ≤ x3 ∧ x3 ≤ 2147483647 := r3
    clear e4
    clear e5
    clear e6
    have v1 : zEq (η1 0 1) (η 0 1) := by rw [eη1]; exact (zup_ne (fun e _ => absurd e (by decide))).trans rfl
    replace e7 : x7 = η 0 1 := e7.trans v1
    replace r7 : -2147483648 ≤ x7 ∧ x7 ≤ 2147483647 := r7
    first
    | replace e8 : x8 = x7 + 1 := zd_a2 (zEq_o e8) (by clear e8; exact ⟨by omega, by omega⟩)
    | clear e8
    have c1_0_1 : η1 0 1 = η 0 1 := v1
    first
    | replace e9 : x9 = 24 + (-8) := zd_a2 (zEq_o e9) (by clear e9; exact ⟨by omega, by omega⟩)
    | clear e9
    have v2 : zEq (η2 0 1) (x8) := by rw [eη2]; exact zup_eq
    replace e10 : x10 = x8 := e10.trans v2
    replace r10 : -2147483648 ≤ x10 ∧ x10 ≤ 2147483647 := r10
    replace e11 : x11 = x8 := e11.trans v2
    replace r11 : -2147483648 ≤ x11 ∧ x11 ≤ 2147483647 := r11
    clear e12
    clear e13
    clear e14
    have v3 : zEq (η3 0 1) (x8) := by rw [eη3]; exact (zup_ne (fun e _ => absurd e (by decide))).trans v2
    replace e15 : x15 = x8 := e15.trans v3
    replace r15 : -2147483648 ≤ x15 ∧ x15 ≤ 2147483647 := r15
    first
    | replace e16 : x16 = x15 + 1 := zd_a2 (zEq_o e16) (by clear e16; exact ⟨by omega, by omega⟩)
    | clear e16
    have c3_0_1 : η3 0 1 = x8 := v3
    first
    | replace e17 : x17 = x9 + (-8) := zd_a2 (zEq_o e17) (by clear e17; exact ⟨by omega, by omega⟩)
    | clear e17
    have v4 : zEq (η4 0 1) (x16) := by rw [eη4]; exact zup_eq
    replace e18 : x18 = x16 := e18.trans v4
    replace r18 : -2147483648 ≤ x18 ∧ x18 ≤ 2147483647 := r18
    have f0_1 : η4 0 1 = x16 := v4
    first
    | (exfalso; omega)
    | exact show η4 0 1 = η 0 1 + 4 by omega
  · have hh : η 0 1 + 4 ≤ 700 := hpp
    replace e4 := zEq_i e4
    replace e5 := zEq_i e5
    replace e6 := zEq_i e6
    replace e8 := zEq_i e8
    replace e9 := zEq_i e9
    replace e12 := zEq_i e12
    replace e13 := zEq_i e13
    replace e14 := zEq_i e14
    replace e16 := zEq_i e16
    replace e17 := zEq_i e17
    have bx1 : ((-2147483648) : Int) ≤ x1 ∧ x1 ≤ 2147483647 := hp.2.1.1
    have w0_0_1 : (0 : Int) ≤ η 0 1 ∧ η 0 1 ≤ 700 := wf_ok (a := 1) (b := 1) (z := (0, 700)) hp.1 (by decide +kernel) (Nat.le_refl _) (Nat.le_refl _)
    replace e2 : x2 = η 0 1 := e2
    replace r2 : -2147483648 ≤ x2 ∧ x2 ≤ 2147483647 := r2
    replace e3 : x3 = η 0 1 := e3
    replace r3 : -2147483648 ≤ x3 ∧ x3 ≤ 2147483647 := r3
    clear e4
    clear e5
    clear e6
    have v1 : zEq (η1 0 1) (η 0 1) := by rw [eη1]; exact (zup_ne (fun e _ => absurd e (by decide))).trans rfl
    replace e7 : x7 = η 0 1 := e7.trans v1
    replace r7 : -2147483648 ≤ x7 ∧ x7 ≤ 2147483647 := r7
    first
    | replace e8 : x8 = x7 + 1 := zd_a2 (zEq_o e8) (by clear e8; exact ⟨by omega, by omega⟩)
    | clear e8
    have c1_0_1 : η1 0 1 = η 0 1 := v1
    first
    | replace e9 : x9 = 24 + (-8) := zd_a2 (zEq_o e9) (by clear e9; exact ⟨by omega, by omega⟩)
    | clear e9
    have v2 : zEq (η2 0 1) (x8) := by rw [eη2]; exact zup_eq
    replace e10 : x10 = x8 := e10.trans v2
    replace r10 : -2147483648 ≤ x10 ∧ x10 ≤ 2147483647 := r10
    replace e11 : x11 = x8 := e11.trans v2
    replace r11 : -2147483648 ≤ x11 ∧ x11 ≤ 2147483647 := r11
    clear e12
    clear e13
    clear e14
    have v3 : zEq (η3 0 1) (x8) := by rw [eη3]; exact (zup_ne (fun e _ => absurd e (by decide))).trans v2
    replace e15 : x15 = x8 := e15.trans v3
    replace r15 : -2147483648 ≤ x15 ∧ x15 ≤ 2147483647 := r15
    first
    | replace e16 : x16 = x15 + 1 := zd_a2 (zEq_o e16) (by clear e16; exact ⟨by omega, by omega⟩)
    | clear e16
    have c3_0_1 : η3 0 1 = x8 := v3
    first
    | replace e17 : x17 = x9 + (-8) := zd_a2 (zEq_o e17) (by clear e17; exact ⟨by omega, by omega⟩)
    | clear e17
    have v4 : zEq (η4 0 1) (x16) := by rw [eη4]; exact zup_eq
    replace e18 : x18 = x16 := e18.trans v4
    replace r18 : -2147483648 ≤ x18 ∧ x18 ≤ 2147483647 := r18
    have f0_1 : η4 0 1 = x16 := v4
    exfalso
    omega
set_option maxHeartbeats 8000000 in
theorem zge_putBytes_o3 {ro : Nat → List Int32} (x1 : Int) (η : zE) (hp : sP wl_ge zTr zPge_putBytes [x1] η) (hpp : pPge_putBytes [x1] η) : ((0 : Int) ≤ (24 : Int)) → ∀ x2 : Int, x2 = η 0 (Int.toNat 1) → zok 0 x2 → (x2 < 700) → ∀ x3 : Int, x3 = η 0 (Int.toNat 1) → zok 0 x3 → ∀ x4 : Int, x4 = zd 0 7 x1 24 → ∀ x5 : Int, x5 = zd 0 12 x4 x4 → ∀ x6 : Int, x6 = zd 0 12 x5 x5 → ∀ η1 : zE, η1 = zup η 1 (Int.toNat x3) x6 → ∀ x7 : Int, x7 = η1 0 (Int.toNat 1) → zok 0 x7 → ∀ x8 : Int, x8 = zd 0 1 x7 1 → ∀ η2 : zE, η2 = zup η1 0 (Int.toNat 1) x8 → ∀ x9 : Int, x9 = zd 0 1 24 (-8) → (0 ≤ x9) → ∀ x10 : Int, x10 = η2 0 (Int.toNat 1) → zok 0 x10 → (x10 < 700) → ∀ x11 : Int, x11 = η2 0 (Int.toNat 1) → zok 0 x11 → ∀ x12 : Int, x12 = zd 0 7 x1 x9 → ∀ x13 : Int, x13 = zd 0 12 x12 x12 → ∀ x14 : Int, x14 = zd 0 12 x13 x13 → ∀ η3 : zE, η3 = zup η2 1 (Int.toNat x11) x14 → ∀ x15 : Int, x15 = η3 0 (Int.toNat 1) → zok 0 x15 → ∀ x16 : Int, x16 = zd 0 1 x15 1 → ∀ η4 : zE, η4 = zup η3 0 (Int.toNat 1) x16 → ∀ x17 : Int, x17 = zd 0 1 x9 (-8) → (0 ≤ x17) → ∀ x18 : Int, x18 = η4 0 (Int.toNat 1) → zok 0 x18 → (x18 < 700) → ∀ x19 : Int, x19 = η4 0 (Int.toNat 1) → zok 0 x19 → ∀ x20 : Int, x20 = zd 0 7 x1 x17 → ∀ x21 : Int, x21 = zd 0 12 x20 x20 → ∀ x22 : Int, x22 = zd 0 12 x21 x21 → ∀ η5 : zE, η5 = zup η4 1 (Int.toNat x19) x22 → ∀ x23 : Int, x23 = η5 0 (Int.toNat 1) → zok 0 x23 → ∀ x24 : Int, x24 = zd 0 1 x23 1 → ∀ η6 : zE, η6 = zup η5 0 (Int.toNat 1) x24 → ∀ x25 : Int, x25 = zd 0 1 x17 (-8) → (0 ≤ x25) → ∀ x26 : Int, x26 = η6 0 (Int.toNat 1) → zok 0 x26 → (700 ≤ x26) → (fun (_ : Nat) (y : Int) (η' : zE) => pQge_putBytes [x1] η y η') 0 0 η6 := by
  intro c1 x2 e2 r2 c2 x3 e3 r3 x4 e4 x5 e5 x6 e6 η1 eη1 x7 e7 r7 x8 e8 η2 eη2 x9 e9 c3 x10 e10 r10 c4 x11 e11 r11 x12 e12 x13 e13 x14 e14 η3 eη3 x15 e15 r15 x16 e16 η4 eη4 x17 e17 c5 x18 e18 r18 c6 x19 e19 r19 x20 e20 x21 e21 x22 e22 η5 eη5 x23 e23 r23 x24 e24 η6 eη6 x25 e25 c7 x26 e26 r26 c8
  refine yj_a ?_ ?_
  · have hh : η 0 1 + 4 ≤ 700 := hpp
    replace e4 := zEq_i e4
    replace e5 := zEq_i e5
    replace e6 := zEq_i e6
    replace e8 := zEq_i e8
    replace e9 := zEq_i e9
    replace e12 := zEq_i e12
    replace e13 := zEq_i e13
    replace e14 := zEq_i e14
    replace e16 := zEq_i e16
    replace e17 := zEq_i e17
    replace e20 := zEq_i e20
    replace e21 := zEq_i e21
    replace e22 := zEq_i e22
    replace e24 := zEq_i e24
    replace e25 := zEq_i e25
    have bx1 : ((-2147483648) : Int) ≤ x1 ∧ x1 ≤ 2147483647 := hp.2.1.1
    have w0_0_1 : (0 : Int) ≤ η 0 1 ∧ η 0 1 ≤ 700 := wf_ok (a := 1) (b := 1) (z := (0, 700)) hp.1 (by decide +kernel) (Nat.le_refl _) (Nat.le_refl _)
    replace e2 : x2 = η 0 1 := e2
    replace r2 : -2147483648 ≤ x2 ∧ x2 ≤ 2147483647 := r2
    replace e3 : x3 = η 0 1 := e3
    replace r3 : -2147483648 ≤ x3 ∧ x3 ≤ 2147483647 := r3
    clear e4
    clear e5
    clear e6
    have v1 : zEq (η1 0 1) (η 0 1) := by rw [eη1]; exact (zup_ne (fun e _ => absurd e (by decide))).trans rfl
    replace e7 : x7 = η 0 1 := e7.trans v1
    replace r7 : -2147483648 ≤ x7 ∧ x7 ≤ 2147483647 := r7
    first
    | replace e8 : x8 = x7 + 1 := zd_a2 (zEq_o e8) (by clear e8; exact ⟨by omega, by omega⟩)
    | clear e8
    have c1_0_1 : η1 0 1 = η 0 1 := v1
    first
    | replace e9 : x9 = 24 + (-8) := zd_a2 (zEq_o e9) (by clear e9; exact ⟨by omega, by omega⟩)
    | clear e9
    have v2 : zEq (η2 0 1) (x8) := by rw [eη2]; exact zup_eq
    replace e10 : x10 = x8 := e10.trans v2
    replace r10 : -2147483648 ≤ x10 ∧ x10 ≤ 2147483647 := r10
    replace e11 : x11 = x8 := e11.trans v2
    replace r11 : -2147483648 ≤ x11 ∧ x11 ≤ 2147483647 := r11
    clear e12
    clear e13
    clear e14
    have v3 : zEq (η3 0 1) (x8) := by rw [eη3]; exact (zup_ne (fun e _ => absurd e (by decide))).trans v2
    replace e15 : x15 = x8 := e15.trans v3
    replace r15 : -2147483648 ≤ x15 ∧ x15 ≤ 2147483647 := r15
    first
    | replace e16 : x16 = x15 + 1 := zd_a2 (zEq_o e16) (by clear e16; exact ⟨by omega, by omega⟩)
    | clear e16
    have c3_0_1 : η3 0 1 = x8 := v3
    first
    | replace e17 : x17 = x9 + (-8) := zd_a2 (zEq_o e17) (by clear e17; exact ⟨by omega, by omega⟩)
    | clear e17
    have v4 : zEq (η4 0 1) (x16) := by rw [eη4]; exact zup_eq
    replace e18 : x18 = x16 := e18.trans v4
    replace r18 : -2147483648 ≤ x18 ∧ x18 ≤ 2147483647 := r18
    replace e19 : x19 = x16 := e19.trans v4
    replace r19 : -2147483648 ≤ x19 ∧ x19 ≤ 2147483647 := r19
    clear e20
    clear e21
    clear e22
    have v5 : zEq (η5 0 1) (x16) := by rw [eη5]; exact (zup_ne (fun e _ => absurd e (by decide))).trans v4
    replace e23 : x23 = x16 := e23.trans v5
    replace r23 : -2147483648 ≤ x23 ∧ x23 ≤ 2147483647 := r23
    first
    | replace e24 : x24 = x23 + 1 := zd_a2 (zEq_o e24) (by clear e24; exact ⟨by omega, by omega⟩)
    | clear e24
    have c5_0_1 : η5 0 1 = x16 := v5
    first
    | replace e25 : x25 = x17 + (-8) := zd_a2 (zEq_o e25) (by clear e25; exact ⟨by omega, by omega⟩)
    | clear e25
    have v6 : zEq (η6 0 1) (x24) := by rw [eη6]; exact zup_eq
    replace e26 : x26 = x24 := e26.trans v6
    replace r26 : -2147483648 ≤ x26 ∧ x26 ≤ 2147483647 := r26
    have f0_1 : η6 0 1 = x24 := v6
    first
    | (exfalso; omega)
    | exact show η6 0 1 = η 0 1 + 4 by omega
  · have hh : η 0 1 + 4 ≤ 700 := hpp
    replace e4 := zEq_i e4
    replace e5 := zEq_i e5
    replace e6 := zEq_i e6
    replace e8 := zEq_i e8
    replace e9 := zEq_i e9
    replace e12 := zEq_i e12
    replace e13 := zEq_i e13
    replace e14 := zEq_i e14
    replace e16 := zEq_i e16
    replace e17 := zEq_i e17
    replace e20 := zEq_i e20
    replace e21 := zEq_i e21
    replace e22 := zEq_i e22
    replace e24 := zEq_i e24
    replace e25 := zEq_i e25
    have bx1 : ((-2147483648) : Int) ≤ x1 ∧ x1 ≤ 2147483647 := hp.2.1.1
    have w0_0_1 : (0 : Int) ≤ η 0 1 ∧ η 0 1 ≤ 700 := wf_ok (a := 1) (b := 1) (z := (0, 700)) hp.1 (by decide +kernel) (Nat.le_refl _) (Nat.le_refl _)
    replace e2 : x2 = η 0 1 := e2
    replace r2 : -2147483648 ≤ x2 ∧ x2 ≤ 2147483647 := r2
    replace e3 : x3 = η 0 1 := e3
    replace r3 : -2147483648 ≤ x3 ∧ x3 ≤ 2147483647 := r3
    clear e4
    clear e5
    clear e6
    have v1 : zEq (η1 0 1) (η 0 1) := by rw [eη1]; exact (zup_ne (fun e _ => absurd e (by decide))).trans rfl
    replace e7 : x7 = η 0 1 := e7.trans v1
    replace r7 : -2147483648 ≤ x7 ∧ x7 ≤ 2147483647 := r7
    first
    | replace e8 : x8 = x7 + 1 := zd_a2 (zEq_o e8) (by clear e8; exact ⟨by omega, by omega⟩)
    | clear e8
    have c1_0_1 : η1 0 1 = η 0 1 := v1
    first
    | replace e9 : x9 = 24 + (-8) := zd_a2 (zEq_o e9) (by clear e9; exact ⟨by omega, by omega⟩)
    | clear e9
    have v2 : zEq (η2 0 1) (x8) := by rw [eη2]; exact zup_eq
    replace e10 : x10 = x8 := e10.trans v2
    replace r10 : -2147483648 ≤ x10 ∧ x10 ≤ 2147483647 := r10
    replace e11 : x11 = x8 := e11.trans v2
    replace r11 : -2147483648 ≤ x11 ∧ x11 ≤ 2147483647 := r11
    clear e12
    clear e13
    clear e14
    have v3 : zEq (η3 0 1) (x8) := by rw [eη3]; exact (zup_ne (fun e _ => absurd e (by decide))).trans v2
    replace e15 : x15 = x8 := e15.trans v3
    replace r15 : -2147483648 ≤ x15 ∧ x15 ≤ 2147483647 := r15
    first
    | replace e16 : x16 = x15 + 1 := zd_a2 (zEq_o e16) (by clear e16; exact ⟨by omega, by omega⟩)
    | clear e16
    have c3_0_1 : η3 0 1 = x8 := v3
    first
    | replace e17 : x17 = x9 + (-8) := zd_a2 (zEq_o e17) (by clear e17; exact ⟨by omega, by omega⟩)
    | clear e17
    have v4 : zEq (η4 0 1) (x16) := by rw [eη4]; exact zup_eq
    replace e18 : x18 = x16 := e18.trans v4
    replace r18 : -2147483648 ≤ x18 ∧ x18 ≤ 2147483647 := r18
    replace e19 : x19 = x16 := e19.trans v4
    replace r19 : -2147483648 ≤ x19 ∧ x19 ≤ 2147483647 := r19
    clear e20
    clear e21
    clear e22
    have v5 : zEq (η5 0 1) (x16) := by rw [eη5]; exact (zup_ne (fun e _ => absurd e (by decide))).trans v4
    replace e23 : x23 = x16 := e23.trans v5
    replace r23 : -2147483648 ≤ x23 ∧ x23 ≤ 2147483647 := r23
    first
    | replace e24 : x24 = x23 + 1 := zd_a2 (zEq_o e24) (by clear e24; exact ⟨by omega, by omega⟩)
    | clear e24
    have c5_0_1 : η5 0 1 = x16 := v5
    first
    | replace e25 : x25 = x17 + (-8) := zd_a2 (zEq_o e25) (by clear e25; exact ⟨by omega, by omega⟩)
    | clear e25
    have v6 : zEq (η6 0 1) (x24) := by rw [eη6]; exact zup_eq
    replace e26 : x26 = x24 := e26.trans v6
    replace r26 : -2147483648 ≤ x26 ∧ x26 ≤ 2147483647 := r26
    have f0_1 : η6 0 1 = x24 := v6
    exfalso
    omega
set_option maxHeartbeats 8000000 in
theorem zge_putBytes_o4 {ro : Nat → List Int32} (x1 : Int) (η : zE) (hp : sP wl_ge zTr zPge_putBytes [x1] η) (hpp : pPge_putBytes [x1] η) : ((0 : Int) ≤ (24 : Int)) → ∀ x2 : Int, x2 = η 0 (Int.toNat 1) → zok 0 x2 → (x2 < 700) → ∀ x3 : Int, x3 = η 0 (Int.toNat 1) → zok 0 x3 → ∀ x4 : Int, x4 = zd 0 7 x1 24 → ∀ x5 : Int, x5 = zd 0 12 x4 x4 → ∀ x6 : Int, x6 = zd 0 12 x5 x5 → ∀ η1 : zE, η1 = zup η 1 (Int.toNat x3) x6 → ∀ x7 : Int, x7 = η1 0 (Int.toNat 1) → zok 0 x7 → ∀ x8 : Int, x8 = zd 0 1 x7 1 → ∀ η2 : zE, η2 = zup η1 0 (Int.toNat 1) x8 → ∀ x9 : Int, x9 = zd 0 1 24 (-8) → (0 ≤ x9) → ∀ x10 : Int, x10 = η2 0 (Int.toNat 1) → zok 0 x10 → (x10 < 700) → ∀ x11 : Int, x11 = η2 0 (Int.toNat 1) → zok 0 x11 → ∀ x12 : Int, x12 = zd 0 7 x1 x9 → ∀ x13 : Int, x13 = zd 0 12 x12 x12 → ∀ x14 : Int, x14 = zd 0 12 x13 x13 → ∀ η3 : zE, η3 = zup η2 1 (Int.toNat x11) x14 → ∀ x15 : Int, x15 = η3 0 (Int.toNat 1) → zok 0 x15 → ∀ x16 : Int, x16 = zd 0 1 x15 1 → ∀ η4 : zE, η4 = zup η3 0 (Int.toNat 1) x16 → ∀ x17 : Int, x17 = zd 0 1 x9 (-8) → (0 ≤ x17) → ∀ x18 : Int, x18 = η4 0 (Int.toNat 1) → zok 0 x18 → (x18 < 700) → ∀ x19 : Int, x19 = η4 0 (Int.toNat 1) → zok 0 x19 → ∀ x20 : Int, x20 = zd 0 7 x1 x17 → ∀ x21 : Int, x21 = zd 0 12 x20 x20 → ∀ x22 : Int, x22 = zd 0 12 x21 x21 → ∀ η5 : zE, η5 = zup η4 1 (Int.toNat x19) x22 → ∀ x23 : Int, x23 = η5 0 (Int.toNat 1) → zok 0 x23 → ∀ x24 : Int, x24 = zd 0 1 x23 1 → ∀ η6 : zE, η6 = zup η5 0 (Int.toNat 1) x24 → ∀ x25 : Int, x25 = zd 0 1 x17 (-8) → (0 ≤ x25) → ∀ x26 : Int, x26 = η6 0 (Int.toNat 1) → zok 0 x26 → (x26 < 700) → ∀ x27 : Int, x27 = η6 0 (Int.toNat 1) → zok 0 x27 → ∀ x28 : Int, x28 = zd 0 7 x1 x25 → ∀ x29 : Int, x29 = zd 0 12 x28 x28 → ∀ x30 : Int, x30 = zd 0 12 x29 x29 → ∀ η7 : zE, η7 = zup η6 1 (Int.toNat x27) x30 → ∀ x31 : Int, x31 = η7 0 (Int.toNat 1) → zok 0 x31 → ∀ x32 : Int, x32 = zd 0 1 x31 1 → ∀ η8 : zE, η8 = zup η7 0 (Int.toNat 1) x32 → ∀ x33 : Int, x33 = zd 0 1 x25 (-8) → (x33 < 0) → (fun (_ : Nat) (y : Int) (η' : zE) => pQge_putBytes [x1] η y η') 0 0 η8 := by
  intro c1 x2 e2 r2 c2 x3 e3 r3 x4 e4 x5 e5 x6 e6 η1 eη1 x7 e7 r7 x8 e8 η2 eη2 x9 e9 c3 x10 e10 r10 c4 x11 e11 r11 x12 e12 x13 e13 x14 e14 η3 eη3 x15 e15 r15 x16 e16 η4 eη4 x17 e17 c5 x18 e18 r18 c6 x19 e19 r19 x20 e20 x21 e21 x22 e22 η5 eη5 x23 e23 r23 x24 e24 η6 eη6 x25 e25 c7 x26 e26 r26 c8 x27 e27 r27 x28 e28 x29 e29 x30 e30 η7 eη7 x31 e31 r31 x32 e32 η8 eη8 x33 e33 c9
  refine yj_a ?_ ?_
  · have hh : η 0 1 + 4 ≤ 700 := hpp
    replace e4 := zEq_i e4
    replace e5 := zEq_i e5
    replace e6 := zEq_i e6
    replace e8 := zEq_i e8
    replace e9 := zEq_i e9
    replace e12 := zEq_i e12
    replace e13 := zEq_i e13
    replace e14 := zEq_i e14
    replace e16 := zEq_i e16
    replace e17 := zEq_i e17
    replace e20 := zEq_i e20
    replace e21 := zEq_i e21
    replace e22 := zEq_i e22
    replace e24 := zEq_i e24
    replace e25 := zEq_i e25
    replace e28 := zEq_i e28
    replace e29 := zEq_i e29
    replace e30 := zEq_i e30
    replace e32 := zEq_i e32
    replace e33 := zEq_i e33
    have bx1 : ((-2147483648) : Int) ≤ x1 ∧ x1 ≤ 2147483647 := hp.2.1.1
    have w0_0_1 : (0 : Int) ≤ η 0 1 ∧ η 0 1 ≤ 700 := wf_ok (a := 1) (b := 1) (z := (0, 700)) hp.1 (by decide +kernel) (Nat.le_refl _) (Nat.le_refl _)
    replace e2 : x2 = η 0 1 := e2
    replace r2 : -2147483648 ≤ x2 ∧ x2 ≤ 2147483647 := r2
    replace e3 : x3 = η 0 1 := e3
    replace r3 : -2147483648 ≤ x3 ∧ x3 ≤ 2147483647 := r3
    clear e4
    clear e5
    clear e6
    have v1 : zEq (η1 0 1) (η 0 1) := by rw [eη1]; exact (zup_ne (fun e _ => absurd e (by decide))).trans rfl
    replace e7 : x7 = η 0 1 := e7.trans v1
    replace r7 : -2147483648 ≤ x7 ∧ x7 ≤ 2147483647 := r7
    first
    | replace e8 : x8 = x7 + 1 := zd_a2 (zEq_o e8) (by clear e8; exact ⟨by omega, by omega⟩)
    | clear e8
    have c1_0_1 : η1 0 1 = η 0 1 := v1
    first
    | replace e9 : x9 = 24 + (-8) := zd_a2 (zEq_o e9) (by clear e9; exact ⟨by omega, by omega⟩)
    | clear e9
    have v2 : zEq (η2 0 1) (x8) := by rw [eη2]; exact zup_eq
    replace e10 : x10 = x8 := e10.trans v2
    replace r10 : -2147483648 ≤ x10 ∧ x10 ≤ 2147483647 := r10
    replace e11 : x11 = x8 := e11.trans v2
    replace r11 : -2147483648 ≤ x11 ∧ x11 ≤ 2147483647 := r11
    clear e12
    clear e13
    clear e14
    have v3 : zEq (η3 0 1) (x8) := by rw [eη3]; exact (zup_ne (fun e _ => absurd e (by decide))).trans v2
    replace e15 : x15 = x8 := e15.trans v3
    replace r15 : -2147483648 ≤ x15 ∧ x15 ≤ 2147483647 := r15
    first
    | replace e16 : x16 = x15 + 1 := zd_a2 (zEq_o e16) (by clear e16; exact ⟨by omega, by omega⟩)
    | clear e16
    have c3_0_1 : η3 0 1 = x8 := v3
    first
    | replace e17 : x17 = x9 + (-8) := zd_a2 (zEq_o e17) (by clear e17; exact ⟨by omega, by omega⟩)
    | clear e17
    have v4 : zEq (η4 0 1) (x16) := by rw [eη4]; exact zup_eq
    replace e18 : x18 = x16 := e18.trans v4
    replace r18 : -2147483648 ≤ x18 ∧ x18 ≤ 2147483647 := r18
    replace e19 : x19 = x16 := e19.trans v4
    replace r19 : -2147483648 ≤ x19 ∧ x19 ≤ 2147483647 := r19
    clear e20
    clear e21
    clear e22
    have v5 : zEq (η5 0 1) (x16) := by rw [eη5]; exact (zup_ne (fun e _ => absurd e (by decide))).trans v4
    replace e23 : x23 = x16 := e23.trans v5
    replace r23 : -2147483648 ≤ x23 ∧ x23 ≤ 2147483647 := r23
    first
    | replace e24 : x24 = x23 + 1 := zd_a2 (zEq_o e24) (by clear e24; exact ⟨by omega, by omega⟩)
    | clear e24
    have c5_0_1 : η5 0 1 = x16 := v5
    first
    | replace e25 : x25 = x17 + (-8) := zd_a2 (zEq_o e25) (by clear e25; exact ⟨by omega, by omega⟩)
    | clear e25
    have v6 : zEq (η6 0 1) (x24) := by rw [eη6]; exact zup_eq
    replace e26 : x26 = x24 := e26.trans v6
    replace r26 : -2147483648 ≤ x26 ∧ x26 ≤ 2147483647 := r26
    replace e27 : x27 = x24 := e27.trans v6
    replace r27 : -2147483648 ≤ x27 ∧ x27 ≤ 2147483647 := r27
    clear e28
    clear e29
    clear e30
    have v7 : zEq (η7 0 1) (x24) := by rw [eη7]; exact (zup_ne (fun e _ => absurd e (by decide))).trans v6
    replace e31 : x31 = x24 := e31.trans v7
    replace r31 : -2147483648 ≤ x31 ∧ x31 ≤ 2147483647 := r31
    first
    | replace e32 : x32 = x31 + 1 := zd_a2 (zEq_o e32) (by clear e32; exact ⟨by omega, by omega⟩)
    | clear e32
    have c7_0_1 : η7 0 1 = x24 := v7
    first
    | replace e33 : x33 = x25 + (-8) := zd_a2 (zEq_o e33) (by clear e33; exact ⟨by omega, by omega⟩)
    | clear e33
    have v8 : zEq (η8 0 1) (x32) := by rw [eη8]; exact zup_eq
    have f0_1 : η8 0 1 = x32 := v8
    first
    | (exfalso; omega)
    | exact show η8 0 1 = η 0 1 + 4 by omega
  · have e2 : x2 = η 0 1 := e2
    have e3 : x3 = η 0 1 := e3
    have e4 : x4 = zd 0 7 x1 24 := e4
    have e5 : x5 = zd 0 12 x4 x4 := e5
    have e6 : x6 = zd 0 12 x5 x5 := e6
    have eη1 : η1 = zup η 1 (Int.toNat x3) x6 := eη1
    have e7 : x7 = η1 0 1 := e7
    have e8 : x8 = zd 0 1 x7 1 := e8
    have eη2 : η2 = zup η1 0 1 x8 := eη2
    have b1 : η2 = yf_b 24 x1 η := by
      unfold yf_b yp_inc
      rw [← e3, ← e4, ← e5, ← e6, ← eη1, ← e7, ← e8]
      exact eη2
    have e9 : x9 = zd 0 1 24 (-8) := e9
    have e9 : x9 = 16 := by rw [e9]; rfl
    have e10 : x10 = η2 0 1 := e10
    have e11 : x11 = η2 0 1 := e11
    have e12 : x12 = zd 0 7 x1 x9 := e12
    have e13 : x13 = zd 0 12 x12 x12 := e13
    have e14 : x14 = zd 0 12 x13 x13 := e14
    have eη3 : η3 = zup η2 1 (Int.toNat x11) x14 := eη3
    have e15 : x15 = η3 0 1 := e15
    have e16 : x16 = zd 0 1 x15 1 := e16
    have eη4 : η4 = zup η3 0 1 x16 := eη4
    rw [e9] at e12
    have b2 : η4 = yf_b 16 x1 η2 := by
      unfold yf_b yp_inc
      rw [← e11, ← e12, ← e13, ← e14, ← eη3, ← e15, ← e16]
      exact eη4
    have e17 : x17 = zd 0 1 x9 (-8) := e17
    have e17 : x17 = 8 := by rw [e17, e9]; rfl
    have e18 : x18 = η4 0 1 := e18
    have e19 : x19 = η4 0 1 := e19
    have e20 : x20 = zd 0 7 x1 x17 := e20
    have e21 : x21 = zd 0 12 x20 x20 := e21
    have e22 : x22 = zd 0 12 x21 x21 := e22
    have eη5 : η5 = zup η4 1 (Int.toNat x19) x22 := eη5
    have e23 : x23 = η5 0 1 := e23
    have e24 : x24 = zd 0 1 x23 1 := e24
    have eη6 : η6 = zup η5 0 1 x24 := eη6
    rw [e17] at e20
    have b3 : η6 = yf_b 8 x1 η4 := by
      unfold yf_b yp_inc
      rw [← e19, ← e20, ← e21, ← e22, ← eη5, ← e23, ← e24]
      exact eη6
    have e25 : x25 = zd 0 1 x17 (-8) := e25
    have e25 : x25 = 0 := by rw [e25, e17]; rfl
    have e26 : x26 = η6 0 1 := e26
    have e27 : x27 = η6 0 1 := e27
    have e28 : x28 = zd 0 7 x1 x25 := e28
    have e29 : x29 = zd 0 12 x28 x28 := e29
    have e30 : x30 = zd 0 12 x29 x29 := e30
    have eη7 : η7 = zup η6 1 (Int.toNat x27) x30 := eη7
    have e31 : x31 = η7 0 1 := e31
    have e32 : x32 = zd 0 1 x31 1 := e32
    have eη8 : η8 = zup η7 0 1 x32 := eη8
    rw [e25] at e28
    have b4 : η8 = yf_b 0 x1 η6 := by
      unfold yf_b yp_inc
      rw [← e27, ← e28, ← e29, ← e30, ← eη7, ← e31, ← e32]
      exact eη8
    have e33 : x33 = zd 0 1 x25 (-8) := e33
    have e33 : x33 = -8 := by rw [e33, e25]; rfl
    show η8 = yf_p x1 η
    unfold yf_p
    rw [← b1, ← b2, ← b3]
    exact b4
set_option maxHeartbeats 8000000 in
theorem zge_putBytes {ro : Nat → List Int32} : zMet pr_P pr_K pr_df ro (sm_X0 1 6) 0 65 tm_ge [(.inr (.inr (.inl (nat_lit 0)))), (.inl (nat_lit 1, (.ofNat (nat_lit 0))))] 0 [(nat_lit 0, nat_lit 0, nat_lit 1), (nat_lit 0, nat_lit 4, nat_lit 2), (nat_lit 0, nat_lit 5, nat_lit 32), (nat_lit 0, nat_lit 6, nat_lit 60), (nat_lit 0, nat_lit 7, nat_lit 70), (nat_lit 0, nat_lit 8, nat_lit 74), (nat_lit 0, nat_lit 11, nat_lit 78), (nat_lit 0, nat_lit 12, nat_lit 82), (nat_lit 0, nat_lit 13, nat_lit 90), (nat_lit 0, nat_lit 14, nat_lit 91), (nat_lit 0, nat_lit 15, nat_lit 95), (nat_lit 0, nat_lit 16, nat_lit 101), (nat_lit 2, nat_lit 8, nat_lit 3), (nat_lit 2, nat_lit 9, nat_lit 4), (nat_lit 2, nat_lit 10, nat_lit 5), (nat_lit 2, nat_lit 11, nat_lit 6), (nat_lit 2, nat_lit 12, nat_lit 11), (nat_lit 2, nat_lit 13, nat_lit 16), (nat_lit 2, nat_lit 14, nat_lit 17), (nat_lit 6, nat_lit 0, nat_lit 7), (nat_lit 11, nat_lit 0, nat_lit 12), (nat_lit 6, nat_lit 1, nat_lit 8), (nat_lit 11, nat_lit 1, nat_lit 13), (nat_lit 6, nat_lit 2, nat_lit 9), (nat_lit 11, nat_lit 2, nat_lit 14), (nat_lit 6, nat_lit 3, nat_lit 10), (nat_lit 11, nat_lit 3, nat_lit 15), (nat_lit 17, nat_lit 2, nat_lit 18), (nat_lit 17, nat_lit 3, nat_lit 19), (nat_lit 17, nat_lit 4, nat_lit 20), (nat_lit 17, nat_lit 5, nat_lit 21), (nat_lit 17, nat_lit 6, nat_lit 22), (nat_lit 32, nat_lit 8, nat_lit 33), (nat_lit 32, nat_lit 9, nat_lit 34), (nat_lit 32, nat_lit 10, nat_lit 35), (nat_lit 32, nat_lit 11, nat_lit 36), (nat_lit 32, nat_lit 12, nat_lit 41), (nat_lit 32, nat_lit 13, nat_lit 46), (nat_lit 32, nat_lit 14, nat_lit 47), (nat_lit 36, nat_lit 0, nat_lit 37), (nat_lit 41, nat_lit 0, nat_lit 42), (nat_lit 36, nat_lit 1, nat_lit 38), (nat_lit 41, nat_lit 1, nat_lit 43), (nat_lit 36, nat_lit 2, nat_lit 39), (nat_lit 41, nat_lit 2, nat_lit 44), (nat_lit 36, nat_lit 3, nat_lit 40), (nat_lit 41, nat_lit 3, nat_lit 45), (nat_lit 47, nat_lit 2, nat_lit 48), (nat_lit 47, nat_lit 3, nat_lit 49), (nat_lit 47, nat_lit 4, nat_lit 50), (nat_lit 47, nat_lit 5, nat_lit 51), (nat_lit 47, nat_lit 6, nat_lit 52), (nat_lit 60, nat_lit 3, nat_lit 1), (nat_lit 60, nat_lit 9, nat_lit 61), (nat_lit 60, nat_lit 10, nat_lit 62), (nat_lit 60, nat_lit 11, nat_lit 63), (nat_lit 70, nat_lit 8, nat_lit 71), (nat_lit 70, nat_lit 9, nat_lit 72), (nat_lit 70, nat_lit 10, nat_lit 73), (nat_lit 74, nat_lit 8, nat_lit 75), (nat_lit 74, nat_lit 9, nat_lit 76), (nat_lit 74, nat_lit 10, nat_lit 77), (nat_lit 78, nat_lit 8, nat_lit 79), (nat_lit 78, nat_lit 9, nat_lit 80), (nat_lit 78, nat_lit 10, nat_lit 81), (nat_lit 82, nat_lit 8, nat_lit 83), (nat_lit 82, nat_lit 9, nat_lit 84), (nat_lit 82, nat_lit 10, nat_lit 85), (nat_lit 91, nat_lit 1, nat_lit 92), (nat_lit 91, nat_lit 2, nat_lit 93), (nat_lit 91, nat_lit 3, nat_lit 94), (nat_lit 95, nat_lit 2, nat_lit 96), (nat_lit 95, nat_lit 3, nat_lit 97), (nat_lit 95, nat_lit 4, nat_lit 98), (nat_lit 95, nat_lit 5, nat_lit 99), (nat_lit 95, nat_lit 6, nat_lit 100)] [] (fun xs η => sP wl_ge zTr zPge_putBytes xs η ∧ pPge_putBytes xs η) (fun xs η y η' => sQ wl_ge zTr zOge_putBytes zMge_putBytes xs η y η' ∧ pQge_putBytes xs η y η') :=
  zmet_alt (zmea_gen (mi := (nat_lit 1, nat_lit 1, nat_lit 7, nat_lit 3, nat_lit 0, tX7_putBytes)) (cd := []) (cu := []) (cs := []) (iv := zVge_putBytes) (po := [zOge_putBytes]) (pr := zPge_putBytes) (mods := zMge_putBytes) (D7 := zDge_putBytes) (D0 := zEge_putBytes) (Dm := zFge_putBytes) (f0 := 101) pCge_putBytes qCge_putBytes iCge_putBytes pPge_putBytes (fun xs η _ y η' => pQge_putBytes xs η y η') zX_low pr_mtR rfl (fun _ h => nomatch h) (by decide +kernel) (by decide +kernel) (by decide +kernel)
    (by
      intro xs η hr hl hp hpp
      match xs, hl, hp, hpp with
      | [x1], _, hp, hpp =>
        refine List.forall_mem_cons.mpr ⟨?_, List.forall_mem_cons.mpr ⟨?_, List.forall_mem_cons.mpr ⟨?_, List.forall_mem_cons.mpr ⟨?_, List.forall_mem_cons.mpr ⟨?_, fun _ h => nomatch h⟩⟩⟩⟩⟩
        · refine zden_L (n := 2) (ρ := [x1, 0]) rfl ?_
          exact zge_putBytes_o0 (ro := ro) x1 η hp hpp
        · refine zden_L (n := 2) (ρ := [x1, 0]) rfl ?_
          exact zge_putBytes_o1 (ro := ro) x1 η hp hpp
        · refine zden_L (n := 2) (ρ := [x1, 0]) rfl ?_
          exact zge_putBytes_o2 (ro := ro) x1 η hp hpp
        · refine zden_L (n := 2) (ρ := [x1, 0]) rfl ?_
          exact zge_putBytes_o3 (ro := ro) x1 η hp hpp
        · refine zden_L (n := 2) (ρ := [x1, 0]) rfl ?_
          exact zge_putBytes_o4 (ro := ro) x1 η hp hpp
      )
    (fun _ _ _ _ _ _ _ h => nomatch h)
    (fun _ h => nomatch h))
def zPge_feed : zPq := ([((.negSucc (nat_lit 2147483647)), (.ofNat (nat_lit 2147483647))), ((.negSucc (nat_lit 2147483647)), (.ofNat (nat_lit 2147483647))), ((.negSucc (nat_lit 2147483647)), (.ofNat (nat_lit 2147483647))), ((.negSucc (nat_lit 2147483647)), (.ofNat (nat_lit 2147483647))), ((.negSucc (nat_lit 2147483647)), (.ofNat (nat_lit 2147483647)))], [])
def zOge_feed : zPo := (((.negSucc (nat_lit 2147483647)), (.ofNat (nat_lit 2147483647))), [], [])
def zMge_feed : List zCe := [(nat_lit 0, nat_lit 2), (nat_lit 1, nat_lit 0)]
def pPge_feed : List Int → zE → Prop := fun _ _ => True
def oQge_feed : List Int → zE → Int → zE → Prop := fun _ η y η' => (700 < η 0 1 + 20 → y = -1 ∧ η' 0 1 = η 0 1) ∧ (η 0 1 + 20 ≤ 700 → y = η 0 1 + 20 ∧ η' 0 1 = η 0 1 + 20)
def fQge_feed : List Int → zE → Int → zE → Prop := fun xs η y η' => (700 < η 0 1 + 20 → y = -1 ∧ η' 1 = η 1) ∧ (η 0 1 + 20 ≤ 700 → y = yf_c (xs.getD 0 0) (xs.getD 1 0) (xs.getD 2 0) (xs.getD 3 0) (xs.getD 4 0) η 0 1 ∧ η' = yf_c (xs.getD 0 0) (xs.getD 1 0) (xs.getD 2 0) (xs.getD 3 0) (xs.getD 4 0) η)
def pQge_feed : List Int → zE → Int → zE → Prop := fun xs η y η' => oQge_feed xs η y η' ∧ fQge_feed xs η y η'
def pCge_feed : Nat → List Int → zE → Prop := fun c => match c with
  | 0 => pPge_putBytes
  | _ => fun _ _ => True
def qCge_feed : Nat → List Int → zE → Int → zE → Prop := fun c => match c with
  | 0 => pQge_putBytes
  | _ => fun _ _ _ _ => True
def iCge_feed : List Int → zE → Nat → List Int → zE → Prop := fun xs η0 c => match c with
  | _ => fun _ _ => True
def zVge_feed : List zIv := []
def zDge_feed : List (List zK) := []
def zEge_feed : List (List zK) := [[(nat_lit 13, nat_lit 0, [(nat_lit 1, (.ofNat (nat_lit 0)))]), (nat_lit 6, nat_lit 5, [(nat_lit 7, (.ofNat (nat_lit 0))), (nat_lit 0, (.ofNat (nat_lit 700)))]), (nat_lit 0, nat_lit 1, [(nat_lit 6, (.ofNat (nat_lit 0))), (nat_lit 0, (.ofNat (nat_lit 20)))]), (nat_lit 4, nat_lit 0, [(nat_lit 0, (.ofNat (nat_lit 0))), (nat_lit 0, (.ofNat (nat_lit 1)))])],
  [(nat_lit 13, nat_lit 0, [(nat_lit 2, (.ofNat (nat_lit 0)))]), (nat_lit 8, nat_lit 0, [(nat_lit 1, (.ofNat (nat_lit 0)))]), (nat_lit 6, nat_lit 5, [(nat_lit 7, (.ofNat (nat_lit 0))), (nat_lit 0, (.ofNat (nat_lit 700)))]), (nat_lit 0, nat_lit 1, [(nat_lit 6, (.ofNat (nat_lit 0))), (nat_lit 0, (.ofNat (nat_lit 20)))]), (nat_lit 4, nat_lit 0, [(nat_lit 0, (.ofNat (nat_lit 0))), (nat_lit 0, (.ofNat (nat_lit 1)))])],
  [(nat_lit 13, nat_lit 0, [(nat_lit 3, (.ofNat (nat_lit 0)))]), (nat_lit 8, nat_lit 0, [(nat_lit 2, (.ofNat (nat_lit 0)))]), (nat_lit 8, nat_lit 0, [(nat_lit 1, (.ofNat (nat_lit 0)))]), (nat_lit 6, nat_lit 5, [(nat_lit 7, (.ofNat (nat_lit 0))), (nat_lit 0, (.ofNat (nat_lit 700)))]), (nat_lit 0, nat_lit 1, [(nat_lit 6, (.ofNat (nat_lit 0))), (nat_lit 0, (.ofNat (nat_lit 20)))]), (nat_lit 4, nat_lit 0, [(nat_lit 0, (.ofNat (nat_lit 0))), (nat_lit 0, (.ofNat (nat_lit 1)))])],
  [(nat_lit 13, nat_lit 0, [(nat_lit 4, (.ofNat (nat_lit 0)))]), (nat_lit 8, nat_lit 0, [(nat_lit 3, (.ofNat (nat_lit 0)))]), (nat_lit 8, nat_lit 0, [(nat_lit 2, (.ofNat (nat_lit 0)))]), (nat_lit 8, nat_lit 0, [(nat_lit 1, (.ofNat (nat_lit 0)))]), (nat_lit 6, nat_lit 5, [(nat_lit 7, (.ofNat (nat_lit 0))), (nat_lit 0, (.ofNat (nat_lit 700)))]), (nat_lit 0, nat_lit 1, [(nat_lit 6, (.ofNat (nat_lit 0))), (nat_lit 0, (.ofNat (nat_lit 20)))]), (nat_lit 4, nat_lit 0, [(nat_lit 0, (.ofNat (nat_lit 0))), (nat_lit 0, (.ofNat (nat_lit 1)))])],
  [(nat_lit 13, nat_lit 0, [(nat_lit 5, (.ofNat (nat_lit 0)))]), (nat_lit 8, nat_lit 0, [(nat_lit 4, (.ofNat (nat_lit 0)))]), (nat_lit 8, nat_lit 0, [(nat_lit 3, (.ofNat (nat_lit 0)))]), (nat_lit 8, nat_lit 0, [(nat_lit 2, (.ofNat (nat_lit 0)))]), (nat_lit 8, nat_lit 0, [(nat_lit 1, (.ofNat (nat_lit 0)))]), (nat_lit 6, nat_lit 5, [(nat_lit 7, (.ofNat (nat_lit 0))), (nat_lit 0, (.ofNat (nat_lit 700)))]), (nat_lit 0, nat_lit 1, [(nat_lit 6, (.ofNat (nat_lit 0))), (nat_lit 0, (.ofNat (nat_lit 20)))]), (nat_lit 4, nat_lit 0, [(nat_lit 0, (.ofNat (nat_lit 0))), (nat_lit 0, (.ofNat (nat_lit 1)))])],
  [(nat_lit 11, nat_lit 0, [(nat_lit 13, (.ofNat (nat_lit 0)))]), (nat_lit 4, nat_lit 0, [(nat_lit 0, (.ofNat (nat_lit 0))), (nat_lit 0, (.ofNat (nat_lit 1)))]), (nat_lit 8, nat_lit 0, [(nat_lit 5, (.ofNat (nat_lit 0)))]), (nat_lit 8, nat_lit 0, [(nat_lit 4, (.ofNat (nat_lit 0)))]), (nat_lit 8, nat_lit 0, [(nat_lit 3, (.ofNat (nat_lit 0)))]), (nat_lit 8, nat_lit 0, [(nat_lit 2, (.ofNat (nat_lit 0)))]), (nat_lit 8, nat_lit 0, [(nat_lit 1, (.ofNat (nat_lit 0)))]), (nat_lit 6, nat_lit 5, [(nat_lit 7, (.ofNat (nat_lit 0))), (nat_lit 0, (.ofNat (nat_lit 700)))]), (nat_lit 0, nat_lit 1, [(nat_lit 6, (.ofNat (nat_lit 0))), (nat_lit 0, (.ofNat (nat_lit 20)))]), (nat_lit 4, nat_lit 0, [(nat_lit 0, (.ofNat (nat_lit 0))), (nat_lit 0, (.ofNat (nat_lit 1)))])],
  [(nat_lit 11, nat_lit 0, [(nat_lit 0, (.negSucc (nat_lit 0)))]), (nat_lit 6, nat_lit 4, [(nat_lit 7, (.ofNat (nat_lit 0))), (nat_lit 0, (.ofNat (nat_lit 700)))]), (nat_lit 0, nat_lit 1, [(nat_lit 6, (.ofNat (nat_lit 0))), (nat_lit 0, (.ofNat (nat_lit 20)))]), (nat_lit 4, nat_lit 0, [(nat_lit 0, (.ofNat (nat_lit 0))), (nat_lit 0, (.ofNat (nat_lit 1)))])]]
def zFge_feed : List (List zK) := []
set_option maxHeartbeats 8000000 in
theorem zge_feed_o0 {ro : Nat → List Int32} (x1 x2 x3 x4 x5 : Int) (η : zE) (hp : sP wl_ge zTr zPge_feed [x1, x2, x3, x4, x5] η) (hpp : pPge_feed [x1, x2, x3, x4, x5] η) : ∀ x6 : Int, x6 = η 0 (Int.toNat 1) → zok 0 x6 → ∀ x7 : Int, x7 = zd 0 1 x6 20 → (x7 ≤ 700) → ((gC2 wl_ge [(nat_lit 0, zPge_putBytes, zOge_putBytes, zMge_putBytes)] pCge_feed qCge_feed) 0).1 [x1] η := by
  have hb : (0 : Int) ≤ η 0 1 ∧ η 0 1 ≤ 700 := wf_ok (a := 1) (b := 1) (z := (0, 700)) hp.1 (by decide +kernel) (Nat.le_refl _) (Nat.le_refl _)
  intro x6 e6 r6 x7 e7 c1
  replace e7 := zEq_i e7
  have bx1 : ((-2147483648) : Int) ≤ x1 ∧ x1 ≤ 2147483647 := hp.2.1.1
  have bx2 : ((-2147483648) : Int) ≤ x2 ∧ x2 ≤ 2147483647 := hp.2.1.2.1
  have bx3 : ((-2147483648) : Int) ≤ x3 ∧ x3 ≤ 2147483647 := hp.2.1.2.2.1
  have bx4 : ((-2147483648) : Int) ≤ x4 ∧ x4 ≤ 2147483647 := hp.2.1.2.2.2.1
  have bx5 : ((-2147483648) : Int) ≤ x5 ∧ x5 ≤ 2147483647 := hp.2.1.2.2.2.2.1
  have w0_0_1 : (0 : Int) ≤ η 0 1 ∧ η 0 1 ≤ 700 := wf_ok (a := 1) (b := 1) (z := (0, 700)) hp.1 (by decide +kernel) (Nat.le_refl _) (Nat.le_refl _)
  replace e6 : x6 = η 0 1 := e6
  replace r6 : -2147483648 ≤ x6 ∧ x6 ≤ 2147483647 := r6
  first
  | replace e7 : x7 = x6 + 20 := zd_a2 (zEq_o e7) (by clear e7; exact ⟨by omega, by omega⟩)
  | clear e7
  have f0_1 : η 0 1 = η 0 1 := rfl
  show η 0 1 + 4 ≤ 700
  omega
set_option maxHeartbeats 8000000 in
theorem zge_feed_o1 {ro : Nat → List Int32} (x1 x2 x3 x4 x5 : Int) (η : zE) (hp : sP wl_ge zTr zPge_feed [x1, x2, x3, x4, x5] η) (hpp : pPge_feed [x1, x2, x3, x4, x5] η) : ∀ x6 : Int, x6 = η 0 (Int.toNat 1) → zok 0 x6 → ∀ x7 : Int, x7 = zd 0 1 x6 20 → (x7 ≤ 700) → ∀ (x8 : Int) (η1 : zE), ((gC2 wl_ge [(nat_lit 0, zPge_putBytes, zOge_putBytes, zMge_putBytes)] pCge_feed qCge_feed) 0).2 [x1] η x8 η1 → ((gC2 wl_ge [(nat_lit 0, zPge_putBytes, zOge_putBytes, zMge_putBytes)] pCge_feed qCge_feed) 0).1 [x2] η1 := by
  have hb : (0 : Int) ≤ η 0 1 ∧ η 0 1 ≤ 700 := wf_ok (a := 1) (b := 1) (z := (0, 700)) hp.1 (by decide +kernel) (Nat.le_refl _) (Nat.le_refl _)
  intro x6 e6 r6 x7 e7 c1 x8 η1 h8
  replace e7 := zEq_i e7
  have y8 : fQge_putBytes [x1] η x8 η1 := h8.2.2
  have k8 : sQ wl_ge zTr zOge_putBytes zMge_putBytes [x1] η x8 η1 ∧ oQge_putBytes [x1] η x8 η1 := ⟨h8.1, h8.2.1⟩
  have bx1 : ((-2147483648) : Int) ≤ x1 ∧ x1 ≤ 2147483647 := hp.2.1.1
  have bx2 : ((-2147483648) : Int) ≤ x2 ∧ x2 ≤ 2147483647 := hp.2.1.2.1
  have bx3 : ((-2147483648) : Int) ≤ x3 ∧ x3 ≤ 2147483647 := hp.2.1.2.2.1
  have bx4 : ((-2147483648) : Int) ≤ x4 ∧ x4 ≤ 2147483647 := hp.2.1.2.2.2.1
  have bx5 : ((-2147483648) : Int) ≤ x5 ∧ x5 ≤ 2147483647 := hp.2.1.2.2.2.2.1
  have w0_0_1 : (0 : Int) ≤ η 0 1 ∧ η 0 1 ≤ 700 := wf_ok (a := 1) (b := 1) (z := (0, 700)) hp.1 (by decide +kernel) (Nat.le_refl _) (Nat.le_refl _)
  replace e6 : x6 = η 0 1 := e6
  replace r6 : -2147483648 ≤ x6 ∧ x6 ≤ 2147483647 := r6
  first
  | replace e7 : x7 = x6 + 20 := zd_a2 (zEq_o e7) (by clear e7; exact ⟨by omega, by omega⟩)
  | clear e7
  have c0_0_1 : η 0 1 = η 0 1 := rfl
  have bx8 : (0 : Int) ≤ x8 ∧ x8 ≤ 0 := k8.1.2.1
  have w1_0_1 : (0 : Int) ≤ η1 0 1 ∧ η1 0 1 ≤ 700 := wf_ok (a := 1) (b := 1) (z := (0, 700)) k8.1.1 (by decide +kernel) (Nat.le_refl _) (Nat.le_refl _)
  have f0_1 : η1 0 1 = η1 0 1 := rfl
  have q1 : η1 0 1 = η 0 1 + 4 := k8.2
  show η1 0 1 + 4 ≤ 700
  omega
set_option maxHeartbeats 8000000 in
theorem zge_feed_o2 {ro : Nat → List Int32} (x1 x2 x3 x4 x5 : Int) (η : zE) (hp : sP wl_ge zTr zPge_feed [x1, x2, x3, x4, x5] η) (hpp : pPge_feed [x1, x2, x3, x4, x5] η) : ∀ x6 : Int, x6 = η 0 (Int.toNat 1) → zok 0 x6 → ∀ x7 : Int, x7 = zd 0 1 x6 20 → (x7 ≤ 700) → ∀ (x8 : Int) (η1 : zE), ((gC2 wl_ge [(nat_lit 0, zPge_putBytes, zOge_putBytes, zMge_putBytes)] pCge_feed qCge_feed) 0).2 [x1] η x8 η1 → ∀ (x9 : Int) (η2 : zE), ((gC2 wl_ge [(nat_lit 0, zPge_putBytes, zOge_putBytes, zMge_putBytes)] pCge_feed qCge_feed) 0).2 [x2] η1 x9 η2 → ((gC2 wl_ge [(nat_lit 0, zPge_putBytes, zOge_putBytes, zMge_putBytes)] pCge_feed qCge_feed) 0).1 [x3] η2 := by
  have hb : (0 : Int) ≤ η 0 1 ∧ η 0 1 ≤ 700 := wf_ok (a := 1) (b := 1) (z := (0, 700)) hp.1 (by decide +kernel) (Nat.le_refl _) (Nat.le_refl _)
  intro x6 e6 r6 x7 e7 c1 x8 η1 h8 x9 η2 h9
  replace e7 := zEq_i e7
  have y8 : fQge_putBytes [x1] η x8 η1 := h8.2.2
  have k8 : sQ wl_ge zTr zOge_putBytes zMge_putBytes [x1] η x8 η1 ∧ oQge_putBytes [x1] η x8 η1 := ⟨h8.1, h8.2.1⟩
  have y9 : fQge_putBytes [x2] η1 x9 η2 := h9.2.2
  have k9 : sQ wl_ge zTr zOge_putBytes zMge_putBytes [x2] η1 x9 η2 ∧ oQge_putBytes [x2] η1 x9 η2 := ⟨h9.1, h9.2.1⟩
  have bx1 : ((-2147483648) : Int) ≤ x1 ∧ x1 ≤ 2147483647 := hp.2.1.1
  have bx2 : ((-2147483648) : Int) ≤ x2 ∧ x2 ≤ 2147483647 := hp.2.1.2.1
  have bx3 : ((-2147483648) : Int) ≤ x3 ∧ x3 ≤ 2147483647 := hp.2.1.2.2.1
  have bx4 : ((-2147483648) : Int) ≤ x4 ∧ x4 ≤ 2147483647 := hp.2.1.2.2.2.1
  have bx5 : ((-2147483648) : Int) ≤ x5 ∧ x5 ≤ 2147483647 := hp.2.1.2.2.2.2.1
  have w0_0_1 : (0 : Int) ≤ η 0 1 ∧ η 0 1 ≤ 700 := wf_ok (a := 1) (b := 1) (z := (0, 700)) hp.1 (by decide +kernel) (Nat.le_refl _) (Nat.le_refl _)
  replace e6 : x6 = η 0 1 := e6
  replace r6 : -2147483648 ≤ x6 ∧ x6 ≤ 2147483647 := r6
  first
  | replace e7 : x7 = x6 + 20 := zd_a2 (zEq_o e7) (by clear e7; exact ⟨by omega, by omega⟩)
  | clear e7
  have c0_0_1 : η 0 1 = η 0 1 := rfl
  have bx8 : (0 : Int) ≤ x8 ∧ x8 ≤ 0 := k8.1.2.1
  have w1_0_1 : (0 : Int) ≤ η1 0 1 ∧ η1 0 1 ≤ 700 := wf_ok (a := 1) (b := 1) (z := (0, 700)) k8.1.1 (by decide +kernel) (Nat.le_refl _) (Nat.le_refl _)
  have c1_0_1 : η1 0 1 = η1 0 1 := rfl
  have bx9 : (0 : Int) ≤ x9 ∧ x9 ≤ 0 := k9.1.2.1
  have w2_0_1 : (0 : Int) ≤ η2 0 1 ∧ η2 0 1 ≤ 700 := wf_ok (a := 1) (b := 1) (z := (0, 700)) k9.1.1 (by decide +kernel) (Nat.le_refl _) (Nat.le_refl _)
  have f0_1 : η2 0 1 = η2 0 1 := rfl
  have q1 : η1 0 1 = η 0 1 + 4 := k8.2
  have q2 : η2 0 1 = η1 0 1 + 4 := k9.2
  show η2 0 1 + 4 ≤ 700
  omega
set_option maxHeartbeats 8000000 in
theorem zge_feed_o3 {ro : Nat → List Int32} (x1 x2 x3 x4 x5 : Int) (η : zE) (hp : sP wl_ge zTr zPge_feed [x1, x2, x3, x4, x5] η) (hpp : pPge_feed [x1, x2, x3, x4, x5] η) : ∀ x6 : Int, x6 = η 0 (Int.toNat 1) → zok 0 x6 → ∀ x7 : Int, x7 = zd 0 1 x6 20 → (x7 ≤ 700) → ∀ (x8 : Int) (η1 : zE), ((gC2 wl_ge [(nat_lit 0, zPge_putBytes, zOge_putBytes, zMge_putBytes)] pCge_feed qCge_feed) 0).2 [x1] η x8 η1 → ∀ (x9 : Int) (η2 : zE), ((gC2 wl_ge [(nat_lit 0, zPge_putBytes, zOge_putBytes, zMge_putBytes)] pCge_feed qCge_feed) 0).2 [x2] η1 x9 η2 → ∀ (x10 : Int) (η3 : zE), ((gC2 wl_ge [(nat_lit 0, zPge_putBytes, zOge_putBytes, zMge_putBytes)] pCge_feed qCge_feed) 0).2 [x3] η2 x10 η3 → ((gC2 wl_ge [(nat_lit 0, zPge_putBytes, zOge_putBytes, zMge_putBytes)] pCge_feed qCge_feed) 0).1 [x4] η3 := by
  have hb : (0 : Int) ≤ η 0 1 ∧ η 0 1 ≤ 700 := wf_ok (a := 1) (b := 1) (z := (0, 700)) hp.1 (by decide +kernel) (Nat.le_refl _) (Nat.le_refl _)
  intro x6 e6 r6 x7 e7 c1 x8 η1 h8 x9 η2 h9 x10 η3 h10
  replace e7 := zEq_i e7
  have y8 : fQge_putBytes [x1] η x8 η1 := h8.2.2
  have k8 : sQ wl_ge zTr zOge_putBytes zMge_putBytes [x1] η x8 η1 ∧ oQge_putBytes [x1] η x8 η1 := ⟨h8.1, h8.2.1⟩
  have y9 : fQge_putBytes [x2] η1 x9 η2 := h9.2.2
  have k9 : sQ wl_ge zTr zOge_putBytes zMge_putBytes [x2] η1 x9 η2 ∧ oQge_putBytes [x2] η1 x9 η2 := ⟨h9.1, h9.2.1⟩
  have y10 : fQge_putBytes [x3] η2 x10 η3 := h10.2.2
  have k10 : sQ wl_ge zTr zOge_putBytes zMge_putBytes [x3] η2 x10 η3 ∧ oQge_putBytes [x3] η2 x10 η3 := ⟨h10.1, h10.2.1⟩
  have bx1 : ((-2147483648) : Int) ≤ x1 ∧ x1 ≤ 2147483647 := hp.2.1.1
  have bx2 : ((-2147483648) : Int) ≤ x2 ∧ x2 ≤ 2147483647 := hp.2.1.2.1
  have bx3 : ((-2147483648) : Int) ≤ x3 ∧ x3 ≤ 2147483647 := hp.2.1.2.2.1
  have bx4 : ((-2147483648) : Int) ≤ x4 ∧ x4 ≤ 2147483647 := hp.2.1.2.2.2.1
  have bx5 : ((-2147483648) : Int) ≤ x5 ∧ x5 ≤ 2147483647 := hp.2.1.2.2.2.2.1
  have w0_0_1 : (0 : Int) ≤ η 0 1 ∧ η 0 1 ≤ 700 := wf_ok (a := 1) (b := 1) (z := (0, 700)) hp.1 (by decide +kernel) (Nat.le_refl _) (Nat.le_refl _)
  replace e6 : x6 = η 0 1 := e6
  replace r6 : -2147483648 ≤ x6 ∧ x6 ≤ 2147483647 := r6
  first
  | replace e7 : x7 = x6 + 20 := zd_a2 (zEq_o e7) (by clear e7; exact ⟨by omega, by omega⟩)
  | clear e7
  have c0_0_1 : η 0 1 = η 0 1 := rfl
  have bx8 : (0 : Int) ≤ x8 ∧ x8 ≤ 0 := k8.1.2.1
  have w1_0_1 : (0 : Int) ≤ η1 0 1 ∧ η1 0 1 ≤ 700 := wf_ok (a := 1) (b := 1) (z := (0, 700)) k8.1.1 (by decide +kernel) (Nat.le_refl _) (Nat.le_refl _)
  have c1_0_1 : η1 0 1 = η1 0 1 := rfl
  have bx9 : (0 : Int) ≤ x9 ∧ x9 ≤ 0 := k9.1.2.1
  have w2_0_1 : (0 : Int) ≤ η2 0 1 ∧ η2 0 1 ≤ 700 := wf_ok (a := 1) (b := 1) (z := (0, 700)) k9.1.1 (by decide +kernel) (Nat.le_refl _) (Nat.le_refl _)
  have c2_0_1 : η2 0 1 = η2 0 1 := rfl
  have bx10 : (0 : Int) ≤ x10 ∧ x10 ≤ 0 := k10.1.2.1
  have w3_0_1 : (0 : Int) ≤ η3 0 1 ∧ η3 0 1 ≤ 700 := wf_ok (a := 1) (b := 1) (z := (0, 700)) k10.1.1 (by decide +kernel) (Nat.le_refl _) (Nat.le_refl _)
  have f0_1 : η3 0 1 = η3 0 1 := rfl
  have q1 : η1 0 1 = η 0 1 + 4 := k8.2
  have q2 : η2 0 1 = η1 0 1 + 4 := k9.2
  have q3 : η3 0 1 = η2 0 1 + 4 := k10.2
  show η3 0 1 + 4 ≤ 700
  omega
set_option maxHeartbeats 8000000 in
theorem zge_feed_o4 {ro : Nat → List Int32} (x1 x2 x3 x4 x5 : Int) (η : zE) (hp : sP wl_ge zTr zPge_feed [x1, x2, x3, x4, x5] η) (hpp : pPge_feed [x1, x2, x3, x4, x5] η) : ∀ x6 : Int, x6 = η 0 (Int.toNat 1) → zok 0 x6 → ∀ x7 : Int, x7 = zd 0 1 x6 20 → (x7 ≤ 700) → ∀ (x8 : Int) (η1 : zE), ((gC2 wl_ge [(nat_lit 0, zPge_putBytes, zOge_putBytes, zMge_putBytes)] pCge_feed qCge_feed) 0).2 [x1] η x8 η1 → ∀ (x9 : Int) (η2 : zE), ((gC2 wl_ge [(nat_lit 0, zPge_putBytes, zOge_putBytes, zMge_putBytes)] pCge_feed qCge_feed) 0).2 [x2] η1 x9 η2 → ∀ (x10 : Int) (η3 : zE), ((gC2 wl_ge [(nat_lit 0, zPge_putBytes, zOge_putBytes, zMge_putBytes)] pCge_feed qCge_feed) 0).2 [x3] η2 x10 η3 → ∀ (x11 : Int) (η4 : zE), ((gC2 wl_ge [(nat_lit 0, zPge_putBytes, zOge_putBytes, zMge_putBytes)] pCge_feed qCge_feed) 0).2 [x4] η3 x11 η4 → ((gC2 wl_ge [(nat_lit 0, zPge_putBytes, zOge_putBytes, zMge_putBytes)] pCge_feed qCge_feed) 0).1 [x5] η4 := by
  have hb : (0 : Int) ≤ η 0 1 ∧ η 0 1 ≤ 700 := wf_ok (a := 1) (b := 1) (z := (0, 700)) hp.1 (by decide +kernel) (Nat.le_refl _) (Nat.le_refl _)
  intro x6 e6 r6 x7 e7 c1 x8 η1 h8 x9 η2 h9 x10 η3 h10 x11 η4 h11
  replace e7 := zEq_i e7
  have y8 : fQge_putBytes [x1] η x8 η1 := h8.2.2
  have k8 : sQ wl_ge zTr zOge_putBytes zMge_putBytes [x1] η x8 η1 ∧ oQge_putBytes [x1] η x8 η1 := ⟨h8.1, h8.2.1⟩
  have y9 : fQge_putBytes [x2] η1 x9 η2 := h9.2.2
  have k9 : sQ wl_ge zTr zOge_putBytes zMge_putBytes [x2] η1 x9 η2 ∧ oQge_putBytes [x2] η1 x9 η2 := ⟨h9.1, h9.2.1⟩
  have y10 : fQge_putBytes [x3] η2 x10 η3 := h10.2.2
  have k10 : sQ wl_ge zTr zOge_putBytes zMge_putBytes [x3] η2 x10 η3 ∧ oQge_putBytes [x3] η2 x10 η3 := ⟨h10.1, h10.2.1⟩
  have y11 : fQge_putBytes [x4] η3 x11 η4 := h11.2.2
  have k11 : sQ wl_ge zTr zOge_putBytes zMge_putBytes [x4] η3 x11 η4 ∧ oQge_putBytes [x4] η3 x11 η4 := ⟨h11.1, h11.2.1⟩
  have bx1 : ((-2147483648) : Int) ≤ x1 ∧ x1 ≤ 2147483647 := hp.2.1.1
  have bx2 : ((-2147483648) : Int) ≤ x2 ∧ x2 ≤ 2147483647 := hp.2.1.2.1
  have bx3 : ((-2147483648) : Int) ≤ x3 ∧ x3 ≤ 2147483647 := hp.2.1.2.2.1
  have bx4 : ((-2147483648) : Int) ≤ x4 ∧ x4 ≤ 2147483647 := hp.2.1.2.2.2.1
  have bx5 : ((-2147483648) : Int) ≤ x5 ∧ x5 ≤ 2147483647 := hp.2.1.2.2.2.2.1
  have w0_0_1 : (0 : Int) ≤ η 0 1 ∧ η 0 1 ≤ 700 := wf_ok (a := 1) (b := 1) (z := (0, 700)) hp.1 (by decide +kernel) (Nat.le_refl _) (Nat.le_refl _)
  replace e6 : x6 = η 0 1 := e6
  replace r6 : -2147483648 ≤ x6 ∧ x6 ≤ 2147483647 := r6
  first
  | replace e7 : x7 = x6 + 20 := zd_a2 (zEq_o e7) (by clear e7; exact ⟨by omega, by omega⟩)
  | clear e7
  have c0_0_1 : η 0 1 = η 0 1 := rfl
  have bx8 : (0 : Int) ≤ x8 ∧ x8 ≤ 0 := k8.1.2.1
  have w1_0_1 : (0 : Int) ≤ η1 0 1 ∧ η1 0 1 ≤ 700 := wf_ok (a := 1) (b := 1) (z := (0, 700)) k8.1.1 (by decide +kernel) (Nat.le_refl _) (Nat.le_refl _)
  have c1_0_1 : η1 0 1 = η1 0 1 := rfl
  have bx9 : (0 : Int) ≤ x9 ∧ x9 ≤ 0 := k9.1.2.1
  have w2_0_1 : (0 : Int) ≤ η2 0 1 ∧ η2 0 1 ≤ 700 := wf_ok (a := 1) (b := 1) (z := (0, 700)) k9.1.1 (by decide +kernel) (Nat.le_refl _) (Nat.le_refl _)
  have c2_0_1 : η2 0 1 = η2 0 1 := rfl
  have bx10 : (0 : Int) ≤ x10 ∧ x10 ≤ 0 := k10.1.2.1
  have w3_0_1 : (0 : Int) ≤ η3 0 1 ∧ η3 0 1 ≤ 700 := wf_ok (a := 1) (b := 1) (z := (0, 700)) k10.1.1 (by decide +kernel) (Nat.le_refl _) (Nat.le_refl _)
  have c3_0_1 : η3 0 1 = η3 0 1 := rfl
  have bx11 : (0 : Int) ≤ x11 ∧ x11 ≤ 0 := k11.1.2.1
  have w4_0_1 : (0 : Int) ≤ η4 0 1 ∧ η4 0 1 ≤ 700 := wf_ok (a := 1) (b := 1) (z := (0, 700)) k11.1.1 (by decide +kernel) (Nat.le_refl _) (Nat.le_refl _)
  have f0_1 : η4 0 1 = η4 0 1 := rfl
  have q1 : η1 0 1 = η 0 1 + 4 := k8.2
  have q2 : η2 0 1 = η1 0 1 + 4 := k9.2
  have q3 : η3 0 1 = η2 0 1 + 4 := k10.2
  have q4 : η4 0 1 = η3 0 1 + 4 := k11.2
  show η4 0 1 + 4 ≤ 700
  omega
set_option maxHeartbeats 8000000 in
theorem zge_feed_o5 {ro : Nat → List Int32} (x1 x2 x3 x4 x5 : Int) (η : zE) (hp : sP wl_ge zTr zPge_feed [x1, x2, x3, x4, x5] η) (hpp : pPge_feed [x1, x2, x3, x4, x5] η) : ∀ x6 : Int, x6 = η 0 (Int.toNat 1) → zok 0 x6 → ∀ x7 : Int, x7 = zd 0 1 x6 20 → (x7 ≤ 700) → ∀ (x8 : Int) (η1 : zE), ((gC2 wl_ge [(nat_lit 0, zPge_putBytes, zOge_putBytes, zMge_putBytes)] pCge_feed qCge_feed) 0).2 [x1] η x8 η1 → ∀ (x9 : Int) (η2 : zE), ((gC2 wl_ge [(nat_lit 0, zPge_putBytes, zOge_putBytes, zMge_putBytes)] pCge_feed qCge_feed) 0).2 [x2] η1 x9 η2 → ∀ (x10 : Int) (η3 : zE), ((gC2 wl_ge [(nat_lit 0, zPge_putBytes, zOge_putBytes, zMge_putBytes)] pCge_feed qCge_feed) 0).2 [x3] η2 x10 η3 → ∀ (x11 : Int) (η4 : zE), ((gC2 wl_ge [(nat_lit 0, zPge_putBytes, zOge_putBytes, zMge_putBytes)] pCge_feed qCge_feed) 0).2 [x4] η3 x11 η4 → ∀ (x12 : Int) (η5 : zE), ((gC2 wl_ge [(nat_lit 0, zPge_putBytes, zOge_putBytes, zMge_putBytes)] pCge_feed qCge_feed) 0).2 [x5] η4 x12 η5 → ∀ x13 : Int, x13 = η5 0 (Int.toNat 1) → zok 0 x13 → (fun (_ : Nat) (y : Int) (η' : zE) => pQge_feed [x1, x2, x3, x4, x5] η y η') 0 x13 η5 := by
  intro x6 e6 r6 x7 e7 c1 x8 η1 h8 x9 η2 h9 x10 η3 h10 x11 η4 h11 x12 η5 h12 x13 e13 r13
  have y8 : fQge_putBytes [x1] η x8 η1 := h8.2.2
  have k8 : sQ wl_ge zTr zOge_putBytes zMge_putBytes [x1] η x8 η1 ∧ oQge_putBytes [x1] η x8 η1 := ⟨h8.1, h8.2.1⟩
  have y9 : fQge_putBytes [x2] η1 x9 η2 := h9.2.2
  have k9 : sQ wl_ge zTr zOge_putBytes zMge_putBytes [x2] η1 x9 η2 ∧ oQge_putBytes [x2] η1 x9 η2 := ⟨h9.1, h9.2.1⟩
  have y10 : fQge_putBytes [x3] η2 x10 η3 := h10.2.2
  have k10 : sQ wl_ge zTr zOge_putBytes zMge_putBytes [x3] η2 x10 η3 ∧ oQge_putBytes [x3] η2 x10 η3 := ⟨h10.1, h10.2.1⟩
  have y11 : fQge_putBytes [x4] η3 x11 η4 := h11.2.2
  have k11 : sQ wl_ge zTr zOge_putBytes zMge_putBytes [x4] η3 x11 η4 ∧ oQge_putBytes [x4] η3 x11 η4 := ⟨h11.1, h11.2.1⟩
  have y12 : fQge_putBytes [x5] η4 x12 η5 := h12.2.2
  have k12 : sQ wl_ge zTr zOge_putBytes zMge_putBytes [x5] η4 x12 η5 ∧ oQge_putBytes [x5] η4 x12 η5 := ⟨h12.1, h12.2.1⟩
  refine yj_a ?_ ?_
  · have hb : (0 : Int) ≤ η 0 1 ∧ η 0 1 ≤ 700 := wf_ok (a := 1) (b := 1) (z := (0, 700)) hp.1 (by decide +kernel) (Nat.le_refl _) (Nat.le_refl _)
    replace e7 := zEq_i e7
    have y8 : fQge_putBytes [x1] η x8 η1 := h8.2.2
    have k8 : sQ wl_ge zTr zOge_putBytes zMge_putBytes [x1] η x8 η1 ∧ oQge_putBytes [x1] η x8 η1 := ⟨h8.1, h8.2.1⟩
    have y9 : fQge_putBytes [x2] η1 x9 η2 := h9.2.2
    have k9 : sQ wl_ge zTr zOge_putBytes zMge_putBytes [x2] η1 x9 η2 ∧ oQge_putBytes [x2] η1 x9 η2 := ⟨h9.1, h9.2.1⟩
    have y10 : fQge_putBytes [x3] η2 x10 η3 := h10.2.2
    have k10 : sQ wl_ge zTr zOge_putBytes zMge_putBytes [x3] η2 x10 η3 ∧ oQge_putBytes [x3] η2 x10 η3 := ⟨h10.1, h10.2.1⟩
    have y11 : fQge_putBytes [x4] η3 x11 η4 := h11.2.2
    have k11 : sQ wl_ge zTr zOge_putBytes zMge_putBytes [x4] η3 x11 η4 ∧ oQge_putBytes [x4] η3 x11 η4 := ⟨h11.1, h11.2.1⟩
    have y12 : fQge_putBytes [x5] η4 x12 η5 := h12.2.2
    have k12 : sQ wl_ge zTr zOge_putBytes zMge_putBytes [x5] η4 x12 η5 ∧ oQge_putBytes [x5] η4 x12 η5 := ⟨h12.1, h12.2.1⟩
    have bx1 : ((-2147483648) : Int) ≤ x1 ∧ x1 ≤ 2147483647 := hp.2.1.1
    have bx2 : ((-2147483648) : Int) ≤ x2 ∧ x2 ≤ 2147483647 := hp.2.1.2.1
    have bx3 : ((-2147483648) : Int) ≤ x3 ∧ x3 ≤ 2147483647 := hp.2.1.2.2.1
    have bx4 : ((-2147483648) : Int) ≤ x4 ∧ x4 ≤ 2147483647 := hp.2.1.2.2.2.1
    have bx5 : ((-2147483648) : Int) ≤ x5 ∧ x5 ≤ 2147483647 := hp.2.1.2.2.2.2.1
    have w0_0_1 : (0 : Int) ≤ η 0 1 ∧ η 0 1 ≤ 700 := wf_ok (a := 1) (b := 1) (z := (0, 700)) hp.1 (by decide +kernel) (Nat.le_refl _) (Nat.le_refl _)
    replace e6 : x6 = η 0 1 := e6
    replace r6 : -2147483648 ≤ x6 ∧ x6 ≤ 2147483647 := r6
    first
    | replace e7 : x7 = x6 + 20 := zd_a2 (zEq_o e7) (by clear e7; exact ⟨by omega, by omega⟩)
    | clear e7
    have c0_0_1 : η 0 1 = η 0 1 := rfl
    have bx8 : (0 : Int) ≤ x8 ∧ x8 ≤ 0 := k8.1.2.1
    have w1_0_1 : (0 : Int) ≤ η1 0 1 ∧ η1 0 1 ≤ 700 := wf_ok (a := 1) (b := 1) (z := (0, 700)) k8.1.1 (by decide +kernel) (Nat.le_refl _) (Nat.le_refl _)
    have c1_0_1 : η1 0 1 = η1 0 1 := rfl
    have bx9 : (0 : Int) ≤ x9 ∧ x9 ≤ 0 := k9.1.2.1
    have w2_0_1 : (0 : Int) ≤ η2 0 1 ∧ η2 0 1 ≤ 700 := wf_ok (a := 1) (b := 1) (z := (0, 700)) k9.1.1 (by decide +kernel) (Nat.le_refl _) (Nat.le_refl _)
    have c2_0_1 : η2 0 1 = η2 0 1 := rfl
    have bx10 : (0 : Int) ≤ x10 ∧ x10 ≤ 0 := k10.1.2.1
    have w3_0_1 : (0 : Int) ≤ η3 0 1 ∧ η3 0 1 ≤ 700 := wf_ok (a := 1) (b := 1) (z := (0, 700)) k10.1.1 (by decide +kernel) (Nat.le_refl _) (Nat.le_refl _)
    have c3_0_1 : η3 0 1 = η3 0 1 := rfl
    have bx11 : (0 : Int) ≤ x11 ∧ x11 ≤ 0 := k11.1.2.1
    have w4_0_1 : (0 : Int) ≤ η4 0 1 ∧ η4 0 1 ≤ 700 := wf_ok (a := 1) (b := 1) (z := (0, 700)) k11.1.1 (by decide +kernel) (Nat.le_refl _) (Nat.le_refl _)
    have c4_0_1 : η4 0 1 = η4 0 1 := rfl
    have bx12 : (0 : Int) ≤ x12 ∧ x12 ≤ 0 := k12.1.2.1
    have w5_0_1 : (0 : Int) ≤ η5 0 1 ∧ η5 0 1 ≤ 700 := wf_ok (a := 1) (b := 1) (z := (0, 700)) k12.1.1 (by decide +kernel) (Nat.le_refl _) (Nat.le_refl _)
    replace e13 : x13 = η5 0 1 := e13
    replace r13 : -2147483648 ≤ x13 ∧ x13 ≤ 2147483647 := r13
    have f0_1 : η5 0 1 = η5 0 1 := rfl
    have q1 : η1 0 1 = η 0 1 + 4 := k8.2
    have q2 : η2 0 1 = η1 0 1 + 4 := k9.2
    have q3 : η3 0 1 = η2 0 1 + 4 := k10.2
    have q4 : η4 0 1 = η3 0 1 + 4 := k11.2
    have q5 : η5 0 1 = η4 0 1 + 4 := k12.2
    exact ⟨fun w => by
      have w : 700 < η 0 1 + 20 := w
      first
      | (exfalso; omega)
      | exact ⟨show x13 = -1 by omega, show η5 0 1 = η 0 1 by omega⟩, fun w => by
      have w : η 0 1 + 20 ≤ 700 := w
      first
      | (exfalso; omega)
      | exact ⟨show x13 = η 0 1 + 20 by omega, show η5 0 1 = η 0 1 + 20 by omega⟩⟩
  · have hb : (0 : Int) ≤ η 0 1 ∧ η 0 1 ≤ 700 := wf_ok (a := 1) (b := 1) (z := (0, 700)) hp.1 (by decide +kernel) (Nat.le_refl _) (Nat.le_refl _)
    have e6 : x6 = η 0 1 := e6
    have e7 : x7 = zd 0 1 x6 20 := e7
    rw [zd_a ⟨by omega, by omega⟩] at e7
    have ne : ¬ 700 < η 0 1 + 20 := by omega
    clear e7
    have b8 : η1 = (yf_p x1 η) := y8
    clear k8 h8
    have b9 : η2 = (yf_p x2 η1) := y9
    clear k9 h9
    have b10 : η3 = (yf_p x3 η2) := y10
    clear k10 h10
    have b11 : η4 = (yf_p x4 η3) := y11
    clear k11 h11
    have b12 : η5 = (yf_p x5 η4) := y12
    clear k12 h12
    have e13 : x13 = η5 0 1 := e13
    clear r13
    refine ⟨fun w => absurd w ne, fun w => ?_⟩
    have ee : η5 = yf_c x1 x2 x3 x4 x5 η := by
      unfold yf_c
      rw [← b8, ← b9, ← b10, ← b11]
      exact b12
    refine ⟨?_, ee⟩
    show x13 = yf_c x1 x2 x3 x4 x5 η 0 1
    rw [← ee]
    exact e13
set_option maxHeartbeats 8000000 in
theorem zge_feed_o6 {ro : Nat → List Int32} (x1 x2 x3 x4 x5 : Int) (η : zE) (hp : sP wl_ge zTr zPge_feed [x1, x2, x3, x4, x5] η) (hpp : pPge_feed [x1, x2, x3, x4, x5] η) : ∀ x6 : Int, x6 = η 0 (Int.toNat 1) → zok 0 x6 → ∀ x7 : Int, x7 = zd 0 1 x6 20 → (700 < x7) → (fun (_ : Nat) (y : Int) (η' : zE) => pQge_feed [x1, x2, x3, x4, x5] η y η') 0 (-1) η := by
  intro x6 e6 r6 x7 e7 c1
  refine yj_a ?_ ?_
  · have hb : (0 : Int) ≤ η 0 1 ∧ η 0 1 ≤ 700 := wf_ok (a := 1) (b := 1) (z := (0, 700)) hp.1 (by decide +kernel) (Nat.le_refl _) (Nat.le_refl _)
    replace e7 := zEq_i e7
    have bx1 : ((-2147483648) : Int) ≤ x1 ∧ x1 ≤ 2147483647 := hp.2.1.1
    have bx2 : ((-2147483648) : Int) ≤ x2 ∧ x2 ≤ 2147483647 := hp.2.1.2.1
    have bx3 : ((-2147483648) : Int) ≤ x3 ∧ x3 ≤ 2147483647 := hp.2.1.2.2.1
    have bx4 : ((-2147483648) : Int) ≤ x4 ∧ x4 ≤ 2147483647 := hp.2.1.2.2.2.1
    have bx5 : ((-2147483648) : Int) ≤ x5 ∧ x5 ≤ 2147483647 := hp.2.1.2.2.2.2.1
    have w0_0_1 : (0 : Int) ≤ η 0 1 ∧ η 0 1 ≤ 700 := wf_ok (a := 1) (b := 1) (z := (0, 700)) hp.1 (by decide +kernel) (Nat.le_refl _) (Nat.le_refl _)
    replace e6 : x6 = η 0 1 := e6
    replace r6 : -2147483648 ≤ x6 ∧ x6 ≤ 2147483647 := r6
    first
    | replace e7 : x7 = x6 + 20 := zd_a2 (zEq_o e7) (by clear e7; exact ⟨by omega, by omega⟩)
    | clear e7
    have f0_1 : η 0 1 = η 0 1 := rfl
    exact ⟨fun w => by
      have w : 700 < η 0 1 + 20 := w
      first
      | (exfalso; omega)
      | exact ⟨show (-1) = -1 by omega, show η 0 1 = η 0 1 by omega⟩, fun w => by
      have w : η 0 1 + 20 ≤ 700 := w
      first
      | (exfalso; omega)
      | exact ⟨show (-1) = η 0 1 + 20 by omega, show η 0 1 = η 0 1 + 20 by omega⟩⟩
  · have hb : (0 : Int) ≤ η 0 1 ∧ η 0 1 ≤ 700 := wf_ok (a := 1) (b := 1) (z := (0, 700)) hp.1 (by decide +kernel) (Nat.le_refl _) (Nat.le_refl _)
    have e6 : x6 = η 0 1 := e6
    have e7 : x7 = zd 0 1 x6 20 := e7
    rw [zd_a ⟨by omega, by omega⟩] at e7
    refine ⟨fun _ => ⟨rfl, rfl⟩, fun w => ?_⟩
    have w : η 0 1 + 20 ≤ 700 := w
    omega
set_option maxHeartbeats 8000000 in
theorem zge_feed {ro : Nat → List Int32} : zMet pr_P pr_K pr_df ro (sm_X0 1 6) 1 64 tm_ge [(.inr (.inr (.inl (nat_lit 0)))), (.inl (nat_lit 1, (.ofNat (nat_lit 0)))), (.inl (nat_lit 2, (.ofNat (nat_lit 0)))), (.inl (nat_lit 3, (.ofNat (nat_lit 0)))), (.inl (nat_lit 4, (.ofNat (nat_lit 0)))), (.inl (nat_lit 5, (.ofNat (nat_lit 0))))] 1 [(nat_lit 0, nat_lit 0, nat_lit 1), (nat_lit 0, nat_lit 4, nat_lit 2), (nat_lit 0, nat_lit 5, nat_lit 32), (nat_lit 0, nat_lit 6, nat_lit 60), (nat_lit 0, nat_lit 7, nat_lit 70), (nat_lit 0, nat_lit 8, nat_lit 74), (nat_lit 0, nat_lit 11, nat_lit 78), (nat_lit 0, nat_lit 12, nat_lit 82), (nat_lit 0, nat_lit 13, nat_lit 90), (nat_lit 0, nat_lit 14, nat_lit 91), (nat_lit 0, nat_lit 15, nat_lit 95), (nat_lit 0, nat_lit 16, nat_lit 101), (nat_lit 2, nat_lit 8, nat_lit 3), (nat_lit 2, nat_lit 9, nat_lit 4), (nat_lit 2, nat_lit 10, nat_lit 5), (nat_lit 2, nat_lit 11, nat_lit 6), (nat_lit 2, nat_lit 12, nat_lit 11), (nat_lit 2, nat_lit 13, nat_lit 16), (nat_lit 2, nat_lit 14, nat_lit 17), (nat_lit 6, nat_lit 0, nat_lit 7), (nat_lit 11, nat_lit 0, nat_lit 12), (nat_lit 6, nat_lit 1, nat_lit 8), (nat_lit 11, nat_lit 1, nat_lit 13), (nat_lit 6, nat_lit 2, nat_lit 9), (nat_lit 11, nat_lit 2, nat_lit 14), (nat_lit 6, nat_lit 3, nat_lit 10), (nat_lit 11, nat_lit 3, nat_lit 15), (nat_lit 17, nat_lit 2, nat_lit 18), (nat_lit 17, nat_lit 3, nat_lit 19), (nat_lit 17, nat_lit 4, nat_lit 20), (nat_lit 17, nat_lit 5, nat_lit 21), (nat_lit 17, nat_lit 6, nat_lit 22), (nat_lit 32, nat_lit 8, nat_lit 33), (nat_lit 32, nat_lit 9, nat_lit 34), (nat_lit 32, nat_lit 10, nat_lit 35), (nat_lit 32, nat_lit 11, nat_lit 36), (nat_lit 32, nat_lit 12, nat_lit 41), (nat_lit 32, nat_lit 13, nat_lit 46), (nat_lit 32, nat_lit 14, nat_lit 47), (nat_lit 36, nat_lit 0, nat_lit 37), (nat_lit 41, nat_lit 0, nat_lit 42), (nat_lit 36, nat_lit 1, nat_lit 38), (nat_lit 41, nat_lit 1, nat_lit 43), (nat_lit 36, nat_lit 2, nat_lit 39), (nat_lit 41, nat_lit 2, nat_lit 44), (nat_lit 36, nat_lit 3, nat_lit 40), (nat_lit 41, nat_lit 3, nat_lit 45), (nat_lit 47, nat_lit 2, nat_lit 48), (nat_lit 47, nat_lit 3, nat_lit 49), (nat_lit 47, nat_lit 4, nat_lit 50), (nat_lit 47, nat_lit 5, nat_lit 51), (nat_lit 47, nat_lit 6, nat_lit 52), (nat_lit 60, nat_lit 3, nat_lit 1), (nat_lit 60, nat_lit 9, nat_lit 61), (nat_lit 60, nat_lit 10, nat_lit 62), (nat_lit 60, nat_lit 11, nat_lit 63), (nat_lit 70, nat_lit 8, nat_lit 71), (nat_lit 70, nat_lit 9, nat_lit 72), (nat_lit 70, nat_lit 10, nat_lit 73), (nat_lit 74, nat_lit 8, nat_lit 75), (nat_lit 74, nat_lit 9, nat_lit 76), (nat_lit 74, nat_lit 10, nat_lit 77), (nat_lit 78, nat_lit 8, nat_lit 79), (nat_lit 78, nat_lit 9, nat_lit 80), (nat_lit 78, nat_lit 10, nat_lit 81), (nat_lit 82, nat_lit 8, nat_lit 83), (nat_lit 82, nat_lit 9, nat_lit 84), (nat_lit 82, nat_lit 10, nat_lit 85), (nat_lit 91, nat_lit 1, nat_lit 92), (nat_lit 91, nat_lit 2, nat_lit 93), (nat_lit 91, nat_lit 3, nat_lit 94), (nat_lit 95, nat_lit 2, nat_lit 96), (nat_lit 95, nat_lit 3, nat_lit 97), (nat_lit 95, nat_lit 4, nat_lit 98), (nat_lit 95, nat_lit 5, nat_lit 99), (nat_lit 95, nat_lit 6, nat_lit 100)] [] (fun xs η => sP wl_ge zTr zPge_feed xs η ∧ pPge_feed xs η) (fun xs η y η' => sQ wl_ge zTr zOge_feed zMge_feed xs η y η' ∧ pQge_feed xs η y η') :=
  zmet_alt (zmea_gen (mi := (nat_lit 5, nat_lit 1, nat_lit 7, nat_lit 6, nat_lit 1, tX7_feed)) (cd := [(nat_lit 65, nat_lit 0, nat_lit 0, [(.inr (.inr (.inl (nat_lit 0)))), (.inl (nat_lit 1, (.ofNat (nat_lit 0))))], nat_lit 0, [(nat_lit 0, nat_lit 0, nat_lit 1), (nat_lit 0, nat_lit 4, nat_lit 2), (nat_lit 0, nat_lit 5, nat_lit 32), (nat_lit 0, nat_lit 6, nat_lit 60), (nat_lit 0, nat_lit 7, nat_lit 70), (nat_lit 0, nat_lit 8, nat_lit 74), (nat_lit 0, nat_lit 11, nat_lit 78), (nat_lit 0, nat_lit 12, nat_lit 82), (nat_lit 0, nat_lit 13, nat_lit 90), (nat_lit 0, nat_lit 14, nat_lit 91), (nat_lit 0, nat_lit 15, nat_lit 95), (nat_lit 0, nat_lit 16, nat_lit 101), (nat_lit 2, nat_lit 8, nat_lit 3), (nat_lit 2, nat_lit 9, nat_lit 4), (nat_lit 2, nat_lit 10, nat_lit 5), (nat_lit 2, nat_lit 11, nat_lit 6), (nat_lit 2, nat_lit 12, nat_lit 11), (nat_lit 2, nat_lit 13, nat_lit 16), (nat_lit 2, nat_lit 14, nat_lit 17), (nat_lit 6, nat_lit 0, nat_lit 7), (nat_lit 11, nat_lit 0, nat_lit 12), (nat_lit 6, nat_lit 1, nat_lit 8), (nat_lit 11, nat_lit 1, nat_lit 13), (nat_lit 6, nat_lit 2, nat_lit 9), (nat_lit 11, nat_lit 2, nat_lit 14), (nat_lit 6, nat_lit 3, nat_lit 10), (nat_lit 11, nat_lit 3, nat_lit 15), (nat_lit 17, nat_lit 2, nat_lit 18), (nat_lit 17, nat_lit 3, nat_lit 19), (nat_lit 17, nat_lit 4, nat_lit 20), (nat_lit 17, nat_lit 5, nat_lit 21), (nat_lit 17, nat_lit 6, nat_lit 22), (nat_lit 32, nat_lit 8, nat_lit 33), (nat_lit 32, nat_lit 9, nat_lit 34), (nat_lit 32, nat_lit 10, nat_lit 35), (nat_lit 32, nat_lit 11, nat_lit 36), (nat_lit 32, nat_lit 12, nat_lit 41), (nat_lit 32, nat_lit 13, nat_lit 46), (nat_lit 32, nat_lit 14, nat_lit 47), (nat_lit 36, nat_lit 0, nat_lit 37), (nat_lit 41, nat_lit 0, nat_lit 42), (nat_lit 36, nat_lit 1, nat_lit 38), (nat_lit 41, nat_lit 1, nat_lit 43), (nat_lit 36, nat_lit 2, nat_lit 39), (nat_lit 41, nat_lit 2, nat_lit 44), (nat_lit 36, nat_lit 3, nat_lit 40), (nat_lit 41, nat_lit 3, nat_lit 45), (nat_lit 47, nat_lit 2, nat_lit 48), (nat_lit 47, nat_lit 3, nat_lit 49), (nat_lit 47, nat_lit 4, nat_lit 50), (nat_lit 47, nat_lit 5, nat_lit 51), (nat_lit 47, nat_lit 6, nat_lit 52), (nat_lit 60, nat_lit 3, nat_lit 1), (nat_lit 60, nat_lit 9, nat_lit 61), (nat_lit 60, nat_lit 10, nat_lit 62), (nat_lit 60, nat_lit 11, nat_lit 63), (nat_lit 70, nat_lit 8, nat_lit 71), (nat_lit 70, nat_lit 9, nat_lit 72), (nat_lit 70, nat_lit 10, nat_lit 73), (nat_lit 74, nat_lit 8, nat_lit 75), (nat_lit 74, nat_lit 9, nat_lit 76), (nat_lit 74, nat_lit 10, nat_lit 77), (nat_lit 78, nat_lit 8, nat_lit 79), (nat_lit 78, nat_lit 9, nat_lit 80), (nat_lit 78, nat_lit 10, nat_lit 81), (nat_lit 82, nat_lit 8, nat_lit 83), (nat_lit 82, nat_lit 9, nat_lit 84), (nat_lit 82, nat_lit 10, nat_lit 85), (nat_lit 91, nat_lit 1, nat_lit 92), (nat_lit 91, nat_lit 2, nat_lit 93), (nat_lit 91, nat_lit 3, nat_lit 94), (nat_lit 95, nat_lit 2, nat_lit 96), (nat_lit 95, nat_lit 3, nat_lit 97), (nat_lit 95, nat_lit 4, nat_lit 98), (nat_lit 95, nat_lit 5, nat_lit 99), (nat_lit 95, nat_lit 6, nat_lit 100)], [])]) (cu := []) (cs := [(nat_lit 0, zPge_putBytes, zOge_putBytes, zMge_putBytes)]) (iv := zVge_feed) (po := [zOge_feed]) (pr := zPge_feed) (mods := zMge_feed) (D7 := zDge_feed) (D0 := zEge_feed) (Dm := zFge_feed) (f0 := 28) pCge_feed qCge_feed iCge_feed pPge_feed (fun xs η _ y η' => pQge_feed xs η y η') zX_low pr_mtR rfl (List.forall_mem_cons.mpr ⟨zge_putBytes, fun _ h => nomatch h⟩) (by decide +kernel) (by decide +kernel) (by decide +kernel)
    (by
      intro xs η hr hl hp hpp
      match xs, hl, hp, hpp with
      | [x1, x2, x3, x4, x5], _, hp, hpp =>
        refine List.forall_mem_cons.mpr ⟨?_, List.forall_mem_cons.mpr ⟨?_, List.forall_mem_cons.mpr ⟨?_, List.forall_mem_cons.mpr ⟨?_, List.forall_mem_cons.mpr ⟨?_, List.forall_mem_cons.mpr ⟨?_, List.forall_mem_cons.mpr ⟨?_, fun _ h => nomatch h⟩⟩⟩⟩⟩⟩⟩
        · refine zden_L (n := 6) (ρ := [x5, x4, x3, x2, x1, 0]) rfl ?_
          exact zge_feed_o0 (ro := ro) x1 x2 x3 x4 x5 η hp hpp
        · refine zden_L (n := 6) (ρ := [x5, x4, x3, x2, x1, 0]) rfl ?_
          exact zge_feed_o1 (ro := ro) x1 x2 x3 x4 x5 η hp hpp
        · refine zden_L (n := 6) (ρ := [x5, x4, x3, x2, x1, 0]) rfl ?_
          exact zge_feed_o2 (ro := ro) x1 x2 x3 x4 x5 η hp hpp
        · refine zden_L (n := 6) (ρ := [x5, x4, x3, x2, x1, 0]) rfl ?_
          exact zge_feed_o3 (ro := ro) x1 x2 x3 x4 x5 η hp hpp
        · refine zden_L (n := 6) (ρ := [x5, x4, x3, x2, x1, 0]) rfl ?_
          exact zge_feed_o4 (ro := ro) x1 x2 x3 x4 x5 η hp hpp
        · refine zden_L (n := 6) (ρ := [x5, x4, x3, x2, x1, 0]) rfl ?_
          exact zge_feed_o5 (ro := ro) x1 x2 x3 x4 x5 η hp hpp
        · refine zden_L (n := 6) (ρ := [x5, x4, x3, x2, x1, 0]) rfl ?_
          exact zge_feed_o6 (ro := ro) x1 x2 x3 x4 x5 η hp hpp
      )
    (fun _ _ _ _ _ _ _ h => nomatch h)
    (fun _ h => nomatch h))
