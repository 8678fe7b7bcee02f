def zPle_leafRead : zPq := ([], [])
def zOle_leafRead : zPo := (((.ofNat (nat_lit 0)), (.ofNat (nat_lit 1))), [], [])
def zMle_leafRead : List zCe := [(nat_lit 0, nat_lit 44), (nat_lit 0, nat_lit 45), (nat_lit 0, nat_lit 42), (nat_lit 0, nat_lit 47), (nat_lit 0, nat_lit 46), (nat_lit 0, nat_lit 43), (nat_lit 0, nat_lit 20), (nat_lit 0, nat_lit 8), (nat_lit 0, nat_lit 9), (nat_lit 0, nat_lit 10), (nat_lit 0, nat_lit 11), (nat_lit 0, nat_lit 5), (nat_lit 0, nat_lit 6), (nat_lit 22, nat_lit 0), (nat_lit 19, nat_lit 0), (nat_lit 20, nat_lit 0), (nat_lit 21, nat_lit 0), (nat_lit 23, nat_lit 0)]
def pPle_leafRead : List Int → zE → Prop := fun _ η => G_l η ∧ η 0 45 = 1
def oQle_leafRead : List Int → zE → Int → zE → Prop := fun _ η y η' => G0_l η' ∧ (¬ y = 0 → G_l η' ∧ 10 * (η' 0 6 - η' 0 7) + η' 0 8 < 10 * (η 0 6 - η 0 7) + η 0 8 ∧ (η' 0 45 = 0 → 1 ≤ η' 0 19))
def fQle_leafRead : List Int → zE → Int → zE → Prop := fun xs η y η' => y = (yq_lf η).1 ∧ η' = (yq_lf η).2
def pQle_leafRead : List Int → zE → Int → zE → Prop := fun xs η y η' => oQle_leafRead xs η y η' ∧ fQle_leafRead xs η y η'
def pCle_leafRead : Nat → List Int → zE → Prop := fun c => match c with
  | 0 => pPle_isSign
  | 1 => pPle_wrong
  | 2 => pPle_waitsFor0
  | 3 => pPle_token
  | 4 => pPle_isKey
  | 5 => pPle_isCounted
  | 6 => pPle_waitsFor2
  | 7 => pPle_nameMet
  | 8 => pPle_grown
  | _ => fun _ _ => True
def qCle_leafRead : Nat → List Int → zE → Int → zE → Prop := fun c => match c with
  | 0 => pQle_isSign
  | 1 => pQle_wrong
  | 2 => pQle_waitsFor0
  | 3 => pQle_token
  | 4 => pQle_isKey
  | 5 => pQle_isCounted
  | 6 => pQle_waitsFor2
  | 7 => pQle_nameMet
  | 8 => pQle_grown
  | _ => fun _ _ _ _ => True
def iCle_leafRead : List Int → zE → Nat → List Int → zE → Prop := fun xs η0 c => match c with
  | _ => fun _ _ => True
def zVle_leafRead : List zIv := []
def zDle_leafRead : List (List zK) := [[(nat_lit 7, nat_lit 3, []), (nat_lit 6, nat_lit 2, [(nat_lit 3, (.ofNat (nat_lit 0))), (nat_lit 0, (.ofNat (nat_lit 0)))]), (nat_lit 6, nat_lit 1, [(nat_lit 4, (.ofNat (nat_lit 0))), (nat_lit 0, (.ofNat (nat_lit 0)))]), (nat_lit 8, nat_lit 5, []), (nat_lit 6, nat_lit 3, [(nat_lit 3, (.ofNat (nat_lit 0))), (nat_lit 0, (.ofNat (nat_lit 0)))]), (nat_lit 6, nat_lit 3, [(nat_lit 3, (.ofNat (nat_lit 0))), (nat_lit 0, (.ofNat (nat_lit 0)))]), (nat_lit 8, nat_lit 7, []), (nat_lit 6, nat_lit 0, [(nat_lit 2, (.ofNat (nat_lit 0))), (nat_lit 0, (.ofNat (nat_lit 0)))]), (nat_lit 8, nat_lit 4, [(nat_lit 0, (.ofNat (nat_lit 12)))]), (nat_lit 6, nat_lit 0, [(nat_lit 1, (.ofNat (nat_lit 0))), (nat_lit 0, (.ofNat (nat_lit 0)))]), (nat_lit 8, nat_lit 0, [(nat_lit 0, (.ofNat (nat_lit 40)))])],
  [(nat_lit 7, nat_lit 3, []), (nat_lit 6, nat_lit 2, [(nat_lit 3, (.ofNat (nat_lit 0))), (nat_lit 0, (.ofNat (nat_lit 0)))]), (nat_lit 6, nat_lit 3, [(nat_lit 3, (.ofNat (nat_lit 0))), (nat_lit 0, (.ofNat (nat_lit 0)))]), (nat_lit 6, nat_lit 1, [(nat_lit 4, (.ofNat (nat_lit 0))), (nat_lit 0, (.ofNat (nat_lit 0)))]), (nat_lit 8, nat_lit 5, []), (nat_lit 6, nat_lit 3, [(nat_lit 3, (.ofNat (nat_lit 0))), (nat_lit 0, (.ofNat (nat_lit 0)))]), (nat_lit 6, nat_lit 3, [(nat_lit 3, (.ofNat (nat_lit 0))), (nat_lit 0, (.ofNat (nat_lit 0)))]), (nat_lit 8, nat_lit 7, []), (nat_lit 6, nat_lit 0, [(nat_lit 2, (.ofNat (nat_lit 0))), (nat_lit 0, (.ofNat (nat_lit 0)))]), (nat_lit 8, nat_lit 4, [(nat_lit 0, (.ofNat (nat_lit 12)))]), (nat_lit 6, nat_lit 0, [(nat_lit 1, (.ofNat (nat_lit 0))), (nat_lit 0, (.ofNat (nat_lit 0)))]), (nat_lit 8, nat_lit 0, [(nat_lit 0, (.ofNat (nat_lit 40)))])],
  [(nat_lit 7, nat_lit 2, [(nat_lit 0, (.ofNat (nat_lit 0)))]), (nat_lit 8, nat_lit 8, [(nat_lit 0, (.ofNat (nat_lit 1))), (nat_lit 3, (.ofNat (nat_lit 0))), (nat_lit 0, (.ofNat (nat_lit 0)))]), (nat_lit 6, nat_lit 3, [(nat_lit 3, (.ofNat (nat_lit 0))), (nat_lit 0, (.ofNat (nat_lit 0)))]), (nat_lit 6, nat_lit 3, [(nat_lit 3, (.ofNat (nat_lit 0))), (nat_lit 0, (.ofNat (nat_lit 0)))]), (nat_lit 6, nat_lit 1, [(nat_lit 4, (.ofNat (nat_lit 0))), (nat_lit 0, (.ofNat (nat_lit 0)))]), (nat_lit 8, nat_lit 5, []), (nat_lit 6, nat_lit 3, [(nat_lit 3, (.ofNat (nat_lit 0))), (nat_lit 0, (.ofNat (nat_lit 0)))]), (nat_lit 6, nat_lit 3, [(nat_lit 3, (.ofNat (nat_lit 0))), (nat_lit 0, (.ofNat (nat_lit 0)))]), (nat_lit 8, nat_lit 7, []), (nat_lit 6, nat_lit 0, [(nat_lit 2, (.ofNat (nat_lit 0))), (nat_lit 0, (.ofNat (nat_lit 0)))]), (nat_lit 8, nat_lit 4, [(nat_lit 0, (.ofNat (nat_lit 12)))]), (nat_lit 6, nat_lit 0, [(nat_lit 1, (.ofNat (nat_lit 0))), (nat_lit 0, (.ofNat (nat_lit 0)))]), (nat_lit 8, nat_lit 0, [(nat_lit 0, (.ofNat (nat_lit 40)))])],
  [(nat_lit 7, nat_lit 2, [(nat_lit 0, (.ofNat (nat_lit 1)))]), (nat_lit 8, nat_lit 3, []), (nat_lit 5, nat_lit 1, [(nat_lit 0, (.ofNat (nat_lit 0))), (nat_lit 0, (.ofNat (nat_lit 45))), (nat_lit 0, (.ofNat (nat_lit 0)))]), (nat_lit 8, nat_lit 8, [(nat_lit 0, (.ofNat (nat_lit 1))), (nat_lit 3, (.ofNat (nat_lit 0))), (nat_lit 0, (.ofNat (nat_lit 0)))]), (nat_lit 6, nat_lit 3, [(nat_lit 3, (.ofNat (nat_lit 0))), (nat_lit 0, (.ofNat (nat_lit 0)))]), (nat_lit 6, nat_lit 3, [(nat_lit 3, (.ofNat (nat_lit 0))), (nat_lit 0, (.ofNat (nat_lit 0)))]), (nat_lit 6, nat_lit 1, [(nat_lit 4, (.ofNat (nat_lit 0))), (nat_lit 0, (.ofNat (nat_lit 0)))]), (nat_lit 8, nat_lit 5, []), (nat_lit 6, nat_lit 3, [(nat_lit 3, (.ofNat (nat_lit 0))), (nat_lit 0, (.ofNat (nat_lit 0)))]), (nat_lit 6, nat_lit 3, [(nat_lit 3, (.ofNat (nat_lit 0))), (nat_lit 0, (.ofNat (nat_lit 0)))]), (nat_lit 8, nat_lit 7, []), (nat_lit 6, nat_lit 0, [(nat_lit 2, (.ofNat (nat_lit 0))), (nat_lit 0, (.ofNat (nat_lit 0)))]), (nat_lit 8, nat_lit 4, [(nat_lit 0, (.ofNat (nat_lit 12)))]), (nat_lit 6, nat_lit 0, [(nat_lit 1, (.ofNat (nat_lit 0))), (nat_lit 0, (.ofNat (nat_lit 0)))]), (nat_lit 8, nat_lit 0, [(nat_lit 0, (.ofNat (nat_lit 40)))])],
  [(nat_lit 7, nat_lit 2, [(nat_lit 0, (.ofNat (nat_lit 0)))]), (nat_lit 6, nat_lit 0, [(nat_lit 4, (.ofNat (nat_lit 0))), (nat_lit 0, (.ofNat (nat_lit 0)))]), (nat_lit 8, nat_lit 5, []), (nat_lit 6, nat_lit 3, [(nat_lit 3, (.ofNat (nat_lit 0))), (nat_lit 0, (.ofNat (nat_lit 0)))]), (nat_lit 6, nat_lit 3, [(nat_lit 3, (.ofNat (nat_lit 0))), (nat_lit 0, (.ofNat (nat_lit 0)))]), (nat_lit 8, nat_lit 7, []), (nat_lit 6, nat_lit 0, [(nat_lit 2, (.ofNat (nat_lit 0))), (nat_lit 0, (.ofNat (nat_lit 0)))]), (nat_lit 8, nat_lit 4, [(nat_lit 0, (.ofNat (nat_lit 12)))]), (nat_lit 6, nat_lit 0, [(nat_lit 1, (.ofNat (nat_lit 0))), (nat_lit 0, (.ofNat (nat_lit 0)))]), (nat_lit 8, nat_lit 0, [(nat_lit 0, (.ofNat (nat_lit 40)))])],
  [(nat_lit 7, nat_lit 3, []), (nat_lit 6, nat_lit 2, [(nat_lit 3, (.ofNat (nat_lit 0))), (nat_lit 0, (.ofNat (nat_lit 0)))]), (nat_lit 6, nat_lit 3, [(nat_lit 3, (.ofNat (nat_lit 0))), (nat_lit 0, (.ofNat (nat_lit 0)))]), (nat_lit 8, nat_lit 7, []), (nat_lit 6, nat_lit 0, [(nat_lit 2, (.ofNat (nat_lit 0))), (nat_lit 0, (.ofNat (nat_lit 0)))]), (nat_lit 8, nat_lit 4, [(nat_lit 0, (.ofNat (nat_lit 12)))]), (nat_lit 6, nat_lit 0, [(nat_lit 1, (.ofNat (nat_lit 0))), (nat_lit 0, (.ofNat (nat_lit 0)))]), (nat_lit 8, nat_lit 0, [(nat_lit 0, (.ofNat (nat_lit 40)))])],
  [(nat_lit 7, nat_lit 3, []), (nat_lit 6, nat_lit 3, [(nat_lit 3, (.ofNat (nat_lit 0))), (nat_lit 0, (.ofNat (nat_lit 0)))]), (nat_lit 6, nat_lit 0, [(nat_lit 4, (.ofNat (nat_lit 0))), (nat_lit 0, (.ofNat (nat_lit 3)))]), (nat_lit 4, nat_lit 0, [(nat_lit 0, (.ofNat (nat_lit 0))), (nat_lit 0, (.ofNat (nat_lit 8)))]), (nat_lit 6, nat_lit 2, [(nat_lit 3, (.ofNat (nat_lit 0))), (nat_lit 0, (.ofNat (nat_lit 0)))]), (nat_lit 8, nat_lit 7, []), (nat_lit 6, nat_lit 0, [(nat_lit 2, (.ofNat (nat_lit 0))), (nat_lit 0, (.ofNat (nat_lit 0)))]), (nat_lit 8, nat_lit 4, [(nat_lit 0, (.ofNat (nat_lit 12)))]), (nat_lit 6, nat_lit 0, [(nat_lit 1, (.ofNat (nat_lit 0))), (nat_lit 0, (.ofNat (nat_lit 0)))]), (nat_lit 8, nat_lit 0, [(nat_lit 0, (.ofNat (nat_lit 40)))])],
  [(nat_lit 7, nat_lit 2, [(nat_lit 0, (.ofNat (nat_lit 0)))]), (nat_lit 8, nat_lit 8, [(nat_lit 0, (.ofNat (nat_lit 0))), (nat_lit 7, (.ofNat (nat_lit 0))), (nat_lit 0, (.ofNat (nat_lit 0)))]), (nat_lit 4, nat_lit 0, [(nat_lit 0, (.ofNat (nat_lit 0))), (nat_lit 0, (.ofNat (nat_lit 9)))]), (nat_lit 6, nat_lit 2, [(nat_lit 3, (.ofNat (nat_lit 0))), (nat_lit 0, (.ofNat (nat_lit 0)))]), (nat_lit 6, nat_lit 2, [(nat_lit 3, (.ofNat (nat_lit 0))), (nat_lit 0, (.ofNat (nat_lit 0)))]), (nat_lit 6, nat_lit 1, [(nat_lit 6, (.ofNat (nat_lit 0))), (nat_lit 0, (.ofNat (nat_lit 0)))]), (nat_lit 8, nat_lit 5, []), (nat_lit 6, nat_lit 5, [(nat_lit 5, (.ofNat (nat_lit 0))), (nat_lit 0, (.ofNat (nat_lit 9999)))]), (nat_lit 4, nat_lit 0, [(nat_lit 0, (.ofNat (nat_lit 0))), (nat_lit 0, (.ofNat (nat_lit 9)))]), (nat_lit 6, nat_lit 2, [(nat_lit 3, (.ofNat (nat_lit 0))), (nat_lit 0, (.ofNat (nat_lit 0)))]), (nat_lit 6, nat_lit 0, [(nat_lit 4, (.ofNat (nat_lit 0))), (nat_lit 0, (.ofNat (nat_lit 3)))]), (nat_lit 4, nat_lit 0, [(nat_lit 0, (.ofNat (nat_lit 0))), (nat_lit 0, (.ofNat (nat_lit 8)))]), (nat_lit 6, nat_lit 2, [(nat_lit 3, (.ofNat (nat_lit 0))), (nat_lit 0, (.ofNat (nat_lit 0)))]), (nat_lit 8, nat_lit 7, []), (nat_lit 6, nat_lit 0, [(nat_lit 2, (.ofNat (nat_lit 0))), (nat_lit 0, (.ofNat (nat_lit 0)))]), (nat_lit 8, nat_lit 4, [(nat_lit 0, (.ofNat (nat_lit 12)))]), (nat_lit 6, nat_lit 0, [(nat_lit 1, (.ofNat (nat_lit 0))), (nat_lit 0, (.ofNat (nat_lit 0)))]), (nat_lit 8, nat_lit 0, [(nat_lit 0, (.ofNat (nat_lit 40)))])],
  [(nat_lit 7, nat_lit 2, [(nat_lit 0, (.ofNat (nat_lit 1)))]), (nat_lit 8, nat_lit 3, []), (nat_lit 5, nat_lit 1, [(nat_lit 0, (.ofNat (nat_lit 0))), (nat_lit 0, (.ofNat (nat_lit 45))), (nat_lit 0, (.ofNat (nat_lit 0)))]), (nat_lit 8, nat_lit 8, [(nat_lit 0, (.ofNat (nat_lit 0))), (nat_lit 7, (.ofNat (nat_lit 0))), (nat_lit 0, (.ofNat (nat_lit 0)))]), (nat_lit 4, nat_lit 0, [(nat_lit 0, (.ofNat (nat_lit 0))), (nat_lit 0, (.ofNat (nat_lit 9)))]), (nat_lit 6, nat_lit 2, [(nat_lit 3, (.ofNat (nat_lit 0))), (nat_lit 0, (.ofNat (nat_lit 0)))]), (nat_lit 6, nat_lit 2, [(nat_lit 3, (.ofNat (nat_lit 0))), (nat_lit 0, (.ofNat (nat_lit 0)))]), (nat_lit 6, nat_lit 1, [(nat_lit 6, (.ofNat (nat_lit 0))), (nat_lit 0, (.ofNat (nat_lit 0)))]), (nat_lit 8, nat_lit 5, []), (nat_lit 6, nat_lit 5, [(nat_lit 5, (.ofNat (nat_lit 0))), (nat_lit 0, (.ofNat (nat_lit 9999)))]), (nat_lit 4, nat_lit 0, [(nat_lit 0, (.ofNat (nat_lit 0))), (nat_lit 0, (.ofNat (nat_lit 9)))]), (nat_lit 6, nat_lit 2, [(nat_lit 3, (.ofNat (nat_lit 0))), (nat_lit 0, (.ofNat (nat_lit 0)))]), (nat_lit 6, nat_lit 0, [(nat_lit 4, (.ofNat (nat_lit 0))), (nat_lit 0, (.ofNat (nat_lit 3)))]), (nat_lit 4, nat_lit 0, [(nat_lit 0, (.ofNat (nat_lit 0))), (nat_lit 0, (.ofNat (nat_lit 8)))]), (nat_lit 6, nat_lit 2, [(nat_lit 3, (.ofNat (nat_lit 0))), (nat_lit 0, (.ofNat (nat_lit 0)))]), (nat_lit 8, nat_lit 7, []), (nat_lit 6, nat_lit 0, [(nat_lit 2, (.ofNat (nat_lit 0))), (nat_lit 0, (.ofNat (nat_lit 0)))]), (nat_lit 8, nat_lit 4, [(nat_lit 0, (.ofNat (nat_lit 12)))]), (nat_lit 6, nat_lit 0, [(nat_lit 1, (.ofNat (nat_lit 0))), (nat_lit 0, (.ofNat (nat_lit 0)))]), (nat_lit 8, nat_lit 0, [(nat_lit 0, (.ofNat (nat_lit 40)))])],
  [(nat_lit 7, nat_lit 3, []), (nat_lit 6, nat_lit 3, [(nat_lit 3, (.ofNat (nat_lit 0))), (nat_lit 0, (.ofNat (nat_lit 0)))]), (nat_lit 6, nat_lit 2, [(nat_lit 3, (.ofNat (nat_lit 0))), (nat_lit 0, (.ofNat (nat_lit 0)))]), (nat_lit 6, nat_lit 1, [(nat_lit 6, (.ofNat (nat_lit 0))), (nat_lit 0, (.ofNat (nat_lit 0)))]), (nat_lit 8, nat_lit 5, []), (nat_lit 6, nat_lit 5, [(nat_lit 5, (.ofNat (nat_lit 0))), (nat_lit 0, (.ofNat (nat_lit 9999)))]), (nat_lit 4, nat_lit 0, [(nat_lit 0, (.ofNat (nat_lit 0))), (nat_lit 0, (.ofNat (nat_lit 9)))]), (nat_lit 6, nat_lit 2, [(nat_lit 3, (.ofNat (nat_lit 0))), (nat_lit 0, (.ofNat (nat_lit 0)))]), (nat_lit 6, nat_lit 0, [(nat_lit 4, (.ofNat (nat_lit 0))), (nat_lit 0, (.ofNat (nat_lit 3)))]), (nat_lit 4, nat_lit 0, [(nat_lit 0, (.ofNat (nat_lit 0))), (nat_lit 0, (.ofNat (nat_lit 8)))]), (nat_lit 6, nat_lit 2, [(nat_lit 3, (.ofNat (nat_lit 0))), (nat_lit 0, (.ofNat (nat_lit 0)))]), (nat_lit 8, nat_lit 7, []), (nat_lit 6, nat_lit 0, [(nat_lit 2, (.ofNat (nat_lit 0))), (nat_lit 0, (.ofNat (nat_lit 0)))]), (nat_lit 8, nat_lit 4, [(nat_lit 0, (.ofNat (nat_lit 12)))]), (nat_lit 6, nat_lit 0, [(nat_lit 1, (.ofNat (nat_lit 0))), (nat_lit 0, (.ofNat (nat_lit 0)))]), (nat_lit 8, nat_lit 0, [(nat_lit 0, (.ofNat (nat_lit 40)))])],
  [(nat_lit 7, nat_lit 3, []), (nat_lit 6, nat_lit 3, [(nat_lit 3, (.ofNat (nat_lit 0))), (nat_lit 0, (.ofNat (nat_lit 0)))]), (nat_lit 6, nat_lit 1, [(nat_lit 6, (.ofNat (nat_lit 0))), (nat_lit 0, (.ofNat (nat_lit 0)))]), (nat_lit 8, nat_lit 5, []), (nat_lit 6, nat_lit 5, [(nat_lit 5, (.ofNat (nat_lit 0))), (nat_lit 0, (.ofNat (nat_lit 9999)))]), (nat_lit 4, nat_lit 0, [(nat_lit 0, (.ofNat (nat_lit 0))), (nat_lit 0, (.ofNat (nat_lit 9)))]), (nat_lit 6, nat_lit 2, [(nat_lit 3, (.ofNat (nat_lit 0))), (nat_lit 0, (.ofNat (nat_lit 0)))]), (nat_lit 6, nat_lit 0, [(nat_lit 4, (.ofNat (nat_lit 0))), (nat_lit 0, (.ofNat (nat_lit 3)))]), (nat_lit 4, nat_lit 0, [(nat_lit 0, (.ofNat (nat_lit 0))), (nat_lit 0, (.ofNat (nat_lit 8)))]), (nat_lit 6, nat_lit 2, [(nat_lit 3, (.ofNat (nat_lit 0))), (nat_lit 0, (.ofNat (nat_lit 0)))]), (nat_lit 8, nat_lit 7, []), (nat_lit 6, nat_lit 0, [(nat_lit 2, (.ofNat (nat_lit 0))), (nat_lit 0, (.ofNat (nat_lit 0)))]), (nat_lit 8, nat_lit 4, [(nat_lit 0, (.ofNat (nat_lit 12)))]), (nat_lit 6, nat_lit 0, [(nat_lit 1, (.ofNat (nat_lit 0))), (nat_lit 0, (.ofNat (nat_lit 0)))]), (nat_lit 8, nat_lit 0, [(nat_lit 0, (.ofNat (nat_lit 40)))])],
  [(nat_lit 7, nat_lit 2, [(nat_lit 0, (.ofNat (nat_lit 0)))]), (nat_lit 6, nat_lit 0, [(nat_lit 6, (.ofNat (nat_lit 0))), (nat_lit 0, (.ofNat (nat_lit 0)))]), (nat_lit 8, nat_lit 5, []), (nat_lit 6, nat_lit 5, [(nat_lit 5, (.ofNat (nat_lit 0))), (nat_lit 0, (.ofNat (nat_lit 9999)))]), (nat_lit 4, nat_lit 0, [(nat_lit 0, (.ofNat (nat_lit 0))), (nat_lit 0, (.ofNat (nat_lit 9)))]), (nat_lit 6, nat_lit 2, [(nat_lit 3, (.ofNat (nat_lit 0))), (nat_lit 0, (.ofNat (nat_lit 0)))]), (nat_lit 6, nat_lit 0, [(nat_lit 4, (.ofNat (nat_lit 0))), (nat_lit 0, (.ofNat (nat_lit 3)))]), (nat_lit 4, nat_lit 0, [(nat_lit 0, (.ofNat (nat_lit 0))), (nat_lit 0, (.ofNat (nat_lit 8)))]), (nat_lit 6, nat_lit 2, [(nat_lit 3, (.ofNat (nat_lit 0))), (nat_lit 0, (.ofNat (nat_lit 0)))]), (nat_lit 8, nat_lit 7, []), (nat_lit 6, nat_lit 0, [(nat_lit 2, (.ofNat (nat_lit 0))), (nat_lit 0, (.ofNat (nat_lit 0)))]), (nat_lit 8, nat_lit 4, [(nat_lit 0, (.ofNat (nat_lit 12)))]), (nat_lit 6, nat_lit 0, [(nat_lit 1, (.ofNat (nat_lit 0))), (nat_lit 0, (.ofNat (nat_lit 0)))]), (nat_lit 8, nat_lit 0, [(nat_lit 0, (.ofNat (nat_lit 40)))])],
  [(nat_lit 7, nat_lit 2, [(nat_lit 6, (.ofNat (nat_lit 0)))]), (nat_lit 8, nat_lit 1, [(nat_lit 0, (.ofNat (nat_lit 2)))]), (nat_lit 6, nat_lit 4, [(nat_lit 5, (.ofNat (nat_lit 0))), (nat_lit 0, (.ofNat (nat_lit 9999)))]), (nat_lit 4, nat_lit 0, [(nat_lit 0, (.ofNat (nat_lit 0))), (nat_lit 0, (.ofNat (nat_lit 9)))]), (nat_lit 6, nat_lit 2, [(nat_lit 3, (.ofNat (nat_lit 0))), (nat_lit 0, (.ofNat (nat_lit 0)))]), (nat_lit 6, nat_lit 0, [(nat_lit 4, (.ofNat (nat_lit 0))), (nat_lit 0, (.ofNat (nat_lit 3)))]), (nat_lit 4, nat_lit 0, [(nat_lit 0, (.ofNat (nat_lit 0))), (nat_lit 0, (.ofNat (nat_lit 8)))]), (nat_lit 6, nat_lit 2, [(nat_lit 3, (.ofNat (nat_lit 0))), (nat_lit 0, (.ofNat (nat_lit 0)))]), (nat_lit 8, nat_lit 7, []), (nat_lit 6, nat_lit 0, [(nat_lit 2, (.ofNat (nat_lit 0))), (nat_lit 0, (.ofNat (nat_lit 0)))]), (nat_lit 8, nat_lit 4, [(nat_lit 0, (.ofNat (nat_lit 12)))]), (nat_lit 6, nat_lit 0, [(nat_lit 1, (.ofNat (nat_lit 0))), (nat_lit 0, (.ofNat (nat_lit 0)))]), (nat_lit 8, nat_lit 0, [(nat_lit 0, (.ofNat (nat_lit 40)))])],
  [(nat_lit 7, nat_lit 2, [(nat_lit 5, (.ofNat (nat_lit 0)))]), (nat_lit 8, nat_lit 1, [(nat_lit 0, (.ofNat (nat_lit 1)))]), (nat_lit 6, nat_lit 1, [(nat_lit 4, (.ofNat (nat_lit 0))), (nat_lit 0, (.ofNat (nat_lit 3)))]), (nat_lit 4, nat_lit 0, [(nat_lit 0, (.ofNat (nat_lit 0))), (nat_lit 0, (.ofNat (nat_lit 8)))]), (nat_lit 6, nat_lit 2, [(nat_lit 3, (.ofNat (nat_lit 0))), (nat_lit 0, (.ofNat (nat_lit 0)))]), (nat_lit 8, nat_lit 7, []), (nat_lit 6, nat_lit 0, [(nat_lit 2, (.ofNat (nat_lit 0))), (nat_lit 0, (.ofNat (nat_lit 0)))]), (nat_lit 8, nat_lit 4, [(nat_lit 0, (.ofNat (nat_lit 12)))]), (nat_lit 6, nat_lit 0, [(nat_lit 1, (.ofNat (nat_lit 0))), (nat_lit 0, (.ofNat (nat_lit 0)))]), (nat_lit 8, nat_lit 0, [(nat_lit 0, (.ofNat (nat_lit 40)))])],
  [(nat_lit 7, nat_lit 3, []), (nat_lit 6, nat_lit 2, [(nat_lit 4, (.ofNat (nat_lit 0))), (nat_lit 0, (.ofNat (nat_lit 0)))]), (nat_lit 6, nat_lit 1, [(nat_lit 5, (.ofNat (nat_lit 0))), (nat_lit 0, (.ofNat (nat_lit 0)))]), (nat_lit 8, nat_lit 5, []), (nat_lit 6, nat_lit 3, [(nat_lit 4, (.ofNat (nat_lit 0))), (nat_lit 0, (.ofNat (nat_lit 0)))]), (nat_lit 6, nat_lit 3, [(nat_lit 4, (.ofNat (nat_lit 0))), (nat_lit 0, (.ofNat (nat_lit 0)))]), (nat_lit 8, nat_lit 7, []), (nat_lit 6, nat_lit 0, [(nat_lit 3, (.ofNat (nat_lit 0))), (nat_lit 0, (.ofNat (nat_lit 0)))]), (nat_lit 4, nat_lit 1, [(nat_lit 0, (.ofNat (nat_lit 0))), (nat_lit 0, (.ofNat (nat_lit 46)))]), (nat_lit 6, nat_lit 1, [(nat_lit 2, (.ofNat (nat_lit 0))), (nat_lit 0, (.ofNat (nat_lit 0)))]), (nat_lit 8, nat_lit 4, [(nat_lit 0, (.ofNat (nat_lit 12)))]), (nat_lit 6, nat_lit 0, [(nat_lit 1, (.ofNat (nat_lit 0))), (nat_lit 0, (.ofNat (nat_lit 0)))]), (nat_lit 8, nat_lit 0, [(nat_lit 0, (.ofNat (nat_lit 40)))])],
  [(nat_lit 7, nat_lit 3, []), (nat_lit 6, nat_lit 2, [(nat_lit 4, (.ofNat (nat_lit 0))), (nat_lit 0, (.ofNat (nat_lit 0)))]), (nat_lit 6, nat_lit 3, [(nat_lit 4, (.ofNat (nat_lit 0))), (nat_lit 0, (.ofNat (nat_lit 0)))]), (nat_lit 6, nat_lit 1, [(nat_lit 5, (.ofNat (nat_lit 0))), (nat_lit 0, (.ofNat (nat_lit 0)))]), (nat_lit 8, nat_lit 5, []), (nat_lit 6, nat_lit 3, [(nat_lit 4, (.ofNat (nat_lit 0))), (nat_lit 0, (.ofNat (nat_lit 0)))]), (nat_lit 6, nat_lit 3, [(nat_lit 4, (.ofNat (nat_lit 0))), (nat_lit 0, (.ofNat (nat_lit 0)))]), (nat_lit 8, nat_lit 7, []), (nat_lit 6, nat_lit 0, [(nat_lit 3, (.ofNat (nat_lit 0))), (nat_lit 0, (.ofNat (nat_lit 0)))]), (nat_lit 4, nat_lit 1, [(nat_lit 0, (.ofNat (nat_lit 0))), (nat_lit 0, (.ofNat (nat_lit 46)))]), (nat_lit 6, nat_lit 1, [(nat_lit 2, (.ofNat (nat_lit 0))), (nat_lit 0, (.ofNat (nat_lit 0)))]), (nat_lit 8, nat_lit 4, [(nat_lit 0, (.ofNat (nat_lit 12)))]), (nat_lit 6, nat_lit 0, [(nat_lit 1, (.ofNat (nat_lit 0))), (nat_lit 0, (.ofNat (nat_lit 0)))]), (nat_lit 8, nat_lit 0, [(nat_lit 0, (.ofNat (nat_lit 40)))])],
  [(nat_lit 7, nat_lit 2, [(nat_lit 0, (.ofNat (nat_lit 0)))]), (nat_lit 8, nat_lit 8, [(nat_lit 0, (.ofNat (nat_lit 1))), (nat_lit 4, (.ofNat (nat_lit 0))), (nat_lit 0, (.ofNat (nat_lit 0)))]), (nat_lit 6, nat_lit 3, [(nat_lit 4, (.ofNat (nat_lit 0))), (nat_lit 0, (.ofNat (nat_lit 0)))]), (nat_lit 6, nat_lit 3, [(nat_lit 4, (.ofNat (nat_lit 0))), (nat_lit 0, (.ofNat (nat_lit 0)))]), (nat_lit 6, nat_lit 1, [(nat_lit 5, (.ofNat (nat_lit 0))), (nat_lit 0, (.ofNat (nat_lit 0)))]), (nat_lit 8, nat_lit 5, []), (nat_lit 6, nat_lit 3, [(nat_lit 4, (.ofNat (nat_lit 0))), (nat_lit 0, (.ofNat (nat_lit 0)))]), (nat_lit 6, nat_lit 3, [(nat_lit 4, (.ofNat (nat_lit 0))), (nat_lit 0, (.ofNat (nat_lit 0)))]), (nat_lit 8, nat_lit 7, []), (nat_lit 6, nat_lit 0, [(nat_lit 3, (.ofNat (nat_lit 0))), (nat_lit 0, (.ofNat (nat_lit 0)))]), (nat_lit 4, nat_lit 1, [(nat_lit 0, (.ofNat (nat_lit 0))), (nat_lit 0, (.ofNat (nat_lit 46)))]), (nat_lit 6, nat_lit 1, [(nat_lit 2, (.ofNat (nat_lit 0))), (nat_lit 0, (.ofNat (nat_lit 0)))]), (nat_lit 8, nat_lit 4, [(nat_lit 0, (.ofNat (nat_lit 12)))]), (nat_lit 6, nat_lit 0, [(nat_lit 1, (.ofNat (nat_lit 0))), (nat_lit 0, (.ofNat (nat_lit 0)))]), (nat_lit 8, nat_lit 0, [(nat_lit 0, (.ofNat (nat_lit 40)))])],
  [(nat_lit 7, nat_lit 2, [(nat_lit 0, (.ofNat (nat_lit 1)))]), (nat_lit 8, nat_lit 3, []), (nat_lit 5, nat_lit 1, [(nat_lit 0, (.ofNat (nat_lit 0))), (nat_lit 0, (.ofNat (nat_lit 45))), (nat_lit 0, (.ofNat (nat_lit 0)))]), (nat_lit 8, nat_lit 8, [(nat_lit 0, (.ofNat (nat_lit 1))), (nat_lit 4, (.ofNat (nat_lit 0))), (nat_lit 0, (.ofNat (nat_lit 0)))]), (nat_lit 6, nat_lit 3, [(nat_lit 4, (.ofNat (nat_lit 0))), (nat_lit 0, (.ofNat (nat_lit 0)))]), (nat_lit 6, nat_lit 3, [(nat_lit 4, (.ofNat (nat_lit 0))), (nat_lit 0, (.ofNat (nat_lit 0)))]), (nat_lit 6, nat_lit 1, [(nat_lit 5, (.ofNat (nat_lit 0))), (nat_lit 0, (.ofNat (nat_lit 0)))]), (nat_lit 8, nat_lit 5, []), (nat_lit 6, nat_lit 3, [(nat_lit 4, (.ofNat (nat_lit 0))), (nat_lit 0, (.ofNat (nat_lit 0)))]), (nat_lit 6, nat_lit 3, [(nat_lit 4, (.ofNat (nat_lit 0))), (nat_lit 0, (.ofNat (nat_lit 0)))]), (nat_lit 8, nat_lit 7, []), (nat_lit 6, nat_lit 0, [(nat_lit 3, (.ofNat (nat_lit 0))), (nat_lit 0, (.ofNat (nat_lit 0)))]), (nat_lit 4, nat_lit 1, [(nat_lit 0, (.ofNat (nat_lit 0))), (nat_lit 0, (.ofNat (nat_lit 46)))]), (nat_lit 6, nat_lit 1, [(nat_lit 2, (.ofNat (nat_lit 0))), (nat_lit 0, (.ofNat (nat_lit 0)))]), (nat_lit 8, nat_lit 4, [(nat_lit 0, (.ofNat (nat_lit 12)))]), (nat_lit 6, nat_lit 0, [(nat_lit 1, (.ofNat (nat_lit 0))), (nat_lit 0, (.ofNat (nat_lit 0)))]), (nat_lit 8, nat_lit 0, [(nat_lit 0, (.ofNat (nat_lit 40)))])],
  [(nat_lit 7, nat_lit 2, [(nat_lit 0, (.ofNat (nat_lit 0)))]), (nat_lit 6, nat_lit 0, [(nat_lit 5, (.ofNat (nat_lit 0))), (nat_lit 0, (.ofNat (nat_lit 0)))]), (nat_lit 8, nat_lit 5, []), (nat_lit 6, nat_lit 3, [(nat_lit 4, (.ofNat (nat_lit 0))), (nat_lit 0, (.ofNat (nat_lit 0)))]), (nat_lit 6, nat_lit 3, [(nat_lit 4, (.ofNat (nat_lit 0))), (nat_lit 0, (.ofNat (nat_lit 0)))]), (nat_lit 8, nat_lit 7, []), (nat_lit 6, nat_lit 0, [(nat_lit 3, (.ofNat (nat_lit 0))), (nat_lit 0, (.ofNat (nat_lit 0)))]), (nat_lit 4, nat_lit 1, [(nat_lit 0, (.ofNat (nat_lit 0))), (nat_lit 0, (.ofNat (nat_lit 46)))]), (nat_lit 6, nat_lit 1, [(nat_lit 2, (.ofNat (nat_lit 0))), (nat_lit 0, (.ofNat (nat_lit 0)))]), (nat_lit 8, nat_lit 4, [(nat_lit 0, (.ofNat (nat_lit 12)))]), (nat_lit 6, nat_lit 0, [(nat_lit 1, (.ofNat (nat_lit 0))), (nat_lit 0, (.ofNat (nat_lit 0)))]), (nat_lit 8, nat_lit 0, [(nat_lit 0, (.ofNat (nat_lit 40)))])],
  [(nat_lit 7, nat_lit 3, []), (nat_lit 6, nat_lit 2, [(nat_lit 4, (.ofNat (nat_lit 0))), (nat_lit 0, (.ofNat (nat_lit 0)))]), (nat_lit 6, nat_lit 3, [(nat_lit 4, (.ofNat (nat_lit 0))), (nat_lit 0, (.ofNat (nat_lit 0)))]), (nat_lit 8, nat_lit 7, []), (nat_lit 6, nat_lit 0, [(nat_lit 3, (.ofNat (nat_lit 0))), (nat_lit 0, (.ofNat (nat_lit 0)))]), (nat_lit 4, nat_lit 1, [(nat_lit 0, (.ofNat (nat_lit 0))), (nat_lit 0, (.ofNat (nat_lit 46)))]), (nat_lit 6, nat_lit 1, [(nat_lit 2, (.ofNat (nat_lit 0))), (nat_lit 0, (.ofNat (nat_lit 0)))]), (nat_lit 8, nat_lit 4, [(nat_lit 0, (.ofNat (nat_lit 12)))]), (nat_lit 6, nat_lit 0, [(nat_lit 1, (.ofNat (nat_lit 0))), (nat_lit 0, (.ofNat (nat_lit 0)))]), (nat_lit 8, nat_lit 0, [(nat_lit 0, (.ofNat (nat_lit 40)))])],
  [(nat_lit 7, nat_lit 3, []), (nat_lit 6, nat_lit 3, [(nat_lit 4, (.ofNat (nat_lit 0))), (nat_lit 0, (.ofNat (nat_lit 0)))]), (nat_lit 6, nat_lit 0, [(nat_lit 5, (.ofNat (nat_lit 0))), (nat_lit 0, (.ofNat (nat_lit 3)))]), (nat_lit 4, nat_lit 0, [(nat_lit 0, (.ofNat (nat_lit 0))), (nat_lit 0, (.ofNat (nat_lit 8)))]), (nat_lit 6, nat_lit 2, [(nat_lit 4, (.ofNat (nat_lit 0))), (nat_lit 0, (.ofNat (nat_lit 0)))]), (nat_lit 8, nat_lit 7, []), (nat_lit 6, nat_lit 0, [(nat_lit 3, (.ofNat (nat_lit 0))), (nat_lit 0, (.ofNat (nat_lit 0)))]), (nat_lit 4, nat_lit 1, [(nat_lit 0, (.ofNat (nat_lit 0))), (nat_lit 0, (.ofNat (nat_lit 46)))]), (nat_lit 6, nat_lit 1, [(nat_lit 2, (.ofNat (nat_lit 0))), (nat_lit 0, (.ofNat (nat_lit 0)))]), (nat_lit 8, nat_lit 4, [(nat_lit 0, (.ofNat (nat_lit 12)))]), (nat_lit 6, nat_lit 0, [(nat_lit 1, (.ofNat (nat_lit 0))), (nat_lit 0, (.ofNat (nat_lit 0)))]), (nat_lit 8, nat_lit 0, [(nat_lit 0, (.ofNat (nat_lit 40)))])],
  [(nat_lit 7, nat_lit 2, [(nat_lit 0, (.ofNat (nat_lit 0)))]), (nat_lit 8, nat_lit 8, [(nat_lit 0, (.ofNat (nat_lit 0))), (nat_lit 8, (.ofNat (nat_lit 0))), (nat_lit 0, (.ofNat (nat_lit 0)))]), (nat_lit 4, nat_lit 0, [(nat_lit 0, (.ofNat (nat_lit 0))), (nat_lit 0, (.ofNat (nat_lit 9)))]), (nat_lit 6, nat_lit 2, [(nat_lit 4, (.ofNat (nat_lit 0))), (nat_lit 0, (.ofNat (nat_lit 0)))]), (nat_lit 6, nat_lit 2, [(nat_lit 4, (.ofNat (nat_lit 0))), (nat_lit 0, (.ofNat (nat_lit 0)))]), (nat_lit 6, nat_lit 1, [(nat_lit 7, (.ofNat (nat_lit 0))), (nat_lit 0, (.ofNat (nat_lit 0)))]), (nat_lit 8, nat_lit 5, []), (nat_lit 6, nat_lit 5, [(nat_lit 6, (.ofNat (nat_lit 0))), (nat_lit 0, (.ofNat (nat_lit 9999)))]), (nat_lit 4, nat_lit 0, [(nat_lit 0, (.ofNat (nat_lit 0))), (nat_lit 0, (.ofNat (nat_lit 9)))]), (nat_lit 6, nat_lit 2, [(nat_lit 4, (.ofNat (nat_lit 0))), (nat_lit 0, (.ofNat (nat_lit 0)))]), (nat_lit 6, nat_lit 0, [(nat_lit 5, (.ofNat (nat_lit 0))), (nat_lit 0, (.ofNat (nat_lit 3)))]), (nat_lit 4, nat_lit 0, [(nat_lit 0, (.ofNat (nat_lit 0))), (nat_lit 0, (.ofNat (nat_lit 8)))]), (nat_lit 6, nat_lit 2, [(nat_lit 4, (.ofNat (nat_lit 0))), (nat_lit 0, (.ofNat (nat_lit 0)))]), (nat_lit 8, nat_lit 7, []), (nat_lit 6, nat_lit 0, [(nat_lit 3, (.ofNat (nat_lit 0))), (nat_lit 0, (.ofNat (nat_lit 0)))]), (nat_lit 4, nat_lit 1, [(nat_lit 0, (.ofNat (nat_lit 0))), (nat_lit 0, (.ofNat (nat_lit 46)))]), (nat_lit 6, nat_lit 1, [(nat_lit 2, (.ofNat (nat_lit 0))), (nat_lit 0, (.ofNat (nat_lit 0)))]), (nat_lit 8, nat_lit 4, [(nat_lit 0, (.ofNat (nat_lit 12)))]), (nat_lit 6, nat_lit 0, [(nat_lit 1, (.ofNat (nat_lit 0))), (nat_lit 0, (.ofNat (nat_lit 0)))]), (nat_lit 8, nat_lit 0, [(nat_lit 0, (.ofNat (nat_lit 40)))])],
  [(nat_lit 7, nat_lit 2, [(nat_lit 0, (.ofNat (nat_lit 1)))]), (nat_lit 8, nat_lit 3, []), (nat_lit 5, nat_lit 1, [(nat_lit 0, (.ofNat (nat_lit 0))), (nat_lit 0, (.ofNat (nat_lit 45))), (nat_lit 0, (.ofNat (nat_lit 0)))]), (nat_lit 8, nat_lit 8, [(nat_lit 0, (.ofNat (nat_lit 0))), (nat_lit 8, (.ofNat (nat_lit 0))), (nat_lit 0, (.ofNat (nat_lit 0)))]), (nat_lit 4, nat_lit 0, [(nat_lit 0, (.ofNat (nat_lit 0))), (nat_lit 0, (.ofNat (nat_lit 9)))]), (nat_lit 6, nat_lit 2, [(nat_lit 4, (.ofNat (nat_lit 0))), (nat_lit 0, (.ofNat (nat_lit 0)))]), (nat_lit 6, nat_lit 2, [(nat_lit 4, (.ofNat (nat_lit 0))), (nat_lit 0, (.ofNat (nat_lit 0)))]), (nat_lit 6, nat_lit 1, [(nat_lit 7, (.ofNat (nat_lit 0))), (nat_lit 0, (.ofNat (nat_lit 0)))]), (nat_lit 8, nat_lit 5, []), (nat_lit 6, nat_lit 5, [(nat_lit 6, (.ofNat (nat_lit 0))), (nat_lit 0, (.ofNat (nat_lit 9999)))]), (nat_lit 4, nat_lit 0, [(nat_lit 0, (.ofNat (nat_lit 0))), (nat_lit 0, (.ofNat (nat_lit 9)))]), (nat_lit 6, nat_lit 2, [(nat_lit 4, (.ofNat (nat_lit 0))), (nat_lit 0, (.ofNat (nat_lit 0)))]), (nat_lit 6, nat_lit 0, [(nat_lit 5, (.ofNat (nat_lit 0))), (nat_lit 0, (.ofNat (nat_lit 3)))]), (nat_lit 4, nat_lit 0, [(nat_lit 0, (.ofNat (nat_lit 0))), (nat_lit 0, (.ofNat (nat_lit 8)))]), (nat_lit 6, nat_lit 2, [(nat_lit 4, (.ofNat (nat_lit 0))), (nat_lit 0, (.ofNat (nat_lit 0)))]), (nat_lit 8, nat_lit 7, []), (nat_lit 6, nat_lit 0, [(nat_lit 3, (.ofNat (nat_lit 0))), (nat_lit 0, (.ofNat (nat_lit 0)))]), (nat_lit 4, nat_lit 1, [(nat_lit 0, (.ofNat (nat_lit 0))), (nat_lit 0, (.ofNat (nat_lit 46)))]), (nat_lit 6, nat_lit 1, [(nat_lit 2, (.ofNat (nat_lit 0))), (nat_lit 0, (.ofNat (nat_lit 0)))]), (nat_lit 8, nat_lit 4, [(nat_lit 0, (.ofNat (nat_lit 12)))]), (nat_lit 6, nat_lit 0, [(nat_lit 1, (.ofNat (nat_lit 0))), (nat_lit 0, (.ofNat (nat_lit 0)))]), (nat_lit 8, nat_lit 0, [(nat_lit 0, (.ofNat (nat_lit 40)))])],
  [(nat_lit 7, nat_lit 3, []), (nat_lit 6, nat_lit 3, [(nat_lit 4, (.ofNat (nat_lit 0))), (nat_lit 0, (.ofNat (nat_lit 0)))]), (nat_lit 6, nat_lit 2, [(nat_lit 4, (.ofNat (nat_lit 0))), (nat_lit 0, (.ofNat (nat_lit 0)))]), (nat_lit 6, nat_lit 1, [(nat_lit 7, (.ofNat (nat_lit 0))), (nat_lit 0, (.ofNat (nat_lit 0)))]), (nat_lit 8, nat_lit 5, []), (nat_lit 6, nat_lit 5, [(nat_lit 6, (.ofNat (nat_lit 0))), (nat_lit 0, (.ofNat (nat_lit 9999)))]), (nat_lit 4, nat_lit 0, [(nat_lit 0, (.ofNat (nat_lit 0))), (nat_lit 0, (.ofNat (nat_lit 9)))]), (nat_lit 6, nat_lit 2, [(nat_lit 4, (.ofNat (nat_lit 0))), (nat_lit 0, (.ofNat (nat_lit 0)))]), (nat_lit 6, nat_lit 0, [(nat_lit 5, (.ofNat (nat_lit 0))), (nat_lit 0, (.ofNat (nat_lit 3)))]), (nat_lit 4, nat_lit 0, [(nat_lit 0, (.ofNat (nat_lit 0))), (nat_lit 0, (.ofNat (nat_lit 8)))]), (nat_lit 6, nat_lit 2, [(nat_lit 4, (.ofNat (nat_lit 0))), (nat_lit 0, (.ofNat (nat_lit 0)))]), (nat_lit 8, nat_lit 7, []), (nat_lit 6, nat_lit 0, [(nat_lit 3, (.ofNat (nat_lit 0))), (nat_lit 0, (.ofNat (nat_lit 0)))]), (nat_lit 4, nat_lit 1, [(nat_lit 0, (.ofNat (nat_lit 0))), (nat_lit 0, (.ofNat (nat_lit 46)))]), (nat_lit 6, nat_lit 1, [(nat_lit 2, (.ofNat (nat_lit 0))), (nat_lit 0, (.ofNat (nat_lit 0)))]), (nat_lit 8, nat_lit 4, [(nat_lit 0, (.ofNat (nat_lit 12)))]), (nat_lit 6, nat_lit 0, [(nat_lit 1, (.ofNat (nat_lit 0))), (nat_lit 0, (.ofNat (nat_lit 0)))]), (nat_lit 8, nat_lit 0, [(nat_lit 0, (.ofNat (nat_lit 40)))])],
  [(nat_lit 7, nat_lit 3, []), (nat_lit 6, nat_lit 3, [(nat_lit 4, (.ofNat (nat_lit 0))), (nat_lit 0, (.ofNat (nat_lit 0)))]), (nat_lit 6, nat_lit 1, [(nat_lit 7, (.ofNat (nat_lit 0))), (nat_lit 0, (.ofNat (nat_lit 0)))]), (nat_lit 8, nat_lit 5, []), (nat_lit 6, nat_lit 5, [(nat_lit 6, (.ofNat (nat_lit 0))), (nat_lit 0, (.ofNat (nat_lit 9999)))]), (nat_lit 4, nat_lit 0, [(nat_lit 0, (.ofNat (nat_lit 0))), (nat_lit 0, (.ofNat (nat_lit 9)))]), (nat_lit 6, nat_lit 2, [(nat_lit 4, (.ofNat (nat_lit 0))), (nat_lit 0, (.ofNat (nat_lit 0)))]), (nat_lit 6, nat_lit 0, [(nat_lit 5, (.ofNat (nat_lit 0))), (nat_lit 0, (.ofNat (nat_lit 3)))]), (nat_lit 4, nat_lit 0, [(nat_lit 0, (.ofNat (nat_lit 0))), (nat_lit 0, (.ofNat (nat_lit 8)))]), (nat_lit 6, nat_lit 2, [(nat_lit 4, (.ofNat (nat_lit 0))), (nat_lit 0, (.ofNat (nat_lit 0)))]), (nat_lit 8, nat_lit 7, []), (nat_lit 6, nat_lit 0, [(nat_lit 3, (.ofNat (nat_lit 0))), (nat_lit 0, (.ofNat (nat_lit 0)))]), (nat_lit 4, nat_lit 1, [(nat_lit 0, (.ofNat (nat_lit 0))), (nat_lit 0, (.ofNat (nat_lit 46)))]), (nat_lit 6, nat_lit 1, [(nat_lit 2, (.ofNat (nat_lit 0))), (nat_lit 0, (.ofNat (nat_lit 0)))]), (nat_lit 8, nat_lit 4, [(nat_lit 0, (.ofNat (nat_lit 12)))]), (nat_lit 6, nat_lit 0, [(nat_lit 1, (.ofNat (nat_lit 0))), (nat_lit 0, (.ofNat (nat_lit 0)))]), (nat_lit 8, nat_lit 0, [(nat_lit 0, (.ofNat (nat_lit 40)))])],
  [(nat_lit 7, nat_lit 2, [(nat_lit 0, (.ofNat (nat_lit 0)))]), (nat_lit 6, nat_lit 0, [(nat_lit 7, (.ofNat (nat_lit 0))), (nat_lit 0, (.ofNat (nat_lit 0)))]), (nat_lit 8, nat_lit 5, []), (nat_lit 6, nat_lit 5, [(nat_lit 6, (.ofNat (nat_lit 0))), (nat_lit 0, (.ofNat (nat_lit 9999)))]), (nat_lit 4, nat_lit 0, [(nat_lit 0, (.ofNat (nat_lit 0))), (nat_lit 0, (.ofNat (nat_lit 9)))]), (nat_lit 6, nat_lit 2, [(nat_lit 4, (.ofNat (nat_lit 0))), (nat_lit 0, (.ofNat (nat_lit 0)))]), (nat_lit 6, nat_lit 0, [(nat_lit 5, (.ofNat (nat_lit 0))), (nat_lit 0, (.ofNat (nat_lit 3)))]), (nat_lit 4, nat_lit 0, [(nat_lit 0, (.ofNat (nat_lit 0))), (nat_lit 0, (.ofNat (nat_lit 8)))]), (nat_lit 6, nat_lit 2, [(nat_lit 4, (.ofNat (nat_lit 0))), (nat_lit 0, (.ofNat (nat_lit 0)))]), (nat_lit 8, nat_lit 7, []), (nat_lit 6, nat_lit 0, [(nat_lit 3, (.ofNat (nat_lit 0))), (nat_lit 0, (.ofNat (nat_lit 0)))]), (nat_lit 4, nat_lit 1, [(nat_lit 0, (.ofNat (nat_lit 0))), (nat_lit 0, (.ofNat (nat_lit 46)))]), (nat_lit 6, nat_lit 1, [(nat_lit 2, (.ofNat (nat_lit 0))), (nat_lit 0, (.ofNat (nat_lit 0)))]), (nat_lit 8, nat_lit 4, [(nat_lit 0, (.ofNat (nat_lit 12)))]), (nat_lit 6, nat_lit 0, [(nat_lit 1, (.ofNat (nat_lit 0))), (nat_lit 0, (.ofNat (nat_lit 0)))]), (nat_lit 8, nat_lit 0, [(nat_lit 0, (.ofNat (nat_lit 40)))])],
  [(nat_lit 7, nat_lit 2, [(nat_lit 7, (.ofNat (nat_lit 0)))]), (nat_lit 8, nat_lit 1, [(nat_lit 0, (.ofNat (nat_lit 2)))]), (nat_lit 6, nat_lit 4, [(nat_lit 6, (.ofNat (nat_lit 0))), (nat_lit 0, (.ofNat (nat_lit 9999)))]), (nat_lit 4, nat_lit 0, [(nat_lit 0, (.ofNat (nat_lit 0))), (nat_lit 0, (.ofNat (nat_lit 9)))]), (nat_lit 6, nat_lit 2, [(nat_lit 4, (.ofNat (nat_lit 0))), (nat_lit 0, (.ofNat (nat_lit 0)))]), (nat_lit 6, nat_lit 0, [(nat_lit 5, (.ofNat (nat_lit 0))), (nat_lit 0, (.ofNat (nat_lit 3)))]), (nat_lit 4, nat_lit 0, [(nat_lit 0, (.ofNat (nat_lit 0))), (nat_lit 0, (.ofNat (nat_lit 8)))]), (nat_lit 6, nat_lit 2, [(nat_lit 4, (.ofNat (nat_lit 0))), (nat_lit 0, (.ofNat (nat_lit 0)))]), (nat_lit 8, nat_lit 7, []), (nat_lit 6, nat_lit 0, [(nat_lit 3, (.ofNat (nat_lit 0))), (nat_lit 0, (.ofNat (nat_lit 0)))]), (nat_lit 4, nat_lit 1, [(nat_lit 0, (.ofNat (nat_lit 0))), (nat_lit 0, (.ofNat (nat_lit 46)))]), (nat_lit 6, nat_lit 1, [(nat_lit 2, (.ofNat (nat_lit 0))), (nat_lit 0, (.ofNat (nat_lit 0)))]), (nat_lit 8, nat_lit 4, [(nat_lit 0, (.ofNat (nat_lit 12)))]), (nat_lit 6, nat_lit 0, [(nat_lit 1, (.ofNat (nat_lit 0))), (nat_lit 0, (.ofNat (nat_lit 0)))]), (nat_lit 8, nat_lit 0, [(nat_lit 0, (.ofNat (nat_lit 40)))])],
  [(nat_lit 7, nat_lit 2, [(nat_lit 6, (.ofNat (nat_lit 0)))]), (nat_lit 8, nat_lit 1, [(nat_lit 0, (.ofNat (nat_lit 1)))]), (nat_lit 6, nat_lit 1, [(nat_lit 5, (.ofNat (nat_lit 0))), (nat_lit 0, (.ofNat (nat_lit 3)))]), (nat_lit 4, nat_lit 0, [(nat_lit 0, (.ofNat (nat_lit 0))), (nat_lit 0, (.ofNat (nat_lit 8)))]), (nat_lit 6, nat_lit 2, [(nat_lit 4, (.ofNat (nat_lit 0))), (nat_lit 0, (.ofNat (nat_lit 0)))]), (nat_lit 8, nat_lit 7, []), (nat_lit 6, nat_lit 0, [(nat_lit 3, (.ofNat (nat_lit 0))), (nat_lit 0, (.ofNat (nat_lit 0)))]), (nat_lit 4, nat_lit 1, [(nat_lit 0, (.ofNat (nat_lit 0))), (nat_lit 0, (.ofNat (nat_lit 46)))]), (nat_lit 6, nat_lit 1, [(nat_lit 2, (.ofNat (nat_lit 0))), (nat_lit 0, (.ofNat (nat_lit 0)))]), (nat_lit 8, nat_lit 4, [(nat_lit 0, (.ofNat (nat_lit 12)))]), (nat_lit 6, nat_lit 0, [(nat_lit 1, (.ofNat (nat_lit 0))), (nat_lit 0, (.ofNat (nat_lit 0)))]), (nat_lit 8, nat_lit 0, [(nat_lit 0, (.ofNat (nat_lit 40)))])],
  [(nat_lit 7, nat_lit 2, [(nat_lit 0, (.ofNat (nat_lit 1)))]), (nat_lit 8, nat_lit 3, []), (nat_lit 8, nat_lit 6, []), (nat_lit 6, nat_lit 1, [(nat_lit 4, (.ofNat (nat_lit 0))), (nat_lit 0, (.ofNat (nat_lit 0)))]), (nat_lit 8, nat_lit 5, []), (nat_lit 6, nat_lit 1, [(nat_lit 3, (.ofNat (nat_lit 0))), (nat_lit 0, (.ofNat (nat_lit 0)))]), (nat_lit 4, nat_lit 1, [(nat_lit 0, (.ofNat (nat_lit 0))), (nat_lit 0, (.ofNat (nat_lit 46)))]), (nat_lit 6, nat_lit 1, [(nat_lit 2, (.ofNat (nat_lit 0))), (nat_lit 0, (.ofNat (nat_lit 0)))]), (nat_lit 8, nat_lit 4, [(nat_lit 0, (.ofNat (nat_lit 12)))]), (nat_lit 6, nat_lit 0, [(nat_lit 1, (.ofNat (nat_lit 0))), (nat_lit 0, (.ofNat (nat_lit 0)))]), (nat_lit 8, nat_lit 0, [(nat_lit 0, (.ofNat (nat_lit 40)))])],
  [(nat_lit 7, nat_lit 2, [(nat_lit 0, (.ofNat (nat_lit 0)))]), (nat_lit 6, nat_lit 0, [(nat_lit 4, (.ofNat (nat_lit 0))), (nat_lit 0, (.ofNat (nat_lit 0)))]), (nat_lit 8, nat_lit 5, []), (nat_lit 6, nat_lit 1, [(nat_lit 3, (.ofNat (nat_lit 0))), (nat_lit 0, (.ofNat (nat_lit 0)))]), (nat_lit 4, nat_lit 1, [(nat_lit 0, (.ofNat (nat_lit 0))), (nat_lit 0, (.ofNat (nat_lit 46)))]), (nat_lit 6, nat_lit 1, [(nat_lit 2, (.ofNat (nat_lit 0))), (nat_lit 0, (.ofNat (nat_lit 0)))]), (nat_lit 8, nat_lit 4, [(nat_lit 0, (.ofNat (nat_lit 12)))]), (nat_lit 6, nat_lit 0, [(nat_lit 1, (.ofNat (nat_lit 0))), (nat_lit 0, (.ofNat (nat_lit 0)))]), (nat_lit 8, nat_lit 0, [(nat_lit 0, (.ofNat (nat_lit 40)))])],
  [(nat_lit 7, nat_lit 2, [(nat_lit 0, (.ofNat (nat_lit 1)))]), (nat_lit 8, nat_lit 2, []), (nat_lit 5, nat_lit 0, [(nat_lit 0, (.ofNat (nat_lit 0))), (nat_lit 0, (.ofNat (nat_lit 43))), (nat_lit 4, (.ofNat (nat_lit 0)))]), (nat_lit 0, nat_lit 1, [(nat_lit 3, (.ofNat (nat_lit 0))), (nat_lit 0, (.ofNat (nat_lit 1)))]), (nat_lit 4, nat_lit 0, [(nat_lit 0, (.ofNat (nat_lit 0))), (nat_lit 0, (.ofNat (nat_lit 43)))]), (nat_lit 6, nat_lit 1, [(nat_lit 2, (.ofNat (nat_lit 0))), (nat_lit 0, (.ofNat (nat_lit 8)))]), (nat_lit 4, nat_lit 0, [(nat_lit 0, (.ofNat (nat_lit 0))), (nat_lit 0, (.ofNat (nat_lit 43)))]), (nat_lit 6, nat_lit 1, [(nat_lit 1, (.ofNat (nat_lit 0))), (nat_lit 0, (.ofNat (nat_lit 0)))]), (nat_lit 8, nat_lit 0, [(nat_lit 0, (.ofNat (nat_lit 40)))])],
  [(nat_lit 7, nat_lit 2, [(nat_lit 0, (.ofNat (nat_lit 1)))]), (nat_lit 8, nat_lit 3, []), (nat_lit 5, nat_lit 1, [(nat_lit 0, (.ofNat (nat_lit 0))), (nat_lit 0, (.ofNat (nat_lit 46))), (nat_lit 0, (.ofNat (nat_lit 1)))]), (nat_lit 8, nat_lit 2, []), (nat_lit 5, nat_lit 0, [(nat_lit 0, (.ofNat (nat_lit 0))), (nat_lit 0, (.ofNat (nat_lit 43))), (nat_lit 4, (.ofNat (nat_lit 0)))]), (nat_lit 0, nat_lit 1, [(nat_lit 3, (.ofNat (nat_lit 0))), (nat_lit 0, (.ofNat (nat_lit 1)))]), (nat_lit 4, nat_lit 0, [(nat_lit 0, (.ofNat (nat_lit 0))), (nat_lit 0, (.ofNat (nat_lit 43)))]), (nat_lit 6, nat_lit 1, [(nat_lit 2, (.ofNat (nat_lit 0))), (nat_lit 0, (.ofNat (nat_lit 8)))]), (nat_lit 4, nat_lit 0, [(nat_lit 0, (.ofNat (nat_lit 0))), (nat_lit 0, (.ofNat (nat_lit 43)))]), (nat_lit 6, nat_lit 1, [(nat_lit 1, (.ofNat (nat_lit 0))), (nat_lit 0, (.ofNat (nat_lit 0)))]), (nat_lit 8, nat_lit 0, [(nat_lit 0, (.ofNat (nat_lit 40)))])],
  [(nat_lit 7, nat_lit 2, [(nat_lit 3, (.ofNat (nat_lit 0)))]), (nat_lit 8, nat_lit 1, [(nat_lit 0, (.ofNat (nat_lit 2)))]), (nat_lit 6, nat_lit 0, [(nat_lit 2, (.ofNat (nat_lit 0))), (nat_lit 0, (.ofNat (nat_lit 8)))]), (nat_lit 4, nat_lit 0, [(nat_lit 0, (.ofNat (nat_lit 0))), (nat_lit 0, (.ofNat (nat_lit 43)))]), (nat_lit 6, nat_lit 1, [(nat_lit 1, (.ofNat (nat_lit 0))), (nat_lit 0, (.ofNat (nat_lit 0)))]), (nat_lit 8, nat_lit 0, [(nat_lit 0, (.ofNat (nat_lit 40)))])]]
def zEle_leafRead : List (List zK) := [[(nat_lit 13, nat_lit 0, [(nat_lit 0, (.ofNat (nat_lit 40)))])],
  [(nat_lit 13, nat_lit 4, [(nat_lit 0, (.ofNat (nat_lit 12)))]), (nat_lit 6, nat_lit 0, [(nat_lit 1, (.ofNat (nat_lit 0))), (nat_lit 0, (.ofNat (nat_lit 0)))]), (nat_lit 8, nat_lit 0, [(nat_lit 0, (.ofNat (nat_lit 40)))])],
  [(nat_lit 13, nat_lit 7, []), (nat_lit 6, nat_lit 0, [(nat_lit 2, (.ofNat (nat_lit 0))), (nat_lit 0, (.ofNat (nat_lit 0)))]), (nat_lit 8, nat_lit 4, [(nat_lit 0, (.ofNat (nat_lit 12)))]), (nat_lit 6, nat_lit 0, [(nat_lit 1, (.ofNat (nat_lit 0))), (nat_lit 0, (.ofNat (nat_lit 0)))]), (nat_lit 8, nat_lit 0, [(nat_lit 0, (.ofNat (nat_lit 40)))])],
  [(nat_lit 13, nat_lit 5, []), (nat_lit 6, nat_lit 3, [(nat_lit 3, (.ofNat (nat_lit 0))), (nat_lit 0, (.ofNat (nat_lit 0)))]), (nat_lit 6, nat_lit 3, [(nat_lit 3, (.ofNat (nat_lit 0))), (nat_lit 0, (.ofNat (nat_lit 0)))]), (nat_lit 8, nat_lit 7, []), (nat_lit 6, nat_lit 0, [(nat_lit 2, (.ofNat (nat_lit 0))), (nat_lit 0, (.ofNat (nat_lit 0)))]), (nat_lit 8, nat_lit 4, [(nat_lit 0, (.ofNat (nat_lit 12)))]), (nat_lit 6, nat_lit 0, [(nat_lit 1, (.ofNat (nat_lit 0))), (nat_lit 0, (.ofNat (nat_lit 0)))]), (nat_lit 8, nat_lit 0, [(nat_lit 0, (.ofNat (nat_lit 40)))])],
  [(nat_lit 13, nat_lit 8, [(nat_lit 0, (.ofNat (nat_lit 1))), (nat_lit 3, (.ofNat (nat_lit 0))), (nat_lit 0, (.ofNat (nat_lit 0)))]), (nat_lit 6, nat_lit 3, [(nat_lit 3, (.ofNat (nat_lit 0))), (nat_lit 0, (.ofNat (nat_lit 0)))]), (nat_lit 6, nat_lit 3, [(nat_lit 3, (.ofNat (nat_lit 0))), (nat_lit 0, (.ofNat (nat_lit 0)))]), (nat_lit 6, nat_lit 1, [(nat_lit 4, (.ofNat (nat_lit 0))), (nat_lit 0, (.ofNat (nat_lit 0)))]), (nat_lit 8, nat_lit 5, []), (nat_lit 6, nat_lit 3, [(nat_lit 3, (.ofNat (nat_lit 0))), (nat_lit 0, (.ofNat (nat_lit 0)))]), (nat_lit 6, nat_lit 3, [(nat_lit 3, (.ofNat (nat_lit 0))), (nat_lit 0, (.ofNat (nat_lit 0)))]), (nat_lit 8, nat_lit 7, []), (nat_lit 6, nat_lit 0, [(nat_lit 2, (.ofNat (nat_lit 0))), (nat_lit 0, (.ofNat (nat_lit 0)))]), (nat_lit 8, nat_lit 4, [(nat_lit 0, (.ofNat (nat_lit 12)))]), (nat_lit 6, nat_lit 0, [(nat_lit 1, (.ofNat (nat_lit 0))), (nat_lit 0, (.ofNat (nat_lit 0)))]), (nat_lit 8, nat_lit 0, [(nat_lit 0, (.ofNat (nat_lit 40)))])],
  [(nat_lit 13, nat_lit 3, []), (nat_lit 5, nat_lit 1, [(nat_lit 0, (.ofNat (nat_lit 0))), (nat_lit 0, (.ofNat (nat_lit 45))), (nat_lit 0, (.ofNat (nat_lit 0)))]), (nat_lit 8, nat_lit 8, [(nat_lit 0, (.ofNat (nat_lit 1))), (nat_lit 3, (.ofNat (nat_lit 0))), (nat_lit 0, (.ofNat (nat_lit 0)))]), (nat_lit 6, nat_lit 3, [(nat_lit 3, (.ofNat (nat_lit 0))), (nat_lit 0, (.ofNat (nat_lit 0)))]), (nat_lit 6, nat_lit 3, [(nat_lit 3, (.ofNat (nat_lit 0))), (nat_lit 0, (.ofNat (nat_lit 0)))]), (nat_lit 6, nat_lit 1, [(nat_lit 4, (.ofNat (nat_lit 0))), (nat_lit 0, (.ofNat (nat_lit 0)))]), (nat_lit 8, nat_lit 5, []), (nat_lit 6, nat_lit 3, [(nat_lit 3, (.ofNat (nat_lit 0))), (nat_lit 0, (.ofNat (nat_lit 0)))]), (nat_lit 6, nat_lit 3, [(nat_lit 3, (.ofNat (nat_lit 0))), (nat_lit 0, (.ofNat (nat_lit 0)))]), (nat_lit 8, nat_lit 7, []), (nat_lit 6, nat_lit 0, [(nat_lit 2, (.ofNat (nat_lit 0))), (nat_lit 0, (.ofNat (nat_lit 0)))]), (nat_lit 8, nat_lit 4, [(nat_lit 0, (.ofNat (nat_lit 12)))]), (nat_lit 6, nat_lit 0, [(nat_lit 1, (.ofNat (nat_lit 0))), (nat_lit 0, (.ofNat (nat_lit 0)))]), (nat_lit 8, nat_lit 0, [(nat_lit 0, (.ofNat (nat_lit 40)))])],
  [(nat_lit 11, nat_lit 0, [(nat_lit 0, (.ofNat (nat_lit 1)))]), (nat_lit 8, nat_lit 3, []), (nat_lit 5, nat_lit 1, [(nat_lit 0, (.ofNat (nat_lit 0))), (nat_lit 0, (.ofNat (nat_lit 45))), (nat_lit 0, (.ofNat (nat_lit 0)))]), (nat_lit 8, nat_lit 8, [(nat_lit 0, (.ofNat (nat_lit 1))), (nat_lit 3, (.ofNat (nat_lit 0))), (nat_lit 0, (.ofNat (nat_lit 0)))]), (nat_lit 6, nat_lit 3, [(nat_lit 3, (.ofNat (nat_lit 0))), (nat_lit 0, (.ofNat (nat_lit 0)))]), (nat_lit 6, nat_lit 3, [(nat_lit 3, (.ofNat (nat_lit 0))), (nat_lit 0, (.ofNat (nat_lit 0)))]), (nat_lit 6, nat_lit 1, [(nat_lit 4, (.ofNat (nat_lit 0))), (nat_lit 0, (.ofNat (nat_lit 0)))]), (nat_lit 8, nat_lit 5, []), (nat_lit 6, nat_lit 3, [(nat_lit 3, (.ofNat (nat_lit 0))), (nat_lit 0, (.ofNat (nat_lit 0)))]), (nat_lit 6, nat_lit 3, [(nat_lit 3, (.ofNat (nat_lit 0))), (nat_lit 0, (.ofNat (nat_lit 0)))]), (nat_lit 8, nat_lit 7, []), (nat_lit 6, nat_lit 0, [(nat_lit 2, (.ofNat (nat_lit 0))), (nat_lit 0, (.ofNat (nat_lit 0)))]), (nat_lit 8, nat_lit 4, [(nat_lit 0, (.ofNat (nat_lit 12)))]), (nat_lit 6, nat_lit 0, [(nat_lit 1, (.ofNat (nat_lit 0))), (nat_lit 0, (.ofNat (nat_lit 0)))]), (nat_lit 8, nat_lit 0, [(nat_lit 0, (.ofNat (nat_lit 40)))])],
  [(nat_lit 11, nat_lit 0, [(nat_lit 0, (.ofNat (nat_lit 0)))]), (nat_lit 6, nat_lit 0, [(nat_lit 4, (.ofNat (nat_lit 0))), (nat_lit 0, (.ofNat (nat_lit 0)))]), (nat_lit 8, nat_lit 5, []), (nat_lit 6, nat_lit 3, [(nat_lit 3, (.ofNat (nat_lit 0))), (nat_lit 0, (.ofNat (nat_lit 0)))]), (nat_lit 6, nat_lit 3, [(nat_lit 3, (.ofNat (nat_lit 0))), (nat_lit 0, (.ofNat (nat_lit 0)))]), (nat_lit 8, nat_lit 7, []), (nat_lit 6, nat_lit 0, [(nat_lit 2, (.ofNat (nat_lit 0))), (nat_lit 0, (.ofNat (nat_lit 0)))]), (nat_lit 8, nat_lit 4, [(nat_lit 0, (.ofNat (nat_lit 12)))]), (nat_lit 6, nat_lit 0, [(nat_lit 1, (.ofNat (nat_lit 0))), (nat_lit 0, (.ofNat (nat_lit 0)))]), (nat_lit 8, nat_lit 0, [(nat_lit 0, (.ofNat (nat_lit 40)))])],
  [(nat_lit 13, nat_lit 5, []), (nat_lit 6, nat_lit 5, [(nat_lit 5, (.ofNat (nat_lit 0))), (nat_lit 0, (.ofNat (nat_lit 9999)))]), (nat_lit 4, nat_lit 0, [(nat_lit 0, (.ofNat (nat_lit 0))), (nat_lit 0, (.ofNat (nat_lit 9)))]), (nat_lit 6, nat_lit 2, [(nat_lit 3, (.ofNat (nat_lit 0))), (nat_lit 0, (.ofNat (nat_lit 0)))]), (nat_lit 6, nat_lit 0, [(nat_lit 4, (.ofNat (nat_lit 0))), (nat_lit 0, (.ofNat (nat_lit 3)))]), (nat_lit 4, nat_lit 0, [(nat_lit 0, (.ofNat (nat_lit 0))), (nat_lit 0, (.ofNat (nat_lit 8)))]), (nat_lit 6, nat_lit 2, [(nat_lit 3, (.ofNat (nat_lit 0))), (nat_lit 0, (.ofNat (nat_lit 0)))]), (nat_lit 8, nat_lit 7, []), (nat_lit 6, nat_lit 0, [(nat_lit 2, (.ofNat (nat_lit 0))), (nat_lit 0, (.ofNat (nat_lit 0)))]), (nat_lit 8, nat_lit 4, [(nat_lit 0, (.ofNat (nat_lit 12)))]), (nat_lit 6, nat_lit 0, [(nat_lit 1, (.ofNat (nat_lit 0))), (nat_lit 0, (.ofNat (nat_lit 0)))]), (nat_lit 8, nat_lit 0, [(nat_lit 0, (.ofNat (nat_lit 40)))])],
  [(nat_lit 13, nat_lit 8, [(nat_lit 0, (.ofNat (nat_lit 0))), (nat_lit 7, (.ofNat (nat_lit 0))), (nat_lit 0, (.ofNat (nat_lit 0)))]), (nat_lit 4, nat_lit 0, [(nat_lit 0, (.ofNat (nat_lit 0))), (nat_lit 0, (.ofNat (nat_lit 9)))]), (nat_lit 6, nat_lit 2, [(nat_lit 3, (.ofNat (nat_lit 0))), (nat_lit 0, (.ofNat (nat_lit 0)))]), (nat_lit 6, nat_lit 2, [(nat_lit 3, (.ofNat (nat_lit 0))), (nat_lit 0, (.ofNat (nat_lit 0)))]), (nat_lit 6, nat_lit 1, [(nat_lit 6, (.ofNat (nat_lit 0))), (nat_lit 0, (.ofNat (nat_lit 0)))]), (nat_lit 8, nat_lit 5, []), (nat_lit 6, nat_lit 5, [(nat_lit 5, (.ofNat (nat_lit 0))), (nat_lit 0, (.ofNat (nat_lit 9999)))]), (nat_lit 4, nat_lit 0, [(nat_lit 0, (.ofNat (nat_lit 0))), (nat_lit 0, (.ofNat (nat_lit 9)))]), (nat_lit 6, nat_lit 2, [(nat_lit 3, (.ofNat (nat_lit 0))), (nat_lit 0, (.ofNat (nat_lit 0)))]), (nat_lit 6, nat_lit 0, [(nat_lit 4, (.ofNat (nat_lit 0))), (nat_lit 0, (.ofNat (nat_lit 3)))]), (nat_lit 4, nat_lit 0, [(nat_lit 0, (.ofNat (nat_lit 0))), (nat_lit 0, (.ofNat (nat_lit 8)))]), (nat_lit 6, nat_lit 2, [(nat_lit 3, (.ofNat (nat_lit 0))), (nat_lit 0, (.ofNat (nat_lit 0)))]), (nat_lit 8, nat_lit 7, []), (nat_lit 6, nat_lit 0, [(nat_lit 2, (.ofNat (nat_lit 0))), (nat_lit 0, (.ofNat (nat_lit 0)))]), (nat_lit 8, nat_lit 4, [(nat_lit 0, (.ofNat (nat_lit 12)))]), (nat_lit 6, nat_lit 0, [(nat_lit 1, (.ofNat (nat_lit 0))), (nat_lit 0, (.ofNat (nat_lit 0)))]), (nat_lit 8, nat_lit 0, [(nat_lit 0, (.ofNat (nat_lit 40)))])],
  [(nat_lit 13, nat_lit 3, []), (nat_lit 5, nat_lit 1, [(nat_lit 0, (.ofNat (nat_lit 0))), (nat_lit 0, (.ofNat (nat_lit 45))), (nat_lit 0, (.ofNat (nat_lit 0)))]), (nat_lit 8, nat_lit 8, [(nat_lit 0, (.ofNat (nat_lit 0))), (nat_lit 7, (.ofNat (nat_lit 0))), (nat_lit 0, (.ofNat (nat_lit 0)))]), (nat_lit 4, nat_lit 0, [(nat_lit 0, (.ofNat (nat_lit 0))), (nat_lit 0, (.ofNat (nat_lit 9)))]), (nat_lit 6, nat_lit 2, [(nat_lit 3, (.ofNat (nat_lit 0))), (nat_lit 0, (.ofNat (nat_lit 0)))]), (nat_lit 6, nat_lit 2, [(nat_lit 3, (.ofNat (nat_lit 0))), (nat_lit 0, (.ofNat (nat_lit 0)))]), (nat_lit 6, nat_lit 1, [(nat_lit 6, (.ofNat (nat_lit 0))), (nat_lit 0, (.ofNat (nat_lit 0)))]), (nat_lit 8, nat_lit 5, []), (nat_lit 6, nat_lit 5, [(nat_lit 5, (.ofNat (nat_lit 0))), (nat_lit 0, (.ofNat (nat_lit 9999)))]), (nat_lit 4, nat_lit 0, [(nat_lit 0, (.ofNat (nat_lit 0))), (nat_lit 0, (.ofNat (nat_lit 9)))]), (nat_lit 6, nat_lit 2, [(nat_lit 3, (.ofNat (nat_lit 0))), (nat_lit 0, (.ofNat (nat_lit 0)))]), (nat_lit 6, nat_lit 0, [(nat_lit 4, (.ofNat (nat_lit 0))), (nat_lit 0, (.ofNat (nat_lit 3)))]), (nat_lit 4, nat_lit 0, [(nat_lit 0, (.ofNat (nat_lit 0))), (nat_lit 0, (.ofNat (nat_lit 8)))]), (nat_lit 6, nat_lit 2, [(nat_lit 3, (.ofNat (nat_lit 0))), (nat_lit 0, (.ofNat (nat_lit 0)))]), (nat_lit 8, nat_lit 7, []), (nat_lit 6, nat_lit 0, [(nat_lit 2, (.ofNat (nat_lit 0))), (nat_lit 0, (.ofNat (nat_lit 0)))]), (nat_lit 8, nat_lit 4, [(nat_lit 0, (.ofNat (nat_lit 12)))]), (nat_lit 6, nat_lit 0, [(nat_lit 1, (.ofNat (nat_lit 0))), (nat_lit 0, (.ofNat (nat_lit 0)))]), (nat_lit 8, nat_lit 0, [(nat_lit 0, (.ofNat (nat_lit 40)))])],
  [(nat_lit 11, nat_lit 0, [(nat_lit 0, (.ofNat (nat_lit 1)))]), (nat_lit 8, nat_lit 3, []), (nat_lit 5, nat_lit 1, [(nat_lit 0, (.ofNat (nat_lit 0))), (nat_lit 0, (.ofNat (nat_lit 45))), (nat_lit 0, (.ofNat (nat_lit 0)))]), (nat_lit 8, nat_lit 8, [(nat_lit 0, (.ofNat (nat_lit 0))), (nat_lit 7, (.ofNat (nat_lit 0))), (nat_lit 0, (.ofNat (nat_lit 0)))]), (nat_lit 4, nat_lit 0, [(nat_lit 0, (.ofNat (nat_lit 0))), (nat_lit 0, (.ofNat (nat_lit 9)))]), (nat_lit 6, nat_lit 2, [(nat_lit 3, (.ofNat (nat_lit 0))), (nat_lit 0, (.ofNat (nat_lit 0)))]), (nat_lit 6, nat_lit 2, [(nat_lit 3, (.ofNat (nat_lit 0))), (nat_lit 0, (.ofNat (nat_lit 0)))]), (nat_lit 6, nat_lit 1, [(nat_lit 6, (.ofNat (nat_lit 0))), (nat_lit 0, (.ofNat (nat_lit 0)))]), (nat_lit 8, nat_lit 5, []), (nat_lit 6, nat_lit 5, [(nat_lit 5, (.ofNat (nat_lit 0))), (nat_lit 0, (.ofNat (nat_lit 9999)))]), (nat_lit 4, nat_lit 0, [(nat_lit 0, (.ofNat (nat_lit 0))), (nat_lit 0, (.ofNat (nat_lit 9)))]), (nat_lit 6, nat_lit 2, [(nat_lit 3, (.ofNat (nat_lit 0))), (nat_lit 0, (.ofNat (nat_lit 0)))]), (nat_lit 6, nat_lit 0, [(nat_lit 4, (.ofNat (nat_lit 0))), (nat_lit 0, (.ofNat (nat_lit 3)))]), (nat_lit 4, nat_lit 0, [(nat_lit 0, (.ofNat (nat_lit 0))), (nat_lit 0, (.ofNat (nat_lit 8)))]), (nat_lit 6, nat_lit 2, [(nat_lit 3, (.ofNat (nat_lit 0))), (nat_lit 0, (.ofNat (nat_lit 0)))]), (nat_lit 8, nat_lit 7, []), (nat_lit 6, nat_lit 0, [(nat_lit 2, (.ofNat (nat_lit 0))), (nat_lit 0, (.ofNat (nat_lit 0)))]), (nat_lit 8, nat_lit 4, [(nat_lit 0, (.ofNat (nat_lit 12)))]), (nat_lit 6, nat_lit 0, [(nat_lit 1, (.ofNat (nat_lit 0))), (nat_lit 0, (.ofNat (nat_lit 0)))]), (nat_lit 8, nat_lit 0, [(nat_lit 0, (.ofNat (nat_lit 40)))])],
  [(nat_lit 11, nat_lit 0, [(nat_lit 0, (.ofNat (nat_lit 0)))]), (nat_lit 6, nat_lit 0, [(nat_lit 6, (.ofNat (nat_lit 0))), (nat_lit 0, (.ofNat (nat_lit 0)))]), (nat_lit 8, nat_lit 5, []), (nat_lit 6, nat_lit 5, [(nat_lit 5, (.ofNat (nat_lit 0))), (nat_lit 0, (.ofNat (nat_lit 9999)))]), (nat_lit 4, nat_lit 0, [(nat_lit 0, (.ofNat (nat_lit 0))), (nat_lit 0, (.ofNat (nat_lit 9)))]), (nat_lit 6, nat_lit 2, [(nat_lit 3, (.ofNat (nat_lit 0))), (nat_lit 0, (.ofNat (nat_lit 0)))]), (nat_lit 6, nat_lit 0, [(nat_lit 4, (.ofNat (nat_lit 0))), (nat_lit 0, (.ofNat (nat_lit 3)))]), (nat_lit 4, nat_lit 0, [(nat_lit 0, (.ofNat (nat_lit 0))), (nat_lit 0, (.ofNat (nat_lit 8)))]), (nat_lit 6, nat_lit 2, [(nat_lit 3, (.ofNat (nat_lit 0))), (nat_lit 0, (.ofNat (nat_lit 0)))]), (nat_lit 8, nat_lit 7, []), (nat_lit 6, nat_lit 0, [(nat_lit 2, (.ofNat (nat_lit 0))), (nat_lit 0, (.ofNat (nat_lit 0)))]), (nat_lit 8, nat_lit 4, [(nat_lit 0, (.ofNat (nat_lit 12)))]), (nat_lit 6, nat_lit 0, [(nat_lit 1, (.ofNat (nat_lit 0))), (nat_lit 0, (.ofNat (nat_lit 0)))]), (nat_lit 8, nat_lit 0, [(nat_lit 0, (.ofNat (nat_lit 40)))])],
  [(nat_lit 13, nat_lit 1, [(nat_lit 0, (.ofNat (nat_lit 2)))]), (nat_lit 6, nat_lit 4, [(nat_lit 5, (.ofNat (nat_lit 0))), (nat_lit 0, (.ofNat (nat_lit 9999)))]), (nat_lit 4, nat_lit 0, [(nat_lit 0, (.ofNat (nat_lit 0))), (nat_lit 0, (.ofNat (nat_lit 9)))]), (nat_lit 6, nat_lit 2, [(nat_lit 3, (.ofNat (nat_lit 0))), (nat_lit 0, (.ofNat (nat_lit 0)))]), (nat_lit 6, nat_lit 0, [(nat_lit 4, (.ofNat (nat_lit 0))), (nat_lit 0, (.ofNat (nat_lit 3)))]), (nat_lit 4, nat_lit 0, [(nat_lit 0, (.ofNat (nat_lit 0))), (nat_lit 0, (.ofNat (nat_lit 8)))]), (nat_lit 6, nat_lit 2, [(nat_lit 3, (.ofNat (nat_lit 0))), (nat_lit 0, (.ofNat (nat_lit 0)))]), (nat_lit 8, nat_lit 7, []), (nat_lit 6, nat_lit 0, [(nat_lit 2, (.ofNat (nat_lit 0))), (nat_lit 0, (.ofNat (nat_lit 0)))]), (nat_lit 8, nat_lit 4, [(nat_lit 0, (.ofNat (nat_lit 12)))]), (nat_lit 6, nat_lit 0, [(nat_lit 1, (.ofNat (nat_lit 0))), (nat_lit 0, (.ofNat (nat_lit 0)))]), (nat_lit 8, nat_lit 0, [(nat_lit 0, (.ofNat (nat_lit 40)))])],
  [(nat_lit 11, nat_lit 0, [(nat_lit 6, (.ofNat (nat_lit 0)))]), (nat_lit 8, nat_lit 1, [(nat_lit 0, (.ofNat (nat_lit 2)))]), (nat_lit 6, nat_lit 4, [(nat_lit 5, (.ofNat (nat_lit 0))), (nat_lit 0, (.ofNat (nat_lit 9999)))]), (nat_lit 4, nat_lit 0, [(nat_lit 0, (.ofNat (nat_lit 0))), (nat_lit 0, (.ofNat (nat_lit 9)))]), (nat_lit 6, nat_lit 2, [(nat_lit 3, (.ofNat (nat_lit 0))), (nat_lit 0, (.ofNat (nat_lit 0)))]), (nat_lit 6, nat_lit 0, [(nat_lit 4, (.ofNat (nat_lit 0))), (nat_lit 0, (.ofNat (nat_lit 3)))]), (nat_lit 4, nat_lit 0, [(nat_lit 0, (.ofNat (nat_lit 0))), (nat_lit 0, (.ofNat (nat_lit 8)))]), (nat_lit 6, nat_lit 2, [(nat_lit 3, (.ofNat (nat_lit 0))), (nat_lit 0, (.ofNat (nat_lit 0)))]), (nat_lit 8, nat_lit 7, []), (nat_lit 6, nat_lit 0, [(nat_lit 2, (.ofNat (nat_lit 0))), (nat_lit 0, (.ofNat (nat_lit 0)))]), (nat_lit 8, nat_lit 4, [(nat_lit 0, (.ofNat (nat_lit 12)))]), (nat_lit 6, nat_lit 0, [(nat_lit 1, (.ofNat (nat_lit 0))), (nat_lit 0, (.ofNat (nat_lit 0)))]), (nat_lit 8, nat_lit 0, [(nat_lit 0, (.ofNat (nat_lit 40)))])],
  [(nat_lit 13, nat_lit 1, [(nat_lit 0, (.ofNat (nat_lit 1)))]), (nat_lit 6, nat_lit 1, [(nat_lit 4, (.ofNat (nat_lit 0))), (nat_lit 0, (.ofNat (nat_lit 3)))]), (nat_lit 4, nat_lit 0, [(nat_lit 0, (.ofNat (nat_lit 0))), (nat_lit 0, (.ofNat (nat_lit 8)))]), (nat_lit 6, nat_lit 2, [(nat_lit 3, (.ofNat (nat_lit 0))), (nat_lit 0, (.ofNat (nat_lit 0)))]), (nat_lit 8, nat_lit 7, []), (nat_lit 6, nat_lit 0, [(nat_lit 2, (.ofNat (nat_lit 0))), (nat_lit 0, (.ofNat (nat_lit 0)))]), (nat_lit 8, nat_lit 4, [(nat_lit 0, (.ofNat (nat_lit 12)))]), (nat_lit 6, nat_lit 0, [(nat_lit 1, (.ofNat (nat_lit 0))), (nat_lit 0, (.ofNat (nat_lit 0)))]), (nat_lit 8, nat_lit 0, [(nat_lit 0, (.ofNat (nat_lit 40)))])],
  [(nat_lit 11, nat_lit 0, [(nat_lit 5, (.ofNat (nat_lit 0)))]), (nat_lit 8, nat_lit 1, [(nat_lit 0, (.ofNat (nat_lit 1)))]), (nat_lit 6, nat_lit 1, [(nat_lit 4, (.ofNat (nat_lit 0))), (nat_lit 0, (.ofNat (nat_lit 3)))]), (nat_lit 4, nat_lit 0, [(nat_lit 0, (.ofNat (nat_lit 0))), (nat_lit 0, (.ofNat (nat_lit 8)))]), (nat_lit 6, nat_lit 2, [(nat_lit 3, (.ofNat (nat_lit 0))), (nat_lit 0, (.ofNat (nat_lit 0)))]), (nat_lit 8, nat_lit 7, []), (nat_lit 6, nat_lit 0, [(nat_lit 2, (.ofNat (nat_lit 0))), (nat_lit 0, (.ofNat (nat_lit 0)))]), (nat_lit 8, nat_lit 4, [(nat_lit 0, (.ofNat (nat_lit 12)))]), (nat_lit 6, nat_lit 0, [(nat_lit 1, (.ofNat (nat_lit 0))), (nat_lit 0, (.ofNat (nat_lit 0)))]), (nat_lit 8, nat_lit 0, [(nat_lit 0, (.ofNat (nat_lit 40)))])],
  [(nat_lit 13, nat_lit 7, []), (nat_lit 6, nat_lit 0, [(nat_lit 3, (.ofNat (nat_lit 0))), (nat_lit 0, (.ofNat (nat_lit 0)))]), (nat_lit 4, nat_lit 1, [(nat_lit 0, (.ofNat (nat_lit 0))), (nat_lit 0, (.ofNat (nat_lit 46)))]), (nat_lit 6, nat_lit 1, [(nat_lit 2, (.ofNat (nat_lit 0))), (nat_lit 0, (.ofNat (nat_lit 0)))]), (nat_lit 8, nat_lit 4, [(nat_lit 0, (.ofNat (nat_lit 12)))]), (nat_lit 6, nat_lit 0, [(nat_lit 1, (.ofNat (nat_lit 0))), (nat_lit 0, (.ofNat (nat_lit 0)))]), (nat_lit 8, nat_lit 0, [(nat_lit 0, (.ofNat (nat_lit 40)))])],
  [(nat_lit 13, nat_lit 5, []), (nat_lit 6, nat_lit 3, [(nat_lit 4, (.ofNat (nat_lit 0))), (nat_lit 0, (.ofNat (nat_lit 0)))]), (nat_lit 6, nat_lit 3, [(nat_lit 4, (.ofNat (nat_lit 0))), (nat_lit 0, (.ofNat (nat_lit 0)))]), (nat_lit 8, nat_lit 7, []), (nat_lit 6, nat_lit 0, [(nat_lit 3, (.ofNat (nat_lit 0))), (nat_lit 0, (.ofNat (nat_lit 0)))]), (nat_lit 4, nat_lit 1, [(nat_lit 0, (.ofNat (nat_lit 0))), (nat_lit 0, (.ofNat (nat_lit 46)))]), (nat_lit 6, nat_lit 1, [(nat_lit 2, (.ofNat (nat_lit 0))), (nat_lit 0, (.ofNat (nat_lit 0)))]), (nat_lit 8, nat_lit 4, [(nat_lit 0, (.ofNat (nat_lit 12)))]), (nat_lit 6, nat_lit 0, [(nat_lit 1, (.ofNat (nat_lit 0))), (nat_lit 0, (.ofNat (nat_lit 0)))]), (nat_lit 8, nat_lit 0, [(nat_lit 0, (.ofNat (nat_lit 40)))])],
  [(nat_lit 13, nat_lit 8, [(nat_lit 0, (.ofNat (nat_lit 1))), (nat_lit 4, (.ofNat (nat_lit 0))), (nat_lit 0, (.ofNat (nat_lit 0)))]), (nat_lit 6, nat_lit 3, [(nat_lit 4, (.ofNat (nat_lit 0))), (nat_lit 0, (.ofNat (nat_lit 0)))]), (nat_lit 6, nat_lit 3, [(nat_lit 4, (.ofNat (nat_lit 0))), (nat_lit 0, (.ofNat (nat_lit 0)))]), (nat_lit 6, nat_lit 1, [(nat_lit 5, (.ofNat (nat_lit 0))), (nat_lit 0, (.ofNat (nat_lit 0)))]), (nat_lit 8, nat_lit 5, []), (nat_lit 6, nat_lit 3, [(nat_lit 4, (.ofNat (nat_lit 0))), (nat_lit 0, (.ofNat (nat_lit 0)))]), (nat_lit 6, nat_lit 3, [(nat_lit 4, (.ofNat (nat_lit 0))), (nat_lit 0, (.ofNat (nat_lit 0)))]), (nat_lit 8, nat_lit 7, []), (nat_lit 6, nat_lit 0, [(nat_lit 3, (.ofNat (nat_lit 0))), (nat_lit 0, (.ofNat (nat_lit 0)))]), (nat_lit 4, nat_lit 1, [(nat_lit 0, (.ofNat (nat_lit 0))), (nat_lit 0, (.ofNat (nat_lit 46)))]), (nat_lit 6, nat_lit 1, [(nat_lit 2, (.ofNat (nat_lit 0))), (nat_lit 0, (.ofNat (nat_lit 0)))]), (nat_lit 8, nat_lit 4, [(nat_lit 0, (.ofNat (nat_lit 12)))]), (nat_lit 6, nat_lit 0, [(nat_lit 1, (.ofNat (nat_lit 0))), (nat_lit 0, (.ofNat (nat_lit 0)))]), (nat_lit 8, nat_lit 0, [(nat_lit 0, (.ofNat (nat_lit 40)))])],
  [(nat_lit 13, nat_lit 3, []), (nat_lit 5, nat_lit 1, [(nat_lit 0, (.ofNat (nat_lit 0))), (nat_lit 0, (.ofNat (nat_lit 45))), (nat_lit 0, (.ofNat (nat_lit 0)))]), (nat_lit 8, nat_lit 8, [(nat_lit 0, (.ofNat (nat_lit 1))), (nat_lit 4, (.ofNat (nat_lit 0))), (nat_lit 0, (.ofNat (nat_lit 0)))]), (nat_lit 6, nat_lit 3, [(nat_lit 4, (.ofNat (nat_lit 0))), (nat_lit 0, (.ofNat (nat_lit 0)))]), (nat_lit 6, nat_lit 3, [(nat_lit 4, (.ofNat (nat_lit 0))), (nat_lit 0, (.ofNat (nat_lit 0)))]), (nat_lit 6, nat_lit 1, [(nat_lit 5, (.ofNat (nat_lit 0))), (nat_lit 0, (.ofNat (nat_lit 0)))]), (nat_lit 8, nat_lit 5, []), (nat_lit 6, nat_lit 3, [(nat_lit 4, (.ofNat (nat_lit 0))), (nat_lit 0, (.ofNat (nat_lit 0)))]), (nat_lit 6, nat_lit 3, [(nat_lit 4, (.ofNat (nat_lit 0))), (nat_lit 0, (.ofNat (nat_lit 0)))]), (nat_lit 8, nat_lit 7, []), (nat_lit 6, nat_lit 0, [(nat_lit 3, (.ofNat (nat_lit 0))), (nat_lit 0, (.ofNat (nat_lit 0)))]), (nat_lit 4, nat_lit 1, [(nat_lit 0, (.ofNat (nat_lit 0))), (nat_lit 0, (.ofNat (nat_lit 46)))]), (nat_lit 6, nat_lit 1, [(nat_lit 2, (.ofNat (nat_lit 0))), (nat_lit 0, (.ofNat (nat_lit 0)))]), (nat_lit 8, nat_lit 4, [(nat_lit 0, (.ofNat (nat_lit 12)))]), (nat_lit 6, nat_lit 0, [(nat_lit 1, (.ofNat (nat_lit 0))), (nat_lit 0, (.ofNat (nat_lit 0)))]), (nat_lit 8, nat_lit 0, [(nat_lit 0, (.ofNat (nat_lit 40)))])],
  [(nat_lit 11, nat_lit 0, [(nat_lit 0, (.ofNat (nat_lit 1)))]), (nat_lit 8, nat_lit 3, []), (nat_lit 5, nat_lit 1, [(nat_lit 0, (.ofNat (nat_lit 0))), (nat_lit 0, (.ofNat (nat_lit 45))), (nat_lit 0, (.ofNat (nat_lit 0)))]), (nat_lit 8, nat_lit 8, [(nat_lit 0, (.ofNat (nat_lit 1))), (nat_lit 4, (.ofNat (nat_lit 0))), (nat_lit 0, (.ofNat (nat_lit 0)))]), (nat_lit 6, nat_lit 3, [(nat_lit 4, (.ofNat (nat_lit 0))), (nat_lit 0, (.ofNat (nat_lit 0)))]), (nat_lit 6, nat_lit 3, [(nat_lit 4, (.ofNat (nat_lit 0))), (nat_lit 0, (.ofNat (nat_lit 0)))]), (nat_lit 6, nat_lit 1, [(nat_lit 5, (.ofNat (nat_lit 0))), (nat_lit 0, (.ofNat (nat_lit 0)))]), (nat_lit 8, nat_lit 5, []), (nat_lit 6, nat_lit 3, [(nat_lit 4, (.ofNat (nat_lit 0))), (nat_lit 0, (.ofNat (nat_lit 0)))]), (nat_lit 6, nat_lit 3, [(nat_lit 4, (.ofNat (nat_lit 0))), (nat_lit 0, (.ofNat (nat_lit 0)))]), (nat_lit 8, nat_lit 7, []), (nat_lit 6, nat_lit 0, [(nat_lit 3, (.ofNat (nat_lit 0))), (nat_lit 0, (.ofNat (nat_lit 0)))]), (nat_lit 4, nat_lit 1, [(nat_lit 0, (.ofNat (nat_lit 0))), (nat_lit 0, (.ofNat (nat_lit 46)))]), (nat_lit 6, nat_lit 1, [(nat_lit 2, (.ofNat (nat_lit 0))), (nat_lit 0, (.ofNat (nat_lit 0)))]), (nat_lit 8, nat_lit 4, [(nat_lit 0, (.ofNat (nat_lit 12)))]), (nat_lit 6, nat_lit 0, [(nat_lit 1, (.ofNat (nat_lit 0))), (nat_lit 0, (.ofNat (nat_lit 0)))]), (nat_lit 8, nat_lit 0, [(nat_lit 0, (.ofNat (nat_lit 40)))])],
  [(nat_lit 11, nat_lit 0, [(nat_lit 0, (.ofNat (nat_lit 0)))]), (nat_lit 6, nat_lit 0, [(nat_lit 5, (.ofNat (nat_lit 0))), (nat_lit 0, (.ofNat (nat_lit 0)))]), (nat_lit 8, nat_lit 5, []), (nat_lit 6, nat_lit 3, [(nat_lit 4, (.ofNat (nat_lit 0))), (nat_lit 0, (.ofNat (nat_lit 0)))]), (nat_lit 6, nat_lit 3, [(nat_lit 4, (.ofNat (nat_lit 0))), (nat_lit 0, (.ofNat (nat_lit 0)))]), (nat_lit 8, nat_lit 7, []), (nat_lit 6, nat_lit 0, [(nat_lit 3, (.ofNat (nat_lit 0))), (nat_lit 0, (.ofNat (nat_lit 0)))]), (nat_lit 4, nat_lit 1, [(nat_lit 0, (.ofNat (nat_lit 0))), (nat_lit 0, (.ofNat (nat_lit 46)))]), (nat_lit 6, nat_lit 1, [(nat_lit 2, (.ofNat (nat_lit 0))), (nat_lit 0, (.ofNat (nat_lit 0)))]), (nat_lit 8, nat_lit 4, [(nat_lit 0, (.ofNat (nat_lit 12)))]), (nat_lit 6, nat_lit 0, [(nat_lit 1, (.ofNat (nat_lit 0))), (nat_lit 0, (.ofNat (nat_lit 0)))]), (nat_lit 8, nat_lit 0, [(nat_lit 0, (.ofNat (nat_lit 40)))])],
  [(nat_lit 13, nat_lit 5, []), (nat_lit 6, nat_lit 5, [(nat_lit 6, (.ofNat (nat_lit 0))), (nat_lit 0, (.ofNat (nat_lit 9999)))]), (nat_lit 4, nat_lit 0, [(nat_lit 0, (.ofNat (nat_lit 0))), (nat_lit 0, (.ofNat (nat_lit 9)))]), (nat_lit 6, nat_lit 2, [(nat_lit 4, (.ofNat (nat_lit 0))), (nat_lit 0, (.ofNat (nat_lit 0)))]), (nat_lit 6, nat_lit 0, [(nat_lit 5, (.ofNat (nat_lit 0))), (nat_lit 0, (.ofNat (nat_lit 3)))]), (nat_lit 4, nat_lit 0, [(nat_lit 0, (.ofNat (nat_lit 0))), (nat_lit 0, (.ofNat (nat_lit 8)))]), (nat_lit 6, nat_lit 2, [(nat_lit 4, (.ofNat (nat_lit 0))), (nat_lit 0, (.ofNat (nat_lit 0)))]), (nat_lit 8, nat_lit 7, []), (nat_lit 6, nat_lit 0, [(nat_lit 3, (.ofNat (nat_lit 0))), (nat_lit 0, (.ofNat (nat_lit 0)))]), (nat_lit 4, nat_lit 1, [(nat_lit 0, (.ofNat (nat_lit 0))), (nat_lit 0, (.ofNat (nat_lit 46)))]), (nat_lit 6, nat_lit 1, [(nat_lit 2, (.ofNat (nat_lit 0))), (nat_lit 0, (.ofNat (nat_lit 0)))]), (nat_lit 8, nat_lit 4, [(nat_lit 0, (.ofNat (nat_lit 12)))]), (nat_lit 6, nat_lit 0, [(nat_lit 1, (.ofNat (nat_lit 0))), (nat_lit 0, (.ofNat (nat_lit 0)))]), (nat_lit 8, nat_lit 0, [(nat_lit 0, (.ofNat (nat_lit 40)))])],
  [(nat_lit 13, nat_lit 8, [(nat_lit 0, (.ofNat (nat_lit 0))), (nat_lit 8, (.ofNat (nat_lit 0))), (nat_lit 0, (.ofNat (nat_lit 0)))]), (nat_lit 4, nat_lit 0, [(nat_lit 0, (.ofNat (nat_lit 0))), (nat_lit 0, (.ofNat (nat_lit 9)))]), (nat_lit 6, nat_lit 2, [(nat_lit 4, (.ofNat (nat_lit 0))), (nat_lit 0, (.ofNat (nat_lit 0)))]), (nat_lit 6, nat_lit 2, [(nat_lit 4, (.ofNat (nat_lit 0))), (nat_lit 0, (.ofNat (nat_lit 0)))]), (nat_lit 6, nat_lit 1, [(nat_lit 7, (.ofNat (nat_lit 0))), (nat_lit 0, (.ofNat (nat_lit 0)))]), (nat_lit 8, nat_lit 5, []), (nat_lit 6, nat_lit 5, [(nat_lit 6, (.ofNat (nat_lit 0))), (nat_lit 0, (.ofNat (nat_lit 9999)))]), (nat_lit 4, nat_lit 0, [(nat_lit 0, (.ofNat (nat_lit 0))), (nat_lit 0, (.ofNat (nat_lit 9)))]), (nat_lit 6, nat_lit 2, [(nat_lit 4, (.ofNat (nat_lit 0))), (nat_lit 0, (.ofNat (nat_lit 0)))]), (nat_lit 6, nat_lit 0, [(nat_lit 5, (.ofNat (nat_lit 0))), (nat_lit 0, (.ofNat (nat_lit 3)))]), (nat_lit 4, nat_lit 0, [(nat_lit 0, (.ofNat (nat_lit 0))), (nat_lit 0, (.ofNat (nat_lit 8)))]), (nat_lit 6, nat_lit 2, [(nat_lit 4, (.ofNat (nat_lit 0))), (nat_lit 0, (.ofNat (nat_lit 0)))]), (nat_lit 8, nat_lit 7, []), (nat_lit 6, nat_lit 0, [(nat_lit 3, (.ofNat (nat_lit 0))), (nat_lit 0, (.ofNat (nat_lit 0)))]), (nat_lit 4, nat_lit 1, [(nat_lit 0, (.ofNat (nat_lit 0))), (nat_lit 0, (.ofNat (nat_lit 46)))]), (nat_lit 6, nat_lit 1, [(nat_lit 2, (.ofNat (nat_lit 0))), (nat_lit 0, (.ofNat (nat_lit 0)))]), (nat_lit 8, nat_lit 4, [(nat_lit 0, (.ofNat (nat_lit 12)))]), (nat_lit 6, nat_lit 0, [(nat_lit 1, (.ofNat (nat_lit 0))), (nat_lit 0, (.ofNat (nat_lit 0)))]), (nat_lit 8, nat_lit 0, [(nat_lit 0, (.ofNat (nat_lit 40)))])],
  [(nat_lit 13, nat_lit 3, []), (nat_lit 5, nat_lit 1, [(nat_lit 0, (.ofNat (nat_lit 0))), (nat_lit 0, (.ofNat (nat_lit 45))), (nat_lit 0, (.ofNat (nat_lit 0)))]), (nat_lit 8, nat_lit 8, [(nat_lit 0, (.ofNat (nat_lit 0))), (nat_lit 8, (.ofNat (nat_lit 0))), (nat_lit 0, (.ofNat (nat_lit 0)))]), (nat_lit 4, nat_lit 0, [(nat_lit 0, (.ofNat (nat_lit 0))), (nat_lit 0, (.ofNat (nat_lit 9)))]), (nat_lit 6, nat_lit 2, [(nat_lit 4, (.ofNat (nat_lit 0))), (nat_lit 0, (.ofNat (nat_lit 0)))]), (nat_lit 6, nat_lit 2, [(nat_lit 4, (.ofNat (nat_lit 0))), (nat_lit 0, (.ofNat (nat_lit 0)))]), (nat_lit 6, nat_lit 1, [(nat_lit 7, (.ofNat (nat_lit 0))), (nat_lit 0, (.ofNat (nat_lit 0)))]), (nat_lit 8, nat_lit 5, []), (nat_lit 6, nat_lit 5, [(nat_lit 6, (.ofNat (nat_lit 0))), (nat_lit 0, (.ofNat (nat_lit 9999)))]), (nat_lit 4, nat_lit 0, [(nat_lit 0, (.ofNat (nat_lit 0))), (nat_lit 0, (.ofNat (nat_lit 9)))]), (nat_lit 6, nat_lit 2, [(nat_lit 4, (.ofNat (nat_lit 0))), (nat_lit 0, (.ofNat (nat_lit 0)))]), (nat_lit 6, nat_lit 0, [(nat_lit 5, (.ofNat (nat_lit 0))), (nat_lit 0, (.ofNat (nat_lit 3)))]), (nat_lit 4, nat_lit 0, [(nat_lit 0, (.ofNat (nat_lit 0))), (nat_lit 0, (.ofNat (nat_lit 8)))]), (nat_lit 6, nat_lit 2, [(nat_lit 4, (.ofNat (nat_lit 0))), (nat_lit 0, (.ofNat (nat_lit 0)))]), (nat_lit 8, nat_lit 7, []), (nat_lit 6, nat_lit 0, [(nat_lit 3, (.ofNat (nat_lit 0))), (nat_lit 0, (.ofNat (nat_lit 0)))]), (nat_lit 4, nat_lit 1, [(nat_lit 0, (.ofNat (nat_lit 0))), (nat_lit 0, (.ofNat (nat_lit 46)))]), (nat_lit 6, nat_lit 1, [(nat_lit 2, (.ofNat (nat_lit 0))), (nat_lit 0, (.ofNat (nat_lit 0)))]), (nat_lit 8, nat_lit 4, [(nat_lit 0, (.ofNat (nat_lit 12)))]), (nat_lit 6, nat_lit 0, [(nat_lit 1, (.ofNat (nat_lit 0))), (nat_lit 0, (.ofNat (nat_lit 0)))]), (nat_lit 8, nat_lit 0, [(nat_lit 0, (.ofNat (nat_lit 40)))])],
  [(nat_lit 11, nat_lit 0, [(nat_lit 0, (.ofNat (nat_lit 1)))]), (nat_lit 8, nat_lit 3, []), (nat_lit 5, nat_lit 1, [(nat_lit 0, (.ofNat (nat_lit 0))), (nat_lit 0, (.ofNat (nat_lit 45))), (nat_lit 0, (.ofNat (nat_lit 0)))]), (nat_lit 8, nat_lit 8, [(nat_lit 0, (.ofNat (nat_lit 0))), (nat_lit 8, (.ofNat (nat_lit 0))), (nat_lit 0, (.ofNat (nat_lit 0)))]), (nat_lit 4, nat_lit 0, [(nat_lit 0, (.ofNat (nat_lit 0))), (nat_lit 0, (.ofNat (nat_lit 9)))]), (nat_lit 6, nat_lit 2, [(nat_lit 4, (.ofNat (nat_lit 0))), (nat_lit 0, (.ofNat (nat_lit 0)))]), (nat_lit 6, nat_lit 2, [(nat_lit 4, (.ofNat (nat_lit 0))), (nat_lit 0, (.ofNat (nat_lit 0)))]), (nat_lit 6, nat_lit 1, [(nat_lit 7, (.ofNat (nat_lit 0))), (nat_lit 0, (.ofNat (nat_lit 0)))]), (nat_lit 8, nat_lit 5, []), (nat_lit 6, nat_lit 5, [(nat_lit 6, (.ofNat (nat_lit 0))), (nat_lit 0, (.ofNat (nat_lit 9999)))]), (nat_lit 4, nat_lit 0, [(nat_lit 0, (.ofNat (nat_lit 0))), (nat_lit 0, (.ofNat (nat_lit 9)))]), (nat_lit 6, nat_lit 2, [(nat_lit 4, (.ofNat (nat_lit 0))), (nat_lit 0, (.ofNat (nat_lit 0)))]), (nat_lit 6, nat_lit 0, [(nat_lit 5, (.ofNat (nat_lit 0))), (nat_lit 0, (.ofNat (nat_lit 3)))]), (nat_lit 4, nat_lit 0, [(nat_lit 0, (.ofNat (nat_lit 0))), (nat_lit 0, (.ofNat (nat_lit 8)))]), (nat_lit 6, nat_lit 2, [(nat_lit 4, (.ofNat (nat_lit 0))), (nat_lit 0, (.ofNat (nat_lit 0)))]), (nat_lit 8, nat_lit 7, []), (nat_lit 6, nat_lit 0, [(nat_lit 3, (.ofNat (nat_lit 0))), (nat_lit 0, (.ofNat (nat_lit 0)))]), (nat_lit 4, nat_lit 1, [(nat_lit 0, (.ofNat (nat_lit 0))), (nat_lit 0, (.ofNat (nat_lit 46)))]), (nat_lit 6, nat_lit 1, [(nat_lit 2, (.ofNat (nat_lit 0))), (nat_lit 0, (.ofNat (nat_lit 0)))]), (nat_lit 8, nat_lit 4, [(nat_lit 0, (.ofNat (nat_lit 12)))]), (nat_lit 6, nat_lit 0, [(nat_lit 1, (.ofNat (nat_lit 0))), (nat_lit 0, (.ofNat (nat_lit 0)))]), (nat_lit 8, nat_lit 0, [(nat_lit 0, (.ofNat (nat_lit 40)))])],
  [(nat_lit 11, nat_lit 0, [(nat_lit 0, (.ofNat (nat_lit 0)))]), (nat_lit 6, nat_lit 0, [(nat_lit 7, (.ofNat (nat_lit 0))), (nat_lit 0, (.ofNat (nat_lit 0)))]), (nat_lit 8, nat_lit 5, []), (nat_lit 6, nat_lit 5, [(nat_lit 6, (.ofNat (nat_lit 0))), (nat_lit 0, (.ofNat (nat_lit 9999)))]), (nat_lit 4, nat_lit 0, [(nat_lit 0, (.ofNat (nat_lit 0))), (nat_lit 0, (.ofNat (nat_lit 9)))]), (nat_lit 6, nat_lit 2, [(nat_lit 4, (.ofNat (nat_lit 0))), (nat_lit 0, (.ofNat (nat_lit 0)))]), (nat_lit 6, nat_lit 0, [(nat_lit 5, (.ofNat (nat_lit 0))), (nat_lit 0, (.ofNat (nat_lit 3)))]), (nat_lit 4, nat_lit 0, [(nat_lit 0, (.ofNat (nat_lit 0))), (nat_lit 0, (.ofNat (nat_lit 8)))]), (nat_lit 6, nat_lit 2, [(nat_lit 4, (.ofNat (nat_lit 0))), (nat_lit 0, (.ofNat (nat_lit 0)))]), (nat_lit 8, nat_lit 7, []), (nat_lit 6, nat_lit 0, [(nat_lit 3, (.ofNat (nat_lit 0))), (nat_lit 0, (.ofNat (nat_lit 0)))]), (nat_lit 4, nat_lit 1, [(nat_lit 0, (.ofNat (nat_lit 0))), (nat_lit 0, (.ofNat (nat_lit 46)))]), (nat_lit 6, nat_lit 1, [(nat_lit 2, (.ofNat (nat_lit 0))), (nat_lit 0, (.ofNat (nat_lit 0)))]), (nat_lit 8, nat_lit 4, [(nat_lit 0, (.ofNat (nat_lit 12)))]), (nat_lit 6, nat_lit 0, [(nat_lit 1, (.ofNat (nat_lit 0))), (nat_lit 0, (.ofNat (nat_lit 0)))]), (nat_lit 8, nat_lit 0, [(nat_lit 0, (.ofNat (nat_lit 40)))])],
  [(nat_lit 13, nat_lit 1, [(nat_lit 0, (.ofNat (nat_lit 2)))]), (nat_lit 6, nat_lit 4, [(nat_lit 6, (.ofNat (nat_lit 0))), (nat_lit 0, (.ofNat (nat_lit 9999)))]), (nat_lit 4, nat_lit 0, [(nat_lit 0, (.ofNat (nat_lit 0))), (nat_lit 0, (.ofNat (nat_lit 9)))]), (nat_lit 6, nat_lit 2, [(nat_lit 4, (.ofNat (nat_lit 0))), (nat_lit 0, (.ofNat (nat_lit 0)))]), (nat_lit 6, nat_lit 0, [(nat_lit 5, (.ofNat (nat_lit 0))), (nat_lit 0, (.ofNat (nat_lit 3)))]), (nat_lit 4, nat_lit 0, [(nat_lit 0, (.ofNat (nat_lit 0))), (nat_lit 0, (.ofNat (nat_lit 8)))]), (nat_lit 6, nat_lit 2, [(nat_lit 4, (.ofNat (nat_lit 0))), (nat_lit 0, (.ofNat (nat_lit 0)))]), (nat_lit 8, nat_lit 7, []), (nat_lit 6, nat_lit 0, [(nat_lit 3, (.ofNat (nat_lit 0))), (nat_lit 0, (.ofNat (nat_lit 0)))]), (nat_lit 4, nat_lit 1, [(nat_lit 0, (.ofNat (nat_lit 0))), (nat_lit 0, (.ofNat (nat_lit 46)))]), (nat_lit 6, nat_lit 1, [(nat_lit 2, (.ofNat (nat_lit 0))), (nat_lit 0, (.ofNat (nat_lit 0)))]), (nat_lit 8, nat_lit 4, [(nat_lit 0, (.ofNat (nat_lit 12)))]), (nat_lit 6, nat_lit 0, [(nat_lit 1, (.ofNat (nat_lit 0))), (nat_lit 0, (.ofNat (nat_lit 0)))]), (nat_lit 8, nat_lit 0, [(nat_lit 0, (.ofNat (nat_lit 40)))])],
  [(nat_lit 11, nat_lit 0, [(nat_lit 7, (.ofNat (nat_lit 0)))]), (nat_lit 8, nat_lit 1, [(nat_lit 0, (.ofNat (nat_lit 2)))]), (nat_lit 6, nat_lit 4, [(nat_lit 6, (.ofNat (nat_lit 0))), (nat_lit 0, (.ofNat (nat_lit 9999)))]), (nat_lit 4, nat_lit 0, [(nat_lit 0, (.ofNat (nat_lit 0))), (nat_lit 0, (.ofNat (nat_lit 9)))]), (nat_lit 6, nat_lit 2, [(nat_lit 4, (.ofNat (nat_lit 0))), (nat_lit 0, (.ofNat (nat_lit 0)))]), (nat_lit 6, nat_lit 0, [(nat_lit 5, (.ofNat (nat_lit 0))), (nat_lit 0, (.ofNat (nat_lit 3)))]), (nat_lit 4, nat_lit 0, [(nat_lit 0, (.ofNat (nat_lit 0))), (nat_lit 0, (.ofNat (nat_lit 8)))]), (nat_lit 6, nat_lit 2, [(nat_lit 4, (.ofNat (nat_lit 0))), (nat_lit 0, (.ofNat (nat_lit 0)))]), (nat_lit 8, nat_lit 7, []), (nat_lit 6, nat_lit 0, [(nat_lit 3, (.ofNat (nat_lit 0))), (nat_lit 0, (.ofNat (nat_lit 0)))]), (nat_lit 4, nat_lit 1, [(nat_lit 0, (.ofNat (nat_lit 0))), (nat_lit 0, (.ofNat (nat_lit 46)))]), (nat_lit 6, nat_lit 1, [(nat_lit 2, (.ofNat (nat_lit 0))), (nat_lit 0, (.ofNat (nat_lit 0)))]), (nat_lit 8, nat_lit 4, [(nat_lit 0, (.ofNat (nat_lit 12)))]), (nat_lit 6, nat_lit 0, [(nat_lit 1, (.ofNat (nat_lit 0))), (nat_lit 0, (.ofNat (nat_lit 0)))]), (nat_lit 8, nat_lit 0, [(nat_lit 0, (.ofNat (nat_lit 40)))])],
  [(nat_lit 13, nat_lit 1, [(nat_lit 0, (.ofNat (nat_lit 1)))]), (nat_lit 6, nat_lit 1, [(nat_lit 5, (.ofNat (nat_lit 0))), (nat_lit 0, (.ofNat (nat_lit 3)))]), (nat_lit 4, nat_lit 0, [(nat_lit 0, (.ofNat (nat_lit 0))), (nat_lit 0, (.ofNat (nat_lit 8)))]), (nat_lit 6, nat_lit 2, [(nat_lit 4, (.ofNat (nat_lit 0))), (nat_lit 0, (.ofNat (nat_lit 0)))]), (nat_lit 8, nat_lit 7, []), (nat_lit 6, nat_lit 0, [(nat_lit 3, (.ofNat (nat_lit 0))), (nat_lit 0, (.ofNat (nat_lit 0)))]), (nat_lit 4, nat_lit 1, [(nat_lit 0, (.ofNat (nat_lit 0))), (nat_lit 0, (.ofNat (nat_lit 46)))]), (nat_lit 6, nat_lit 1, [(nat_lit 2, (.ofNat (nat_lit 0))), (nat_lit 0, (.ofNat (nat_lit 0)))]), (nat_lit 8, nat_lit 4, [(nat_lit 0, (.ofNat (nat_lit 12)))]), (nat_lit 6, nat_lit 0, [(nat_lit 1, (.ofNat (nat_lit 0))), (nat_lit 0, (.ofNat (nat_lit 0)))]), (nat_lit 8, nat_lit 0, [(nat_lit 0, (.ofNat (nat_lit 40)))])],
  [(nat_lit 11, nat_lit 0, [(nat_lit 6, (.ofNat (nat_lit 0)))]), (nat_lit 8, nat_lit 1, [(nat_lit 0, (.ofNat (nat_lit 1)))]), (nat_lit 6, nat_lit 1, [(nat_lit 5, (.ofNat (nat_lit 0))), (nat_lit 0, (.ofNat (nat_lit 3)))]), (nat_lit 4, nat_lit 0, [(nat_lit 0, (.ofNat (nat_lit 0))), (nat_lit 0, (.ofNat (nat_lit 8)))]), (nat_lit 6, nat_lit 2, [(nat_lit 4, (.ofNat (nat_lit 0))), (nat_lit 0, (.ofNat (nat_lit 0)))]), (nat_lit 8, nat_lit 7, []), (nat_lit 6, nat_lit 0, [(nat_lit 3, (.ofNat (nat_lit 0))), (nat_lit 0, (.ofNat (nat_lit 0)))]), (nat_lit 4, nat_lit 1, [(nat_lit 0, (.ofNat (nat_lit 0))), (nat_lit 0, (.ofNat (nat_lit 46)))]), (nat_lit 6, nat_lit 1, [(nat_lit 2, (.ofNat (nat_lit 0))), (nat_lit 0, (.ofNat (nat_lit 0)))]), (nat_lit 8, nat_lit 4, [(nat_lit 0, (.ofNat (nat_lit 12)))]), (nat_lit 6, nat_lit 0, [(nat_lit 1, (.ofNat (nat_lit 0))), (nat_lit 0, (.ofNat (nat_lit 0)))]), (nat_lit 8, nat_lit 0, [(nat_lit 0, (.ofNat (nat_lit 40)))])],
  [(nat_lit 13, nat_lit 5, []), (nat_lit 6, nat_lit 1, [(nat_lit 3, (.ofNat (nat_lit 0))), (nat_lit 0, (.ofNat (nat_lit 0)))]), (nat_lit 4, nat_lit 1, [(nat_lit 0, (.ofNat (nat_lit 0))), (nat_lit 0, (.ofNat (nat_lit 46)))]), (nat_lit 6, nat_lit 1, [(nat_lit 2, (.ofNat (nat_lit 0))), (nat_lit 0, (.ofNat (nat_lit 0)))]), (nat_lit 8, nat_lit 4, [(nat_lit 0, (.ofNat (nat_lit 12)))]), (nat_lit 6, nat_lit 0, [(nat_lit 1, (.ofNat (nat_lit 0))), (nat_lit 0, (.ofNat (nat_lit 0)))]), (nat_lit 8, nat_lit 0, [(nat_lit 0, (.ofNat (nat_lit 40)))])],
  [(nat_lit 13, nat_lit 6, []), (nat_lit 6, nat_lit 1, [(nat_lit 4, (.ofNat (nat_lit 0))), (nat_lit 0, (.ofNat (nat_lit 0)))]), (nat_lit 8, nat_lit 5, []), (nat_lit 6, nat_lit 1, [(nat_lit 3, (.ofNat (nat_lit 0))), (nat_lit 0, (.ofNat (nat_lit 0)))]), (nat_lit 4, nat_lit 1, [(nat_lit 0, (.ofNat (nat_lit 0))), (nat_lit 0, (.ofNat (nat_lit 46)))]), (nat_lit 6, nat_lit 1, [(nat_lit 2, (.ofNat (nat_lit 0))), (nat_lit 0, (.ofNat (nat_lit 0)))]), (nat_lit 8, nat_lit 4, [(nat_lit 0, (.ofNat (nat_lit 12)))]), (nat_lit 6, nat_lit 0, [(nat_lit 1, (.ofNat (nat_lit 0))), (nat_lit 0, (.ofNat (nat_lit 0)))]), (nat_lit 8, nat_lit 0, [(nat_lit 0, (.ofNat (nat_lit 40)))])],
  [(nat_lit 13, nat_lit 3, []), (nat_lit 8, nat_lit 6, []), (nat_lit 6, nat_lit 1, [(nat_lit 4, (.ofNat (nat_lit 0))), (nat_lit 0, (.ofNat (nat_lit 0)))]), (nat_lit 8, nat_lit 5, []), (nat_lit 6, nat_lit 1, [(nat_lit 3, (.ofNat (nat_lit 0))), (nat_lit 0, (.ofNat (nat_lit 0)))]), (nat_lit 4, nat_lit 1, [(nat_lit 0, (.ofNat (nat_lit 0))), (nat_lit 0, (.ofNat (nat_lit 46)))]), (nat_lit 6, nat_lit 1, [(nat_lit 2, (.ofNat (nat_lit 0))), (nat_lit 0, (.ofNat (nat_lit 0)))]), (nat_lit 8, nat_lit 4, [(nat_lit 0, (.ofNat (nat_lit 12)))]), (nat_lit 6, nat_lit 0, [(nat_lit 1, (.ofNat (nat_lit 0))), (nat_lit 0, (.ofNat (nat_lit 0)))]), (nat_lit 8, nat_lit 0, [(nat_lit 0, (.ofNat (nat_lit 40)))])],
  [(nat_lit 11, nat_lit 0, [(nat_lit 0, (.ofNat (nat_lit 1)))]), (nat_lit 8, nat_lit 3, []), (nat_lit 8, nat_lit 6, []), (nat_lit 6, nat_lit 1, [(nat_lit 4, (.ofNat (nat_lit 0))), (nat_lit 0, (.ofNat (nat_lit 0)))]), (nat_lit 8, nat_lit 5, []), (nat_lit 6, nat_lit 1, [(nat_lit 3, (.ofNat (nat_lit 0))), (nat_lit 0, (.ofNat (nat_lit 0)))]), (nat_lit 4, nat_lit 1, [(nat_lit 0, (.ofNat (nat_lit 0))), (nat_lit 0, (.ofNat (nat_lit 46)))]), (nat_lit 6, nat_lit 1, [(nat_lit 2, (.ofNat (nat_lit 0))), (nat_lit 0, (.ofNat (nat_lit 0)))]), (nat_lit 8, nat_lit 4, [(nat_lit 0, (.ofNat (nat_lit 12)))]), (nat_lit 6, nat_lit 0, [(nat_lit 1, (.ofNat (nat_lit 0))), (nat_lit 0, (.ofNat (nat_lit 0)))]), (nat_lit 8, nat_lit 0, [(nat_lit 0, (.ofNat (nat_lit 40)))])],
  [(nat_lit 11, nat_lit 0, [(nat_lit 0, (.ofNat (nat_lit 0)))]), (nat_lit 6, nat_lit 0, [(nat_lit 4, (.ofNat (nat_lit 0))), (nat_lit 0, (.ofNat (nat_lit 0)))]), (nat_lit 8, nat_lit 5, []), (nat_lit 6, nat_lit 1, [(nat_lit 3, (.ofNat (nat_lit 0))), (nat_lit 0, (.ofNat (nat_lit 0)))]), (nat_lit 4, nat_lit 1, [(nat_lit 0, (.ofNat (nat_lit 0))), (nat_lit 0, (.ofNat (nat_lit 46)))]), (nat_lit 6, nat_lit 1, [(nat_lit 2, (.ofNat (nat_lit 0))), (nat_lit 0, (.ofNat (nat_lit 0)))]), (nat_lit 8, nat_lit 4, [(nat_lit 0, (.ofNat (nat_lit 12)))]), (nat_lit 6, nat_lit 0, [(nat_lit 1, (.ofNat (nat_lit 0))), (nat_lit 0, (.ofNat (nat_lit 0)))]), (nat_lit 8, nat_lit 0, [(nat_lit 0, (.ofNat (nat_lit 40)))])],
  [(nat_lit 13, nat_lit 2, []), (nat_lit 5, nat_lit 0, [(nat_lit 0, (.ofNat (nat_lit 0))), (nat_lit 0, (.ofNat (nat_lit 43))), (nat_lit 4, (.ofNat (nat_lit 0)))]), (nat_lit 0, nat_lit 1, [(nat_lit 3, (.ofNat (nat_lit 0))), (nat_lit 0, (.ofNat (nat_lit 1)))]), (nat_lit 4, nat_lit 0, [(nat_lit 0, (.ofNat (nat_lit 0))), (nat_lit 0, (.ofNat (nat_lit 43)))]), (nat_lit 6, nat_lit 1, [(nat_lit 2, (.ofNat (nat_lit 0))), (nat_lit 0, (.ofNat (nat_lit 8)))]), (nat_lit 4, nat_lit 0, [(nat_lit 0, (.ofNat (nat_lit 0))), (nat_lit 0, (.ofNat (nat_lit 43)))]), (nat_lit 6, nat_lit 1, [(nat_lit 1, (.ofNat (nat_lit 0))), (nat_lit 0, (.ofNat (nat_lit 0)))]), (nat_lit 8, nat_lit 0, [(nat_lit 0, (.ofNat (nat_lit 40)))])],
  [(nat_lit 13, nat_lit 3, []), (nat_lit 5, nat_lit 1, [(nat_lit 0, (.ofNat (nat_lit 0))), (nat_lit 0, (.ofNat (nat_lit 46))), (nat_lit 0, (.ofNat (nat_lit 1)))]), (nat_lit 8, nat_lit 2, []), (nat_lit 5, nat_lit 0, [(nat_lit 0, (.ofNat (nat_lit 0))), (nat_lit 0, (.ofNat (nat_lit 43))), (nat_lit 4, (.ofNat (nat_lit 0)))]), (nat_lit 0, nat_lit 1, [(nat_lit 3, (.ofNat (nat_lit 0))), (nat_lit 0, (.ofNat (nat_lit 1)))]), (nat_lit 4, nat_lit 0, [(nat_lit 0, (.ofNat (nat_lit 0))), (nat_lit 0, (.ofNat (nat_lit 43)))]), (nat_lit 6, nat_lit 1, [(nat_lit 2, (.ofNat (nat_lit 0))), (nat_lit 0, (.ofNat (nat_lit 8)))]), (nat_lit 4, nat_lit 0, [(nat_lit 0, (.ofNat (nat_lit 0))), (nat_lit 0, (.ofNat (nat_lit 43)))]), (nat_lit 6, nat_lit 1, [(nat_lit 1, (.ofNat (nat_lit 0))), (nat_lit 0, (.ofNat (nat_lit 0)))]), (nat_lit 8, nat_lit 0, [(nat_lit 0, (.ofNat (nat_lit 40)))])],
  [(nat_lit 11, nat_lit 0, [(nat_lit 0, (.ofNat (nat_lit 1)))]), (nat_lit 8, nat_lit 3, []), (nat_lit 5, nat_lit 1, [(nat_lit 0, (.ofNat (nat_lit 0))), (nat_lit 0, (.ofNat (nat_lit 46))), (nat_lit 0, (.ofNat (nat_lit 1)))]), (nat_lit 8, nat_lit 2, []), (nat_lit 5, nat_lit 0, [(nat_lit 0, (.ofNat (nat_lit 0))), (nat_lit 0, (.ofNat (nat_lit 43))), (nat_lit 4, (.ofNat (nat_lit 0)))]), (nat_lit 0, nat_lit 1, [(nat_lit 3, (.ofNat (nat_lit 0))), (nat_lit 0, (.ofNat (nat_lit 1)))]), (nat_lit 4, nat_lit 0, [(nat_lit 0, (.ofNat (nat_lit 0))), (nat_lit 0, (.ofNat (nat_lit 43)))]), (nat_lit 6, nat_lit 1, [(nat_lit 2, (.ofNat (nat_lit 0))), (nat_lit 0, (.ofNat (nat_lit 8)))]), (nat_lit 4, nat_lit 0, [(nat_lit 0, (.ofNat (nat_lit 0))), (nat_lit 0, (.ofNat (nat_lit 43)))]), (nat_lit 6, nat_lit 1, [(nat_lit 1, (.ofNat (nat_lit 0))), (nat_lit 0, (.ofNat (nat_lit 0)))]), (nat_lit 8, nat_lit 0, [(nat_lit 0, (.ofNat (nat_lit 40)))])],
  [(nat_lit 13, nat_lit 1, [(nat_lit 0, (.ofNat (nat_lit 2)))]), (nat_lit 6, nat_lit 0, [(nat_lit 2, (.ofNat (nat_lit 0))), (nat_lit 0, (.ofNat (nat_lit 8)))]), (nat_lit 4, nat_lit 0, [(nat_lit 0, (.ofNat (nat_lit 0))), (nat_lit 0, (.ofNat (nat_lit 43)))]), (nat_lit 6, nat_lit 1, [(nat_lit 1, (.ofNat (nat_lit 0))), (nat_lit 0, (.ofNat (nat_lit 0)))]), (nat_lit 8, nat_lit 0, [(nat_lit 0, (.ofNat (nat_lit 40)))])],
  [(nat_lit 11, nat_lit 0, [(nat_lit 3, (.ofNat (nat_lit 0)))]), (nat_lit 8, nat_lit 1, [(nat_lit 0, (.ofNat (nat_lit 2)))]), (nat_lit 6, nat_lit 0, [(nat_lit 2, (.ofNat (nat_lit 0))), (nat_lit 0, (.ofNat (nat_lit 8)))]), (nat_lit 4, nat_lit 0, [(nat_lit 0, (.ofNat (nat_lit 0))), (nat_lit 0, (.ofNat (nat_lit 43)))]), (nat_lit 6, nat_lit 1, [(nat_lit 1, (.ofNat (nat_lit 0))), (nat_lit 0, (.ofNat (nat_lit 0)))]), (nat_lit 8, nat_lit 0, [(nat_lit 0, (.ofNat (nat_lit 40)))])]]
def zFle_leafRead : List (List zK) := []
set_option maxHeartbeats 8000000 in
theorem zle_leafRead_o0 {ro : Nat → List Int32} (η : zE) (hp : sP wl_le zTr zPle_leafRead [] η) (hpp : pPle_leafRead [] η) : ((gC2 wl_le [(nat_lit 0, zPle_isSign, zOle_isSign, zMle_isSign), (nat_lit 1, zPle_wrong, zOle_wrong, zMle_wrong), (nat_lit 2, zPle_waitsFor0, zOle_waitsFor0, zMle_waitsFor0), (nat_lit 3, zPle_token, zOle_token, zMle_token), (nat_lit 4, zPle_isKey, zOle_isKey, zMle_isKey), (nat_lit 5, zPle_isCounted, zOle_isCounted, zMle_isCounted), (nat_lit 6, zPle_waitsFor2, zOle_waitsFor2, zMle_waitsFor2), (nat_lit 7, zPle_nameMet, zOle_nameMet, zMle_nameMet), (nat_lit 8, zPle_grown, zOle_grown, zMle_grown)] pCle_leafRead qCle_leafRead) 0).1 [40] η := by
  have hw : η 0 45 = 1 := hpp.2
  have hs : η 0 7 ≤ η 0 6 := hpp.1.1.1.1
  have bd43 : (0 : Int) ≤ η 0 43 ∧ η 0 43 ≤ 8 := wf_ok (a := 43) (b := 43) (z := (0, 8)) hp.1 (by decide +kernel) (Nat.le_refl _) (Nat.le_refl _)
  have bd44 : (0 : Int) ≤ η 0 44 ∧ η 0 44 ≤ 64 := wf_ok (a := 44) (b := 44) (z := (0, 64)) hp.1 (by decide +kernel) (Nat.le_refl _) (Nat.le_refl _)
  have bd19 : (0 : Int) ≤ η 0 19 ∧ η 0 19 ≤ 64 := wf_ok (a := 19) (b := 19) (z := (0, 64)) hp.1 (by decide +kernel) (Nat.le_refl _) (Nat.le_refl _)
  have fmE : zFm zMle_leafRead η η := zFm_rf
  have fr22_0 : ∀ j, η 22 j = η 22 j := fun _ => rfl
  have fr22 : ∀ j, η 22 j = η 22 j := fun _ => rfl
  have f0_41 : η 0 41 = η 0 41 := rfl
  have w0_0_43 : (0 : Int) ≤ η 0 43 ∧ η 0 43 ≤ 8 := wf_ok (a := 43) (b := 43) (z := (0, 8)) hp.1 (by decide +kernel) (Nat.le_refl _) (Nat.le_refl _)
  have f0_43 : η 0 43 = η 0 43 := rfl
  have f0_42 : η 0 42 = η 0 42 := rfl
  have f0_45 : η 0 45 = η 0 45 := rfl
  have w0_0_19 : (0 : Int) ≤ η 0 19 ∧ η 0 19 ≤ 64 := wf_ok (a := 19) (b := 19) (z := (0, 64)) hp.1 (by decide +kernel) (Nat.le_refl _) (Nat.le_refl _)
  have f0_19 : η 0 19 = η 0 19 := rfl
  have w0_0_44 : (0 : Int) ≤ η 0 44 ∧ η 0 44 ≤ 64 := wf_ok (a := 44) (b := 44) (z := (0, 64)) hp.1 (by decide +kernel) (Nat.le_refl _) (Nat.le_refl _)
  have f0_44 : η 0 44 = η 0 44 := rfl
  have w0_0_7 : (0 : Int) ≤ η 0 7 ∧ η 0 7 ≤ 700 := wf_ok (a := 7) (b := 7) (z := (0, 700)) hp.1 (by decide +kernel) (Nat.le_refl _) (Nat.le_refl _)
  have f0_7 : η 0 7 = η 0 7 := rfl
  have w0_0_6 : (0 : Int) ≤ η 0 6 ∧ η 0 6 ≤ 700 := wf_ok (a := 6) (b := 6) (z := (0, 700)) hp.1 (by decide +kernel) (Nat.le_refl _) (Nat.le_refl _)
  have f0_6 : η 0 6 = η 0 6 := rfl
  have w0_0_8 : (0 : Int) ≤ η 0 8 ∧ η 0 8 ≤ 6 := wf_ok (a := 8) (b := 8) (z := (0, 6)) hp.1 (by decide +kernel) (Nat.le_refl _) (Nat.le_refl _)
  have f0_8 : η 0 8 = η 0 8 := rfl
  have wbE : wB wl_le zTr η := hp.1
  
  have I0 : H_l 0 0 0 η := hpp.1
  exact I0
set_option maxHeartbeats 8000000 in
theorem zle_leafRead_o1 {ro : Nat → List Int32} (η : zE) (hp : sP wl_le zTr zPle_leafRead [] η) (hpp : pPle_leafRead [] η) : ∀ (x1 : Int) (η1 : zE), ((gC2 wl_le [(nat_lit 0, zPle_isSign, zOle_isSign, zMle_isSign), (nat_lit 1, zPle_wrong, zOle_wrong, zMle_wrong), (nat_lit 2, zPle_waitsFor0, zOle_waitsFor0, zMle_waitsFor0), (nat_lit 3, zPle_token, zOle_token, zMle_token), (nat_lit 4, zPle_isKey, zOle_isKey, zMle_isKey), (nat_lit 5, zPle_isCounted, zOle_isCounted, zMle_isCounted), (nat_lit 6, zPle_waitsFor2, zOle_waitsFor2, zMle_waitsFor2), (nat_lit 7, zPle_nameMet, zOle_nameMet, zMle_nameMet), (nat_lit 8, zPle_grown, zOle_grown, zMle_grown)] pCle_leafRead qCle_leafRead) 0).2 [40] η x1 η1 → (x1 = 0) → ((gC2 wl_le [(nat_lit 0, zPle_isSign, zOle_isSign, zMle_isSign), (nat_lit 1, zPle_wrong, zOle_wrong, zMle_wrong), (nat_lit 2, zPle_waitsFor0, zOle_waitsFor0, zMle_waitsFor0), (nat_lit 3, zPle_token, zOle_token, zMle_token), (nat_lit 4, zPle_isKey, zOle_isKey, zMle_isKey), (nat_lit 5, zPle_isCounted, zOle_isCounted, zMle_isCounted), (nat_lit 6, zPle_waitsFor2, zOle_waitsFor2, zMle_waitsFor2), (nat_lit 7, zPle_nameMet, zOle_nameMet, zMle_nameMet), (nat_lit 8, zPle_grown, zOle_grown, zMle_grown)] pCle_leafRead qCle_leafRead) 4).1 [12] η1 := by
  have hw : η 0 45 = 1 := hpp.2
  have hs : η 0 7 ≤ η 0 6 := hpp.1.1.1.1
  have bd43 : (0 : Int) ≤ η 0 43 ∧ η 0 43 ≤ 8 := wf_ok (a := 43) (b := 43) (z := (0, 8)) hp.1 (by decide +kernel) (Nat.le_refl _) (Nat.le_refl _)
  have bd44 : (0 : Int) ≤ η 0 44 ∧ η 0 44 ≤ 64 := wf_ok (a := 44) (b := 44) (z := (0, 64)) hp.1 (by decide +kernel) (Nat.le_refl _) (Nat.le_refl _)
  have bd19 : (0 : Int) ≤ η 0 19 ∧ η 0 19 ≤ 64 := wf_ok (a := 19) (b := 19) (z := (0, 64)) hp.1 (by decide +kernel) (Nat.le_refl _) (Nat.le_refl _)
  intro x1 η1 h1 c1
  have y1 : fQle_isSign [40] η x1 η1 := h1.2.2
  have k1 : sQ wl_le zTr zOle_isSign zMle_isSign [40] η x1 η1 ∧ oQle_isSign [40] η x1 η1 := ⟨h1.1, h1.2.1⟩
  have w0_0_8 : (0 : Int) ≤ η 0 8 ∧ η 0 8 ≤ 6 := wf_ok (a := 8) (b := 8) (z := (0, 6)) hp.1 (by decide +kernel) (Nat.le_refl _) (Nat.le_refl _)
  have c0_0_8 : η 0 8 = η 0 8 := rfl
  have wb1 : wB wl_le zTr η1 := k1.1.1
  have bx1 : (0 : Int) ≤ x1 ∧ x1 ≤ 1 := k1.1.2.1
  have fm1 : zFm zMle_leafRead η η1 := zFm_tr2 zFm_rf k1.1.2.2.2.1 (by decide +kernel)
  have fmE : zFm zMle_leafRead η η1 := fm1
  have fr22_0 : ∀ j, η 22 j = η 22 j := fun _ => rfl
  have v1 : ∀ j, η1 22 j = η 22 j := fun j => k1.1.2.2.2.1 22 _ (zinr_not (by decide +kernel))
  have fr22_1 : ∀ j, η1 22 j = η 22 j := v1
  have fr22 : ∀ j, η1 22 j = η 22 j := v1
  have v3 : zEq (η1 0 41) (η 0 41) := (k1.1.2.2.2.1 0 41 (by decide +kernel)).trans rfl
  have f0_41 : η1 0 41 = η 0 41 := v3
  have w0_0_43 : (0 : Int) ≤ η 0 43 ∧ η 0 43 ≤ 8 := wf_ok (a := 43) (b := 43) (z := (0, 8)) hp.1 (by decide +kernel) (Nat.le_refl _) (Nat.le_refl _)
  have v5 : zEq (η1 0 43) (η 0 43) := (k1.1.2.2.2.1 0 43 (by decide +kernel)).trans rfl
  have f0_43 : η1 0 43 = η 0 43 := v5
  have v7 : zEq (η1 0 42) (η 0 42) := (k1.1.2.2.2.1 0 42 (by decide +kernel)).trans rfl
  have f0_42 : η1 0 42 = η 0 42 := v7
  have v9 : zEq (η1 0 45) (η 0 45) := (k1.1.2.2.2.1 0 45 (by decide +kernel)).trans rfl
  have f0_45 : η1 0 45 = η 0 45 := v9
  have w0_0_19 : (0 : Int) ≤ η 0 19 ∧ η 0 19 ≤ 64 := wf_ok (a := 19) (b := 19) (z := (0, 64)) hp.1 (by decide +kernel) (Nat.le_refl _) (Nat.le_refl _)
  have v11 : zEq (η1 0 19) (η 0 19) := (k1.1.2.2.2.1 0 19 (by decide +kernel)).trans rfl
  have f0_19 : η1 0 19 = η 0 19 := v11
  have w0_0_44 : (0 : Int) ≤ η 0 44 ∧ η 0 44 ≤ 64 := wf_ok (a := 44) (b := 44) (z := (0, 64)) hp.1 (by decide +kernel) (Nat.le_refl _) (Nat.le_refl _)
  have v13 : zEq (η1 0 44) (η 0 44) := (k1.1.2.2.2.1 0 44 (by decide +kernel)).trans rfl
  have f0_44 : η1 0 44 = η 0 44 := v13
  have w0_0_7 : (0 : Int) ≤ η 0 7 ∧ η 0 7 ≤ 700 := wf_ok (a := 7) (b := 7) (z := (0, 700)) hp.1 (by decide +kernel) (Nat.le_refl _) (Nat.le_refl _)
  have v15 : zEq (η1 0 7) (η 0 7) := (k1.1.2.2.2.1 0 7 (by decide +kernel)).trans rfl
  have f0_7 : η1 0 7 = η 0 7 := v15
  have w0_0_6 : (0 : Int) ≤ η 0 6 ∧ η 0 6 ≤ 700 := wf_ok (a := 6) (b := 6) (z := (0, 700)) hp.1 (by decide +kernel) (Nat.le_refl _) (Nat.le_refl _)
  have v17 : zEq (η1 0 6) (η 0 6) := (k1.1.2.2.2.1 0 6 (by decide +kernel)).trans rfl
  have f0_6 : η1 0 6 = η 0 6 := v17
  have v18 : zEq (η1 0 8) (η 0 8) := (k1.1.2.2.2.1 0 8 (by decide +kernel)).trans rfl
  have f0_8 : η1 0 8 = η 0 8 := v18
  have wbE : wB wl_le zTr η1 := wb1
  
  have I0 : H_l 0 0 0 η := hpp.1
  have I1 : H_l 0 0 0 η1 := k1.2.1
  exact I1
set_option maxHeartbeats 8000000 in
theorem zle_leafRead_o2 {ro : Nat → List Int32} (η : zE) (hp : sP wl_le zTr zPle_leafRead [] η) (hpp : pPle_leafRead [] η) : ∀ (x1 : Int) (η1 : zE), ((gC2 wl_le [(nat_lit 0, zPle_isSign, zOle_isSign, zMle_isSign), (nat_lit 1, zPle_wrong, zOle_wrong, zMle_wrong), (nat_lit 2, zPle_waitsFor0, zOle_waitsFor0, zMle_waitsFor0), (nat_lit 3, zPle_token, zOle_token, zMle_token), (nat_lit 4, zPle_isKey, zOle_isKey, zMle_isKey), (nat_lit 5, zPle_isCounted, zOle_isCounted, zMle_isCounted), (nat_lit 6, zPle_waitsFor2, zOle_waitsFor2, zMle_waitsFor2), (nat_lit 7, zPle_nameMet, zOle_nameMet, zMle_nameMet), (nat_lit 8, zPle_grown, zOle_grown, zMle_grown)] pCle_leafRead qCle_leafRead) 0).2 [40] η x1 η1 → (x1 = 0) → ∀ (x2 : Int) (η2 : zE), ((gC2 wl_le [(nat_lit 0, zPle_isSign, zOle_isSign, zMle_isSign), (nat_lit 1, zPle_wrong, zOle_wrong, zMle_wrong), (nat_lit 2, zPle_waitsFor0, zOle_waitsFor0, zMle_waitsFor0), (nat_lit 3, zPle_token, zOle_token, zMle_token), (nat_lit 4, zPle_isKey, zOle_isKey, zMle_isKey), (nat_lit 5, zPle_isCounted, zOle_isCounted, zMle_isCounted), (nat_lit 6, zPle_waitsFor2, zOle_waitsFor2, zMle_waitsFor2), (nat_lit 7, zPle_nameMet, zOle_nameMet, zMle_nameMet), (nat_lit 8, zPle_grown, zOle_grown, zMle_grown)] pCle_leafRead qCle_leafRead) 4).2 [12] η1 x2 η2 → (x2 = 0) → ((gC2 wl_le [(nat_lit 0, zPle_isSign, zOle_isSign, zMle_isSign), (nat_lit 1, zPle_wrong, zOle_wrong, zMle_wrong), (nat_lit 2, zPle_waitsFor0, zOle_waitsFor0, zMle_waitsFor0), (nat_lit 3, zPle_token, zOle_token, zMle_token), (nat_lit 4, zPle_isKey, zOle_isKey, zMle_isKey), (nat_lit 5, zPle_isCounted, zOle_isCounted, zMle_isCounted), (nat_lit 6, zPle_waitsFor2, zOle_waitsFor2, zMle_waitsFor2), (nat_lit 7, zPle_nameMet, zOle_nameMet, zMle_nameMet), (nat_lit 8, zPle_grown, zOle_grown, zMle_grown)] pCle_leafRead qCle_leafRead) 7).1 [] η2 := by
  have hw : η 0 45 = 1 := hpp.2
  have hs : η 0 7 ≤ η 0 6 := hpp.1.1.1.1
  have bd43 : (0 : Int) ≤ η 0 43 ∧ η 0 43 ≤ 8 := wf_ok (a := 43) (b := 43) (z := (0, 8)) hp.1 (by decide +kernel) (Nat.le_refl _) (Nat.le_refl _)
  have bd44 : (0 : Int) ≤ η 0 44 ∧ η 0 44 ≤ 64 := wf_ok (a := 44) (b := 44) (z := (0, 64)) hp.1 (by decide +kernel) (Nat.le_refl _) (Nat.le_refl _)
  have bd19 : (0 : Int) ≤ η 0 19 ∧ η 0 19 ≤ 64 := wf_ok (a := 19) (b := 19) (z := (0, 64)) hp.1 (by decide +kernel) (Nat.le_refl _) (Nat.le_refl _)
  intro x1 η1 h1 c1 x2 η2 h2 c2
  have y1 : fQle_isSign [40] η x1 η1 := h1.2.2
  have k1 : sQ wl_le zTr zOle_isSign zMle_isSign [40] η x1 η1 ∧ oQle_isSign [40] η x1 η1 := ⟨h1.1, h1.2.1⟩
  have y2 : fQle_isKey [12] η1 x2 η2 := h2.2.2
  have k2 : sQ wl_le zTr zOle_isKey zMle_isKey [12] η1 x2 η2 ∧ oQle_isKey [12] η1 x2 η2 := ⟨h2.1, h2.2.1⟩
  have w0_0_8 : (0 : Int) ≤ η 0 8 ∧ η 0 8 ≤ 6 := wf_ok (a := 8) (b := 8) (z := (0, 6)) hp.1 (by decide +kernel) (Nat.le_refl _) (Nat.le_refl _)
  have c0_0_8 : η 0 8 = η 0 8 := rfl
  have wb1 : wB wl_le zTr η1 := k1.1.1
  have bx1 : (0 : Int) ≤ x1 ∧ x1 ≤ 1 := k1.1.2.1
  have v1 : zEq (η1 0 8) (η 0 8) := (k1.1.2.2.2.1 0 8 (by decide +kernel)).trans rfl
  have c1_0_8 : η1 0 8 = η 0 8 := v1
  have wb2 : wB wl_le zTr η2 := k2.1.1
  have bx2 : (0 : Int) ≤ x2 ∧ x2 ≤ 1 := k2.1.2.1
  have fm1 : zFm zMle_leafRead η η1 := zFm_tr2 zFm_rf k1.1.2.2.2.1 (by decide +kernel)
  have fm2 : zFm zMle_leafRead η η2 := zFm_tr2 fm1 k2.1.2.2.2.1 (by decide +kernel)
  have fmE : zFm zMle_leafRead η η2 := fm2
  have fr22_0 : ∀ j, η 22 j = η 22 j := fun _ => rfl
  have v2 : ∀ j, η1 22 j = η 22 j := fun j => k1.1.2.2.2.1 22 _ (zinr_not (by decide +kernel))
  have fr22_1 : ∀ j, η1 22 j = η 22 j := v2
  have v3 : ∀ j, η2 22 j = η 22 j := fun j => (k2.1.2.2.2.1 22 _ (zinr_not (by decide +kernel))).trans (v2 j)
  have fr22_2 : ∀ j, η2 22 j = η 22 j := v3
  have fr22 : ∀ j, η2 22 j = η 22 j := v3
  have v5 : zEq (η1 0 41) (η 0 41) := (k1.1.2.2.2.1 0 41 (by decide +kernel)).trans rfl
  have v6 : zEq (η2 0 41) (η 0 41) := (k2.1.2.2.2.1 0 41 (by decide +kernel)).trans v5
  have f0_41 : η2 0 41 = η 0 41 := v6
  have w0_0_43 : (0 : Int) ≤ η 0 43 ∧ η 0 43 ≤ 8 := wf_ok (a := 43) (b := 43) (z := (0, 8)) hp.1 (by decide +kernel) (Nat.le_refl _) (Nat.le_refl _)
  have v8 : zEq (η1 0 43) (η 0 43) := (k1.1.2.2.2.1 0 43 (by decide +kernel)).trans rfl
  have v9 : zEq (η2 0 43) (η 0 43) := (k2.1.2.2.2.1 0 43 (by decide +kernel)).trans v8
  have f0_43 : η2 0 43 = η 0 43 := v9
  have v11 : zEq (η1 0 42) (η 0 42) := (k1.1.2.2.2.1 0 42 (by decide +kernel)).trans rfl
  have v12 : zEq (η2 0 42) (η 0 42) := (k2.1.2.2.2.1 0 42 (by decide +kernel)).trans v11
  have f0_42 : η2 0 42 = η 0 42 := v12
  have v14 : zEq (η1 0 45) (η 0 45) := (k1.1.2.2.2.1 0 45 (by decide +kernel)).trans rfl
  have v15 : zEq (η2 0 45) (η 0 45) := (k2.1.2.2.2.1 0 45 (by decide +kernel)).trans v14
  have f0_45 : η2 0 45 = η 0 45 := v15
  have w0_0_19 : (0 : Int) ≤ η 0 19 ∧ η 0 19 ≤ 64 := wf_ok (a := 19) (b := 19) (z := (0, 64)) hp.1 (by decide +kernel) (Nat.le_refl _) (Nat.le_refl _)
  have v17 : zEq (η1 0 19) (η 0 19) := (k1.1.2.2.2.1 0 19 (by decide +kernel)).trans rfl
  have v18 : zEq (η2 0 19) (η 0 19) := (k2.1.2.2.2.1 0 19 (by decide +kernel)).trans v17
  have f0_19 : η2 0 19 = η 0 19 := v18
  have w0_0_44 : (0 : Int) ≤ η 0 44 ∧ η 0 44 ≤ 64 := wf_ok (a := 44) (b := 44) (z := (0, 64)) hp.1 (by decide +kernel) (Nat.le_refl _) (Nat.le_refl _)
  have v20 : zEq (η1 0 44) (η 0 44) := (k1.1.2.2.2.1 0 44 (by decide +kernel)).trans rfl
  have v21 : zEq (η2 0 44) (η 0 44) := (k2.1.2.2.2.1 0 44 (by decide +kernel)).trans v20
  have f0_44 : η2 0 44 = η 0 44 := v21
  have w0_0_7 : (0 : Int) ≤ η 0 7 ∧ η 0 7 ≤ 700 := wf_ok (a := 7) (b := 7) (z := (0, 700)) hp.1 (by decide +kernel) (Nat.le_refl _) (Nat.le_refl _)
  have v23 : zEq (η1 0 7) (η 0 7) := (k1.1.2.2.2.1 0 7 (by decide +kernel)).trans rfl
  have v24 : zEq (η2 0 7) (η 0 7) := (k2.1.2.2.2.1 0 7 (by decide +kernel)).trans v23
  have f0_7 : η2 0 7 = η 0 7 := v24
  have w0_0_6 : (0 : Int) ≤ η 0 6 ∧ η 0 6 ≤ 700 := wf_ok (a := 6) (b := 6) (z := (0, 700)) hp.1 (by decide +kernel) (Nat.le_refl _) (Nat.le_refl _)
  have v26 : zEq (η1 0 6) (η 0 6) := (k1.1.2.2.2.1 0 6 (by decide +kernel)).trans rfl
  have v27 : zEq (η2 0 6) (η 0 6) := (k2.1.2.2.2.1 0 6 (by decide +kernel)).trans v26
  have f0_6 : η2 0 6 = η 0 6 := v27
  have v28 : zEq (η2 0 8) (η 0 8) := (k2.1.2.2.2.1 0 8 (by decide +kernel)).trans v1
  have f0_8 : η2 0 8 = η 0 8 := v28
  have wbE : wB wl_le zTr η2 := wb2
  
  have I0 : H_l 0 0 0 η := hpp.1
  have I1 : H_l 0 0 0 η1 := k1.2.1
  have I2 : H_l 0 0 0 η2 := k2.2.1
  exact I2
set_option maxHeartbeats 8000000 in
theorem zle_leafRead_o3 {ro : Nat → List Int32} (η : zE) (hp : sP wl_le zTr zPle_leafRead [] η) (hpp : pPle_leafRead [] η) : ∀ (x1 : Int) (η1 : zE), ((gC2 wl_le [(nat_lit 0, zPle_isSign, zOle_isSign, zMle_isSign), (nat_lit 1, zPle_wrong, zOle_wrong, zMle_wrong), (nat_lit 2, zPle_waitsFor0, zOle_waitsFor0, zMle_waitsFor0), (nat_lit 3, zPle_token, zOle_token, zMle_token), (nat_lit 4, zPle_isKey, zOle_isKey, zMle_isKey), (nat_lit 5, zPle_isCounted, zOle_isCounted, zMle_isCounted), (nat_lit 6, zPle_waitsFor2, zOle_waitsFor2, zMle_waitsFor2), (nat_lit 7, zPle_nameMet, zOle_nameMet, zMle_nameMet), (nat_lit 8, zPle_grown, zOle_grown, zMle_grown)] pCle_leafRead qCle_leafRead) 0).2 [40] η x1 η1 → (x1 = 0) → ∀ (x2 : Int) (η2 : zE), ((gC2 wl_le [(nat_lit 0, zPle_isSign, zOle_isSign, zMle_isSign), (nat_lit 1, zPle_wrong, zOle_wrong, zMle_wrong), (nat_lit 2, zPle_waitsFor0, zOle_waitsFor0, zMle_waitsFor0), (nat_lit 3, zPle_token, zOle_token, zMle_token), (nat_lit 4, zPle_isKey, zOle_isKey, zMle_isKey), (nat_lit 5, zPle_isCounted, zOle_isCounted, zMle_isCounted), (nat_lit 6, zPle_waitsFor2, zOle_waitsFor2, zMle_waitsFor2), (nat_lit 7, zPle_nameMet, zOle_nameMet, zMle_nameMet), (nat_lit 8, zPle_grown, zOle_grown, zMle_grown)] pCle_leafRead qCle_leafRead) 4).2 [12] η1 x2 η2 → (x2 = 0) → ∀ (x3 : Int) (η3 : zE), ((gC2 wl_le [(nat_lit 0, zPle_isSign, zOle_isSign, zMle_isSign), (nat_lit 1, zPle_wrong, zOle_wrong, zMle_wrong), (nat_lit 2, zPle_waitsFor0, zOle_waitsFor0, zMle_waitsFor0), (nat_lit 3, zPle_token, zOle_token, zMle_token), (nat_lit 4, zPle_isKey, zOle_isKey, zMle_isKey), (nat_lit 5, zPle_isCounted, zOle_isCounted, zMle_isCounted), (nat_lit 6, zPle_waitsFor2, zOle_waitsFor2, zMle_waitsFor2), (nat_lit 7, zPle_nameMet, zOle_nameMet, zMle_nameMet), (nat_lit 8, zPle_grown, zOle_grown, zMle_grown)] pCle_leafRead qCle_leafRead) 7).2 [] η2 x3 η3 → (0 ≤ x3) → (0 ≤ x3) → ((gC2 wl_le [(nat_lit 0, zPle_isSign, zOle_isSign, zMle_isSign), (nat_lit 1, zPle_wrong, zOle_wrong, zMle_wrong), (nat_lit 2, zPle_waitsFor0, zOle_waitsFor0, zMle_waitsFor0), (nat_lit 3, zPle_token, zOle_token, zMle_token), (nat_lit 4, zPle_isKey, zOle_isKey, zMle_isKey), (nat_lit 5, zPle_isCounted, zOle_isCounted, zMle_isCounted), (nat_lit 6, zPle_waitsFor2, zOle_waitsFor2, zMle_waitsFor2), (nat_lit 7, zPle_nameMet, zOle_nameMet, zMle_nameMet), (nat_lit 8, zPle_grown, zOle_grown, zMle_grown)] pCle_leafRead qCle_leafRead) 5).1 [] η3 := by
  have hw : η 0 45 = 1 := hpp.2
  have hs : η 0 7 ≤ η 0 6 := hpp.1.1.1.1
  have bd43 : (0 : Int) ≤ η 0 43 ∧ η 0 43 ≤ 8 := wf_ok (a := 43) (b := 43) (z := (0, 8)) hp.1 (by decide +kernel) (Nat.le_refl _) (Nat.le_refl _)
  have bd44 : (0 : Int) ≤ η 0 44 ∧ η 0 44 ≤ 64 := wf_ok (a := 44) (b := 44) (z := (0, 64)) hp.1 (by decide +kernel) (Nat.le_refl _) (Nat.le_refl _)
  have bd19 : (0 : Int) ≤ η 0 19 ∧ η 0 19 ≤ 64 := wf_ok (a := 19) (b := 19) (z := (0, 64)) hp.1 (by decide +kernel) (Nat.le_refl _) (Nat.le_refl _)
  intro x1 η1 h1 c1 x2 η2 h2 c2 x3 η3 h3 c3 c4
  have y1 : fQle_isSign [40] η x1 η1 := h1.2.2
  have k1 : sQ wl_le zTr zOle_isSign zMle_isSign [40] η x1 η1 ∧ oQle_isSign [40] η x1 η1 := ⟨h1.1, h1.2.1⟩
  have y2 : fQle_isKey [12] η1 x2 η2 := h2.2.2
  have k2 : sQ wl_le zTr zOle_isKey zMle_isKey [12] η1 x2 η2 ∧ oQle_isKey [12] η1 x2 η2 := ⟨h2.1, h2.2.1⟩
  have y3 : fQle_nameMet [] η2 x3 η3 := h3.2.2
  have k3 : sQ wl_le zTr zOle_nameMet zMle_nameMet [] η2 x3 η3 ∧ oQle_nameMet [] η2 x3 η3 := ⟨h3.1, h3.2.1⟩
  have w0_0_8 : (0 : Int) ≤ η 0 8 ∧ η 0 8 ≤ 6 := wf_ok (a := 8) (b := 8) (z := (0, 6)) hp.1 (by decide +kernel) (Nat.le_refl _) (Nat.le_refl _)
  have c0_0_8 : η 0 8 = η 0 8 := rfl
  have wb1 : wB wl_le zTr η1 := k1.1.1
  have bx1 : (0 : Int) ≤ x1 ∧ x1 ≤ 1 := k1.1.2.1
  have v1 : zEq (η1 0 8) (η 0 8) := (k1.1.2.2.2.1 0 8 (by decide +kernel)).trans rfl
  have c1_0_8 : η1 0 8 = η 0 8 := v1
  have wb2 : wB wl_le zTr η2 := k2.1.1
  have bx2 : (0 : Int) ≤ x2 ∧ x2 ≤ 1 := k2.1.2.1
  have v2 : zEq (η2 0 8) (η 0 8) := (k2.1.2.2.2.1 0 8 (by decide +kernel)).trans v1
  have c2_0_8 : η2 0 8 = η 0 8 := v2
  have wb3 : wB wl_le zTr η3 := k3.1.1
  have bx3 : ((-1) : Int) ≤ x3 ∧ x3 ≤ 6 := k3.1.2.1
  have fm1 : zFm zMle_leafRead η η1 := zFm_tr2 zFm_rf k1.1.2.2.2.1 (by decide +kernel)
  have fm2 : zFm zMle_leafRead η η2 := zFm_tr2 fm1 k2.1.2.2.2.1 (by decide +kernel)
  have fm3 : zFm zMle_leafRead η η3 := zFm_tr2 fm2 k3.1.2.2.2.1 (by decide +kernel)
  have fmE : zFm zMle_leafRead η η3 := fm3
  have fr22_0 : ∀ j, η 22 j = η 22 j := fun _ => rfl
  have v3 : ∀ j, η1 22 j = η 22 j := fun j => k1.1.2.2.2.1 22 _ (zinr_not (by decide +kernel))
  have fr22_1 : ∀ j, η1 22 j = η 22 j := v3
  have v4 : ∀ j, η2 22 j = η 22 j := fun j => (k2.1.2.2.2.1 22 _ (zinr_not (by decide +kernel))).trans (v3 j)
  have fr22_2 : ∀ j, η2 22 j = η 22 j := v4
  have v5 : ∀ j, η3 22 j = η 22 j := fun j => (k3.1.2.2.2.1 22 _ (zinr_not (by decide +kernel))).trans (v4 j)
  have fr22_3 : ∀ j, η3 22 j = η 22 j := v5
  have fr22 : ∀ j, η3 22 j = η 22 j := v5
  have v7 : zEq (η1 0 41) (η 0 41) := (k1.1.2.2.2.1 0 41 (by decide +kernel)).trans rfl
  have v8 : zEq (η2 0 41) (η 0 41) := (k2.1.2.2.2.1 0 41 (by decide +kernel)).trans v7
  have v9 : zEq (η3 0 41) (η 0 41) := (k3.1.2.2.2.1 0 41 (by decide +kernel)).trans v8
  have f0_41 : η3 0 41 = η 0 41 := v9
  have w0_0_43 : (0 : Int) ≤ η 0 43 ∧ η 0 43 ≤ 8 := wf_ok (a := 43) (b := 43) (z := (0, 8)) hp.1 (by decide +kernel) (Nat.le_refl _) (Nat.le_refl _)
  have v11 : zEq (η1 0 43) (η 0 43) := (k1.1.2.2.2.1 0 43 (by decide +kernel)).trans rfl
  have v12 : zEq (η2 0 43) (η 0 43) := (k2.1.2.2.2.1 0 43 (by decide +kernel)).trans v11
  have v13 : zEq (η3 0 43) (η 0 43) := (k3.1.2.2.2.1 0 43 (by decide +kernel)).trans v12
  have f0_43 : η3 0 43 = η 0 43 := v13
  have v15 : zEq (η1 0 42) (η 0 42) := (k1.1.2.2.2.1 0 42 (by decide +kernel)).trans rfl
  have v16 : zEq (η2 0 42) (η 0 42) := (k2.1.2.2.2.1 0 42 (by decide +kernel)).trans v15
  have v17 : zEq (η3 0 42) (η 0 42) := (k3.1.2.2.2.1 0 42 (by decide +kernel)).trans v16
  have f0_42 : η3 0 42 = η 0 42 := v17
  have v19 : zEq (η1 0 45) (η 0 45) := (k1.1.2.2.2.1 0 45 (by decide +kernel)).trans rfl
  have v20 : zEq (η2 0 45) (η 0 45) := (k2.1.2.2.2.1 0 45 (by decide +kernel)).trans v19
  have v21 : zEq (η3 0 45) (η 0 45) := (k3.1.2.2.2.1 0 45 (by decide +kernel)).trans v20
  have f0_45 : η3 0 45 = η 0 45 := v21
  have w0_0_19 : (0 : Int) ≤ η 0 19 ∧ η 0 19 ≤ 64 := wf_ok (a := 19) (b := 19) (z := (0, 64)) hp.1 (by decide +kernel) (Nat.le_refl _) (Nat.le_refl _)
  have v23 : zEq (η1 0 19) (η 0 19) := (k1.1.2.2.2.1 0 19 (by decide +kernel)).trans rfl
  have v24 : zEq (η2 0 19) (η 0 19) := (k2.1.2.2.2.1 0 19 (by decide +kernel)).trans v23
  have v25 : zEq (η3 0 19) (η 0 19) := (k3.1.2.2.2.1 0 19 (by decide +kernel)).trans v24
  have f0_19 : η3 0 19 = η 0 19 := v25
  have w0_0_44 : (0 : Int) ≤ η 0 44 ∧ η 0 44 ≤ 64 := wf_ok (a := 44) (b := 44) (z := (0, 64)) hp.1 (by decide +kernel) (Nat.le_refl _) (Nat.le_refl _)
  have v27 : zEq (η1 0 44) (η 0 44) := (k1.1.2.2.2.1 0 44 (by decide +kernel)).trans rfl
  have v28 : zEq (η2 0 44) (η 0 44) := (k2.1.2.2.2.1 0 44 (by decide +kernel)).trans v27
  have v29 : zEq (η3 0 44) (η 0 44) := (k3.1.2.2.2.1 0 44 (by decide +kernel)).trans v28
  have f0_44 : η3 0 44 = η 0 44 := v29
  have w0_0_7 : (0 : Int) ≤ η 0 7 ∧ η 0 7 ≤ 700 := wf_ok (a := 7) (b := 7) (z := (0, 700)) hp.1 (by decide +kernel) (Nat.le_refl _) (Nat.le_refl _)
  have v31 : zEq (η1 0 7) (η 0 7) := (k1.1.2.2.2.1 0 7 (by decide +kernel)).trans rfl
  have v32 : zEq (η2 0 7) (η 0 7) := (k2.1.2.2.2.1 0 7 (by decide +kernel)).trans v31
  have v33 : zEq (η3 0 7) (η 0 7) := (k3.1.2.2.2.1 0 7 (by decide +kernel)).trans v32
  have f0_7 : η3 0 7 = η 0 7 := v33
  have w0_0_6 : (0 : Int) ≤ η 0 6 ∧ η 0 6 ≤ 700 := wf_ok (a := 6) (b := 6) (z := (0, 700)) hp.1 (by decide +kernel) (Nat.le_refl _) (Nat.le_refl _)
  have v35 : zEq (η1 0 6) (η 0 6) := (k1.1.2.2.2.1 0 6 (by decide +kernel)).trans rfl
  have v36 : zEq (η2 0 6) (η 0 6) := (k2.1.2.2.2.1 0 6 (by decide +kernel)).trans v35
  have v37 : zEq (η3 0 6) (η 0 6) := (k3.1.2.2.2.1 0 6 (by decide +kernel)).trans v36
  have f0_6 : η3 0 6 = η 0 6 := v37
  have v38 : zEq (η3 0 8) (η 0 8) := (k3.1.2.2.2.1 0 8 (by decide +kernel)).trans v2
  have f0_8 : η3 0 8 = η 0 8 := v38
  have wbE : wB wl_le zTr η3 := wb3
  
  have I0 : H_l 0 0 0 η := hpp.1
  have I1 : H_l 0 0 0 η1 := k1.2.1
  have I2 : H_l 0 0 0 η2 := k2.2.1
  have I3 : H_l 0 0 0 η3 := k3.2.1
  have qk3 : η2 0 8 = 1 := k3.2.2 c3
  exact I3
set_option maxHeartbeats 8000000 in
theorem zle_leafRead_o4 {ro : Nat → List Int32} (η : zE) (hp : sP wl_le zTr zPle_leafRead [] η) (hpp : pPle_leafRead [] η) : ∀ (x1 : Int) (η1 : zE), ((gC2 wl_le [(nat_lit 0, zPle_isSign, zOle_isSign, zMle_isSign), (nat_lit 1, zPle_wrong, zOle_wrong, zMle_wrong), (nat_lit 2, zPle_waitsFor0, zOle_waitsFor0, zMle_waitsFor0), (nat_lit 3, zPle_token, zOle_token, zMle_token), (nat_lit 4, zPle_isKey, zOle_isKey, zMle_isKey), (nat_lit 5, zPle_isCounted, zOle_isCounted, zMle_isCounted), (nat_lit 6, zPle_waitsFor2, zOle_waitsFor2, zMle_waitsFor2), (nat_lit 7, zPle_nameMet, zOle_nameMet, zMle_nameMet), (nat_lit 8, zPle_grown, zOle_grown, zMle_grown)] pCle_leafRead qCle_leafRead) 0).2 [40] η x1 η1 → (x1 = 0) → ∀ (x2 : Int) (η2 : zE), ((gC2 wl_le [(nat_lit 0, zPle_isSign, zOle_isSign, zMle_isSign), (nat_lit 1, zPle_wrong, zOle_wrong, zMle_wrong), (nat_lit 2, zPle_waitsFor0, zOle_waitsFor0, zMle_waitsFor0), (nat_lit 3, zPle_token, zOle_token, zMle_token), (nat_lit 4, zPle_isKey, zOle_isKey, zMle_isKey), (nat_lit 5, zPle_isCounted, zOle_isCounted, zMle_isCounted), (nat_lit 6, zPle_waitsFor2, zOle_waitsFor2, zMle_waitsFor2), (nat_lit 7, zPle_nameMet, zOle_nameMet, zMle_nameMet), (nat_lit 8, zPle_grown, zOle_grown, zMle_grown)] pCle_leafRead qCle_leafRead) 4).2 [12] η1 x2 η2 → (x2 = 0) → ∀ (x3 : Int) (η3 : zE), ((gC2 wl_le [(nat_lit 0, zPle_isSign, zOle_isSign, zMle_isSign), (nat_lit 1, zPle_wrong, zOle_wrong, zMle_wrong), (nat_lit 2, zPle_waitsFor0, zOle_waitsFor0, zMle_waitsFor0), (nat_lit 3, zPle_token, zOle_token, zMle_token), (nat_lit 4, zPle_isKey, zOle_isKey, zMle_isKey), (nat_lit 5, zPle_isCounted, zOle_isCounted, zMle_isCounted), (nat_lit 6, zPle_waitsFor2, zOle_waitsFor2, zMle_waitsFor2), (nat_lit 7, zPle_nameMet, zOle_nameMet, zMle_nameMet), (nat_lit 8, zPle_grown, zOle_grown, zMle_grown)] pCle_leafRead qCle_leafRead) 7).2 [] η2 x3 η3 → (0 ≤ x3) → (0 ≤ x3) → ∀ (x4 : Int) (η4 : zE), ((gC2 wl_le [(nat_lit 0, zPle_isSign, zOle_isSign, zMle_isSign), (nat_lit 1, zPle_wrong, zOle_wrong, zMle_wrong), (nat_lit 2, zPle_waitsFor0, zOle_waitsFor0, zMle_waitsFor0), (nat_lit 3, zPle_token, zOle_token, zMle_token), (nat_lit 4, zPle_isKey, zOle_isKey, zMle_isKey), (nat_lit 5, zPle_isCounted, zOle_isCounted, zMle_isCounted), (nat_lit 6, zPle_waitsFor2, zOle_waitsFor2, zMle_waitsFor2), (nat_lit 7, zPle_nameMet, zOle_nameMet, zMle_nameMet), (nat_lit 8, zPle_grown, zOle_grown, zMle_grown)] pCle_leafRead qCle_leafRead) 5).2 [] η3 x4 η4 → (¬ x4 = 0) → (0 ≤ x3) → (0 ≤ x3) → ((gC2 wl_le [(nat_lit 0, zPle_isSign, zOle_isSign, zMle_isSign), (nat_lit 1, zPle_wrong, zOle_wrong, zMle_wrong), (nat_lit 2, zPle_waitsFor0, zOle_waitsFor0, zMle_waitsFor0), (nat_lit 3, zPle_token, zOle_token, zMle_token), (nat_lit 4, zPle_isKey, zOle_isKey, zMle_isKey), (nat_lit 5, zPle_isCounted, zOle_isCounted, zMle_isCounted), (nat_lit 6, zPle_waitsFor2, zOle_waitsFor2, zMle_waitsFor2), (nat_lit 7, zPle_nameMet, zOle_nameMet, zMle_nameMet), (nat_lit 8, zPle_grown, zOle_grown, zMle_grown)] pCle_leafRead qCle_leafRead) 8).1 [1, x3, 0] η4 := by
  have hw : η 0 45 = 1 := hpp.2
  have hs : η 0 7 ≤ η 0 6 := hpp.1.1.1.1
  have bd43 : (0 : Int) ≤ η 0 43 ∧ η 0 43 ≤ 8 := wf_ok (a := 43) (b := 43) (z := (0, 8)) hp.1 (by decide +kernel) (Nat.le_refl _) (Nat.le_refl _)
  have bd44 : (0 : Int) ≤ η 0 44 ∧ η 0 44 ≤ 64 := wf_ok (a := 44) (b := 44) (z := (0, 64)) hp.1 (by decide +kernel) (Nat.le_refl _) (Nat.le_refl _)
  have bd19 : (0 : Int) ≤ η 0 19 ∧ η 0 19 ≤ 64 := wf_ok (a := 19) (b := 19) (z := (0, 64)) hp.1 (by decide +kernel) (Nat.le_refl _) (Nat.le_refl _)
  intro x1 η1 h1 c1 x2 η2 h2 c2 x3 η3 h3 c3 c4 x4 η4 h4 c5 c6 c7
  have y1 : fQle_isSign [40] η x1 η1 := h1.2.2
  have k1 : sQ wl_le zTr zOle_isSign zMle_isSign [40] η x1 η1 ∧ oQle_isSign [40] η x1 η1 := ⟨h1.1, h1.2.1⟩
  have y2 : fQle_isKey [12] η1 x2 η2 := h2.2.2
  have k2 : sQ wl_le zTr zOle_isKey zMle_isKey [12] η1 x2 η2 ∧ oQle_isKey [12] η1 x2 η2 := ⟨h2.1, h2.2.1⟩
  have y3 : fQle_nameMet [] η2 x3 η3 := h3.2.2
  have k3 : sQ wl_le zTr zOle_nameMet zMle_nameMet [] η2 x3 η3 ∧ oQle_nameMet [] η2 x3 η3 := ⟨h3.1, h3.2.1⟩
  have y4 : fQle_isCounted [] η3 x4 η4 := h4.2.2
  have k4 : sQ wl_le zTr zOle_isCounted zMle_isCounted [] η3 x4 η4 ∧ oQle_isCounted [] η3 x4 η4 := ⟨h4.1, h4.2.1⟩
  have w0_0_8 : (0 : Int) ≤ η 0 8 ∧ η 0 8 ≤ 6 := wf_ok (a := 8) (b := 8) (z := (0, 6)) hp.1 (by decide +kernel) (Nat.le_refl _) (Nat.le_refl _)
  have c0_0_8 : η 0 8 = η 0 8 := rfl
  have wb1 : wB wl_le zTr η1 := k1.1.1
  have bx1 : (0 : Int) ≤ x1 ∧ x1 ≤ 1 := k1.1.2.1
  have v1 : zEq (η1 0 8) (η 0 8) := (k1.1.2.2.2.1 0 8 (by decide +kernel)).trans rfl
  have c1_0_8 : η1 0 8 = η 0 8 := v1
  have wb2 : wB wl_le zTr η2 := k2.1.1
  have bx2 : (0 : Int) ≤ x2 ∧ x2 ≤ 1 := k2.1.2.1
  have v2 : zEq (η2 0 8) (η 0 8) := (k2.1.2.2.2.1 0 8 (by decide +kernel)).trans v1
  have c2_0_8 : η2 0 8 = η 0 8 := v2
  have wb3 : wB wl_le zTr η3 := k3.1.1
  have bx3 : ((-1) : Int) ≤ x3 ∧ x3 ≤ 6 := k3.1.2.1
  have v3 : zEq (η3 0 8) (η 0 8) := (k3.1.2.2.2.1 0 8 (by decide +kernel)).trans v2
  have c3_0_8 : η3 0 8 = η 0 8 := v3
  have wb4 : wB wl_le zTr η4 := k4.1.1
  have bx4 : (0 : Int) ≤ x4 ∧ x4 ≤ 1 := k4.1.2.1
  have fm1 : zFm zMle_leafRead η η1 := zFm_tr2 zFm_rf k1.1.2.2.2.1 (by decide +kernel)
  have fm2 : zFm zMle_leafRead η η2 := zFm_tr2 fm1 k2.1.2.2.2.1 (by decide +kernel)
  have fm3 : zFm zMle_leafRead η η3 := zFm_tr2 fm2 k3.1.2.2.2.1 (by decide +kernel)
  have fm4 : zFm zMle_leafRead η η4 := zFm_tr2 fm3 k4.1.2.2.2.1 (by decide +kernel)
  have fmE : zFm zMle_leafRead η η4 := fm4
  have fr22_0 : ∀ j, η 22 j = η 22 j := fun _ => rfl
  have v4 : ∀ j, η1 22 j = η 22 j := fun j => k1.1.2.2.2.1 22 _ (zinr_not (by decide +kernel))
  have fr22_1 : ∀ j, η1 22 j = η 22 j := v4
  have v5 : ∀ j, η2 22 j = η 22 j := fun j => (k2.1.2.2.2.1 22 _ (zinr_not (by decide +kernel))).trans (v4 j)
  have fr22_2 : ∀ j, η2 22 j = η 22 j := v5
  have v6 : ∀ j, η3 22 j = η 22 j := fun j => (k3.1.2.2.2.1 22 _ (zinr_not (by decide +kernel))).trans (v5 j)
  have fr22_3 : ∀ j, η3 22 j = η 22 j := v6
  have v7 : ∀ j, η4 22 j = η 22 j := fun j => (k4.1.2.2.2.1 22 _ (zinr_not (by decide +kernel))).trans (v6 j)
  have fr22_4 : ∀ j, η4 22 j = η 22 j := v7
  have fr22 : ∀ j, η4 22 j = η 22 j := v7
  have v9 : zEq (η1 0 41) (η 0 41) := (k1.1.2.2.2.1 0 41 (by decide +kernel)).trans rfl
  have v10 : zEq (η2 0 41) (η 0 41) := (k2.1.2.2.2.1 0 41 (by decide +kernel)).trans v9
  have v11 : zEq (η3 0 41) (η 0 41) := (k3.1.2.2.2.1 0 41 (by decide +kernel)).trans v10
  have v12 : zEq (η4 0 41) (η 0 41) := (k4.1.2.2.2.1 0 41 (by decide +kernel)).trans v11
  have f0_41 : η4 0 41 = η 0 41 := v12
  have w0_0_43 : (0 : Int) ≤ η 0 43 ∧ η 0 43 ≤ 8 := wf_ok (a := 43) (b := 43) (z := (0, 8)) hp.1 (by decide +kernel) (Nat.le_refl _) (Nat.le_refl _)
  have v14 : zEq (η1 0 43) (η 0 43) := (k1.1.2.2.2.1 0 43 (by decide +kernel)).trans rfl
  have v15 : zEq (η2 0 43) (η 0 43) := (k2.1.2.2.2.1 0 43 (by decide +kernel)).trans v14
  have v16 : zEq (η3 0 43) (η 0 43) := (k3.1.2.2.2.1 0 43 (by decide +kernel)).trans v15
  have v17 : zEq (η4 0 43) (η 0 43) := (k4.1.2.2.2.1 0 43 (by decide +kernel)).trans v16
  have f0_43 : η4 0 43 = η 0 43 := v17
  have v19 : zEq (η1 0 42) (η 0 42) := (k1.1.2.2.2.1 0 42 (by decide +kernel)).trans rfl
  have v20 : zEq (η2 0 42) (η 0 42) := (k2.1.2.2.2.1 0 42 (by decide +kernel)).trans v19
  have v21 : zEq (η3 0 42) (η 0 42) := (k3.1.2.2.2.1 0 42 (by decide +kernel)).trans v20
  have v22 : zEq (η4 0 42) (η 0 42) := (k4.1.2.2.2.1 0 42 (by decide +kernel)).trans v21
  have f0_42 : η4 0 42 = η 0 42 := v22
  have v24 : zEq (η1 0 45) (η 0 45) := (k1.1.2.2.2.1 0 45 (by decide +kernel)).trans rfl
  have v25 : zEq (η2 0 45) (η 0 45) := (k2.1.2.2.2.1 0 45 (by decide +kernel)).trans v24
  have v26 : zEq (η3 0 45) (η 0 45) := (k3.1.2.2.2.1 0 45 (by decide +kernel)).trans v25
  have v27 : zEq (η4 0 45) (η 0 45) := (k4.1.2.2.2.1 0 45 (by decide +kernel)).trans v26
  have f0_45 : η4 0 45 = η 0 45 := v27
  have w0_0_19 : (0 : Int) ≤ η 0 19 ∧ η 0 19 ≤ 64 := wf_ok (a := 19) (b := 19) (z := (0, 64)) hp.1 (by decide +kernel) (Nat.le_refl _) (Nat.le_refl _)
  have v29 : zEq (η1 0 19) (η 0 19) := (k1.1.2.2.2.1 0 19 (by decide +kernel)).trans rfl
  have v30 : zEq (η2 0 19) (η 0 19) := (k2.1.2.2.2.1 0 19 (by decide +kernel)).trans v29
  have v31 : zEq (η3 0 19) (η 0 19) := (k3.1.2.2.2.1 0 19 (by decide +kernel)).trans v30
  have v32 : zEq (η4 0 19) (η 0 19) := (k4.1.2.2.2.1 0 19 (by decide +kernel)).trans v31
  have f0_19 : η4 0 19 = η 0 19 := v32
  have w4_0_44 : (0 : Int) ≤ η4 0 44 ∧ η4 0 44 ≤ 64 := wf_ok (a := 44) (b := 44) (z := (0, 64)) k4.1.1 (by decide +kernel) (Nat.le_refl _) (Nat.le_refl _)
  have f0_44 : η4 0 44 = η4 0 44 := rfl
  have w0_0_7 : (0 : Int) ≤ η 0 7 ∧ η 0 7 ≤ 700 := wf_ok (a := 7) (b := 7) (z := (0, 700)) hp.1 (by decide +kernel) (Nat.le_refl _) (Nat.le_refl _)
  have v35 : zEq (η1 0 7) (η 0 7) := (k1.1.2.2.2.1 0 7 (by decide +kernel)).trans rfl
  have v36 : zEq (η2 0 7) (η 0 7) := (k2.1.2.2.2.1 0 7 (by decide +kernel)).trans v35
  have v37 : zEq (η3 0 7) (η 0 7) := (k3.1.2.2.2.1 0 7 (by decide +kernel)).trans v36
  have v38 : zEq (η4 0 7) (η 0 7) := (k4.1.2.2.2.1 0 7 (by decide +kernel)).trans v37
  have f0_7 : η4 0 7 = η 0 7 := v38
  have w0_0_6 : (0 : Int) ≤ η 0 6 ∧ η 0 6 ≤ 700 := wf_ok (a := 6) (b := 6) (z := (0, 700)) hp.1 (by decide +kernel) (Nat.le_refl _) (Nat.le_refl _)
  have v40 : zEq (η1 0 6) (η 0 6) := (k1.1.2.2.2.1 0 6 (by decide +kernel)).trans rfl
  have v41 : zEq (η2 0 6) (η 0 6) := (k2.1.2.2.2.1 0 6 (by decide +kernel)).trans v40
  have v42 : zEq (η3 0 6) (η 0 6) := (k3.1.2.2.2.1 0 6 (by decide +kernel)).trans v41
  have v43 : zEq (η4 0 6) (η 0 6) := (k4.1.2.2.2.1 0 6 (by decide +kernel)).trans v42
  have f0_6 : η4 0 6 = η 0 6 := v43
  have v44 : zEq (η4 0 8) (η 0 8) := (k4.1.2.2.2.1 0 8 (by decide +kernel)).trans v3
  have f0_8 : η4 0 8 = η 0 8 := v44
  have wbE : wB wl_le zTr η4 := wb4
  
  have I0 : H_l 0 0 0 η := hpp.1
  have I1 : H_l 0 0 0 η1 := k1.2.1
  have I2 : H_l 0 0 0 η2 := k2.2.1
  have I3 : H_l 0 0 0 η3 := k3.2.1
  have qk3 : η2 0 8 = 1 := k3.2.2 c3
  have I4 : H_l 1 0 0 η4 := k4.2.1 c5
  obtain ⟨j1, j2, j3, j4⟩ := I4.2
  have cn := cz_n (η := η4) (η4 0 41).toNat
  exact ⟨Or.inl I4, ⟨fun _ => ⟨show 0 ≤ x3 by omega, show x3 ≤ 6 by omega⟩, fun _ w => absurd rfl w, fun _ w => absurd rfl w⟩, show 0 ≤ η4 0 42 by omega, show η4 0 42 ≤ 95 by omega⟩
set_option maxHeartbeats 8000000 in
theorem zle_leafRead_o5 {ro : Nat → List Int32} (η : zE) (hp : sP wl_le zTr zPle_leafRead [] η) (hpp : pPle_leafRead [] η) : ∀ (x1 : Int) (η1 : zE), ((gC2 wl_le [(nat_lit 0, zPle_isSign, zOle_isSign, zMle_isSign), (nat_lit 1, zPle_wrong, zOle_wrong, zMle_wrong), (nat_lit 2, zPle_waitsFor0, zOle_waitsFor0, zMle_waitsFor0), (nat_lit 3, zPle_token, zOle_token, zMle_token), (nat_lit 4, zPle_isKey, zOle_isKey, zMle_isKey), (nat_lit 5, zPle_isCounted, zOle_isCounted, zMle_isCounted), (nat_lit 6, zPle_waitsFor2, zOle_waitsFor2, zMle_waitsFor2), (nat_lit 7, zPle_nameMet, zOle_nameMet, zMle_nameMet), (nat_lit 8, zPle_grown, zOle_grown, zMle_grown)] pCle_leafRead qCle_leafRead) 0).2 [40] η x1 η1 → (x1 = 0) → ∀ (x2 : Int) (η2 : zE), ((gC2 wl_le [(nat_lit 0, zPle_isSign, zOle_isSign, zMle_isSign), (nat_lit 1, zPle_wrong, zOle_wrong, zMle_wrong), (nat_lit 2, zPle_waitsFor0, zOle_waitsFor0, zMle_waitsFor0), (nat_lit 3, zPle_token, zOle_token, zMle_token), (nat_lit 4, zPle_isKey, zOle_isKey, zMle_isKey), (nat_lit 5, zPle_isCounted, zOle_isCounted, zMle_isCounted), (nat_lit 6, zPle_waitsFor2, zOle_waitsFor2, zMle_waitsFor2), (nat_lit 7, zPle_nameMet, zOle_nameMet, zMle_nameMet), (nat_lit 8, zPle_grown, zOle_grown, zMle_grown)] pCle_leafRead qCle_leafRead) 4).2 [12] η1 x2 η2 → (x2 = 0) → ∀ (x3 : Int) (η3 : zE), ((gC2 wl_le [(nat_lit 0, zPle_isSign, zOle_isSign, zMle_isSign), (nat_lit 1, zPle_wrong, zOle_wrong, zMle_wrong), (nat_lit 2, zPle_waitsFor0, zOle_waitsFor0, zMle_waitsFor0), (nat_lit 3, zPle_token, zOle_token, zMle_token), (nat_lit 4, zPle_isKey, zOle_isKey, zMle_isKey), (nat_lit 5, zPle_isCounted, zOle_isCounted, zMle_isCounted), (nat_lit 6, zPle_waitsFor2, zOle_waitsFor2, zMle_waitsFor2), (nat_lit 7, zPle_nameMet, zOle_nameMet, zMle_nameMet), (nat_lit 8, zPle_grown, zOle_grown, zMle_grown)] pCle_leafRead qCle_leafRead) 7).2 [] η2 x3 η3 → (0 ≤ x3) → (0 ≤ x3) → ∀ (x4 : Int) (η4 : zE), ((gC2 wl_le [(nat_lit 0, zPle_isSign, zOle_isSign, zMle_isSign), (nat_lit 1, zPle_wrong, zOle_wrong, zMle_wrong), (nat_lit 2, zPle_waitsFor0, zOle_waitsFor0, zMle_waitsFor0), (nat_lit 3, zPle_token, zOle_token, zMle_token), (nat_lit 4, zPle_isKey, zOle_isKey, zMle_isKey), (nat_lit 5, zPle_isCounted, zOle_isCounted, zMle_isCounted), (nat_lit 6, zPle_waitsFor2, zOle_waitsFor2, zMle_waitsFor2), (nat_lit 7, zPle_nameMet, zOle_nameMet, zMle_nameMet), (nat_lit 8, zPle_grown, zOle_grown, zMle_grown)] pCle_leafRead qCle_leafRead) 5).2 [] η3 x4 η4 → (¬ x4 = 0) → (0 ≤ x3) → (0 ≤ x3) → ∀ (x5 : Int) (η5 : zE), ((gC2 wl_le [(nat_lit 0, zPle_isSign, zOle_isSign, zMle_isSign), (nat_lit 1, zPle_wrong, zOle_wrong, zMle_wrong), (nat_lit 2, zPle_waitsFor0, zOle_waitsFor0, zMle_waitsFor0), (nat_lit 3, zPle_token, zOle_token, zMle_token), (nat_lit 4, zPle_isKey, zOle_isKey, zMle_isKey), (nat_lit 5, zPle_isCounted, zOle_isCounted, zMle_isCounted), (nat_lit 6, zPle_waitsFor2, zOle_waitsFor2, zMle_waitsFor2), (nat_lit 7, zPle_nameMet, zOle_nameMet, zMle_nameMet), (nat_lit 8, zPle_grown, zOle_grown, zMle_grown)] pCle_leafRead qCle_leafRead) 8).2 [1, x3, 0] η4 x5 η5 → ∀ η6 : zE, η6 = zup η5 0 (Int.toNat 45) 0 → ((gC2 wl_le [(nat_lit 0, zPle_isSign, zOle_isSign, zMle_isSign), (nat_lit 1, zPle_wrong, zOle_wrong, zMle_wrong), (nat_lit 2, zPle_waitsFor0, zOle_waitsFor0, zMle_waitsFor0), (nat_lit 3, zPle_token, zOle_token, zMle_token), (nat_lit 4, zPle_isKey, zOle_isKey, zMle_isKey), (nat_lit 5, zPle_isCounted, zOle_isCounted, zMle_isCounted), (nat_lit 6, zPle_waitsFor2, zOle_waitsFor2, zMle_waitsFor2), (nat_lit 7, zPle_nameMet, zOle_nameMet, zMle_nameMet), (nat_lit 8, zPle_grown, zOle_grown, zMle_grown)] pCle_leafRead qCle_leafRead) 3).1 [] η6 := by
  have hw : η 0 45 = 1 := hpp.2
  have hs : η 0 7 ≤ η 0 6 := hpp.1.1.1.1
  have bd43 : (0 : Int) ≤ η 0 43 ∧ η 0 43 ≤ 8 := wf_ok (a := 43) (b := 43) (z := (0, 8)) hp.1 (by decide +kernel) (Nat.le_refl _) (Nat.le_refl _)
  have bd44 : (0 : Int) ≤ η 0 44 ∧ η 0 44 ≤ 64 := wf_ok (a := 44) (b := 44) (z := (0, 64)) hp.1 (by decide +kernel) (Nat.le_refl _) (Nat.le_refl _)
  have bd19 : (0 : Int) ≤ η 0 19 ∧ η 0 19 ≤ 64 := wf_ok (a := 19) (b := 19) (z := (0, 64)) hp.1 (by decide +kernel) (Nat.le_refl _) (Nat.le_refl _)
  intro x1 η1 h1 c1 x2 η2 h2 c2 x3 η3 h3 c3 c4 x4 η4 h4 c5 c6 c7 x5 η5 h5 η6 eη6
  have y1 : fQle_isSign [40] η x1 η1 := h1.2.2
  have k1 : sQ wl_le zTr zOle_isSign zMle_isSign [40] η x1 η1 ∧ oQle_isSign [40] η x1 η1 := ⟨h1.1, h1.2.1⟩
  have y2 : fQle_isKey [12] η1 x2 η2 := h2.2.2
  have k2 : sQ wl_le zTr zOle_isKey zMle_isKey [12] η1 x2 η2 ∧ oQle_isKey [12] η1 x2 η2 := ⟨h2.1, h2.2.1⟩
  have y3 : fQle_nameMet [] η2 x3 η3 := h3.2.2
  have k3 : sQ wl_le zTr zOle_nameMet zMle_nameMet [] η2 x3 η3 ∧ oQle_nameMet [] η2 x3 η3 := ⟨h3.1, h3.2.1⟩
  have y4 : fQle_isCounted [] η3 x4 η4 := h4.2.2
  have k4 : sQ wl_le zTr zOle_isCounted zMle_isCounted [] η3 x4 η4 ∧ oQle_isCounted [] η3 x4 η4 := ⟨h4.1, h4.2.1⟩
  have y5 : fQle_grown [1, x3, 0] η4 x5 η5 := h5.2.2
  have k5 : sQ wl_le zTr zOle_grown zMle_grown [1, x3, 0] η4 x5 η5 ∧ oQle_grown [1, x3, 0] η4 x5 η5 := ⟨h5.1, h5.2.1⟩
  have w0_0_8 : (0 : Int) ≤ η 0 8 ∧ η 0 8 ≤ 6 := wf_ok (a := 8) (b := 8) (z := (0, 6)) hp.1 (by decide +kernel) (Nat.le_refl _) (Nat.le_refl _)
  have c0_0_8 : η 0 8 = η 0 8 := rfl
  have wb1 : wB wl_le zTr η1 := k1.1.1
  have bx1 : (0 : Int) ≤ x1 ∧ x1 ≤ 1 := k1.1.2.1
  have v1 : zEq (η1 0 8) (η 0 8) := (k1.1.2.2.2.1 0 8 (by decide +kernel)).trans rfl
  have c1_0_8 : η1 0 8 = η 0 8 := v1
  have wb2 : wB wl_le zTr η2 := k2.1.1
  have bx2 : (0 : Int) ≤ x2 ∧ x2 ≤ 1 := k2.1.2.1
  have v2 : zEq (η2 0 8) (η 0 8) := (k2.1.2.2.2.1 0 8 (by decide +kernel)).trans v1
  have c2_0_8 : η2 0 8 = η 0 8 := v2
  have wb3 : wB wl_le zTr η3 := k3.1.1
  have bx3 : ((-1) : Int) ≤ x3 ∧ x3 ≤ 6 := k3.1.2.1
  have v3 : zEq (η3 0 8) (η 0 8) := (k3.1.2.2.2.1 0 8 (by decide +kernel)).trans v2
  have c3_0_8 : η3 0 8 = η 0 8 := v3
  have wb4 : wB wl_le zTr η4 := k4.1.1
  have bx4 : (0 : Int) ≤ x4 ∧ x4 ≤ 1 := k4.1.2.1
  have v4 : zEq (η4 0 8) (η 0 8) := (k4.1.2.2.2.1 0 8 (by decide +kernel)).trans v3
  have c4_0_8 : η4 0 8 = η 0 8 := v4
  have w0_0_19 : (0 : Int) ≤ η 0 19 ∧ η 0 19 ≤ 64 := wf_ok (a := 19) (b := 19) (z := (0, 64)) hp.1 (by decide +kernel) (Nat.le_refl _) (Nat.le_refl _)
  have v6 : zEq (η1 0 19) (η 0 19) := (k1.1.2.2.2.1 0 19 (by decide +kernel)).trans rfl
  have v7 : zEq (η2 0 19) (η 0 19) := (k2.1.2.2.2.1 0 19 (by decide +kernel)).trans v6
  have v8 : zEq (η3 0 19) (η 0 19) := (k3.1.2.2.2.1 0 19 (by decide +kernel)).trans v7
  have v9 : zEq (η4 0 19) (η 0 19) := (k4.1.2.2.2.1 0 19 (by decide +kernel)).trans v8
  have c4_0_19 : η4 0 19 = η 0 19 := v9
  have wb5 : wB wl_le zTr η5 := k5.1.1
  have bx5 : (0 : Int) ≤ x5 ∧ x5 ≤ 0 := k5.1.2.1
  have v11 : zEq (η1 0 45) (η 0 45) := (k1.1.2.2.2.1 0 45 (by decide +kernel)).trans rfl
  have v12 : zEq (η2 0 45) (η 0 45) := (k2.1.2.2.2.1 0 45 (by decide +kernel)).trans v11
  have v13 : zEq (η3 0 45) (η 0 45) := (k3.1.2.2.2.1 0 45 (by decide +kernel)).trans v12
  have v14 : zEq (η4 0 45) (η 0 45) := (k4.1.2.2.2.1 0 45 (by decide +kernel)).trans v13
  have v15 : zEq (η5 0 45) (η 0 45) := (k5.1.2.2.2.1 0 45 (by decide +kernel)).trans v14
  have c5_0_45 : η5 0 45 = η 0 45 := v15
  have wb6 : wB wl_le zTr η6 := by rw [eη6]; exact wk_ok (a := 45) (b := 45) (z := ((-2147483648), 2147483647)) zTr_k (GR := []) wb5 (by decide +kernel) (by decide) (by decide) (show ((-2147483648) : Int) ≤ 0 by omega) (show 0 ≤ (2147483647 : Int) by omega)
  have fm1 : zFm zMle_leafRead η η1 := zFm_tr2 zFm_rf k1.1.2.2.2.1 (by decide +kernel)
  have fm2 : zFm zMle_leafRead η η2 := zFm_tr2 fm1 k2.1.2.2.2.1 (by decide +kernel)
  have fm3 : zFm zMle_leafRead η η3 := zFm_tr2 fm2 k3.1.2.2.2.1 (by decide +kernel)
  have fm4 : zFm zMle_leafRead η η4 := zFm_tr2 fm3 k4.1.2.2.2.1 (by decide +kernel)
  have fm5 : zFm zMle_leafRead η η5 := zFm_tr2 fm4 k5.1.2.2.2.1 (by decide +kernel)
  have fm6 : zFm zMle_leafRead η η6 := by rw [eη6]; exact zFm_up fm5 rfl
  have fmE : zFm zMle_leafRead η η6 := fm6
  have fr22_0 : ∀ j, η 22 j = η 22 j := fun _ => rfl
  have v16 : ∀ j, η1 22 j = η 22 j := fun j => k1.1.2.2.2.1 22 _ (zinr_not (by decide +kernel))
  have fr22_1 : ∀ j, η1 22 j = η 22 j := v16
  have v17 : ∀ j, η2 22 j = η 22 j := fun j => (k2.1.2.2.2.1 22 _ (zinr_not (by decide +kernel))).trans (v16 j)
  have fr22_2 : ∀ j, η2 22 j = η 22 j := v17
  have v18 : ∀ j, η3 22 j = η 22 j := fun j => (k3.1.2.2.2.1 22 _ (zinr_not (by decide +kernel))).trans (v17 j)
  have fr22_3 : ∀ j, η3 22 j = η 22 j := v18
  have v19 : ∀ j, η4 22 j = η 22 j := fun j => (k4.1.2.2.2.1 22 _ (zinr_not (by decide +kernel))).trans (v18 j)
  have fr22_4 : ∀ j, η4 22 j = η 22 j := v19
  have v20 : ∀ j, η5 22 j = η 22 j := fun j => (k5.1.2.2.2.1 22 _ (zinr_not (by decide +kernel))).trans (v19 j)
  have fr22_5 : ∀ j, η5 22 j = η 22 j := v20
  have v21 : ∀ j, η6 22 j = η 22 j := fun j => by rw [eη6]; exact (zup_ne (fun e _ => absurd e (by decide))).trans (v20 j)
  have fr22_6 : ∀ j, η6 22 j = η 22 j := v21
  have fr22 : ∀ j, η6 22 j = η 22 j := v21
  have v23 : zEq (η1 0 41) (η 0 41) := (k1.1.2.2.2.1 0 41 (by decide +kernel)).trans rfl
  have v24 : zEq (η2 0 41) (η 0 41) := (k2.1.2.2.2.1 0 41 (by decide +kernel)).trans v23
  have v25 : zEq (η3 0 41) (η 0 41) := (k3.1.2.2.2.1 0 41 (by decide +kernel)).trans v24
  have v26 : zEq (η4 0 41) (η 0 41) := (k4.1.2.2.2.1 0 41 (by decide +kernel)).trans v25
  have v27 : zEq (η5 0 41) (η 0 41) := (k5.1.2.2.2.1 0 41 (by decide +kernel)).trans v26
  have v28 : zEq (η6 0 41) (η 0 41) := by rw [eη6]; exact (zup_ne (fun _ e => absurd e (by decide))).trans v27
  have f0_41 : η6 0 41 = η 0 41 := v28
  have w0_0_43 : (0 : Int) ≤ η 0 43 ∧ η 0 43 ≤ 8 := wf_ok (a := 43) (b := 43) (z := (0, 8)) hp.1 (by decide +kernel) (Nat.le_refl _) (Nat.le_refl _)
  have v30 : zEq (η1 0 43) (η 0 43) := (k1.1.2.2.2.1 0 43 (by decide +kernel)).trans rfl
  have v31 : zEq (η2 0 43) (η 0 43) := (k2.1.2.2.2.1 0 43 (by decide +kernel)).trans v30
  have v32 : zEq (η3 0 43) (η 0 43) := (k3.1.2.2.2.1 0 43 (by decide +kernel)).trans v31
  have v33 : zEq (η4 0 43) (η 0 43) := (k4.1.2.2.2.1 0 43 (by decide +kernel)).trans v32
  have v34 : zEq (η5 0 43) (η 0 43) := (k5.1.2.2.2.1 0 43 (by decide +kernel)).trans v33
  have v35 : zEq (η6 0 43) (η 0 43) := by rw [eη6]; exact (zup_ne (fun _ e => absurd e (by decide))).trans v34
  have f0_43 : η6 0 43 = η 0 43 := v35
  have v37 : zEq (η6 0 42) (η5 0 42) := by rw [eη6]; exact (zup_ne (fun _ e => absurd e (by decide))).trans rfl
  have f0_42 : η6 0 42 = η5 0 42 := v37
  have v38 : zEq (η6 0 45) (0) := by rw [eη6]; exact zup_eq
  have f0_45 : η6 0 45 = 0 := v38
  have w5_0_19 : (0 : Int) ≤ η5 0 19 ∧ η5 0 19 ≤ 64 := wf_ok (a := 19) (b := 19) (z := (0, 64)) k5.1.1 (by decide +kernel) (Nat.le_refl _) (Nat.le_refl _)
  have v40 : zEq (η6 0 19) (η5 0 19) := by rw [eη6]; exact (zup_ne (fun _ e => absurd e (by decide))).trans rfl
  have f0_19 : η6 0 19 = η5 0 19 := v40
  have w4_0_44 : (0 : Int) ≤ η4 0 44 ∧ η4 0 44 ≤ 64 := wf_ok (a := 44) (b := 44) (z := (0, 64)) k4.1.1 (by decide +kernel) (Nat.le_refl _) (Nat.le_refl _)
  have v42 : zEq (η5 0 44) (η4 0 44) := (k5.1.2.2.2.1 0 44 (by decide +kernel)).trans rfl
  have v43 : zEq (η6 0 44) (η4 0 44) := by rw [eη6]; exact (zup_ne (fun _ e => absurd e (by decide))).trans v42
  have f0_44 : η6 0 44 = η4 0 44 := v43
  have w0_0_7 : (0 : Int) ≤ η 0 7 ∧ η 0 7 ≤ 700 := wf_ok (a := 7) (b := 7) (z := (0, 700)) hp.1 (by decide +kernel) (Nat.le_refl _) (Nat.le_refl _)
  have v45 : zEq (η1 0 7) (η 0 7) := (k1.1.2.2.2.1 0 7 (by decide +kernel)).trans rfl
  have v46 : zEq (η2 0 7) (η 0 7) := (k2.1.2.2.2.1 0 7 (by decide +kernel)).trans v45
  have v47 : zEq (η3 0 7) (η 0 7) := (k3.1.2.2.2.1 0 7 (by decide +kernel)).trans v46
  have v48 : zEq (η4 0 7) (η 0 7) := (k4.1.2.2.2.1 0 7 (by decide +kernel)).trans v47
  have v49 : zEq (η5 0 7) (η 0 7) := (k5.1.2.2.2.1 0 7 (by decide +kernel)).trans v48
  have v50 : zEq (η6 0 7) (η 0 7) := by rw [eη6]; exact (zup_ne (fun _ e => absurd e (by decide))).trans v49
  have f0_7 : η6 0 7 = η 0 7 := v50
  have w0_0_6 : (0 : Int) ≤ η 0 6 ∧ η 0 6 ≤ 700 := wf_ok (a := 6) (b := 6) (z := (0, 700)) hp.1 (by decide +kernel) (Nat.le_refl _) (Nat.le_refl _)
  have v52 : zEq (η1 0 6) (η 0 6) := (k1.1.2.2.2.1 0 6 (by decide +kernel)).trans rfl
  have v53 : zEq (η2 0 6) (η 0 6) := (k2.1.2.2.2.1 0 6 (by decide +kernel)).trans v52
  have v54 : zEq (η3 0 6) (η 0 6) := (k3.1.2.2.2.1 0 6 (by decide +kernel)).trans v53
  have v55 : zEq (η4 0 6) (η 0 6) := (k4.1.2.2.2.1 0 6 (by decide +kernel)).trans v54
  have v56 : zEq (η5 0 6) (η 0 6) := (k5.1.2.2.2.1 0 6 (by decide +kernel)).trans v55
  have v57 : zEq (η6 0 6) (η 0 6) := by rw [eη6]; exact (zup_ne (fun _ e => absurd e (by decide))).trans v56
  have f0_6 : η6 0 6 = η 0 6 := v57
  have v58 : zEq (η5 0 8) (η 0 8) := (k5.1.2.2.2.1 0 8 (by decide +kernel)).trans v4
  have v59 : zEq (η6 0 8) (η 0 8) := by rw [eη6]; exact (zup_ne (fun _ e => absurd e (by decide))).trans v58
  have f0_8 : η6 0 8 = η 0 8 := v59
  have wbE : wB wl_le zTr η6 := wb6
  
  have I0 : H_l 0 0 0 η := hpp.1
  have I1 : H_l 0 0 0 η1 := k1.2.1
  have I2 : H_l 0 0 0 η2 := k2.2.1
  have I3 : H_l 0 0 0 η3 := k3.2.1
  have qk3 : η2 0 8 = 1 := k3.2.2 c3
  have I4 : H_l 1 0 0 η4 := k4.2.1 c5
  have I5 : H_l 0 0 1 η5 := k5.2.1 I4
  have qg5 : η5 0 19 = η4 0 19 + 1 := k5.2.2.2
  have I6 : H_l 0 0 0 η6 := by rw [eη6]; exact h_eq (wn_up I5) rfl rfl (by apply Int.le_antisymm <;> omega)
  exact I6
set_option maxHeartbeats 8000000 in
theorem zle_leafRead_o6 {ro : Nat → List Int32} (η : zE) (hp : sP wl_le zTr zPle_leafRead [] η) (hpp : pPle_leafRead [] η) : ∀ (x1 : Int) (η1 : zE), ((gC2 wl_le [(nat_lit 0, zPle_isSign, zOle_isSign, zMle_isSign), (nat_lit 1, zPle_wrong, zOle_wrong, zMle_wrong), (nat_lit 2, zPle_waitsFor0, zOle_waitsFor0, zMle_waitsFor0), (nat_lit 3, zPle_token, zOle_token, zMle_token), (nat_lit 4, zPle_isKey, zOle_isKey, zMle_isKey), (nat_lit 5, zPle_isCounted, zOle_isCounted, zMle_isCounted), (nat_lit 6, zPle_waitsFor2, zOle_waitsFor2, zMle_waitsFor2), (nat_lit 7, zPle_nameMet, zOle_nameMet, zMle_nameMet), (nat_lit 8, zPle_grown, zOle_grown, zMle_grown)] pCle_leafRead qCle_leafRead) 0).2 [40] η x1 η1 → (x1 = 0) → ∀ (x2 : Int) (η2 : zE), ((gC2 wl_le [(nat_lit 0, zPle_isSign, zOle_isSign, zMle_isSign), (nat_lit 1, zPle_wrong, zOle_wrong, zMle_wrong), (nat_lit 2, zPle_waitsFor0, zOle_waitsFor0, zMle_waitsFor0), (nat_lit 3, zPle_token, zOle_token, zMle_token), (nat_lit 4, zPle_isKey, zOle_isKey, zMle_isKey), (nat_lit 5, zPle_isCounted, zOle_isCounted, zMle_isCounted), (nat_lit 6, zPle_waitsFor2, zOle_waitsFor2, zMle_waitsFor2), (nat_lit 7, zPle_nameMet, zOle_nameMet, zMle_nameMet), (nat_lit 8, zPle_grown, zOle_grown, zMle_grown)] pCle_leafRead qCle_leafRead) 4).2 [12] η1 x2 η2 → (x2 = 0) → ∀ (x3 : Int) (η3 : zE), ((gC2 wl_le [(nat_lit 0, zPle_isSign, zOle_isSign, zMle_isSign), (nat_lit 1, zPle_wrong, zOle_wrong, zMle_wrong), (nat_lit 2, zPle_waitsFor0, zOle_waitsFor0, zMle_waitsFor0), (nat_lit 3, zPle_token, zOle_token, zMle_token), (nat_lit 4, zPle_isKey, zOle_isKey, zMle_isKey), (nat_lit 5, zPle_isCounted, zOle_isCounted, zMle_isCounted), (nat_lit 6, zPle_waitsFor2, zOle_waitsFor2, zMle_waitsFor2), (nat_lit 7, zPle_nameMet, zOle_nameMet, zMle_nameMet), (nat_lit 8, zPle_grown, zOle_grown, zMle_grown)] pCle_leafRead qCle_leafRead) 7).2 [] η2 x3 η3 → (0 ≤ x3) → (0 ≤ x3) → ∀ (x4 : Int) (η4 : zE), ((gC2 wl_le [(nat_lit 0, zPle_isSign, zOle_isSign, zMle_isSign), (nat_lit 1, zPle_wrong, zOle_wrong, zMle_wrong), (nat_lit 2, zPle_waitsFor0, zOle_waitsFor0, zMle_waitsFor0), (nat_lit 3, zPle_token, zOle_token, zMle_token), (nat_lit 4, zPle_isKey, zOle_isKey, zMle_isKey), (nat_lit 5, zPle_isCounted, zOle_isCounted, zMle_isCounted), (nat_lit 6, zPle_waitsFor2, zOle_waitsFor2, zMle_waitsFor2), (nat_lit 7, zPle_nameMet, zOle_nameMet, zMle_nameMet), (nat_lit 8, zPle_grown, zOle_grown, zMle_grown)] pCle_leafRead qCle_leafRead) 5).2 [] η3 x4 η4 → (¬ x4 = 0) → (0 ≤ x3) → (0 ≤ x3) → ∀ (x5 : Int) (η5 : zE), ((gC2 wl_le [(nat_lit 0, zPle_isSign, zOle_isSign, zMle_isSign), (nat_lit 1, zPle_wrong, zOle_wrong, zMle_wrong), (nat_lit 2, zPle_waitsFor0, zOle_waitsFor0, zMle_waitsFor0), (nat_lit 3, zPle_token, zOle_token, zMle_token), (nat_lit 4, zPle_isKey, zOle_isKey, zMle_isKey), (nat_lit 5, zPle_isCounted, zOle_isCounted, zMle_isCounted), (nat_lit 6, zPle_waitsFor2, zOle_waitsFor2, zMle_waitsFor2), (nat_lit 7, zPle_nameMet, zOle_nameMet, zMle_nameMet), (nat_lit 8, zPle_grown, zOle_grown, zMle_grown)] pCle_leafRead qCle_leafRead) 8).2 [1, x3, 0] η4 x5 η5 → ∀ η6 : zE, η6 = zup η5 0 (Int.toNat 45) 0 → ∀ (x6 : Int) (η7 : zE), ((gC2 wl_le [(nat_lit 0, zPle_isSign, zOle_isSign, zMle_isSign), (nat_lit 1, zPle_wrong, zOle_wrong, zMle_wrong), (nat_lit 2, zPle_waitsFor0, zOle_waitsFor0, zMle_waitsFor0), (nat_lit 3, zPle_token, zOle_token, zMle_token), (nat_lit 4, zPle_isKey, zOle_isKey, zMle_isKey), (nat_lit 5, zPle_isCounted, zOle_isCounted, zMle_isCounted), (nat_lit 6, zPle_waitsFor2, zOle_waitsFor2, zMle_waitsFor2), (nat_lit 7, zPle_nameMet, zOle_nameMet, zMle_nameMet), (nat_lit 8, zPle_grown, zOle_grown, zMle_grown)] pCle_leafRead qCle_leafRead) 3).2 [] η6 x6 η7 → (fun (_ : Nat) (y : Int) (η' : zE) => pQle_leafRead [] η y η') 0 1 η7 := by
  intro x1 η1 h1 c1 x2 η2 h2 c2 x3 η3 h3 c3 c4 x4 η4 h4 c5 c6 c7 x5 η5 h5 η6 eη6 x6 η7 h6
  have y1 : fQle_isSign [40] η x1 η1 := h1.2.2
  have k1 : sQ wl_le zTr zOle_isSign zMle_isSign [40] η x1 η1 ∧ oQle_isSign [40] η x1 η1 := ⟨h1.1, h1.2.1⟩
  have y2 : fQle_isKey [12] η1 x2 η2 := h2.2.2
  have k2 : sQ wl_le zTr zOle_isKey zMle_isKey [12] η1 x2 η2 ∧ oQle_isKey [12] η1 x2 η2 := ⟨h2.1, h2.2.1⟩
  have y3 : fQle_nameMet [] η2 x3 η3 := h3.2.2
  have k3 : sQ wl_le zTr zOle_nameMet zMle_nameMet [] η2 x3 η3 ∧ oQle_nameMet [] η2 x3 η3 := ⟨h3.1, h3.2.1⟩
  have y4 : fQle_isCounted [] η3 x4 η4 := h4.2.2
  have k4 : sQ wl_le zTr zOle_isCounted zMle_isCounted [] η3 x4 η4 ∧ oQle_isCounted [] η3 x4 η4 := ⟨h4.1, h4.2.1⟩
  have y5 : fQle_grown [1, x3, 0] η4 x5 η5 := h5.2.2
  have k5 : sQ wl_le zTr zOle_grown zMle_grown [1, x3, 0] η4 x5 η5 ∧ oQle_grown [1, x3, 0] η4 x5 η5 := ⟨h5.1, h5.2.1⟩
  have y6 : fQle_token [] η6 x6 η7 := h6.2.2
  have k6 : sQ wl_le zTr zOle_token zMle_token [] η6 x6 η7 ∧ oQle_token [] η6 x6 η7 := ⟨h6.1, h6.2.1⟩
  refine yj_a ?_ ?_
  · have hw : η 0 45 = 1 := hpp.2
    have hs : η 0 7 ≤ η 0 6 := hpp.1.1.1.1
    have bd43 : (0 : Int) ≤ η 0 43 ∧ η 0 43 ≤ 8 := wf_ok (a := 43) (b := 43) (z := (0, 8)) hp.1 (by decide +kernel) (Nat.le_refl _) (Nat.le_refl _)
    have bd44 : (0 : Int) ≤ η 0 44 ∧ η 0 44 ≤ 64 := wf_ok (a := 44) (b := 44) (z := (0, 64)) hp.1 (by decide +kernel) (Nat.le_refl _) (Nat.le_refl _)
    have bd19 : (0 : Int) ≤ η 0 19 ∧ η 0 19 ≤ 64 := wf_ok (a := 19) (b := 19) (z := (0, 64)) hp.1 (by decide +kernel) (Nat.le_refl _) (Nat.le_refl _)
    have y1 : fQle_isSign [40] η x1 η1 := h1.2.2
    have k1 : sQ wl_le zTr zOle_isSign zMle_isSign [40] η x1 η1 ∧ oQle_isSign [40] η x1 η1 := ⟨h1.1, h1.2.1⟩
    have y2 : fQle_isKey [12] η1 x2 η2 := h2.2.2
    have k2 : sQ wl_le zTr zOle_isKey zMle_isKey [12] η1 x2 η2 ∧ oQle_isKey [12] η1 x2 η2 := ⟨h2.1, h2.2.1⟩
    have y3 : fQle_nameMet [] η2 x3 η3 := h3.2.2
    have k3 : sQ wl_le zTr zOle_nameMet zMle_nameMet [] η2 x3 η3 ∧ oQle_nameMet [] η2 x3 η3 := ⟨h3.1, h3.2.1⟩
    have y4 : fQle_isCounted [] η3 x4 η4 := h4.2.2
    have k4 : sQ wl_le zTr zOle_isCounted zMle_isCounted [] η3 x4 η4 ∧ oQle_isCounted [] η3 x4 η4 := ⟨h4.1, h4.2.1⟩
    have y5 : fQle_grown [1, x3, 0] η4 x5 η5 := h5.2.2
    have k5 : sQ wl_le zTr zOle_grown zMle_grown [1, x3, 0] η4 x5 η5 ∧ oQle_grown [1, x3, 0] η4 x5 η5 := ⟨h5.1, h5.2.1⟩
    have y6 : fQle_token [] η6 x6 η7 := h6.2.2
    have k6 : sQ wl_le zTr zOle_token zMle_token [] η6 x6 η7 ∧ oQle_token [] η6 x6 η7 := ⟨h6.1, h6.2.1⟩
    have w0_0_8 : (0 : Int) ≤ η 0 8 ∧ η 0 8 ≤ 6 := wf_ok (a := 8) (b := 8) (z := (0, 6)) hp.1 (by decide +kernel) (Nat.le_refl _) (Nat.le_refl _)
    have c0_0_8 : η 0 8 = η 0 8 := rfl
    have wb1 : wB wl_le zTr η1 := k1.1.1
    have bx1 : (0 : Int) ≤ x1 ∧ x1 ≤ 1 := k1.1.2.1
    have v1 : zEq (η1 0 8) (η 0 8) := (k1.1.2.2.2.1 0 8 (by decide +kernel)).trans rfl
    have c1_0_8 : η1 0 8 = η 0 8 := v1
    have wb2 : wB wl_le zTr η2 := k2.1.1
    have bx2 : (0 : Int) ≤ x2 ∧ x2 ≤ 1 := k2.1.2.1
    have v2 : zEq (η2 0 8) (η 0 8) := (k2.1.2.2.2.1 0 8 (by decide +kernel)).trans v1
    have c2_0_8 : η2 0 8 = η 0 8 := v2
    have wb3 : wB wl_le zTr η3 := k3.1.1
    have bx3 : ((-1) : Int) ≤ x3 ∧ x3 ≤ 6 := k3.1.2.1
    have v3 : zEq (η3 0 8) (η 0 8) := (k3.1.2.2.2.1 0 8 (by decide +kernel)).trans v2
    have c3_0_8 : η3 0 8 = η 0 8 := v3
    have wb4 : wB wl_le zTr η4 := k4.1.1
    have bx4 : (0 : Int) ≤ x4 ∧ x4 ≤ 1 := k4.1.2.1
    have v4 : zEq (η4 0 8) (η 0 8) := (k4.1.2.2.2.1 0 8 (by decide +kernel)).trans v3
    have c4_0_8 : η4 0 8 = η 0 8 := v4
    have w0_0_19 : (0 : Int) ≤ η 0 19 ∧ η 0 19 ≤ 64 := wf_ok (a := 19) (b := 19) (z := (0, 64)) hp.1 (by decide +kernel) (Nat.le_refl _) (Nat.le_refl _)
    have v6 : zEq (η1 0 19) (η 0 19) := (k1.1.2.2.2.1 0 19 (by decide +kernel)).trans rfl
    have v7 : zEq (η2 0 19) (η 0 19) := (k2.1.2.2.2.1 0 19 (by decide +kernel)).trans v6
    have v8 : zEq (η3 0 19) (η 0 19) := (k3.1.2.2.2.1 0 19 (by decide +kernel)).trans v7
    have v9 : zEq (η4 0 19) (η 0 19) := (k4.1.2.2.2.1 0 19 (by decide +kernel)).trans v8
    have c4_0_19 : η4 0 19 = η 0 19 := v9
    have wb5 : wB wl_le zTr η5 := k5.1.1
    have bx5 : (0 : Int) ≤ x5 ∧ x5 ≤ 0 := k5.1.2.1
    have v11 : zEq (η1 0 45) (η 0 45) := (k1.1.2.2.2.1 0 45 (by decide +kernel)).trans rfl
    have v12 : zEq (η2 0 45) (η 0 45) := (k2.1.2.2.2.1 0 45 (by decide +kernel)).trans v11
    have v13 : zEq (η3 0 45) (η 0 45) := (k3.1.2.2.2.1 0 45 (by decide +kernel)).trans v12
    have v14 : zEq (η4 0 45) (η 0 45) := (k4.1.2.2.2.1 0 45 (by decide +kernel)).trans v13
    have v15 : zEq (η5 0 45) (η 0 45) := (k5.1.2.2.2.1 0 45 (by decide +kernel)).trans v14
    have c5_0_45 : η5 0 45 = η 0 45 := v15
    have wb6 : wB wl_le zTr η6 := by rw [eη6]; exact wk_ok (a := 45) (b := 45) (z := ((-2147483648), 2147483647)) zTr_k (GR := []) wb5 (by decide +kernel) (by decide) (by decide) (show ((-2147483648) : Int) ≤ 0 by omega) (show 0 ≤ (2147483647 : Int) by omega)
    have w0_0_7 : (0 : Int) ≤ η 0 7 ∧ η 0 7 ≤ 700 := wf_ok (a := 7) (b := 7) (z := (0, 700)) hp.1 (by decide +kernel) (Nat.le_refl _) (Nat.le_refl _)
    have v17 : zEq (η1 0 7) (η 0 7) := (k1.1.2.2.2.1 0 7 (by decide +kernel)).trans rfl
    have v18 : zEq (η2 0 7) (η 0 7) := (k2.1.2.2.2.1 0 7 (by decide +kernel)).trans v17
    have v19 : zEq (η3 0 7) (η 0 7) := (k3.1.2.2.2.1 0 7 (by decide +kernel)).trans v18
    have v20 : zEq (η4 0 7) (η 0 7) := (k4.1.2.2.2.1 0 7 (by decide +kernel)).trans v19
    have v21 : zEq (η5 0 7) (η 0 7) := (k5.1.2.2.2.1 0 7 (by decide +kernel)).trans v20
    have v22 : zEq (η6 0 7) (η 0 7) := by rw [eη6]; exact (zup_ne (fun _ e => absurd e (by decide))).trans v21
    have c6_0_7 : η6 0 7 = η 0 7 := v22
    have w0_0_6 : (0 : Int) ≤ η 0 6 ∧ η 0 6 ≤ 700 := wf_ok (a := 6) (b := 6) (z := (0, 700)) hp.1 (by decide +kernel) (Nat.le_refl _) (Nat.le_refl _)
    have v24 : zEq (η1 0 6) (η 0 6) := (k1.1.2.2.2.1 0 6 (by decide +kernel)).trans rfl
    have v25 : zEq (η2 0 6) (η 0 6) := (k2.1.2.2.2.1 0 6 (by decide +kernel)).trans v24
    have v26 : zEq (η3 0 6) (η 0 6) := (k3.1.2.2.2.1 0 6 (by decide +kernel)).trans v25
    have v27 : zEq (η4 0 6) (η 0 6) := (k4.1.2.2.2.1 0 6 (by decide +kernel)).trans v26
    have v28 : zEq (η5 0 6) (η 0 6) := (k5.1.2.2.2.1 0 6 (by decide +kernel)).trans v27
    have v29 : zEq (η6 0 6) (η 0 6) := by rw [eη6]; exact (zup_ne (fun _ e => absurd e (by decide))).trans v28
    have c6_0_6 : η6 0 6 = η 0 6 := v29
    have v30 : zEq (η5 0 8) (η 0 8) := (k5.1.2.2.2.1 0 8 (by decide +kernel)).trans v4
    have v31 : zEq (η6 0 8) (η 0 8) := by rw [eη6]; exact (zup_ne (fun _ e => absurd e (by decide))).trans v30
    have c6_0_8 : η6 0 8 = η 0 8 := v31
    have wb7 : wB wl_le zTr η7 := k6.1.1
    have bx6 : (0 : Int) ≤ x6 ∧ x6 ≤ 0 := k6.1.2.1
    have fm1 : zFm zMle_leafRead η η1 := zFm_tr2 zFm_rf k1.1.2.2.2.1 (by decide +kernel)
    have fm2 : zFm zMle_leafRead η η2 := zFm_tr2 fm1 k2.1.2.2.2.1 (by decide +kernel)
    have fm3 : zFm zMle_leafRead η η3 := zFm_tr2 fm2 k3.1.2.2.2.1 (by decide +kernel)
    have fm4 : zFm zMle_leafRead η η4 := zFm_tr2 fm3 k4.1.2.2.2.1 (by decide +kernel)
    have fm5 : zFm zMle_leafRead η η5 := zFm_tr2 fm4 k5.1.2.2.2.1 (by decide +kernel)
    have fm6 : zFm zMle_leafRead η η6 := by rw [eη6]; exact zFm_up fm5 rfl
    have fm7 : zFm zMle_leafRead η η7 := zFm_tr2 fm6 k6.1.2.2.2.1 (by decide +kernel)
    have fmE : zFm zMle_leafRead η η7 := fm7
    have fr22_0 : ∀ j, η 22 j = η 22 j := fun _ => rfl
    have v32 : ∀ j, η1 22 j = η 22 j := fun j => k1.1.2.2.2.1 22 _ (zinr_not (by decide +kernel))
    have fr22_1 : ∀ j, η1 22 j = η 22 j := v32
    have v33 : ∀ j, η2 22 j = η 22 j := fun j => (k2.1.2.2.2.1 22 _ (zinr_not (by decide +kernel))).trans (v32 j)
    have fr22_2 : ∀ j, η2 22 j = η 22 j := v33
    have v34 : ∀ j, η3 22 j = η 22 j := fun j => (k3.1.2.2.2.1 22 _ (zinr_not (by decide +kernel))).trans (v33 j)
    have fr22_3 : ∀ j, η3 22 j = η 22 j := v34
    have v35 : ∀ j, η4 22 j = η 22 j := fun j => (k4.1.2.2.2.1 22 _ (zinr_not (by decide +kernel))).trans (v34 j)
    have fr22_4 : ∀ j, η4 22 j = η 22 j := v35
    have v36 : ∀ j, η5 22 j = η 22 j := fun j => (k5.1.2.2.2.1 22 _ (zinr_not (by decide +kernel))).trans (v35 j)
    have fr22_5 : ∀ j, η5 22 j = η 22 j := v36
    have v37 : ∀ j, η6 22 j = η 22 j := fun j => by rw [eη6]; exact (zup_ne (fun e _ => absurd e (by decide))).trans (v36 j)
    have fr22_6 : ∀ j, η6 22 j = η 22 j := v37
    have v38 : ∀ j, η7 22 j = η 22 j := fun j => (k6.1.2.2.2.1 22 _ (zinr_not (by decide +kernel))).trans (v37 j)
    have fr22_7 : ∀ j, η7 22 j = η 22 j := v38
    have fr22 : ∀ j, η7 22 j = η 22 j := v38
    have v40 : zEq (η1 0 41) (η 0 41) := (k1.1.2.2.2.1 0 41 (by decide +kernel)).trans rfl
    have v41 : zEq (η2 0 41) (η 0 41) := (k2.1.2.2.2.1 0 41 (by decide +kernel)).trans v40
    have v42 : zEq (η3 0 41) (η 0 41) := (k3.1.2.2.2.1 0 41 (by decide +kernel)).trans v41
    have v43 : zEq (η4 0 41) (η 0 41) := (k4.1.2.2.2.1 0 41 (by decide +kernel)).trans v42
    have v44 : zEq (η5 0 41) (η 0 41) := (k5.1.2.2.2.1 0 41 (by decide +kernel)).trans v43
    have v45 : zEq (η6 0 41) (η 0 41) := by rw [eη6]; exact (zup_ne (fun _ e => absurd e (by decide))).trans v44
    have v46 : zEq (η7 0 41) (η 0 41) := (k6.1.2.2.2.1 0 41 (by decide +kernel)).trans v45
    have f0_41 : η7 0 41 = η 0 41 := v46
    have w0_0_43 : (0 : Int) ≤ η 0 43 ∧ η 0 43 ≤ 8 := wf_ok (a := 43) (b := 43) (z := (0, 8)) hp.1 (by decide +kernel) (Nat.le_refl _) (Nat.le_refl _)
    have v48 : zEq (η1 0 43) (η 0 43) := (k1.1.2.2.2.1 0 43 (by decide +kernel)).trans rfl
    have v49 : zEq (η2 0 43) (η 0 43) := (k2.1.2.2.2.1 0 43 (by decide +kernel)).trans v48
    have v50 : zEq (η3 0 43) (η 0 43) := (k3.1.2.2.2.1 0 43 (by decide +kernel)).trans v49
    have v51 : zEq (η4 0 43) (η 0 43) := (k4.1.2.2.2.1 0 43 (by decide +kernel)).trans v50
    have v52 : zEq (η5 0 43) (η 0 43) := (k5.1.2.2.2.1 0 43 (by decide +kernel)).trans v51
    have v53 : zEq (η6 0 43) (η 0 43) := by rw [eη6]; exact (zup_ne (fun _ e => absurd e (by decide))).trans v52
    have v54 : zEq (η7 0 43) (η 0 43) := (k6.1.2.2.2.1 0 43 (by decide +kernel)).trans v53
    have f0_43 : η7 0 43 = η 0 43 := v54
    have v56 : zEq (η6 0 42) (η5 0 42) := by rw [eη6]; exact (zup_ne (fun _ e => absurd e (by decide))).trans rfl
    have v57 : zEq (η7 0 42) (η5 0 42) := (k6.1.2.2.2.1 0 42 (by decide +kernel)).trans v56
    have f0_42 : η7 0 42 = η5 0 42 := v57
    have v58 : zEq (η6 0 45) (0) := by rw [eη6]; exact zup_eq
    have v59 : zEq (η7 0 45) (0) := (k6.1.2.2.2.1 0 45 (by decide +kernel)).trans v58
    have f0_45 : η7 0 45 = 0 := v59
    have w5_0_19 : (0 : Int) ≤ η5 0 19 ∧ η5 0 19 ≤ 64 := wf_ok (a := 19) (b := 19) (z := (0, 64)) k5.1.1 (by decide +kernel) (Nat.le_refl _) (Nat.le_refl _)
    have v61 : zEq (η6 0 19) (η5 0 19) := by rw [eη6]; exact (zup_ne (fun _ e => absurd e (by decide))).trans rfl
    have v62 : zEq (η7 0 19) (η5 0 19) := (k6.1.2.2.2.1 0 19 (by decide +kernel)).trans v61
    have f0_19 : η7 0 19 = η5 0 19 := v62
    have w4_0_44 : (0 : Int) ≤ η4 0 44 ∧ η4 0 44 ≤ 64 := wf_ok (a := 44) (b := 44) (z := (0, 64)) k4.1.1 (by decide +kernel) (Nat.le_refl _) (Nat.le_refl _)
    have v64 : zEq (η5 0 44) (η4 0 44) := (k5.1.2.2.2.1 0 44 (by decide +kernel)).trans rfl
    have v65 : zEq (η6 0 44) (η4 0 44) := by rw [eη6]; exact (zup_ne (fun _ e => absurd e (by decide))).trans v64
    have v66 : zEq (η7 0 44) (η4 0 44) := (k6.1.2.2.2.1 0 44 (by decide +kernel)).trans v65
    have f0_44 : η7 0 44 = η4 0 44 := v66
    have w7_0_7 : (0 : Int) ≤ η7 0 7 ∧ η7 0 7 ≤ 700 := wf_ok (a := 7) (b := 7) (z := (0, 700)) k6.1.1 (by decide +kernel) (Nat.le_refl _) (Nat.le_refl _)
    have f0_7 : η7 0 7 = η7 0 7 := rfl
    have v68 : zEq (η7 0 6) (η 0 6) := (k6.1.2.2.2.1 0 6 (by decide +kernel)).trans v29
    have f0_6 : η7 0 6 = η 0 6 := v68
    have w7_0_8 : (0 : Int) ≤ η7 0 8 ∧ η7 0 8 ≤ 6 := wf_ok (a := 8) (b := 8) (z := (0, 6)) k6.1.1 (by decide +kernel) (Nat.le_refl _) (Nat.le_refl _)
    have f0_8 : η7 0 8 = η7 0 8 := rfl
    have wbE : wB wl_le zTr η7 := wb7
    
    have I0 : H_l 0 0 0 η := hpp.1
    have I1 : H_l 0 0 0 η1 := k1.2.1
    have I2 : H_l 0 0 0 η2 := k2.2.1
    have I3 : H_l 0 0 0 η3 := k3.2.1
    have qk3 : η2 0 8 = 1 := k3.2.2 c3
    have I4 : H_l 1 0 0 η4 := k4.2.1 c5
    have I5 : H_l 0 0 1 η5 := k5.2.1 I4
    have qg5 : η5 0 19 = η4 0 19 + 1 := k5.2.2.2
    have I6 : H_l 0 0 0 η6 := by rw [eη6]; exact h_eq (wn_up I5) rfl rfl (by apply Int.le_antisymm <;> omega)
    have I7 : H_l 0 0 0 η7 := k6.2.1
    have qt6 : ¬ η6 0 8 = 0 → 10 * (η7 0 6 - η7 0 7) + η7 0 8 < 10 * (η6 0 6 - η6 0 7) + η6 0 8 := k6.2.2
    refine ⟨I7.1, fun _ => ⟨I7, show 10 * (η7 0 6 - η7 0 7) + η7 0 8 < 10 * (η 0 6 - η 0 7) + η 0 8 by omega, fun w => ?_⟩⟩
    have w : η7 0 45 = 0 := w
    omega
  · obtain ⟨a1, b1⟩ : x1 = (yq_isS 40 η) ∧ η = η1 := ⟨y1.1, y1.2.symm⟩
    subst b1
    obtain ⟨a2, b2⟩ : x2 = (yq_isK 12 η) ∧ η = η2 := ⟨y2.1, y2.2.symm⟩
    subst b2
    obtain ⟨a3, b3⟩ : x3 = (yq_nm η) ∧ η = η3 := ⟨y3.1, y3.2.symm⟩
    subst b3
    obtain ⟨a4, b4⟩ : x4 = (yq_cny η) ∧ η4 = (yq_cns η) := y4
    have b5 : η5 = (yq_gro 1 x3 0 η4) := y5
    have eη6 : η6 = zup η5 0 45 0 := eη6
    have b6 : η7 = (yq_tok η6) := y6
    show 1 = (yq_lf η).1 ∧ η7 = (yq_lf η).2
    simp only [yq_lf, yq_ct, yq_no, yq_inc, ← a1, ← a2, ← a3, ← a4, ← b4, ← b5, ← eη6, ← b6]
    all_goals ((repeat' split) <;> first | (exfalso; omega) | exact ⟨rfl, rfl⟩ | rfl)
set_option maxHeartbeats 8000000 in
theorem zle_leafRead_o7 {ro : Nat → List Int32} (η : zE) (hp : sP wl_le zTr zPle_leafRead [] η) (hpp : pPle_leafRead [] η) : ∀ (x1 : Int) (η1 : zE), ((gC2 wl_le [(nat_lit 0, zPle_isSign, zOle_isSign, zMle_isSign), (nat_lit 1, zPle_wrong, zOle_wrong, zMle_wrong), (nat_lit 2, zPle_waitsFor0, zOle_waitsFor0, zMle_waitsFor0), (nat_lit 3, zPle_token, zOle_token, zMle_token), (nat_lit 4, zPle_isKey, zOle_isKey, zMle_isKey), (nat_lit 5, zPle_isCounted, zOle_isCounted, zMle_isCounted), (nat_lit 6, zPle_waitsFor2, zOle_waitsFor2, zMle_waitsFor2), (nat_lit 7, zPle_nameMet, zOle_nameMet, zMle_nameMet), (nat_lit 8, zPle_grown, zOle_grown, zMle_grown)] pCle_leafRead qCle_leafRead) 0).2 [40] η x1 η1 → (x1 = 0) → ∀ (x2 : Int) (η2 : zE), ((gC2 wl_le [(nat_lit 0, zPle_isSign, zOle_isSign, zMle_isSign), (nat_lit 1, zPle_wrong, zOle_wrong, zMle_wrong), (nat_lit 2, zPle_waitsFor0, zOle_waitsFor0, zMle_waitsFor0), (nat_lit 3, zPle_token, zOle_token, zMle_token), (nat_lit 4, zPle_isKey, zOle_isKey, zMle_isKey), (nat_lit 5, zPle_isCounted, zOle_isCounted, zMle_isCounted), (nat_lit 6, zPle_waitsFor2, zOle_waitsFor2, zMle_waitsFor2), (nat_lit 7, zPle_nameMet, zOle_nameMet, zMle_nameMet), (nat_lit 8, zPle_grown, zOle_grown, zMle_grown)] pCle_leafRead qCle_leafRead) 4).2 [12] η1 x2 η2 → (x2 = 0) → ∀ (x3 : Int) (η3 : zE), ((gC2 wl_le [(nat_lit 0, zPle_isSign, zOle_isSign, zMle_isSign), (nat_lit 1, zPle_wrong, zOle_wrong, zMle_wrong), (nat_lit 2, zPle_waitsFor0, zOle_waitsFor0, zMle_waitsFor0), (nat_lit 3, zPle_token, zOle_token, zMle_token), (nat_lit 4, zPle_isKey, zOle_isKey, zMle_isKey), (nat_lit 5, zPle_isCounted, zOle_isCounted, zMle_isCounted), (nat_lit 6, zPle_waitsFor2, zOle_waitsFor2, zMle_waitsFor2), (nat_lit 7, zPle_nameMet, zOle_nameMet, zMle_nameMet), (nat_lit 8, zPle_grown, zOle_grown, zMle_grown)] pCle_leafRead qCle_leafRead) 7).2 [] η2 x3 η3 → (0 ≤ x3) → (0 ≤ x3) → ∀ (x4 : Int) (η4 : zE), ((gC2 wl_le [(nat_lit 0, zPle_isSign, zOle_isSign, zMle_isSign), (nat_lit 1, zPle_wrong, zOle_wrong, zMle_wrong), (nat_lit 2, zPle_waitsFor0, zOle_waitsFor0, zMle_waitsFor0), (nat_lit 3, zPle_token, zOle_token, zMle_token), (nat_lit 4, zPle_isKey, zOle_isKey, zMle_isKey), (nat_lit 5, zPle_isCounted, zOle_isCounted, zMle_isCounted), (nat_lit 6, zPle_waitsFor2, zOle_waitsFor2, zMle_waitsFor2), (nat_lit 7, zPle_nameMet, zOle_nameMet, zMle_nameMet), (nat_lit 8, zPle_grown, zOle_grown, zMle_grown)] pCle_leafRead qCle_leafRead) 5).2 [] η3 x4 η4 → (x4 = 0) → (fun (_ : Nat) (y : Int) (η' : zE) => pQle_leafRead [] η y η') 0 0 η4 := by
  intro x1 η1 h1 c1 x2 η2 h2 c2 x3 η3 h3 c3 c4 x4 η4 h4 c5
  have y1 : fQle_isSign [40] η x1 η1 := h1.2.2
  have k1 : sQ wl_le zTr zOle_isSign zMle_isSign [40] η x1 η1 ∧ oQle_isSign [40] η x1 η1 := ⟨h1.1, h1.2.1⟩
  have y2 : fQle_isKey [12] η1 x2 η2 := h2.2.2
  have k2 : sQ wl_le zTr zOle_isKey zMle_isKey [12] η1 x2 η2 ∧ oQle_isKey [12] η1 x2 η2 := ⟨h2.1, h2.2.1⟩
  have y3 : fQle_nameMet [] η2 x3 η3 := h3.2.2
  have k3 : sQ wl_le zTr zOle_nameMet zMle_nameMet [] η2 x3 η3 ∧ oQle_nameMet [] η2 x3 η3 := ⟨h3.1, h3.2.1⟩
  have y4 : fQle_isCounted [] η3 x4 η4 := h4.2.2
  have k4 : sQ wl_le zTr zOle_isCounted zMle_isCounted [] η3 x4 η4 ∧ oQle_isCounted [] η3 x4 η4 := ⟨h4.1, h4.2.1⟩
  refine yj_a ?_ ?_
  · have hw : η 0 45 = 1 := hpp.2
    have hs : η 0 7 ≤ η 0 6 := hpp.1.1.1.1
    have bd43 : (0 : Int) ≤ η 0 43 ∧ η 0 43 ≤ 8 := wf_ok (a := 43) (b := 43) (z := (0, 8)) hp.1 (by decide +kernel) (Nat.le_refl _) (Nat.le_refl _)
    have bd44 : (0 : Int) ≤ η 0 44 ∧ η 0 44 ≤ 64 := wf_ok (a := 44) (b := 44) (z := (0, 64)) hp.1 (by decide +kernel) (Nat.le_refl _) (Nat.le_refl _)
    have bd19 : (0 : Int) ≤ η 0 19 ∧ η 0 19 ≤ 64 := wf_ok (a := 19) (b := 19) (z := (0, 64)) hp.1 (by decide +kernel) (Nat.le_refl _) (Nat.le_refl _)
    have y1 : fQle_isSign [40] η x1 η1 := h1.2.2
    have k1 : sQ wl_le zTr zOle_isSign zMle_isSign [40] η x1 η1 ∧ oQle_isSign [40] η x1 η1 := ⟨h1.1, h1.2.1⟩
    have y2 : fQle_isKey [12] η1 x2 η2 := h2.2.2
    have k2 : sQ wl_le zTr zOle_isKey zMle_isKey [12] η1 x2 η2 ∧ oQle_isKey [12] η1 x2 η2 := ⟨h2.1, h2.2.1⟩
    have y3 : fQle_nameMet [] η2 x3 η3 := h3.2.2
    have k3 : sQ wl_le zTr zOle_nameMet zMle_nameMet [] η2 x3 η3 ∧ oQle_nameMet [] η2 x3 η3 := ⟨h3.1, h3.2.1⟩
    have y4 : fQle_isCounted [] η3 x4 η4 := h4.2.2
    have k4 : sQ wl_le zTr zOle_isCounted zMle_isCounted [] η3 x4 η4 ∧ oQle_isCounted [] η3 x4 η4 := ⟨h4.1, h4.2.1⟩
    have w0_0_8 : (0 : Int) ≤ η 0 8 ∧ η 0 8 ≤ 6 := wf_ok (a := 8) (b := 8) (z := (0, 6)) hp.1 (by decide +kernel) (Nat.le_refl _) (Nat.le_refl _)
    have c0_0_8 : η 0 8 = η 0 8 := rfl
    have wb1 : wB wl_le zTr η1 := k1.1.1
    have bx1 : (0 : Int) ≤ x1 ∧ x1 ≤ 1 := k1.1.2.1
    have v1 : zEq (η1 0 8) (η 0 8) := (k1.1.2.2.2.1 0 8 (by decide +kernel)).trans rfl
    have c1_0_8 : η1 0 8 = η 0 8 := v1
    have wb2 : wB wl_le zTr η2 := k2.1.1
    have bx2 : (0 : Int) ≤ x2 ∧ x2 ≤ 1 := k2.1.2.1
    have v2 : zEq (η2 0 8) (η 0 8) := (k2.1.2.2.2.1 0 8 (by decide +kernel)).trans v1
    have c2_0_8 : η2 0 8 = η 0 8 := v2
    have wb3 : wB wl_le zTr η3 := k3.1.1
    have bx3 : ((-1) : Int) ≤ x3 ∧ x3 ≤ 6 := k3.1.2.1
    have v3 : zEq (η3 0 8) (η 0 8) := (k3.1.2.2.2.1 0 8 (by decide +kernel)).trans v2
    have c3_0_8 : η3 0 8 = η 0 8 := v3
    have wb4 : wB wl_le zTr η4 := k4.1.1
    have bx4 : (0 : Int) ≤ x4 ∧ x4 ≤ 1 := k4.1.2.1
    have fm1 : zFm zMle_leafRead η η1 := zFm_tr2 zFm_rf k1.1.2.2.2.1 (by decide +kernel)
    have fm2 : zFm zMle_leafRead η η2 := zFm_tr2 fm1 k2.1.2.2.2.1 (by decide +kernel)
    have fm3 : zFm zMle_leafRead η η3 := zFm_tr2 fm2 k3.1.2.2.2.1 (by decide +kernel)
    have fm4 : zFm zMle_leafRead η η4 := zFm_tr2 fm3 k4.1.2.2.2.1 (by decide +kernel)
    have fmE : zFm zMle_leafRead η η4 := fm4
    have fr22_0 : ∀ j, η 22 j = η 22 j := fun _ => rfl
    have v4 : ∀ j, η1 22 j = η 22 j := fun j => k1.1.2.2.2.1 22 _ (zinr_not (by decide +kernel))
    have fr22_1 : ∀ j, η1 22 j = η 22 j := v4
    have v5 : ∀ j, η2 22 j = η 22 j := fun j => (k2.1.2.2.2.1 22 _ (zinr_not (by decide +kernel))).trans (v4 j)
    have fr22_2 : ∀ j, η2 22 j = η 22 j := v5
    have v6 : ∀ j, η3 22 j = η 22 j := fun j => (k3.1.2.2.2.1 22 _ (zinr_not (by decide +kernel))).trans (v5 j)
    have fr22_3 : ∀ j, η3 22 j = η 22 j := v6
    have v7 : ∀ j, η4 22 j = η 22 j := fun j => (k4.1.2.2.2.1 22 _ (zinr_not (by decide +kernel))).trans (v6 j)
    have fr22_4 : ∀ j, η4 22 j = η 22 j := v7
    have fr22 : ∀ j, η4 22 j = η 22 j := v7
    have v9 : zEq (η1 0 41) (η 0 41) := (k1.1.2.2.2.1 0 41 (by decide +kernel)).trans rfl
    have v10 : zEq (η2 0 41) (η 0 41) := (k2.1.2.2.2.1 0 41 (by decide +kernel)).trans v9
    have v11 : zEq (η3 0 41) (η 0 41) := (k3.1.2.2.2.1 0 41 (by decide +kernel)).trans v10
    have v12 : zEq (η4 0 41) (η 0 41) := (k4.1.2.2.2.1 0 41 (by decide +kernel)).trans v11
    have f0_41 : η4 0 41 = η 0 41 := v12
    have w0_0_43 : (0 : Int) ≤ η 0 43 ∧ η 0 43 ≤ 8 := wf_ok (a := 43) (b := 43) (z := (0, 8)) hp.1 (by decide +kernel) (Nat.le_refl _) (Nat.le_refl _)
    have v14 : zEq (η1 0 43) (η 0 43) := (k1.1.2.2.2.1 0 43 (by decide +kernel)).trans rfl
    have v15 : zEq (η2 0 43) (η 0 43) := (k2.1.2.2.2.1 0 43 (by decide +kernel)).trans v14
    have v16 : zEq (η3 0 43) (η 0 43) := (k3.1.2.2.2.1 0 43 (by decide +kernel)).trans v15
    have v17 : zEq (η4 0 43) (η 0 43) := (k4.1.2.2.2.1 0 43 (by decide +kernel)).trans v16
    have f0_43 : η4 0 43 = η 0 43 := v17
    have v19 : zEq (η1 0 42) (η 0 42) := (k1.1.2.2.2.1 0 42 (by decide +kernel)).trans rfl
    have v20 : zEq (η2 0 42) (η 0 42) := (k2.1.2.2.2.1 0 42 (by decide +kernel)).trans v19
    have v21 : zEq (η3 0 42) (η 0 42) := (k3.1.2.2.2.1 0 42 (by decide +kernel)).trans v20
    have v22 : zEq (η4 0 42) (η 0 42) := (k4.1.2.2.2.1 0 42 (by decide +kernel)).trans v21
    have f0_42 : η4 0 42 = η 0 42 := v22
    have v24 : zEq (η1 0 45) (η 0 45) := (k1.1.2.2.2.1 0 45 (by decide +kernel)).trans rfl
    have v25 : zEq (η2 0 45) (η 0 45) := (k2.1.2.2.2.1 0 45 (by decide +kernel)).trans v24
    have v26 : zEq (η3 0 45) (η 0 45) := (k3.1.2.2.2.1 0 45 (by decide +kernel)).trans v25
    have v27 : zEq (η4 0 45) (η 0 45) := (k4.1.2.2.2.1 0 45 (by decide +kernel)).trans v26
    have f0_45 : η4 0 45 = η 0 45 := v27
    have w0_0_19 : (0 : Int) ≤ η 0 19 ∧ η 0 19 ≤ 64 := wf_ok (a := 19) (b := 19) (z := (0, 64)) hp.1 (by decide +kernel) (Nat.le_refl _) (Nat.le_refl _)
    have v29 : zEq (η1 0 19) (η 0 19) := (k1.1.2.2.2.1 0 19 (by decide +kernel)).trans rfl
    have v30 : zEq (η2 0 19) (η 0 19) := (k2.1.2.2.2.1 0 19 (by decide +kernel)).trans v29
    have v31 : zEq (η3 0 19) (η 0 19) := (k3.1.2.2.2.1 0 19 (by decide +kernel)).trans v30
    have v32 : zEq (η4 0 19) (η 0 19) := (k4.1.2.2.2.1 0 19 (by decide +kernel)).trans v31
    have f0_19 : η4 0 19 = η 0 19 := v32
    have w4_0_44 : (0 : Int) ≤ η4 0 44 ∧ η4 0 44 ≤ 64 := wf_ok (a := 44) (b := 44) (z := (0, 64)) k4.1.1 (by decide +kernel) (Nat.le_refl _) (Nat.le_refl _)
    have f0_44 : η4 0 44 = η4 0 44 := rfl
    have w0_0_7 : (0 : Int) ≤ η 0 7 ∧ η 0 7 ≤ 700 := wf_ok (a := 7) (b := 7) (z := (0, 700)) hp.1 (by decide +kernel) (Nat.le_refl _) (Nat.le_refl _)
    have v35 : zEq (η1 0 7) (η 0 7) := (k1.1.2.2.2.1 0 7 (by decide +kernel)).trans rfl
    have v36 : zEq (η2 0 7) (η 0 7) := (k2.1.2.2.2.1 0 7 (by decide +kernel)).trans v35
    have v37 : zEq (η3 0 7) (η 0 7) := (k3.1.2.2.2.1 0 7 (by decide +kernel)).trans v36
    have v38 : zEq (η4 0 7) (η 0 7) := (k4.1.2.2.2.1 0 7 (by decide +kernel)).trans v37
    have f0_7 : η4 0 7 = η 0 7 := v38
    have w0_0_6 : (0 : Int) ≤ η 0 6 ∧ η 0 6 ≤ 700 := wf_ok (a := 6) (b := 6) (z := (0, 700)) hp.1 (by decide +kernel) (Nat.le_refl _) (Nat.le_refl _)
    have v40 : zEq (η1 0 6) (η 0 6) := (k1.1.2.2.2.1 0 6 (by decide +kernel)).trans rfl
    have v41 : zEq (η2 0 6) (η 0 6) := (k2.1.2.2.2.1 0 6 (by decide +kernel)).trans v40
    have v42 : zEq (η3 0 6) (η 0 6) := (k3.1.2.2.2.1 0 6 (by decide +kernel)).trans v41
    have v43 : zEq (η4 0 6) (η 0 6) := (k4.1.2.2.2.1 0 6 (by decide +kernel)).trans v42
    have f0_6 : η4 0 6 = η 0 6 := v43
    have v44 : zEq (η4 0 8) (η 0 8) := (k4.1.2.2.2.1 0 8 (by decide +kernel)).trans v3
    have f0_8 : η4 0 8 = η 0 8 := v44
    have wbE : wB wl_le zTr η4 := wb4
    
    have I0 : H_l 0 0 0 η := hpp.1
    have I1 : H_l 0 0 0 η1 := k1.2.1
    have I2 : H_l 0 0 0 η2 := k2.2.1
    have I3 : H_l 0 0 0 η3 := k3.2.1
    have qk3 : η2 0 8 = 1 := k3.2.2 c3
    have I4 : H_l 0 0 0 η4 := k4.2.2 c5
    exact ⟨I4.1, fun w => absurd (show (0 : Int) = 0 by apply Int.le_antisymm <;> omega) w⟩
  · obtain ⟨a1, b1⟩ : x1 = (yq_isS 40 η) ∧ η = η1 := ⟨y1.1, y1.2.symm⟩
    subst b1
    obtain ⟨a2, b2⟩ : x2 = (yq_isK 12 η) ∧ η = η2 := ⟨y2.1, y2.2.symm⟩
    subst b2
    obtain ⟨a3, b3⟩ : x3 = (yq_nm η) ∧ η = η3 := ⟨y3.1, y3.2.symm⟩
    subst b3
    obtain ⟨a4, b4⟩ : x4 = (yq_cny η) ∧ η4 = (yq_cns η) := y4
    show 0 = (yq_lf η).1 ∧ η4 = (yq_lf η).2
    simp only [yq_lf, yq_ct, yq_no, yq_inc, ← a1, ← a2, ← a3, ← a4, ← b4]
    all_goals ((repeat' split) <;> first | (exfalso; omega) | exact ⟨rfl, rfl⟩ | rfl)
set_option maxHeartbeats 8000000 in
theorem zle_leafRead_o8 {ro : Nat → List Int32} (η : zE) (hp : sP wl_le zTr zPle_leafRead [] η) (hpp : pPle_leafRead [] η) : ∀ (x1 : Int) (η1 : zE), ((gC2 wl_le [(nat_lit 0, zPle_isSign, zOle_isSign, zMle_isSign), (nat_lit 1, zPle_wrong, zOle_wrong, zMle_wrong), (nat_lit 2, zPle_waitsFor0, zOle_waitsFor0, zMle_waitsFor0), (nat_lit 3, zPle_token, zOle_token, zMle_token), (nat_lit 4, zPle_isKey, zOle_isKey, zMle_isKey), (nat_lit 5, zPle_isCounted, zOle_isCounted, zMle_isCounted), (nat_lit 6, zPle_waitsFor2, zOle_waitsFor2, zMle_waitsFor2), (nat_lit 7, zPle_nameMet, zOle_nameMet, zMle_nameMet), (nat_lit 8, zPle_grown, zOle_grown, zMle_grown)] pCle_leafRead qCle_leafRead) 0).2 [40] η x1 η1 → (x1 = 0) → ∀ (x2 : Int) (η2 : zE), ((gC2 wl_le [(nat_lit 0, zPle_isSign, zOle_isSign, zMle_isSign), (nat_lit 1, zPle_wrong, zOle_wrong, zMle_wrong), (nat_lit 2, zPle_waitsFor0, zOle_waitsFor0, zMle_waitsFor0), (nat_lit 3, zPle_token, zOle_token, zMle_token), (nat_lit 4, zPle_isKey, zOle_isKey, zMle_isKey), (nat_lit 5, zPle_isCounted, zOle_isCounted, zMle_isCounted), (nat_lit 6, zPle_waitsFor2, zOle_waitsFor2, zMle_waitsFor2), (nat_lit 7, zPle_nameMet, zOle_nameMet, zMle_nameMet), (nat_lit 8, zPle_grown, zOle_grown, zMle_grown)] pCle_leafRead qCle_leafRead) 4).2 [12] η1 x2 η2 → (x2 = 0) → ∀ (x3 : Int) (η3 : zE), ((gC2 wl_le [(nat_lit 0, zPle_isSign, zOle_isSign, zMle_isSign), (nat_lit 1, zPle_wrong, zOle_wrong, zMle_wrong), (nat_lit 2, zPle_waitsFor0, zOle_waitsFor0, zMle_waitsFor0), (nat_lit 3, zPle_token, zOle_token, zMle_token), (nat_lit 4, zPle_isKey, zOle_isKey, zMle_isKey), (nat_lit 5, zPle_isCounted, zOle_isCounted, zMle_isCounted), (nat_lit 6, zPle_waitsFor2, zOle_waitsFor2, zMle_waitsFor2), (nat_lit 7, zPle_nameMet, zOle_nameMet, zMle_nameMet), (nat_lit 8, zPle_grown, zOle_grown, zMle_grown)] pCle_leafRead qCle_leafRead) 7).2 [] η2 x3 η3 → (x3 < 0) → ∀ x4 : Int, x4 = η3 0 (Int.toNat 8) → zok 0 x4 → (x4 = 3) → (x3 < 0) → ∀ x5 : Int, x5 = η3 0 (Int.toNat 9) → zok 0 x5 → (x5 ≤ 9999) → ((gC2 wl_le [(nat_lit 0, zPle_isSign, zOle_isSign, zMle_isSign), (nat_lit 1, zPle_wrong, zOle_wrong, zMle_wrong), (nat_lit 2, zPle_waitsFor0, zOle_waitsFor0, zMle_waitsFor0), (nat_lit 3, zPle_token, zOle_token, zMle_token), (nat_lit 4, zPle_isKey, zOle_isKey, zMle_isKey), (nat_lit 5, zPle_isCounted, zOle_isCounted, zMle_isCounted), (nat_lit 6, zPle_waitsFor2, zOle_waitsFor2, zMle_waitsFor2), (nat_lit 7, zPle_nameMet, zOle_nameMet, zMle_nameMet), (nat_lit 8, zPle_grown, zOle_grown, zMle_grown)] pCle_leafRead qCle_leafRead) 5).1 [] η3 := by
  have hw : η 0 45 = 1 := hpp.2
  have hs : η 0 7 ≤ η 0 6 := hpp.1.1.1.1
  have bd43 : (0 : Int) ≤ η 0 43 ∧ η 0 43 ≤ 8 := wf_ok (a := 43) (b := 43) (z := (0, 8)) hp.1 (by decide +kernel) (Nat.le_refl _) (Nat.le_refl _)
  have bd44 : (0 : Int) ≤ η 0 44 ∧ η 0 44 ≤ 64 := wf_ok (a := 44) (b := 44) (z := (0, 64)) hp.1 (by decide +kernel) (Nat.le_refl _) (Nat.le_refl _)
  have bd19 : (0 : Int) ≤ η 0 19 ∧ η 0 19 ≤ 64 := wf_ok (a := 19) (b := 19) (z := (0, 64)) hp.1 (by decide +kernel) (Nat.le_refl _) (Nat.le_refl _)
  intro x1 η1 h1 c1 x2 η2 h2 c2 x3 η3 h3 c3 x4 e4 r4 c4 c5 x5 e5 r5 c6
  have y1 : fQle_isSign [40] η x1 η1 := h1.2.2
  have k1 : sQ wl_le zTr zOle_isSign zMle_isSign [40] η x1 η1 ∧ oQle_isSign [40] η x1 η1 := ⟨h1.1, h1.2.1⟩
  have y2 : fQle_isKey [12] η1 x2 η2 := h2.2.2
  have k2 : sQ wl_le zTr zOle_isKey zMle_isKey [12] η1 x2 η2 ∧ oQle_isKey [12] η1 x2 η2 := ⟨h2.1, h2.2.1⟩
  have y3 : fQle_nameMet [] η2 x3 η3 := h3.2.2
  have k3 : sQ wl_le zTr zOle_nameMet zMle_nameMet [] η2 x3 η3 ∧ oQle_nameMet [] η2 x3 η3 := ⟨h3.1, h3.2.1⟩
  have w0_0_8 : (0 : Int) ≤ η 0 8 ∧ η 0 8 ≤ 6 := wf_ok (a := 8) (b := 8) (z := (0, 6)) hp.1 (by decide +kernel) (Nat.le_refl _) (Nat.le_refl _)
  have c0_0_8 : η 0 8 = η 0 8 := rfl
  have wb1 : wB wl_le zTr η1 := k1.1.1
  have bx1 : (0 : Int) ≤ x1 ∧ x1 ≤ 1 := k1.1.2.1
  have v1 : zEq (η1 0 8) (η 0 8) := (k1.1.2.2.2.1 0 8 (by decide +kernel)).trans rfl
  have c1_0_8 : η1 0 8 = η 0 8 := v1
  have wb2 : wB wl_le zTr η2 := k2.1.1
  have bx2 : (0 : Int) ≤ x2 ∧ x2 ≤ 1 := k2.1.2.1
  have v2 : zEq (η2 0 8) (η 0 8) := (k2.1.2.2.2.1 0 8 (by decide +kernel)).trans v1
  have c2_0_8 : η2 0 8 = η 0 8 := v2
  have wb3 : wB wl_le zTr η3 := k3.1.1
  have bx3 : ((-1) : Int) ≤ x3 ∧ x3 ≤ 6 := k3.1.2.1
  have v3 : zEq (η3 0 8) (η 0 8) := (k3.1.2.2.2.1 0 8 (by decide +kernel)).trans v2
  replace e4 : x4 = η 0 8 := e4.trans v3
  have v5 : zEq (η1 0 9) (η 0 9) := (k1.1.2.2.2.1 0 9 (by decide +kernel)).trans rfl
  have v6 : zEq (η2 0 9) (η 0 9) := (k2.1.2.2.2.1 0 9 (by decide +kernel)).trans v5
  have v7 : zEq (η3 0 9) (η 0 9) := (k3.1.2.2.2.1 0 9 (by decide +kernel)).trans v6
  replace e5 : x5 = η 0 9 := e5.trans v7
  replace r5 : -2147483648 ≤ x5 ∧ x5 ≤ 2147483647 := r5
  have fm1 : zFm zMle_leafRead η η1 := zFm_tr2 zFm_rf k1.1.2.2.2.1 (by decide +kernel)
  have fm2 : zFm zMle_leafRead η η2 := zFm_tr2 fm1 k2.1.2.2.2.1 (by decide +kernel)
  have fm3 : zFm zMle_leafRead η η3 := zFm_tr2 fm2 k3.1.2.2.2.1 (by decide +kernel)
  have fmE : zFm zMle_leafRead η η3 := fm3
  have fr22_0 : ∀ j, η 22 j = η 22 j := fun _ => rfl
  have v8 : ∀ j, η1 22 j = η 22 j := fun j => k1.1.2.2.2.1 22 _ (zinr_not (by decide +kernel))
  have fr22_1 : ∀ j, η1 22 j = η 22 j := v8
  have v9 : ∀ j, η2 22 j = η 22 j := fun j => (k2.1.2.2.2.1 22 _ (zinr_not (by decide +kernel))).trans (v8 j)
  have fr22_2 : ∀ j, η2 22 j = η 22 j := v9
  have v10 : ∀ j, η3 22 j = η 22 j := fun j => (k3.1.2.2.2.1 22 _ (zinr_not (by decide +kernel))).trans (v9 j)
  have fr22_3 : ∀ j, η3 22 j = η 22 j := v10
  have fr22 : ∀ j, η3 22 j = η 22 j := v10
  have v12 : zEq (η1 0 41) (η 0 41) := (k1.1.2.2.2.1 0 41 (by decide +kernel)).trans rfl
  have v13 : zEq (η2 0 41) (η 0 41) := (k2.1.2.2.2.1 0 41 (by decide +kernel)).trans v12
  have v14 : zEq (η3 0 41) (η 0 41) := (k3.1.2.2.2.1 0 41 (by decide +kernel)).trans v13
  have f0_41 : η3 0 41 = η 0 41 := v14
  have w0_0_43 : (0 : Int) ≤ η 0 43 ∧ η 0 43 ≤ 8 := wf_ok (a := 43) (b := 43) (z := (0, 8)) hp.1 (by decide +kernel) (Nat.le_refl _) (Nat.le_refl _)
  have v16 : zEq (η1 0 43) (η 0 43) := (k1.1.2.2.2.1 0 43 (by decide +kernel)).trans rfl
  have v17 : zEq (η2 0 43) (η 0 43) := (k2.1.2.2.2.1 0 43 (by decide +kernel)).trans v16
  have v18 : zEq (η3 0 43) (η 0 43) := (k3.1.2.2.2.1 0 43 (by decide +kernel)).trans v17
  have f0_43 : η3 0 43 = η 0 43 := v18
  have v20 : zEq (η1 0 42) (η 0 42) := (k1.1.2.2.2.1 0 42 (by decide +kernel)).trans rfl
  have v21 : zEq (η2 0 42) (η 0 42) := (k2.1.2.2.2.1 0 42 (by decide +kernel)).trans v20
  have v22 : zEq (η3 0 42) (η 0 42) := (k3.1.2.2.2.1 0 42 (by decide +kernel)).trans v21
  have f0_42 : η3 0 42 = η 0 42 := v22
  have v24 : zEq (η1 0 45) (η 0 45) := (k1.1.2.2.2.1 0 45 (by decide +kernel)).trans rfl
  have v25 : zEq (η2 0 45) (η 0 45) := (k2.1.2.2.2.1 0 45 (by decide +kernel)).trans v24
  have v26 : zEq (η3 0 45) (η 0 45) := (k3.1.2.2.2.1 0 45 (by decide +kernel)).trans v25
  have f0_45 : η3 0 45 = η 0 45 := v26
  have w0_0_19 : (0 : Int) ≤ η 0 19 ∧ η 0 19 ≤ 64 := wf_ok (a := 19) (b := 19) (z := (0, 64)) hp.1 (by decide +kernel) (Nat.le_refl _) (Nat.le_refl _)
  have v28 : zEq (η1 0 19) (η 0 19) := (k1.1.2.2.2.1 0 19 (by decide +kernel)).trans rfl
  have v29 : zEq (η2 0 19) (η 0 19) := (k2.1.2.2.2.1 0 19 (by decide +kernel)).trans v28
  have v30 : zEq (η3 0 19) (η 0 19) := (k3.1.2.2.2.1 0 19 (by decide +kernel)).trans v29
  have f0_19 : η3 0 19 = η 0 19 := v30
  have w0_0_44 : (0 : Int) ≤ η 0 44 ∧ η 0 44 ≤ 64 := wf_ok (a := 44) (b := 44) (z := (0, 64)) hp.1 (by decide +kernel) (Nat.le_refl _) (Nat.le_refl _)
  have v32 : zEq (η1 0 44) (η 0 44) := (k1.1.2.2.2.1 0 44 (by decide +kernel)).trans rfl
  have v33 : zEq (η2 0 44) (η 0 44) := (k2.1.2.2.2.1 0 44 (by decide +kernel)).trans v32
  have v34 : zEq (η3 0 44) (η 0 44) := (k3.1.2.2.2.1 0 44 (by decide +kernel)).trans v33
  have f0_44 : η3 0 44 = η 0 44 := v34
  have w0_0_7 : (0 : Int) ≤ η 0 7 ∧ η 0 7 ≤ 700 := wf_ok (a := 7) (b := 7) (z := (0, 700)) hp.1 (by decide +kernel) (Nat.le_refl _) (Nat.le_refl _)
  have v36 : zEq (η1 0 7) (η 0 7) := (k1.1.2.2.2.1 0 7 (by decide +kernel)).trans rfl
  have v37 : zEq (η2 0 7) (η 0 7) := (k2.1.2.2.2.1 0 7 (by decide +kernel)).trans v36
  have v38 : zEq (η3 0 7) (η 0 7) := (k3.1.2.2.2.1 0 7 (by decide +kernel)).trans v37
  have f0_7 : η3 0 7 = η 0 7 := v38
  have w0_0_6 : (0 : Int) ≤ η 0 6 ∧ η 0 6 ≤ 700 := wf_ok (a := 6) (b := 6) (z := (0, 700)) hp.1 (by decide +kernel) (Nat.le_refl _) (Nat.le_refl _)
  have v40 : zEq (η1 0 6) (η 0 6) := (k1.1.2.2.2.1 0 6 (by decide +kernel)).trans rfl
  have v41 : zEq (η2 0 6) (η 0 6) := (k2.1.2.2.2.1 0 6 (by decide +kernel)).trans v40
  have v42 : zEq (η3 0 6) (η 0 6) := (k3.1.2.2.2.1 0 6 (by decide +kernel)).trans v41
  have f0_6 : η3 0 6 = η 0 6 := v42
  have f0_8 : η3 0 8 = η 0 8 := v3
  have wbE : wB wl_le zTr η3 := wb3
  
  have I0 : H_l 0 0 0 η := hpp.1
  have I1 : H_l 0 0 0 η1 := k1.2.1
  have I2 : H_l 0 0 0 η2 := k2.2.1
  have I3 : H_l 0 0 0 η3 := k3.2.1
  exact I3
set_option maxHeartbeats 8000000 in
theorem zle_leafRead_o9 {ro : Nat → List Int32} (η : zE) (hp : sP wl_le zTr zPle_leafRead [] η) (hpp : pPle_leafRead [] η) : ∀ (x1 : Int) (η1 : zE), ((gC2 wl_le [(nat_lit 0, zPle_isSign, zOle_isSign, zMle_isSign), (nat_lit 1, zPle_wrong, zOle_wrong, zMle_wrong), (nat_lit 2, zPle_waitsFor0, zOle_waitsFor0, zMle_waitsFor0), (nat_lit 3, zPle_token, zOle_token, zMle_token), (nat_lit 4, zPle_isKey, zOle_isKey, zMle_isKey), (nat_lit 5, zPle_isCounted, zOle_isCounted, zMle_isCounted), (nat_lit 6, zPle_waitsFor2, zOle_waitsFor2, zMle_waitsFor2), (nat_lit 7, zPle_nameMet, zOle_nameMet, zMle_nameMet), (nat_lit 8, zPle_grown, zOle_grown, zMle_grown)] pCle_leafRead qCle_leafRead) 0).2 [40] η x1 η1 → (x1 = 0) → ∀ (x2 : Int) (η2 : zE), ((gC2 wl_le [(nat_lit 0, zPle_isSign, zOle_isSign, zMle_isSign), (nat_lit 1, zPle_wrong, zOle_wrong, zMle_wrong), (nat_lit 2, zPle_waitsFor0, zOle_waitsFor0, zMle_waitsFor0), (nat_lit 3, zPle_token, zOle_token, zMle_token), (nat_lit 4, zPle_isKey, zOle_isKey, zMle_isKey), (nat_lit 5, zPle_isCounted, zOle_isCounted, zMle_isCounted), (nat_lit 6, zPle_waitsFor2, zOle_waitsFor2, zMle_waitsFor2), (nat_lit 7, zPle_nameMet, zOle_nameMet, zMle_nameMet), (nat_lit 8, zPle_grown, zOle_grown, zMle_grown)] pCle_leafRead qCle_leafRead) 4).2 [12] η1 x2 η2 → (x2 = 0) → ∀ (x3 : Int) (η3 : zE), ((gC2 wl_le [(nat_lit 0, zPle_isSign, zOle_isSign, zMle_isSign), (nat_lit 1, zPle_wrong, zOle_wrong, zMle_wrong), (nat_lit 2, zPle_waitsFor0, zOle_waitsFor0, zMle_waitsFor0), (nat_lit 3, zPle_token, zOle_token, zMle_token), (nat_lit 4, zPle_isKey, zOle_isKey, zMle_isKey), (nat_lit 5, zPle_isCounted, zOle_isCounted, zMle_isCounted), (nat_lit 6, zPle_waitsFor2, zOle_waitsFor2, zMle_waitsFor2), (nat_lit 7, zPle_nameMet, zOle_nameMet, zMle_nameMet), (nat_lit 8, zPle_grown, zOle_grown, zMle_grown)] pCle_leafRead qCle_leafRead) 7).2 [] η2 x3 η3 → (x3 < 0) → ∀ x4 : Int, x4 = η3 0 (Int.toNat 8) → zok 0 x4 → (x4 = 3) → (x3 < 0) → ∀ x5 : Int, x5 = η3 0 (Int.toNat 9) → zok 0 x5 → (x5 ≤ 9999) → ∀ (x6 : Int) (η4 : zE), ((gC2 wl_le [(nat_lit 0, zPle_isSign, zOle_isSign, zMle_isSign), (nat_lit 1, zPle_wrong, zOle_wrong, zMle_wrong), (nat_lit 2, zPle_waitsFor0, zOle_waitsFor0, zMle_waitsFor0), (nat_lit 3, zPle_token, zOle_token, zMle_token), (nat_lit 4, zPle_isKey, zOle_isKey, zMle_isKey), (nat_lit 5, zPle_isCounted, zOle_isCounted, zMle_isCounted), (nat_lit 6, zPle_waitsFor2, zOle_waitsFor2, zMle_waitsFor2), (nat_lit 7, zPle_nameMet, zOle_nameMet, zMle_nameMet), (nat_lit 8, zPle_grown, zOle_grown, zMle_grown)] pCle_leafRead qCle_leafRead) 5).2 [] η3 x6 η4 → (¬ x6 = 0) → (x3 < 0) → (x3 < 0) → ∀ x7 : Int, x7 = η4 0 (Int.toNat 9) → zok 0 x7 → ((gC2 wl_le [(nat_lit 0, zPle_isSign, zOle_isSign, zMle_isSign), (nat_lit 1, zPle_wrong, zOle_wrong, zMle_wrong), (nat_lit 2, zPle_waitsFor0, zOle_waitsFor0, zMle_waitsFor0), (nat_lit 3, zPle_token, zOle_token, zMle_token), (nat_lit 4, zPle_isKey, zOle_isKey, zMle_isKey), (nat_lit 5, zPle_isCounted, zOle_isCounted, zMle_isCounted), (nat_lit 6, zPle_waitsFor2, zOle_waitsFor2, zMle_waitsFor2), (nat_lit 7, zPle_nameMet, zOle_nameMet, zMle_nameMet), (nat_lit 8, zPle_grown, zOle_grown, zMle_grown)] pCle_leafRead qCle_leafRead) 8).1 [0, x7, 0] η4 := by
  have hw : η 0 45 = 1 := hpp.2
  have hs : η 0 7 ≤ η 0 6 := hpp.1.1.1.1
  have bd43 : (0 : Int) ≤ η 0 43 ∧ η 0 43 ≤ 8 := wf_ok (a := 43) (b := 43) (z := (0, 8)) hp.1 (by decide +kernel) (Nat.le_refl _) (Nat.le_refl _)
  have bd44 : (0 : Int) ≤ η 0 44 ∧ η 0 44 ≤ 64 := wf_ok (a := 44) (b := 44) (z := (0, 64)) hp.1 (by decide +kernel) (Nat.le_refl _) (Nat.le_refl _)
  have bd19 : (0 : Int) ≤ η 0 19 ∧ η 0 19 ≤ 64 := wf_ok (a := 19) (b := 19) (z := (0, 64)) hp.1 (by decide +kernel) (Nat.le_refl _) (Nat.le_refl _)
  intro x1 η1 h1 c1 x2 η2 h2 c2 x3 η3 h3 c3 x4 e4 r4 c4 c5 x5 e5 r5 c6 x6 η4 h6 c7 c8 c9 x7 e7 r7
  have y1 : fQle_isSign [40] η x1 η1 := h1.2.2
  have k1 : sQ wl_le zTr zOle_isSign zMle_isSign [40] η x1 η1 ∧ oQle_isSign [40] η x1 η1 := ⟨h1.1, h1.2.1⟩
  have y2 : fQle_isKey [12] η1 x2 η2 := h2.2.2
  have k2 : sQ wl_le zTr zOle_isKey zMle_isKey [12] η1 x2 η2 ∧ oQle_isKey [12] η1 x2 η2 := ⟨h2.1, h2.2.1⟩
  have y3 : fQle_nameMet [] η2 x3 η3 := h3.2.2
  have k3 : sQ wl_le zTr zOle_nameMet zMle_nameMet [] η2 x3 η3 ∧ oQle_nameMet [] η2 x3 η3 := ⟨h3.1, h3.2.1⟩
  have y6 : fQle_isCounted [] η3 x6 η4 := h6.2.2
  have k6 : sQ wl_le zTr zOle_isCounted zMle_isCounted [] η3 x6 η4 ∧ oQle_isCounted [] η3 x6 η4 := ⟨h6.1, h6.2.1⟩
  have w0_0_8 : (0 : Int) ≤ η 0 8 ∧ η 0 8 ≤ 6 := wf_ok (a := 8) (b := 8) (z := (0, 6)) hp.1 (by decide +kernel) (Nat.le_refl _) (Nat.le_refl _)
  have c0_0_8 : η 0 8 = η 0 8 := rfl
  have wb1 : wB wl_le zTr η1 := k1.1.1
  have bx1 : (0 : Int) ≤ x1 ∧ x1 ≤ 1 := k1.1.2.1
  have v1 : zEq (η1 0 8) (η 0 8) := (k1.1.2.2.2.1 0 8 (by decide +kernel)).trans rfl
  have c1_0_8 : η1 0 8 = η 0 8 := v1
  have wb2 : wB wl_le zTr η2 := k2.1.1
  have bx2 : (0 : Int) ≤ x2 ∧ x2 ≤ 1 := k2.1.2.1
  have v2 : zEq (η2 0 8) (η 0 8) := (k2.1.2.2.2.1 0 8 (by decide +kernel)).trans v1
  have c2_0_8 : η2 0 8 = η 0 8 := v2
  have wb3 : wB wl_le zTr η3 := k3.1.1
  have bx3 : ((-1) : Int) ≤ x3 ∧ x3 ≤ 6 := k3.1.2.1
  have v3 : zEq (η3 0 8) (η 0 8) := (k3.1.2.2.2.1 0 8 (by decide +kernel)).trans v2
  replace e4 : x4 = η 0 8 := e4.trans v3
  have v5 : zEq (η1 0 9) (η 0 9) := (k1.1.2.2.2.1 0 9 (by decide +kernel)).trans rfl
  have v6 : zEq (η2 0 9) (η 0 9) := (k2.1.2.2.2.1 0 9 (by decide +kernel)).trans v5
  have v7 : zEq (η3 0 9) (η 0 9) := (k3.1.2.2.2.1 0 9 (by decide +kernel)).trans v6
  replace e5 : x5 = η 0 9 := e5.trans v7
  replace r5 : -2147483648 ≤ x5 ∧ x5 ≤ 2147483647 := r5
  have c3_0_8 : η3 0 8 = η 0 8 := v3
  have wb4 : wB wl_le zTr η4 := k6.1.1
  have bx6 : (0 : Int) ≤ x6 ∧ x6 ≤ 1 := k6.1.2.1
  have v8 : zEq (η4 0 9) (η 0 9) := (k6.1.2.2.2.1 0 9 (by decide +kernel)).trans v7
  replace e7 : x7 = η 0 9 := e7.trans v8
  replace r7 : -2147483648 ≤ x7 ∧ x7 ≤ 2147483647 := r7
  have fm1 : zFm zMle_leafRead η η1 := zFm_tr2 zFm_rf k1.1.2.2.2.1 (by decide +kernel)
  have fm2 : zFm zMle_leafRead η η2 := zFm_tr2 fm1 k2.1.2.2.2.1 (by decide +kernel)
  have fm3 : zFm zMle_leafRead η η3 := zFm_tr2 fm2 k3.1.2.2.2.1 (by decide +kernel)
  have fm4 : zFm zMle_leafRead η η4 := zFm_tr2 fm3 k6.1.2.2.2.1 (by decide +kernel)
  have fmE : zFm zMle_leafRead η η4 := fm4
  have fr22_0 : ∀ j, η 22 j = η 22 j := fun _ => rfl
  have v9 : ∀ j, η1 22 j = η 22 j := fun j => k1.1.2.2.2.1 22 _ (zinr_not (by decide +kernel))
  have fr22_1 : ∀ j, η1 22 j = η 22 j := v9
  have v10 : ∀ j, η2 22 j = η 22 j := fun j => (k2.1.2.2.2.1 22 _ (zinr_not (by decide +kernel))).trans (v9 j)
  have fr22_2 : ∀ j, η2 22 j = η 22 j := v10
  have v11 : ∀ j, η3 22 j = η 22 j := fun j => (k3.1.2.2.2.1 22 _ (zinr_not (by decide +kernel))).trans (v10 j)
  have fr22_3 : ∀ j, η3 22 j = η 22 j := v11
  have v12 : ∀ j, η4 22 j = η 22 j := fun j => (k6.1.2.2.2.1 22 _ (zinr_not (by decide +kernel))).trans (v11 j)
  have fr22_4 : ∀ j, η4 22 j = η 22 j := v12
  have fr22 : ∀ j, η4 22 j = η 22 j := v12
  have v14 : zEq (η1 0 41) (η 0 41) := (k1.1.2.2.2.1 0 41 (by decide +kernel)).trans rfl
  have v15 : zEq (η2 0 41) (η 0 41) := (k2.1.2.2.2.1 0 41 (by decide +kernel)).trans v14
  have v16 : zEq (η3 0 41) (η 0 41) := (k3.1.2.2.2.1 0 41 (by decide +kernel)).trans v15
  have v17 : zEq (η4 0 41) (η 0 41) := (k6.1.2.2.2.1 0 41 (by decide +kernel)).trans v16
  have f0_41 : η4 0 41 = η 0 41 := v17
  have w0_0_43 : (0 : Int) ≤ η 0 43 ∧ η 0 43 ≤ 8 := wf_ok (a := 43) (b := 43) (z := (0, 8)) hp.1 (by decide +kernel) (Nat.le_refl _) (Nat.le_refl _)
  have v19 : zEq (η1 0 43) (η 0 43) := (k1.1.2.2.2.1 0 43 (by decide +kernel)).trans rfl
  have v20 : zEq (η2 0 43) (η 0 43) := (k2.1.2.2.2.1 0 43 (by decide +kernel)).trans v19
  have v21 : zEq (η3 0 43) (η 0 43) := (k3.1.2.2.2.1 0 43 (by decide +kernel)).trans v20
  have v22 : zEq (η4 0 43) (η 0 43) := (k6.1.2.2.2.1 0 43 (by decide +kernel)).trans v21
  have f0_43 : η4 0 43 = η 0 43 := v22
  have v24 : zEq (η1 0 42) (η 0 42) := (k1.1.2.2.2.1 0 42 (by decide +kernel)).trans rfl
  have v25 : zEq (η2 0 42) (η 0 42) := (k2.1.2.2.2.1 0 42 (by decide +kernel)).trans v24
  have v26 : zEq (η3 0 42) (η 0 42) := (k3.1.2.2.2.1 0 42 (by decide +kernel)).trans v25
  have v27 : zEq (η4 0 42) (η 0 42) := (k6.1.2.2.2.1 0 42 (by decide +kernel)).trans v26
  have f0_42 : η4 0 42 = η 0 42 := v27
  have v29 : zEq (η1 0 45) (η 0 45) := (k1.1.2.2.2.1 0 45 (by decide +kernel)).trans rfl
  have v30 : zEq (η2 0 45) (η 0 45) := (k2.1.2.2.2.1 0 45 (by decide +kernel)).trans v29
  have v31 : zEq (η3 0 45) (η 0 45) := (k3.1.2.2.2.1 0 45 (by decide +kernel)).trans v30
  have v32 : zEq (η4 0 45) (η 0 45) := (k6.1.2.2.2.1 0 45 (by decide +kernel)).trans v31
  have f0_45 : η4 0 45 = η 0 45 := v32
  have w0_0_19 : (0 : Int) ≤ η 0 19 ∧ η 0 19 ≤ 64 := wf_ok (a := 19) (b := 19) (z := (0, 64)) hp.1 (by decide +kernel) (Nat.le_refl _) (Nat.le_refl _)
  have v34 : zEq (η1 0 19) (η 0 19) := (k1.1.2.2.2.1 0 19 (by decide +kernel)).trans rfl
  have v35 : zEq (η2 0 19) (η 0 19) := (k2.1.2.2.2.1 0 19 (by decide +kernel)).trans v34
  have v36 : zEq (η3 0 19) (η 0 19) := (k3.1.2.2.2.1 0 19 (by decide +kernel)).trans v35
  have v37 : zEq (η4 0 19) (η 0 19) := (k6.1.2.2.2.1 0 19 (by decide +kernel)).trans v36
  have f0_19 : η4 0 19 = η 0 19 := v37
  have w4_0_44 : (0 : Int) ≤ η4 0 44 ∧ η4 0 44 ≤ 64 := wf_ok (a := 44) (b := 44) (z := (0, 64)) k6.1.1 (by decide +kernel) (Nat.le_refl _) (Nat.le_refl _)
  have f0_44 : η4 0 44 = η4 0 44 := rfl
  have w0_0_7 : (0 : Int) ≤ η 0 7 ∧ η 0 7 ≤ 700 := wf_ok (a := 7) (b := 7) (z := (0, 700)) hp.1 (by decide +kernel) (Nat.le_refl _) (Nat.le_refl _)
  have v40 : zEq (η1 0 7) (η 0 7) := (k1.1.2.2.2.1 0 7 (by decide +kernel)).trans rfl
  have v41 : zEq (η2 0 7) (η 0 7) := (k2.1.2.2.2.1 0 7 (by decide +kernel)).trans v40
  have v42 : zEq (η3 0 7) (η 0 7) := (k3.1.2.2.2.1 0 7 (by decide +kernel)).trans v41
  have v43 : zEq (η4 0 7) (η 0 7) := (k6.1.2.2.2.1 0 7 (by decide +kernel)).trans v42
  have f0_7 : η4 0 7 = η 0 7 := v43
  have w0_0_6 : (0 : Int) ≤ η 0 6 ∧ η 0 6 ≤ 700 := wf_ok (a := 6) (b := 6) (z := (0, 700)) hp.1 (by decide +kernel) (Nat.le_refl _) (Nat.le_refl _)
  have v45 : zEq (η1 0 6) (η 0 6) := (k1.1.2.2.2.1 0 6 (by decide +kernel)).trans rfl
  have v46 : zEq (η2 0 6) (η 0 6) := (k2.1.2.2.2.1 0 6 (by decide +kernel)).trans v45
  have v47 : zEq (η3 0 6) (η 0 6) := (k3.1.2.2.2.1 0 6 (by decide +kernel)).trans v46
  have v48 : zEq (η4 0 6) (η 0 6) := (k6.1.2.2.2.1 0 6 (by decide +kernel)).trans v47
  have f0_6 : η4 0 6 = η 0 6 := v48
  have v49 : zEq (η4 0 8) (η 0 8) := (k6.1.2.2.2.1 0 8 (by decide +kernel)).trans v3
  have f0_8 : η4 0 8 = η 0 8 := v49
  have wbE : wB wl_le zTr η4 := wb4
  
  have I0 : H_l 0 0 0 η := hpp.1
  have I1 : H_l 0 0 0 η1 := k1.2.1
  have I2 : H_l 0 0 0 η2 := k2.2.1
  have I3 : H_l 0 0 0 η3 := k3.2.1
  have I4 : H_l 1 0 0 η4 := k6.2.1 c7
  obtain ⟨j1, j2, j3, j4⟩ := I4.2
  have cn := cz_n (η := η4) (η4 0 41).toNat
  exact ⟨Or.inl I4, ⟨fun w => absurd w (show ¬ (0 : Int) = 1 by decide), fun w => absurd rfl w, fun w => absurd rfl w⟩, show 0 ≤ η4 0 42 by omega, show η4 0 42 ≤ 95 by omega⟩
set_option maxHeartbeats 8000000 in
theorem zle_leafRead_o10 {ro : Nat → List Int32} (η : zE) (hp : sP wl_le zTr zPle_leafRead [] η) (hpp : pPle_leafRead [] η) : ∀ (x1 : Int) (η1 : zE), ((gC2 wl_le [(nat_lit 0, zPle_isSign, zOle_isSign, zMle_isSign), (nat_lit 1, zPle_wrong, zOle_wrong, zMle_wrong), (nat_lit 2, zPle_waitsFor0, zOle_waitsFor0, zMle_waitsFor0), (nat_lit 3, zPle_token, zOle_token, zMle_token), (nat_lit 4, zPle_isKey, zOle_isKey, zMle_isKey), (nat_lit 5, zPle_isCounted, zOle_isCounted, zMle_isCounted), (nat_lit 6, zPle_waitsFor2, zOle_waitsFor2, zMle_waitsFor2), (nat_lit 7, zPle_nameMet, zOle_nameMet, zMle_nameMet), (nat_lit 8, zPle_grown, zOle_grown, zMle_grown)] pCle_leafRead qCle_leafRead) 0).2 [40] η x1 η1 → (x1 = 0) → ∀ (x2 : Int) (η2 : zE), ((gC2 wl_le [(nat_lit 0, zPle_isSign, zOle_isSign, zMle_isSign), (nat_lit 1, zPle_wrong, zOle_wrong, zMle_wrong), (nat_lit 2, zPle_waitsFor0, zOle_waitsFor0, zMle_waitsFor0), (nat_lit 3, zPle_token, zOle_token, zMle_token), (nat_lit 4, zPle_isKey, zOle_isKey, zMle_isKey), (nat_lit 5, zPle_isCounted, zOle_isCounted, zMle_isCounted), (nat_lit 6, zPle_waitsFor2, zOle_waitsFor2, zMle_waitsFor2), (nat_lit 7, zPle_nameMet, zOle_nameMet, zMle_nameMet), (nat_lit 8, zPle_grown, zOle_grown, zMle_grown)] pCle_leafRead qCle_leafRead) 4).2 [12] η1 x2 η2 → (x2 = 0) → ∀ (x3 : Int) (η3 : zE), ((gC2 wl_le [(nat_lit 0, zPle_isSign, zOle_isSign, zMle_isSign), (nat_lit 1, zPle_wrong, zOle_wrong, zMle_wrong), (nat_lit 2, zPle_waitsFor0, zOle_waitsFor0, zMle_waitsFor0), (nat_lit 3, zPle_token, zOle_token, zMle_token), (nat_lit 4, zPle_isKey, zOle_isKey, zMle_isKey), (nat_lit 5, zPle_isCounted, zOle_isCounted, zMle_isCounted), (nat_lit 6, zPle_waitsFor2, zOle_waitsFor2, zMle_waitsFor2), (nat_lit 7, zPle_nameMet, zOle_nameMet, zMle_nameMet), (nat_lit 8, zPle_grown, zOle_grown, zMle_grown)] pCle_leafRead qCle_leafRead) 7).2 [] η2 x3 η3 → (x3 < 0) → ∀ x4 : Int, x4 = η3 0 (Int.toNat 8) → zok 0 x4 → (x4 = 3) → (x3 < 0) → ∀ x5 : Int, x5 = η3 0 (Int.toNat 9) → zok 0 x5 → (x5 ≤ 9999) → ∀ (x6 : Int) (η4 : zE), ((gC2 wl_le [(nat_lit 0, zPle_isSign, zOle_isSign, zMle_isSign), (nat_lit 1, zPle_wrong, zOle_wrong, zMle_wrong), (nat_lit 2, zPle_waitsFor0, zOle_waitsFor0, zMle_waitsFor0), (nat_lit 3, zPle_token, zOle_token, zMle_token), (nat_lit 4, zPle_isKey, zOle_isKey, zMle_isKey), (nat_lit 5, zPle_isCounted, zOle_isCounted, zMle_isCounted), (nat_lit 6, zPle_waitsFor2, zOle_waitsFor2, zMle_waitsFor2), (nat_lit 7, zPle_nameMet, zOle_nameMet, zMle_nameMet), (nat_lit 8, zPle_grown, zOle_grown, zMle_grown)] pCle_leafRead qCle_leafRead) 5).2 [] η3 x6 η4 → (¬ x6 = 0) → (x3 < 0) → (x3 < 0) → ∀ x7 : Int, x7 = η4 0 (Int.toNat 9) → zok 0 x7 → ∀ (x8 : Int) (η5 : zE), ((gC2 wl_le [(nat_lit 0, zPle_isSign, zOle_isSign, zMle_isSign), (nat_lit 1, zPle_wrong, zOle_wrong, zMle_wrong), (nat_lit 2, zPle_waitsFor0, zOle_waitsFor0, zMle_waitsFor0), (nat_lit 3, zPle_token, zOle_token, zMle_token), (nat_lit 4, zPle_isKey, zOle_isKey, zMle_isKey), (nat_lit 5, zPle_isCounted, zOle_isCounted, zMle_isCounted), (nat_lit 6, zPle_waitsFor2, zOle_waitsFor2, zMle_waitsFor2), (nat_lit 7, zPle_nameMet, zOle_nameMet, zMle_nameMet), (nat_lit 8, zPle_grown, zOle_grown, zMle_grown)] pCle_leafRead qCle_leafRead) 8).2 [0, x7, 0] η4 x8 η5 → ∀ η6 : zE, η6 = zup η5 0 (Int.toNat 45) 0 → ((gC2 wl_le [(nat_lit 0, zPle_isSign, zOle_isSign, zMle_isSign), (nat_lit 1, zPle_wrong, zOle_wrong, zMle_wrong), (nat_lit 2, zPle_waitsFor0, zOle_waitsFor0, zMle_waitsFor0), (nat_lit 3, zPle_token, zOle_token, zMle_token), (nat_lit 4, zPle_isKey, zOle_isKey, zMle_isKey), (nat_lit 5, zPle_isCounted, zOle_isCounted, zMle_isCounted), (nat_lit 6, zPle_waitsFor2, zOle_waitsFor2, zMle_waitsFor2), (nat_lit 7, zPle_nameMet, zOle_nameMet, zMle_nameMet), (nat_lit 8, zPle_grown, zOle_grown, zMle_grown)] pCle_leafRead qCle_leafRead) 3).1 [] η6 := by
  have hw : η 0 45 = 1 := hpp.2
  have hs : η 0 7 ≤ η 0 6 := hpp.1.1.1.1
  have bd43 : (0 : Int) ≤ η 0 43 ∧ η 0 43 ≤ 8 := wf_ok (a := 43) (b := 43) (z := (0, 8)) hp.1 (by decide +kernel) (Nat.le_refl _) (Nat.le_refl _)
  have bd44 : (0 : Int) ≤ η 0 44 ∧ η 0 44 ≤ 64 := wf_ok (a := 44) (b := 44) (z := (0, 64)) hp.1 (by decide +kernel) (Nat.le_refl _) (Nat.le_refl _)
  have bd19 : (0 : Int) ≤ η 0 19 ∧ η 0 19 ≤ 64 := wf_ok (a := 19) (b := 19) (z := (0, 64)) hp.1 (by decide +kernel) (Nat.le_refl _) (Nat.le_refl _)
  intro x1 η1 h1 c1 x2 η2 h2 c2 x3 η3 h3 c3 x4 e4 r4 c4 c5 x5 e5 r5 c6 x6 η4 h6 c7 c8 c9 x7 e7 r7 x8 η5 h8 η6 eη6
  have y1 : fQle_isSign [40] η x1 η1 := h1.2.2
  have k1 : sQ wl_le zTr zOle_isSign zMle_isSign [40] η x1 η1 ∧ oQle_isSign [40] η x1 η1 := ⟨h1.1, h1.2.1⟩
  have y2 : fQle_isKey [12] η1 x2 η2 := h2.2.2
  have k2 : sQ wl_le zTr zOle_isKey zMle_isKey [12] η1 x2 η2 ∧ oQle_isKey [12] η1 x2 η2 := ⟨h2.1, h2.2.1⟩
  have y3 : fQle_nameMet [] η2 x3 η3 := h3.2.2
  have k3 : sQ wl_le zTr zOle_nameMet zMle_nameMet [] η2 x3 η3 ∧ oQle_nameMet [] η2 x3 η3 := ⟨h3.1, h3.2.1⟩
  have y6 : fQle_isCounted [] η3 x6 η4 := h6.2.2
  have k6 : sQ wl_le zTr zOle_isCounted zMle_isCounted [] η3 x6 η4 ∧ oQle_isCounted [] η3 x6 η4 := ⟨h6.1, h6.2.1⟩
  have y8 : fQle_grown [0, x7, 0] η4 x8 η5 := h8.2.2
  have k8 : sQ wl_le zTr zOle_grown zMle_grown [0, x7, 0] η4 x8 η5 ∧ oQle_grown [0, x7, 0] η4 x8 η5 := ⟨h8.1, h8.2.1⟩
  have w0_0_8 : (0 : Int) ≤ η 0 8 ∧ η 0 8 ≤ 6 := wf_ok (a := 8) (b := 8) (z := (0, 6)) hp.1 (by decide +kernel) (Nat.le_refl _) (Nat.le_refl _)
  have c0_0_8 : η 0 8 = η 0 8 := rfl
  have wb1 : wB wl_le zTr η1 := k1.1.1
  have bx1 : (0 : Int) ≤ x1 ∧ x1 ≤ 1 := k1.1.2.1
  have v1 : zEq (η1 0 8) (η 0 8) := (k1.1.2.2.2.1 0 8 (by decide +kernel)).trans rfl
  have c1_0_8 : η1 0 8 = η 0 8 := v1
  have wb2 : wB wl_le zTr η2 := k2.1.1
  have bx2 : (0 : Int) ≤ x2 ∧ x2 ≤ 1 := k2.1.2.1
  have v2 : zEq (η2 0 8) (η 0 8) := (k2.1.2.2.2.1 0 8 (by decide +kernel)).trans v1
  have c2_0_8 : η2 0 8 = η 0 8 := v2
  have wb3 : wB wl_le zTr η3 := k3.1.1
  have bx3 : ((-1) : Int) ≤ x3 ∧ x3 ≤ 6 := k3.1.2.1
  have v3 : zEq (η3 0 8) (η 0 8) := (k3.1.2.2.2.1 0 8 (by decide +kernel)).trans v2
  replace e4 : x4 = η 0 8 := e4.trans v3
  have v5 : zEq (η1 0 9) (η 0 9) := (k1.1.2.2.2.1 0 9 (by decide +kernel)).trans rfl
  have v6 : zEq (η2 0 9) (η 0 9) := (k2.1.2.2.2.1 0 9 (by decide +kernel)).trans v5
  have v7 : zEq (η3 0 9) (η 0 9) := (k3.1.2.2.2.1 0 9 (by decide +kernel)).trans v6
  replace e5 : x5 = η 0 9 := e5.trans v7
  replace r5 : -2147483648 ≤ x5 ∧ x5 ≤ 2147483647 := r5
  have c3_0_8 : η3 0 8 = η 0 8 := v3
  have wb4 : wB wl_le zTr η4 := k6.1.1
  have bx6 : (0 : Int) ≤ x6 ∧ x6 ≤ 1 := k6.1.2.1
  have v8 : zEq (η4 0 9) (η 0 9) := (k6.1.2.2.2.1 0 9 (by decide +kernel)).trans v7
  replace e7 : x7 = η 0 9 := e7.trans v8
  replace r7 : -2147483648 ≤ x7 ∧ x7 ≤ 2147483647 := r7
  have v9 : zEq (η4 0 8) (η 0 8) := (k6.1.2.2.2.1 0 8 (by decide +kernel)).trans v3
  have c4_0_8 : η4 0 8 = η 0 8 := v9
  have w0_0_19 : (0 : Int) ≤ η 0 19 ∧ η 0 19 ≤ 64 := wf_ok (a := 19) (b := 19) (z := (0, 64)) hp.1 (by decide +kernel) (Nat.le_refl _) (Nat.le_refl _)
  have v11 : zEq (η1 0 19) (η 0 19) := (k1.1.2.2.2.1 0 19 (by decide +kernel)).trans rfl
  have v12 : zEq (η2 0 19) (η 0 19) := (k2.1.2.2.2.1 0 19 (by decide +kernel)).trans v11
  have v13 : zEq (η3 0 19) (η 0 19) := (k3.1.2.2.2.1 0 19 (by decide +kernel)).trans v12
  have v14 : zEq (η4 0 19) (η 0 19) := (k6.1.2.2.2.1 0 19 (by decide +kernel)).trans v13
  have c4_0_19 : η4 0 19 = η 0 19 := v14
  have wb5 : wB wl_le zTr η5 := k8.1.1
  have bx8 : (0 : Int) ≤ x8 ∧ x8 ≤ 0 := k8.1.2.1
  have v16 : zEq (η1 0 45) (η 0 45) := (k1.1.2.2.2.1 0 45 (by decide +kernel)).trans rfl
  have v17 : zEq (η2 0 45) (η 0 45) := (k2.1.2.2.2.1 0 45 (by decide +kernel)).trans v16
  have v18 : zEq (η3 0 45) (η 0 45) := (k3.1.2.2.2.1 0 45 (by decide +kernel)).trans v17
  have v19 : zEq (η4 0 45) (η 0 45) := (k6.1.2.2.2.1 0 45 (by decide +kernel)).trans v18
  have v20 : zEq (η5 0 45) (η 0 45) := (k8.1.2.2.2.1 0 45 (by decide +kernel)).trans v19
  have c5_0_45 : η5 0 45 = η 0 45 := v20
  have wb6 : wB wl_le zTr η6 := by rw [eη6]; exact wk_ok (a := 45) (b := 45) (z := ((-2147483648), 2147483647)) zTr_k (GR := []) wb5 (by decide +kernel) (by decide) (by decide) (show ((-2147483648) : Int) ≤ 0 by omega) (show 0 ≤ (2147483647 : Int) by omega)
  have fm1 : zFm zMle_leafRead η η1 := zFm_tr2 zFm_rf k1.1.2.2.2.1 (by decide +kernel)
  have fm2 : zFm zMle_leafRead η η2 := zFm_tr2 fm1 k2.1.2.2.2.1 (by decide +kernel)
  have fm3 : zFm zMle_leafRead η η3 := zFm_tr2 fm2 k3.1.2.2.2.1 (by decide +kernel)
  have fm4 : zFm zMle_leafRead η η4 := zFm_tr2 fm3 k6.1.2.2.2.1 (by decide +kernel)
  have fm5 : zFm zMle_leafRead η η5 := zFm_tr2 fm4 k8.1.2.2.2.1 (by decide +kernel)
  have fm6 : zFm zMle_leafRead η η6 := by rw [eη6]; exact zFm_up fm5 rfl
  have fmE : zFm zMle_leafRead η η6 := fm6
  have fr22_0 : ∀ j, η 22 j = η 22 j := fun _ => rfl
  have v21 : ∀ j, η1 22 j = η 22 j := fun j => k1.1.2.2.2.1 22 _ (zinr_not (by decide +kernel))
  have fr22_1 : ∀ j, η1 22 j = η 22 j := v21
  have v22 : ∀ j, η2 22 j = η 22 j := fun j => (k2.1.2.2.2.1 22 _ (zinr_not (by decide +kernel))).trans (v21 j)
  have fr22_2 : ∀ j, η2 22 j = η 22 j := v22
  have v23 : ∀ j, η3 22 j = η 22 j := fun j => (k3.1.2.2.2.1 22 _ (zinr_not (by decide +kernel))).trans (v22 j)
  have fr22_3 : ∀ j, η3 22 j = η 22 j := v23
  have v24 : ∀ j, η4 22 j = η 22 j := fun j => (k6.1.2.2.2.1 22 _ (zinr_not (by decide +kernel))).trans (v23 j)
  have fr22_4 : ∀ j, η4 22 j = η 22 j := v24
  have v25 : ∀ j, η5 22 j = η 22 j := fun j => (k8.1.2.2.2.1 22 _ (zinr_not (by decide +kernel))).trans (v24 j)
  have fr22_5 : ∀ j, η5 22 j = η 22 j := v25
  have v26 : ∀ j, η6 22 j = η 22 j := fun j => by rw [eη6]; exact (zup_ne (fun e _ => absurd e (by decide))).trans (v25 j)
  have fr22_6 : ∀ j, η6 22 j = η 22 j := v26
  have fr22 : ∀ j, η6 22 j = η 22 j := v26
  have v28 : zEq (η1 0 41) (η 0 41) := (k1.1.2.2.2.1 0 41 (by decide +kernel)).trans rfl
  have v29 : zEq (η2 0 41) (η 0 41) := (k2.1.2.2.2.1 0 41 (by decide +kernel)).trans v28
  have v30 : zEq (η3 0 41) (η 0 41) := (k3.1.2.2.2.1 0 41 (by decide +kernel)).trans v29
  have v31 : zEq (η4 0 41) (η 0 41) := (k6.1.2.2.2.1 0 41 (by decide +kernel)).trans v30
  have v32 : zEq (η5 0 41) (η 0 41) := (k8.1.2.2.2.1 0 41 (by decide +kernel)).trans v31
  have v33 : zEq (η6 0 41) (η 0 41) := by rw [eη6]; exact (zup_ne (fun _ e => absurd e (by decide))).trans v32
  have f0_41 : η6 0 41 = η 0 41 := v33
  have w0_0_43 : (0 : Int) ≤ η 0 43 ∧ η 0 43 ≤ 8 := wf_ok (a := 43) (b := 43) (z := (0, 8)) hp.1 (by decide +kernel) (Nat.le_refl _) (Nat.le_refl _)
  have v35 : zEq (η1 0 43) (η 0 43) := (k1.1.2.2.2.1 0 43 (by decide +kernel)).trans rfl
  have v36 : zEq (η2 0 43) (η 0 43) := (k2.1.2.2.2.1 0 43 (by decide +kernel)).trans v35
  have v37 : zEq (η3 0 43) (η 0 43) := (k3.1.2.2.2.1 0 43 (by decide +kernel)).trans v36
  have v38 : zEq (η4 0 43) (η 0 43) := (k6.1.2.2.2.1 0 43 (by decide +kernel)).trans v37
  have v39 : zEq (η5 0 43) (η 0 43) := (k8.1.2.2.2.1 0 43 (by decide +kernel)).trans v38
  have v40 : zEq (η6 0 43) (η 0 43) := by rw [eη6]; exact (zup_ne (fun _ e => absurd e (by decide))).trans v39
  have f0_43 : η6 0 43 = η 0 43 := v40
  have v42 : zEq (η6 0 42) (η5 0 42) := by rw [eη6]; exact (zup_ne (fun _ e => absurd e (by decide))).trans rfl
  have f0_42 : η6 0 42 = η5 0 42 := v42
  have v43 : zEq (η6 0 45) (0) := by rw [eη6]; exact zup_eq
  have f0_45 : η6 0 45 = 0 := v43
  have w5_0_19 : (0 : Int) ≤ η5 0 19 ∧ η5 0 19 ≤ 64 := wf_ok (a := 19) (b := 19) (z := (0, 64)) k8.1.1 (by decide +kernel) (Nat.le_refl _) (Nat.le_refl _)
  have v45 : zEq (η6 0 19) (η5 0 19) := by rw [eη6]; exact (zup_ne (fun _ e => absurd e (by decide))).trans rfl
  have f0_19 : η6 0 19 = η5 0 19 := v45
  have w4_0_44 : (0 : Int) ≤ η4 0 44 ∧ η4 0 44 ≤ 64 := wf_ok (a := 44) (b := 44) (z := (0, 64)) k6.1.1 (by decide +kernel) (Nat.le_refl _) (Nat.le_refl _)
  have v47 : zEq (η5 0 44) (η4 0 44) := (k8.1.2.2.2.1 0 44 (by decide +kernel)).trans rfl
  have v48 : zEq (η6 0 44) (η4 0 44) := by rw [eη6]; exact (zup_ne (fun _ e => absurd e (by decide))).trans v47
  have f0_44 : η6 0 44 = η4 0 44 := v48
  have w0_0_7 : (0 : Int) ≤ η 0 7 ∧ η 0 7 ≤ 700 := wf_ok (a := 7) (b := 7) (z := (0, 700)) hp.1 (by decide +kernel) (Nat.le_refl _) (Nat.le_refl _)
  have v50 : zEq (η1 0 7) (η 0 7) := (k1.1.2.2.2.1 0 7 (by decide +kernel)).trans rfl
  have v51 : zEq (η2 0 7) (η 0 7) := (k2.1.2.2.2.1 0 7 (by decide +kernel)).trans v50
  have v52 : zEq (η3 0 7) (η 0 7) := (k3.1.2.2.2.1 0 7 (by decide +kernel)).trans v51
  have v53 : zEq (η4 0 7) (η 0 7) := (k6.1.2.2.2.1 0 7 (by decide +kernel)).trans v52
  have v54 : zEq (η5 0 7) (η 0 7) := (k8.1.2.2.2.1 0 7 (by decide +kernel)).trans v53
  have v55 : zEq (η6 0 7) (η 0 7) := by rw [eη6]; exact (zup_ne (fun _ e => absurd e (by decide))).trans v54
  have f0_7 : η6 0 7 = η 0 7 := v55
  have w0_0_6 : (0 : Int) ≤ η 0 6 ∧ η 0 6 ≤ 700 := wf_ok (a := 6) (b := 6) (z := (0, 700)) hp.1 (by decide +kernel) (Nat.le_refl _) (Nat.le_refl _)
  have v57 : zEq (η1 0 6) (η 0 6) := (k1.1.2.2.2.1 0 6 (by decide +kernel)).trans rfl
  have v58 : zEq (η2 0 6) (η 0 6) := (k2.1.2.2.2.1 0 6 (by decide +kernel)).trans v57
  have v59 : zEq (η3 0 6) (η 0 6) := (k3.1.2.2.2.1 0 6 (by decide +kernel)).trans v58
  have v60 : zEq (η4 0 6) (η 0 6) := (k6.1.2.2.2.1 0 6 (by decide +kernel)).trans v59
  have v61 : zEq (η5 0 6) (η 0 6) := (k8.1.2.2.2.1 0 6 (by decide +kernel)).trans v60
  have v62 : zEq (η6 0 6) (η 0 6) := by rw [eη6]; exact (zup_ne (fun _ e => absurd e (by decide))).trans v61
  have f0_6 : η6 0 6 = η 0 6 := v62
  have v63 : zEq (η5 0 8) (η 0 8) := (k8.1.2.2.2.1 0 8 (by decide +kernel)).trans v9
  have v64 : zEq (η6 0 8) (η 0 8) := by rw [eη6]; exact (zup_ne (fun _ e => absurd e (by decide))).trans v63
  have f0_8 : η6 0 8 = η 0 8 := v64
  have wbE : wB wl_le zTr η6 := wb6
  
  have I0 : H_l 0 0 0 η := hpp.1
  have I1 : H_l 0 0 0 η1 := k1.2.1
  have I2 : H_l 0 0 0 η2 := k2.2.1
  have I3 : H_l 0 0 0 η3 := k3.2.1
  have I4 : H_l 1 0 0 η4 := k6.2.1 c7
  have I5 : H_l 0 0 1 η5 := k8.2.1 I4
  have qg8 : η5 0 19 = η4 0 19 + 1 := k8.2.2.2
  have I6 : H_l 0 0 0 η6 := by rw [eη6]; exact h_eq (wn_up I5) rfl rfl (by apply Int.le_antisymm <;> omega)
  exact I6
set_option maxHeartbeats 8000000 in
theorem zle_leafRead_o11 {ro : Nat → List Int32} (η : zE) (hp : sP wl_le zTr zPle_leafRead [] η) (hpp : pPle_leafRead [] η) : ∀ (x1 : Int) (η1 : zE), ((gC2 wl_le [(nat_lit 0, zPle_isSign, zOle_isSign, zMle_isSign), (nat_lit 1, zPle_wrong, zOle_wrong, zMle_wrong), (nat_lit 2, zPle_waitsFor0, zOle_waitsFor0, zMle_waitsFor0), (nat_lit 3, zPle_token, zOle_token, zMle_token), (nat_lit 4, zPle_isKey, zOle_isKey, zMle_isKey), (nat_lit 5, zPle_isCounted, zOle_isCounted, zMle_isCounted), (nat_lit 6, zPle_waitsFor2, zOle_waitsFor2, zMle_waitsFor2), (nat_lit 7, zPle_nameMet, zOle_nameMet, zMle_nameMet), (nat_lit 8, zPle_grown, zOle_grown, zMle_grown)] pCle_leafRead qCle_leafRead) 0).2 [40] η x1 η1 → (x1 = 0) → ∀ (x2 : Int) (η2 : zE), ((gC2 wl_le [(nat_lit 0, zPle_isSign, zOle_isSign, zMle_isSign), (nat_lit 1, zPle_wrong, zOle_wrong, zMle_wrong), (nat_lit 2, zPle_waitsFor0, zOle_waitsFor0, zMle_waitsFor0), (nat_lit 3, zPle_token, zOle_token, zMle_token), (nat_lit 4, zPle_isKey, zOle_isKey, zMle_isKey), (nat_lit 5, zPle_isCounted, zOle_isCounted, zMle_isCounted), (nat_lit 6, zPle_waitsFor2, zOle_waitsFor2, zMle_waitsFor2), (nat_lit 7, zPle_nameMet, zOle_nameMet, zMle_nameMet), (nat_lit 8, zPle_grown, zOle_grown, zMle_grown)] pCle_leafRead qCle_leafRead) 4).2 [12] η1 x2 η2 → (x2 = 0) → ∀ (x3 : Int) (η3 : zE), ((gC2 wl_le [(nat_lit 0, zPle_isSign, zOle_isSign, zMle_isSign), (nat_lit 1, zPle_wrong, zOle_wrong, zMle_wrong), (nat_lit 2, zPle_waitsFor0, zOle_waitsFor0, zMle_waitsFor0), (nat_lit 3, zPle_token, zOle_token, zMle_token), (nat_lit 4, zPle_isKey, zOle_isKey, zMle_isKey), (nat_lit 5, zPle_isCounted, zOle_isCounted, zMle_isCounted), (nat_lit 6, zPle_waitsFor2, zOle_waitsFor2, zMle_waitsFor2), (nat_lit 7, zPle_nameMet, zOle_nameMet, zMle_nameMet), (nat_lit 8, zPle_grown, zOle_grown, zMle_grown)] pCle_leafRead qCle_leafRead) 7).2 [] η2 x3 η3 → (x3 < 0) → ∀ x4 : Int, x4 = η3 0 (Int.toNat 8) → zok 0 x4 → (x4 = 3) → (x3 < 0) → ∀ x5 : Int, x5 = η3 0 (Int.toNat 9) → zok 0 x5 → (x5 ≤ 9999) → ∀ (x6 : Int) (η4 : zE), ((gC2 wl_le [(nat_lit 0, zPle_isSign, zOle_isSign, zMle_isSign), (nat_lit 1, zPle_wrong, zOle_wrong, zMle_wrong), (nat_lit 2, zPle_waitsFor0, zOle_waitsFor0, zMle_waitsFor0), (nat_lit 3, zPle_token, zOle_token, zMle_token), (nat_lit 4, zPle_isKey, zOle_isKey, zMle_isKey), (nat_lit 5, zPle_isCounted, zOle_isCounted, zMle_isCounted), (nat_lit 6, zPle_waitsFor2, zOle_waitsFor2, zMle_waitsFor2), (nat_lit 7, zPle_nameMet, zOle_nameMet, zMle_nameMet), (nat_lit 8, zPle_grown, zOle_grown, zMle_grown)] pCle_leafRead qCle_leafRead) 5).2 [] η3 x6 η4 → (¬ x6 = 0) → (x3 < 0) → (x3 < 0) → ∀ x7 : Int, x7 = η4 0 (Int.toNat 9) → zok 0 x7 → ∀ (x8 : Int) (η5 : zE), ((gC2 wl_le [(nat_lit 0, zPle_isSign, zOle_isSign, zMle_isSign), (nat_lit 1, zPle_wrong, zOle_wrong, zMle_wrong), (nat_lit 2, zPle_waitsFor0, zOle_waitsFor0, zMle_waitsFor0), (nat_lit 3, zPle_token, zOle_token, zMle_token), (nat_lit 4, zPle_isKey, zOle_isKey, zMle_isKey), (nat_lit 5, zPle_isCounted, zOle_isCounted, zMle_isCounted), (nat_lit 6, zPle_waitsFor2, zOle_waitsFor2, zMle_waitsFor2), (nat_lit 7, zPle_nameMet, zOle_nameMet, zMle_nameMet), (nat_lit 8, zPle_grown, zOle_grown, zMle_grown)] pCle_leafRead qCle_leafRead) 8).2 [0, x7, 0] η4 x8 η5 → ∀ η6 : zE, η6 = zup η5 0 (Int.toNat 45) 0 → ∀ (x9 : Int) (η7 : zE), ((gC2 wl_le [(nat_lit 0, zPle_isSign, zOle_isSign, zMle_isSign), (nat_lit 1, zPle_wrong, zOle_wrong, zMle_wrong), (nat_lit 2, zPle_waitsFor0, zOle_waitsFor0, zMle_waitsFor0), (nat_lit 3, zPle_token, zOle_token, zMle_token), (nat_lit 4, zPle_isKey, zOle_isKey, zMle_isKey), (nat_lit 5, zPle_isCounted, zOle_isCounted, zMle_isCounted), (nat_lit 6, zPle_waitsFor2, zOle_waitsFor2, zMle_waitsFor2), (nat_lit 7, zPle_nameMet, zOle_nameMet, zMle_nameMet), (nat_lit 8, zPle_grown, zOle_grown, zMle_grown)] pCle_leafRead qCle_leafRead) 3).2 [] η6 x9 η7 → (fun (_ : Nat) (y : Int) (η' : zE) => pQle_leafRead [] η y η') 0 1 η7 := by
  intro x1 η1 h1 c1 x2 η2 h2 c2 x3 η3 h3 c3 x4 e4 r4 c4 c5 x5 e5 r5 c6 x6 η4 h6 c7 c8 c9 x7 e7 r7 x8 η5 h8 η6 eη6 x9 η7 h9
  have y1 : fQle_isSign [40] η x1 η1 := h1.2.2
  have k1 : sQ wl_le zTr zOle_isSign zMle_isSign [40] η x1 η1 ∧ oQle_isSign [40] η x1 η1 := ⟨h1.1, h1.2.1⟩
  have y2 : fQle_isKey [12] η1 x2 η2 := h2.2.2
  have k2 : sQ wl_le zTr zOle_isKey zMle_isKey [12] η1 x2 η2 ∧ oQle_isKey [12] η1 x2 η2 := ⟨h2.1, h2.2.1⟩
  have y3 : fQle_nameMet [] η2 x3 η3 := h3.2.2
  have k3 : sQ wl_le zTr zOle_nameMet zMle_nameMet [] η2 x3 η3 ∧ oQle_nameMet [] η2 x3 η3 := ⟨h3.1, h3.2.1⟩
  have y6 : fQle_isCounted [] η3 x6 η4 := h6.2.2
  have k6 : sQ wl_le zTr zOle_isCounted zMle_isCounted [] η3 x6 η4 ∧ oQle_isCounted [] η3 x6 η4 := ⟨h6.1, h6.2.1⟩
  have y8 : fQle_grown [0, x7, 0] η4 x8 η5 := h8.2.2
  have k8 : sQ wl_le zTr zOle_grown zMle_grown [0, x7, 0] η4 x8 η5 ∧ oQle_grown [0, x7, 0] η4 x8 η5 := ⟨h8.1, h8.2.1⟩
  have y9 : fQle_token [] η6 x9 η7 := h9.2.2
  have k9 : sQ wl_le zTr zOle_token zMle_token [] η6 x9 η7 ∧ oQle_token [] η6 x9 η7 := ⟨h9.1, h9.2.1⟩
  refine yj_a ?_ ?_
  · have hw : η 0 45 = 1 := hpp.2
    have hs : η 0 7 ≤ η 0 6 := hpp.1.1.1.1
    have bd43 : (0 : Int) ≤ η 0 43 ∧ η 0 43 ≤ 8 := wf_ok (a := 43) (b := 43) (z := (0, 8)) hp.1 (by decide +kernel) (Nat.le_refl _) (Nat.le_refl _)
    have bd44 : (0 : Int) ≤ η 0 44 ∧ η 0 44 ≤ 64 := wf_ok (a := 44) (b := 44) (z := (0, 64)) hp.1 (by decide +kernel) (Nat.le_refl _) (Nat.le_refl _)
    have bd19 : (0 : Int) ≤ η 0 19 ∧ η 0 19 ≤ 64 := wf_ok (a := 19) (b := 19) (z := (0, 64)) hp.1 (by decide +kernel) (Nat.le_refl _) (Nat.le_refl _)
    have y1 : fQle_isSign [40] η x1 η1 := h1.2.2
    have k1 : sQ wl_le zTr zOle_isSign zMle_isSign [40] η x1 η1 ∧ oQle_isSign [40] η x1 η1 := ⟨h1.1, h1.2.1⟩
    have y2 : fQle_isKey [12] η1 x2 η2 := h2.2.2
    have k2 : sQ wl_le zTr zOle_isKey zMle_isKey [12] η1 x2 η2 ∧ oQle_isKey [12] η1 x2 η2 := ⟨h2.1, h2.2.1⟩
    have y3 : fQle_nameMet [] η2 x3 η3 := h3.2.2
    have k3 : sQ wl_le zTr zOle_nameMet zMle_nameMet [] η2 x3 η3 ∧ oQle_nameMet [] η2 x3 η3 := ⟨h3.1, h3.2.1⟩
    have y6 : fQle_isCounted [] η3 x6 η4 := h6.2.2
    have k6 : sQ wl_le zTr zOle_isCounted zMle_isCounted [] η3 x6 η4 ∧ oQle_isCounted [] η3 x6 η4 := ⟨h6.1, h6.2.1⟩
    have y8 : fQle_grown [0, x7, 0] η4 x8 η5 := h8.2.2
    have k8 : sQ wl_le zTr zOle_grown zMle_grown [0, x7, 0] η4 x8 η5 ∧ oQle_grown [0, x7, 0] η4 x8 η5 := ⟨h8.1, h8.2.1⟩
    have y9 : fQle_token [] η6 x9 η7 := h9.2.2
    have k9 : sQ wl_le zTr zOle_token zMle_token [] η6 x9 η7 ∧ oQle_token [] η6 x9 η7 := ⟨h9.1, h9.2.1⟩
    have w0_0_8 : (0 : Int) ≤ η 0 8 ∧ η 0 8 ≤ 6 := wf_ok (a := 8) (b := 8) (z := (0, 6)) hp.1 (by decide +kernel) (Nat.le_refl _) (Nat.le_refl _)
    have c0_0_8 : η 0 8 = η 0 8 := rfl
    have wb1 : wB wl_le zTr η1 := k1.1.1
    have bx1 : (0 : Int) ≤ x1 ∧ x1 ≤ 1 := k1.1.2.1
    have v1 : zEq (η1 0 8) (η 0 8) := (k1.1.2.2.2.1 0 8 (by decide +kernel)).trans rfl
    have c1_0_8 : η1 0 8 = η 0 8 := v1
    have wb2 : wB wl_le zTr η2 := k2.1.1
    have bx2 : (0 : Int) ≤ x2 ∧ x2 ≤ 1 := k2.1.2.1
    have v2 : zEq (η2 0 8) (η 0 8) := (k2.1.2.2.2.1 0 8 (by decide +kernel)).trans v1
    have c2_0_8 : η2 0 8 = η 0 8 := v2
    have wb3 : wB wl_le zTr η3 := k3.1.1
    have bx3 : ((-1) : Int) ≤ x3 ∧ x3 ≤ 6 := k3.1.2.1
    have v3 : zEq (η3 0 8) (η 0 8) := (k3.1.2.2.2.1 0 8 (by decide +kernel)).trans v2
    replace e4 : x4 = η 0 8 := e4.trans v3
    have v5 : zEq (η1 0 9) (η 0 9) := (k1.1.2.2.2.1 0 9 (by decide +kernel)).trans rfl
    have v6 : zEq (η2 0 9) (η 0 9) := (k2.1.2.2.2.1 0 9 (by decide +kernel)).trans v5
    have v7 : zEq (η3 0 9) (η 0 9) := (k3.1.2.2.2.1 0 9 (by decide +kernel)).trans v6
    replace e5 : x5 = η 0 9 := e5.trans v7
    replace r5 : -2147483648 ≤ x5 ∧ x5 ≤ 2147483647 := r5
    have c3_0_8 : η3 0 8 = η 0 8 := v3
    have wb4 : wB wl_le zTr η4 := k6.1.1
    have bx6 : (0 : Int) ≤ x6 ∧ x6 ≤ 1 := k6.1.2.1
    have v8 : zEq (η4 0 9) (η 0 9) := (k6.1.2.2.2.1 0 9 (by decide +kernel)).trans v7
    replace e7 : x7 = η 0 9 := e7.trans v8
    replace r7 : -2147483648 ≤ x7 ∧ x7 ≤ 2147483647 := r7
    have v9 : zEq (η4 0 8) (η 0 8) := (k6.1.2.2.2.1 0 8 (by decide +kernel)).trans v3
    have c4_0_8 : η4 0 8 = η 0 8 := v9
    have w0_0_19 : (0 : Int) ≤ η 0 19 ∧ η 0 19 ≤ 64 := wf_ok (a := 19) (b := 19) (z := (0, 64)) hp.1 (by decide +kernel) (Nat.le_refl _) (Nat.le_refl _)
    have v11 : zEq (η1 0 19) (η 0 19) := (k1.1.2.2.2.1 0 19 (by decide +kernel)).trans rfl
    have v12 : zEq (η2 0 19) (η 0 19) := (k2.1.2.2.2.1 0 19 (by decide +kernel)).trans v11
    have v13 : zEq (η3 0 19) (η 0 19) := (k3.1.2.2.2.1 0 19 (by decide +kernel)).trans v12
    have v14 : zEq (η4 0 19) (η 0 19) := (k6.1.2.2.2.1 0 19 (by decide +kernel)).trans v13
    have c4_0_19 : η4 0 19 = η 0 19 := v14
    have wb5 : wB wl_le zTr η5 := k8.1.1
    have bx8 : (0 : Int) ≤ x8 ∧ x8 ≤ 0 := k8.1.2.1
    have v16 : zEq (η1 0 45) (η 0 45) := (k1.1.2.2.2.1 0 45 (by decide +kernel)).trans rfl
    have v17 : zEq (η2 0 45) (η 0 45) := (k2.1.2.2.2.1 0 45 (by decide +kernel)).trans v16
    have v18 : zEq (η3 0 45) (η 0 45) := (k3.1.2.2.2.1 0 45 (by decide +kernel)).trans v17
    have v19 : zEq (η4 0 45) (η 0 45) := (k6.1.2.2.2.1 0 45 (by decide +kernel)).trans v18
    have v20 : zEq (η5 0 45) (η 0 45) := (k8.1.2.2.2.1 0 45 (by decide +kernel)).trans v19
    have c5_0_45 : η5 0 45 = η 0 45 := v20
    have wb6 : wB wl_le zTr η6 := by rw [eη6]; exact wk_ok (a := 45) (b := 45) (z := ((-2147483648), 2147483647)) zTr_k (GR := []) wb5 (by decide +kernel) (by decide) (by decide) (show ((-2147483648) : Int) ≤ 0 by omega) (show 0 ≤ (2147483647 : Int) by omega)
    have w0_0_7 : (0 : Int) ≤ η 0 7 ∧ η 0 7 ≤ 700 := wf_ok (a := 7) (b := 7) (z := (0, 700)) hp.1 (by decide +kernel) (Nat.le_refl _) (Nat.le_refl _)
    have v22 : zEq (η1 0 7) (η 0 7) := (k1.1.2.2.2.1 0 7 (by decide +kernel)).trans rfl
    have v23 : zEq (η2 0 7) (η 0 7) := (k2.1.2.2.2.1 0 7 (by decide +kernel)).trans v22
    have v24 : zEq (η3 0 7) (η 0 7) := (k3.1.2.2.2.1 0 7 (by decide +kernel)).trans v23
    have v25 : zEq (η4 0 7) (η 0 7) := (k6.1.2.2.2.1 0 7 (by decide +kernel)).trans v24
    have v26 : zEq (η5 0 7) (η 0 7) := (k8.1.2.2.2.1 0 7 (by decide +kernel)).trans v25
    have v27 : zEq (η6 0 7) (η 0 7) := by rw [eη6]; exact (zup_ne (fun _ e => absurd e (by decide))).trans v26
    have c6_0_7 : η6 0 7 = η 0 7 := v27
    have w0_0_6 : (0 : Int) ≤ η 0 6 ∧ η 0 6 ≤ 700 := wf_ok (a := 6) (b := 6) (z := (0, 700)) hp.1 (by decide +kernel) (Nat.le_refl _) (Nat.le_refl _)
    have v29 : zEq (η1 0 6) (η 0 6) := (k1.1.2.2.2.1 0 6 (by decide +kernel)).trans rfl
    have v30 : zEq (η2 0 6) (η 0 6) := (k2.1.2.2.2.1 0 6 (by decide +kernel)).trans v29
    have v31 : zEq (η3 0 6) (η 0 6) := (k3.1.2.2.2.1 0 6 (by decide +kernel)).trans v30
    have v32 : zEq (η4 0 6) (η 0 6) := (k6.1.2.2.2.1 0 6 (by decide +kernel)).trans v31
    have v33 : zEq (η5 0 6) (η 0 6) := (k8.1.2.2.2.1 0 6 (by decide +kernel)).trans v32
    have v34 : zEq (η6 0 6) (η 0 6) := by rw [eη6]; exact (zup_ne (fun _ e => absurd e (by decide))).trans v33
    have c6_0_6 : η6 0 6 = η 0 6 := v34
    have v35 : zEq (η5 0 8) (η 0 8) := (k8.1.2.2.2.1 0 8 (by decide +kernel)).trans v9
    have v36 : zEq (η6 0 8) (η 0 8) := by rw [eη6]; exact (zup_ne (fun _ e => absurd e (by decide))).trans v35
    have c6_0_8 : η6 0 8 = η 0 8 := v36
    have wb7 : wB wl_le zTr η7 := k9.1.1
    have bx9 : (0 : Int) ≤ x9 ∧ x9 ≤ 0 := k9.1.2.1
    have fm1 : zFm zMle_leafRead η η1 := zFm_tr2 zFm_rf k1.1.2.2.2.1 (by decide +kernel)
    have fm2 : zFm zMle_leafRead η η2 := zFm_tr2 fm1 k2.1.2.2.2.1 (by decide +kernel)
    have fm3 : zFm zMle_leafRead η η3 := zFm_tr2 fm2 k3.1.2.2.2.1 (by decide +kernel)
    have fm4 : zFm zMle_leafRead η η4 := zFm_tr2 fm3 k6.1.2.2.2.1 (by decide +kernel)
    have fm5 : zFm zMle_leafRead η η5 := zFm_tr2 fm4 k8.1.2.2.2.1 (by decide +kernel)
    have fm6 : zFm zMle_leafRead η η6 := by rw [eη6]; exact zFm_up fm5 rfl
    have fm7 : zFm zMle_leafRead η η7 := zFm_tr2 fm6 k9.1.2.2.2.1 (by decide +kernel)
    have fmE : zFm zMle_leafRead η η7 := fm7
    have fr22_0 : ∀ j, η 22 j = η 22 j := fun _ => rfl
    have v37 : ∀ j, η1 22 j = η 22 j := fun j => k1.1.2.2.2.1 22 _ (zinr_not (by decide +kernel))
    have fr22_1 : ∀ j, η1 22 j = η 22 j := v37
    have v38 : ∀ j, η2 22 j = η 22 j := fun j => (k2.1.2.2.2.1 22 _ (zinr_not (by decide +kernel))).trans (v37 j)
    have fr22_2 : ∀ j, η2 22 j = η 22 j := v38
    have v39 : ∀ j, η3 22 j = η 22 j := fun j => (k3.1.2.2.2.1 22 _ (zinr_not (by decide +kernel))).trans (v38 j)
    have fr22_3 : ∀ j, η3 22 j = η 22 j := v39
    have v40 : ∀ j, η4 22 j = η 22 j := fun j => (k6.1.2.2.2.1 22 _ (zinr_not (by decide +kernel))).trans (v39 j)
    have fr22_4 : ∀ j, η4 22 j = η 22 j := v40
    have v41 : ∀ j, η5 22 j = η 22 j := fun j => (k8.1.2.2.2.1 22 _ (zinr_not (by decide +kernel))).trans (v40 j)
    have fr22_5 : ∀ j, η5 22 j = η 22 j := v41
    have v42 : ∀ j, η6 22 j = η 22 j := fun j => by rw [eη6]; exact (zup_ne (fun e _ => absurd e (by decide))).trans (v41 j)
    have fr22_6 : ∀ j, η6 22 j = η 22 j := v42
    have v43 : ∀ j, η7 22 j = η 22 j := fun j => (k9.1.2.2.2.1 22 _ (zinr_not (by decide +kernel))).trans (v42 j)
    have fr22_7 : ∀ j, η7 22 j = η 22 j := v43
    have fr22 : ∀ j, η7 22 j = η 22 j := v43
    have v45 : zEq (η1 0 41) (η 0 41) := (k1.1.2.2.2.1 0 41 (by decide +kernel)).trans rfl
    have v46 : zEq (η2 0 41) (η 0 41) := (k2.1.2.2.2.1 0 41 (by decide +kernel)).trans v45
    have v47 : zEq (η3 0 41) (η 0 41) := (k3.1.2.2.2.1 0 41 (by decide +kernel)).trans v46
    have v48 : zEq (η4 0 41) (η 0 41) := (k6.1.2.2.2.1 0 41 (by decide +kernel)).trans v47
    have v49 : zEq (η5 0 41) (η 0 41) := (k8.1.2.2.2.1 0 41 (by decide +kernel)).trans v48
    have v50 : zEq (η6 0 41) (η 0 41) := by rw [eη6]; exact (zup_ne (fun _ e => absurd e (by decide))).trans v49
    have v51 : zEq (η7 0 41) (η 0 41) := (k9.1.2.2.2.1 0 41 (by decide +kernel)).trans v50
    have f0_41 : η7 0 41 = η 0 41 := v51
    have w0_0_43 : (0 : Int) ≤ η 0 43 ∧ η 0 43 ≤ 8 := wf_ok (a := 43) (b := 43) (z := (0, 8)) hp.1 (by decide +kernel) (Nat.le_refl _) (Nat.le_refl _)
    have v53 : zEq (η1 0 43) (η 0 43) := (k1.1.2.2.2.1 0 43 (by decide +kernel)).trans rfl
    have v54 : zEq (η2 0 43) (η 0 43) := (k2.1.2.2.2.1 0 43 (by decide +kernel)).trans v53
    have v55 : zEq (η3 0 43) (η 0 43) := (k3.1.2.2.2.1 0 43 (by decide +kernel)).trans v54
    have v56 : zEq (η4 0 43) (η 0 43) := (k6.1.2.2.2.1 0 43 (by decide +kernel)).trans v55
    have v57 : zEq (η5 0 43) (η 0 43) := (k8.1.2.2.2.1 0 43 (by decide +kernel)).trans v56
    have v58 : zEq (η6 0 43) (η 0 43) := by rw [eη6]; exact (zup_ne (fun _ e => absurd e (by decide))).trans v57
    have v59 : zEq (η7 0 43) (η 0 43) := (k9.1.2.2.2.1 0 43 (by decide +kernel)).trans v58
    have f0_43 : η7 0 43 = η 0 43 := v59
    have v61 : zEq (η6 0 42) (η5 0 42) := by rw [eη6]; exact (zup_ne (fun _ e => absurd e (by decide))).trans rfl
    have v62 : zEq (η7 0 42) (η5 0 42) := (k9.1.2.2.2.1 0 42 (by decide +kernel)).trans v61
    have f0_42 : η7 0 42 = η5 0 42 := v62
    have v63 : zEq (η6 0 45) (0) := by rw [eη6]; exact zup_eq
    have v64 : zEq (η7 0 45) (0) := (k9.1.2.2.2.1 0 45 (by decide +kernel)).trans v63
    have f0_45 : η7 0 45 = 0 := v64
    have w5_0_19 : (0 : Int) ≤ η5 0 19 ∧ η5 0 19 ≤ 64 := wf_ok (a := 19) (b := 19) (z := (0, 64)) k8.1.1 (by decide +kernel) (Nat.le_refl _) (Nat.le_refl _)
    have v66 : zEq (η6 0 19) (η5 0 19) := by rw [eη6]; exact (zup_ne (fun _ e => absurd e (by decide))).trans rfl
    have v67 : zEq (η7 0 19) (η5 0 19) := (k9.1.2.2.2.1 0 19 (by decide +kernel)).trans v66
    have f0_19 : η7 0 19 = η5 0 19 := v67
    have w4_0_44 : (0 : Int) ≤ η4 0 44 ∧ η4 0 44 ≤ 64 := wf_ok (a := 44) (b := 44) (z := (0, 64)) k6.1.1 (by decide +kernel) (Nat.le_refl _) (Nat.le_refl _)
    have v69 : zEq (η5 0 44) (η4 0 44) := (k8.1.2.2.2.1 0 44 (by decide +kernel)).trans rfl
    have v70 : zEq (η6 0 44) (η4 0 44) := by rw [eη6]; exact (zup_ne (fun _ e => absurd e (by decide))).trans v69
    have v71 : zEq (η7 0 44) (η4 0 44) := (k9.1.2.2.2.1 0 44 (by decide +kernel)).trans v70
    have f0_44 : η7 0 44 = η4 0 44 := v71
    have w7_0_7 : (0 : Int) ≤ η7 0 7 ∧ η7 0 7 ≤ 700 := wf_ok (a := 7) (b := 7) (z := (0, 700)) k9.1.1 (by decide +kernel) (Nat.le_refl _) (Nat.le_refl _)
    have f0_7 : η7 0 7 = η7 0 7 := rfl
    have v73 : zEq (η7 0 6) (η 0 6) := (k9.1.2.2.2.1 0 6 (by decide +kernel)).trans v34
    have f0_6 : η7 0 6 = η 0 6 := v73
    have w7_0_8 : (0 : Int) ≤ η7 0 8 ∧ η7 0 8 ≤ 6 := wf_ok (a := 8) (b := 8) (z := (0, 6)) k9.1.1 (by decide +kernel) (Nat.le_refl _) (Nat.le_refl _)
    have f0_8 : η7 0 8 = η7 0 8 := rfl
    have wbE : wB wl_le zTr η7 := wb7
    
    have I0 : H_l 0 0 0 η := hpp.1
    have I1 : H_l 0 0 0 η1 := k1.2.1
    have I2 : H_l 0 0 0 η2 := k2.2.1
    have I3 : H_l 0 0 0 η3 := k3.2.1
    have I4 : H_l 1 0 0 η4 := k6.2.1 c7
    have I5 : H_l 0 0 1 η5 := k8.2.1 I4
    have qg8 : η5 0 19 = η4 0 19 + 1 := k8.2.2.2
    have I6 : H_l 0 0 0 η6 := by rw [eη6]; exact h_eq (wn_up I5) rfl rfl (by apply Int.le_antisymm <;> omega)
    have I7 : H_l 0 0 0 η7 := k9.2.1
    have qt9 : ¬ η6 0 8 = 0 → 10 * (η7 0 6 - η7 0 7) + η7 0 8 < 10 * (η6 0 6 - η6 0 7) + η6 0 8 := k9.2.2
    refine ⟨I7.1, fun _ => ⟨I7, show 10 * (η7 0 6 - η7 0 7) + η7 0 8 < 10 * (η 0 6 - η 0 7) + η 0 8 by omega, fun w => ?_⟩⟩
    have w : η7 0 45 = 0 := w
    omega
  · obtain ⟨a1, b1⟩ : x1 = (yq_isS 40 η) ∧ η = η1 := ⟨y1.1, y1.2.symm⟩
    subst b1
    obtain ⟨a2, b2⟩ : x2 = (yq_isK 12 η) ∧ η = η2 := ⟨y2.1, y2.2.symm⟩
    subst b2
    obtain ⟨a3, b3⟩ : x3 = (yq_nm η) ∧ η = η3 := ⟨y3.1, y3.2.symm⟩
    subst b3
    have e4 : x4 = η 0 8 := e4
    have e5 : x5 = η 0 9 := e5
    obtain ⟨a6, b6⟩ : x6 = (yq_cny η) ∧ η4 = (yq_cns η) := y6
    have e7 : x7 = η4 0 9 := e7
    have b8 : η5 = (yq_gro 0 x7 0 η4) := y8
    have eη6 : η6 = zup η5 0 45 0 := eη6
    have b9 : η7 = (yq_tok η6) := y9
    show 1 = (yq_lf η).1 ∧ η7 = (yq_lf η).2
    simp only [yq_lf, yq_ct, yq_no, yq_inc, ← a1, ← a2, ← a3, ← e4, ← e5, ← a6, ← b6, ← e7, ← b8, ← eη6, ← b9]
    all_goals ((repeat' split) <;> first | (exfalso; omega) | exact ⟨rfl, rfl⟩ | rfl)
set_option maxHeartbeats 8000000 in
theorem zle_leafRead_o12 {ro : Nat → List Int32} (η : zE) (hp : sP wl_le zTr zPle_leafRead [] η) (hpp : pPle_leafRead [] η) : ∀ (x1 : Int) (η1 : zE), ((gC2 wl_le [(nat_lit 0, zPle_isSign, zOle_isSign, zMle_isSign), (nat_lit 1, zPle_wrong, zOle_wrong, zMle_wrong), (nat_lit 2, zPle_waitsFor0, zOle_waitsFor0, zMle_waitsFor0), (nat_lit 3, zPle_token, zOle_token, zMle_token), (nat_lit 4, zPle_isKey, zOle_isKey, zMle_isKey), (nat_lit 5, zPle_isCounted, zOle_isCounted, zMle_isCounted), (nat_lit 6, zPle_waitsFor2, zOle_waitsFor2, zMle_waitsFor2), (nat_lit 7, zPle_nameMet, zOle_nameMet, zMle_nameMet), (nat_lit 8, zPle_grown, zOle_grown, zMle_grown)] pCle_leafRead qCle_leafRead) 0).2 [40] η x1 η1 → (x1 = 0) → ∀ (x2 : Int) (η2 : zE), ((gC2 wl_le [(nat_lit 0, zPle_isSign, zOle_isSign, zMle_isSign), (nat_lit 1, zPle_wrong, zOle_wrong, zMle_wrong), (nat_lit 2, zPle_waitsFor0, zOle_waitsFor0, zMle_waitsFor0), (nat_lit 3, zPle_token, zOle_token, zMle_token), (nat_lit 4, zPle_isKey, zOle_isKey, zMle_isKey), (nat_lit 5, zPle_isCounted, zOle_isCounted, zMle_isCounted), (nat_lit 6, zPle_waitsFor2, zOle_waitsFor2, zMle_waitsFor2), (nat_lit 7, zPle_nameMet, zOle_nameMet, zMle_nameMet), (nat_lit 8, zPle_grown, zOle_grown, zMle_grown)] pCle_leafRead qCle_leafRead) 4).2 [12] η1 x2 η2 → (x2 = 0) → ∀ (x3 : Int) (η3 : zE), ((gC2 wl_le [(nat_lit 0, zPle_isSign, zOle_isSign, zMle_isSign), (nat_lit 1, zPle_wrong, zOle_wrong, zMle_wrong), (nat_lit 2, zPle_waitsFor0, zOle_waitsFor0, zMle_waitsFor0), (nat_lit 3, zPle_token, zOle_token, zMle_token), (nat_lit 4, zPle_isKey, zOle_isKey, zMle_isKey), (nat_lit 5, zPle_isCounted, zOle_isCounted, zMle_isCounted), (nat_lit 6, zPle_waitsFor2, zOle_waitsFor2, zMle_waitsFor2), (nat_lit 7, zPle_nameMet, zOle_nameMet, zMle_nameMet), (nat_lit 8, zPle_grown, zOle_grown, zMle_grown)] pCle_leafRead qCle_leafRead) 7).2 [] η2 x3 η3 → (x3 < 0) → ∀ x4 : Int, x4 = η3 0 (Int.toNat 8) → zok 0 x4 → (x4 = 3) → (x3 < 0) → ∀ x5 : Int, x5 = η3 0 (Int.toNat 9) → zok 0 x5 → (x5 ≤ 9999) → ∀ (x6 : Int) (η4 : zE), ((gC2 wl_le [(nat_lit 0, zPle_isSign, zOle_isSign, zMle_isSign), (nat_lit 1, zPle_wrong, zOle_wrong, zMle_wrong), (nat_lit 2, zPle_waitsFor0, zOle_waitsFor0, zMle_waitsFor0), (nat_lit 3, zPle_token, zOle_token, zMle_token), (nat_lit 4, zPle_isKey, zOle_isKey, zMle_isKey), (nat_lit 5, zPle_isCounted, zOle_isCounted, zMle_isCounted), (nat_lit 6, zPle_waitsFor2, zOle_waitsFor2, zMle_waitsFor2), (nat_lit 7, zPle_nameMet, zOle_nameMet, zMle_nameMet), (nat_lit 8, zPle_grown, zOle_grown, zMle_grown)] pCle_leafRead qCle_leafRead) 5).2 [] η3 x6 η4 → (x6 = 0) → (fun (_ : Nat) (y : Int) (η' : zE) => pQle_leafRead [] η y η') 0 0 η4 := by
  intro x1 η1 h1 c1 x2 η2 h2 c2 x3 η3 h3 c3 x4 e4 r4 c4 c5 x5 e5 r5 c6 x6 η4 h6 c7
  have y1 : fQle_isSign [40] η x1 η1 := h1.2.2
  have k1 : sQ wl_le zTr zOle_isSign zMle_isSign [40] η x1 η1 ∧ oQle_isSign [40] η x1 η1 := ⟨h1.1, h1.2.1⟩
  have y2 : fQle_isKey [12] η1 x2 η2 := h2.2.2
  have k2 : sQ wl_le zTr zOle_isKey zMle_isKey [12] η1 x2 η2 ∧ oQle_isKey [12] η1 x2 η2 := ⟨h2.1, h2.2.1⟩
  have y3 : fQle_nameMet [] η2 x3 η3 := h3.2.2
  have k3 : sQ wl_le zTr zOle_nameMet zMle_nameMet [] η2 x3 η3 ∧ oQle_nameMet [] η2 x3 η3 := ⟨h3.1, h3.2.1⟩
  have y6 : fQle_isCounted [] η3 x6 η4 := h6.2.2
  have k6 : sQ wl_le zTr zOle_isCounted zMle_isCounted [] η3 x6 η4 ∧ oQle_isCounted [] η3 x6 η4 := ⟨h6.1, h6.2.1⟩
  refine yj_a ?_ ?_
  · have hw : η 0 45 = 1 := hpp.2
    have hs : η 0 7 ≤ η 0 6 := hpp.1.1.1.1
    have bd43 : (0 : Int) ≤ η 0 43 ∧ η 0 43 ≤ 8 := wf_ok (a := 43) (b := 43) (z := (0, 8)) hp.1 (by decide +kernel) (Nat.le_refl _) (Nat.le_refl _)
    have bd44 : (0 : Int) ≤ η 0 44 ∧ η 0 44 ≤ 64 := wf_ok (a := 44) (b := 44) (z := (0, 64)) hp.1 (by decide +kernel) (Nat.le_refl _) (Nat.le_refl _)
    have bd19 : (0 : Int) ≤ η 0 19 ∧ η 0 19 ≤ 64 := wf_ok (a := 19) (b := 19) (z := (0, 64)) hp.1 (by decide +kernel) (Nat.le_refl _) (Nat.le_refl _)
    have y1 : fQle_isSign [40] η x1 η1 := h1.2.2
    have k1 : sQ wl_le zTr zOle_isSign zMle_isSign [40] η x1 η1 ∧ oQle_isSign [40] η x1 η1 := ⟨h1.1, h1.2.1⟩
    have y2 : fQle_isKey [12] η1 x2 η2 := h2.2.2
    have k2 : sQ wl_le zTr zOle_isKey zMle_isKey [12] η1 x2 η2 ∧ oQle_isKey [12] η1 x2 η2 := ⟨h2.1, h2.2.1⟩
    have y3 : fQle_nameMet [] η2 x3 η3 := h3.2.2
    have k3 : sQ wl_le zTr zOle_nameMet zMle_nameMet [] η2 x3 η3 ∧ oQle_nameMet [] η2 x3 η3 := ⟨h3.1, h3.2.1⟩
    have y6 : fQle_isCounted [] η3 x6 η4 := h6.2.2
    have k6 : sQ wl_le zTr zOle_isCounted zMle_isCounted [] η3 x6 η4 ∧ oQle_isCounted [] η3 x6 η4 := ⟨h6.1, h6.2.1⟩
    have w0_0_8 : (0 : Int) ≤ η 0 8 ∧ η 0 8 ≤ 6 := wf_ok (a := 8) (b := 8) (z := (0, 6)) hp.1 (by decide +kernel) (Nat.le_refl _) (Nat.le_refl _)
    have c0_0_8 : η 0 8 = η 0 8 := rfl
    have wb1 : wB wl_le zTr η1 := k1.1.1
    have bx1 : (0 : Int) ≤ x1 ∧ x1 ≤ 1 := k1.1.2.1
    have v1 : zEq (η1 0 8) (η 0 8) := (k1.1.2.2.2.1 0 8 (by decide +kernel)).trans rfl
    have c1_0_8 : η1 0 8 = η 0 8 := v1
    have wb2 : wB wl_le zTr η2 := k2.1.1
    have bx2 : (0 : Int) ≤ x2 ∧ x2 ≤ 1 := k2.1.2.1
    have v2 : zEq (η2 0 8) (η 0 8) := (k2.1.2.2.2.1 0 8 (by decide +kernel)).trans v1
    have c2_0_8 : η2 0 8 = η 0 8 := v2
    have wb3 : wB wl_le zTr η3 := k3.1.1
    have bx3 : ((-1) : Int) ≤ x3 ∧ x3 ≤ 6 := k3.1.2.1
    have v3 : zEq (η3 0 8) (η 0 8) := (k3.1.2.2.2.1 0 8 (by decide +kernel)).trans v2
    replace e4 : x4 = η 0 8 := e4.trans v3
    have v5 : zEq (η1 0 9) (η 0 9) := (k1.1.2.2.2.1 0 9 (by decide +kernel)).trans rfl
    have v6 : zEq (η2 0 9) (η 0 9) := (k2.1.2.2.2.1 0 9 (by decide +kernel)).trans v5
    have v7 : zEq (η3 0 9) (η 0 9) := (k3.1.2.2.2.1 0 9 (by decide +kernel)).trans v6
    replace e5 : x5 = η 0 9 := e5.trans v7
    replace r5 : -2147483648 ≤ x5 ∧ x5 ≤ 2147483647 := r5
    have c3_0_8 : η3 0 8 = η 0 8 := v3
    have wb4 : wB wl_le zTr η4 := k6.1.1
    have bx6 : (0 : Int) ≤ x6 ∧ x6 ≤ 1 := k6.1.2.1
    have fm1 : zFm zMle_leafRead η η1 := zFm_tr2 zFm_rf k1.1.2.2.2.1 (by decide +kernel)
    have fm2 : zFm zMle_leafRead η η2 := zFm_tr2 fm1 k2.1.2.2.2.1 (by decide +kernel)
    have fm3 : zFm zMle_leafRead η η3 := zFm_tr2 fm2 k3.1.2.2.2.1 (by decide +kernel)
    have fm4 : zFm zMle_leafRead η η4 := zFm_tr2 fm3 k6.1.2.2.2.1 (by decide +kernel)
    have fmE : zFm zMle_leafRead η η4 := fm4
    have fr22_0 : ∀ j, η 22 j = η 22 j := fun _ => rfl
    have v8 : ∀ j, η1 22 j = η 22 j := fun j => k1.1.2.2.2.1 22 _ (zinr_not (by decide +kernel))
    have fr22_1 : ∀ j, η1 22 j = η 22 j := v8
    have v9 : ∀ j, η2 22 j = η 22 j := fun j => (k2.1.2.2.2.1 22 _ (zinr_not (by decide +kernel))).trans (v8 j)
    have fr22_2 : ∀ j, η2 22 j = η 22 j := v9
    have v10 : ∀ j, η3 22 j = η 22 j := fun j => (k3.1.2.2.2.1 22 _ (zinr_not (by decide +kernel))).trans (v9 j)
    have fr22_3 : ∀ j, η3 22 j = η 22 j := v10
    have v11 : ∀ j, η4 22 j = η 22 j := fun j => (k6.1.2.2.2.1 22 _ (zinr_not (by decide +kernel))).trans (v10 j)
    have fr22_4 : ∀ j, η4 22 j = η 22 j := v11
    have fr22 : ∀ j, η4 22 j = η 22 j := v11
    have v13 : zEq (η1 0 41) (η 0 41) := (k1.1.2.2.2.1 0 41 (by decide +kernel)).trans rfl
    have v14 : zEq (η2 0 41) (η 0 41) := (k2.1.2.2.2.1 0 41 (by decide +kernel)).trans v13
    have v15 : zEq (η3 0 41) (η 0 41) := (k3.1.2.2.2.1 0 41 (by decide +kernel)).trans v14
    have v16 : zEq (η4 0 41) (η 0 41) := (k6.1.2.2.2.1 0 41 (by decide +kernel)).trans v15
    have f0_41 : η4 0 41 = η 0 41 := v16
    have w0_0_43 : (0 : Int) ≤ η 0 43 ∧ η 0 43 ≤ 8 := wf_ok (a := 43) (b := 43) (z := (0, 8)) hp.1 (by decide +kernel) (Nat.le_refl _) (Nat.le_refl _)
    have v18 : zEq (η1 0 43) (η 0 43) := (k1.1.2.2.2.1 0 43 (by decide +kernel)).trans rfl
    have v19 : zEq (η2 0 43) (η 0 43) := (k2.1.2.2.2.1 0 43 (by decide +kernel)).trans v18
    have v20 : zEq (η3 0 43) (η 0 43) := (k3.1.2.2.2.1 0 43 (by decide +kernel)).trans v19
    have v21 : zEq (η4 0 43) (η 0 43) := (k6.1.2.2.2.1 0 43 (by decide +kernel)).trans v20
    have f0_43 : η4 0 43 = η 0 43 := v21
    have v23 : zEq (η1 0 42) (η 0 42) := (k1.1.2.2.2.1 0 42 (by decide +kernel)).trans rfl
    have v24 : zEq (η2 0 42) (η 0 42) := (k2.1.2.2.2.1 0 42 (by decide +kernel)).trans v23
    have v25 : zEq (η3 0 42) (η 0 42) := (k3.1.2.2.2.1 0 42 (by decide +kernel)).trans v24
    have v26 : zEq (η4 0 42) (η 0 42) := (k6.1.2.2.2.1 0 42 (by decide +kernel)).trans v25
    have f0_42 : η4 0 42 = η 0 42 := v26
    have v28 : zEq (η1 0 45) (η 0 45) := (k1.1.2.2.2.1 0 45 (by decide +kernel)).trans rfl
    have v29 : zEq (η2 0 45) (η 0 45) := (k2.1.2.2.2.1 0 45 (by decide +kernel)).trans v28
    have v30 : zEq (η3 0 45) (η 0 45) := (k3.1.2.2.2.1 0 45 (by decide +kernel)).trans v29
    have v31 : zEq (η4 0 45) (η 0 45) := (k6.1.2.2.2.1 0 45 (by decide +kernel)).trans v30
    have f0_45 : η4 0 45 = η 0 45 := v31
    have w0_0_19 : (0 : Int) ≤ η 0 19 ∧ η 0 19 ≤ 64 := wf_ok (a := 19) (b := 19) (z := (0, 64)) hp.1 (by decide +kernel) (Nat.le_refl _) (Nat.le_refl _)
    have v33 : zEq (η1 0 19) (η 0 19) := (k1.1.2.2.2.1 0 19 (by decide +kernel)).trans rfl
    have v34 : zEq (η2 0 19) (η 0 19) := (k2.1.2.2.2.1 0 19 (by decide +kernel)).trans v33
    have v35 : zEq (η3 0 19) (η 0 19) := (k3.1.2.2.2.1 0 19 (by decide +kernel)).trans v34
    have v36 : zEq (η4 0 19) (η 0 19) := (k6.1.2.2.2.1 0 19 (by decide +kernel)).trans v35
    have f0_19 : η4 0 19 = η 0 19 := v36
    have w4_0_44 : (0 : Int) ≤ η4 0 44 ∧ η4 0 44 ≤ 64 := wf_ok (a := 44) (b := 44) (z := (0, 64)) k6.1.1 (by decide +kernel) (Nat.le_refl _) (Nat.le_refl _)
    have f0_44 : η4 0 44 = η4 0 44 := rfl
    have w0_0_7 : (0 : Int) ≤ η 0 7 ∧ η 0 7 ≤ 700 := wf_ok (a := 7) (b := 7) (z := (0, 700)) hp.1 (by decide +kernel) (Nat.le_refl _) (Nat.le_refl _)
    have v39 : zEq (η1 0 7) (η 0 7) := (k1.1.2.2.2.1 0 7 (by decide +kernel)).trans rfl
    have v40 : zEq (η2 0 7) (η 0 7) := (k2.1.2.2.2.1 0 7 (by decide +kernel)).trans v39
    have v41 : zEq (η3 0 7) (η 0 7) := (k3.1.2.2.2.1 0 7 (by decide +kernel)).trans v40
    have v42 : zEq (η4 0 7) (η 0 7) := (k6.1.2.2.2.1 0 7 (by decide +kernel)).trans v41
    have f0_7 : η4 0 7 = η 0 7 := v42
    have w0_0_6 : (0 : Int) ≤ η 0 6 ∧ η 0 6 ≤ 700 := wf_ok (a := 6) (b := 6) (z := (0, 700)) hp.1 (by decide +kernel) (Nat.le_refl _) (Nat.le_refl _)
    have v44 : zEq (η1 0 6) (η 0 6) := (k1.1.2.2.2.1 0 6 (by decide +kernel)).trans rfl
    have v45 : zEq (η2 0 6) (η 0 6) := (k2.1.2.2.2.1 0 6 (by decide +kernel)).trans v44
    have v46 : zEq (η3 0 6) (η 0 6) := (k3.1.2.2.2.1 0 6 (by decide +kernel)).trans v45
    have v47 : zEq (η4 0 6) (η 0 6) := (k6.1.2.2.2.1 0 6 (by decide +kernel)).trans v46
    have f0_6 : η4 0 6 = η 0 6 := v47
    have v48 : zEq (η4 0 8) (η 0 8) := (k6.1.2.2.2.1 0 8 (by decide +kernel)).trans v3
    have f0_8 : η4 0 8 = η 0 8 := v48
    have wbE : wB wl_le zTr η4 := wb4
    
    have I0 : H_l 0 0 0 η := hpp.1
    have I1 : H_l 0 0 0 η1 := k1.2.1
    have I2 : H_l 0 0 0 η2 := k2.2.1
    have I3 : H_l 0 0 0 η3 := k3.2.1
    have I4 : H_l 0 0 0 η4 := k6.2.2 c7
    exact ⟨I4.1, fun w => absurd (show (0 : Int) = 0 by apply Int.le_antisymm <;> omega) w⟩
  · obtain ⟨a1, b1⟩ : x1 = (yq_isS 40 η) ∧ η = η1 := ⟨y1.1, y1.2.symm⟩
    subst b1
    obtain ⟨a2, b2⟩ : x2 = (yq_isK 12 η) ∧ η = η2 := ⟨y2.1, y2.2.symm⟩
    subst b2
    obtain ⟨a3, b3⟩ : x3 = (yq_nm η) ∧ η = η3 := ⟨y3.1, y3.2.symm⟩
    subst b3
    have e4 : x4 = η 0 8 := e4
    have e5 : x5 = η 0 9 := e5
    obtain ⟨a6, b6⟩ : x6 = (yq_cny η) ∧ η4 = (yq_cns η) := y6
    show 0 = (yq_lf η).1 ∧ η4 = (yq_lf η).2
    simp only [yq_lf, yq_ct, yq_no, yq_inc, ← a1, ← a2, ← a3, ← e4, ← e5, ← a6, ← b6]
    all_goals ((repeat' split) <;> first | (exfalso; omega) | exact ⟨rfl, rfl⟩ | rfl)
set_option maxHeartbeats 8000000 in
theorem zle_leafRead_o13 {ro : Nat → List Int32} (η : zE) (hp : sP wl_le zTr zPle_leafRead [] η) (hpp : pPle_leafRead [] η) : ∀ (x1 : Int) (η1 : zE), ((gC2 wl_le [(nat_lit 0, zPle_isSign, zOle_isSign, zMle_isSign), (nat_lit 1, zPle_wrong, zOle_wrong, zMle_wrong), (nat_lit 2, zPle_waitsFor0, zOle_waitsFor0, zMle_waitsFor0), (nat_lit 3, zPle_token, zOle_token, zMle_token), (nat_lit 4, zPle_isKey, zOle_isKey, zMle_isKey), (nat_lit 5, zPle_isCounted, zOle_isCounted, zMle_isCounted), (nat_lit 6, zPle_waitsFor2, zOle_waitsFor2, zMle_waitsFor2), (nat_lit 7, zPle_nameMet, zOle_nameMet, zMle_nameMet), (nat_lit 8, zPle_grown, zOle_grown, zMle_grown)] pCle_leafRead qCle_leafRead) 0).2 [40] η x1 η1 → (x1 = 0) → ∀ (x2 : Int) (η2 : zE), ((gC2 wl_le [(nat_lit 0, zPle_isSign, zOle_isSign, zMle_isSign), (nat_lit 1, zPle_wrong, zOle_wrong, zMle_wrong), (nat_lit 2, zPle_waitsFor0, zOle_waitsFor0, zMle_waitsFor0), (nat_lit 3, zPle_token, zOle_token, zMle_token), (nat_lit 4, zPle_isKey, zOle_isKey, zMle_isKey), (nat_lit 5, zPle_isCounted, zOle_isCounted, zMle_isCounted), (nat_lit 6, zPle_waitsFor2, zOle_waitsFor2, zMle_waitsFor2), (nat_lit 7, zPle_nameMet, zOle_nameMet, zMle_nameMet), (nat_lit 8, zPle_grown, zOle_grown, zMle_grown)] pCle_leafRead qCle_leafRead) 4).2 [12] η1 x2 η2 → (x2 = 0) → ∀ (x3 : Int) (η3 : zE), ((gC2 wl_le [(nat_lit 0, zPle_isSign, zOle_isSign, zMle_isSign), (nat_lit 1, zPle_wrong, zOle_wrong, zMle_wrong), (nat_lit 2, zPle_waitsFor0, zOle_waitsFor0, zMle_waitsFor0), (nat_lit 3, zPle_token, zOle_token, zMle_token), (nat_lit 4, zPle_isKey, zOle_isKey, zMle_isKey), (nat_lit 5, zPle_isCounted, zOle_isCounted, zMle_isCounted), (nat_lit 6, zPle_waitsFor2, zOle_waitsFor2, zMle_waitsFor2), (nat_lit 7, zPle_nameMet, zOle_nameMet, zMle_nameMet), (nat_lit 8, zPle_grown, zOle_grown, zMle_grown)] pCle_leafRead qCle_leafRead) 7).2 [] η2 x3 η3 → (x3 < 0) → ∀ x4 : Int, x4 = η3 0 (Int.toNat 8) → zok 0 x4 → (x4 = 3) → (x3 < 0) → ∀ x5 : Int, x5 = η3 0 (Int.toNat 9) → zok 0 x5 → (9999 < x5) → ((gC2 wl_le [(nat_lit 0, zPle_isSign, zOle_isSign, zMle_isSign), (nat_lit 1, zPle_wrong, zOle_wrong, zMle_wrong), (nat_lit 2, zPle_waitsFor0, zOle_waitsFor0, zMle_waitsFor0), (nat_lit 3, zPle_token, zOle_token, zMle_token), (nat_lit 4, zPle_isKey, zOle_isKey, zMle_isKey), (nat_lit 5, zPle_isCounted, zOle_isCounted, zMle_isCounted), (nat_lit 6, zPle_waitsFor2, zOle_waitsFor2, zMle_waitsFor2), (nat_lit 7, zPle_nameMet, zOle_nameMet, zMle_nameMet), (nat_lit 8, zPle_grown, zOle_grown, zMle_grown)] pCle_leafRead qCle_leafRead) 1).1 [2] η3 := by
  have hw : η 0 45 = 1 := hpp.2
  have hs : η 0 7 ≤ η 0 6 := hpp.1.1.1.1
  have bd43 : (0 : Int) ≤ η 0 43 ∧ η 0 43 ≤ 8 := wf_ok (a := 43) (b := 43) (z := (0, 8)) hp.1 (by decide +kernel) (Nat.le_refl _) (Nat.le_refl _)
  have bd44 : (0 : Int) ≤ η 0 44 ∧ η 0 44 ≤ 64 := wf_ok (a := 44) (b := 44) (z := (0, 64)) hp.1 (by decide +kernel) (Nat.le_refl _) (Nat.le_refl _)
  have bd19 : (0 : Int) ≤ η 0 19 ∧ η 0 19 ≤ 64 := wf_ok (a := 19) (b := 19) (z := (0, 64)) hp.1 (by decide +kernel) (Nat.le_refl _) (Nat.le_refl _)
  intro x1 η1 h1 c1 x2 η2 h2 c2 x3 η3 h3 c3 x4 e4 r4 c4 c5 x5 e5 r5 c6
  have y1 : fQle_isSign [40] η x1 η1 := h1.2.2
  have k1 : sQ wl_le zTr zOle_isSign zMle_isSign [40] η x1 η1 ∧ oQle_isSign [40] η x1 η1 := ⟨h1.1, h1.2.1⟩
  have y2 : fQle_isKey [12] η1 x2 η2 := h2.2.2
  have k2 : sQ wl_le zTr zOle_isKey zMle_isKey [12] η1 x2 η2 ∧ oQle_isKey [12] η1 x2 η2 := ⟨h2.1, h2.2.1⟩
  have y3 : fQle_nameMet [] η2 x3 η3 := h3.2.2
  have k3 : sQ wl_le zTr zOle_nameMet zMle_nameMet [] η2 x3 η3 ∧ oQle_nameMet [] η2 x3 η3 := ⟨h3.1, h3.2.1⟩
  have w0_0_8 : (0 : Int) ≤ η 0 8 ∧ η 0 8 ≤ 6 := wf_ok (a := 8) (b := 8) (z := (0, 6)) hp.1 (by decide +kernel) (Nat.le_refl _) (Nat.le_refl _)
  have c0_0_8 : η 0 8 = η 0 8 := rfl
  have wb1 : wB wl_le zTr η1 := k1.1.1
  have bx1 : (0 : Int) ≤ x1 ∧ x1 ≤ 1 := k1.1.2.1
  have v1 : zEq (η1 0 8) (η 0 8) := (k1.1.2.2.2.1 0 8 (by decide +kernel)).trans rfl
  have c1_0_8 : η1 0 8 = η 0 8 := v1
  have wb2 : wB wl_le zTr η2 := k2.1.1
  have bx2 : (0 : Int) ≤ x2 ∧ x2 ≤ 1 := k2.1.2.1
  have v2 : zEq (η2 0 8) (η 0 8) := (k2.1.2.2.2.1 0 8 (by decide +kernel)).trans v1
  have c2_0_8 : η2 0 8 = η 0 8 := v2
  have wb3 : wB wl_le zTr η3 := k3.1.1
  have bx3 : ((-1) : Int) ≤ x3 ∧ x3 ≤ 6 := k3.1.2.1
  have v3 : zEq (η3 0 8) (η 0 8) := (k3.1.2.2.2.1 0 8 (by decide +kernel)).trans v2
  replace e4 : x4 = η 0 8 := e4.trans v3
  have v5 : zEq (η1 0 9) (η 0 9) := (k1.1.2.2.2.1 0 9 (by decide +kernel)).trans rfl
  have v6 : zEq (η2 0 9) (η 0 9) := (k2.1.2.2.2.1 0 9 (by decide +kernel)).trans v5
  have v7 : zEq (η3 0 9) (η 0 9) := (k3.1.2.2.2.1 0 9 (by decide +kernel)).trans v6
  replace e5 : x5 = η 0 9 := e5.trans v7
  replace r5 : -2147483648 ≤ x5 ∧ x5 ≤ 2147483647 := r5
  have fm1 : zFm zMle_leafRead η η1 := zFm_tr2 zFm_rf k1.1.2.2.2.1 (by decide +kernel)
  have fm2 : zFm zMle_leafRead η η2 := zFm_tr2 fm1 k2.1.2.2.2.1 (by decide +kernel)
  have fm3 : zFm zMle_leafRead η η3 := zFm_tr2 fm2 k3.1.2.2.2.1 (by decide +kernel)
  have fmE : zFm zMle_leafRead η η3 := fm3
  have fr22_0 : ∀ j, η 22 j = η 22 j := fun _ => rfl
  have v8 : ∀ j, η1 22 j = η 22 j := fun j => k1.1.2.2.2.1 22 _ (zinr_not (by decide +kernel))
  have fr22_1 : ∀ j, η1 22 j = η 22 j := v8
  have v9 : ∀ j, η2 22 j = η 22 j := fun j => (k2.1.2.2.2.1 22 _ (zinr_not (by decide +kernel))).trans (v8 j)
  have fr22_2 : ∀ j, η2 22 j = η 22 j := v9
  have v10 : ∀ j, η3 22 j = η 22 j := fun j => (k3.1.2.2.2.1 22 _ (zinr_not (by decide +kernel))).trans (v9 j)
  have fr22_3 : ∀ j, η3 22 j = η 22 j := v10
  have fr22 : ∀ j, η3 22 j = η 22 j := v10
  have v12 : zEq (η1 0 41) (η 0 41) := (k1.1.2.2.2.1 0 41 (by decide +kernel)).trans rfl
  have v13 : zEq (η2 0 41) (η 0 41) := (k2.1.2.2.2.1 0 41 (by decide +kernel)).trans v12
  have v14 : zEq (η3 0 41) (η 0 41) := (k3.1.2.2.2.1 0 41 (by decide +kernel)).trans v13
  have f0_41 : η3 0 41 = η 0 41 := v14
  have w0_0_43 : (0 : Int) ≤ η 0 43 ∧ η 0 43 ≤ 8 := wf_ok (a := 43) (b := 43) (z := (0, 8)) hp.1 (by decide +kernel) (Nat.le_refl _) (Nat.le_refl _)
  have v16 : zEq (η1 0 43) (η 0 43) := (k1.1.2.2.2.1 0 43 (by decide +kernel)).trans rfl
  have v17 : zEq (η2 0 43) (η 0 43) := (k2.1.2.2.2.1 0 43 (by decide +kernel)).trans v16
  have v18 : zEq (η3 0 43) (η 0 43) := (k3.1.2.2.2.1 0 43 (by decide +kernel)).trans v17
  have f0_43 : η3 0 43 = η 0 43 := v18
  have v20 : zEq (η1 0 42) (η 0 42) := (k1.1.2.2.2.1 0 42 (by decide +kernel)).trans rfl
  have v21 : zEq (η2 0 42) (η 0 42) := (k2.1.2.2.2.1 0 42 (by decide +kernel)).trans v20
  have v22 : zEq (η3 0 42) (η 0 42) := (k3.1.2.2.2.1 0 42 (by decide +kernel)).trans v21
  have f0_42 : η3 0 42 = η 0 42 := v22
  have v24 : zEq (η1 0 45) (η 0 45) := (k1.1.2.2.2.1 0 45 (by decide +kernel)).trans rfl
  have v25 : zEq (η2 0 45) (η 0 45) := (k2.1.2.2.2.1 0 45 (by decide +kernel)).trans v24
  have v26 : zEq (η3 0 45) (η 0 45) := (k3.1.2.2.2.1 0 45 (by decide +kernel)).trans v25
  have f0_45 : η3 0 45 = η 0 45 := v26
  have w0_0_19 : (0 : Int) ≤ η 0 19 ∧ η 0 19 ≤ 64 := wf_ok (a := 19) (b := 19) (z := (0, 64)) hp.1 (by decide +kernel) (Nat.le_refl _) (Nat.le_refl _)
  have v28 : zEq (η1 0 19) (η 0 19) := (k1.1.2.2.2.1 0 19 (by decide +kernel)).trans rfl
  have v29 : zEq (η2 0 19) (η 0 19) := (k2.1.2.2.2.1 0 19 (by decide +kernel)).trans v28
  have v30 : zEq (η3 0 19) (η 0 19) := (k3.1.2.2.2.1 0 19 (by decide +kernel)).trans v29
  have f0_19 : η3 0 19 = η 0 19 := v30
  have w0_0_44 : (0 : Int) ≤ η 0 44 ∧ η 0 44 ≤ 64 := wf_ok (a := 44) (b := 44) (z := (0, 64)) hp.1 (by decide +kernel) (Nat.le_refl _) (Nat.le_refl _)
  have v32 : zEq (η1 0 44) (η 0 44) := (k1.1.2.2.2.1 0 44 (by decide +kernel)).trans rfl
  have v33 : zEq (η2 0 44) (η 0 44) := (k2.1.2.2.2.1 0 44 (by decide +kernel)).trans v32
  have v34 : zEq (η3 0 44) (η 0 44) := (k3.1.2.2.2.1 0 44 (by decide +kernel)).trans v33
  have f0_44 : η3 0 44 = η 0 44 := v34
  have w0_0_7 : (0 : Int) ≤ η 0 7 ∧ η 0 7 ≤ 700 := wf_ok (a := 7) (b := 7) (z := (0, 700)) hp.1 (by decide +kernel) (Nat.le_refl _) (Nat.le_refl _)
  have v36 : zEq (η1 0 7) (η 0 7) := (k1.1.2.2.2.1 0 7 (by decide +kernel)).trans rfl
  have v37 : zEq (η2 0 7) (η 0 7) := (k2.1.2.2.2.1 0 7 (by decide +kernel)).trans v36
  have v38 : zEq (η3 0 7) (η 0 7) := (k3.1.2.2.2.1 0 7 (by decide +kernel)).trans v37
  have f0_7 : η3 0 7 = η 0 7 := v38
  have w0_0_6 : (0 : Int) ≤ η 0 6 ∧ η 0 6 ≤ 700 := wf_ok (a := 6) (b := 6) (z := (0, 700)) hp.1 (by decide +kernel) (Nat.le_refl _) (Nat.le_refl _)
  have v40 : zEq (η1 0 6) (η 0 6) := (k1.1.2.2.2.1 0 6 (by decide +kernel)).trans rfl
  have v41 : zEq (η2 0 6) (η 0 6) := (k2.1.2.2.2.1 0 6 (by decide +kernel)).trans v40
  have v42 : zEq (η3 0 6) (η 0 6) := (k3.1.2.2.2.1 0 6 (by decide +kernel)).trans v41
  have f0_6 : η3 0 6 = η 0 6 := v42
  have f0_8 : η3 0 8 = η 0 8 := v3
  have wbE : wB wl_le zTr η3 := wb3
  
  have I0 : H_l 0 0 0 η := hpp.1
  have I1 : H_l 0 0 0 η1 := k1.2.1
  have I2 : H_l 0 0 0 η2 := k2.2.1
  have I3 : H_l 0 0 0 η3 := k3.2.1
  exact I3
set_option maxHeartbeats 8000000 in
theorem zle_leafRead_o14 {ro : Nat → List Int32} (η : zE) (hp : sP wl_le zTr zPle_leafRead [] η) (hpp : pPle_leafRead [] η) : ∀ (x1 : Int) (η1 : zE), ((gC2 wl_le [(nat_lit 0, zPle_isSign, zOle_isSign, zMle_isSign), (nat_lit 1, zPle_wrong, zOle_wrong, zMle_wrong), (nat_lit 2, zPle_waitsFor0, zOle_waitsFor0, zMle_waitsFor0), (nat_lit 3, zPle_token, zOle_token, zMle_token), (nat_lit 4, zPle_isKey, zOle_isKey, zMle_isKey), (nat_lit 5, zPle_isCounted, zOle_isCounted, zMle_isCounted), (nat_lit 6, zPle_waitsFor2, zOle_waitsFor2, zMle_waitsFor2), (nat_lit 7, zPle_nameMet, zOle_nameMet, zMle_nameMet), (nat_lit 8, zPle_grown, zOle_grown, zMle_grown)] pCle_leafRead qCle_leafRead) 0).2 [40] η x1 η1 → (x1 = 0) → ∀ (x2 : Int) (η2 : zE), ((gC2 wl_le [(nat_lit 0, zPle_isSign, zOle_isSign, zMle_isSign), (nat_lit 1, zPle_wrong, zOle_wrong, zMle_wrong), (nat_lit 2, zPle_waitsFor0, zOle_waitsFor0, zMle_waitsFor0), (nat_lit 3, zPle_token, zOle_token, zMle_token), (nat_lit 4, zPle_isKey, zOle_isKey, zMle_isKey), (nat_lit 5, zPle_isCounted, zOle_isCounted, zMle_isCounted), (nat_lit 6, zPle_waitsFor2, zOle_waitsFor2, zMle_waitsFor2), (nat_lit 7, zPle_nameMet, zOle_nameMet, zMle_nameMet), (nat_lit 8, zPle_grown, zOle_grown, zMle_grown)] pCle_leafRead qCle_leafRead) 4).2 [12] η1 x2 η2 → (x2 = 0) → ∀ (x3 : Int) (η3 : zE), ((gC2 wl_le [(nat_lit 0, zPle_isSign, zOle_isSign, zMle_isSign), (nat_lit 1, zPle_wrong, zOle_wrong, zMle_wrong), (nat_lit 2, zPle_waitsFor0, zOle_waitsFor0, zMle_waitsFor0), (nat_lit 3, zPle_token, zOle_token, zMle_token), (nat_lit 4, zPle_isKey, zOle_isKey, zMle_isKey), (nat_lit 5, zPle_isCounted, zOle_isCounted, zMle_isCounted), (nat_lit 6, zPle_waitsFor2, zOle_waitsFor2, zMle_waitsFor2), (nat_lit 7, zPle_nameMet, zOle_nameMet, zMle_nameMet), (nat_lit 8, zPle_grown, zOle_grown, zMle_grown)] pCle_leafRead qCle_leafRead) 7).2 [] η2 x3 η3 → (x3 < 0) → ∀ x4 : Int, x4 = η3 0 (Int.toNat 8) → zok 0 x4 → (x4 = 3) → (x3 < 0) → ∀ x5 : Int, x5 = η3 0 (Int.toNat 9) → zok 0 x5 → (9999 < x5) → ∀ (x6 : Int) (η4 : zE), ((gC2 wl_le [(nat_lit 0, zPle_isSign, zOle_isSign, zMle_isSign), (nat_lit 1, zPle_wrong, zOle_wrong, zMle_wrong), (nat_lit 2, zPle_waitsFor0, zOle_waitsFor0, zMle_waitsFor0), (nat_lit 3, zPle_token, zOle_token, zMle_token), (nat_lit 4, zPle_isKey, zOle_isKey, zMle_isKey), (nat_lit 5, zPle_isCounted, zOle_isCounted, zMle_isCounted), (nat_lit 6, zPle_waitsFor2, zOle_waitsFor2, zMle_waitsFor2), (nat_lit 7, zPle_nameMet, zOle_nameMet, zMle_nameMet), (nat_lit 8, zPle_grown, zOle_grown, zMle_grown)] pCle_leafRead qCle_leafRead) 1).2 [2] η3 x6 η4 → (fun (_ : Nat) (y : Int) (η' : zE) => pQle_leafRead [] η y η') 0 x6 η4 := by
  intro x1 η1 h1 c1 x2 η2 h2 c2 x3 η3 h3 c3 x4 e4 r4 c4 c5 x5 e5 r5 c6 x6 η4 h6
  have y1 : fQle_isSign [40] η x1 η1 := h1.2.2
  have k1 : sQ wl_le zTr zOle_isSign zMle_isSign [40] η x1 η1 ∧ oQle_isSign [40] η x1 η1 := ⟨h1.1, h1.2.1⟩
  have y2 : fQle_isKey [12] η1 x2 η2 := h2.2.2
  have k2 : sQ wl_le zTr zOle_isKey zMle_isKey [12] η1 x2 η2 ∧ oQle_isKey [12] η1 x2 η2 := ⟨h2.1, h2.2.1⟩
  have y3 : fQle_nameMet [] η2 x3 η3 := h3.2.2
  have k3 : sQ wl_le zTr zOle_nameMet zMle_nameMet [] η2 x3 η3 ∧ oQle_nameMet [] η2 x3 η3 := ⟨h3.1, h3.2.1⟩
  have y6 : fQle_wrong [2] η3 x6 η4 := h6.2.2
  have k6 : sQ wl_le zTr zOle_wrong zMle_wrong [2] η3 x6 η4 ∧ oQle_wrong [2] η3 x6 η4 := ⟨h6.1, h6.2.1⟩
  refine yj_a ?_ ?_
  · have hw : η 0 45 = 1 := hpp.2
    have hs : η 0 7 ≤ η 0 6 := hpp.1.1.1.1
    have bd43 : (0 : Int) ≤ η 0 43 ∧ η 0 43 ≤ 8 := wf_ok (a := 43) (b := 43) (z := (0, 8)) hp.1 (by decide +kernel) (Nat.le_refl _) (Nat.le_refl _)
    have bd44 : (0 : Int) ≤ η 0 44 ∧ η 0 44 ≤ 64 := wf_ok (a := 44) (b := 44) (z := (0, 64)) hp.1 (by decide +kernel) (Nat.le_refl _) (Nat.le_refl _)
    have bd19 : (0 : Int) ≤ η 0 19 ∧ η 0 19 ≤ 64 := wf_ok (a := 19) (b := 19) (z := (0, 64)) hp.1 (by decide +kernel) (Nat.le_refl _) (Nat.le_refl _)
    have y1 : fQle_isSign [40] η x1 η1 := h1.2.2
    have k1 : sQ wl_le zTr zOle_isSign zMle_isSign [40] η x1 η1 ∧ oQle_isSign [40] η x1 η1 := ⟨h1.1, h1.2.1⟩
    have y2 : fQle_isKey [12] η1 x2 η2 := h2.2.2
    have k2 : sQ wl_le zTr zOle_isKey zMle_isKey [12] η1 x2 η2 ∧ oQle_isKey [12] η1 x2 η2 := ⟨h2.1, h2.2.1⟩
    have y3 : fQle_nameMet [] η2 x3 η3 := h3.2.2
    have k3 : sQ wl_le zTr zOle_nameMet zMle_nameMet [] η2 x3 η3 ∧ oQle_nameMet [] η2 x3 η3 := ⟨h3.1, h3.2.1⟩
    have y6 : fQle_wrong [2] η3 x6 η4 := h6.2.2
    have k6 : sQ wl_le zTr zOle_wrong zMle_wrong [2] η3 x6 η4 ∧ oQle_wrong [2] η3 x6 η4 := ⟨h6.1, h6.2.1⟩
    have w0_0_8 : (0 : Int) ≤ η 0 8 ∧ η 0 8 ≤ 6 := wf_ok (a := 8) (b := 8) (z := (0, 6)) hp.1 (by decide +kernel) (Nat.le_refl _) (Nat.le_refl _)
    have c0_0_8 : η 0 8 = η 0 8 := rfl
    have wb1 : wB wl_le zTr η1 := k1.1.1
    have bx1 : (0 : Int) ≤ x1 ∧ x1 ≤ 1 := k1.1.2.1
    have v1 : zEq (η1 0 8) (η 0 8) := (k1.1.2.2.2.1 0 8 (by decide +kernel)).trans rfl
    have c1_0_8 : η1 0 8 = η 0 8 := v1
    have wb2 : wB wl_le zTr η2 := k2.1.1
    have bx2 : (0 : Int) ≤ x2 ∧ x2 ≤ 1 := k2.1.2.1
    have v2 : zEq (η2 0 8) (η 0 8) := (k2.1.2.2.2.1 0 8 (by decide +kernel)).trans v1
    have c2_0_8 : η2 0 8 = η 0 8 := v2
    have wb3 : wB wl_le zTr η3 := k3.1.1
    have bx3 : ((-1) : Int) ≤ x3 ∧ x3 ≤ 6 := k3.1.2.1
    have v3 : zEq (η3 0 8) (η 0 8) := (k3.1.2.2.2.1 0 8 (by decide +kernel)).trans v2
    replace e4 : x4 = η 0 8 := e4.trans v3
    have v5 : zEq (η1 0 9) (η 0 9) := (k1.1.2.2.2.1 0 9 (by decide +kernel)).trans rfl
    have v6 : zEq (η2 0 9) (η 0 9) := (k2.1.2.2.2.1 0 9 (by decide +kernel)).trans v5
    have v7 : zEq (η3 0 9) (η 0 9) := (k3.1.2.2.2.1 0 9 (by decide +kernel)).trans v6
    replace e5 : x5 = η 0 9 := e5.trans v7
    replace r5 : -2147483648 ≤ x5 ∧ x5 ≤ 2147483647 := r5
    have c3_0_8 : η3 0 8 = η 0 8 := v3
    have wb4 : wB wl_le zTr η4 := k6.1.1
    have bx6 : (0 : Int) ≤ x6 ∧ x6 ≤ 0 := k6.1.2.1
    have fm1 : zFm zMle_leafRead η η1 := zFm_tr2 zFm_rf k1.1.2.2.2.1 (by decide +kernel)
    have fm2 : zFm zMle_leafRead η η2 := zFm_tr2 fm1 k2.1.2.2.2.1 (by decide +kernel)
    have fm3 : zFm zMle_leafRead η η3 := zFm_tr2 fm2 k3.1.2.2.2.1 (by decide +kernel)
    have fm4 : zFm zMle_leafRead η η4 := zFm_tr2 fm3 k6.1.2.2.2.1 (by decide +kernel)
    have fmE : zFm zMle_leafRead η η4 := fm4
    have fr22_0 : ∀ j, η 22 j = η 22 j := fun _ => rfl
    have v8 : ∀ j, η1 22 j = η 22 j := fun j => k1.1.2.2.2.1 22 _ (zinr_not (by decide +kernel))
    have fr22_1 : ∀ j, η1 22 j = η 22 j := v8
    have v9 : ∀ j, η2 22 j = η 22 j := fun j => (k2.1.2.2.2.1 22 _ (zinr_not (by decide +kernel))).trans (v8 j)
    have fr22_2 : ∀ j, η2 22 j = η 22 j := v9
    have v10 : ∀ j, η3 22 j = η 22 j := fun j => (k3.1.2.2.2.1 22 _ (zinr_not (by decide +kernel))).trans (v9 j)
    have fr22_3 : ∀ j, η3 22 j = η 22 j := v10
    have v11 : ∀ j, η4 22 j = η 22 j := fun j => (k6.1.2.2.2.1 22 _ (zinr_not (by decide +kernel))).trans (v10 j)
    have fr22_4 : ∀ j, η4 22 j = η 22 j := v11
    have fr22 : ∀ j, η4 22 j = η 22 j := v11
    have v13 : zEq (η1 0 41) (η 0 41) := (k1.1.2.2.2.1 0 41 (by decide +kernel)).trans rfl
    have v14 : zEq (η2 0 41) (η 0 41) := (k2.1.2.2.2.1 0 41 (by decide +kernel)).trans v13
    have v15 : zEq (η3 0 41) (η 0 41) := (k3.1.2.2.2.1 0 41 (by decide +kernel)).trans v14
    have v16 : zEq (η4 0 41) (η 0 41) := (k6.1.2.2.2.1 0 41 (by decide +kernel)).trans v15
    have f0_41 : η4 0 41 = η 0 41 := v16
    have w0_0_43 : (0 : Int) ≤ η 0 43 ∧ η 0 43 ≤ 8 := wf_ok (a := 43) (b := 43) (z := (0, 8)) hp.1 (by decide +kernel) (Nat.le_refl _) (Nat.le_refl _)
    have v18 : zEq (η1 0 43) (η 0 43) := (k1.1.2.2.2.1 0 43 (by decide +kernel)).trans rfl
    have v19 : zEq (η2 0 43) (η 0 43) := (k2.1.2.2.2.1 0 43 (by decide +kernel)).trans v18
    have v20 : zEq (η3 0 43) (η 0 43) := (k3.1.2.2.2.1 0 43 (by decide +kernel)).trans v19
    have v21 : zEq (η4 0 43) (η 0 43) := (k6.1.2.2.2.1 0 43 (by decide +kernel)).trans v20
    have f0_43 : η4 0 43 = η 0 43 := v21
    have v23 : zEq (η1 0 42) (η 0 42) := (k1.1.2.2.2.1 0 42 (by decide +kernel)).trans rfl
    have v24 : zEq (η2 0 42) (η 0 42) := (k2.1.2.2.2.1 0 42 (by decide +kernel)).trans v23
    have v25 : zEq (η3 0 42) (η 0 42) := (k3.1.2.2.2.1 0 42 (by decide +kernel)).trans v24
    have v26 : zEq (η4 0 42) (η 0 42) := (k6.1.2.2.2.1 0 42 (by decide +kernel)).trans v25
    have f0_42 : η4 0 42 = η 0 42 := v26
    have v28 : zEq (η1 0 45) (η 0 45) := (k1.1.2.2.2.1 0 45 (by decide +kernel)).trans rfl
    have v29 : zEq (η2 0 45) (η 0 45) := (k2.1.2.2.2.1 0 45 (by decide +kernel)).trans v28
    have v30 : zEq (η3 0 45) (η 0 45) := (k3.1.2.2.2.1 0 45 (by decide +kernel)).trans v29
    have v31 : zEq (η4 0 45) (η 0 45) := (k6.1.2.2.2.1 0 45 (by decide +kernel)).trans v30
    have f0_45 : η4 0 45 = η 0 45 := v31
    have w0_0_19 : (0 : Int) ≤ η 0 19 ∧ η 0 19 ≤ 64 := wf_ok (a := 19) (b := 19) (z := (0, 64)) hp.1 (by decide +kernel) (Nat.le_refl _) (Nat.le_refl _)
    have v33 : zEq (η1 0 19) (η 0 19) := (k1.1.2.2.2.1 0 19 (by decide +kernel)).trans rfl
    have v34 : zEq (η2 0 19) (η 0 19) := (k2.1.2.2.2.1 0 19 (by decide +kernel)).trans v33
    have v35 : zEq (η3 0 19) (η 0 19) := (k3.1.2.2.2.1 0 19 (by decide +kernel)).trans v34
    have v36 : zEq (η4 0 19) (η 0 19) := (k6.1.2.2.2.1 0 19 (by decide +kernel)).trans v35
    have f0_19 : η4 0 19 = η 0 19 := v36
    have w0_0_44 : (0 : Int) ≤ η 0 44 ∧ η 0 44 ≤ 64 := wf_ok (a := 44) (b := 44) (z := (0, 64)) hp.1 (by decide +kernel) (Nat.le_refl _) (Nat.le_refl _)
    have v38 : zEq (η1 0 44) (η 0 44) := (k1.1.2.2.2.1 0 44 (by decide +kernel)).trans rfl
    have v39 : zEq (η2 0 44) (η 0 44) := (k2.1.2.2.2.1 0 44 (by decide +kernel)).trans v38
    have v40 : zEq (η3 0 44) (η 0 44) := (k3.1.2.2.2.1 0 44 (by decide +kernel)).trans v39
    have v41 : zEq (η4 0 44) (η 0 44) := (k6.1.2.2.2.1 0 44 (by decide +kernel)).trans v40
    have f0_44 : η4 0 44 = η 0 44 := v41
    have w0_0_7 : (0 : Int) ≤ η 0 7 ∧ η 0 7 ≤ 700 := wf_ok (a := 7) (b := 7) (z := (0, 700)) hp.1 (by decide +kernel) (Nat.le_refl _) (Nat.le_refl _)
    have v43 : zEq (η1 0 7) (η 0 7) := (k1.1.2.2.2.1 0 7 (by decide +kernel)).trans rfl
    have v44 : zEq (η2 0 7) (η 0 7) := (k2.1.2.2.2.1 0 7 (by decide +kernel)).trans v43
    have v45 : zEq (η3 0 7) (η 0 7) := (k3.1.2.2.2.1 0 7 (by decide +kernel)).trans v44
    have v46 : zEq (η4 0 7) (η 0 7) := (k6.1.2.2.2.1 0 7 (by decide +kernel)).trans v45
    have f0_7 : η4 0 7 = η 0 7 := v46
    have w0_0_6 : (0 : Int) ≤ η 0 6 ∧ η 0 6 ≤ 700 := wf_ok (a := 6) (b := 6) (z := (0, 700)) hp.1 (by decide +kernel) (Nat.le_refl _) (Nat.le_refl _)
    have v48 : zEq (η1 0 6) (η 0 6) := (k1.1.2.2.2.1 0 6 (by decide +kernel)).trans rfl
    have v49 : zEq (η2 0 6) (η 0 6) := (k2.1.2.2.2.1 0 6 (by decide +kernel)).trans v48
    have v50 : zEq (η3 0 6) (η 0 6) := (k3.1.2.2.2.1 0 6 (by decide +kernel)).trans v49
    have v51 : zEq (η4 0 6) (η 0 6) := (k6.1.2.2.2.1 0 6 (by decide +kernel)).trans v50
    have f0_6 : η4 0 6 = η 0 6 := v51
    have v52 : zEq (η4 0 8) (η 0 8) := (k6.1.2.2.2.1 0 8 (by decide +kernel)).trans v3
    have f0_8 : η4 0 8 = η 0 8 := v52
    have wbE : wB wl_le zTr η4 := wb4
    
    have I0 : H_l 0 0 0 η := hpp.1
    have I1 : H_l 0 0 0 η1 := k1.2.1
    have I2 : H_l 0 0 0 η2 := k2.2.1
    have I3 : H_l 0 0 0 η3 := k3.2.1
    have I4 : H_l 0 0 0 η4 := k6.2
    exact ⟨I4.1, fun w => absurd (show (x6 : Int) = 0 by apply Int.le_antisymm <;> omega) w⟩
  · obtain ⟨a1, b1⟩ : x1 = (yq_isS 40 η) ∧ η = η1 := ⟨y1.1, y1.2.symm⟩
    subst b1
    obtain ⟨a2, b2⟩ : x2 = (yq_isK 12 η) ∧ η = η2 := ⟨y2.1, y2.2.symm⟩
    subst b2
    obtain ⟨a3, b3⟩ : x3 = (yq_nm η) ∧ η = η3 := ⟨y3.1, y3.2.symm⟩
    subst b3
    have e4 : x4 = η 0 8 := e4
    have e5 : x5 = η 0 9 := e5
    obtain ⟨a6, b6⟩ : x6 = 0 ∧ η4 = (yq_wr 2 η) := y6
    show x6 = (yq_lf η).1 ∧ η4 = (yq_lf η).2
    simp only [yq_lf, yq_ct, yq_no, yq_inc, ← a1, ← a2, ← a3, ← e4, ← e5, ← b6, a6]
    all_goals ((repeat' split) <;> first | (exfalso; omega) | exact ⟨rfl, rfl⟩ | rfl)
set_option maxHeartbeats 8000000 in
theorem zle_leafRead_o15 {ro : Nat → List Int32} (η : zE) (hp : sP wl_le zTr zPle_leafRead [] η) (hpp : pPle_leafRead [] η) : ∀ (x1 : Int) (η1 : zE), ((gC2 wl_le [(nat_lit 0, zPle_isSign, zOle_isSign, zMle_isSign), (nat_lit 1, zPle_wrong, zOle_wrong, zMle_wrong), (nat_lit 2, zPle_waitsFor0, zOle_waitsFor0, zMle_waitsFor0), (nat_lit 3, zPle_token, zOle_token, zMle_token), (nat_lit 4, zPle_isKey, zOle_isKey, zMle_isKey), (nat_lit 5, zPle_isCounted, zOle_isCounted, zMle_isCounted), (nat_lit 6, zPle_waitsFor2, zOle_waitsFor2, zMle_waitsFor2), (nat_lit 7, zPle_nameMet, zOle_nameMet, zMle_nameMet), (nat_lit 8, zPle_grown, zOle_grown, zMle_grown)] pCle_leafRead qCle_leafRead) 0).2 [40] η x1 η1 → (x1 = 0) → ∀ (x2 : Int) (η2 : zE), ((gC2 wl_le [(nat_lit 0, zPle_isSign, zOle_isSign, zMle_isSign), (nat_lit 1, zPle_wrong, zOle_wrong, zMle_wrong), (nat_lit 2, zPle_waitsFor0, zOle_waitsFor0, zMle_waitsFor0), (nat_lit 3, zPle_token, zOle_token, zMle_token), (nat_lit 4, zPle_isKey, zOle_isKey, zMle_isKey), (nat_lit 5, zPle_isCounted, zOle_isCounted, zMle_isCounted), (nat_lit 6, zPle_waitsFor2, zOle_waitsFor2, zMle_waitsFor2), (nat_lit 7, zPle_nameMet, zOle_nameMet, zMle_nameMet), (nat_lit 8, zPle_grown, zOle_grown, zMle_grown)] pCle_leafRead qCle_leafRead) 4).2 [12] η1 x2 η2 → (x2 = 0) → ∀ (x3 : Int) (η3 : zE), ((gC2 wl_le [(nat_lit 0, zPle_isSign, zOle_isSign, zMle_isSign), (nat_lit 1, zPle_wrong, zOle_wrong, zMle_wrong), (nat_lit 2, zPle_waitsFor0, zOle_waitsFor0, zMle_waitsFor0), (nat_lit 3, zPle_token, zOle_token, zMle_token), (nat_lit 4, zPle_isKey, zOle_isKey, zMle_isKey), (nat_lit 5, zPle_isCounted, zOle_isCounted, zMle_isCounted), (nat_lit 6, zPle_waitsFor2, zOle_waitsFor2, zMle_waitsFor2), (nat_lit 7, zPle_nameMet, zOle_nameMet, zMle_nameMet), (nat_lit 8, zPle_grown, zOle_grown, zMle_grown)] pCle_leafRead qCle_leafRead) 7).2 [] η2 x3 η3 → (x3 < 0) → ∀ x4 : Int, x4 = η3 0 (Int.toNat 8) → zok 0 x4 → (¬ x4 = 3) → ((gC2 wl_le [(nat_lit 0, zPle_isSign, zOle_isSign, zMle_isSign), (nat_lit 1, zPle_wrong, zOle_wrong, zMle_wrong), (nat_lit 2, zPle_waitsFor0, zOle_waitsFor0, zMle_waitsFor0), (nat_lit 3, zPle_token, zOle_token, zMle_token), (nat_lit 4, zPle_isKey, zOle_isKey, zMle_isKey), (nat_lit 5, zPle_isCounted, zOle_isCounted, zMle_isCounted), (nat_lit 6, zPle_waitsFor2, zOle_waitsFor2, zMle_waitsFor2), (nat_lit 7, zPle_nameMet, zOle_nameMet, zMle_nameMet), (nat_lit 8, zPle_grown, zOle_grown, zMle_grown)] pCle_leafRead qCle_leafRead) 1).1 [1] η3 := by
  have hw : η 0 45 = 1 := hpp.2
  have hs : η 0 7 ≤ η 0 6 := hpp.1.1.1.1
  have bd43 : (0 : Int) ≤ η 0 43 ∧ η 0 43 ≤ 8 := wf_ok (a := 43) (b := 43) (z := (0, 8)) hp.1 (by decide +kernel) (Nat.le_refl _) (Nat.le_refl _)
  have bd44 : (0 : Int) ≤ η 0 44 ∧ η 0 44 ≤ 64 := wf_ok (a := 44) (b := 44) (z := (0, 64)) hp.1 (by decide +kernel) (Nat.le_refl _) (Nat.le_refl _)
  have bd19 : (0 : Int) ≤ η 0 19 ∧ η 0 19 ≤ 64 := wf_ok (a := 19) (b := 19) (z := (0, 64)) hp.1 (by decide +kernel) (Nat.le_refl _) (Nat.le_refl _)
  intro x1 η1 h1 c1 x2 η2 h2 c2 x3 η3 h3 c3 x4 e4 r4 c4
  have y1 : fQle_isSign [40] η x1 η1 := h1.2.2
  have k1 : sQ wl_le zTr zOle_isSign zMle_isSign [40] η x1 η1 ∧ oQle_isSign [40] η x1 η1 := ⟨h1.1, h1.2.1⟩
  have y2 : fQle_isKey [12] η1 x2 η2 := h2.2.2
  have k2 : sQ wl_le zTr zOle_isKey zMle_isKey [12] η1 x2 η2 ∧ oQle_isKey [12] η1 x2 η2 := ⟨h2.1, h2.2.1⟩
  have y3 : fQle_nameMet [] η2 x3 η3 := h3.2.2
  have k3 : sQ wl_le zTr zOle_nameMet zMle_nameMet [] η2 x3 η3 ∧ oQle_nameMet [] η2 x3 η3 := ⟨h3.1, h3.2.1⟩
  have w0_0_8 : (0 : Int) ≤ η 0 8 ∧ η 0 8 ≤ 6 := wf_ok (a := 8) (b := 8) (z := (0, 6)) hp.1 (by decide +kernel) (Nat.le_refl _) (Nat.le_refl _)
  have c0_0_8 : η 0 8 = η 0 8 := rfl
  have wb1 : wB wl_le zTr η1 := k1.1.1
  have bx1 : (0 : Int) ≤ x1 ∧ x1 ≤ 1 := k1.1.2.1
  have v1 : zEq (η1 0 8) (η 0 8) := (k1.1.2.2.2.1 0 8 (by decide +kernel)).trans rfl
  have c1_0_8 : η1 0 8 = η 0 8 := v1
  have wb2 : wB wl_le zTr η2 := k2.1.1
  have bx2 : (0 : Int) ≤ x2 ∧ x2 ≤ 1 := k2.1.2.1
  have v2 : zEq (η2 0 8) (η 0 8) := (k2.1.2.2.2.1 0 8 (by decide +kernel)).trans v1
  have c2_0_8 : η2 0 8 = η 0 8 := v2
  have wb3 : wB wl_le zTr η3 := k3.1.1
  have bx3 : ((-1) : Int) ≤ x3 ∧ x3 ≤ 6 := k3.1.2.1
  have v3 : zEq (η3 0 8) (η 0 8) := (k3.1.2.2.2.1 0 8 (by decide +kernel)).trans v2
  replace e4 : x4 = η 0 8 := e4.trans v3
  have fm1 : zFm zMle_leafRead η η1 := zFm_tr2 zFm_rf k1.1.2.2.2.1 (by decide +kernel)
  have fm2 : zFm zMle_leafRead η η2 := zFm_tr2 fm1 k2.1.2.2.2.1 (by decide +kernel)
  have fm3 : zFm zMle_leafRead η η3 := zFm_tr2 fm2 k3.1.2.2.2.1 (by decide +kernel)
  have fmE : zFm zMle_leafRead η η3 := fm3
  have fr22_0 : ∀ j, η 22 j = η 22 j := fun _ => rfl
  have v4 : ∀ j, η1 22 j = η 22 j := fun j => k1.1.2.2.2.1 22 _ (zinr_not (by decide +kernel))
  have fr22_1 : ∀ j, η1 22 j = η 22 j := v4
  have v5 : ∀ j, η2 22 j = η 22 j := fun j => (k2.1.2.2.2.1 22 _ (zinr_not (by decide +kernel))).trans (v4 j)
  have fr22_2 : ∀ j, η2 22 j = η 22 j := v5
  have v6 : ∀ j, η3 22 j = η 22 j := fun j => (k3.1.2.2.2.1 22 _ (zinr_not (by decide +kernel))).trans (v5 j)
  have fr22_3 : ∀ j, η3 22 j = η 22 j := v6
  have fr22 : ∀ j, η3 22 j = η 22 j := v6
  have v8 : zEq (η1 0 41) (η 0 41) := (k1.1.2.2.2.1 0 41 (by decide +kernel)).trans rfl
  have v9 : zEq (η2 0 41) (η 0 41) := (k2.1.2.2.2.1 0 41 (by decide +kernel)).trans v8
  have v10 : zEq (η3 0 41) (η 0 41) := (k3.1.2.2.2.1 0 41 (by decide +kernel)).trans v9
  have f0_41 : η3 0 41 = η 0 41 := v10
  have w0_0_43 : (0 : Int) ≤ η 0 43 ∧ η 0 43 ≤ 8 := wf_ok (a := 43) (b := 43) (z := (0, 8)) hp.1 (by decide +kernel) (Nat.le_refl _) (Nat.le_refl _)
  have v12 : zEq (η1 0 43) (η 0 43) := (k1.1.2.2.2.1 0 43 (by decide +kernel)).trans rfl
  have v13 : zEq (η2 0 43) (η 0 43) := (k2.1.2.2.2.1 0 43 (by decide +kernel)).trans v12
  have v14 : zEq (η3 0 43) (η 0 43) := (k3.1.2.2.2.1 0 43 (by decide +kernel)).trans v13
  have f0_43 : η3 0 43 = η 0 43 := v14
  have v16 : zEq (η1 0 42) (η 0 42) := (k1.1.2.2.2.1 0 42 (by decide +kernel)).trans rfl
  have v17 : zEq (η2 0 42) (η 0 42) := (k2.1.2.2.2.1 0 42 (by decide +kernel)).trans v16
  have v18 : zEq (η3 0 42) (η 0 42) := (k3.1.2.2.2.1 0 42 (by decide +kernel)).trans v17
  have f0_42 : η3 0 42 = η 0 42 := v18
  have v20 : zEq (η1 0 45) (η 0 45) := (k1.1.2.2.2.1 0 45 (by decide +kernel)).trans rfl
  have v21 : zEq (η2 0 45) (η 0 45) := (k2.1.2.2.2.1 0 45 (by decide +kernel)).trans v20
  have v22 : zEq (η3 0 45) (η 0 45) := (k3.1.2.2.2.1 0 45 (by decide +kernel)).trans v21
  have f0_45 : η3 0 45 = η 0 45 := v22
  have w0_0_19 : (0 : Int) ≤ η 0 19 ∧ η 0 19 ≤ 64 := wf_ok (a := 19) (b := 19) (z := (0, 64)) hp.1 (by decide +kernel) (Nat.le_refl _) (Nat.le_refl _)
  have v24 : zEq (η1 0 19) (η 0 19) := (k1.1.2.2.2.1 0 19 (by decide +kernel)).trans rfl
  have v25 : zEq (η2 0 19) (η 0 19) := (k2.1.2.2.2.1 0 19 (by decide +kernel)).trans v24
  have v26 : zEq (η3 0 19) (η 0 19) := (k3.1.2.2.2.1 0 19 (by decide +kernel)).trans v25
  have f0_19 : η3 0 19 = η 0 19 := v26
  have w0_0_44 : (0 : Int) ≤ η 0 44 ∧ η 0 44 ≤ 64 := wf_ok (a := 44) (b := 44) (z := (0, 64)) hp.1 (by decide +kernel) (Nat.le_refl _) (Nat.le_refl _)
  have v28 : zEq (η1 0 44) (η 0 44) := (k1.1.2.2.2.1 0 44 (by decide +kernel)).trans rfl
  have v29 : zEq (η2 0 44) (η 0 44) := (k2.1.2.2.2.1 0 44 (by decide +kernel)).trans v28
  have v30 : zEq (η3 0 44) (η 0 44) := (k3.1.2.2.2.1 0 44 (by decide +kernel)).trans v29
  have f0_44 : η3 0 44 = η 0 44 := v30
  have w0_0_7 : (0 : Int) ≤ η 0 7 ∧ η 0 7 ≤ 700 := wf_ok (a := 7) (b := 7) (z := (0, 700)) hp.1 (by decide +kernel) (Nat.le_refl _) (Nat.le_refl _)
  have v32 : zEq (η1 0 7) (η 0 7) := (k1.1.2.2.2.1 0 7 (by decide +kernel)).trans rfl
  have v33 : zEq (η2 0 7) (η 0 7) := (k2.1.2.2.2.1 0 7 (by decide +kernel)).trans v32
  have v34 : zEq (η3 0 7) (η 0 7) := (k3.1.2.2.2.1 0 7 (by decide +kernel)).trans v33
  have f0_7 : η3 0 7 = η 0 7 := v34
  have w0_0_6 : (0 : Int) ≤ η 0 6 ∧ η 0 6 ≤ 700 := wf_ok (a := 6) (b := 6) (z := (0, 700)) hp.1 (by decide +kernel) (Nat.le_refl _) (Nat.le_refl _)
  have v36 : zEq (η1 0 6) (η 0 6) := (k1.1.2.2.2.1 0 6 (by decide +kernel)).trans rfl
  have v37 : zEq (η2 0 6) (η 0 6) := (k2.1.2.2.2.1 0 6 (by decide +kernel)).trans v36
  have v38 : zEq (η3 0 6) (η 0 6) := (k3.1.2.2.2.1 0 6 (by decide +kernel)).trans v37
  have f0_6 : η3 0 6 = η 0 6 := v38
  have f0_8 : η3 0 8 = η 0 8 := v3
  have wbE : wB wl_le zTr η3 := wb3
  
  have I0 : H_l 0 0 0 η := hpp.1
  have I1 : H_l 0 0 0 η1 := k1.2.1
  have I2 : H_l 0 0 0 η2 := k2.2.1
  have I3 : H_l 0 0 0 η3 := k3.2.1
  exact I3
set_option maxHeartbeats 8000000 in
theorem zle_leafRead_o16 {ro : Nat → List Int32} (η : zE) (hp : sP wl_le zTr zPle_leafRead [] η) (hpp : pPle_leafRead [] η) : ∀ (x1 : Int) (η1 : zE), ((gC2 wl_le [(nat_lit 0, zPle_isSign, zOle_isSign, zMle_isSign), (nat_lit 1, zPle_wrong, zOle_wrong, zMle_wrong), (nat_lit 2, zPle_waitsFor0, zOle_waitsFor0, zMle_waitsFor0), (nat_lit 3, zPle_token, zOle_token, zMle_token), (nat_lit 4, zPle_isKey, zOle_isKey, zMle_isKey), (nat_lit 5, zPle_isCounted, zOle_isCounted, zMle_isCounted), (nat_lit 6, zPle_waitsFor2, zOle_waitsFor2, zMle_waitsFor2), (nat_lit 7, zPle_nameMet, zOle_nameMet, zMle_nameMet), (nat_lit 8, zPle_grown, zOle_grown, zMle_grown)] pCle_leafRead qCle_leafRead) 0).2 [40] η x1 η1 → (x1 = 0) → ∀ (x2 : Int) (η2 : zE), ((gC2 wl_le [(nat_lit 0, zPle_isSign, zOle_isSign, zMle_isSign), (nat_lit 1, zPle_wrong, zOle_wrong, zMle_wrong), (nat_lit 2, zPle_waitsFor0, zOle_waitsFor0, zMle_waitsFor0), (nat_lit 3, zPle_token, zOle_token, zMle_token), (nat_lit 4, zPle_isKey, zOle_isKey, zMle_isKey), (nat_lit 5, zPle_isCounted, zOle_isCounted, zMle_isCounted), (nat_lit 6, zPle_waitsFor2, zOle_waitsFor2, zMle_waitsFor2), (nat_lit 7, zPle_nameMet, zOle_nameMet, zMle_nameMet), (nat_lit 8, zPle_grown, zOle_grown, zMle_grown)] pCle_leafRead qCle_leafRead) 4).2 [12] η1 x2 η2 → (x2 = 0) → ∀ (x3 : Int) (η3 : zE), ((gC2 wl_le [(nat_lit 0, zPle_isSign, zOle_isSign, zMle_isSign), (nat_lit 1, zPle_wrong, zOle_wrong, zMle_wrong), (nat_lit 2, zPle_waitsFor0, zOle_waitsFor0, zMle_waitsFor0), (nat_lit 3, zPle_token, zOle_token, zMle_token), (nat_lit 4, zPle_isKey, zOle_isKey, zMle_isKey), (nat_lit 5, zPle_isCounted, zOle_isCounted, zMle_isCounted), (nat_lit 6, zPle_waitsFor2, zOle_waitsFor2, zMle_waitsFor2), (nat_lit 7, zPle_nameMet, zOle_nameMet, zMle_nameMet), (nat_lit 8, zPle_grown, zOle_grown, zMle_grown)] pCle_leafRead qCle_leafRead) 7).2 [] η2 x3 η3 → (x3 < 0) → ∀ x4 : Int, x4 = η3 0 (Int.toNat 8) → zok 0 x4 → (¬ x4 = 3) → ∀ (x5 : Int) (η4 : zE), ((gC2 wl_le [(nat_lit 0, zPle_isSign, zOle_isSign, zMle_isSign), (nat_lit 1, zPle_wrong, zOle_wrong, zMle_wrong), (nat_lit 2, zPle_waitsFor0, zOle_waitsFor0, zMle_waitsFor0), (nat_lit 3, zPle_token, zOle_token, zMle_token), (nat_lit 4, zPle_isKey, zOle_isKey, zMle_isKey), (nat_lit 5, zPle_isCounted, zOle_isCounted, zMle_isCounted), (nat_lit 6, zPle_waitsFor2, zOle_waitsFor2, zMle_waitsFor2), (nat_lit 7, zPle_nameMet, zOle_nameMet, zMle_nameMet), (nat_lit 8, zPle_grown, zOle_grown, zMle_grown)] pCle_leafRead qCle_leafRead) 1).2 [1] η3 x5 η4 → (fun (_ : Nat) (y : Int) (η' : zE) => pQle_leafRead [] η y η') 0 x5 η4 := by
  intro x1 η1 h1 c1 x2 η2 h2 c2 x3 η3 h3 c3 x4 e4 r4 c4 x5 η4 h5
  have y1 : fQle_isSign [40] η x1 η1 := h1.2.2
  have k1 : sQ wl_le zTr zOle_isSign zMle_isSign [40] η x1 η1 ∧ oQle_isSign [40] η x1 η1 := ⟨h1.1, h1.2.1⟩
  have y2 : fQle_isKey [12] η1 x2 η2 := h2.2.2
  have k2 : sQ wl_le zTr zOle_isKey zMle_isKey [12] η1 x2 η2 ∧ oQle_isKey [12] η1 x2 η2 := ⟨h2.1, h2.2.1⟩
  have y3 : fQle_nameMet [] η2 x3 η3 := h3.2.2
  have k3 : sQ wl_le zTr zOle_nameMet zMle_nameMet [] η2 x3 η3 ∧ oQle_nameMet [] η2 x3 η3 := ⟨h3.1, h3.2.1⟩
  have y5 : fQle_wrong [1] η3 x5 η4 := h5.2.2
  have k5 : sQ wl_le zTr zOle_wrong zMle_wrong [1] η3 x5 η4 ∧ oQle_wrong [1] η3 x5 η4 := ⟨h5.1, h5.2.1⟩
  refine yj_a ?_ ?_
  · have hw : η 0 45 = 1 := hpp.2
    have hs : η 0 7 ≤ η 0 6 := hpp.1.1.1.1
    have bd43 : (0 : Int) ≤ η 0 43 ∧ η 0 43 ≤ 8 := wf_ok (a := 43) (b := 43) (z := (0, 8)) hp.1 (by decide +kernel) (Nat.le_refl _) (Nat.le_refl _)
    have bd44 : (0 : Int) ≤ η 0 44 ∧ η 0 44 ≤ 64 := wf_ok (a := 44) (b := 44) (z := (0, 64)) hp.1 (by decide +kernel) (Nat.le_refl _) (Nat.le_refl _)
    have bd19 : (0 : Int) ≤ η 0 19 ∧ η 0 19 ≤ 64 := wf_ok (a := 19) (b := 19) (z := (0, 64)) hp.1 (by decide +kernel) (Nat.le_refl _) (Nat.le_refl _)
    have y1 : fQle_isSign [40] η x1 η1 := h1.2.2
    have k1 : sQ wl_le zTr zOle_isSign zMle_isSign [40] η x1 η1 ∧ oQle_isSign [40] η x1 η1 := ⟨h1.1, h1.2.1⟩
    have y2 : fQle_isKey [12] η1 x2 η2 := h2.2.2
    have k2 : sQ wl_le zTr zOle_isKey zMle_isKey [12] η1 x2 η2 ∧ oQle_isKey [12] η1 x2 η2 := ⟨h2.1, h2.2.1⟩
    have y3 : fQle_nameMet [] η2 x3 η3 := h3.2.2
    have k3 : sQ wl_le zTr zOle_nameMet zMle_nameMet [] η2 x3 η3 ∧ oQle_nameMet [] η2 x3 η3 := ⟨h3.1, h3.2.1⟩
    have y5 : fQle_wrong [1] η3 x5 η4 := h5.2.2
    have k5 : sQ wl_le zTr zOle_wrong zMle_wrong [1] η3 x5 η4 ∧ oQle_wrong [1] η3 x5 η4 := ⟨h5.1, h5.2.1⟩
    have w0_0_8 : (0 : Int) ≤ η 0 8 ∧ η 0 8 ≤ 6 := wf_ok (a := 8) (b := 8) (z := (0, 6)) hp.1 (by decide +kernel) (Nat.le_refl _) (Nat.le_refl _)
    have c0_0_8 : η 0 8 = η 0 8 := rfl
    have wb1 : wB wl_le zTr η1 := k1.1.1
    have bx1 : (0 : Int) ≤ x1 ∧ x1 ≤ 1 := k1.1.2.1
    have v1 : zEq (η1 0 8) (η 0 8) := (k1.1.2.2.2.1 0 8 (by decide +kernel)).trans rfl
    have c1_0_8 : η1 0 8 = η 0 8 := v1
    have wb2 : wB wl_le zTr η2 := k2.1.1
    have bx2 : (0 : Int) ≤ x2 ∧ x2 ≤ 1 := k2.1.2.1
    have v2 : zEq (η2 0 8) (η 0 8) := (k2.1.2.2.2.1 0 8 (by decide +kernel)).trans v1
    have c2_0_8 : η2 0 8 = η 0 8 := v2
    have wb3 : wB wl_le zTr η3 := k3.1.1
    have bx3 : ((-1) : Int) ≤ x3 ∧ x3 ≤ 6 := k3.1.2.1
    have v3 : zEq (η3 0 8) (η 0 8) := (k3.1.2.2.2.1 0 8 (by decide +kernel)).trans v2
    replace e4 : x4 = η 0 8 := e4.trans v3
    have c3_0_8 : η3 0 8 = η 0 8 := v3
    have wb4 : wB wl_le zTr η4 := k5.1.1
    have bx5 : (0 : Int) ≤ x5 ∧ x5 ≤ 0 := k5.1.2.1
    have fm1 : zFm zMle_leafRead η η1 := zFm_tr2 zFm_rf k1.1.2.2.2.1 (by decide +kernel)
    have fm2 : zFm zMle_leafRead η η2 := zFm_tr2 fm1 k2.1.2.2.2.1 (by decide +kernel)
    have fm3 : zFm zMle_leafRead η η3 := zFm_tr2 fm2 k3.1.2.2.2.1 (by decide +kernel)
    have fm4 : zFm zMle_leafRead η η4 := zFm_tr2 fm3 k5.1.2.2.2.1 (by decide +kernel)
    have fmE : zFm zMle_leafRead η η4 := fm4
    have fr22_0 : ∀ j, η 22 j = η 22 j := fun _ => rfl
    have v4 : ∀ j, η1 22 j = η 22 j := fun j => k1.1.2.2.2.1 22 _ (zinr_not (by decide +kernel))
    have fr22_1 : ∀ j, η1 22 j = η 22 j := v4
    have v5 : ∀ j, η2 22 j = η 22 j := fun j => (k2.1.2.2.2.1 22 _ (zinr_not (by decide +kernel))).trans (v4 j)
    have fr22_2 : ∀ j, η2 22 j = η 22 j := v5
    have v6 : ∀ j, η3 22 j = η 22 j := fun j => (k3.1.2.2.2.1 22 _ (zinr_not (by decide +kernel))).trans (v5 j)
    have fr22_3 : ∀ j, η3 22 j = η 22 j := v6
    have v7 : ∀ j, η4 22 j = η 22 j := fun j => (k5.1.2.2.2.1 22 _ (zinr_not (by decide +kernel))).trans (v6 j)
    have fr22_4 : ∀ j, η4 22 j = η 22 j := v7
    have fr22 : ∀ j, η4 22 j = η 22 j := v7
    have v9 : zEq (η1 0 41) (η 0 41) := (k1.1.2.2.2.1 0 41 (by decide +kernel)).trans rfl
    have v10 : zEq (η2 0 41) (η 0 41) := (k2.1.2.2.2.1 0 41 (by decide +kernel)).trans v9
    have v11 : zEq (η3 0 41) (η 0 41) := (k3.1.2.2.2.1 0 41 (by decide +kernel)).trans v10
    have v12 : zEq (η4 0 41) (η 0 41) := (k5.1.2.2.2.1 0 41 (by decide +kernel)).trans v11
    have f0_41 : η4 0 41 = η 0 41 := v12
    have w0_0_43 : (0 : Int) ≤ η 0 43 ∧ η 0 43 ≤ 8 := wf_ok (a := 43) (b := 43) (z := (0, 8)) hp.1 (by decide +kernel) (Nat.le_refl _) (Nat.le_refl _)
    have v14 : zEq (η1 0 43) (η 0 43) := (k1.1.2.2.2.1 0 43 (by decide +kernel)).trans rfl
    have v15 : zEq (η2 0 43) (η 0 43) := (k2.1.2.2.2.1 0 43 (by decide +kernel)).trans v14
    have v16 : zEq (η3 0 43) (η 0 43) := (k3.1.2.2.2.1 0 43 (by decide +kernel)).trans v15
    have v17 : zEq (η4 0 43) (η 0 43) := (k5.1.2.2.2.1 0 43 (by decide +kernel)).trans v16
    have f0_43 : η4 0 43 = η 0 43 := v17
    have v19 : zEq (η1 0 42) (η 0 42) := (k1.1.2.2.2.1 0 42 (by decide +kernel)).trans rfl
    have v20 : zEq (η2 0 42) (η 0 42) := (k2.1.2.2.2.1 0 42 (by decide +kernel)).trans v19
    have v21 : zEq (η3 0 42) (η 0 42) := (k3.1.2.2.2.1 0 42 (by decide +kernel)).trans v20
    have v22 : zEq (η4 0 42) (η 0 42) := (k5.1.2.2.2.1 0 42 (by decide +kernel)).trans v21
    have f0_42 : η4 0 42 = η 0 42 := v22
    have v24 : zEq (η1 0 45) (η 0 45) := (k1.1.2.2.2.1 0 45 (by decide +kernel)).trans rfl
    have v25 : zEq (η2 0 45) (η 0 45) := (k2.1.2.2.2.1 0 45 (by decide +kernel)).trans v24
    have v26 : zEq (η3 0 45) (η 0 45) := (k3.1.2.2.2.1 0 45 (by decide +kernel)).trans v25
    have v27 : zEq (η4 0 45) (η 0 45) := (k5.1.2.2.2.1 0 45 (by decide +kernel)).trans v26
    have f0_45 : η4 0 45 = η 0 45 := v27
    have w0_0_19 : (0 : Int) ≤ η 0 19 ∧ η 0 19 ≤ 64 := wf_ok (a := 19) (b := 19) (z := (0, 64)) hp.1 (by decide +kernel) (Nat.le_refl _) (Nat.le_refl _)
    have v29 : zEq (η1 0 19) (η 0 19) := (k1.1.2.2.2.1 0 19 (by decide +kernel)).trans rfl
    have v30 : zEq (η2 0 19) (η 0 19) := (k2.1.2.2.2.1 0 19 (by decide +kernel)).trans v29
    have v31 : zEq (η3 0 19) (η 0 19) := (k3.1.2.2.2.1 0 19 (by decide +kernel)).trans v30
    have v32 : zEq (η4 0 19) (η 0 19) := (k5.1.2.2.2.1 0 19 (by decide +kernel)).trans v31
    have f0_19 : η4 0 19 = η 0 19 := v32
    have w0_0_44 : (0 : Int) ≤ η 0 44 ∧ η 0 44 ≤ 64 := wf_ok (a := 44) (b := 44) (z := (0, 64)) hp.1 (by decide +kernel) (Nat.le_refl _) (Nat.le_refl _)
    have v34 : zEq (η1 0 44) (η 0 44) := (k1.1.2.2.2.1 0 44 (by decide +kernel)).trans rfl
    have v35 : zEq (η2 0 44) (η 0 44) := (k2.1.2.2.2.1 0 44 (by decide +kernel)).trans v34
    have v36 : zEq (η3 0 44) (η 0 44) := (k3.1.2.2.2.1 0 44 (by decide +kernel)).trans v35
    have v37 : zEq (η4 0 44) (η 0 44) := (k5.1.2.2.2.1 0 44 (by decide +kernel)).trans v36
    have f0_44 : η4 0 44 = η 0 44 := v37
    have w0_0_7 : (0 : Int) ≤ η 0 7 ∧ η 0 7 ≤ 700 := wf_ok (a := 7) (b := 7) (z := (0, 700)) hp.1 (by decide +kernel) (Nat.le_refl _) (Nat.le_refl _)
    have v39 : zEq (η1 0 7) (η 0 7) := (k1.1.2.2.2.1 0 7 (by decide +kernel)).trans rfl
    have v40 : zEq (η2 0 7) (η 0 7) := (k2.1.2.2.2.1 0 7 (by decide +kernel)).trans v39
    have v41 : zEq (η3 0 7) (η 0 7) := (k3.1.2.2.2.1 0 7 (by decide +kernel)).trans v40
    have v42 : zEq (η4 0 7) (η 0 7) := (k5.1.2.2.2.1 0 7 (by decide +kernel)).trans v41
    have f0_7 : η4 0 7 = η 0 7 := v42
    have w0_0_6 : (0 : Int) ≤ η 0 6 ∧ η 0 6 ≤ 700 := wf_ok (a := 6) (b := 6) (z := (0, 700)) hp.1 (by decide +kernel) (Nat.le_refl _) (Nat.le_refl _)
    have v44 : zEq (η1 0 6) (η 0 6) := (k1.1.2.2.2.1 0 6 (by decide +kernel)).trans rfl
    have v45 : zEq (η2 0 6) (η 0 6) := (k2.1.2.2.2.1 0 6 (by decide +kernel)).trans v44
    have v46 : zEq (η3 0 6) (η 0 6) := (k3.1.2.2.2.1 0 6 (by decide +kernel)).trans v45
    have v47 : zEq (η4 0 6) (η 0 6) := (k5.1.2.2.2.1 0 6 (by decide +kernel)).trans v46
    have f0_6 : η4 0 6 = η 0 6 := v47
    have v48 : zEq (η4 0 8) (η 0 8) := (k5.1.2.2.2.1 0 8 (by decide +kernel)).trans v3
    have f0_8 : η4 0 8 = η 0 8 := v48
    have wbE : wB wl_le zTr η4 := wb4
    
    have I0 : H_l 0 0 0 η := hpp.1
    have I1 : H_l 0 0 0 η1 := k1.2.1
    have I2 : H_l 0 0 0 η2 := k2.2.1
    have I3 : H_l 0 0 0 η3 := k3.2.1
    have I4 : H_l 0 0 0 η4 := k5.2
    exact ⟨I4.1, fun w => absurd (show (x5 : Int) = 0 by apply Int.le_antisymm <;> omega) w⟩
  · obtain ⟨a1, b1⟩ : x1 = (yq_isS 40 η) ∧ η = η1 := ⟨y1.1, y1.2.symm⟩
    subst b1
    obtain ⟨a2, b2⟩ : x2 = (yq_isK 12 η) ∧ η = η2 := ⟨y2.1, y2.2.symm⟩
    subst b2
    obtain ⟨a3, b3⟩ : x3 = (yq_nm η) ∧ η = η3 := ⟨y3.1, y3.2.symm⟩
    subst b3
    have e4 : x4 = η 0 8 := e4
    obtain ⟨a5, b5⟩ : x5 = 0 ∧ η4 = (yq_wr 1 η) := y5
    show x5 = (yq_lf η).1 ∧ η4 = (yq_lf η).2
    simp only [yq_lf, yq_ct, yq_no, yq_inc, ← a1, ← a2, ← a3, ← e4, ← b5, a5]
    all_goals ((repeat' split) <;> first | (exfalso; omega) | exact ⟨rfl, rfl⟩ | rfl)
