def zPl_signs : zPq := ([], [])
def zOl_signs : zPo := (((.ofNat (nat_lit 0)), (.ofNat (nat_lit 1))), [], [])
def zMl_signs : List zCe := [(nat_lit 0, nat_lit 44), (nat_lit 0, nat_lit 45), (nat_lit 0, nat_lit 42), (nat_lit 0, nat_lit 47), (nat_lit 0, nat_lit 46), (nat_lit 0, nat_lit 43), (nat_lit 0, nat_lit 20), (nat_lit 0, nat_lit 8), (nat_lit 0, nat_lit 9), (nat_lit 0, nat_lit 10), (nat_lit 0, nat_lit 11), (nat_lit 0, nat_lit 5), (nat_lit 0, nat_lit 6), (nat_lit 22, nat_lit 0), (nat_lit 19, nat_lit 0), (nat_lit 20, nat_lit 0), (nat_lit 21, nat_lit 0), (nat_lit 23, nat_lit 0)]
def pPl_signs : List Int → zE → Prop := fun _ η => G_l η ∧ η 0 45 = 0 ∧ 1 ≤ η 0 19
def pQl_signs : List Int → zE → Int → zE → Prop := fun _ η y η' => G0_l η' ∧ (¬ y = 0 → G_l η' ∧ 10 * (η' 0 6 - η' 0 7) + η' 0 8 < 10 * (η 0 6 - η 0 7) + η 0 8 ∧ (η' 0 45 = 0 → 1 ≤ η' 0 19))
def pCl_signs : Nat → List Int → zE → Prop := fun c => match c with
  | 0 => pPl_isSign
  | 1 => pPl_wrong
  | 2 => pPl_token
  | 3 => pPl_isKey
  | 4 => pPl_isCounted
  | 5 => pPl_waitsFor
  | 6 => pPl_rank
  | 7 => pPl_bind
  | _ => fun _ _ => True
def qCl_signs : Nat → List Int → zE → Int → zE → Prop := fun c => match c with
  | 0 => pQl_isSign
  | 1 => pQl_wrong
  | 2 => pQl_token
  | 3 => pQl_isKey
  | 4 => pQl_isCounted
  | 5 => pQl_waitsFor
  | 6 => pQl_rank
  | 7 => pQl_bind
  | _ => fun _ _ _ _ => True
def iCl_signs : List Int → zE → Nat → List Int → zE → Prop := fun xs η0 c => match c with
  | 0 => fun ys η => G_l η ∧ η 0 45 = 0 ∧ 1 ≤ η 0 19 ∧ η 0 7 = η0 0 7 ∧ η 0 6 = η0 0 6 ∧ η 0 8 = η0 0 8
  | 1 => fun ys η => G_l η ∧ η 0 45 = 0 ∧ 1 ≤ η 0 19 ∧ η 0 7 = η0 0 7 ∧ η 0 6 = η0 0 6 ∧ η 0 8 = η0 0 8 ∧ (ys.getD 0 0 = 0 ∨ (3 ≤ ys.getD 0 0 ∧ ¬ η 0 8 = 0))
  | 2 => fun ys η => G_l η ∧ η 0 45 = 0 ∧ 1 ≤ η 0 19 ∧ η 0 7 = η0 0 7 ∧ η 0 6 = η0 0 6 ∧ η 0 8 = η0 0 8 ∧ (ys.getD 0 0 = 0 ∨ (3 ≤ ys.getD 0 0 ∧ ¬ η 0 8 = 0))
  | 3 => fun ys η => G_l η ∧ η 0 45 = 0 ∧ 1 ≤ η 0 19 ∧ η 0 7 = η0 0 7 ∧ η 0 6 = η0 0 6 ∧ η 0 8 = η0 0 8 ∧ (ys.getD 0 0 = 0 ∨ (3 ≤ ys.getD 0 0 ∧ ¬ η 0 8 = 0))
  | _ => fun _ _ => True
def zVl_signs : List zIv := [(nat_lit 0, ([], []), ((.ofNat (nat_lit 9)), [])), (nat_lit 1, ([((.ofNat (nat_lit 0)), (.ofNat (nat_lit 14)))], []), ((.ofNat (nat_lit 8)), [])), (nat_lit 2, ([((.ofNat (nat_lit 3)), (.ofNat (nat_lit 14)))], []), ((.ofNat (nat_lit 7)), [])), (nat_lit 3, ([((.ofNat (nat_lit 3)), (.ofNat (nat_lit 14)))], []), ((.ofNat (nat_lit 6)), []))]
def zUl_signs : List zCu := [(nat_lit 47, nat_lit 0, [(nat_lit 0, (.inr (.inr (.inl (nat_lit 0)))))], []), (nat_lit 148, nat_lit 1, [(nat_lit 0, (.inr (.inr (.inl (nat_lit 0))))), (nat_lit 1, (.inl (nat_lit 1, (.ofNat (nat_lit 0)))))], []), (nat_lit 178, nat_lit 2, [(nat_lit 0, (.inr (.inr (.inl (nat_lit 0))))), (nat_lit 1, (.inl (nat_lit 1, (.ofNat (nat_lit 0)))))], []), (nat_lit 217, nat_lit 3, [(nat_lit 0, (.inr (.inr (.inl (nat_lit 0))))), (nat_lit 1, (.inl (nat_lit 1, (.ofNat (nat_lit 0)))))], [])]
def zDl_signs : List (List zK) := [[(nat_lit 7, nat_lit 2, [(nat_lit 0, (.ofNat (nat_lit 1)))]), (nat_lit 8, nat_lit 2, []), (nat_lit 5, nat_lit 0, [(nat_lit 0, (.ofNat (nat_lit 0))), (nat_lit 0, (.ofNat (nat_lit 43))), (nat_lit 7, (.ofNat (nat_lit 0)))]), (nat_lit 0, nat_lit 2, [(nat_lit 6, (.ofNat (nat_lit 0))), (nat_lit 0, (.ofNat (nat_lit 1)))]), (nat_lit 4, nat_lit 0, [(nat_lit 0, (.ofNat (nat_lit 0))), (nat_lit 0, (.ofNat (nat_lit 43)))]), (nat_lit 5, nat_lit 0, [(nat_lit 0, (.ofNat (nat_lit 0))), (nat_lit 0, (.ofNat (nat_lit 41))), (nat_lit 5, (.ofNat (nat_lit 0)))]), (nat_lit 0, nat_lit 2, [(nat_lit 4, (.ofNat (nat_lit 0))), (nat_lit 0, (.ofNat (nat_lit 1)))]), (nat_lit 4, nat_lit 0, [(nat_lit 0, (.ofNat (nat_lit 0))), (nat_lit 0, (.ofNat (nat_lit 41)))]), (nat_lit 8, nat_lit 7, [(nat_lit 0, (.ofNat (nat_lit 1)))]), (nat_lit 6, nat_lit 4, [(nat_lit 2, (.ofNat (nat_lit 0))), (nat_lit 0, (.ofNat (nat_lit 0)))]), (nat_lit 4, nat_lit 0, [(nat_lit 0, (.ofNat (nat_lit 0))), (nat_lit 0, (.ofNat (nat_lit 43)))]), (nat_lit 6, nat_lit 1, [(nat_lit 1, (.ofNat (nat_lit 0))), (nat_lit 0, (.ofNat (nat_lit 0)))]), (nat_lit 8, nat_lit 0, [(nat_lit 0, (.ofNat (nat_lit 41)))])]]
def zEl_signs : List (List zK) := [[(nat_lit 13, nat_lit 0, [(nat_lit 0, (.ofNat (nat_lit 41)))])],
  [(nat_lit 12, nat_lit 0, []), (nat_lit 6, nat_lit 0, [(nat_lit 1, (.ofNat (nat_lit 0))), (nat_lit 0, (.ofNat (nat_lit 0)))]), (nat_lit 8, nat_lit 0, [(nat_lit 0, (.ofNat (nat_lit 41)))])],
  [(nat_lit 12, nat_lit 0, []), (nat_lit 6, nat_lit 5, [(nat_lit 2, (.ofNat (nat_lit 0))), (nat_lit 0, (.ofNat (nat_lit 0)))]), (nat_lit 4, nat_lit 0, [(nat_lit 0, (.ofNat (nat_lit 0))), (nat_lit 0, (.ofNat (nat_lit 43)))]), (nat_lit 6, nat_lit 1, [(nat_lit 1, (.ofNat (nat_lit 0))), (nat_lit 0, (.ofNat (nat_lit 0)))]), (nat_lit 8, nat_lit 0, [(nat_lit 0, (.ofNat (nat_lit 41)))])],
  [(nat_lit 13, nat_lit 7, [(nat_lit 0, (.ofNat (nat_lit 1)))]), (nat_lit 6, nat_lit 4, [(nat_lit 2, (.ofNat (nat_lit 0))), (nat_lit 0, (.ofNat (nat_lit 0)))]), (nat_lit 4, nat_lit 0, [(nat_lit 0, (.ofNat (nat_lit 0))), (nat_lit 0, (.ofNat (nat_lit 43)))]), (nat_lit 6, nat_lit 1, [(nat_lit 1, (.ofNat (nat_lit 0))), (nat_lit 0, (.ofNat (nat_lit 0)))]), (nat_lit 8, nat_lit 0, [(nat_lit 0, (.ofNat (nat_lit 41)))])],
  [(nat_lit 13, nat_lit 2, []), (nat_lit 5, nat_lit 0, [(nat_lit 0, (.ofNat (nat_lit 0))), (nat_lit 0, (.ofNat (nat_lit 43))), (nat_lit 7, (.ofNat (nat_lit 0)))]), (nat_lit 0, nat_lit 2, [(nat_lit 6, (.ofNat (nat_lit 0))), (nat_lit 0, (.ofNat (nat_lit 1)))]), (nat_lit 4, nat_lit 0, [(nat_lit 0, (.ofNat (nat_lit 0))), (nat_lit 0, (.ofNat (nat_lit 43)))]), (nat_lit 5, nat_lit 0, [(nat_lit 0, (.ofNat (nat_lit 0))), (nat_lit 0, (.ofNat (nat_lit 41))), (nat_lit 5, (.ofNat (nat_lit 0)))]), (nat_lit 0, nat_lit 2, [(nat_lit 4, (.ofNat (nat_lit 0))), (nat_lit 0, (.ofNat (nat_lit 1)))]), (nat_lit 4, nat_lit 0, [(nat_lit 0, (.ofNat (nat_lit 0))), (nat_lit 0, (.ofNat (nat_lit 41)))]), (nat_lit 8, nat_lit 7, [(nat_lit 0, (.ofNat (nat_lit 1)))]), (nat_lit 6, nat_lit 4, [(nat_lit 2, (.ofNat (nat_lit 0))), (nat_lit 0, (.ofNat (nat_lit 0)))]), (nat_lit 4, nat_lit 0, [(nat_lit 0, (.ofNat (nat_lit 0))), (nat_lit 0, (.ofNat (nat_lit 43)))]), (nat_lit 6, nat_lit 1, [(nat_lit 1, (.ofNat (nat_lit 0))), (nat_lit 0, (.ofNat (nat_lit 0)))]), (nat_lit 8, nat_lit 0, [(nat_lit 0, (.ofNat (nat_lit 41)))])],
  [(nat_lit 11, nat_lit 0, [(nat_lit 0, (.ofNat (nat_lit 1)))]), (nat_lit 8, nat_lit 2, []), (nat_lit 5, nat_lit 0, [(nat_lit 0, (.ofNat (nat_lit 0))), (nat_lit 0, (.ofNat (nat_lit 43))), (nat_lit 7, (.ofNat (nat_lit 0)))]), (nat_lit 0, nat_lit 2, [(nat_lit 6, (.ofNat (nat_lit 0))), (nat_lit 0, (.ofNat (nat_lit 1)))]), (nat_lit 4, nat_lit 0, [(nat_lit 0, (.ofNat (nat_lit 0))), (nat_lit 0, (.ofNat (nat_lit 43)))]), (nat_lit 5, nat_lit 0, [(nat_lit 0, (.ofNat (nat_lit 0))), (nat_lit 0, (.ofNat (nat_lit 41))), (nat_lit 5, (.ofNat (nat_lit 0)))]), (nat_lit 0, nat_lit 2, [(nat_lit 4, (.ofNat (nat_lit 0))), (nat_lit 0, (.ofNat (nat_lit 1)))]), (nat_lit 4, nat_lit 0, [(nat_lit 0, (.ofNat (nat_lit 0))), (nat_lit 0, (.ofNat (nat_lit 41)))]), (nat_lit 8, nat_lit 7, [(nat_lit 0, (.ofNat (nat_lit 1)))]), (nat_lit 6, nat_lit 4, [(nat_lit 2, (.ofNat (nat_lit 0))), (nat_lit 0, (.ofNat (nat_lit 0)))]), (nat_lit 4, nat_lit 0, [(nat_lit 0, (.ofNat (nat_lit 0))), (nat_lit 0, (.ofNat (nat_lit 43)))]), (nat_lit 6, nat_lit 1, [(nat_lit 1, (.ofNat (nat_lit 0))), (nat_lit 0, (.ofNat (nat_lit 0)))]), (nat_lit 8, nat_lit 0, [(nat_lit 0, (.ofNat (nat_lit 41)))])]]
def zFl_signs : List (List zK) := []
def zDl_signs_0 : List (List zK) := []
def zEl_signs_0 : List (List zK) := [[(nat_lit 13, nat_lit 3, [(nat_lit 0, (.ofNat (nat_lit 10)))])],
  [(nat_lit 13, nat_lit 3, [(nat_lit 0, (.ofNat (nat_lit 11)))]), (nat_lit 6, nat_lit 0, [(nat_lit 1, (.ofNat (nat_lit 0))), (nat_lit 0, (.ofNat (nat_lit 0)))]), (nat_lit 8, nat_lit 3, [(nat_lit 0, (.ofNat (nat_lit 10)))])],
  [(nat_lit 13, nat_lit 0, [(nat_lit 0, (.ofNat (nat_lit 43)))]), (nat_lit 6, nat_lit 1, [(nat_lit 3, (.ofNat (nat_lit 0))), (nat_lit 0, (.ofNat (nat_lit 5)))]), (nat_lit 4, nat_lit 0, [(nat_lit 0, (.ofNat (nat_lit 0))), (nat_lit 0, (.ofNat (nat_lit 8)))]), (nat_lit 6, nat_lit 0, [(nat_lit 2, (.ofNat (nat_lit 0))), (nat_lit 0, (.ofNat (nat_lit 0)))]), (nat_lit 8, nat_lit 3, [(nat_lit 0, (.ofNat (nat_lit 11)))]), (nat_lit 6, nat_lit 0, [(nat_lit 1, (.ofNat (nat_lit 0))), (nat_lit 0, (.ofNat (nat_lit 0)))]), (nat_lit 8, nat_lit 3, [(nat_lit 0, (.ofNat (nat_lit 10)))])],
  [(nat_lit 13, nat_lit 0, [(nat_lit 0, (.ofNat (nat_lit 45)))]), (nat_lit 6, nat_lit 0, [(nat_lit 4, (.ofNat (nat_lit 0))), (nat_lit 0, (.ofNat (nat_lit 0)))]), (nat_lit 8, nat_lit 0, [(nat_lit 0, (.ofNat (nat_lit 43)))]), (nat_lit 6, nat_lit 1, [(nat_lit 3, (.ofNat (nat_lit 0))), (nat_lit 0, (.ofNat (nat_lit 5)))]), (nat_lit 4, nat_lit 0, [(nat_lit 0, (.ofNat (nat_lit 0))), (nat_lit 0, (.ofNat (nat_lit 8)))]), (nat_lit 6, nat_lit 0, [(nat_lit 2, (.ofNat (nat_lit 0))), (nat_lit 0, (.ofNat (nat_lit 0)))]), (nat_lit 8, nat_lit 3, [(nat_lit 0, (.ofNat (nat_lit 11)))]), (nat_lit 6, nat_lit 0, [(nat_lit 1, (.ofNat (nat_lit 0))), (nat_lit 0, (.ofNat (nat_lit 0)))]), (nat_lit 8, nat_lit 3, [(nat_lit 0, (.ofNat (nat_lit 10)))])],
  [(nat_lit 13, nat_lit 0, [(nat_lit 0, (.ofNat (nat_lit 42)))]), (nat_lit 6, nat_lit 0, [(nat_lit 5, (.ofNat (nat_lit 0))), (nat_lit 0, (.ofNat (nat_lit 0)))]), (nat_lit 8, nat_lit 0, [(nat_lit 0, (.ofNat (nat_lit 45)))]), (nat_lit 6, nat_lit 0, [(nat_lit 4, (.ofNat (nat_lit 0))), (nat_lit 0, (.ofNat (nat_lit 0)))]), (nat_lit 8, nat_lit 0, [(nat_lit 0, (.ofNat (nat_lit 43)))]), (nat_lit 6, nat_lit 1, [(nat_lit 3, (.ofNat (nat_lit 0))), (nat_lit 0, (.ofNat (nat_lit 5)))]), (nat_lit 4, nat_lit 0, [(nat_lit 0, (.ofNat (nat_lit 0))), (nat_lit 0, (.ofNat (nat_lit 8)))]), (nat_lit 6, nat_lit 0, [(nat_lit 2, (.ofNat (nat_lit 0))), (nat_lit 0, (.ofNat (nat_lit 0)))]), (nat_lit 8, nat_lit 3, [(nat_lit 0, (.ofNat (nat_lit 11)))]), (nat_lit 6, nat_lit 0, [(nat_lit 1, (.ofNat (nat_lit 0))), (nat_lit 0, (.ofNat (nat_lit 0)))]), (nat_lit 8, nat_lit 3, [(nat_lit 0, (.ofNat (nat_lit 10)))])],
  [(nat_lit 13, nat_lit 0, [(nat_lit 0, (.ofNat (nat_lit 47)))]), (nat_lit 6, nat_lit 0, [(nat_lit 6, (.ofNat (nat_lit 0))), (nat_lit 0, (.ofNat (nat_lit 0)))]), (nat_lit 8, nat_lit 0, [(nat_lit 0, (.ofNat (nat_lit 42)))]), (nat_lit 6, nat_lit 0, [(nat_lit 5, (.ofNat (nat_lit 0))), (nat_lit 0, (.ofNat (nat_lit 0)))]), (nat_lit 8, nat_lit 0, [(nat_lit 0, (.ofNat (nat_lit 45)))]), (nat_lit 6, nat_lit 0, [(nat_lit 4, (.ofNat (nat_lit 0))), (nat_lit 0, (.ofNat (nat_lit 0)))]), (nat_lit 8, nat_lit 0, [(nat_lit 0, (.ofNat (nat_lit 43)))]), (nat_lit 6, nat_lit 1, [(nat_lit 3, (.ofNat (nat_lit 0))), (nat_lit 0, (.ofNat (nat_lit 5)))]), (nat_lit 4, nat_lit 0, [(nat_lit 0, (.ofNat (nat_lit 0))), (nat_lit 0, (.ofNat (nat_lit 8)))]), (nat_lit 6, nat_lit 0, [(nat_lit 2, (.ofNat (nat_lit 0))), (nat_lit 0, (.ofNat (nat_lit 0)))]), (nat_lit 8, nat_lit 3, [(nat_lit 0, (.ofNat (nat_lit 11)))]), (nat_lit 6, nat_lit 0, [(nat_lit 1, (.ofNat (nat_lit 0))), (nat_lit 0, (.ofNat (nat_lit 0)))]), (nat_lit 8, nat_lit 3, [(nat_lit 0, (.ofNat (nat_lit 10)))])],
  [(nat_lit 10, nat_lit 1, [(nat_lit 0, (.ofNat (nat_lit 0)))]), (nat_lit 6, nat_lit 0, [(nat_lit 7, (.ofNat (nat_lit 0))), (nat_lit 0, (.ofNat (nat_lit 0)))]), (nat_lit 8, nat_lit 0, [(nat_lit 0, (.ofNat (nat_lit 47)))]), (nat_lit 6, nat_lit 0, [(nat_lit 6, (.ofNat (nat_lit 0))), (nat_lit 0, (.ofNat (nat_lit 0)))]), (nat_lit 8, nat_lit 0, [(nat_lit 0, (.ofNat (nat_lit 42)))]), (nat_lit 6, nat_lit 0, [(nat_lit 5, (.ofNat (nat_lit 0))), (nat_lit 0, (.ofNat (nat_lit 0)))]), (nat_lit 8, nat_lit 0, [(nat_lit 0, (.ofNat (nat_lit 45)))]), (nat_lit 6, nat_lit 0, [(nat_lit 4, (.ofNat (nat_lit 0))), (nat_lit 0, (.ofNat (nat_lit 0)))]), (nat_lit 8, nat_lit 0, [(nat_lit 0, (.ofNat (nat_lit 43)))]), (nat_lit 6, nat_lit 1, [(nat_lit 3, (.ofNat (nat_lit 0))), (nat_lit 0, (.ofNat (nat_lit 5)))]), (nat_lit 4, nat_lit 0, [(nat_lit 0, (.ofNat (nat_lit 0))), (nat_lit 0, (.ofNat (nat_lit 8)))]), (nat_lit 6, nat_lit 0, [(nat_lit 2, (.ofNat (nat_lit 0))), (nat_lit 0, (.ofNat (nat_lit 0)))]), (nat_lit 8, nat_lit 3, [(nat_lit 0, (.ofNat (nat_lit 11)))]), (nat_lit 6, nat_lit 0, [(nat_lit 1, (.ofNat (nat_lit 0))), (nat_lit 0, (.ofNat (nat_lit 0)))]), (nat_lit 8, nat_lit 3, [(nat_lit 0, (.ofNat (nat_lit 10)))])],
  [(nat_lit 10, nat_lit 1, [(nat_lit 0, (.ofNat (nat_lit 14)))]), (nat_lit 6, nat_lit 1, [(nat_lit 7, (.ofNat (nat_lit 0))), (nat_lit 0, (.ofNat (nat_lit 0)))]), (nat_lit 8, nat_lit 0, [(nat_lit 0, (.ofNat (nat_lit 47)))]), (nat_lit 6, nat_lit 0, [(nat_lit 6, (.ofNat (nat_lit 0))), (nat_lit 0, (.ofNat (nat_lit 0)))]), (nat_lit 8, nat_lit 0, [(nat_lit 0, (.ofNat (nat_lit 42)))]), (nat_lit 6, nat_lit 0, [(nat_lit 5, (.ofNat (nat_lit 0))), (nat_lit 0, (.ofNat (nat_lit 0)))]), (nat_lit 8, nat_lit 0, [(nat_lit 0, (.ofNat (nat_lit 45)))]), (nat_lit 6, nat_lit 0, [(nat_lit 4, (.ofNat (nat_lit 0))), (nat_lit 0, (.ofNat (nat_lit 0)))]), (nat_lit 8, nat_lit 0, [(nat_lit 0, (.ofNat (nat_lit 43)))]), (nat_lit 6, nat_lit 1, [(nat_lit 3, (.ofNat (nat_lit 0))), (nat_lit 0, (.ofNat (nat_lit 5)))]), (nat_lit 4, nat_lit 0, [(nat_lit 0, (.ofNat (nat_lit 0))), (nat_lit 0, (.ofNat (nat_lit 8)))]), (nat_lit 6, nat_lit 0, [(nat_lit 2, (.ofNat (nat_lit 0))), (nat_lit 0, (.ofNat (nat_lit 0)))]), (nat_lit 8, nat_lit 3, [(nat_lit 0, (.ofNat (nat_lit 11)))]), (nat_lit 6, nat_lit 0, [(nat_lit 1, (.ofNat (nat_lit 0))), (nat_lit 0, (.ofNat (nat_lit 0)))]), (nat_lit 8, nat_lit 3, [(nat_lit 0, (.ofNat (nat_lit 10)))])],
  [(nat_lit 10, nat_lit 1, [(nat_lit 0, (.ofNat (nat_lit 13)))]), (nat_lit 6, nat_lit 1, [(nat_lit 6, (.ofNat (nat_lit 0))), (nat_lit 0, (.ofNat (nat_lit 0)))]), (nat_lit 8, nat_lit 0, [(nat_lit 0, (.ofNat (nat_lit 42)))]), (nat_lit 6, nat_lit 0, [(nat_lit 5, (.ofNat (nat_lit 0))), (nat_lit 0, (.ofNat (nat_lit 0)))]), (nat_lit 8, nat_lit 0, [(nat_lit 0, (.ofNat (nat_lit 45)))]), (nat_lit 6, nat_lit 0, [(nat_lit 4, (.ofNat (nat_lit 0))), (nat_lit 0, (.ofNat (nat_lit 0)))]), (nat_lit 8, nat_lit 0, [(nat_lit 0, (.ofNat (nat_lit 43)))]), (nat_lit 6, nat_lit 1, [(nat_lit 3, (.ofNat (nat_lit 0))), (nat_lit 0, (.ofNat (nat_lit 5)))]), (nat_lit 4, nat_lit 0, [(nat_lit 0, (.ofNat (nat_lit 0))), (nat_lit 0, (.ofNat (nat_lit 8)))]), (nat_lit 6, nat_lit 0, [(nat_lit 2, (.ofNat (nat_lit 0))), (nat_lit 0, (.ofNat (nat_lit 0)))]), (nat_lit 8, nat_lit 3, [(nat_lit 0, (.ofNat (nat_lit 11)))]), (nat_lit 6, nat_lit 0, [(nat_lit 1, (.ofNat (nat_lit 0))), (nat_lit 0, (.ofNat (nat_lit 0)))]), (nat_lit 8, nat_lit 3, [(nat_lit 0, (.ofNat (nat_lit 10)))])],
  [(nat_lit 10, nat_lit 1, [(nat_lit 0, (.ofNat (nat_lit 12)))]), (nat_lit 6, nat_lit 1, [(nat_lit 5, (.ofNat (nat_lit 0))), (nat_lit 0, (.ofNat (nat_lit 0)))]), (nat_lit 8, nat_lit 0, [(nat_lit 0, (.ofNat (nat_lit 45)))]), (nat_lit 6, nat_lit 0, [(nat_lit 4, (.ofNat (nat_lit 0))), (nat_lit 0, (.ofNat (nat_lit 0)))]), (nat_lit 8, nat_lit 0, [(nat_lit 0, (.ofNat (nat_lit 43)))]), (nat_lit 6, nat_lit 1, [(nat_lit 3, (.ofNat (nat_lit 0))), (nat_lit 0, (.ofNat (nat_lit 5)))]), (nat_lit 4, nat_lit 0, [(nat_lit 0, (.ofNat (nat_lit 0))), (nat_lit 0, (.ofNat (nat_lit 8)))]), (nat_lit 6, nat_lit 0, [(nat_lit 2, (.ofNat (nat_lit 0))), (nat_lit 0, (.ofNat (nat_lit 0)))]), (nat_lit 8, nat_lit 3, [(nat_lit 0, (.ofNat (nat_lit 11)))]), (nat_lit 6, nat_lit 0, [(nat_lit 1, (.ofNat (nat_lit 0))), (nat_lit 0, (.ofNat (nat_lit 0)))]), (nat_lit 8, nat_lit 3, [(nat_lit 0, (.ofNat (nat_lit 10)))])],
  [(nat_lit 10, nat_lit 1, [(nat_lit 0, (.ofNat (nat_lit 11)))]), (nat_lit 6, nat_lit 1, [(nat_lit 4, (.ofNat (nat_lit 0))), (nat_lit 0, (.ofNat (nat_lit 0)))]), (nat_lit 8, nat_lit 0, [(nat_lit 0, (.ofNat (nat_lit 43)))]), (nat_lit 6, nat_lit 1, [(nat_lit 3, (.ofNat (nat_lit 0))), (nat_lit 0, (.ofNat (nat_lit 5)))]), (nat_lit 4, nat_lit 0, [(nat_lit 0, (.ofNat (nat_lit 0))), (nat_lit 0, (.ofNat (nat_lit 8)))]), (nat_lit 6, nat_lit 0, [(nat_lit 2, (.ofNat (nat_lit 0))), (nat_lit 0, (.ofNat (nat_lit 0)))]), (nat_lit 8, nat_lit 3, [(nat_lit 0, (.ofNat (nat_lit 11)))]), (nat_lit 6, nat_lit 0, [(nat_lit 1, (.ofNat (nat_lit 0))), (nat_lit 0, (.ofNat (nat_lit 0)))]), (nat_lit 8, nat_lit 3, [(nat_lit 0, (.ofNat (nat_lit 10)))])],
  [(nat_lit 10, nat_lit 1, [(nat_lit 0, (.ofNat (nat_lit 4)))]), (nat_lit 6, nat_lit 1, [(nat_lit 2, (.ofNat (nat_lit 0))), (nat_lit 0, (.ofNat (nat_lit 0)))]), (nat_lit 8, nat_lit 3, [(nat_lit 0, (.ofNat (nat_lit 11)))]), (nat_lit 6, nat_lit 0, [(nat_lit 1, (.ofNat (nat_lit 0))), (nat_lit 0, (.ofNat (nat_lit 0)))]), (nat_lit 8, nat_lit 3, [(nat_lit 0, (.ofNat (nat_lit 10)))])],
  [(nat_lit 10, nat_lit 1, [(nat_lit 0, (.ofNat (nat_lit 3)))]), (nat_lit 6, nat_lit 1, [(nat_lit 1, (.ofNat (nat_lit 0))), (nat_lit 0, (.ofNat (nat_lit 0)))]), (nat_lit 8, nat_lit 3, [(nat_lit 0, (.ofNat (nat_lit 10)))])]]
def zFl_signs_0 : List (List zK) := [[(nat_lit 10, nat_lit 1, [(nat_lit 5, (.ofNat (nat_lit 0)))]), (nat_lit 0, nat_lit 1, [(nat_lit 0, (.ofNat (nat_lit 5))), (nat_lit 4, (.ofNat (nat_lit 0)))]), (nat_lit 4, nat_lit 0, [(nat_lit 0, (.ofNat (nat_lit 0))), (nat_lit 0, (.ofNat (nat_lit 9)))]), (nat_lit 6, nat_lit 0, [(nat_lit 3, (.ofNat (nat_lit 0))), (nat_lit 0, (.ofNat (nat_lit 5)))]), (nat_lit 4, nat_lit 0, [(nat_lit 0, (.ofNat (nat_lit 0))), (nat_lit 0, (.ofNat (nat_lit 8)))]), (nat_lit 6, nat_lit 0, [(nat_lit 2, (.ofNat (nat_lit 0))), (nat_lit 0, (.ofNat (nat_lit 0)))]), (nat_lit 8, nat_lit 3, [(nat_lit 0, (.ofNat (nat_lit 11)))]), (nat_lit 6, nat_lit 0, [(nat_lit 1, (.ofNat (nat_lit 0))), (nat_lit 0, (.ofNat (nat_lit 0)))]), (nat_lit 8, nat_lit 3, [(nat_lit 0, (.ofNat (nat_lit 10)))])]]
def zDl_signs_1 : List (List zK) := [[(nat_lit 7, nat_lit 2, [(nat_lit 2, (.ofNat (nat_lit 0)))]), (nat_lit 8, nat_lit 1, [(nat_lit 0, (.ofNat (nat_lit 1)))]), (nat_lit 6, nat_lit 0, [(nat_lit 1, (.ofNat (nat_lit 0))), (nat_lit 0, (.ofNat (nat_lit 0)))])]]
def zEl_signs_1 : List (List zK) := [[(nat_lit 13, nat_lit 6, [(nat_lit 1, (.ofNat (nat_lit 0)))]), (nat_lit 6, nat_lit 1, [(nat_lit 1, (.ofNat (nat_lit 0))), (nat_lit 0, (.ofNat (nat_lit 0)))])],
  [(nat_lit 13, nat_lit 6, [(nat_lit 1, (.ofNat (nat_lit 0)))]), (nat_lit 6, nat_lit 1, [(nat_lit 2, (.ofNat (nat_lit 0))), (nat_lit 0, (.ofNat (nat_lit 4)))]), (nat_lit 8, nat_lit 6, [(nat_lit 1, (.ofNat (nat_lit 0)))]), (nat_lit 6, nat_lit 1, [(nat_lit 1, (.ofNat (nat_lit 0))), (nat_lit 0, (.ofNat (nat_lit 0)))])],
  [(nat_lit 13, nat_lit 7, [(nat_lit 0, (.ofNat (nat_lit 5)))]), (nat_lit 6, nat_lit 0, [(nat_lit 2, (.ofNat (nat_lit 0))), (nat_lit 0, (.ofNat (nat_lit 4)))]), (nat_lit 8, nat_lit 6, [(nat_lit 1, (.ofNat (nat_lit 0)))]), (nat_lit 6, nat_lit 1, [(nat_lit 1, (.ofNat (nat_lit 0))), (nat_lit 0, (.ofNat (nat_lit 0)))])],
  [(nat_lit 13, nat_lit 1, [(nat_lit 0, (.ofNat (nat_lit 1)))]), (nat_lit 6, nat_lit 0, [(nat_lit 1, (.ofNat (nat_lit 0))), (nat_lit 0, (.ofNat (nat_lit 0)))])],
  [(nat_lit 11, nat_lit 0, [(nat_lit 2, (.ofNat (nat_lit 0)))]), (nat_lit 8, nat_lit 1, [(nat_lit 0, (.ofNat (nat_lit 1)))]), (nat_lit 6, nat_lit 0, [(nat_lit 1, (.ofNat (nat_lit 0))), (nat_lit 0, (.ofNat (nat_lit 0)))])]]
def zFl_signs_1 : List (List zK) := [[(nat_lit 13, nat_lit 7, [(nat_lit 3, (.ofNat (nat_lit 0)))]), (nat_lit 8, nat_lit 6, [(nat_lit 1, (.ofNat (nat_lit 0)))]), (nat_lit 6, nat_lit 1, [(nat_lit 2, (.ofNat (nat_lit 0))), (nat_lit 0, (.ofNat (nat_lit 4)))]), (nat_lit 8, nat_lit 6, [(nat_lit 1, (.ofNat (nat_lit 0)))]), (nat_lit 6, nat_lit 1, [(nat_lit 1, (.ofNat (nat_lit 0))), (nat_lit 0, (.ofNat (nat_lit 0)))])],
  [(nat_lit 10, nat_lit 2, [(nat_lit 1, (.ofNat (nat_lit 0)))]), (nat_lit 8, nat_lit 7, [(nat_lit 3, (.ofNat (nat_lit 0)))]), (nat_lit 8, nat_lit 6, [(nat_lit 1, (.ofNat (nat_lit 0)))]), (nat_lit 6, nat_lit 1, [(nat_lit 2, (.ofNat (nat_lit 0))), (nat_lit 0, (.ofNat (nat_lit 4)))]), (nat_lit 8, nat_lit 6, [(nat_lit 1, (.ofNat (nat_lit 0)))]), (nat_lit 6, nat_lit 1, [(nat_lit 1, (.ofNat (nat_lit 0))), (nat_lit 0, (.ofNat (nat_lit 0)))])],
  [(nat_lit 10, nat_lit 2, [(nat_lit 1, (.ofNat (nat_lit 0)))]), (nat_lit 8, nat_lit 7, [(nat_lit 0, (.ofNat (nat_lit 5)))]), (nat_lit 6, nat_lit 0, [(nat_lit 2, (.ofNat (nat_lit 0))), (nat_lit 0, (.ofNat (nat_lit 4)))]), (nat_lit 8, nat_lit 6, [(nat_lit 1, (.ofNat (nat_lit 0)))]), (nat_lit 6, nat_lit 1, [(nat_lit 1, (.ofNat (nat_lit 0))), (nat_lit 0, (.ofNat (nat_lit 0)))])]]
def zDl_signs_2 : List (List zK) := [[(nat_lit 7, nat_lit 2, [(nat_lit 8, (.ofNat (nat_lit 0)))]), (nat_lit 8, nat_lit 1, [(nat_lit 0, (.ofNat (nat_lit 1)))]), (nat_lit 6, nat_lit 0, [(nat_lit 7, (.ofNat (nat_lit 0))), (nat_lit 0, (.ofNat (nat_lit 4)))]), (nat_lit 8, nat_lit 6, [(nat_lit 6, (.ofNat (nat_lit 0)))]), (nat_lit 4, nat_lit 0, [(nat_lit 22, (.ofNat (nat_lit 0))), (nat_lit 5, (.ofNat (nat_lit 0)))]), (nat_lit 0, nat_lit 2, [(nat_lit 4, (.ofNat (nat_lit 0))), (nat_lit 0, (.ofNat (nat_lit 1)))]), (nat_lit 4, nat_lit 0, [(nat_lit 0, (.ofNat (nat_lit 0))), (nat_lit 0, (.ofNat (nat_lit 41)))]), (nat_lit 6, nat_lit 4, [(nat_lit 3, (.ofNat (nat_lit 0))), (nat_lit 0, (.ofNat (nat_lit 0)))]), (nat_lit 4, nat_lit 0, [(nat_lit 0, (.ofNat (nat_lit 0))), (nat_lit 0, (.ofNat (nat_lit 41)))]), (nat_lit 6, nat_lit 0, [(nat_lit 2, (.ofNat (nat_lit 0))), (nat_lit 0, (.ofNat (nat_lit 4)))]), (nat_lit 8, nat_lit 6, [(nat_lit 1, (.ofNat (nat_lit 0)))])]]
def zEl_signs_2 : List (List zK) := [[(nat_lit 13, nat_lit 6, [(nat_lit 1, (.ofNat (nat_lit 0)))])],
  [(nat_lit 10, nat_lit 3, [(nat_lit 1, (.ofNat (nat_lit 0)))]), (nat_lit 6, nat_lit 1, [(nat_lit 2, (.ofNat (nat_lit 0))), (nat_lit 0, (.ofNat (nat_lit 4)))]), (nat_lit 8, nat_lit 6, [(nat_lit 1, (.ofNat (nat_lit 0)))])],
  [(nat_lit 10, nat_lit 3, [(nat_lit 1, (.ofNat (nat_lit 0)))]), (nat_lit 6, nat_lit 5, [(nat_lit 3, (.ofNat (nat_lit 0))), (nat_lit 0, (.ofNat (nat_lit 0)))]), (nat_lit 4, nat_lit 0, [(nat_lit 0, (.ofNat (nat_lit 0))), (nat_lit 0, (.ofNat (nat_lit 41)))]), (nat_lit 6, nat_lit 0, [(nat_lit 2, (.ofNat (nat_lit 0))), (nat_lit 0, (.ofNat (nat_lit 4)))]), (nat_lit 8, nat_lit 6, [(nat_lit 1, (.ofNat (nat_lit 0)))])],
  [(nat_lit 13, nat_lit 6, [(nat_lit 6, (.ofNat (nat_lit 0)))]), (nat_lit 4, nat_lit 0, [(nat_lit 22, (.ofNat (nat_lit 0))), (nat_lit 5, (.ofNat (nat_lit 0)))]), (nat_lit 0, nat_lit 2, [(nat_lit 4, (.ofNat (nat_lit 0))), (nat_lit 0, (.ofNat (nat_lit 1)))]), (nat_lit 4, nat_lit 0, [(nat_lit 0, (.ofNat (nat_lit 0))), (nat_lit 0, (.ofNat (nat_lit 41)))]), (nat_lit 6, nat_lit 4, [(nat_lit 3, (.ofNat (nat_lit 0))), (nat_lit 0, (.ofNat (nat_lit 0)))]), (nat_lit 4, nat_lit 0, [(nat_lit 0, (.ofNat (nat_lit 0))), (nat_lit 0, (.ofNat (nat_lit 41)))]), (nat_lit 6, nat_lit 0, [(nat_lit 2, (.ofNat (nat_lit 0))), (nat_lit 0, (.ofNat (nat_lit 4)))]), (nat_lit 8, nat_lit 6, [(nat_lit 1, (.ofNat (nat_lit 0)))])],
  [(nat_lit 10, nat_lit 3, [(nat_lit 1, (.ofNat (nat_lit 0)))]), (nat_lit 6, nat_lit 1, [(nat_lit 7, (.ofNat (nat_lit 0))), (nat_lit 0, (.ofNat (nat_lit 4)))]), (nat_lit 8, nat_lit 6, [(nat_lit 6, (.ofNat (nat_lit 0)))]), (nat_lit 4, nat_lit 0, [(nat_lit 22, (.ofNat (nat_lit 0))), (nat_lit 5, (.ofNat (nat_lit 0)))]), (nat_lit 0, nat_lit 2, [(nat_lit 4, (.ofNat (nat_lit 0))), (nat_lit 0, (.ofNat (nat_lit 1)))]), (nat_lit 4, nat_lit 0, [(nat_lit 0, (.ofNat (nat_lit 0))), (nat_lit 0, (.ofNat (nat_lit 41)))]), (nat_lit 6, nat_lit 4, [(nat_lit 3, (.ofNat (nat_lit 0))), (nat_lit 0, (.ofNat (nat_lit 0)))]), (nat_lit 4, nat_lit 0, [(nat_lit 0, (.ofNat (nat_lit 0))), (nat_lit 0, (.ofNat (nat_lit 41)))]), (nat_lit 6, nat_lit 0, [(nat_lit 2, (.ofNat (nat_lit 0))), (nat_lit 0, (.ofNat (nat_lit 4)))]), (nat_lit 8, nat_lit 6, [(nat_lit 1, (.ofNat (nat_lit 0)))])],
  [(nat_lit 13, nat_lit 1, [(nat_lit 0, (.ofNat (nat_lit 1)))]), (nat_lit 6, nat_lit 0, [(nat_lit 7, (.ofNat (nat_lit 0))), (nat_lit 0, (.ofNat (nat_lit 4)))]), (nat_lit 8, nat_lit 6, [(nat_lit 6, (.ofNat (nat_lit 0)))]), (nat_lit 4, nat_lit 0, [(nat_lit 22, (.ofNat (nat_lit 0))), (nat_lit 5, (.ofNat (nat_lit 0)))]), (nat_lit 0, nat_lit 2, [(nat_lit 4, (.ofNat (nat_lit 0))), (nat_lit 0, (.ofNat (nat_lit 1)))]), (nat_lit 4, nat_lit 0, [(nat_lit 0, (.ofNat (nat_lit 0))), (nat_lit 0, (.ofNat (nat_lit 41)))]), (nat_lit 6, nat_lit 4, [(nat_lit 3, (.ofNat (nat_lit 0))), (nat_lit 0, (.ofNat (nat_lit 0)))]), (nat_lit 4, nat_lit 0, [(nat_lit 0, (.ofNat (nat_lit 0))), (nat_lit 0, (.ofNat (nat_lit 41)))]), (nat_lit 6, nat_lit 0, [(nat_lit 2, (.ofNat (nat_lit 0))), (nat_lit 0, (.ofNat (nat_lit 4)))]), (nat_lit 8, nat_lit 6, [(nat_lit 1, (.ofNat (nat_lit 0)))])],
  [(nat_lit 11, nat_lit 0, [(nat_lit 8, (.ofNat (nat_lit 0)))]), (nat_lit 8, nat_lit 1, [(nat_lit 0, (.ofNat (nat_lit 1)))]), (nat_lit 6, nat_lit 0, [(nat_lit 7, (.ofNat (nat_lit 0))), (nat_lit 0, (.ofNat (nat_lit 4)))]), (nat_lit 8, nat_lit 6, [(nat_lit 6, (.ofNat (nat_lit 0)))]), (nat_lit 4, nat_lit 0, [(nat_lit 22, (.ofNat (nat_lit 0))), (nat_lit 5, (.ofNat (nat_lit 0)))]), (nat_lit 0, nat_lit 2, [(nat_lit 4, (.ofNat (nat_lit 0))), (nat_lit 0, (.ofNat (nat_lit 1)))]), (nat_lit 4, nat_lit 0, [(nat_lit 0, (.ofNat (nat_lit 0))), (nat_lit 0, (.ofNat (nat_lit 41)))]), (nat_lit 6, nat_lit 4, [(nat_lit 3, (.ofNat (nat_lit 0))), (nat_lit 0, (.ofNat (nat_lit 0)))]), (nat_lit 4, nat_lit 0, [(nat_lit 0, (.ofNat (nat_lit 0))), (nat_lit 0, (.ofNat (nat_lit 41)))]), (nat_lit 6, nat_lit 0, [(nat_lit 2, (.ofNat (nat_lit 0))), (nat_lit 0, (.ofNat (nat_lit 4)))]), (nat_lit 8, nat_lit 6, [(nat_lit 1, (.ofNat (nat_lit 0)))])]]
def zFl_signs_2 : List (List zK) := [[(nat_lit 7, nat_lit 0, [(nat_lit 5, (.ofNat (nat_lit 0))), (nat_lit 0, (.ofNat (nat_lit 96)))]), (nat_lit 0, nat_lit 2, [(nat_lit 4, (.ofNat (nat_lit 0))), (nat_lit 0, (.ofNat (nat_lit 1)))]), (nat_lit 4, nat_lit 0, [(nat_lit 0, (.ofNat (nat_lit 0))), (nat_lit 0, (.ofNat (nat_lit 41)))]), (nat_lit 6, nat_lit 4, [(nat_lit 3, (.ofNat (nat_lit 0))), (nat_lit 0, (.ofNat (nat_lit 0)))]), (nat_lit 4, nat_lit 0, [(nat_lit 0, (.ofNat (nat_lit 0))), (nat_lit 0, (.ofNat (nat_lit 41)))]), (nat_lit 6, nat_lit 0, [(nat_lit 2, (.ofNat (nat_lit 0))), (nat_lit 0, (.ofNat (nat_lit 4)))]), (nat_lit 8, nat_lit 6, [(nat_lit 1, (.ofNat (nat_lit 0)))])]]
def zDl_signs_3 : List (List zK) := [[(nat_lit 7, nat_lit 2, [(nat_lit 0, (.ofNat (nat_lit 1)))]), (nat_lit 8, nat_lit 5, [(nat_lit 1, (.ofNat (nat_lit 0)))]), (nat_lit 6, nat_lit 1, [(nat_lit 2, (.ofNat (nat_lit 0))), (nat_lit 0, (.ofNat (nat_lit 0)))]), (nat_lit 8, nat_lit 4, [])],
  [(nat_lit 7, nat_lit 2, [(nat_lit 0, (.ofNat (nat_lit 0)))]), (nat_lit 6, nat_lit 3, [(nat_lit 4, (.ofNat (nat_lit 0))), (nat_lit 0, (.ofNat (nat_lit 3)))]), (nat_lit 8, nat_lit 6, [(nat_lit 1, (.ofNat (nat_lit 0)))]), (nat_lit 5, nat_lit 1, [(nat_lit 0, (.ofNat (nat_lit 0))), (nat_lit 0, (.ofNat (nat_lit 45))), (nat_lit 0, (.ofNat (nat_lit 1)))]), (nat_lit 8, nat_lit 5, [(nat_lit 1, (.ofNat (nat_lit 0)))]), (nat_lit 6, nat_lit 1, [(nat_lit 2, (.ofNat (nat_lit 0))), (nat_lit 0, (.ofNat (nat_lit 0)))]), (nat_lit 8, nat_lit 4, [])],
  [(nat_lit 7, nat_lit 2, [(nat_lit 0, (.ofNat (nat_lit 1)))]), (nat_lit 8, nat_lit 2, []), (nat_lit 5, nat_lit 1, [(nat_lit 0, (.ofNat (nat_lit 0))), (nat_lit 0, (.ofNat (nat_lit 46))), (nat_lit 0, (.ofNat (nat_lit 0)))]), (nat_lit 6, nat_lit 3, [(nat_lit 4, (.ofNat (nat_lit 0))), (nat_lit 0, (.ofNat (nat_lit 3)))]), (nat_lit 8, nat_lit 6, [(nat_lit 1, (.ofNat (nat_lit 0)))]), (nat_lit 5, nat_lit 1, [(nat_lit 0, (.ofNat (nat_lit 0))), (nat_lit 0, (.ofNat (nat_lit 45))), (nat_lit 0, (.ofNat (nat_lit 1)))]), (nat_lit 8, nat_lit 5, [(nat_lit 1, (.ofNat (nat_lit 0)))]), (nat_lit 6, nat_lit 1, [(nat_lit 2, (.ofNat (nat_lit 0))), (nat_lit 0, (.ofNat (nat_lit 0)))]), (nat_lit 8, nat_lit 4, [])],
  [(nat_lit 7, nat_lit 2, [(nat_lit 0, (.ofNat (nat_lit 1)))]), (nat_lit 6, nat_lit 2, [(nat_lit 4, (.ofNat (nat_lit 0))), (nat_lit 0, (.ofNat (nat_lit 3)))]), (nat_lit 8, nat_lit 6, [(nat_lit 1, (.ofNat (nat_lit 0)))]), (nat_lit 5, nat_lit 1, [(nat_lit 0, (.ofNat (nat_lit 0))), (nat_lit 0, (.ofNat (nat_lit 45))), (nat_lit 0, (.ofNat (nat_lit 1)))]), (nat_lit 8, nat_lit 5, [(nat_lit 1, (.ofNat (nat_lit 0)))]), (nat_lit 6, nat_lit 1, [(nat_lit 2, (.ofNat (nat_lit 0))), (nat_lit 0, (.ofNat (nat_lit 0)))]), (nat_lit 8, nat_lit 4, [])],
  [(nat_lit 7, nat_lit 2, [(nat_lit 0, (.ofNat (nat_lit 1)))]), (nat_lit 8, nat_lit 2, []), (nat_lit 5, nat_lit 1, [(nat_lit 0, (.ofNat (nat_lit 0))), (nat_lit 0, (.ofNat (nat_lit 46))), (nat_lit 0, (.ofNat (nat_lit 1)))]), (nat_lit 6, nat_lit 2, [(nat_lit 4, (.ofNat (nat_lit 0))), (nat_lit 0, (.ofNat (nat_lit 3)))]), (nat_lit 8, nat_lit 6, [(nat_lit 1, (.ofNat (nat_lit 0)))]), (nat_lit 5, nat_lit 1, [(nat_lit 0, (.ofNat (nat_lit 0))), (nat_lit 0, (.ofNat (nat_lit 45))), (nat_lit 0, (.ofNat (nat_lit 1)))]), (nat_lit 8, nat_lit 5, [(nat_lit 1, (.ofNat (nat_lit 0)))]), (nat_lit 6, nat_lit 1, [(nat_lit 2, (.ofNat (nat_lit 0))), (nat_lit 0, (.ofNat (nat_lit 0)))]), (nat_lit 8, nat_lit 4, [])],
  [(nat_lit 7, nat_lit 2, [(nat_lit 0, (.ofNat (nat_lit 0)))]), (nat_lit 6, nat_lit 0, [(nat_lit 2, (.ofNat (nat_lit 0))), (nat_lit 0, (.ofNat (nat_lit 0)))]), (nat_lit 8, nat_lit 4, [])]]
def zEl_signs_3 : List (List zK) := [[(nat_lit 13, nat_lit 4, [])],
  [(nat_lit 13, nat_lit 5, [(nat_lit 1, (.ofNat (nat_lit 0)))]), (nat_lit 6, nat_lit 1, [(nat_lit 2, (.ofNat (nat_lit 0))), (nat_lit 0, (.ofNat (nat_lit 0)))]), (nat_lit 8, nat_lit 4, [])],
  [(nat_lit 13, nat_lit 6, [(nat_lit 1, (.ofNat (nat_lit 0)))]), (nat_lit 5, nat_lit 1, [(nat_lit 0, (.ofNat (nat_lit 0))), (nat_lit 0, (.ofNat (nat_lit 45))), (nat_lit 0, (.ofNat (nat_lit 1)))]), (nat_lit 8, nat_lit 5, [(nat_lit 1, (.ofNat (nat_lit 0)))]), (nat_lit 6, nat_lit 1, [(nat_lit 2, (.ofNat (nat_lit 0))), (nat_lit 0, (.ofNat (nat_lit 0)))]), (nat_lit 8, nat_lit 4, [])],
  [(nat_lit 13, nat_lit 2, []), (nat_lit 5, nat_lit 1, [(nat_lit 0, (.ofNat (nat_lit 0))), (nat_lit 0, (.ofNat (nat_lit 46))), (nat_lit 0, (.ofNat (nat_lit 0)))]), (nat_lit 6, nat_lit 3, [(nat_lit 4, (.ofNat (nat_lit 0))), (nat_lit 0, (.ofNat (nat_lit 3)))]), (nat_lit 8, nat_lit 6, [(nat_lit 1, (.ofNat (nat_lit 0)))]), (nat_lit 5, nat_lit 1, [(nat_lit 0, (.ofNat (nat_lit 0))), (nat_lit 0, (.ofNat (nat_lit 45))), (nat_lit 0, (.ofNat (nat_lit 1)))]), (nat_lit 8, nat_lit 5, [(nat_lit 1, (.ofNat (nat_lit 0)))]), (nat_lit 6, nat_lit 1, [(nat_lit 2, (.ofNat (nat_lit 0))), (nat_lit 0, (.ofNat (nat_lit 0)))]), (nat_lit 8, nat_lit 4, [])],
  [(nat_lit 11, nat_lit 0, [(nat_lit 0, (.ofNat (nat_lit 1)))]), (nat_lit 8, nat_lit 2, []), (nat_lit 5, nat_lit 1, [(nat_lit 0, (.ofNat (nat_lit 0))), (nat_lit 0, (.ofNat (nat_lit 46))), (nat_lit 0, (.ofNat (nat_lit 0)))]), (nat_lit 6, nat_lit 3, [(nat_lit 4, (.ofNat (nat_lit 0))), (nat_lit 0, (.ofNat (nat_lit 3)))]), (nat_lit 8, nat_lit 6, [(nat_lit 1, (.ofNat (nat_lit 0)))]), (nat_lit 5, nat_lit 1, [(nat_lit 0, (.ofNat (nat_lit 0))), (nat_lit 0, (.ofNat (nat_lit 45))), (nat_lit 0, (.ofNat (nat_lit 1)))]), (nat_lit 8, nat_lit 5, [(nat_lit 1, (.ofNat (nat_lit 0)))]), (nat_lit 6, nat_lit 1, [(nat_lit 2, (.ofNat (nat_lit 0))), (nat_lit 0, (.ofNat (nat_lit 0)))]), (nat_lit 8, nat_lit 4, [])],
  [(nat_lit 13, nat_lit 2, []), (nat_lit 5, nat_lit 1, [(nat_lit 0, (.ofNat (nat_lit 0))), (nat_lit 0, (.ofNat (nat_lit 46))), (nat_lit 0, (.ofNat (nat_lit 1)))]), (nat_lit 6, nat_lit 2, [(nat_lit 4, (.ofNat (nat_lit 0))), (nat_lit 0, (.ofNat (nat_lit 3)))]), (nat_lit 8, nat_lit 6, [(nat_lit 1, (.ofNat (nat_lit 0)))]), (nat_lit 5, nat_lit 1, [(nat_lit 0, (.ofNat (nat_lit 0))), (nat_lit 0, (.ofNat (nat_lit 45))), (nat_lit 0, (.ofNat (nat_lit 1)))]), (nat_lit 8, nat_lit 5, [(nat_lit 1, (.ofNat (nat_lit 0)))]), (nat_lit 6, nat_lit 1, [(nat_lit 2, (.ofNat (nat_lit 0))), (nat_lit 0, (.ofNat (nat_lit 0)))]), (nat_lit 8, nat_lit 4, [])],
  [(nat_lit 11, nat_lit 0, [(nat_lit 0, (.ofNat (nat_lit 1)))]), (nat_lit 8, nat_lit 2, []), (nat_lit 5, nat_lit 1, [(nat_lit 0, (.ofNat (nat_lit 0))), (nat_lit 0, (.ofNat (nat_lit 46))), (nat_lit 0, (.ofNat (nat_lit 1)))]), (nat_lit 6, nat_lit 2, [(nat_lit 4, (.ofNat (nat_lit 0))), (nat_lit 0, (.ofNat (nat_lit 3)))]), (nat_lit 8, nat_lit 6, [(nat_lit 1, (.ofNat (nat_lit 0)))]), (nat_lit 5, nat_lit 1, [(nat_lit 0, (.ofNat (nat_lit 0))), (nat_lit 0, (.ofNat (nat_lit 45))), (nat_lit 0, (.ofNat (nat_lit 1)))]), (nat_lit 8, nat_lit 5, [(nat_lit 1, (.ofNat (nat_lit 0)))]), (nat_lit 6, nat_lit 1, [(nat_lit 2, (.ofNat (nat_lit 0))), (nat_lit 0, (.ofNat (nat_lit 0)))]), (nat_lit 8, nat_lit 4, [])],
  [(nat_lit 11, nat_lit 0, [(nat_lit 0, (.ofNat (nat_lit 0)))]), (nat_lit 6, nat_lit 0, [(nat_lit 2, (.ofNat (nat_lit 0))), (nat_lit 0, (.ofNat (nat_lit 0)))]), (nat_lit 8, nat_lit 4, [])]]
def zFl_signs_3 : List (List zK) := []
set_option maxHeartbeats 8000000 in
theorem zl_signs {ro : Nat → List Int32} : zMet pr_P pr_K pr_df ro (sm_X0 1 6) 2 148 tm_l [(.inr (.inr (.inl (nat_lit 0))))] 2 [(nat_lit 0, nat_lit 0, nat_lit 1), (nat_lit 0, nat_lit 3, nat_lit 2), (nat_lit 0, nat_lit 20, nat_lit 3), (nat_lit 0, nat_lit 21, nat_lit 4), (nat_lit 0, nat_lit 22, nat_lit 5), (nat_lit 0, nat_lit 23, nat_lit 6), (nat_lit 0, nat_lit 24, nat_lit 7), (nat_lit 0, nat_lit 25, nat_lit 8), (nat_lit 0, nat_lit 26, nat_lit 9), (nat_lit 0, nat_lit 27, nat_lit 10), (nat_lit 0, nat_lit 28, nat_lit 11), (nat_lit 0, nat_lit 29, nat_lit 12), (nat_lit 0, nat_lit 30, nat_lit 13), (nat_lit 0, nat_lit 31, nat_lit 14), (nat_lit 0, nat_lit 32, nat_lit 15), (nat_lit 0, nat_lit 33, nat_lit 16), (nat_lit 0, nat_lit 34, nat_lit 17), (nat_lit 0, nat_lit 35, nat_lit 18), (nat_lit 0, nat_lit 36, nat_lit 19), (nat_lit 0, nat_lit 37, nat_lit 20), (nat_lit 0, nat_lit 38, nat_lit 21), (nat_lit 0, nat_lit 39, nat_lit 22), (nat_lit 0, nat_lit 40, nat_lit 23), (nat_lit 0, nat_lit 47, nat_lit 24), (nat_lit 0, nat_lit 48, nat_lit 25), (nat_lit 0, nat_lit 50, nat_lit 26), (nat_lit 0, nat_lit 51, nat_lit 27), (nat_lit 0, nat_lit 52, nat_lit 28), (nat_lit 0, nat_lit 53, nat_lit 29), (nat_lit 0, nat_lit 54, nat_lit 30), (nat_lit 0, nat_lit 55, nat_lit 31), (nat_lit 0, nat_lit 56, nat_lit 32), (nat_lit 0, nat_lit 57, nat_lit 33), (nat_lit 0, nat_lit 58, nat_lit 34), (nat_lit 0, nat_lit 59, nat_lit 35), (nat_lit 0, nat_lit 72, nat_lit 36), (nat_lit 0, nat_lit 73, nat_lit 37), (nat_lit 0, nat_lit 76, nat_lit 38), (nat_lit 0, nat_lit 77, nat_lit 39), (nat_lit 0, nat_lit 79, nat_lit 40), (nat_lit 0, nat_lit 81, nat_lit 41), (nat_lit 0, nat_lit 82, nat_lit 42)] [] (fun xs η => sP wl_l zTr zPl_signs xs η ∧ pPl_signs xs η) (fun xs η y η' => sQ wl_l zTr zOl_signs zMl_signs xs η y η' ∧ pQl_signs xs η y η') :=
  zmet_alt (zmea_gen (mi := (nat_lit 0, nat_lit 1, nat_lit 8, nat_lit 2, nat_lit 2, tX8_signs)) (cd := [(nat_lit 126, nat_lit 0, nat_lit 0, [(.inr (.inr (.inl (nat_lit 0)))), (.inl (nat_lit 1, (.ofNat (nat_lit 0))))], nat_lit 2, [(nat_lit 0, nat_lit 0, nat_lit 1), (nat_lit 0, nat_lit 3, nat_lit 2), (nat_lit 0, nat_lit 20, nat_lit 3), (nat_lit 0, nat_lit 21, nat_lit 4), (nat_lit 0, nat_lit 22, nat_lit 5), (nat_lit 0, nat_lit 23, nat_lit 6), (nat_lit 0, nat_lit 24, nat_lit 7), (nat_lit 0, nat_lit 25, nat_lit 8), (nat_lit 0, nat_lit 26, nat_lit 9), (nat_lit 0, nat_lit 27, nat_lit 10), (nat_lit 0, nat_lit 28, nat_lit 11), (nat_lit 0, nat_lit 29, nat_lit 12), (nat_lit 0, nat_lit 30, nat_lit 13), (nat_lit 0, nat_lit 31, nat_lit 14), (nat_lit 0, nat_lit 32, nat_lit 15), (nat_lit 0, nat_lit 33, nat_lit 16), (nat_lit 0, nat_lit 34, nat_lit 17), (nat_lit 0, nat_lit 35, nat_lit 18), (nat_lit 0, nat_lit 36, nat_lit 19), (nat_lit 0, nat_lit 37, nat_lit 20), (nat_lit 0, nat_lit 38, nat_lit 21), (nat_lit 0, nat_lit 39, nat_lit 22), (nat_lit 0, nat_lit 40, nat_lit 23), (nat_lit 0, nat_lit 47, nat_lit 24), (nat_lit 0, nat_lit 48, nat_lit 25), (nat_lit 0, nat_lit 50, nat_lit 26), (nat_lit 0, nat_lit 51, nat_lit 27), (nat_lit 0, nat_lit 52, nat_lit 28), (nat_lit 0, nat_lit 53, nat_lit 29), (nat_lit 0, nat_lit 54, nat_lit 30), (nat_lit 0, nat_lit 55, nat_lit 31), (nat_lit 0, nat_lit 56, nat_lit 32), (nat_lit 0, nat_lit 57, nat_lit 33), (nat_lit 0, nat_lit 58, nat_lit 34), (nat_lit 0, nat_lit 59, nat_lit 35), (nat_lit 0, nat_lit 72, nat_lit 36), (nat_lit 0, nat_lit 73, nat_lit 37), (nat_lit 0, nat_lit 76, nat_lit 38), (nat_lit 0, nat_lit 77, nat_lit 39), (nat_lit 0, nat_lit 79, nat_lit 40), (nat_lit 0, nat_lit 81, nat_lit 41), (nat_lit 0, nat_lit 82, nat_lit 42)], []), (nat_lit 118, nat_lit 1, nat_lit 0, [(.inr (.inr (.inl (nat_lit 0)))), (.inl (nat_lit 1, (.ofNat (nat_lit 0))))], nat_lit 2, [(nat_lit 0, nat_lit 0, nat_lit 1), (nat_lit 0, nat_lit 3, nat_lit 2), (nat_lit 0, nat_lit 20, nat_lit 3), (nat_lit 0, nat_lit 21, nat_lit 4), (nat_lit 0, nat_lit 22, nat_lit 5), (nat_lit 0, nat_lit 23, nat_lit 6), (nat_lit 0, nat_lit 24, nat_lit 7), (nat_lit 0, nat_lit 25, nat_lit 8), (nat_lit 0, nat_lit 26, nat_lit 9), (nat_lit 0, nat_lit 27, nat_lit 10), (nat_lit 0, nat_lit 28, nat_lit 11), (nat_lit 0, nat_lit 29, nat_lit 12), (nat_lit 0, nat_lit 30, nat_lit 13), (nat_lit 0, nat_lit 31, nat_lit 14), (nat_lit 0, nat_lit 32, nat_lit 15), (nat_lit 0, nat_lit 33, nat_lit 16), (nat_lit 0, nat_lit 34, nat_lit 17), (nat_lit 0, nat_lit 35, nat_lit 18), (nat_lit 0, nat_lit 36, nat_lit 19), (nat_lit 0, nat_lit 37, nat_lit 20), (nat_lit 0, nat_lit 38, nat_lit 21), (nat_lit 0, nat_lit 39, nat_lit 22), (nat_lit 0, nat_lit 40, nat_lit 23), (nat_lit 0, nat_lit 47, nat_lit 24), (nat_lit 0, nat_lit 48, nat_lit 25), (nat_lit 0, nat_lit 50, nat_lit 26), (nat_lit 0, nat_lit 51, nat_lit 27), (nat_lit 0, nat_lit 52, nat_lit 28), (nat_lit 0, nat_lit 53, nat_lit 29), (nat_lit 0, nat_lit 54, nat_lit 30), (nat_lit 0, nat_lit 55, nat_lit 31), (nat_lit 0, nat_lit 56, nat_lit 32), (nat_lit 0, nat_lit 57, nat_lit 33), (nat_lit 0, nat_lit 58, nat_lit 34), (nat_lit 0, nat_lit 59, nat_lit 35), (nat_lit 0, nat_lit 72, nat_lit 36), (nat_lit 0, nat_lit 73, nat_lit 37), (nat_lit 0, nat_lit 76, nat_lit 38), (nat_lit 0, nat_lit 77, nat_lit 39), (nat_lit 0, nat_lit 79, nat_lit 40), (nat_lit 0, nat_lit 81, nat_lit 41), (nat_lit 0, nat_lit 82, nat_lit 42)], []), (nat_lit 122, nat_lit 2, nat_lit 1, [(.inr (.inr (.inl (nat_lit 0))))], nat_lit 0, [(nat_lit 0, nat_lit 0, nat_lit 1), (nat_lit 0, nat_lit 3, nat_lit 2), (nat_lit 0, nat_lit 20, nat_lit 3), (nat_lit 0, nat_lit 21, nat_lit 4), (nat_lit 0, nat_lit 22, nat_lit 5), (nat_lit 0, nat_lit 23, nat_lit 6), (nat_lit 0, nat_lit 24, nat_lit 7), (nat_lit 0, nat_lit 25, nat_lit 8), (nat_lit 0, nat_lit 26, nat_lit 9), (nat_lit 0, nat_lit 27, nat_lit 10), (nat_lit 0, nat_lit 28, nat_lit 11), (nat_lit 0, nat_lit 29, nat_lit 12), (nat_lit 0, nat_lit 30, nat_lit 13), (nat_lit 0, nat_lit 31, nat_lit 14), (nat_lit 0, nat_lit 32, nat_lit 15), (nat_lit 0, nat_lit 33, nat_lit 16), (nat_lit 0, nat_lit 34, nat_lit 17), (nat_lit 0, nat_lit 35, nat_lit 18), (nat_lit 0, nat_lit 36, nat_lit 19), (nat_lit 0, nat_lit 37, nat_lit 20), (nat_lit 0, nat_lit 38, nat_lit 21), (nat_lit 0, nat_lit 39, nat_lit 22), (nat_lit 0, nat_lit 40, nat_lit 23), (nat_lit 0, nat_lit 47, nat_lit 24), (nat_lit 0, nat_lit 48, nat_lit 25), (nat_lit 0, nat_lit 50, nat_lit 26), (nat_lit 0, nat_lit 51, nat_lit 27), (nat_lit 0, nat_lit 52, nat_lit 28), (nat_lit 0, nat_lit 53, nat_lit 29), (nat_lit 0, nat_lit 54, nat_lit 30), (nat_lit 0, nat_lit 55, nat_lit 31), (nat_lit 0, nat_lit 56, nat_lit 32), (nat_lit 0, nat_lit 57, nat_lit 33), (nat_lit 0, nat_lit 58, nat_lit 34), (nat_lit 0, nat_lit 59, nat_lit 35), (nat_lit 0, nat_lit 72, nat_lit 36), (nat_lit 0, nat_lit 73, nat_lit 37), (nat_lit 0, nat_lit 76, nat_lit 38), (nat_lit 0, nat_lit 77, nat_lit 39), (nat_lit 0, nat_lit 79, nat_lit 40), (nat_lit 0, nat_lit 81, nat_lit 41), (nat_lit 0, nat_lit 82, nat_lit 42)], []), (nat_lit 125, nat_lit 3, nat_lit 0, [(.inr (.inr (.inl (nat_lit 0)))), (.inl (nat_lit 1, (.ofNat (nat_lit 0))))], nat_lit 2, [(nat_lit 0, nat_lit 0, nat_lit 1), (nat_lit 0, nat_lit 3, nat_lit 2), (nat_lit 0, nat_lit 20, nat_lit 3), (nat_lit 0, nat_lit 21, nat_lit 4), (nat_lit 0, nat_lit 22, nat_lit 5), (nat_lit 0, nat_lit 23, nat_lit 6), (nat_lit 0, nat_lit 24, nat_lit 7), (nat_lit 0, nat_lit 25, nat_lit 8), (nat_lit 0, nat_lit 26, nat_lit 9), (nat_lit 0, nat_lit 27, nat_lit 10), (nat_lit 0, nat_lit 28, nat_lit 11), (nat_lit 0, nat_lit 29, nat_lit 12), (nat_lit 0, nat_lit 30, nat_lit 13), (nat_lit 0, nat_lit 31, nat_lit 14), (nat_lit 0, nat_lit 32, nat_lit 15), (nat_lit 0, nat_lit 33, nat_lit 16), (nat_lit 0, nat_lit 34, nat_lit 17), (nat_lit 0, nat_lit 35, nat_lit 18), (nat_lit 0, nat_lit 36, nat_lit 19), (nat_lit 0, nat_lit 37, nat_lit 20), (nat_lit 0, nat_lit 38, nat_lit 21), (nat_lit 0, nat_lit 39, nat_lit 22), (nat_lit 0, nat_lit 40, nat_lit 23), (nat_lit 0, nat_lit 47, nat_lit 24), (nat_lit 0, nat_lit 48, nat_lit 25), (nat_lit 0, nat_lit 50, nat_lit 26), (nat_lit 0, nat_lit 51, nat_lit 27), (nat_lit 0, nat_lit 52, nat_lit 28), (nat_lit 0, nat_lit 53, nat_lit 29), (nat_lit 0, nat_lit 54, nat_lit 30), (nat_lit 0, nat_lit 55, nat_lit 31), (nat_lit 0, nat_lit 56, nat_lit 32), (nat_lit 0, nat_lit 57, nat_lit 33), (nat_lit 0, nat_lit 58, nat_lit 34), (nat_lit 0, nat_lit 59, nat_lit 35), (nat_lit 0, nat_lit 72, nat_lit 36), (nat_lit 0, nat_lit 73, nat_lit 37), (nat_lit 0, nat_lit 76, nat_lit 38), (nat_lit 0, nat_lit 77, nat_lit 39), (nat_lit 0, nat_lit 79, nat_lit 40), (nat_lit 0, nat_lit 81, nat_lit 41), (nat_lit 0, nat_lit 82, nat_lit 42)], []), (nat_lit 144, nat_lit 4, nat_lit 1, [(.inr (.inr (.inl (nat_lit 0))))], nat_lit 2, [(nat_lit 0, nat_lit 0, nat_lit 1), (nat_lit 0, nat_lit 3, nat_lit 2), (nat_lit 0, nat_lit 20, nat_lit 3), (nat_lit 0, nat_lit 21, nat_lit 4), (nat_lit 0, nat_lit 22, nat_lit 5), (nat_lit 0, nat_lit 23, nat_lit 6), (nat_lit 0, nat_lit 24, nat_lit 7), (nat_lit 0, nat_lit 25, nat_lit 8), (nat_lit 0, nat_lit 26, nat_lit 9), (nat_lit 0, nat_lit 27, nat_lit 10), (nat_lit 0, nat_lit 28, nat_lit 11), (nat_lit 0, nat_lit 29, nat_lit 12), (nat_lit 0, nat_lit 30, nat_lit 13), (nat_lit 0, nat_lit 31, nat_lit 14), (nat_lit 0, nat_lit 32, nat_lit 15), (nat_lit 0, nat_lit 33, nat_lit 16), (nat_lit 0, nat_lit 34, nat_lit 17), (nat_lit 0, nat_lit 35, nat_lit 18), (nat_lit 0, nat_lit 36, nat_lit 19), (nat_lit 0, nat_lit 37, nat_lit 20), (nat_lit 0, nat_lit 38, nat_lit 21), (nat_lit 0, nat_lit 39, nat_lit 22), (nat_lit 0, nat_lit 40, nat_lit 23), (nat_lit 0, nat_lit 47, nat_lit 24), (nat_lit 0, nat_lit 48, nat_lit 25), (nat_lit 0, nat_lit 50, nat_lit 26), (nat_lit 0, nat_lit 51, nat_lit 27), (nat_lit 0, nat_lit 52, nat_lit 28), (nat_lit 0, nat_lit 53, nat_lit 29), (nat_lit 0, nat_lit 54, nat_lit 30), (nat_lit 0, nat_lit 55, nat_lit 31), (nat_lit 0, nat_lit 56, nat_lit 32), (nat_lit 0, nat_lit 57, nat_lit 33), (nat_lit 0, nat_lit 58, nat_lit 34), (nat_lit 0, nat_lit 59, nat_lit 35), (nat_lit 0, nat_lit 72, nat_lit 36), (nat_lit 0, nat_lit 73, nat_lit 37), (nat_lit 0, nat_lit 76, nat_lit 38), (nat_lit 0, nat_lit 77, nat_lit 39), (nat_lit 0, nat_lit 79, nat_lit 40), (nat_lit 0, nat_lit 81, nat_lit 41), (nat_lit 0, nat_lit 82, nat_lit 42)], []), (nat_lit 145, nat_lit 5, nat_lit 0, [(.inr (.inr (.inl (nat_lit 0)))), (.inl (nat_lit 1, (.ofNat (nat_lit 0))))], nat_lit 0, [(nat_lit 0, nat_lit 0, nat_lit 1), (nat_lit 0, nat_lit 3, nat_lit 2), (nat_lit 0, nat_lit 20, nat_lit 3), (nat_lit 0, nat_lit 21, nat_lit 4), (nat_lit 0, nat_lit 22, nat_lit 5), (nat_lit 0, nat_lit 23, nat_lit 6), (nat_lit 0, nat_lit 24, nat_lit 7), (nat_lit 0, nat_lit 25, nat_lit 8), (nat_lit 0, nat_lit 26, nat_lit 9), (nat_lit 0, nat_lit 27, nat_lit 10), (nat_lit 0, nat_lit 28, nat_lit 11), (nat_lit 0, nat_lit 29, nat_lit 12), (nat_lit 0, nat_lit 30, nat_lit 13), (nat_lit 0, nat_lit 31, nat_lit 14), (nat_lit 0, nat_lit 32, nat_lit 15), (nat_lit 0, nat_lit 33, nat_lit 16), (nat_lit 0, nat_lit 34, nat_lit 17), (nat_lit 0, nat_lit 35, nat_lit 18), (nat_lit 0, nat_lit 36, nat_lit 19), (nat_lit 0, nat_lit 37, nat_lit 20), (nat_lit 0, nat_lit 38, nat_lit 21), (nat_lit 0, nat_lit 39, nat_lit 22), (nat_lit 0, nat_lit 40, nat_lit 23), (nat_lit 0, nat_lit 47, nat_lit 24), (nat_lit 0, nat_lit 48, nat_lit 25), (nat_lit 0, nat_lit 50, nat_lit 26), (nat_lit 0, nat_lit 51, nat_lit 27), (nat_lit 0, nat_lit 52, nat_lit 28), (nat_lit 0, nat_lit 53, nat_lit 29), (nat_lit 0, nat_lit 54, nat_lit 30), (nat_lit 0, nat_lit 55, nat_lit 31), (nat_lit 0, nat_lit 56, nat_lit 32), (nat_lit 0, nat_lit 57, nat_lit 33), (nat_lit 0, nat_lit 58, nat_lit 34), (nat_lit 0, nat_lit 59, nat_lit 35), (nat_lit 0, nat_lit 72, nat_lit 36), (nat_lit 0, nat_lit 73, nat_lit 37), (nat_lit 0, nat_lit 76, nat_lit 38), (nat_lit 0, nat_lit 77, nat_lit 39), (nat_lit 0, nat_lit 79, nat_lit 40), (nat_lit 0, nat_lit 81, nat_lit 41), (nat_lit 0, nat_lit 82, nat_lit 42)], []), (nat_lit 140, nat_lit 6, nat_lit 0, [(.inl (nat_lit 1, (.ofNat (nat_lit 0))))], nat_lit 1, [(nat_lit 0, nat_lit 0, nat_lit 1), (nat_lit 0, nat_lit 3, nat_lit 2), (nat_lit 0, nat_lit 20, nat_lit 3), (nat_lit 0, nat_lit 21, nat_lit 4), (nat_lit 0, nat_lit 22, nat_lit 5), (nat_lit 0, nat_lit 23, nat_lit 6), (nat_lit 0, nat_lit 24, nat_lit 7), (nat_lit 0, nat_lit 25, nat_lit 8), (nat_lit 0, nat_lit 26, nat_lit 9), (nat_lit 0, nat_lit 27, nat_lit 10), (nat_lit 0, nat_lit 28, nat_lit 11), (nat_lit 0, nat_lit 29, nat_lit 12), (nat_lit 0, nat_lit 30, nat_lit 13), (nat_lit 0, nat_lit 31, nat_lit 14), (nat_lit 0, nat_lit 32, nat_lit 15), (nat_lit 0, nat_lit 33, nat_lit 16), (nat_lit 0, nat_lit 34, nat_lit 17), (nat_lit 0, nat_lit 35, nat_lit 18), (nat_lit 0, nat_lit 36, nat_lit 19), (nat_lit 0, nat_lit 37, nat_lit 20), (nat_lit 0, nat_lit 38, nat_lit 21), (nat_lit 0, nat_lit 39, nat_lit 22), (nat_lit 0, nat_lit 40, nat_lit 23), (nat_lit 0, nat_lit 47, nat_lit 24), (nat_lit 0, nat_lit 48, nat_lit 25), (nat_lit 0, nat_lit 50, nat_lit 26), (nat_lit 0, nat_lit 51, nat_lit 27), (nat_lit 0, nat_lit 52, nat_lit 28), (nat_lit 0, nat_lit 53, nat_lit 29), (nat_lit 0, nat_lit 54, nat_lit 30), (nat_lit 0, nat_lit 55, nat_lit 31), (nat_lit 0, nat_lit 56, nat_lit 32), (nat_lit 0, nat_lit 57, nat_lit 33), (nat_lit 0, nat_lit 58, nat_lit 34), (nat_lit 0, nat_lit 59, nat_lit 35), (nat_lit 0, nat_lit 72, nat_lit 36), (nat_lit 0, nat_lit 73, nat_lit 37), (nat_lit 0, nat_lit 76, nat_lit 38), (nat_lit 0, nat_lit 77, nat_lit 39), (nat_lit 0, nat_lit 79, nat_lit 40), (nat_lit 0, nat_lit 81, nat_lit 41), (nat_lit 0, nat_lit 82, nat_lit 42)], []), (nat_lit 143, nat_lit 7, nat_lit 1, [(.inr (.inr (.inl (nat_lit 0)))), (.inl (nat_lit 1, (.ofNat (nat_lit 0))))], nat_lit 0, [(nat_lit 0, nat_lit 0, nat_lit 1), (nat_lit 0, nat_lit 3, nat_lit 2), (nat_lit 0, nat_lit 20, nat_lit 3), (nat_lit 0, nat_lit 21, nat_lit 4), (nat_lit 0, nat_lit 22, nat_lit 5), (nat_lit 0, nat_lit 23, nat_lit 6), (nat_lit 0, nat_lit 24, nat_lit 7), (nat_lit 0, nat_lit 25, nat_lit 8), (nat_lit 0, nat_lit 26, nat_lit 9), (nat_lit 0, nat_lit 27, nat_lit 10), (nat_lit 0, nat_lit 28, nat_lit 11), (nat_lit 0, nat_lit 29, nat_lit 12), (nat_lit 0, nat_lit 30, nat_lit 13), (nat_lit 0, nat_lit 31, nat_lit 14), (nat_lit 0, nat_lit 32, nat_lit 15), (nat_lit 0, nat_lit 33, nat_lit 16), (nat_lit 0, nat_lit 34, nat_lit 17), (nat_lit 0, nat_lit 35, nat_lit 18), (nat_lit 0, nat_lit 36, nat_lit 19), (nat_lit 0, nat_lit 37, nat_lit 20), (nat_lit 0, nat_lit 38, nat_lit 21), (nat_lit 0, nat_lit 39, nat_lit 22), (nat_lit 0, nat_lit 40, nat_lit 23), (nat_lit 0, nat_lit 47, nat_lit 24), (nat_lit 0, nat_lit 48, nat_lit 25), (nat_lit 0, nat_lit 50, nat_lit 26), (nat_lit 0, nat_lit 51, nat_lit 27), (nat_lit 0, nat_lit 52, nat_lit 28), (nat_lit 0, nat_lit 53, nat_lit 29), (nat_lit 0, nat_lit 54, nat_lit 30), (nat_lit 0, nat_lit 55, nat_lit 31), (nat_lit 0, nat_lit 56, nat_lit 32), (nat_lit 0, nat_lit 57, nat_lit 33), (nat_lit 0, nat_lit 58, nat_lit 34), (nat_lit 0, nat_lit 59, nat_lit 35), (nat_lit 0, nat_lit 72, nat_lit 36), (nat_lit 0, nat_lit 73, nat_lit 37), (nat_lit 0, nat_lit 76, nat_lit 38), (nat_lit 0, nat_lit 77, nat_lit 39), (nat_lit 0, nat_lit 79, nat_lit 40), (nat_lit 0, nat_lit 81, nat_lit 41), (nat_lit 0, nat_lit 82, nat_lit 42)], [])]) (cu := zUl_signs) (cs := [(nat_lit 0, zPl_isSign, zOl_isSign, zMl_isSign), (nat_lit 1, zPl_wrong, zOl_wrong, zMl_wrong), (nat_lit 2, zPl_token, zOl_token, zMl_token), (nat_lit 3, zPl_isKey, zOl_isKey, zMl_isKey), (nat_lit 4, zPl_isCounted, zOl_isCounted, zMl_isCounted), (nat_lit 5, zPl_waitsFor, zOl_waitsFor, zMl_waitsFor), (nat_lit 6, zPl_rank, zOl_rank, zMl_rank), (nat_lit 7, zPl_bind, zOl_bind, zMl_bind)]) (iv := zVl_signs) (po := [zOl_signs]) (pr := zPl_signs) (mods := zMl_signs) (D7 := zDl_signs) (D0 := zEl_signs) (Dm := zFl_signs) (f0 := 30) pCl_signs qCl_signs iCl_signs pPl_signs (fun xs η _ y η' => pQl_signs xs η y η') zX_low pr_mtR rfl (List.forall_mem_cons.mpr ⟨zl_isSign, List.forall_mem_cons.mpr ⟨zl_wrong, List.forall_mem_cons.mpr ⟨zl_token, List.forall_mem_cons.mpr ⟨zl_isKey, List.forall_mem_cons.mpr ⟨zl_isCounted, List.forall_mem_cons.mpr ⟨zl_waitsFor, List.forall_mem_cons.mpr ⟨zl_rank, List.forall_mem_cons.mpr ⟨zl_bind, fun _ h => nomatch h⟩⟩⟩⟩⟩⟩⟩⟩) (by decide +kernel) (by decide +kernel) (by decide +kernel)
    (by
      intro xs η hr hl hp hpp
      match xs, hl, hp, hpp with
      | [], _, hp, hpp =>
        refine List.forall_mem_cons.mpr ⟨?_, List.forall_mem_cons.mpr ⟨?_, List.forall_mem_cons.mpr ⟨?_, List.forall_mem_cons.mpr ⟨?_, List.forall_mem_cons.mpr ⟨?_, List.forall_mem_cons.mpr ⟨?_, fun _ h => nomatch h⟩⟩⟩⟩⟩⟩
        · show ((gC2 wl_l [(nat_lit 0, zPl_isSign, zOl_isSign, zMl_isSign), (nat_lit 1, zPl_wrong, zOl_wrong, zMl_wrong), (nat_lit 2, zPl_token, zOl_token, zMl_token), (nat_lit 3, zPl_isKey, zOl_isKey, zMl_isKey), (nat_lit 4, zPl_isCounted, zOl_isCounted, zMl_isCounted), (nat_lit 5, zPl_waitsFor, zOl_waitsFor, zMl_waitsFor), (nat_lit 6, zPl_rank, zOl_rank, zMl_rank), (nat_lit 7, zPl_bind, zOl_bind, zMl_bind)] pCl_signs qCl_signs) 0).1 [41] η
          have hw : η 0 45 = 0 := hpp.2.1
          have hr1 : 1 ≤ η 0 19 := hpp.2.2
          have bd43 : (0 : Int) ≤ η 0 43 ∧ η 0 43 ≤ 8 := wf_ok (a := 43) (b := 43) (z := (0, 8)) hp.1 (by decide +kernel) (Nat.le_refl _) (Nat.le_refl _)
          have bd44 : (0 : Int) ≤ η 0 44 ∧ η 0 44 ≤ 64 := wf_ok (a := 44) (b := 44) (z := (0, 64)) hp.1 (by decide +kernel) (Nat.le_refl _) (Nat.le_refl _)
          have bd19 : (0 : Int) ≤ η 0 19 ∧ η 0 19 ≤ 64 := wf_ok (a := 19) (b := 19) (z := (0, 64)) hp.1 (by decide +kernel) (Nat.le_refl _) (Nat.le_refl _)
          have fmE : zFm zMl_signs η η := zFm_rf
          have fr22_0 : ∀ j, η 22 j = η 22 j := fun _ => rfl
          have fr22 : ∀ j, η 22 j = η 22 j := fun _ => rfl
          have f0_41 : η 0 41 = η 0 41 := rfl
          have w0_0_43 : (0 : Int) ≤ η 0 43 ∧ η 0 43 ≤ 8 := wf_ok (a := 43) (b := 43) (z := (0, 8)) hp.1 (by decide +kernel) (Nat.le_refl _) (Nat.le_refl _)
          have f0_43 : η 0 43 = η 0 43 := rfl
          have f0_42 : η 0 42 = η 0 42 := rfl
          have f0_45 : η 0 45 = η 0 45 := rfl
          have w0_0_19 : (0 : Int) ≤ η 0 19 ∧ η 0 19 ≤ 64 := wf_ok (a := 19) (b := 19) (z := (0, 64)) hp.1 (by decide +kernel) (Nat.le_refl _) (Nat.le_refl _)
          have f0_19 : η 0 19 = η 0 19 := rfl
          have w0_0_44 : (0 : Int) ≤ η 0 44 ∧ η 0 44 ≤ 64 := wf_ok (a := 44) (b := 44) (z := (0, 64)) hp.1 (by decide +kernel) (Nat.le_refl _) (Nat.le_refl _)
          have f0_44 : η 0 44 = η 0 44 := rfl
          have w0_0_7 : (0 : Int) ≤ η 0 7 ∧ η 0 7 ≤ 700 := wf_ok (a := 7) (b := 7) (z := (0, 700)) hp.1 (by decide +kernel) (Nat.le_refl _) (Nat.le_refl _)
          have f0_7 : η 0 7 = η 0 7 := rfl
          have w0_0_6 : (0 : Int) ≤ η 0 6 ∧ η 0 6 ≤ 700 := wf_ok (a := 6) (b := 6) (z := (0, 700)) hp.1 (by decide +kernel) (Nat.le_refl _) (Nat.le_refl _)
          have f0_6 : η 0 6 = η 0 6 := rfl
          have w0_0_8 : (0 : Int) ≤ η 0 8 ∧ η 0 8 ≤ 6 := wf_ok (a := 8) (b := 8) (z := (0, 6)) hp.1 (by decide +kernel) (Nat.le_refl _) (Nat.le_refl _)
          have f0_8 : η 0 8 = η 0 8 := rfl
          have wbE : wB wl_l zTr η := hp.1
          have I0 : H_l 0 0 0 η := hpp.1
          exact I0
        · show ∀ (x1 : Int) (η1 : zE), ((gC2 wl_l [(nat_lit 0, zPl_isSign, zOl_isSign, zMl_isSign), (nat_lit 1, zPl_wrong, zOl_wrong, zMl_wrong), (nat_lit 2, zPl_token, zOl_token, zMl_token), (nat_lit 3, zPl_isKey, zOl_isKey, zMl_isKey), (nat_lit 4, zPl_isCounted, zOl_isCounted, zMl_isCounted), (nat_lit 5, zPl_waitsFor, zOl_waitsFor, zMl_waitsFor), (nat_lit 6, zPl_rank, zOl_rank, zMl_rank), (nat_lit 7, zPl_bind, zOl_bind, zMl_bind)] pCl_signs qCl_signs) 0).2 [41] η x1 η1 → (x1 = 0) → (iCl_signs [] η) 0 [] η1
          have hw : η 0 45 = 0 := hpp.2.1
          have hr1 : 1 ≤ η 0 19 := hpp.2.2
          have bd43 : (0 : Int) ≤ η 0 43 ∧ η 0 43 ≤ 8 := wf_ok (a := 43) (b := 43) (z := (0, 8)) hp.1 (by decide +kernel) (Nat.le_refl _) (Nat.le_refl _)
          have bd44 : (0 : Int) ≤ η 0 44 ∧ η 0 44 ≤ 64 := wf_ok (a := 44) (b := 44) (z := (0, 64)) hp.1 (by decide +kernel) (Nat.le_refl _) (Nat.le_refl _)
          have bd19 : (0 : Int) ≤ η 0 19 ∧ η 0 19 ≤ 64 := wf_ok (a := 19) (b := 19) (z := (0, 64)) hp.1 (by decide +kernel) (Nat.le_refl _) (Nat.le_refl _)
          intro x1 η1 h1 c1
          have k1 : sQ wl_l zTr zOl_isSign zMl_isSign [41] η x1 η1 ∧ pQl_isSign [41] η x1 η1 := h1
          have c0_0_41 : η 0 41 = η 0 41 := rfl
          have w0_0_43 : (0 : Int) ≤ η 0 43 ∧ η 0 43 ≤ 8 := wf_ok (a := 43) (b := 43) (z := (0, 8)) hp.1 (by decide +kernel) (Nat.le_refl _) (Nat.le_refl _)
          have c0_0_43 : η 0 43 = η 0 43 := rfl
          have c0_0_42 : η 0 42 = η 0 42 := rfl
          have c0_0_45 : η 0 45 = η 0 45 := rfl
          have w0_0_19 : (0 : Int) ≤ η 0 19 ∧ η 0 19 ≤ 64 := wf_ok (a := 19) (b := 19) (z := (0, 64)) hp.1 (by decide +kernel) (Nat.le_refl _) (Nat.le_refl _)
          have c0_0_19 : η 0 19 = η 0 19 := rfl
          have w0_0_44 : (0 : Int) ≤ η 0 44 ∧ η 0 44 ≤ 64 := wf_ok (a := 44) (b := 44) (z := (0, 64)) hp.1 (by decide +kernel) (Nat.le_refl _) (Nat.le_refl _)
          have c0_0_44 : η 0 44 = η 0 44 := rfl
          have w0_0_7 : (0 : Int) ≤ η 0 7 ∧ η 0 7 ≤ 700 := wf_ok (a := 7) (b := 7) (z := (0, 700)) hp.1 (by decide +kernel) (Nat.le_refl _) (Nat.le_refl _)
          have c0_0_7 : η 0 7 = η 0 7 := rfl
          have w0_0_6 : (0 : Int) ≤ η 0 6 ∧ η 0 6 ≤ 700 := wf_ok (a := 6) (b := 6) (z := (0, 700)) hp.1 (by decide +kernel) (Nat.le_refl _) (Nat.le_refl _)
          have c0_0_6 : η 0 6 = η 0 6 := rfl
          have w0_0_8 : (0 : Int) ≤ η 0 8 ∧ η 0 8 ≤ 6 := wf_ok (a := 8) (b := 8) (z := (0, 6)) hp.1 (by decide +kernel) (Nat.le_refl _) (Nat.le_refl _)
          have c0_0_8 : η 0 8 = η 0 8 := rfl
          have bx1 : (0 : Int) ≤ x1 ∧ x1 ≤ 1 := k1.1.2.1
          have fm1 : zFm zMl_signs η η1 := zFm_tr2 zFm_rf k1.1.2.2.2.1 (by decide +kernel)
          have fmE : zFm zMl_signs η η1 := fm1
          have fr22_0 : ∀ j, η 22 j = η 22 j := fun _ => rfl
          have v9 : ∀ j, η1 22 j = η 22 j := fun j => k1.1.2.2.2.1 22 _ (zinr_not (by decide +kernel))
          have fr22_1 : ∀ j, η1 22 j = η 22 j := v9
          have fr22 : ∀ j, η1 22 j = η 22 j := v9
          have v10 : η1 0 41 = η 0 41 := (k1.1.2.2.2.1 0 41 (by decide +kernel)).trans rfl
          have f0_41 : η1 0 41 = η 0 41 := v10
          have v11 : η1 0 43 = η 0 43 := (k1.1.2.2.2.1 0 43 (by decide +kernel)).trans rfl
          have f0_43 : η1 0 43 = η 0 43 := v11
          have v12 : η1 0 42 = η 0 42 := (k1.1.2.2.2.1 0 42 (by decide +kernel)).trans rfl
          have f0_42 : η1 0 42 = η 0 42 := v12
          have v13 : η1 0 45 = η 0 45 := (k1.1.2.2.2.1 0 45 (by decide +kernel)).trans rfl
          have f0_45 : η1 0 45 = η 0 45 := v13
          have v14 : η1 0 19 = η 0 19 := (k1.1.2.2.2.1 0 19 (by decide +kernel)).trans rfl
          have f0_19 : η1 0 19 = η 0 19 := v14
          have v15 : η1 0 44 = η 0 44 := (k1.1.2.2.2.1 0 44 (by decide +kernel)).trans rfl
          have f0_44 : η1 0 44 = η 0 44 := v15
          have v16 : η1 0 7 = η 0 7 := (k1.1.2.2.2.1 0 7 (by decide +kernel)).trans rfl
          have f0_7 : η1 0 7 = η 0 7 := v16
          have v17 : η1 0 6 = η 0 6 := (k1.1.2.2.2.1 0 6 (by decide +kernel)).trans rfl
          have f0_6 : η1 0 6 = η 0 6 := v17
          have v18 : η1 0 8 = η 0 8 := (k1.1.2.2.2.1 0 8 (by decide +kernel)).trans rfl
          have f0_8 : η1 0 8 = η 0 8 := v18
          have wb1 : wB wl_l zTr η1 := k1.1.1
          have wbE : wB wl_l zTr η1 := wb1
          have I0 : H_l 0 0 0 η := hpp.1
          have I1 : H_l 0 0 0 η1 := k1.2.1
          exact ⟨I1, show η1 0 45 = 0 by omega, show 1 ≤ η1 0 19 by omega, show η1 0 7 = η 0 7 by omega, show η1 0 6 = η 0 6 by omega, show η1 0 8 = η 0 8 by omega⟩
        · show ∀ (x1 : Int) (η1 : zE), ((gC2 wl_l [(nat_lit 0, zPl_isSign, zOl_isSign, zMl_isSign), (nat_lit 1, zPl_wrong, zOl_wrong, zMl_wrong), (nat_lit 2, zPl_token, zOl_token, zMl_token), (nat_lit 3, zPl_isKey, zOl_isKey, zMl_isKey), (nat_lit 4, zPl_isCounted, zOl_isCounted, zMl_isCounted), (nat_lit 5, zPl_waitsFor, zOl_waitsFor, zMl_waitsFor), (nat_lit 6, zPl_rank, zOl_rank, zMl_rank), (nat_lit 7, zPl_bind, zOl_bind, zMl_bind)] pCl_signs qCl_signs) 0).2 [41] η x1 η1 → (¬ x1 = 0) → ∀ x2 : Int, x2 = η1 0 (Int.toNat 43) → zok 0 x2 → (x2 ≤ 0) → (iCl_signs [] η) 0 [] η1
          have hw : η 0 45 = 0 := hpp.2.1
          have hr1 : 1 ≤ η 0 19 := hpp.2.2
          have bd43 : (0 : Int) ≤ η 0 43 ∧ η 0 43 ≤ 8 := wf_ok (a := 43) (b := 43) (z := (0, 8)) hp.1 (by decide +kernel) (Nat.le_refl _) (Nat.le_refl _)
          have bd44 : (0 : Int) ≤ η 0 44 ∧ η 0 44 ≤ 64 := wf_ok (a := 44) (b := 44) (z := (0, 64)) hp.1 (by decide +kernel) (Nat.le_refl _) (Nat.le_refl _)
          have bd19 : (0 : Int) ≤ η 0 19 ∧ η 0 19 ≤ 64 := wf_ok (a := 19) (b := 19) (z := (0, 64)) hp.1 (by decide +kernel) (Nat.le_refl _) (Nat.le_refl _)
          intro x1 η1 h1 c1 x2 e2 r2 c2
          have k1 : sQ wl_l zTr zOl_isSign zMl_isSign [41] η x1 η1 ∧ pQl_isSign [41] η x1 η1 := h1
          have c0_0_41 : η 0 41 = η 0 41 := rfl
          have w0_0_43 : (0 : Int) ≤ η 0 43 ∧ η 0 43 ≤ 8 := wf_ok (a := 43) (b := 43) (z := (0, 8)) hp.1 (by decide +kernel) (Nat.le_refl _) (Nat.le_refl _)
          have c0_0_43 : η 0 43 = η 0 43 := rfl
          have c0_0_42 : η 0 42 = η 0 42 := rfl
          have c0_0_45 : η 0 45 = η 0 45 := rfl
          have w0_0_19 : (0 : Int) ≤ η 0 19 ∧ η 0 19 ≤ 64 := wf_ok (a := 19) (b := 19) (z := (0, 64)) hp.1 (by decide +kernel) (Nat.le_refl _) (Nat.le_refl _)
          have c0_0_19 : η 0 19 = η 0 19 := rfl
          have w0_0_44 : (0 : Int) ≤ η 0 44 ∧ η 0 44 ≤ 64 := wf_ok (a := 44) (b := 44) (z := (0, 64)) hp.1 (by decide +kernel) (Nat.le_refl _) (Nat.le_refl _)
          have c0_0_44 : η 0 44 = η 0 44 := rfl
          have w0_0_7 : (0 : Int) ≤ η 0 7 ∧ η 0 7 ≤ 700 := wf_ok (a := 7) (b := 7) (z := (0, 700)) hp.1 (by decide +kernel) (Nat.le_refl _) (Nat.le_refl _)
          have c0_0_7 : η 0 7 = η 0 7 := rfl
          have w0_0_6 : (0 : Int) ≤ η 0 6 ∧ η 0 6 ≤ 700 := wf_ok (a := 6) (b := 6) (z := (0, 700)) hp.1 (by decide +kernel) (Nat.le_refl _) (Nat.le_refl _)
          have c0_0_6 : η 0 6 = η 0 6 := rfl
          have w0_0_8 : (0 : Int) ≤ η 0 8 ∧ η 0 8 ≤ 6 := wf_ok (a := 8) (b := 8) (z := (0, 6)) hp.1 (by decide +kernel) (Nat.le_refl _) (Nat.le_refl _)
          have c0_0_8 : η 0 8 = η 0 8 := rfl
          have bx1 : (0 : Int) ≤ x1 ∧ x1 ≤ 1 := k1.1.2.1
          have v9 : η1 0 43 = η 0 43 := (k1.1.2.2.2.1 0 43 (by decide +kernel)).trans rfl
          replace e2 : x2 = η 0 43 := e2.trans v9
          replace r2 : -2147483648 ≤ x2 ∧ x2 ≤ 2147483647 := r2
          have fm1 : zFm zMl_signs η η1 := zFm_tr2 zFm_rf k1.1.2.2.2.1 (by decide +kernel)
          have fmE : zFm zMl_signs η η1 := fm1
          have fr22_0 : ∀ j, η 22 j = η 22 j := fun _ => rfl
          have v10 : ∀ j, η1 22 j = η 22 j := fun j => k1.1.2.2.2.1 22 _ (zinr_not (by decide +kernel))
          have fr22_1 : ∀ j, η1 22 j = η 22 j := v10
          have fr22 : ∀ j, η1 22 j = η 22 j := v10
          have v11 : η1 0 41 = η 0 41 := (k1.1.2.2.2.1 0 41 (by decide +kernel)).trans rfl
          have f0_41 : η1 0 41 = η 0 41 := v11
          have f0_43 : η1 0 43 = η 0 43 := v9
          have v12 : η1 0 42 = η 0 42 := (k1.1.2.2.2.1 0 42 (by decide +kernel)).trans rfl
          have f0_42 : η1 0 42 = η 0 42 := v12
          have v13 : η1 0 45 = η 0 45 := (k1.1.2.2.2.1 0 45 (by decide +kernel)).trans rfl
          have f0_45 : η1 0 45 = η 0 45 := v13
          have v14 : η1 0 19 = η 0 19 := (k1.1.2.2.2.1 0 19 (by decide +kernel)).trans rfl
          have f0_19 : η1 0 19 = η 0 19 := v14
          have v15 : η1 0 44 = η 0 44 := (k1.1.2.2.2.1 0 44 (by decide +kernel)).trans rfl
          have f0_44 : η1 0 44 = η 0 44 := v15
          have v16 : η1 0 7 = η 0 7 := (k1.1.2.2.2.1 0 7 (by decide +kernel)).trans rfl
          have f0_7 : η1 0 7 = η 0 7 := v16
          have v17 : η1 0 6 = η 0 6 := (k1.1.2.2.2.1 0 6 (by decide +kernel)).trans rfl
          have f0_6 : η1 0 6 = η 0 6 := v17
          have v18 : η1 0 8 = η 0 8 := (k1.1.2.2.2.1 0 8 (by decide +kernel)).trans rfl
          have f0_8 : η1 0 8 = η 0 8 := v18
          have wb1 : wB wl_l zTr η1 := k1.1.1
          have wbE : wB wl_l zTr η1 := wb1
          have I0 : H_l 0 0 0 η := hpp.1
          have I1 : H_l 0 0 0 η1 := k1.2.1
          have qk1 : η 0 8 = 4 := k1.2.2 c1
          exact ⟨I1, show η1 0 45 = 0 by omega, show 1 ≤ η1 0 19 by omega, show η1 0 7 = η 0 7 by omega, show η1 0 6 = η 0 6 by omega, show η1 0 8 = η 0 8 by omega⟩
        · show ∀ (x1 : Int) (η1 : zE), ((gC2 wl_l [(nat_lit 0, zPl_isSign, zOl_isSign, zMl_isSign), (nat_lit 1, zPl_wrong, zOl_wrong, zMl_wrong), (nat_lit 2, zPl_token, zOl_token, zMl_token), (nat_lit 3, zPl_isKey, zOl_isKey, zMl_isKey), (nat_lit 4, zPl_isCounted, zOl_isCounted, zMl_isCounted), (nat_lit 5, zPl_waitsFor, zOl_waitsFor, zMl_waitsFor), (nat_lit 6, zPl_rank, zOl_rank, zMl_rank), (nat_lit 7, zPl_bind, zOl_bind, zMl_bind)] pCl_signs qCl_signs) 0).2 [41] η x1 η1 → (¬ x1 = 0) → ∀ x2 : Int, x2 = η1 0 (Int.toNat 43) → zok 0 x2 → (0 < x2) → ((gC2 wl_l [(nat_lit 0, zPl_isSign, zOl_isSign, zMl_isSign), (nat_lit 1, zPl_wrong, zOl_wrong, zMl_wrong), (nat_lit 2, zPl_token, zOl_token, zMl_token), (nat_lit 3, zPl_isKey, zOl_isKey, zMl_isKey), (nat_lit 4, zPl_isCounted, zOl_isCounted, zMl_isCounted), (nat_lit 5, zPl_waitsFor, zOl_waitsFor, zMl_waitsFor), (nat_lit 6, zPl_rank, zOl_rank, zMl_rank), (nat_lit 7, zPl_bind, zOl_bind, zMl_bind)] pCl_signs qCl_signs) 7).1 [1] η1
          have hw : η 0 45 = 0 := hpp.2.1
          have hr1 : 1 ≤ η 0 19 := hpp.2.2
          have bd43 : (0 : Int) ≤ η 0 43 ∧ η 0 43 ≤ 8 := wf_ok (a := 43) (b := 43) (z := (0, 8)) hp.1 (by decide +kernel) (Nat.le_refl _) (Nat.le_refl _)
          have bd44 : (0 : Int) ≤ η 0 44 ∧ η 0 44 ≤ 64 := wf_ok (a := 44) (b := 44) (z := (0, 64)) hp.1 (by decide +kernel) (Nat.le_refl _) (Nat.le_refl _)
          have bd19 : (0 : Int) ≤ η 0 19 ∧ η 0 19 ≤ 64 := wf_ok (a := 19) (b := 19) (z := (0, 64)) hp.1 (by decide +kernel) (Nat.le_refl _) (Nat.le_refl _)
          intro x1 η1 h1 c1 x2 e2 r2 c2
          have k1 : sQ wl_l zTr zOl_isSign zMl_isSign [41] η x1 η1 ∧ pQl_isSign [41] η x1 η1 := h1
          have c0_0_41 : η 0 41 = η 0 41 := rfl
          have w0_0_43 : (0 : Int) ≤ η 0 43 ∧ η 0 43 ≤ 8 := wf_ok (a := 43) (b := 43) (z := (0, 8)) hp.1 (by decide +kernel) (Nat.le_refl _) (Nat.le_refl _)
          have c0_0_43 : η 0 43 = η 0 43 := rfl
          have c0_0_42 : η 0 42 = η 0 42 := rfl
          have c0_0_45 : η 0 45 = η 0 45 := rfl
          have w0_0_19 : (0 : Int) ≤ η 0 19 ∧ η 0 19 ≤ 64 := wf_ok (a := 19) (b := 19) (z := (0, 64)) hp.1 (by decide +kernel) (Nat.le_refl _) (Nat.le_refl _)
          have c0_0_19 : η 0 19 = η 0 19 := rfl
          have w0_0_44 : (0 : Int) ≤ η 0 44 ∧ η 0 44 ≤ 64 := wf_ok (a := 44) (b := 44) (z := (0, 64)) hp.1 (by decide +kernel) (Nat.le_refl _) (Nat.le_refl _)
          have c0_0_44 : η 0 44 = η 0 44 := rfl
          have w0_0_7 : (0 : Int) ≤ η 0 7 ∧ η 0 7 ≤ 700 := wf_ok (a := 7) (b := 7) (z := (0, 700)) hp.1 (by decide +kernel) (Nat.le_refl _) (Nat.le_refl _)
          have c0_0_7 : η 0 7 = η 0 7 := rfl
          have w0_0_6 : (0 : Int) ≤ η 0 6 ∧ η 0 6 ≤ 700 := wf_ok (a := 6) (b := 6) (z := (0, 700)) hp.1 (by decide +kernel) (Nat.le_refl _) (Nat.le_refl _)
          have c0_0_6 : η 0 6 = η 0 6 := rfl
          have w0_0_8 : (0 : Int) ≤ η 0 8 ∧ η 0 8 ≤ 6 := wf_ok (a := 8) (b := 8) (z := (0, 6)) hp.1 (by decide +kernel) (Nat.le_refl _) (Nat.le_refl _)
          have c0_0_8 : η 0 8 = η 0 8 := rfl
          have bx1 : (0 : Int) ≤ x1 ∧ x1 ≤ 1 := k1.1.2.1
          have v9 : η1 0 43 = η 0 43 := (k1.1.2.2.2.1 0 43 (by decide +kernel)).trans rfl
          replace e2 : x2 = η 0 43 := e2.trans v9
          replace r2 : -2147483648 ≤ x2 ∧ x2 ≤ 2147483647 := r2
          have fm1 : zFm zMl_signs η η1 := zFm_tr2 zFm_rf k1.1.2.2.2.1 (by decide +kernel)
          have fmE : zFm zMl_signs η η1 := fm1
          have fr22_0 : ∀ j, η 22 j = η 22 j := fun _ => rfl
          have v10 : ∀ j, η1 22 j = η 22 j := fun j => k1.1.2.2.2.1 22 _ (zinr_not (by decide +kernel))
          have fr22_1 : ∀ j, η1 22 j = η 22 j := v10
          have fr22 : ∀ j, η1 22 j = η 22 j := v10
          have v11 : η1 0 41 = η 0 41 := (k1.1.2.2.2.1 0 41 (by decide +kernel)).trans rfl
          have f0_41 : η1 0 41 = η 0 41 := v11
          have f0_43 : η1 0 43 = η 0 43 := v9
          have v12 : η1 0 42 = η 0 42 := (k1.1.2.2.2.1 0 42 (by decide +kernel)).trans rfl
          have f0_42 : η1 0 42 = η 0 42 := v12
          have v13 : η1 0 45 = η 0 45 := (k1.1.2.2.2.1 0 45 (by decide +kernel)).trans rfl
          have f0_45 : η1 0 45 = η 0 45 := v13
          have v14 : η1 0 19 = η 0 19 := (k1.1.2.2.2.1 0 19 (by decide +kernel)).trans rfl
          have f0_19 : η1 0 19 = η 0 19 := v14
          have v15 : η1 0 44 = η 0 44 := (k1.1.2.2.2.1 0 44 (by decide +kernel)).trans rfl
          have f0_44 : η1 0 44 = η 0 44 := v15
          have v16 : η1 0 7 = η 0 7 := (k1.1.2.2.2.1 0 7 (by decide +kernel)).trans rfl
          have f0_7 : η1 0 7 = η 0 7 := v16
          have v17 : η1 0 6 = η 0 6 := (k1.1.2.2.2.1 0 6 (by decide +kernel)).trans rfl
          have f0_6 : η1 0 6 = η 0 6 := v17
          have v18 : η1 0 8 = η 0 8 := (k1.1.2.2.2.1 0 8 (by decide +kernel)).trans rfl
          have f0_8 : η1 0 8 = η 0 8 := v18
          have wb1 : wB wl_l zTr η1 := k1.1.1
          have wbE : wB wl_l zTr η1 := wb1
          have I0 : H_l 0 0 0 η := hpp.1
          have I1 : H_l 0 0 0 η1 := k1.2.1
          have qk1 : η 0 8 = 4 := k1.2.2 c1
          exact ⟨I1, show η1 0 45 = 0 by omega⟩
        · show ∀ (x1 : Int) (η1 : zE), ((gC2 wl_l [(nat_lit 0, zPl_isSign, zOl_isSign, zMl_isSign), (nat_lit 1, zPl_wrong, zOl_wrong, zMl_wrong), (nat_lit 2, zPl_token, zOl_token, zMl_token), (nat_lit 3, zPl_isKey, zOl_isKey, zMl_isKey), (nat_lit 4, zPl_isCounted, zOl_isCounted, zMl_isCounted), (nat_lit 5, zPl_waitsFor, zOl_waitsFor, zMl_waitsFor), (nat_lit 6, zPl_rank, zOl_rank, zMl_rank), (nat_lit 7, zPl_bind, zOl_bind, zMl_bind)] pCl_signs qCl_signs) 0).2 [41] η x1 η1 → (¬ x1 = 0) → ∀ x2 : Int, x2 = η1 0 (Int.toNat 43) → zok 0 x2 → (0 < x2) → ∀ (x3 : Int) (η2 : zE), ((gC2 wl_l [(nat_lit 0, zPl_isSign, zOl_isSign, zMl_isSign), (nat_lit 1, zPl_wrong, zOl_wrong, zMl_wrong), (nat_lit 2, zPl_token, zOl_token, zMl_token), (nat_lit 3, zPl_isKey, zOl_isKey, zMl_isKey), (nat_lit 4, zPl_isCounted, zOl_isCounted, zMl_isCounted), (nat_lit 5, zPl_waitsFor, zOl_waitsFor, zMl_waitsFor), (nat_lit 6, zPl_rank, zOl_rank, zMl_rank), (nat_lit 7, zPl_bind, zOl_bind, zMl_bind)] pCl_signs qCl_signs) 7).2 [1] η1 x3 η2 → ∀ x4 : Int, x4 = η2 0 (Int.toNat 41) → zok 0 x4 → ∀ x5 : Int, x5 = zd 0 2 x4 1 → ∀ η3 : zE, η3 = zup η2 0 (Int.toNat 41) x5 → ∀ x6 : Int, x6 = η3 0 (Int.toNat 43) → zok 0 x6 → ∀ x7 : Int, x7 = zd 0 2 x6 1 → ∀ η4 : zE, η4 = zup η3 0 (Int.toNat 43) x7 → ((gC2 wl_l [(nat_lit 0, zPl_isSign, zOl_isSign, zMl_isSign), (nat_lit 1, zPl_wrong, zOl_wrong, zMl_wrong), (nat_lit 2, zPl_token, zOl_token, zMl_token), (nat_lit 3, zPl_isKey, zOl_isKey, zMl_isKey), (nat_lit 4, zPl_isCounted, zOl_isCounted, zMl_isCounted), (nat_lit 5, zPl_waitsFor, zOl_waitsFor, zMl_waitsFor), (nat_lit 6, zPl_rank, zOl_rank, zMl_rank), (nat_lit 7, zPl_bind, zOl_bind, zMl_bind)] pCl_signs qCl_signs) 2).1 [] η4
          have hw : η 0 45 = 0 := hpp.2.1
          have hr1 : 1 ≤ η 0 19 := hpp.2.2
          have bd43 : (0 : Int) ≤ η 0 43 ∧ η 0 43 ≤ 8 := wf_ok (a := 43) (b := 43) (z := (0, 8)) hp.1 (by decide +kernel) (Nat.le_refl _) (Nat.le_refl _)
          have bd44 : (0 : Int) ≤ η 0 44 ∧ η 0 44 ≤ 64 := wf_ok (a := 44) (b := 44) (z := (0, 64)) hp.1 (by decide +kernel) (Nat.le_refl _) (Nat.le_refl _)
          have bd19 : (0 : Int) ≤ η 0 19 ∧ η 0 19 ≤ 64 := wf_ok (a := 19) (b := 19) (z := (0, 64)) hp.1 (by decide +kernel) (Nat.le_refl _) (Nat.le_refl _)
          intro x1 η1 h1 c1 x2 e2 r2 c2 x3 η2 h3 x4 e4 r4 x5 e5 η3 eη3 x6 e6 r6 x7 e7 η4 eη4
          replace e5 := zEq_i e5
          replace e7 := zEq_i e7
          have k1 : sQ wl_l zTr zOl_isSign zMl_isSign [41] η x1 η1 ∧ pQl_isSign [41] η x1 η1 := h1
          have k3 : sQ wl_l zTr zOl_bind zMl_bind [1] η1 x3 η2 ∧ pQl_bind [1] η1 x3 η2 := h3
          have c0_0_41 : η 0 41 = η 0 41 := rfl
          have w0_0_43 : (0 : Int) ≤ η 0 43 ∧ η 0 43 ≤ 8 := wf_ok (a := 43) (b := 43) (z := (0, 8)) hp.1 (by decide +kernel) (Nat.le_refl _) (Nat.le_refl _)
          have c0_0_43 : η 0 43 = η 0 43 := rfl
          have c0_0_42 : η 0 42 = η 0 42 := rfl
          have c0_0_45 : η 0 45 = η 0 45 := rfl
          have w0_0_19 : (0 : Int) ≤ η 0 19 ∧ η 0 19 ≤ 64 := wf_ok (a := 19) (b := 19) (z := (0, 64)) hp.1 (by decide +kernel) (Nat.le_refl _) (Nat.le_refl _)
          have c0_0_19 : η 0 19 = η 0 19 := rfl
          have w0_0_44 : (0 : Int) ≤ η 0 44 ∧ η 0 44 ≤ 64 := wf_ok (a := 44) (b := 44) (z := (0, 64)) hp.1 (by decide +kernel) (Nat.le_refl _) (Nat.le_refl _)
          have c0_0_44 : η 0 44 = η 0 44 := rfl
          have w0_0_7 : (0 : Int) ≤ η 0 7 ∧ η 0 7 ≤ 700 := wf_ok (a := 7) (b := 7) (z := (0, 700)) hp.1 (by decide +kernel) (Nat.le_refl _) (Nat.le_refl _)
          have c0_0_7 : η 0 7 = η 0 7 := rfl
          have w0_0_6 : (0 : Int) ≤ η 0 6 ∧ η 0 6 ≤ 700 := wf_ok (a := 6) (b := 6) (z := (0, 700)) hp.1 (by decide +kernel) (Nat.le_refl _) (Nat.le_refl _)
          have c0_0_6 : η 0 6 = η 0 6 := rfl
          have w0_0_8 : (0 : Int) ≤ η 0 8 ∧ η 0 8 ≤ 6 := wf_ok (a := 8) (b := 8) (z := (0, 6)) hp.1 (by decide +kernel) (Nat.le_refl _) (Nat.le_refl _)
          have c0_0_8 : η 0 8 = η 0 8 := rfl
          have bx1 : (0 : Int) ≤ x1 ∧ x1 ≤ 1 := k1.1.2.1
          have v9 : η1 0 43 = η 0 43 := (k1.1.2.2.2.1 0 43 (by decide +kernel)).trans rfl
          replace e2 : x2 = η 0 43 := e2.trans v9
          replace r2 : -2147483648 ≤ x2 ∧ x2 ≤ 2147483647 := r2
          have v10 : η1 0 41 = η 0 41 := (k1.1.2.2.2.1 0 41 (by decide +kernel)).trans rfl
          have c1_0_41 : η1 0 41 = η 0 41 := v10
          have c1_0_43 : η1 0 43 = η 0 43 := v9
          have v11 : η1 0 42 = η 0 42 := (k1.1.2.2.2.1 0 42 (by decide +kernel)).trans rfl
          have c1_0_42 : η1 0 42 = η 0 42 := v11
          have v12 : η1 0 45 = η 0 45 := (k1.1.2.2.2.1 0 45 (by decide +kernel)).trans rfl
          have c1_0_45 : η1 0 45 = η 0 45 := v12
          have v13 : η1 0 19 = η 0 19 := (k1.1.2.2.2.1 0 19 (by decide +kernel)).trans rfl
          have c1_0_19 : η1 0 19 = η 0 19 := v13
          have v14 : η1 0 44 = η 0 44 := (k1.1.2.2.2.1 0 44 (by decide +kernel)).trans rfl
          have c1_0_44 : η1 0 44 = η 0 44 := v14
          have v15 : η1 0 7 = η 0 7 := (k1.1.2.2.2.1 0 7 (by decide +kernel)).trans rfl
          have c1_0_7 : η1 0 7 = η 0 7 := v15
          have v16 : η1 0 6 = η 0 6 := (k1.1.2.2.2.1 0 6 (by decide +kernel)).trans rfl
          have c1_0_6 : η1 0 6 = η 0 6 := v16
          have v17 : η1 0 8 = η 0 8 := (k1.1.2.2.2.1 0 8 (by decide +kernel)).trans rfl
          have c1_0_8 : η1 0 8 = η 0 8 := v17
          have bx3 : (0 : Int) ≤ x3 ∧ x3 ≤ 0 := k3.1.2.1
          replace e4 : x4 = η2 0 41 := e4
          replace r4 : -2147483648 ≤ x4 ∧ x4 ≤ 2147483647 := r4
          first
          | replace e5 : x5 = x4 - 1 := zd_s2 (zEq_o e5) (by clear e5; exact ⟨by omega, by omega⟩)
          | clear e5
          have v19 : η2 0 43 = η 0 43 := (k3.1.2.2.2.1 0 43 (by decide +kernel)).trans v9
          have v20 : η3 0 43 = η 0 43 := by rw [eη3]; exact (zup_ne (fun _ e => absurd e (by decide))).trans v19
          replace e6 : x6 = η 0 43 := e6.trans v20
          replace r6 : -2147483648 ≤ x6 ∧ x6 ≤ 2147483647 := r6
          first
          | replace e7 : x7 = x6 - 1 := zd_s2 (zEq_o e7) (by clear e7; exact ⟨by omega, by omega⟩)
          | clear e7
          have fm1 : zFm zMl_signs η η1 := zFm_tr2 zFm_rf k1.1.2.2.2.1 (by decide +kernel)
          have fm2 : zFm zMl_signs η η2 := zFm_tr2 fm1 k3.1.2.2.2.1 (by decide +kernel)
          have fm3 : zFm zMl_signs η η3 := by rw [eη3]; exact zFm_up fm2 rfl
          have fm4 : zFm zMl_signs η η4 := by rw [eη4]; exact zFm_up fm3 rfl
          have fmE : zFm zMl_signs η η4 := fm4
          have fr22_0 : ∀ j, η 22 j = η 22 j := fun _ => rfl
          have v21 : ∀ j, η1 22 j = η 22 j := fun j => k1.1.2.2.2.1 22 _ (zinr_not (by decide +kernel))
          have fr22_1 : ∀ j, η1 22 j = η 22 j := v21
          have v22 : ∀ j, η2 22 j = η 22 j := fun j => (k3.1.2.2.2.1 22 _ (zinr_not (by decide +kernel))).trans (v21 j)
          have fr22_2 : ∀ j, η2 22 j = η 22 j := v22
          have v23 : ∀ j, η3 22 j = η 22 j := fun j => by rw [eη3]; exact (zup_ne (fun e _ => absurd e (by decide))).trans (v22 j)
          have fr22_3 : ∀ j, η3 22 j = η 22 j := v23
          have v24 : ∀ j, η4 22 j = η 22 j := fun j => by rw [eη4]; exact (zup_ne (fun e _ => absurd e (by decide))).trans (v23 j)
          have fr22_4 : ∀ j, η4 22 j = η 22 j := v24
          have fr22 : ∀ j, η4 22 j = η 22 j := v24
          have v25 : η3 0 41 = x5 := by rw [eη3]; exact zup_eq
          have v26 : η4 0 41 = x5 := by rw [eη4]; exact (zup_ne (fun _ e => absurd e (by decide))).trans v25
          have f0_41 : η4 0 41 = x5 := v26
          have v27 : η4 0 43 = x7 := by rw [eη4]; exact zup_eq
          have f0_43 : η4 0 43 = x7 := v27
          have v29 : η3 0 42 = η2 0 42 := by rw [eη3]; exact (zup_ne (fun _ e => absurd e (by decide))).trans rfl
          have v30 : η4 0 42 = η2 0 42 := by rw [eη4]; exact (zup_ne (fun _ e => absurd e (by decide))).trans v29
          have f0_42 : η4 0 42 = η2 0 42 := v30
          have v31 : η2 0 45 = η 0 45 := (k3.1.2.2.2.1 0 45 (by decide +kernel)).trans v12
          have v32 : η3 0 45 = η 0 45 := by rw [eη3]; exact (zup_ne (fun _ e => absurd e (by decide))).trans v31
          have v33 : η4 0 45 = η 0 45 := by rw [eη4]; exact (zup_ne (fun _ e => absurd e (by decide))).trans v32
          have f0_45 : η4 0 45 = η 0 45 := v33
          have w2_0_19 : (0 : Int) ≤ η2 0 19 ∧ η2 0 19 ≤ 64 := wf_ok (a := 19) (b := 19) (z := (0, 64)) k3.1.1 (by decide +kernel) (Nat.le_refl _) (Nat.le_refl _)
          have v35 : η3 0 19 = η2 0 19 := by rw [eη3]; exact (zup_ne (fun _ e => absurd e (by decide))).trans rfl
          have v36 : η4 0 19 = η2 0 19 := by rw [eη4]; exact (zup_ne (fun _ e => absurd e (by decide))).trans v35
          have f0_19 : η4 0 19 = η2 0 19 := v36
          have v37 : η2 0 44 = η 0 44 := (k3.1.2.2.2.1 0 44 (by decide +kernel)).trans v14
          have v38 : η3 0 44 = η 0 44 := by rw [eη3]; exact (zup_ne (fun _ e => absurd e (by decide))).trans v37
          have v39 : η4 0 44 = η 0 44 := by rw [eη4]; exact (zup_ne (fun _ e => absurd e (by decide))).trans v38
          have f0_44 : η4 0 44 = η 0 44 := v39
          have v40 : η2 0 7 = η 0 7 := (k3.1.2.2.2.1 0 7 (by decide +kernel)).trans v15
          have v41 : η3 0 7 = η 0 7 := by rw [eη3]; exact (zup_ne (fun _ e => absurd e (by decide))).trans v40
          have v42 : η4 0 7 = η 0 7 := by rw [eη4]; exact (zup_ne (fun _ e => absurd e (by decide))).trans v41
          have f0_7 : η4 0 7 = η 0 7 := v42
          have v43 : η2 0 6 = η 0 6 := (k3.1.2.2.2.1 0 6 (by decide +kernel)).trans v16
          have v44 : η3 0 6 = η 0 6 := by rw [eη3]; exact (zup_ne (fun _ e => absurd e (by decide))).trans v43
          have v45 : η4 0 6 = η 0 6 := by rw [eη4]; exact (zup_ne (fun _ e => absurd e (by decide))).trans v44
          have f0_6 : η4 0 6 = η 0 6 := v45
          have v46 : η2 0 8 = η 0 8 := (k3.1.2.2.2.1 0 8 (by decide +kernel)).trans v17
          have v47 : η3 0 8 = η 0 8 := by rw [eη3]; exact (zup_ne (fun _ e => absurd e (by decide))).trans v46
          have v48 : η4 0 8 = η 0 8 := by rw [eη4]; exact (zup_ne (fun _ e => absurd e (by decide))).trans v47
          have f0_8 : η4 0 8 = η 0 8 := v48
          have wb1 : wB wl_l zTr η1 := k1.1.1
          have wb2 : wB wl_l zTr η2 := k3.1.1
          have wb3 : wB wl_l zTr η3 := by rw [eη3]; exact wk_ok (a := 41) (b := 41) (z := ((-2147483648), 2147483647)) zTr_k (GR := []) wb2 (by decide +kernel) (by decide) (by decide) (show ((-2147483648) : Int) ≤ x5 by omega) (show x5 ≤ (2147483647 : Int) by omega)
          have wb4 : wB wl_l zTr η4 := by rw [eη4]; exact wk_ok (a := 43) (b := 43) (z := (0, 8)) zTr_k (GR := []) wb3 (by decide +kernel) (by decide) (by decide) (show (0 : Int) ≤ x7 by omega) (show x7 ≤ (8 : Int) by omega)
          have wbE : wB wl_l zTr η4 := wb4
          have I0 : H_l 0 0 0 η := hpp.1
          have I1 : H_l 0 0 0 η1 := k1.2.1
          have qk1 : η 0 8 = 4 := k1.2.2 c1
          have I2 : H_l 0 0 0 η2 := k3.2.1
          have qb3 : η1 0 19 ≤ η2 0 19 := k3.2.2.2
          have pw2 : 1 ≤ η2 0 41 ∧ η2 22 (η2 0 41 - 1).toNat ≤ 1 := by
            obtain ⟨j1, j2, j3, j4⟩ := I2.2
            rcases k3.2.2.1 rfl with h | h
            · exfalso
              rw [h] at j2
              have : cz_l η2 (Int.toNat 0) = 0 := rfl
              omega
            · refine ⟨?_, h⟩
              by_cases q : η2 0 41 = 0
              · exfalso
                rw [q] at j2
                have : cz_l η2 (Int.toNat 0) = 0 := rfl
                omega
              · omega
          have I3 : H_l 0 1 0 η3 := by rw [eη3]; exact h_eq (wa_pop I2 (pw2).1 (pw2).2 (by omega)) rfl (by omega) rfl
          have I4 : H_l 0 0 0 η4 := by rw [eη4]; exact h_eq (br_dn I3 (by omega)) rfl (by omega) rfl
          exact I4
        · show ∀ (x1 : Int) (η1 : zE), ((gC2 wl_l [(nat_lit 0, zPl_isSign, zOl_isSign, zMl_isSign), (nat_lit 1, zPl_wrong, zOl_wrong, zMl_wrong), (nat_lit 2, zPl_token, zOl_token, zMl_token), (nat_lit 3, zPl_isKey, zOl_isKey, zMl_isKey), (nat_lit 4, zPl_isCounted, zOl_isCounted, zMl_isCounted), (nat_lit 5, zPl_waitsFor, zOl_waitsFor, zMl_waitsFor), (nat_lit 6, zPl_rank, zOl_rank, zMl_rank), (nat_lit 7, zPl_bind, zOl_bind, zMl_bind)] pCl_signs qCl_signs) 0).2 [41] η x1 η1 → (¬ x1 = 0) → ∀ x2 : Int, x2 = η1 0 (Int.toNat 43) → zok 0 x2 → (0 < x2) → ∀ (x3 : Int) (η2 : zE), ((gC2 wl_l [(nat_lit 0, zPl_isSign, zOl_isSign, zMl_isSign), (nat_lit 1, zPl_wrong, zOl_wrong, zMl_wrong), (nat_lit 2, zPl_token, zOl_token, zMl_token), (nat_lit 3, zPl_isKey, zOl_isKey, zMl_isKey), (nat_lit 4, zPl_isCounted, zOl_isCounted, zMl_isCounted), (nat_lit 5, zPl_waitsFor, zOl_waitsFor, zMl_waitsFor), (nat_lit 6, zPl_rank, zOl_rank, zMl_rank), (nat_lit 7, zPl_bind, zOl_bind, zMl_bind)] pCl_signs qCl_signs) 7).2 [1] η1 x3 η2 → ∀ x4 : Int, x4 = η2 0 (Int.toNat 41) → zok 0 x4 → ∀ x5 : Int, x5 = zd 0 2 x4 1 → ∀ η3 : zE, η3 = zup η2 0 (Int.toNat 41) x5 → ∀ x6 : Int, x6 = η3 0 (Int.toNat 43) → zok 0 x6 → ∀ x7 : Int, x7 = zd 0 2 x6 1 → ∀ η4 : zE, η4 = zup η3 0 (Int.toNat 43) x7 → ∀ (x8 : Int) (η5 : zE), ((gC2 wl_l [(nat_lit 0, zPl_isSign, zOl_isSign, zMl_isSign), (nat_lit 1, zPl_wrong, zOl_wrong, zMl_wrong), (nat_lit 2, zPl_token, zOl_token, zMl_token), (nat_lit 3, zPl_isKey, zOl_isKey, zMl_isKey), (nat_lit 4, zPl_isCounted, zOl_isCounted, zMl_isCounted), (nat_lit 5, zPl_waitsFor, zOl_waitsFor, zMl_waitsFor), (nat_lit 6, zPl_rank, zOl_rank, zMl_rank), (nat_lit 7, zPl_bind, zOl_bind, zMl_bind)] pCl_signs qCl_signs) 2).2 [] η4 x8 η5 → (fun (_ : Nat) (y : Int) (η' : zE) => pQl_signs [] η y η') 0 1 η5
          have hw : η 0 45 = 0 := hpp.2.1
          have hr1 : 1 ≤ η 0 19 := hpp.2.2
          have bd43 : (0 : Int) ≤ η 0 43 ∧ η 0 43 ≤ 8 := wf_ok (a := 43) (b := 43) (z := (0, 8)) hp.1 (by decide +kernel) (Nat.le_refl _) (Nat.le_refl _)
          have bd44 : (0 : Int) ≤ η 0 44 ∧ η 0 44 ≤ 64 := wf_ok (a := 44) (b := 44) (z := (0, 64)) hp.1 (by decide +kernel) (Nat.le_refl _) (Nat.le_refl _)
          have bd19 : (0 : Int) ≤ η 0 19 ∧ η 0 19 ≤ 64 := wf_ok (a := 19) (b := 19) (z := (0, 64)) hp.1 (by decide +kernel) (Nat.le_refl _) (Nat.le_refl _)
          intro x1 η1 h1 c1 x2 e2 r2 c2 x3 η2 h3 x4 e4 r4 x5 e5 η3 eη3 x6 e6 r6 x7 e7 η4 eη4 x8 η5 h8
          replace e5 := zEq_i e5
          replace e7 := zEq_i e7
          have k1 : sQ wl_l zTr zOl_isSign zMl_isSign [41] η x1 η1 ∧ pQl_isSign [41] η x1 η1 := h1
          have k3 : sQ wl_l zTr zOl_bind zMl_bind [1] η1 x3 η2 ∧ pQl_bind [1] η1 x3 η2 := h3
          have k8 : sQ wl_l zTr zOl_token zMl_token [] η4 x8 η5 ∧ pQl_token [] η4 x8 η5 := h8
          have c0_0_41 : η 0 41 = η 0 41 := rfl
          have w0_0_43 : (0 : Int) ≤ η 0 43 ∧ η 0 43 ≤ 8 := wf_ok (a := 43) (b := 43) (z := (0, 8)) hp.1 (by decide +kernel) (Nat.le_refl _) (Nat.le_refl _)
          have c0_0_43 : η 0 43 = η 0 43 := rfl
          have c0_0_42 : η 0 42 = η 0 42 := rfl
          have c0_0_45 : η 0 45 = η 0 45 := rfl
          have w0_0_19 : (0 : Int) ≤ η 0 19 ∧ η 0 19 ≤ 64 := wf_ok (a := 19) (b := 19) (z := (0, 64)) hp.1 (by decide +kernel) (Nat.le_refl _) (Nat.le_refl _)
          have c0_0_19 : η 0 19 = η 0 19 := rfl
          have w0_0_44 : (0 : Int) ≤ η 0 44 ∧ η 0 44 ≤ 64 := wf_ok (a := 44) (b := 44) (z := (0, 64)) hp.1 (by decide +kernel) (Nat.le_refl _) (Nat.le_refl _)
          have c0_0_44 : η 0 44 = η 0 44 := rfl
          have w0_0_7 : (0 : Int) ≤ η 0 7 ∧ η 0 7 ≤ 700 := wf_ok (a := 7) (b := 7) (z := (0, 700)) hp.1 (by decide +kernel) (Nat.le_refl _) (Nat.le_refl _)
          have c0_0_7 : η 0 7 = η 0 7 := rfl
          have w0_0_6 : (0 : Int) ≤ η 0 6 ∧ η 0 6 ≤ 700 := wf_ok (a := 6) (b := 6) (z := (0, 700)) hp.1 (by decide +kernel) (Nat.le_refl _) (Nat.le_refl _)
          have c0_0_6 : η 0 6 = η 0 6 := rfl
          have w0_0_8 : (0 : Int) ≤ η 0 8 ∧ η 0 8 ≤ 6 := wf_ok (a := 8) (b := 8) (z := (0, 6)) hp.1 (by decide +kernel) (Nat.le_refl _) (Nat.le_refl _)
          have c0_0_8 : η 0 8 = η 0 8 := rfl
          have bx1 : (0 : Int) ≤ x1 ∧ x1 ≤ 1 := k1.1.2.1
          have v9 : η1 0 43 = η 0 43 := (k1.1.2.2.2.1 0 43 (by decide +kernel)).trans rfl
          replace e2 : x2 = η 0 43 := e2.trans v9
          replace r2 : -2147483648 ≤ x2 ∧ x2 ≤ 2147483647 := r2
          have v10 : η1 0 41 = η 0 41 := (k1.1.2.2.2.1 0 41 (by decide +kernel)).trans rfl
          have c1_0_41 : η1 0 41 = η 0 41 := v10
          have c1_0_43 : η1 0 43 = η 0 43 := v9
          have v11 : η1 0 42 = η 0 42 := (k1.1.2.2.2.1 0 42 (by decide +kernel)).trans rfl
          have c1_0_42 : η1 0 42 = η 0 42 := v11
          have v12 : η1 0 45 = η 0 45 := (k1.1.2.2.2.1 0 45 (by decide +kernel)).trans rfl
          have c1_0_45 : η1 0 45 = η 0 45 := v12
          have v13 : η1 0 19 = η 0 19 := (k1.1.2.2.2.1 0 19 (by decide +kernel)).trans rfl
          have c1_0_19 : η1 0 19 = η 0 19 := v13
          have v14 : η1 0 44 = η 0 44 := (k1.1.2.2.2.1 0 44 (by decide +kernel)).trans rfl
          have c1_0_44 : η1 0 44 = η 0 44 := v14
          have v15 : η1 0 7 = η 0 7 := (k1.1.2.2.2.1 0 7 (by decide +kernel)).trans rfl
          have c1_0_7 : η1 0 7 = η 0 7 := v15
          have v16 : η1 0 6 = η 0 6 := (k1.1.2.2.2.1 0 6 (by decide +kernel)).trans rfl
          have c1_0_6 : η1 0 6 = η 0 6 := v16
          have v17 : η1 0 8 = η 0 8 := (k1.1.2.2.2.1 0 8 (by decide +kernel)).trans rfl
          have c1_0_8 : η1 0 8 = η 0 8 := v17
          have bx3 : (0 : Int) ≤ x3 ∧ x3 ≤ 0 := k3.1.2.1
          replace e4 : x4 = η2 0 41 := e4
          replace r4 : -2147483648 ≤ x4 ∧ x4 ≤ 2147483647 := r4
          first
          | replace e5 : x5 = x4 - 1 := zd_s2 (zEq_o e5) (by clear e5; exact ⟨by omega, by omega⟩)
          | clear e5
          have v19 : η2 0 43 = η 0 43 := (k3.1.2.2.2.1 0 43 (by decide +kernel)).trans v9
          have v20 : η3 0 43 = η 0 43 := by rw [eη3]; exact (zup_ne (fun _ e => absurd e (by decide))).trans v19
          replace e6 : x6 = η 0 43 := e6.trans v20
          replace r6 : -2147483648 ≤ x6 ∧ x6 ≤ 2147483647 := r6
          first
          | replace e7 : x7 = x6 - 1 := zd_s2 (zEq_o e7) (by clear e7; exact ⟨by omega, by omega⟩)
          | clear e7
          have v21 : η3 0 41 = x5 := by rw [eη3]; exact zup_eq
          have v22 : η4 0 41 = x5 := by rw [eη4]; exact (zup_ne (fun _ e => absurd e (by decide))).trans v21
          have c4_0_41 : η4 0 41 = x5 := v22
          have v23 : η4 0 43 = x7 := by rw [eη4]; exact zup_eq
          have c4_0_43 : η4 0 43 = x7 := v23
          have v25 : η3 0 42 = η2 0 42 := by rw [eη3]; exact (zup_ne (fun _ e => absurd e (by decide))).trans rfl
          have v26 : η4 0 42 = η2 0 42 := by rw [eη4]; exact (zup_ne (fun _ e => absurd e (by decide))).trans v25
          have c4_0_42 : η4 0 42 = η2 0 42 := v26
          have v27 : η2 0 45 = η 0 45 := (k3.1.2.2.2.1 0 45 (by decide +kernel)).trans v12
          have v28 : η3 0 45 = η 0 45 := by rw [eη3]; exact (zup_ne (fun _ e => absurd e (by decide))).trans v27
          have v29 : η4 0 45 = η 0 45 := by rw [eη4]; exact (zup_ne (fun _ e => absurd e (by decide))).trans v28
          have c4_0_45 : η4 0 45 = η 0 45 := v29
          have w2_0_19 : (0 : Int) ≤ η2 0 19 ∧ η2 0 19 ≤ 64 := wf_ok (a := 19) (b := 19) (z := (0, 64)) k3.1.1 (by decide +kernel) (Nat.le_refl _) (Nat.le_refl _)
          have v31 : η3 0 19 = η2 0 19 := by rw [eη3]; exact (zup_ne (fun _ e => absurd e (by decide))).trans rfl
          have v32 : η4 0 19 = η2 0 19 := by rw [eη4]; exact (zup_ne (fun _ e => absurd e (by decide))).trans v31
          have c4_0_19 : η4 0 19 = η2 0 19 := v32
          have v33 : η2 0 44 = η 0 44 := (k3.1.2.2.2.1 0 44 (by decide +kernel)).trans v14
          have v34 : η3 0 44 = η 0 44 := by rw [eη3]; exact (zup_ne (fun _ e => absurd e (by decide))).trans v33
          have v35 : η4 0 44 = η 0 44 := by rw [eη4]; exact (zup_ne (fun _ e => absurd e (by decide))).trans v34
          have c4_0_44 : η4 0 44 = η 0 44 := v35
          have v36 : η2 0 7 = η 0 7 := (k3.1.2.2.2.1 0 7 (by decide +kernel)).trans v15
          have v37 : η3 0 7 = η 0 7 := by rw [eη3]; exact (zup_ne (fun _ e => absurd e (by decide))).trans v36
          have v38 : η4 0 7 = η 0 7 := by rw [eη4]; exact (zup_ne (fun _ e => absurd e (by decide))).trans v37
          have c4_0_7 : η4 0 7 = η 0 7 := v38
          have v39 : η2 0 6 = η 0 6 := (k3.1.2.2.2.1 0 6 (by decide +kernel)).trans v16
          have v40 : η3 0 6 = η 0 6 := by rw [eη3]; exact (zup_ne (fun _ e => absurd e (by decide))).trans v39
          have v41 : η4 0 6 = η 0 6 := by rw [eη4]; exact (zup_ne (fun _ e => absurd e (by decide))).trans v40
          have c4_0_6 : η4 0 6 = η 0 6 := v41
          have v42 : η2 0 8 = η 0 8 := (k3.1.2.2.2.1 0 8 (by decide +kernel)).trans v17
          have v43 : η3 0 8 = η 0 8 := by rw [eη3]; exact (zup_ne (fun _ e => absurd e (by decide))).trans v42
          have v44 : η4 0 8 = η 0 8 := by rw [eη4]; exact (zup_ne (fun _ e => absurd e (by decide))).trans v43
          have c4_0_8 : η4 0 8 = η 0 8 := v44
          have bx8 : (0 : Int) ≤ x8 ∧ x8 ≤ 0 := k8.1.2.1
          have fm1 : zFm zMl_signs η η1 := zFm_tr2 zFm_rf k1.1.2.2.2.1 (by decide +kernel)
          have fm2 : zFm zMl_signs η η2 := zFm_tr2 fm1 k3.1.2.2.2.1 (by decide +kernel)
          have fm3 : zFm zMl_signs η η3 := by rw [eη3]; exact zFm_up fm2 rfl
          have fm4 : zFm zMl_signs η η4 := by rw [eη4]; exact zFm_up fm3 rfl
          have fm5 : zFm zMl_signs η η5 := zFm_tr2 fm4 k8.1.2.2.2.1 (by decide +kernel)
          have fmE : zFm zMl_signs η η5 := fm5
          have fr22_0 : ∀ j, η 22 j = η 22 j := fun _ => rfl
          have v45 : ∀ j, η1 22 j = η 22 j := fun j => k1.1.2.2.2.1 22 _ (zinr_not (by decide +kernel))
          have fr22_1 : ∀ j, η1 22 j = η 22 j := v45
          have v46 : ∀ j, η2 22 j = η 22 j := fun j => (k3.1.2.2.2.1 22 _ (zinr_not (by decide +kernel))).trans (v45 j)
          have fr22_2 : ∀ j, η2 22 j = η 22 j := v46
          have v47 : ∀ j, η3 22 j = η 22 j := fun j => by rw [eη3]; exact (zup_ne (fun e _ => absurd e (by decide))).trans (v46 j)
          have fr22_3 : ∀ j, η3 22 j = η 22 j := v47
          have v48 : ∀ j, η4 22 j = η 22 j := fun j => by rw [eη4]; exact (zup_ne (fun e _ => absurd e (by decide))).trans (v47 j)
          have fr22_4 : ∀ j, η4 22 j = η 22 j := v48
          have v49 : ∀ j, η5 22 j = η 22 j := fun j => (k8.1.2.2.2.1 22 _ (zinr_not (by decide +kernel))).trans (v48 j)
          have fr22_5 : ∀ j, η5 22 j = η 22 j := v49
          have fr22 : ∀ j, η5 22 j = η 22 j := v49
          have v50 : η5 0 41 = x5 := (k8.1.2.2.2.1 0 41 (by decide +kernel)).trans v22
          have f0_41 : η5 0 41 = x5 := v50
          have v51 : η5 0 43 = x7 := (k8.1.2.2.2.1 0 43 (by decide +kernel)).trans v23
          have f0_43 : η5 0 43 = x7 := v51
          have v52 : η5 0 42 = η2 0 42 := (k8.1.2.2.2.1 0 42 (by decide +kernel)).trans v26
          have f0_42 : η5 0 42 = η2 0 42 := v52
          have v53 : η5 0 45 = η 0 45 := (k8.1.2.2.2.1 0 45 (by decide +kernel)).trans v29
          have f0_45 : η5 0 45 = η 0 45 := v53
          have v54 : η5 0 19 = η2 0 19 := (k8.1.2.2.2.1 0 19 (by decide +kernel)).trans v32
          have f0_19 : η5 0 19 = η2 0 19 := v54
          have v55 : η5 0 44 = η 0 44 := (k8.1.2.2.2.1 0 44 (by decide +kernel)).trans v35
          have f0_44 : η5 0 44 = η 0 44 := v55
          have w5_0_7 : (0 : Int) ≤ η5 0 7 ∧ η5 0 7 ≤ 700 := wf_ok (a := 7) (b := 7) (z := (0, 700)) k8.1.1 (by decide +kernel) (Nat.le_refl _) (Nat.le_refl _)
          have f0_7 : η5 0 7 = η5 0 7 := rfl
          have v57 : η5 0 6 = η 0 6 := (k8.1.2.2.2.1 0 6 (by decide +kernel)).trans v41
          have f0_6 : η5 0 6 = η 0 6 := v57
          have w5_0_8 : (0 : Int) ≤ η5 0 8 ∧ η5 0 8 ≤ 6 := wf_ok (a := 8) (b := 8) (z := (0, 6)) k8.1.1 (by decide +kernel) (Nat.le_refl _) (Nat.le_refl _)
          have f0_8 : η5 0 8 = η5 0 8 := rfl
          have wb1 : wB wl_l zTr η1 := k1.1.1
          have wb2 : wB wl_l zTr η2 := k3.1.1
          have wb3 : wB wl_l zTr η3 := by rw [eη3]; exact wk_ok (a := 41) (b := 41) (z := ((-2147483648), 2147483647)) zTr_k (GR := []) wb2 (by decide +kernel) (by decide) (by decide) (show ((-2147483648) : Int) ≤ x5 by omega) (show x5 ≤ (2147483647 : Int) by omega)
          have wb4 : wB wl_l zTr η4 := by rw [eη4]; exact wk_ok (a := 43) (b := 43) (z := (0, 8)) zTr_k (GR := []) wb3 (by decide +kernel) (by decide) (by decide) (show (0 : Int) ≤ x7 by omega) (show x7 ≤ (8 : Int) by omega)
          have wb5 : wB wl_l zTr η5 := k8.1.1
          have wbE : wB wl_l zTr η5 := wb5
          have I0 : H_l 0 0 0 η := hpp.1
          have I1 : H_l 0 0 0 η1 := k1.2.1
          have qk1 : η 0 8 = 4 := k1.2.2 c1
          have I2 : H_l 0 0 0 η2 := k3.2.1
          have qb3 : η1 0 19 ≤ η2 0 19 := k3.2.2.2
          have pw2 : 1 ≤ η2 0 41 ∧ η2 22 (η2 0 41 - 1).toNat ≤ 1 := by
            obtain ⟨j1, j2, j3, j4⟩ := I2.2
            rcases k3.2.2.1 rfl with h | h
            · exfalso
              rw [h] at j2
              have : cz_l η2 (Int.toNat 0) = 0 := rfl
              omega
            · refine ⟨?_, h⟩
              by_cases q : η2 0 41 = 0
              · exfalso
                rw [q] at j2
                have : cz_l η2 (Int.toNat 0) = 0 := rfl
                omega
              · omega
          have I3 : H_l 0 1 0 η3 := by rw [eη3]; exact h_eq (wa_pop I2 (pw2).1 (pw2).2 (by omega)) rfl (by omega) rfl
          have I4 : H_l 0 0 0 η4 := by rw [eη4]; exact h_eq (br_dn I3 (by omega)) rfl (by omega) rfl
          have I5 : H_l 0 0 0 η5 := k8.2.1
          have qt8 : ¬ η4 0 8 = 0 → 10 * (η5 0 6 - η5 0 7) + η5 0 8 < 10 * (η4 0 6 - η4 0 7) + η4 0 8 := k8.2.2
          refine ⟨I5.1, fun _ => ⟨I5, show 10 * (η5 0 6 - η5 0 7) + η5 0 8 < 10 * (η 0 6 - η 0 7) + η 0 8 by omega, fun w => ?_⟩⟩
          have w : η5 0 45 = 0 := w
          omega
      )
    (fun _ _ _ _ _ _ _ h => nomatch h)
    (List.forall_mem_cons.mpr ⟨⟨zDl_signs_0, zEl_signs_0, zFl_signs_0, 36, by decide +kernel, (by
      intro xs η0 hlx hp hpp ys η hr hl hI hig
      match ys, hl, hI, hig with
      | [], _, hI, hig =>
        refine ⟨?_, ?_⟩
        · refine List.forall_mem_cons.mpr ⟨?_, List.forall_mem_cons.mpr ⟨?_, List.forall_mem_cons.mpr ⟨?_, List.forall_mem_cons.mpr ⟨?_, List.forall_mem_cons.mpr ⟨?_, List.forall_mem_cons.mpr ⟨?_, List.forall_mem_cons.mpr ⟨?_, List.forall_mem_cons.mpr ⟨?_, List.forall_mem_cons.mpr ⟨?_, List.forall_mem_cons.mpr ⟨?_, List.forall_mem_cons.mpr ⟨?_, List.forall_mem_cons.mpr ⟨?_, List.forall_mem_cons.mpr ⟨?_, fun _ h => nomatch h⟩⟩⟩⟩⟩⟩⟩⟩⟩⟩⟩⟩⟩
          · show ((gC2 wl_l [(nat_lit 0, zPl_isSign, zOl_isSign, zMl_isSign), (nat_lit 1, zPl_wrong, zOl_wrong, zMl_wrong), (nat_lit 2, zPl_token, zOl_token, zMl_token), (nat_lit 3, zPl_isKey, zOl_isKey, zMl_isKey), (nat_lit 4, zPl_isCounted, zOl_isCounted, zMl_isCounted), (nat_lit 5, zPl_waitsFor, zOl_waitsFor, zMl_waitsFor), (nat_lit 6, zPl_rank, zOl_rank, zMl_rank), (nat_lit 7, zPl_bind, zOl_bind, zMl_bind)] pCl_signs qCl_signs) 3).1 [10] η
            have hw : η 0 45 = 0 := hig.2.1
            have hr1 : 1 ≤ η 0 19 := hig.2.2.1
            have hs1 : η 0 7 = η0 0 7 := hig.2.2.2.1
            have hs2 : η 0 6 = η0 0 6 := hig.2.2.2.2.1
            have hs3 : η 0 8 = η0 0 8 := hig.2.2.2.2.2.1
            have kk : η 0 8 = 5 → 0 ≤ η 0 9 ∧ η 0 9 ≤ 5 := hig.1.1.1.2.1.2
            have bd43 : (0 : Int) ≤ η 0 43 ∧ η 0 43 ≤ 8 := wf_ok (a := 43) (b := 43) (z := (0, 8)) hI.1.1 (by decide +kernel) (Nat.le_refl _) (Nat.le_refl _)
            have bd44 : (0 : Int) ≤ η 0 44 ∧ η 0 44 ≤ 64 := wf_ok (a := 44) (b := 44) (z := (0, 64)) hI.1.1 (by decide +kernel) (Nat.le_refl _) (Nat.le_refl _)
            have bd19 : (0 : Int) ≤ η 0 19 ∧ η 0 19 ≤ 64 := wf_ok (a := 19) (b := 19) (z := (0, 64)) hI.1.1 (by decide +kernel) (Nat.le_refl _) (Nat.le_refl _)
            obtain ⟨u1, u2, u3, u4⟩ := hig.1.2
            have cn := cz_n (η := η) (η 0 41).toNat
            have fmE : zFm zMl_signs η0 η := hI.2
            have fr22_0 : ∀ j, η 22 j = η 22 j := fun _ => rfl
            have fr22 : ∀ j, η 22 j = η 22 j := fun _ => rfl
            have f0_41 : η 0 41 = η 0 41 := rfl
            have w0_0_43 : (0 : Int) ≤ η 0 43 ∧ η 0 43 ≤ 8 := wf_ok (a := 43) (b := 43) (z := (0, 8)) hI.1.1 (by decide +kernel) (Nat.le_refl _) (Nat.le_refl _)
            have f0_43 : η 0 43 = η 0 43 := rfl
            have f0_42 : η 0 42 = η 0 42 := rfl
            have f0_45 : η 0 45 = η 0 45 := rfl
            have w0_0_19 : (0 : Int) ≤ η 0 19 ∧ η 0 19 ≤ 64 := wf_ok (a := 19) (b := 19) (z := (0, 64)) hI.1.1 (by decide +kernel) (Nat.le_refl _) (Nat.le_refl _)
            have f0_19 : η 0 19 = η 0 19 := rfl
            have w0_0_44 : (0 : Int) ≤ η 0 44 ∧ η 0 44 ≤ 64 := wf_ok (a := 44) (b := 44) (z := (0, 64)) hI.1.1 (by decide +kernel) (Nat.le_refl _) (Nat.le_refl _)
            have f0_44 : η 0 44 = η 0 44 := rfl
            have w0_0_7 : (0 : Int) ≤ η 0 7 ∧ η 0 7 ≤ 700 := wf_ok (a := 7) (b := 7) (z := (0, 700)) hI.1.1 (by decide +kernel) (Nat.le_refl _) (Nat.le_refl _)
            have f0_7 : η 0 7 = η 0 7 := rfl
            have w0_0_6 : (0 : Int) ≤ η 0 6 ∧ η 0 6 ≤ 700 := wf_ok (a := 6) (b := 6) (z := (0, 700)) hI.1.1 (by decide +kernel) (Nat.le_refl _) (Nat.le_refl _)
            have f0_6 : η 0 6 = η 0 6 := rfl
            have w0_0_8 : (0 : Int) ≤ η 0 8 ∧ η 0 8 ≤ 6 := wf_ok (a := 8) (b := 8) (z := (0, 6)) hI.1.1 (by decide +kernel) (Nat.le_refl _) (Nat.le_refl _)
            have f0_8 : η 0 8 = η 0 8 := rfl
            have wbE : wB wl_l zTr η := hI.1.1
            have I0 : H_l 0 0 0 η := hig.1
            exact I0
          · show ∀ (x1 : Int) (η1 : zE), ((gC2 wl_l [(nat_lit 0, zPl_isSign, zOl_isSign, zMl_isSign), (nat_lit 1, zPl_wrong, zOl_wrong, zMl_wrong), (nat_lit 2, zPl_token, zOl_token, zMl_token), (nat_lit 3, zPl_isKey, zOl_isKey, zMl_isKey), (nat_lit 4, zPl_isCounted, zOl_isCounted, zMl_isCounted), (nat_lit 5, zPl_waitsFor, zOl_waitsFor, zMl_waitsFor), (nat_lit 6, zPl_rank, zOl_rank, zMl_rank), (nat_lit 7, zPl_bind, zOl_bind, zMl_bind)] pCl_signs qCl_signs) 3).2 [10] η x1 η1 → (x1 = 0) → ((gC2 wl_l [(nat_lit 0, zPl_isSign, zOl_isSign, zMl_isSign), (nat_lit 1, zPl_wrong, zOl_wrong, zMl_wrong), (nat_lit 2, zPl_token, zOl_token, zMl_token), (nat_lit 3, zPl_isKey, zOl_isKey, zMl_isKey), (nat_lit 4, zPl_isCounted, zOl_isCounted, zMl_isCounted), (nat_lit 5, zPl_waitsFor, zOl_waitsFor, zMl_waitsFor), (nat_lit 6, zPl_rank, zOl_rank, zMl_rank), (nat_lit 7, zPl_bind, zOl_bind, zMl_bind)] pCl_signs qCl_signs) 3).1 [11] η1
            have hw : η 0 45 = 0 := hig.2.1
            have hr1 : 1 ≤ η 0 19 := hig.2.2.1
            have hs1 : η 0 7 = η0 0 7 := hig.2.2.2.1
            have hs2 : η 0 6 = η0 0 6 := hig.2.2.2.2.1
            have hs3 : η 0 8 = η0 0 8 := hig.2.2.2.2.2.1
            have kk : η 0 8 = 5 → 0 ≤ η 0 9 ∧ η 0 9 ≤ 5 := hig.1.1.1.2.1.2
            have bd43 : (0 : Int) ≤ η 0 43 ∧ η 0 43 ≤ 8 := wf_ok (a := 43) (b := 43) (z := (0, 8)) hI.1.1 (by decide +kernel) (Nat.le_refl _) (Nat.le_refl _)
            have bd44 : (0 : Int) ≤ η 0 44 ∧ η 0 44 ≤ 64 := wf_ok (a := 44) (b := 44) (z := (0, 64)) hI.1.1 (by decide +kernel) (Nat.le_refl _) (Nat.le_refl _)
            have bd19 : (0 : Int) ≤ η 0 19 ∧ η 0 19 ≤ 64 := wf_ok (a := 19) (b := 19) (z := (0, 64)) hI.1.1 (by decide +kernel) (Nat.le_refl _) (Nat.le_refl _)
            obtain ⟨u1, u2, u3, u4⟩ := hig.1.2
            have cn := cz_n (η := η) (η 0 41).toNat
            intro x1 η1 h1 c1
            have k1 : sQ wl_l zTr zOl_isKey zMl_isKey [10] η x1 η1 ∧ pQl_isKey [10] η x1 η1 := h1
            have c0_0_41 : η 0 41 = η 0 41 := rfl
            have w0_0_43 : (0 : Int) ≤ η 0 43 ∧ η 0 43 ≤ 8 := wf_ok (a := 43) (b := 43) (z := (0, 8)) hI.1.1 (by decide +kernel) (Nat.le_refl _) (Nat.le_refl _)
            have c0_0_43 : η 0 43 = η 0 43 := rfl
            have c0_0_42 : η 0 42 = η 0 42 := rfl
            have c0_0_45 : η 0 45 = η 0 45 := rfl
            have w0_0_19 : (0 : Int) ≤ η 0 19 ∧ η 0 19 ≤ 64 := wf_ok (a := 19) (b := 19) (z := (0, 64)) hI.1.1 (by decide +kernel) (Nat.le_refl _) (Nat.le_refl _)
            have c0_0_19 : η 0 19 = η 0 19 := rfl
            have w0_0_44 : (0 : Int) ≤ η 0 44 ∧ η 0 44 ≤ 64 := wf_ok (a := 44) (b := 44) (z := (0, 64)) hI.1.1 (by decide +kernel) (Nat.le_refl _) (Nat.le_refl _)
            have c0_0_44 : η 0 44 = η 0 44 := rfl
            have w0_0_7 : (0 : Int) ≤ η 0 7 ∧ η 0 7 ≤ 700 := wf_ok (a := 7) (b := 7) (z := (0, 700)) hI.1.1 (by decide +kernel) (Nat.le_refl _) (Nat.le_refl _)
            have c0_0_7 : η 0 7 = η 0 7 := rfl
            have w0_0_6 : (0 : Int) ≤ η 0 6 ∧ η 0 6 ≤ 700 := wf_ok (a := 6) (b := 6) (z := (0, 700)) hI.1.1 (by decide +kernel) (Nat.le_refl _) (Nat.le_refl _)
            have c0_0_6 : η 0 6 = η 0 6 := rfl
            have w0_0_8 : (0 : Int) ≤ η 0 8 ∧ η 0 8 ≤ 6 := wf_ok (a := 8) (b := 8) (z := (0, 6)) hI.1.1 (by decide +kernel) (Nat.le_refl _) (Nat.le_refl _)
            have c0_0_8 : η 0 8 = η 0 8 := rfl
            have bx1 : (0 : Int) ≤ x1 ∧ x1 ≤ 1 := k1.1.2.1
            have fm1 : zFm zMl_signs η0 η1 := zFm_tr2 hI.2 k1.1.2.2.2.1 (by decide +kernel)
            have fmE : zFm zMl_signs η0 η1 := fm1
            have fr22_0 : ∀ j, η 22 j = η 22 j := fun _ => rfl
            have v9 : ∀ j, η1 22 j = η 22 j := fun j => k1.1.2.2.2.1 22 _ (zinr_not (by decide +kernel))
            have fr22_1 : ∀ j, η1 22 j = η 22 j := v9
            have fr22 : ∀ j, η1 22 j = η 22 j := v9
            have v10 : η1 0 41 = η 0 41 := (k1.1.2.2.2.1 0 41 (by decide +kernel)).trans rfl
            have f0_41 : η1 0 41 = η 0 41 := v10
            have v11 : η1 0 43 = η 0 43 := (k1.1.2.2.2.1 0 43 (by decide +kernel)).trans rfl
            have f0_43 : η1 0 43 = η 0 43 := v11
            have v12 : η1 0 42 = η 0 42 := (k1.1.2.2.2.1 0 42 (by decide +kernel)).trans rfl
            have f0_42 : η1 0 42 = η 0 42 := v12
            have v13 : η1 0 45 = η 0 45 := (k1.1.2.2.2.1 0 45 (by decide +kernel)).trans rfl
            have f0_45 : η1 0 45 = η 0 45 := v13
            have v14 : η1 0 19 = η 0 19 := (k1.1.2.2.2.1 0 19 (by decide +kernel)).trans rfl
            have f0_19 : η1 0 19 = η 0 19 := v14
            have v15 : η1 0 44 = η 0 44 := (k1.1.2.2.2.1 0 44 (by decide +kernel)).trans rfl
            have f0_44 : η1 0 44 = η 0 44 := v15
            have v16 : η1 0 7 = η 0 7 := (k1.1.2.2.2.1 0 7 (by decide +kernel)).trans rfl
            have f0_7 : η1 0 7 = η 0 7 := v16
            have v17 : η1 0 6 = η 0 6 := (k1.1.2.2.2.1 0 6 (by decide +kernel)).trans rfl
            have f0_6 : η1 0 6 = η 0 6 := v17
            have v18 : η1 0 8 = η 0 8 := (k1.1.2.2.2.1 0 8 (by decide +kernel)).trans rfl
            have f0_8 : η1 0 8 = η 0 8 := v18
            have wb1 : wB wl_l zTr η1 := k1.1.1
            have wbE : wB wl_l zTr η1 := wb1
            have I0 : H_l 0 0 0 η := hig.1
            have I1 : H_l 0 0 0 η1 := k1.2.1
            exact I1
          · show ∀ (x1 : Int) (η1 : zE), ((gC2 wl_l [(nat_lit 0, zPl_isSign, zOl_isSign, zMl_isSign), (nat_lit 1, zPl_wrong, zOl_wrong, zMl_wrong), (nat_lit 2, zPl_token, zOl_token, zMl_token), (nat_lit 3, zPl_isKey, zOl_isKey, zMl_isKey), (nat_lit 4, zPl_isCounted, zOl_isCounted, zMl_isCounted), (nat_lit 5, zPl_waitsFor, zOl_waitsFor, zMl_waitsFor), (nat_lit 6, zPl_rank, zOl_rank, zMl_rank), (nat_lit 7, zPl_bind, zOl_bind, zMl_bind)] pCl_signs qCl_signs) 3).2 [10] η x1 η1 → (x1 = 0) → ∀ (x2 : Int) (η2 : zE), ((gC2 wl_l [(nat_lit 0, zPl_isSign, zOl_isSign, zMl_isSign), (nat_lit 1, zPl_wrong, zOl_wrong, zMl_wrong), (nat_lit 2, zPl_token, zOl_token, zMl_token), (nat_lit 3, zPl_isKey, zOl_isKey, zMl_isKey), (nat_lit 4, zPl_isCounted, zOl_isCounted, zMl_isCounted), (nat_lit 5, zPl_waitsFor, zOl_waitsFor, zMl_waitsFor), (nat_lit 6, zPl_rank, zOl_rank, zMl_rank), (nat_lit 7, zPl_bind, zOl_bind, zMl_bind)] pCl_signs qCl_signs) 3).2 [11] η1 x2 η2 → (x2 = 0) → ∀ x3 : Int, x3 = η2 0 (Int.toNat 8) → zok 0 x3 → (¬ x3 = 5) → ((gC2 wl_l [(nat_lit 0, zPl_isSign, zOl_isSign, zMl_isSign), (nat_lit 1, zPl_wrong, zOl_wrong, zMl_wrong), (nat_lit 2, zPl_token, zOl_token, zMl_token), (nat_lit 3, zPl_isKey, zOl_isKey, zMl_isKey), (nat_lit 4, zPl_isCounted, zOl_isCounted, zMl_isCounted), (nat_lit 5, zPl_waitsFor, zOl_waitsFor, zMl_waitsFor), (nat_lit 6, zPl_rank, zOl_rank, zMl_rank), (nat_lit 7, zPl_bind, zOl_bind, zMl_bind)] pCl_signs qCl_signs) 0).1 [43] η2
            have hw : η 0 45 = 0 := hig.2.1
            have hr1 : 1 ≤ η 0 19 := hig.2.2.1
            have hs1 : η 0 7 = η0 0 7 := hig.2.2.2.1
            have hs2 : η 0 6 = η0 0 6 := hig.2.2.2.2.1
            have hs3 : η 0 8 = η0 0 8 := hig.2.2.2.2.2.1
            have kk : η 0 8 = 5 → 0 ≤ η 0 9 ∧ η 0 9 ≤ 5 := hig.1.1.1.2.1.2
            have bd43 : (0 : Int) ≤ η 0 43 ∧ η 0 43 ≤ 8 := wf_ok (a := 43) (b := 43) (z := (0, 8)) hI.1.1 (by decide +kernel) (Nat.le_refl _) (Nat.le_refl _)
            have bd44 : (0 : Int) ≤ η 0 44 ∧ η 0 44 ≤ 64 := wf_ok (a := 44) (b := 44) (z := (0, 64)) hI.1.1 (by decide +kernel) (Nat.le_refl _) (Nat.le_refl _)
            have bd19 : (0 : Int) ≤ η 0 19 ∧ η 0 19 ≤ 64 := wf_ok (a := 19) (b := 19) (z := (0, 64)) hI.1.1 (by decide +kernel) (Nat.le_refl _) (Nat.le_refl _)
            obtain ⟨u1, u2, u3, u4⟩ := hig.1.2
            have cn := cz_n (η := η) (η 0 41).toNat
            intro x1 η1 h1 c1 x2 η2 h2 c2 x3 e3 r3 c3
            have k1 : sQ wl_l zTr zOl_isKey zMl_isKey [10] η x1 η1 ∧ pQl_isKey [10] η x1 η1 := h1
            have k2 : sQ wl_l zTr zOl_isKey zMl_isKey [11] η1 x2 η2 ∧ pQl_isKey [11] η1 x2 η2 := h2
            have c0_0_41 : η 0 41 = η 0 41 := rfl
            have w0_0_43 : (0 : Int) ≤ η 0 43 ∧ η 0 43 ≤ 8 := wf_ok (a := 43) (b := 43) (z := (0, 8)) hI.1.1 (by decide +kernel) (Nat.le_refl _) (Nat.le_refl _)
            have c0_0_43 : η 0 43 = η 0 43 := rfl
            have c0_0_42 : η 0 42 = η 0 42 := rfl
            have c0_0_45 : η 0 45 = η 0 45 := rfl
            have w0_0_19 : (0 : Int) ≤ η 0 19 ∧ η 0 19 ≤ 64 := wf_ok (a := 19) (b := 19) (z := (0, 64)) hI.1.1 (by decide +kernel) (Nat.le_refl _) (Nat.le_refl _)
            have c0_0_19 : η 0 19 = η 0 19 := rfl
            have w0_0_44 : (0 : Int) ≤ η 0 44 ∧ η 0 44 ≤ 64 := wf_ok (a := 44) (b := 44) (z := (0, 64)) hI.1.1 (by decide +kernel) (Nat.le_refl _) (Nat.le_refl _)
            have c0_0_44 : η 0 44 = η 0 44 := rfl
            have w0_0_7 : (0 : Int) ≤ η 0 7 ∧ η 0 7 ≤ 700 := wf_ok (a := 7) (b := 7) (z := (0, 700)) hI.1.1 (by decide +kernel) (Nat.le_refl _) (Nat.le_refl _)
            have c0_0_7 : η 0 7 = η 0 7 := rfl
            have w0_0_6 : (0 : Int) ≤ η 0 6 ∧ η 0 6 ≤ 700 := wf_ok (a := 6) (b := 6) (z := (0, 700)) hI.1.1 (by decide +kernel) (Nat.le_refl _) (Nat.le_refl _)
            have c0_0_6 : η 0 6 = η 0 6 := rfl
            have w0_0_8 : (0 : Int) ≤ η 0 8 ∧ η 0 8 ≤ 6 := wf_ok (a := 8) (b := 8) (z := (0, 6)) hI.1.1 (by decide +kernel) (Nat.le_refl _) (Nat.le_refl _)
            have c0_0_8 : η 0 8 = η 0 8 := rfl
            have bx1 : (0 : Int) ≤ x1 ∧ x1 ≤ 1 := k1.1.2.1
            have v9 : η1 0 41 = η 0 41 := (k1.1.2.2.2.1 0 41 (by decide +kernel)).trans rfl
            have c1_0_41 : η1 0 41 = η 0 41 := v9
            have v10 : η1 0 43 = η 0 43 := (k1.1.2.2.2.1 0 43 (by decide +kernel)).trans rfl
            have c1_0_43 : η1 0 43 = η 0 43 := v10
            have v11 : η1 0 42 = η 0 42 := (k1.1.2.2.2.1 0 42 (by decide +kernel)).trans rfl
            have c1_0_42 : η1 0 42 = η 0 42 := v11
            have v12 : η1 0 45 = η 0 45 := (k1.1.2.2.2.1 0 45 (by decide +kernel)).trans rfl
            have c1_0_45 : η1 0 45 = η 0 45 := v12
            have v13 : η1 0 19 = η 0 19 := (k1.1.2.2.2.1 0 19 (by decide +kernel)).trans rfl
            have c1_0_19 : η1 0 19 = η 0 19 := v13
            have v14 : η1 0 44 = η 0 44 := (k1.1.2.2.2.1 0 44 (by decide +kernel)).trans rfl
            have c1_0_44 : η1 0 44 = η 0 44 := v14
            have v15 : η1 0 7 = η 0 7 := (k1.1.2.2.2.1 0 7 (by decide +kernel)).trans rfl
            have c1_0_7 : η1 0 7 = η 0 7 := v15
            have v16 : η1 0 6 = η 0 6 := (k1.1.2.2.2.1 0 6 (by decide +kernel)).trans rfl
            have c1_0_6 : η1 0 6 = η 0 6 := v16
            have v17 : η1 0 8 = η 0 8 := (k1.1.2.2.2.1 0 8 (by decide +kernel)).trans rfl
            have c1_0_8 : η1 0 8 = η 0 8 := v17
            have bx2 : (0 : Int) ≤ x2 ∧ x2 ≤ 1 := k2.1.2.1
            have v18 : η2 0 8 = η 0 8 := (k2.1.2.2.2.1 0 8 (by decide +kernel)).trans v17
            replace e3 : x3 = η 0 8 := e3.trans v18
            replace r3 : -2147483648 ≤ x3 ∧ x3 ≤ 2147483647 := r3
            have fm1 : zFm zMl_signs η0 η1 := zFm_tr2 hI.2 k1.1.2.2.2.1 (by decide +kernel)
            have fm2 : zFm zMl_signs η0 η2 := zFm_tr2 fm1 k2.1.2.2.2.1 (by decide +kernel)
            have fmE : zFm zMl_signs η0 η2 := fm2
            have fr22_0 : ∀ j, η 22 j = η 22 j := fun _ => rfl
            have v19 : ∀ j, η1 22 j = η 22 j := fun j => k1.1.2.2.2.1 22 _ (zinr_not (by decide +kernel))
            have fr22_1 : ∀ j, η1 22 j = η 22 j := v19
            have v20 : ∀ j, η2 22 j = η 22 j := fun j => (k2.1.2.2.2.1 22 _ (zinr_not (by decide +kernel))).trans (v19 j)
            have fr22_2 : ∀ j, η2 22 j = η 22 j := v20
            have fr22 : ∀ j, η2 22 j = η 22 j := v20
            have v21 : η2 0 41 = η 0 41 := (k2.1.2.2.2.1 0 41 (by decide +kernel)).trans v9
            have f0_41 : η2 0 41 = η 0 41 := v21
            have v22 : η2 0 43 = η 0 43 := (k2.1.2.2.2.1 0 43 (by decide +kernel)).trans v10
            have f0_43 : η2 0 43 = η 0 43 := v22
            have v23 : η2 0 42 = η 0 42 := (k2.1.2.2.2.1 0 42 (by decide +kernel)).trans v11
            have f0_42 : η2 0 42 = η 0 42 := v23
            have v24 : η2 0 45 = η 0 45 := (k2.1.2.2.2.1 0 45 (by decide +kernel)).trans v12
            have f0_45 : η2 0 45 = η 0 45 := v24
            have v25 : η2 0 19 = η 0 19 := (k2.1.2.2.2.1 0 19 (by decide +kernel)).trans v13
            have f0_19 : η2 0 19 = η 0 19 := v25
            have v26 : η2 0 44 = η 0 44 := (k2.1.2.2.2.1 0 44 (by decide +kernel)).trans v14
            have f0_44 : η2 0 44 = η 0 44 := v26
            have v27 : η2 0 7 = η 0 7 := (k2.1.2.2.2.1 0 7 (by decide +kernel)).trans v15
            have f0_7 : η2 0 7 = η 0 7 := v27
            have v28 : η2 0 6 = η 0 6 := (k2.1.2.2.2.1 0 6 (by decide +kernel)).trans v16
            have f0_6 : η2 0 6 = η 0 6 := v28
            have f0_8 : η2 0 8 = η 0 8 := v18
            have wb1 : wB wl_l zTr η1 := k1.1.1
            have wb2 : wB wl_l zTr η2 := k2.1.1
            have wbE : wB wl_l zTr η2 := wb2
            have I0 : H_l 0 0 0 η := hig.1
            have I1 : H_l 0 0 0 η1 := k1.2.1
            have I2 : H_l 0 0 0 η2 := k2.2.1
            exact I2
          · show ∀ (x1 : Int) (η1 : zE), ((gC2 wl_l [(nat_lit 0, zPl_isSign, zOl_isSign, zMl_isSign), (nat_lit 1, zPl_wrong, zOl_wrong, zMl_wrong), (nat_lit 2, zPl_token, zOl_token, zMl_token), (nat_lit 3, zPl_isKey, zOl_isKey, zMl_isKey), (nat_lit 4, zPl_isCounted, zOl_isCounted, zMl_isCounted), (nat_lit 5, zPl_waitsFor, zOl_waitsFor, zMl_waitsFor), (nat_lit 6, zPl_rank, zOl_rank, zMl_rank), (nat_lit 7, zPl_bind, zOl_bind, zMl_bind)] pCl_signs qCl_signs) 3).2 [10] η x1 η1 → (x1 = 0) → ∀ (x2 : Int) (η2 : zE), ((gC2 wl_l [(nat_lit 0, zPl_isSign, zOl_isSign, zMl_isSign), (nat_lit 1, zPl_wrong, zOl_wrong, zMl_wrong), (nat_lit 2, zPl_token, zOl_token, zMl_token), (nat_lit 3, zPl_isKey, zOl_isKey, zMl_isKey), (nat_lit 4, zPl_isCounted, zOl_isCounted, zMl_isCounted), (nat_lit 5, zPl_waitsFor, zOl_waitsFor, zMl_waitsFor), (nat_lit 6, zPl_rank, zOl_rank, zMl_rank), (nat_lit 7, zPl_bind, zOl_bind, zMl_bind)] pCl_signs qCl_signs) 3).2 [11] η1 x2 η2 → (x2 = 0) → ∀ x3 : Int, x3 = η2 0 (Int.toNat 8) → zok 0 x3 → (¬ x3 = 5) → ∀ (x4 : Int) (η3 : zE), ((gC2 wl_l [(nat_lit 0, zPl_isSign, zOl_isSign, zMl_isSign), (nat_lit 1, zPl_wrong, zOl_wrong, zMl_wrong), (nat_lit 2, zPl_token, zOl_token, zMl_token), (nat_lit 3, zPl_isKey, zOl_isKey, zMl_isKey), (nat_lit 4, zPl_isCounted, zOl_isCounted, zMl_isCounted), (nat_lit 5, zPl_waitsFor, zOl_waitsFor, zMl_waitsFor), (nat_lit 6, zPl_rank, zOl_rank, zMl_rank), (nat_lit 7, zPl_bind, zOl_bind, zMl_bind)] pCl_signs qCl_signs) 0).2 [43] η2 x4 η3 → (x4 = 0) → ((gC2 wl_l [(nat_lit 0, zPl_isSign, zOl_isSign, zMl_isSign), (nat_lit 1, zPl_wrong, zOl_wrong, zMl_wrong), (nat_lit 2, zPl_token, zOl_token, zMl_token), (nat_lit 3, zPl_isKey, zOl_isKey, zMl_isKey), (nat_lit 4, zPl_isCounted, zOl_isCounted, zMl_isCounted), (nat_lit 5, zPl_waitsFor, zOl_waitsFor, zMl_waitsFor), (nat_lit 6, zPl_rank, zOl_rank, zMl_rank), (nat_lit 7, zPl_bind, zOl_bind, zMl_bind)] pCl_signs qCl_signs) 0).1 [45] η3
            have hw : η 0 45 = 0 := hig.2.1
            have hr1 : 1 ≤ η 0 19 := hig.2.2.1
            have hs1 : η 0 7 = η0 0 7 := hig.2.2.2.1
            have hs2 : η 0 6 = η0 0 6 := hig.2.2.2.2.1
            have hs3 : η 0 8 = η0 0 8 := hig.2.2.2.2.2.1
            have kk : η 0 8 = 5 → 0 ≤ η 0 9 ∧ η 0 9 ≤ 5 := hig.1.1.1.2.1.2
            have bd43 : (0 : Int) ≤ η 0 43 ∧ η 0 43 ≤ 8 := wf_ok (a := 43) (b := 43) (z := (0, 8)) hI.1.1 (by decide +kernel) (Nat.le_refl _) (Nat.le_refl _)
            have bd44 : (0 : Int) ≤ η 0 44 ∧ η 0 44 ≤ 64 := wf_ok (a := 44) (b := 44) (z := (0, 64)) hI.1.1 (by decide +kernel) (Nat.le_refl _) (Nat.le_refl _)
            have bd19 : (0 : Int) ≤ η 0 19 ∧ η 0 19 ≤ 64 := wf_ok (a := 19) (b := 19) (z := (0, 64)) hI.1.1 (by decide +kernel) (Nat.le_refl _) (Nat.le_refl _)
            obtain ⟨u1, u2, u3, u4⟩ := hig.1.2
            have cn := cz_n (η := η) (η 0 41).toNat
            intro x1 η1 h1 c1 x2 η2 h2 c2 x3 e3 r3 c3 x4 η3 h4 c4
            have k1 : sQ wl_l zTr zOl_isKey zMl_isKey [10] η x1 η1 ∧ pQl_isKey [10] η x1 η1 := h1
            have k2 : sQ wl_l zTr zOl_isKey zMl_isKey [11] η1 x2 η2 ∧ pQl_isKey [11] η1 x2 η2 := h2
            have k4 : sQ wl_l zTr zOl_isSign zMl_isSign [43] η2 x4 η3 ∧ pQl_isSign [43] η2 x4 η3 := h4
            have c0_0_41 : η 0 41 = η 0 41 := rfl
            have w0_0_43 : (0 : Int) ≤ η 0 43 ∧ η 0 43 ≤ 8 := wf_ok (a := 43) (b := 43) (z := (0, 8)) hI.1.1 (by decide +kernel) (Nat.le_refl _) (Nat.le_refl _)
            have c0_0_43 : η 0 43 = η 0 43 := rfl
            have c0_0_42 : η 0 42 = η 0 42 := rfl
            have c0_0_45 : η 0 45 = η 0 45 := rfl
            have w0_0_19 : (0 : Int) ≤ η 0 19 ∧ η 0 19 ≤ 64 := wf_ok (a := 19) (b := 19) (z := (0, 64)) hI.1.1 (by decide +kernel) (Nat.le_refl _) (Nat.le_refl _)
            have c0_0_19 : η 0 19 = η 0 19 := rfl
            have w0_0_44 : (0 : Int) ≤ η 0 44 ∧ η 0 44 ≤ 64 := wf_ok (a := 44) (b := 44) (z := (0, 64)) hI.1.1 (by decide +kernel) (Nat.le_refl _) (Nat.le_refl _)
            have c0_0_44 : η 0 44 = η 0 44 := rfl
            have w0_0_7 : (0 : Int) ≤ η 0 7 ∧ η 0 7 ≤ 700 := wf_ok (a := 7) (b := 7) (z := (0, 700)) hI.1.1 (by decide +kernel) (Nat.le_refl _) (Nat.le_refl _)
            have c0_0_7 : η 0 7 = η 0 7 := rfl
            have w0_0_6 : (0 : Int) ≤ η 0 6 ∧ η 0 6 ≤ 700 := wf_ok (a := 6) (b := 6) (z := (0, 700)) hI.1.1 (by decide +kernel) (Nat.le_refl _) (Nat.le_refl _)
            have c0_0_6 : η 0 6 = η 0 6 := rfl
            have w0_0_8 : (0 : Int) ≤ η 0 8 ∧ η 0 8 ≤ 6 := wf_ok (a := 8) (b := 8) (z := (0, 6)) hI.1.1 (by decide +kernel) (Nat.le_refl _) (Nat.le_refl _)
            have c0_0_8 : η 0 8 = η 0 8 := rfl
            have bx1 : (0 : Int) ≤ x1 ∧ x1 ≤ 1 := k1.1.2.1
            have v9 : η1 0 41 = η 0 41 := (k1.1.2.2.2.1 0 41 (by decide +kernel)).trans rfl
            have c1_0_41 : η1 0 41 = η 0 41 := v9
            have v10 : η1 0 43 = η 0 43 := (k1.1.2.2.2.1 0 43 (by decide +kernel)).trans rfl
            have c1_0_43 : η1 0 43 = η 0 43 := v10
            have v11 : η1 0 42 = η 0 42 := (k1.1.2.2.2.1 0 42 (by decide +kernel)).trans rfl
            have c1_0_42 : η1 0 42 = η 0 42 := v11
            have v12 : η1 0 45 = η 0 45 := (k1.1.2.2.2.1 0 45 (by decide +kernel)).trans rfl
            have c1_0_45 : η1 0 45 = η 0 45 := v12
            have v13 : η1 0 19 = η 0 19 := (k1.1.2.2.2.1 0 19 (by decide +kernel)).trans rfl
            have c1_0_19 : η1 0 19 = η 0 19 := v13
            have v14 : η1 0 44 = η 0 44 := (k1.1.2.2.2.1 0 44 (by decide +kernel)).trans rfl
            have c1_0_44 : η1 0 44 = η 0 44 := v14
            have v15 : η1 0 7 = η 0 7 := (k1.1.2.2.2.1 0 7 (by decide +kernel)).trans rfl
            have c1_0_7 : η1 0 7 = η 0 7 := v15
            have v16 : η1 0 6 = η 0 6 := (k1.1.2.2.2.1 0 6 (by decide +kernel)).trans rfl
            have c1_0_6 : η1 0 6 = η 0 6 := v16
            have v17 : η1 0 8 = η 0 8 := (k1.1.2.2.2.1 0 8 (by decide +kernel)).trans rfl
            have c1_0_8 : η1 0 8 = η 0 8 := v17
            have bx2 : (0 : Int) ≤ x2 ∧ x2 ≤ 1 := k2.1.2.1
            have v18 : η2 0 8 = η 0 8 := (k2.1.2.2.2.1 0 8 (by decide +kernel)).trans v17
            replace e3 : x3 = η 0 8 := e3.trans v18
            replace r3 : -2147483648 ≤ x3 ∧ x3 ≤ 2147483647 := r3
            have v19 : η2 0 41 = η 0 41 := (k2.1.2.2.2.1 0 41 (by decide +kernel)).trans v9
            have c2_0_41 : η2 0 41 = η 0 41 := v19
            have v20 : η2 0 43 = η 0 43 := (k2.1.2.2.2.1 0 43 (by decide +kernel)).trans v10
            have c2_0_43 : η2 0 43 = η 0 43 := v20
            have v21 : η2 0 42 = η 0 42 := (k2.1.2.2.2.1 0 42 (by decide +kernel)).trans v11
            have c2_0_42 : η2 0 42 = η 0 42 := v21
            have v22 : η2 0 45 = η 0 45 := (k2.1.2.2.2.1 0 45 (by decide +kernel)).trans v12
            have c2_0_45 : η2 0 45 = η 0 45 := v22
            have v23 : η2 0 19 = η 0 19 := (k2.1.2.2.2.1 0 19 (by decide +kernel)).trans v13
            have c2_0_19 : η2 0 19 = η 0 19 := v23
            have v24 : η2 0 44 = η 0 44 := (k2.1.2.2.2.1 0 44 (by decide +kernel)).trans v14
            have c2_0_44 : η2 0 44 = η 0 44 := v24
            have v25 : η2 0 7 = η 0 7 := (k2.1.2.2.2.1 0 7 (by decide +kernel)).trans v15
            have c2_0_7 : η2 0 7 = η 0 7 := v25
            have v26 : η2 0 6 = η 0 6 := (k2.1.2.2.2.1 0 6 (by decide +kernel)).trans v16
            have c2_0_6 : η2 0 6 = η 0 6 := v26
            have c2_0_8 : η2 0 8 = η 0 8 := v18
            have bx4 : (0 : Int) ≤ x4 ∧ x4 ≤ 1 := k4.1.2.1
            have fm1 : zFm zMl_signs η0 η1 := zFm_tr2 hI.2 k1.1.2.2.2.1 (by decide +kernel)
            have fm2 : zFm zMl_signs η0 η2 := zFm_tr2 fm1 k2.1.2.2.2.1 (by decide +kernel)
            have fm3 : zFm zMl_signs η0 η3 := zFm_tr2 fm2 k4.1.2.2.2.1 (by decide +kernel)
            have fmE : zFm zMl_signs η0 η3 := fm3
            have fr22_0 : ∀ j, η 22 j = η 22 j := fun _ => rfl
            have v27 : ∀ j, η1 22 j = η 22 j := fun j => k1.1.2.2.2.1 22 _ (zinr_not (by decide +kernel))
            have fr22_1 : ∀ j, η1 22 j = η 22 j := v27
            have v28 : ∀ j, η2 22 j = η 22 j := fun j => (k2.1.2.2.2.1 22 _ (zinr_not (by decide +kernel))).trans (v27 j)
            have fr22_2 : ∀ j, η2 22 j = η 22 j := v28
            have v29 : ∀ j, η3 22 j = η 22 j := fun j => (k4.1.2.2.2.1 22 _ (zinr_not (by decide +kernel))).trans (v28 j)
            have fr22_3 : ∀ j, η3 22 j = η 22 j := v29
            have fr22 : ∀ j, η3 22 j = η 22 j := v29
            have v30 : η3 0 41 = η 0 41 := (k4.1.2.2.2.1 0 41 (by decide +kernel)).trans v19
            have f0_41 : η3 0 41 = η 0 41 := v30
            have v31 : η3 0 43 = η 0 43 := (k4.1.2.2.2.1 0 43 (by decide +kernel)).trans v20
            have f0_43 : η3 0 43 = η 0 43 := v31
            have v32 : η3 0 42 = η 0 42 := (k4.1.2.2.2.1 0 42 (by decide +kernel)).trans v21
            have f0_42 : η3 0 42 = η 0 42 := v32
            have v33 : η3 0 45 = η 0 45 := (k4.1.2.2.2.1 0 45 (by decide +kernel)).trans v22
            have f0_45 : η3 0 45 = η 0 45 := v33
            have v34 : η3 0 19 = η 0 19 := (k4.1.2.2.2.1 0 19 (by decide +kernel)).trans v23
            have f0_19 : η3 0 19 = η 0 19 := v34
            have v35 : η3 0 44 = η 0 44 := (k4.1.2.2.2.1 0 44 (by decide +kernel)).trans v24
            have f0_44 : η3 0 44 = η 0 44 := v35
            have v36 : η3 0 7 = η 0 7 := (k4.1.2.2.2.1 0 7 (by decide +kernel)).trans v25
            have f0_7 : η3 0 7 = η 0 7 := v36
            have v37 : η3 0 6 = η 0 6 := (k4.1.2.2.2.1 0 6 (by decide +kernel)).trans v26
            have f0_6 : η3 0 6 = η 0 6 := v37
            have v38 : η3 0 8 = η 0 8 := (k4.1.2.2.2.1 0 8 (by decide +kernel)).trans v18
            have f0_8 : η3 0 8 = η 0 8 := v38
            have wb1 : wB wl_l zTr η1 := k1.1.1
            have wb2 : wB wl_l zTr η2 := k2.1.1
            have wb3 : wB wl_l zTr η3 := k4.1.1
            have wbE : wB wl_l zTr η3 := wb3
            have I0 : H_l 0 0 0 η := hig.1
            have I1 : H_l 0 0 0 η1 := k1.2.1
            have I2 : H_l 0 0 0 η2 := k2.2.1
            have I3 : H_l 0 0 0 η3 := k4.2.1
            exact I3
          · show ∀ (x1 : Int) (η1 : zE), ((gC2 wl_l [(nat_lit 0, zPl_isSign, zOl_isSign, zMl_isSign), (nat_lit 1, zPl_wrong, zOl_wrong, zMl_wrong), (nat_lit 2, zPl_token, zOl_token, zMl_token), (nat_lit 3, zPl_isKey, zOl_isKey, zMl_isKey), (nat_lit 4, zPl_isCounted, zOl_isCounted, zMl_isCounted), (nat_lit 5, zPl_waitsFor, zOl_waitsFor, zMl_waitsFor), (nat_lit 6, zPl_rank, zOl_rank, zMl_rank), (nat_lit 7, zPl_bind, zOl_bind, zMl_bind)] pCl_signs qCl_signs) 3).2 [10] η x1 η1 → (x1 = 0) → ∀ (x2 : Int) (η2 : zE), ((gC2 wl_l [(nat_lit 0, zPl_isSign, zOl_isSign, zMl_isSign), (nat_lit 1, zPl_wrong, zOl_wrong, zMl_wrong), (nat_lit 2, zPl_token, zOl_token, zMl_token), (nat_lit 3, zPl_isKey, zOl_isKey, zMl_isKey), (nat_lit 4, zPl_isCounted, zOl_isCounted, zMl_isCounted), (nat_lit 5, zPl_waitsFor, zOl_waitsFor, zMl_waitsFor), (nat_lit 6, zPl_rank, zOl_rank, zMl_rank), (nat_lit 7, zPl_bind, zOl_bind, zMl_bind)] pCl_signs qCl_signs) 3).2 [11] η1 x2 η2 → (x2 = 0) → ∀ x3 : Int, x3 = η2 0 (Int.toNat 8) → zok 0 x3 → (¬ x3 = 5) → ∀ (x4 : Int) (η3 : zE), ((gC2 wl_l [(nat_lit 0, zPl_isSign, zOl_isSign, zMl_isSign), (nat_lit 1, zPl_wrong, zOl_wrong, zMl_wrong), (nat_lit 2, zPl_token, zOl_token, zMl_token), (nat_lit 3, zPl_isKey, zOl_isKey, zMl_isKey), (nat_lit 4, zPl_isCounted, zOl_isCounted, zMl_isCounted), (nat_lit 5, zPl_waitsFor, zOl_waitsFor, zMl_waitsFor), (nat_lit 6, zPl_rank, zOl_rank, zMl_rank), (nat_lit 7, zPl_bind, zOl_bind, zMl_bind)] pCl_signs qCl_signs) 0).2 [43] η2 x4 η3 → (x4 = 0) → ∀ (x5 : Int) (η4 : zE), ((gC2 wl_l [(nat_lit 0, zPl_isSign, zOl_isSign, zMl_isSign), (nat_lit 1, zPl_wrong, zOl_wrong, zMl_wrong), (nat_lit 2, zPl_token, zOl_token, zMl_token), (nat_lit 3, zPl_isKey, zOl_isKey, zMl_isKey), (nat_lit 4, zPl_isCounted, zOl_isCounted, zMl_isCounted), (nat_lit 5, zPl_waitsFor, zOl_waitsFor, zMl_waitsFor), (nat_lit 6, zPl_rank, zOl_rank, zMl_rank), (nat_lit 7, zPl_bind, zOl_bind, zMl_bind)] pCl_signs qCl_signs) 0).2 [45] η3 x5 η4 → (x5 = 0) → ((gC2 wl_l [(nat_lit 0, zPl_isSign, zOl_isSign, zMl_isSign), (nat_lit 1, zPl_wrong, zOl_wrong, zMl_wrong), (nat_lit 2, zPl_token, zOl_token, zMl_token), (nat_lit 3, zPl_isKey, zOl_isKey, zMl_isKey), (nat_lit 4, zPl_isCounted, zOl_isCounted, zMl_isCounted), (nat_lit 5, zPl_waitsFor, zOl_waitsFor, zMl_waitsFor), (nat_lit 6, zPl_rank, zOl_rank, zMl_rank), (nat_lit 7, zPl_bind, zOl_bind, zMl_bind)] pCl_signs qCl_signs) 0).1 [42] η4
            have hw : η 0 45 = 0 := hig.2.1
            have hr1 : 1 ≤ η 0 19 := hig.2.2.1
            have hs1 : η 0 7 = η0 0 7 := hig.2.2.2.1
            have hs2 : η 0 6 = η0 0 6 := hig.2.2.2.2.1
            have hs3 : η 0 8 = η0 0 8 := hig.2.2.2.2.2.1
            have kk : η 0 8 = 5 → 0 ≤ η 0 9 ∧ η 0 9 ≤ 5 := hig.1.1.1.2.1.2
            have bd43 : (0 : Int) ≤ η 0 43 ∧ η 0 43 ≤ 8 := wf_ok (a := 43) (b := 43) (z := (0, 8)) hI.1.1 (by decide +kernel) (Nat.le_refl _) (Nat.le_refl _)
            have bd44 : (0 : Int) ≤ η 0 44 ∧ η 0 44 ≤ 64 := wf_ok (a := 44) (b := 44) (z := (0, 64)) hI.1.1 (by decide +kernel) (Nat.le_refl _) (Nat.le_refl _)
            have bd19 : (0 : Int) ≤ η 0 19 ∧ η 0 19 ≤ 64 := wf_ok (a := 19) (b := 19) (z := (0, 64)) hI.1.1 (by decide +kernel) (Nat.le_refl _) (Nat.le_refl _)
            obtain ⟨u1, u2, u3, u4⟩ := hig.1.2
            have cn := cz_n (η := η) (η 0 41).toNat
            intro x1 η1 h1 c1 x2 η2 h2 c2 x3 e3 r3 c3 x4 η3 h4 c4 x5 η4 h5 c5
            have k1 : sQ wl_l zTr zOl_isKey zMl_isKey [10] η x1 η1 ∧ pQl_isKey [10] η x1 η1 := h1
            have k2 : sQ wl_l zTr zOl_isKey zMl_isKey [11] η1 x2 η2 ∧ pQl_isKey [11] η1 x2 η2 := h2
            have k4 : sQ wl_l zTr zOl_isSign zMl_isSign [43] η2 x4 η3 ∧ pQl_isSign [43] η2 x4 η3 := h4
            have k5 : sQ wl_l zTr zOl_isSign zMl_isSign [45] η3 x5 η4 ∧ pQl_isSign [45] η3 x5 η4 := h5
            have c0_0_41 : η 0 41 = η 0 41 := rfl
            have w0_0_43 : (0 : Int) ≤ η 0 43 ∧ η 0 43 ≤ 8 := wf_ok (a := 43) (b := 43) (z := (0, 8)) hI.1.1 (by decide +kernel) (Nat.le_refl _) (Nat.le_refl _)
            have c0_0_43 : η 0 43 = η 0 43 := rfl
            have c0_0_42 : η 0 42 = η 0 42 := rfl
            have c0_0_45 : η 0 45 = η 0 45 := rfl
            have w0_0_19 : (0 : Int) ≤ η 0 19 ∧ η 0 19 ≤ 64 := wf_ok (a := 19) (b := 19) (z := (0, 64)) hI.1.1 (by decide +kernel) (Nat.le_refl _) (Nat.le_refl _)
            have c0_0_19 : η 0 19 = η 0 19 := rfl
            have w0_0_44 : (0 : Int) ≤ η 0 44 ∧ η 0 44 ≤ 64 := wf_ok (a := 44) (b := 44) (z := (0, 64)) hI.1.1 (by decide +kernel) (Nat.le_refl _) (Nat.le_refl _)
            have c0_0_44 : η 0 44 = η 0 44 := rfl
            have w0_0_7 : (0 : Int) ≤ η 0 7 ∧ η 0 7 ≤ 700 := wf_ok (a := 7) (b := 7) (z := (0, 700)) hI.1.1 (by decide +kernel) (Nat.le_refl _) (Nat.le_refl _)
            have c0_0_7 : η 0 7 = η 0 7 := rfl
            have w0_0_6 : (0 : Int) ≤ η 0 6 ∧ η 0 6 ≤ 700 := wf_ok (a := 6) (b := 6) (z := (0, 700)) hI.1.1 (by decide +kernel) (Nat.le_refl _) (Nat.le_refl _)
            have c0_0_6 : η 0 6 = η 0 6 := rfl
            have w0_0_8 : (0 : Int) ≤ η 0 8 ∧ η 0 8 ≤ 6 := wf_ok (a := 8) (b := 8) (z := (0, 6)) hI.1.1 (by decide +kernel) (Nat.le_refl _) (Nat.le_refl _)
            have c0_0_8 : η 0 8 = η 0 8 := rfl
            have bx1 : (0 : Int) ≤ x1 ∧ x1 ≤ 1 := k1.1.2.1
            have v9 : η1 0 41 = η 0 41 := (k1.1.2.2.2.1 0 41 (by decide +kernel)).trans rfl
            have c1_0_41 : η1 0 41 = η 0 41 := v9
            have v10 : η1 0 43 = η 0 43 := (k1.1.2.2.2.1 0 43 (by decide +kernel)).trans rfl
            have c1_0_43 : η1 0 43 = η 0 43 := v10
            have v11 : η1 0 42 = η 0 42 := (k1.1.2.2.2.1 0 42 (by decide +kernel)).trans rfl
            have c1_0_42 : η1 0 42 = η 0 42 := v11
            have v12 : η1 0 45 = η 0 45 := (k1.1.2.2.2.1 0 45 (by decide +kernel)).trans rfl
            have c1_0_45 : η1 0 45 = η 0 45 := v12
            have v13 : η1 0 19 = η 0 19 := (k1.1.2.2.2.1 0 19 (by decide +kernel)).trans rfl
            have c1_0_19 : η1 0 19 = η 0 19 := v13
            have v14 : η1 0 44 = η 0 44 := (k1.1.2.2.2.1 0 44 (by decide +kernel)).trans rfl
            have c1_0_44 : η1 0 44 = η 0 44 := v14
            have v15 : η1 0 7 = η 0 7 := (k1.1.2.2.2.1 0 7 (by decide +kernel)).trans rfl
            have c1_0_7 : η1 0 7 = η 0 7 := v15
            have v16 : η1 0 6 = η 0 6 := (k1.1.2.2.2.1 0 6 (by decide +kernel)).trans rfl
            have c1_0_6 : η1 0 6 = η 0 6 := v16
            have v17 : η1 0 8 = η 0 8 := (k1.1.2.2.2.1 0 8 (by decide +kernel)).trans rfl
            have c1_0_8 : η1 0 8 = η 0 8 := v17
            have bx2 : (0 : Int) ≤ x2 ∧ x2 ≤ 1 := k2.1.2.1
            have v18 : η2 0 8 = η 0 8 := (k2.1.2.2.2.1 0 8 (by decide +kernel)).trans v17
            replace e3 : x3 = η 0 8 := e3.trans v18
            replace r3 : -2147483648 ≤ x3 ∧ x3 ≤ 2147483647 := r3
            have v19 : η2 0 41 = η 0 41 := (k2.1.2.2.2.1 0 41 (by decide +kernel)).trans v9
            have c2_0_41 : η2 0 41 = η 0 41 := v19
            have v20 : η2 0 43 = η 0 43 := (k2.1.2.2.2.1 0 43 (by decide +kernel)).trans v10
            have c2_0_43 : η2 0 43 = η 0 43 := v20
            have v21 : η2 0 42 = η 0 42 := (k2.1.2.2.2.1 0 42 (by decide +kernel)).trans v11
            have c2_0_42 : η2 0 42 = η 0 42 := v21
            have v22 : η2 0 45 = η 0 45 := (k2.1.2.2.2.1 0 45 (by decide +kernel)).trans v12
            have c2_0_45 : η2 0 45 = η 0 45 := v22
            have v23 : η2 0 19 = η 0 19 := (k2.1.2.2.2.1 0 19 (by decide +kernel)).trans v13
            have c2_0_19 : η2 0 19 = η 0 19 := v23
            have v24 : η2 0 44 = η 0 44 := (k2.1.2.2.2.1 0 44 (by decide +kernel)).trans v14
            have c2_0_44 : η2 0 44 = η 0 44 := v24
            have v25 : η2 0 7 = η 0 7 := (k2.1.2.2.2.1 0 7 (by decide +kernel)).trans v15
            have c2_0_7 : η2 0 7 = η 0 7 := v25
            have v26 : η2 0 6 = η 0 6 := (k2.1.2.2.2.1 0 6 (by decide +kernel)).trans v16
            have c2_0_6 : η2 0 6 = η 0 6 := v26
            have c2_0_8 : η2 0 8 = η 0 8 := v18
            have bx4 : (0 : Int) ≤ x4 ∧ x4 ≤ 1 := k4.1.2.1
            have v27 : η3 0 41 = η 0 41 := (k4.1.2.2.2.1 0 41 (by decide +kernel)).trans v19
            have c3_0_41 : η3 0 41 = η 0 41 := v27
            have v28 : η3 0 43 = η 0 43 := (k4.1.2.2.2.1 0 43 (by decide +kernel)).trans v20
            have c3_0_43 : η3 0 43 = η 0 43 := v28
            have v29 : η3 0 42 = η 0 42 := (k4.1.2.2.2.1 0 42 (by decide +kernel)).trans v21
            have c3_0_42 : η3 0 42 = η 0 42 := v29
            have v30 : η3 0 45 = η 0 45 := (k4.1.2.2.2.1 0 45 (by decide +kernel)).trans v22
            have c3_0_45 : η3 0 45 = η 0 45 := v30
            have v31 : η3 0 19 = η 0 19 := (k4.1.2.2.2.1 0 19 (by decide +kernel)).trans v23
            have c3_0_19 : η3 0 19 = η 0 19 := v31
            have v32 : η3 0 44 = η 0 44 := (k4.1.2.2.2.1 0 44 (by decide +kernel)).trans v24
            have c3_0_44 : η3 0 44 = η 0 44 := v32
            have v33 : η3 0 7 = η 0 7 := (k4.1.2.2.2.1 0 7 (by decide +kernel)).trans v25
            have c3_0_7 : η3 0 7 = η 0 7 := v33
            have v34 : η3 0 6 = η 0 6 := (k4.1.2.2.2.1 0 6 (by decide +kernel)).trans v26
            have c3_0_6 : η3 0 6 = η 0 6 := v34
            have v35 : η3 0 8 = η 0 8 := (k4.1.2.2.2.1 0 8 (by decide +kernel)).trans v18
            have c3_0_8 : η3 0 8 = η 0 8 := v35
            have bx5 : (0 : Int) ≤ x5 ∧ x5 ≤ 1 := k5.1.2.1
            have fm1 : zFm zMl_signs η0 η1 := zFm_tr2 hI.2 k1.1.2.2.2.1 (by decide +kernel)
            have fm2 : zFm zMl_signs η0 η2 := zFm_tr2 fm1 k2.1.2.2.2.1 (by decide +kernel)
            have fm3 : zFm zMl_signs η0 η3 := zFm_tr2 fm2 k4.1.2.2.2.1 (by decide +kernel)
            have fm4 : zFm zMl_signs η0 η4 := zFm_tr2 fm3 k5.1.2.2.2.1 (by decide +kernel)
            have fmE : zFm zMl_signs η0 η4 := fm4
            have fr22_0 : ∀ j, η 22 j = η 22 j := fun _ => rfl
            have v36 : ∀ j, η1 22 j = η 22 j := fun j => k1.1.2.2.2.1 22 _ (zinr_not (by decide +kernel))
            have fr22_1 : ∀ j, η1 22 j = η 22 j := v36
            have v37 : ∀ j, η2 22 j = η 22 j := fun j => (k2.1.2.2.2.1 22 _ (zinr_not (by decide +kernel))).trans (v36 j)
            have fr22_2 : ∀ j, η2 22 j = η 22 j := v37
            have v38 : ∀ j, η3 22 j = η 22 j := fun j => (k4.1.2.2.2.1 22 _ (zinr_not (by decide +kernel))).trans (v37 j)
            have fr22_3 : ∀ j, η3 22 j = η 22 j := v38
            have v39 : ∀ j, η4 22 j = η 22 j := fun j => (k5.1.2.2.2.1 22 _ (zinr_not (by decide +kernel))).trans (v38 j)
            have fr22_4 : ∀ j, η4 22 j = η 22 j := v39
            have fr22 : ∀ j, η4 22 j = η 22 j := v39
            have v40 : η4 0 41 = η 0 41 := (k5.1.2.2.2.1 0 41 (by decide +kernel)).trans v27
            have f0_41 : η4 0 41 = η 0 41 := v40
            have v41 : η4 0 43 = η 0 43 := (k5.1.2.2.2.1 0 43 (by decide +kernel)).trans v28
            have f0_43 : η4 0 43 = η 0 43 := v41
            have v42 : η4 0 42 = η 0 42 := (k5.1.2.2.2.1 0 42 (by decide +kernel)).trans v29
            have f0_42 : η4 0 42 = η 0 42 := v42
            have v43 : η4 0 45 = η 0 45 := (k5.1.2.2.2.1 0 45 (by decide +kernel)).trans v30
            have f0_45 : η4 0 45 = η 0 45 := v43
            have v44 : η4 0 19 = η 0 19 := (k5.1.2.2.2.1 0 19 (by decide +kernel)).trans v31
            have f0_19 : η4 0 19 = η 0 19 := v44
            have v45 : η4 0 44 = η 0 44 := (k5.1.2.2.2.1 0 44 (by decide +kernel)).trans v32
            have f0_44 : η4 0 44 = η 0 44 := v45
            have v46 : η4 0 7 = η 0 7 := (k5.1.2.2.2.1 0 7 (by decide +kernel)).trans v33
            have f0_7 : η4 0 7 = η 0 7 := v46
            have v47 : η4 0 6 = η 0 6 := (k5.1.2.2.2.1 0 6 (by decide +kernel)).trans v34
            have f0_6 : η4 0 6 = η 0 6 := v47
            have v48 : η4 0 8 = η 0 8 := (k5.1.2.2.2.1 0 8 (by decide +kernel)).trans v35
            have f0_8 : η4 0 8 = η 0 8 := v48
            have wb1 : wB wl_l zTr η1 := k1.1.1
            have wb2 : wB wl_l zTr η2 := k2.1.1
            have wb3 : wB wl_l zTr η3 := k4.1.1
            have wb4 : wB wl_l zTr η4 := k5.1.1
            have wbE : wB wl_l zTr η4 := wb4
            have I0 : H_l 0 0 0 η := hig.1
            have I1 : H_l 0 0 0 η1 := k1.2.1
            have I2 : H_l 0 0 0 η2 := k2.2.1
            have I3 : H_l 0 0 0 η3 := k4.2.1
            have I4 : H_l 0 0 0 η4 := k5.2.1
            exact I4
          · show ∀ (x1 : Int) (η1 : zE), ((gC2 wl_l [(nat_lit 0, zPl_isSign, zOl_isSign, zMl_isSign), (nat_lit 1, zPl_wrong, zOl_wrong, zMl_wrong), (nat_lit 2, zPl_token, zOl_token, zMl_token), (nat_lit 3, zPl_isKey, zOl_isKey, zMl_isKey), (nat_lit 4, zPl_isCounted, zOl_isCounted, zMl_isCounted), (nat_lit 5, zPl_waitsFor, zOl_waitsFor, zMl_waitsFor), (nat_lit 6, zPl_rank, zOl_rank, zMl_rank), (nat_lit 7, zPl_bind, zOl_bind, zMl_bind)] pCl_signs qCl_signs) 3).2 [10] η x1 η1 → (x1 = 0) → ∀ (x2 : Int) (η2 : zE), ((gC2 wl_l [(nat_lit 0, zPl_isSign, zOl_isSign, zMl_isSign), (nat_lit 1, zPl_wrong, zOl_wrong, zMl_wrong), (nat_lit 2, zPl_token, zOl_token, zMl_token), (nat_lit 3, zPl_isKey, zOl_isKey, zMl_isKey), (nat_lit 4, zPl_isCounted, zOl_isCounted, zMl_isCounted), (nat_lit 5, zPl_waitsFor, zOl_waitsFor, zMl_waitsFor), (nat_lit 6, zPl_rank, zOl_rank, zMl_rank), (nat_lit 7, zPl_bind, zOl_bind, zMl_bind)] pCl_signs qCl_signs) 3).2 [11] η1 x2 η2 → (x2 = 0) → ∀ x3 : Int, x3 = η2 0 (Int.toNat 8) → zok 0 x3 → (¬ x3 = 5) → ∀ (x4 : Int) (η3 : zE), ((gC2 wl_l [(nat_lit 0, zPl_isSign, zOl_isSign, zMl_isSign), (nat_lit 1, zPl_wrong, zOl_wrong, zMl_wrong), (nat_lit 2, zPl_token, zOl_token, zMl_token), (nat_lit 3, zPl_isKey, zOl_isKey, zMl_isKey), (nat_lit 4, zPl_isCounted, zOl_isCounted, zMl_isCounted), (nat_lit 5, zPl_waitsFor, zOl_waitsFor, zMl_waitsFor), (nat_lit 6, zPl_rank, zOl_rank, zMl_rank), (nat_lit 7, zPl_bind, zOl_bind, zMl_bind)] pCl_signs qCl_signs) 0).2 [43] η2 x4 η3 → (x4 = 0) → ∀ (x5 : Int) (η4 : zE), ((gC2 wl_l [(nat_lit 0, zPl_isSign, zOl_isSign, zMl_isSign), (nat_lit 1, zPl_wrong, zOl_wrong, zMl_wrong), (nat_lit 2, zPl_token, zOl_token, zMl_token), (nat_lit 3, zPl_isKey, zOl_isKey, zMl_isKey), (nat_lit 4, zPl_isCounted, zOl_isCounted, zMl_isCounted), (nat_lit 5, zPl_waitsFor, zOl_waitsFor, zMl_waitsFor), (nat_lit 6, zPl_rank, zOl_rank, zMl_rank), (nat_lit 7, zPl_bind, zOl_bind, zMl_bind)] pCl_signs qCl_signs) 0).2 [45] η3 x5 η4 → (x5 = 0) → ∀ (x6 : Int) (η5 : zE), ((gC2 wl_l [(nat_lit 0, zPl_isSign, zOl_isSign, zMl_isSign), (nat_lit 1, zPl_wrong, zOl_wrong, zMl_wrong), (nat_lit 2, zPl_token, zOl_token, zMl_token), (nat_lit 3, zPl_isKey, zOl_isKey, zMl_isKey), (nat_lit 4, zPl_isCounted, zOl_isCounted, zMl_isCounted), (nat_lit 5, zPl_waitsFor, zOl_waitsFor, zMl_waitsFor), (nat_lit 6, zPl_rank, zOl_rank, zMl_rank), (nat_lit 7, zPl_bind, zOl_bind, zMl_bind)] pCl_signs qCl_signs) 0).2 [42] η4 x6 η5 → (x6 = 0) → ((gC2 wl_l [(nat_lit 0, zPl_isSign, zOl_isSign, zMl_isSign), (nat_lit 1, zPl_wrong, zOl_wrong, zMl_wrong), (nat_lit 2, zPl_token, zOl_token, zMl_token), (nat_lit 3, zPl_isKey, zOl_isKey, zMl_isKey), (nat_lit 4, zPl_isCounted, zOl_isCounted, zMl_isCounted), (nat_lit 5, zPl_waitsFor, zOl_waitsFor, zMl_waitsFor), (nat_lit 6, zPl_rank, zOl_rank, zMl_rank), (nat_lit 7, zPl_bind, zOl_bind, zMl_bind)] pCl_signs qCl_signs) 0).1 [47] η5
            have hw : η 0 45 = 0 := hig.2.1
            have hr1 : 1 ≤ η 0 19 := hig.2.2.1
            have hs1 : η 0 7 = η0 0 7 := hig.2.2.2.1
            have hs2 : η 0 6 = η0 0 6 := hig.2.2.2.2.1
            have hs3 : η 0 8 = η0 0 8 := hig.2.2.2.2.2.1
            have kk : η 0 8 = 5 → 0 ≤ η 0 9 ∧ η 0 9 ≤ 5 := hig.1.1.1.2.1.2
            have bd43 : (0 : Int) ≤ η 0 43 ∧ η 0 43 ≤ 8 := wf_ok (a := 43) (b := 43) (z := (0, 8)) hI.1.1 (by decide +kernel) (Nat.le_refl _) (Nat.le_refl _)
            have bd44 : (0 : Int) ≤ η 0 44 ∧ η 0 44 ≤ 64 := wf_ok (a := 44) (b := 44) (z := (0, 64)) hI.1.1 (by decide +kernel) (Nat.le_refl _) (Nat.le_refl _)
            have bd19 : (0 : Int) ≤ η 0 19 ∧ η 0 19 ≤ 64 := wf_ok (a := 19) (b := 19) (z := (0, 64)) hI.1.1 (by decide +kernel) (Nat.le_refl _) (Nat.le_refl _)
            obtain ⟨u1, u2, u3, u4⟩ := hig.1.2
            have cn := cz_n (η := η) (η 0 41).toNat
            intro x1 η1 h1 c1 x2 η2 h2 c2 x3 e3 r3 c3 x4 η3 h4 c4 x5 η4 h5 c5 x6 η5 h6 c6
            have k1 : sQ wl_l zTr zOl_isKey zMl_isKey [10] η x1 η1 ∧ pQl_isKey [10] η x1 η1 := h1
            have k2 : sQ wl_l zTr zOl_isKey zMl_isKey [11] η1 x2 η2 ∧ pQl_isKey [11] η1 x2 η2 := h2
            have k4 : sQ wl_l zTr zOl_isSign zMl_isSign [43] η2 x4 η3 ∧ pQl_isSign [43] η2 x4 η3 := h4
            have k5 : sQ wl_l zTr zOl_isSign zMl_isSign [45] η3 x5 η4 ∧ pQl_isSign [45] η3 x5 η4 := h5
            have k6 : sQ wl_l zTr zOl_isSign zMl_isSign [42] η4 x6 η5 ∧ pQl_isSign [42] η4 x6 η5 := h6
            have c0_0_41 : η 0 41 = η 0 41 := rfl
            have w0_0_43 : (0 : Int) ≤ η 0 43 ∧ η 0 43 ≤ 8 := wf_ok (a := 43) (b := 43) (z := (0, 8)) hI.1.1 (by decide +kernel) (Nat.le_refl _) (Nat.le_refl _)
            have c0_0_43 : η 0 43 = η 0 43 := rfl
            have c0_0_42 : η 0 42 = η 0 42 := rfl
            have c0_0_45 : η 0 45 = η 0 45 := rfl
            have w0_0_19 : (0 : Int) ≤ η 0 19 ∧ η 0 19 ≤ 64 := wf_ok (a := 19) (b := 19) (z := (0, 64)) hI.1.1 (by decide +kernel) (Nat.le_refl _) (Nat.le_refl _)
            have c0_0_19 : η 0 19 = η 0 19 := rfl
            have w0_0_44 : (0 : Int) ≤ η 0 44 ∧ η 0 44 ≤ 64 := wf_ok (a := 44) (b := 44) (z := (0, 64)) hI.1.1 (by decide +kernel) (Nat.le_refl _) (Nat.le_refl _)
            have c0_0_44 : η 0 44 = η 0 44 := rfl
            have w0_0_7 : (0 : Int) ≤ η 0 7 ∧ η 0 7 ≤ 700 := wf_ok (a := 7) (b := 7) (z := (0, 700)) hI.1.1 (by decide +kernel) (Nat.le_refl _) (Nat.le_refl _)
            have c0_0_7 : η 0 7 = η 0 7 := rfl
            have w0_0_6 : (0 : Int) ≤ η 0 6 ∧ η 0 6 ≤ 700 := wf_ok (a := 6) (b := 6) (z := (0, 700)) hI.1.1 (by decide +kernel) (Nat.le_refl _) (Nat.le_refl _)
            have c0_0_6 : η 0 6 = η 0 6 := rfl
            have w0_0_8 : (0 : Int) ≤ η 0 8 ∧ η 0 8 ≤ 6 := wf_ok (a := 8) (b := 8) (z := (0, 6)) hI.1.1 (by decide +kernel) (Nat.le_refl _) (Nat.le_refl _)
            have c0_0_8 : η 0 8 = η 0 8 := rfl
            have bx1 : (0 : Int) ≤ x1 ∧ x1 ≤ 1 := k1.1.2.1
            have v9 : η1 0 41 = η 0 41 := (k1.1.2.2.2.1 0 41 (by decide +kernel)).trans rfl
            have c1_0_41 : η1 0 41 = η 0 41 := v9
            have v10 : η1 0 43 = η 0 43 := (k1.1.2.2.2.1 0 43 (by decide +kernel)).trans rfl
            have c1_0_43 : η1 0 43 = η 0 43 := v10
            have v11 : η1 0 42 = η 0 42 := (k1.1.2.2.2.1 0 42 (by decide +kernel)).trans rfl
            have c1_0_42 : η1 0 42 = η 0 42 := v11
            have v12 : η1 0 45 = η 0 45 := (k1.1.2.2.2.1 0 45 (by decide +kernel)).trans rfl
            have c1_0_45 : η1 0 45 = η 0 45 := v12
            have v13 : η1 0 19 = η 0 19 := (k1.1.2.2.2.1 0 19 (by decide +kernel)).trans rfl
            have c1_0_19 : η1 0 19 = η 0 19 := v13
            have v14 : η1 0 44 = η 0 44 := (k1.1.2.2.2.1 0 44 (by decide +kernel)).trans rfl
            have c1_0_44 : η1 0 44 = η 0 44 := v14
            have v15 : η1 0 7 = η 0 7 := (k1.1.2.2.2.1 0 7 (by decide +kernel)).trans rfl
            have c1_0_7 : η1 0 7 = η 0 7 := v15
            have v16 : η1 0 6 = η 0 6 := (k1.1.2.2.2.1 0 6 (by decide +kernel)).trans rfl
            have c1_0_6 : η1 0 6 = η 0 6 := v16
            have v17 : η1 0 8 = η 0 8 := (k1.1.2.2.2.1 0 8 (by decide +kernel)).trans rfl
            have c1_0_8 : η1 0 8 = η 0 8 := v17
            have bx2 : (0 : Int) ≤ x2 ∧ x2 ≤ 1 := k2.1.2.1
            have v18 : η2 0 8 = η 0 8 := (k2.1.2.2.2.1 0 8 (by decide +kernel)).trans v17
            replace e3 : x3 = η 0 8 := e3.trans v18
            replace r3 : -2147483648 ≤ x3 ∧ x3 ≤ 2147483647 := r3
            have v19 : η2 0 41 = η 0 41 := (k2.1.2.2.2.1 0 41 (by decide +kernel)).trans v9
            have c2_0_41 : η2 0 41 = η 0 41 := v19
            have v20 : η2 0 43 = η 0 43 := (k2.1.2.2.2.1 0 43 (by decide +kernel)).trans v10
            have c2_0_43 : η2 0 43 = η 0 43 := v20
            have v21 : η2 0 42 = η 0 42 := (k2.1.2.2.2.1 0 42 (by decide +kernel)).trans v11
            have c2_0_42 : η2 0 42 = η 0 42 := v21
            have v22 : η2 0 45 = η 0 45 := (k2.1.2.2.2.1 0 45 (by decide +kernel)).trans v12
            have c2_0_45 : η2 0 45 = η 0 45 := v22
            have v23 : η2 0 19 = η 0 19 := (k2.1.2.2.2.1 0 19 (by decide +kernel)).trans v13
            have c2_0_19 : η2 0 19 = η 0 19 := v23
            have v24 : η2 0 44 = η 0 44 := (k2.1.2.2.2.1 0 44 (by decide +kernel)).trans v14
            have c2_0_44 : η2 0 44 = η 0 44 := v24
            have v25 : η2 0 7 = η 0 7 := (k2.1.2.2.2.1 0 7 (by decide +kernel)).trans v15
            have c2_0_7 : η2 0 7 = η 0 7 := v25
            have v26 : η2 0 6 = η 0 6 := (k2.1.2.2.2.1 0 6 (by decide +kernel)).trans v16
            have c2_0_6 : η2 0 6 = η 0 6 := v26
            have c2_0_8 : η2 0 8 = η 0 8 := v18
            have bx4 : (0 : Int) ≤ x4 ∧ x4 ≤ 1 := k4.1.2.1
            have v27 : η3 0 41 = η 0 41 := (k4.1.2.2.2.1 0 41 (by decide +kernel)).trans v19
            have c3_0_41 : η3 0 41 = η 0 41 := v27
            have v28 : η3 0 43 = η 0 43 := (k4.1.2.2.2.1 0 43 (by decide +kernel)).trans v20
            have c3_0_43 : η3 0 43 = η 0 43 := v28
            have v29 : η3 0 42 = η 0 42 := (k4.1.2.2.2.1 0 42 (by decide +kernel)).trans v21
            have c3_0_42 : η3 0 42 = η 0 42 := v29
            have v30 : η3 0 45 = η 0 45 := (k4.1.2.2.2.1 0 45 (by decide +kernel)).trans v22
            have c3_0_45 : η3 0 45 = η 0 45 := v30
            have v31 : η3 0 19 = η 0 19 := (k4.1.2.2.2.1 0 19 (by decide +kernel)).trans v23
            have c3_0_19 : η3 0 19 = η 0 19 := v31
            have v32 : η3 0 44 = η 0 44 := (k4.1.2.2.2.1 0 44 (by decide +kernel)).trans v24
            have c3_0_44 : η3 0 44 = η 0 44 := v32
            have v33 : η3 0 7 = η 0 7 := (k4.1.2.2.2.1 0 7 (by decide +kernel)).trans v25
            have c3_0_7 : η3 0 7 = η 0 7 := v33
            have v34 : η3 0 6 = η 0 6 := (k4.1.2.2.2.1 0 6 (by decide +kernel)).trans v26
            have c3_0_6 : η3 0 6 = η 0 6 := v34
            have v35 : η3 0 8 = η 0 8 := (k4.1.2.2.2.1 0 8 (by decide +kernel)).trans v18
            have c3_0_8 : η3 0 8 = η 0 8 := v35
            have bx5 : (0 : Int) ≤ x5 ∧ x5 ≤ 1 := k5.1.2.1
            have v36 : η4 0 41 = η 0 41 := (k5.1.2.2.2.1 0 41 (by decide +kernel)).trans v27
            have c4_0_41 : η4 0 41 = η 0 41 := v36
            have v37 : η4 0 43 = η 0 43 := (k5.1.2.2.2.1 0 43 (by decide +kernel)).trans v28
            have c4_0_43 : η4 0 43 = η 0 43 := v37
            have v38 : η4 0 42 = η 0 42 := (k5.1.2.2.2.1 0 42 (by decide +kernel)).trans v29
            have c4_0_42 : η4 0 42 = η 0 42 := v38
            have v39 : η4 0 45 = η 0 45 := (k5.1.2.2.2.1 0 45 (by decide +kernel)).trans v30
            have c4_0_45 : η4 0 45 = η 0 45 := v39
            have v40 : η4 0 19 = η 0 19 := (k5.1.2.2.2.1 0 19 (by decide +kernel)).trans v31
            have c4_0_19 : η4 0 19 = η 0 19 := v40
            have v41 : η4 0 44 = η 0 44 := (k5.1.2.2.2.1 0 44 (by decide +kernel)).trans v32
            have c4_0_44 : η4 0 44 = η 0 44 := v41
            have v42 : η4 0 7 = η 0 7 := (k5.1.2.2.2.1 0 7 (by decide +kernel)).trans v33
            have c4_0_7 : η4 0 7 = η 0 7 := v42
            have v43 : η4 0 6 = η 0 6 := (k5.1.2.2.2.1 0 6 (by decide +kernel)).trans v34
            have c4_0_6 : η4 0 6 = η 0 6 := v43
            have v44 : η4 0 8 = η 0 8 := (k5.1.2.2.2.1 0 8 (by decide +kernel)).trans v35
            have c4_0_8 : η4 0 8 = η 0 8 := v44
            have bx6 : (0 : Int) ≤ x6 ∧ x6 ≤ 1 := k6.1.2.1
            have fm1 : zFm zMl_signs η0 η1 := zFm_tr2 hI.2 k1.1.2.2.2.1 (by decide +kernel)
            have fm2 : zFm zMl_signs η0 η2 := zFm_tr2 fm1 k2.1.2.2.2.1 (by decide +kernel)
            have fm3 : zFm zMl_signs η0 η3 := zFm_tr2 fm2 k4.1.2.2.2.1 (by decide +kernel)
            have fm4 : zFm zMl_signs η0 η4 := zFm_tr2 fm3 k5.1.2.2.2.1 (by decide +kernel)
            have fm5 : zFm zMl_signs η0 η5 := zFm_tr2 fm4 k6.1.2.2.2.1 (by decide +kernel)
            have fmE : zFm zMl_signs η0 η5 := fm5
            have fr22_0 : ∀ j, η 22 j = η 22 j := fun _ => rfl
            have v45 : ∀ j, η1 22 j = η 22 j := fun j => k1.1.2.2.2.1 22 _ (zinr_not (by decide +kernel))
            have fr22_1 : ∀ j, η1 22 j = η 22 j := v45
            have v46 : ∀ j, η2 22 j = η 22 j := fun j => (k2.1.2.2.2.1 22 _ (zinr_not (by decide +kernel))).trans (v45 j)
            have fr22_2 : ∀ j, η2 22 j = η 22 j := v46
            have v47 : ∀ j, η3 22 j = η 22 j := fun j => (k4.1.2.2.2.1 22 _ (zinr_not (by decide +kernel))).trans (v46 j)
            have fr22_3 : ∀ j, η3 22 j = η 22 j := v47
            have v48 : ∀ j, η4 22 j = η 22 j := fun j => (k5.1.2.2.2.1 22 _ (zinr_not (by decide +kernel))).trans (v47 j)
            have fr22_4 : ∀ j, η4 22 j = η 22 j := v48
            have v49 : ∀ j, η5 22 j = η 22 j := fun j => (k6.1.2.2.2.1 22 _ (zinr_not (by decide +kernel))).trans (v48 j)
            have fr22_5 : ∀ j, η5 22 j = η 22 j := v49
            have fr22 : ∀ j, η5 22 j = η 22 j := v49
            have v50 : η5 0 41 = η 0 41 := (k6.1.2.2.2.1 0 41 (by decide +kernel)).trans v36
            have f0_41 : η5 0 41 = η 0 41 := v50
            have v51 : η5 0 43 = η 0 43 := (k6.1.2.2.2.1 0 43 (by decide +kernel)).trans v37
            have f0_43 : η5 0 43 = η 0 43 := v51
            have v52 : η5 0 42 = η 0 42 := (k6.1.2.2.2.1 0 42 (by decide +kernel)).trans v38
            have f0_42 : η5 0 42 = η 0 42 := v52
            have v53 : η5 0 45 = η 0 45 := (k6.1.2.2.2.1 0 45 (by decide +kernel)).trans v39
            have f0_45 : η5 0 45 = η 0 45 := v53
            have v54 : η5 0 19 = η 0 19 := (k6.1.2.2.2.1 0 19 (by decide +kernel)).trans v40
            have f0_19 : η5 0 19 = η 0 19 := v54
            have v55 : η5 0 44 = η 0 44 := (k6.1.2.2.2.1 0 44 (by decide +kernel)).trans v41
            have f0_44 : η5 0 44 = η 0 44 := v55
            have v56 : η5 0 7 = η 0 7 := (k6.1.2.2.2.1 0 7 (by decide +kernel)).trans v42
            have f0_7 : η5 0 7 = η 0 7 := v56
            have v57 : η5 0 6 = η 0 6 := (k6.1.2.2.2.1 0 6 (by decide +kernel)).trans v43
            have f0_6 : η5 0 6 = η 0 6 := v57
            have v58 : η5 0 8 = η 0 8 := (k6.1.2.2.2.1 0 8 (by decide +kernel)).trans v44
            have f0_8 : η5 0 8 = η 0 8 := v58
            have wb1 : wB wl_l zTr η1 := k1.1.1
            have wb2 : wB wl_l zTr η2 := k2.1.1
            have wb3 : wB wl_l zTr η3 := k4.1.1
            have wb4 : wB wl_l zTr η4 := k5.1.1
            have wb5 : wB wl_l zTr η5 := k6.1.1
            have wbE : wB wl_l zTr η5 := wb5
            have I0 : H_l 0 0 0 η := hig.1
            have I1 : H_l 0 0 0 η1 := k1.2.1
            have I2 : H_l 0 0 0 η2 := k2.2.1
            have I3 : H_l 0 0 0 η3 := k4.2.1
            have I4 : H_l 0 0 0 η4 := k5.2.1
            have I5 : H_l 0 0 0 η5 := k6.2.1
            exact I5
          · show ∀ (x1 : Int) (η1 : zE), ((gC2 wl_l [(nat_lit 0, zPl_isSign, zOl_isSign, zMl_isSign), (nat_lit 1, zPl_wrong, zOl_wrong, zMl_wrong), (nat_lit 2, zPl_token, zOl_token, zMl_token), (nat_lit 3, zPl_isKey, zOl_isKey, zMl_isKey), (nat_lit 4, zPl_isCounted, zOl_isCounted, zMl_isCounted), (nat_lit 5, zPl_waitsFor, zOl_waitsFor, zMl_waitsFor), (nat_lit 6, zPl_rank, zOl_rank, zMl_rank), (nat_lit 7, zPl_bind, zOl_bind, zMl_bind)] pCl_signs qCl_signs) 3).2 [10] η x1 η1 → (x1 = 0) → ∀ (x2 : Int) (η2 : zE), ((gC2 wl_l [(nat_lit 0, zPl_isSign, zOl_isSign, zMl_isSign), (nat_lit 1, zPl_wrong, zOl_wrong, zMl_wrong), (nat_lit 2, zPl_token, zOl_token, zMl_token), (nat_lit 3, zPl_isKey, zOl_isKey, zMl_isKey), (nat_lit 4, zPl_isCounted, zOl_isCounted, zMl_isCounted), (nat_lit 5, zPl_waitsFor, zOl_waitsFor, zMl_waitsFor), (nat_lit 6, zPl_rank, zOl_rank, zMl_rank), (nat_lit 7, zPl_bind, zOl_bind, zMl_bind)] pCl_signs qCl_signs) 3).2 [11] η1 x2 η2 → (x2 = 0) → ∀ x3 : Int, x3 = η2 0 (Int.toNat 8) → zok 0 x3 → (¬ x3 = 5) → ∀ (x4 : Int) (η3 : zE), ((gC2 wl_l [(nat_lit 0, zPl_isSign, zOl_isSign, zMl_isSign), (nat_lit 1, zPl_wrong, zOl_wrong, zMl_wrong), (nat_lit 2, zPl_token, zOl_token, zMl_token), (nat_lit 3, zPl_isKey, zOl_isKey, zMl_isKey), (nat_lit 4, zPl_isCounted, zOl_isCounted, zMl_isCounted), (nat_lit 5, zPl_waitsFor, zOl_waitsFor, zMl_waitsFor), (nat_lit 6, zPl_rank, zOl_rank, zMl_rank), (nat_lit 7, zPl_bind, zOl_bind, zMl_bind)] pCl_signs qCl_signs) 0).2 [43] η2 x4 η3 → (x4 = 0) → ∀ (x5 : Int) (η4 : zE), ((gC2 wl_l [(nat_lit 0, zPl_isSign, zOl_isSign, zMl_isSign), (nat_lit 1, zPl_wrong, zOl_wrong, zMl_wrong), (nat_lit 2, zPl_token, zOl_token, zMl_token), (nat_lit 3, zPl_isKey, zOl_isKey, zMl_isKey), (nat_lit 4, zPl_isCounted, zOl_isCounted, zMl_isCounted), (nat_lit 5, zPl_waitsFor, zOl_waitsFor, zMl_waitsFor), (nat_lit 6, zPl_rank, zOl_rank, zMl_rank), (nat_lit 7, zPl_bind, zOl_bind, zMl_bind)] pCl_signs qCl_signs) 0).2 [45] η3 x5 η4 → (x5 = 0) → ∀ (x6 : Int) (η5 : zE), ((gC2 wl_l [(nat_lit 0, zPl_isSign, zOl_isSign, zMl_isSign), (nat_lit 1, zPl_wrong, zOl_wrong, zMl_wrong), (nat_lit 2, zPl_token, zOl_token, zMl_token), (nat_lit 3, zPl_isKey, zOl_isKey, zMl_isKey), (nat_lit 4, zPl_isCounted, zOl_isCounted, zMl_isCounted), (nat_lit 5, zPl_waitsFor, zOl_waitsFor, zMl_waitsFor), (nat_lit 6, zPl_rank, zOl_rank, zMl_rank), (nat_lit 7, zPl_bind, zOl_bind, zMl_bind)] pCl_signs qCl_signs) 0).2 [42] η4 x6 η5 → (x6 = 0) → ∀ (x7 : Int) (η6 : zE), ((gC2 wl_l [(nat_lit 0, zPl_isSign, zOl_isSign, zMl_isSign), (nat_lit 1, zPl_wrong, zOl_wrong, zMl_wrong), (nat_lit 2, zPl_token, zOl_token, zMl_token), (nat_lit 3, zPl_isKey, zOl_isKey, zMl_isKey), (nat_lit 4, zPl_isCounted, zOl_isCounted, zMl_isCounted), (nat_lit 5, zPl_waitsFor, zOl_waitsFor, zMl_waitsFor), (nat_lit 6, zPl_rank, zOl_rank, zMl_rank), (nat_lit 7, zPl_bind, zOl_bind, zMl_bind)] pCl_signs qCl_signs) 0).2 [47] η5 x7 η6 → (x7 = 0) → (iCl_signs xs η0) 1 [0] η6 ∧ (fun (_ : Nat) (_ : List Int) (_ : zE) => (0 : Nat)) 1 [0] η6 < 1
            have hw : η 0 45 = 0 := hig.2.1
            have hr1 : 1 ≤ η 0 19 := hig.2.2.1
            have hs1 : η 0 7 = η0 0 7 := hig.2.2.2.1
            have hs2 : η 0 6 = η0 0 6 := hig.2.2.2.2.1
            have hs3 : η 0 8 = η0 0 8 := hig.2.2.2.2.2.1
            have kk : η 0 8 = 5 → 0 ≤ η 0 9 ∧ η 0 9 ≤ 5 := hig.1.1.1.2.1.2
            have bd43 : (0 : Int) ≤ η 0 43 ∧ η 0 43 ≤ 8 := wf_ok (a := 43) (b := 43) (z := (0, 8)) hI.1.1 (by decide +kernel) (Nat.le_refl _) (Nat.le_refl _)
            have bd44 : (0 : Int) ≤ η 0 44 ∧ η 0 44 ≤ 64 := wf_ok (a := 44) (b := 44) (z := (0, 64)) hI.1.1 (by decide +kernel) (Nat.le_refl _) (Nat.le_refl _)
            have bd19 : (0 : Int) ≤ η 0 19 ∧ η 0 19 ≤ 64 := wf_ok (a := 19) (b := 19) (z := (0, 64)) hI.1.1 (by decide +kernel) (Nat.le_refl _) (Nat.le_refl _)
            obtain ⟨u1, u2, u3, u4⟩ := hig.1.2
            have cn := cz_n (η := η) (η 0 41).toNat
            intro x1 η1 h1 c1 x2 η2 h2 c2 x3 e3 r3 c3 x4 η3 h4 c4 x5 η4 h5 c5 x6 η5 h6 c6 x7 η6 h7 c7
            have k1 : sQ wl_l zTr zOl_isKey zMl_isKey [10] η x1 η1 ∧ pQl_isKey [10] η x1 η1 := h1
            have k2 : sQ wl_l zTr zOl_isKey zMl_isKey [11] η1 x2 η2 ∧ pQl_isKey [11] η1 x2 η2 := h2
            have k4 : sQ wl_l zTr zOl_isSign zMl_isSign [43] η2 x4 η3 ∧ pQl_isSign [43] η2 x4 η3 := h4
            have k5 : sQ wl_l zTr zOl_isSign zMl_isSign [45] η3 x5 η4 ∧ pQl_isSign [45] η3 x5 η4 := h5
            have k6 : sQ wl_l zTr zOl_isSign zMl_isSign [42] η4 x6 η5 ∧ pQl_isSign [42] η4 x6 η5 := h6
            have k7 : sQ wl_l zTr zOl_isSign zMl_isSign [47] η5 x7 η6 ∧ pQl_isSign [47] η5 x7 η6 := h7
            have c0_0_41 : η 0 41 = η 0 41 := rfl
            have w0_0_43 : (0 : Int) ≤ η 0 43 ∧ η 0 43 ≤ 8 := wf_ok (a := 43) (b := 43) (z := (0, 8)) hI.1.1 (by decide +kernel) (Nat.le_refl _) (Nat.le_refl _)
            have c0_0_43 : η 0 43 = η 0 43 := rfl
            have c0_0_42 : η 0 42 = η 0 42 := rfl
            have c0_0_45 : η 0 45 = η 0 45 := rfl
            have w0_0_19 : (0 : Int) ≤ η 0 19 ∧ η 0 19 ≤ 64 := wf_ok (a := 19) (b := 19) (z := (0, 64)) hI.1.1 (by decide +kernel) (Nat.le_refl _) (Nat.le_refl _)
            have c0_0_19 : η 0 19 = η 0 19 := rfl
            have w0_0_44 : (0 : Int) ≤ η 0 44 ∧ η 0 44 ≤ 64 := wf_ok (a := 44) (b := 44) (z := (0, 64)) hI.1.1 (by decide +kernel) (Nat.le_refl _) (Nat.le_refl _)
            have c0_0_44 : η 0 44 = η 0 44 := rfl
            have w0_0_7 : (0 : Int) ≤ η 0 7 ∧ η 0 7 ≤ 700 := wf_ok (a := 7) (b := 7) (z := (0, 700)) hI.1.1 (by decide +kernel) (Nat.le_refl _) (Nat.le_refl _)
            have c0_0_7 : η 0 7 = η 0 7 := rfl
            have w0_0_6 : (0 : Int) ≤ η 0 6 ∧ η 0 6 ≤ 700 := wf_ok (a := 6) (b := 6) (z := (0, 700)) hI.1.1 (by decide +kernel) (Nat.le_refl _) (Nat.le_refl _)
            have c0_0_6 : η 0 6 = η 0 6 := rfl
            have w0_0_8 : (0 : Int) ≤ η 0 8 ∧ η 0 8 ≤ 6 := wf_ok (a := 8) (b := 8) (z := (0, 6)) hI.1.1 (by decide +kernel) (Nat.le_refl _) (Nat.le_refl _)
            have c0_0_8 : η 0 8 = η 0 8 := rfl
            have bx1 : (0 : Int) ≤ x1 ∧ x1 ≤ 1 := k1.1.2.1
            have v9 : η1 0 41 = η 0 41 := (k1.1.2.2.2.1 0 41 (by decide +kernel)).trans rfl
            have c1_0_41 : η1 0 41 = η 0 41 := v9
            have v10 : η1 0 43 = η 0 43 := (k1.1.2.2.2.1 0 43 (by decide +kernel)).trans rfl
            have c1_0_43 : η1 0 43 = η 0 43 := v10
            have v11 : η1 0 42 = η 0 42 := (k1.1.2.2.2.1 0 42 (by decide +kernel)).trans rfl
            have c1_0_42 : η1 0 42 = η 0 42 := v11
            have v12 : η1 0 45 = η 0 45 := (k1.1.2.2.2.1 0 45 (by decide +kernel)).trans rfl
            have c1_0_45 : η1 0 45 = η 0 45 := v12
            have v13 : η1 0 19 = η 0 19 := (k1.1.2.2.2.1 0 19 (by decide +kernel)).trans rfl
            have c1_0_19 : η1 0 19 = η 0 19 := v13
            have v14 : η1 0 44 = η 0 44 := (k1.1.2.2.2.1 0 44 (by decide +kernel)).trans rfl
            have c1_0_44 : η1 0 44 = η 0 44 := v14
            have v15 : η1 0 7 = η 0 7 := (k1.1.2.2.2.1 0 7 (by decide +kernel)).trans rfl
            have c1_0_7 : η1 0 7 = η 0 7 := v15
            have v16 : η1 0 6 = η 0 6 := (k1.1.2.2.2.1 0 6 (by decide +kernel)).trans rfl
            have c1_0_6 : η1 0 6 = η 0 6 := v16
            have v17 : η1 0 8 = η 0 8 := (k1.1.2.2.2.1 0 8 (by decide +kernel)).trans rfl
            have c1_0_8 : η1 0 8 = η 0 8 := v17
            have bx2 : (0 : Int) ≤ x2 ∧ x2 ≤ 1 := k2.1.2.1
            have v18 : η2 0 8 = η 0 8 := (k2.1.2.2.2.1 0 8 (by decide +kernel)).trans v17
            replace e3 : x3 = η 0 8 := e3.trans v18
            replace r3 : -2147483648 ≤ x3 ∧ x3 ≤ 2147483647 := r3
            have v19 : η2 0 41 = η 0 41 := (k2.1.2.2.2.1 0 41 (by decide +kernel)).trans v9
            have c2_0_41 : η2 0 41 = η 0 41 := v19
            have v20 : η2 0 43 = η 0 43 := (k2.1.2.2.2.1 0 43 (by decide +kernel)).trans v10
            have c2_0_43 : η2 0 43 = η 0 43 := v20
            have v21 : η2 0 42 = η 0 42 := (k2.1.2.2.2.1 0 42 (by decide +kernel)).trans v11
            have c2_0_42 : η2 0 42 = η 0 42 := v21
            have v22 : η2 0 45 = η 0 45 := (k2.1.2.2.2.1 0 45 (by decide +kernel)).trans v12
            have c2_0_45 : η2 0 45 = η 0 45 := v22
            have v23 : η2 0 19 = η 0 19 := (k2.1.2.2.2.1 0 19 (by decide +kernel)).trans v13
            have c2_0_19 : η2 0 19 = η 0 19 := v23
            have v24 : η2 0 44 = η 0 44 := (k2.1.2.2.2.1 0 44 (by decide +kernel)).trans v14
            have c2_0_44 : η2 0 44 = η 0 44 := v24
            have v25 : η2 0 7 = η 0 7 := (k2.1.2.2.2.1 0 7 (by decide +kernel)).trans v15
            have c2_0_7 : η2 0 7 = η 0 7 := v25
            have v26 : η2 0 6 = η 0 6 := (k2.1.2.2.2.1 0 6 (by decide +kernel)).trans v16
            have c2_0_6 : η2 0 6 = η 0 6 := v26
            have c2_0_8 : η2 0 8 = η 0 8 := v18
            have bx4 : (0 : Int) ≤ x4 ∧ x4 ≤ 1 := k4.1.2.1
            have v27 : η3 0 41 = η 0 41 := (k4.1.2.2.2.1 0 41 (by decide +kernel)).trans v19
            have c3_0_41 : η3 0 41 = η 0 41 := v27
            have v28 : η3 0 43 = η 0 43 := (k4.1.2.2.2.1 0 43 (by decide +kernel)).trans v20
            have c3_0_43 : η3 0 43 = η 0 43 := v28
            have v29 : η3 0 42 = η 0 42 := (k4.1.2.2.2.1 0 42 (by decide +kernel)).trans v21
            have c3_0_42 : η3 0 42 = η 0 42 := v29
            have v30 : η3 0 45 = η 0 45 := (k4.1.2.2.2.1 0 45 (by decide +kernel)).trans v22
            have c3_0_45 : η3 0 45 = η 0 45 := v30
            have v31 : η3 0 19 = η 0 19 := (k4.1.2.2.2.1 0 19 (by decide +kernel)).trans v23
            have c3_0_19 : η3 0 19 = η 0 19 := v31
            have v32 : η3 0 44 = η 0 44 := (k4.1.2.2.2.1 0 44 (by decide +kernel)).trans v24
            have c3_0_44 : η3 0 44 = η 0 44 := v32
            have v33 : η3 0 7 = η 0 7 := (k4.1.2.2.2.1 0 7 (by decide +kernel)).trans v25
            have c3_0_7 : η3 0 7 = η 0 7 := v33
            have v34 : η3 0 6 = η 0 6 := (k4.1.2.2.2.1 0 6 (by decide +kernel)).trans v26
            have c3_0_6 : η3 0 6 = η 0 6 := v34
            have v35 : η3 0 8 = η 0 8 := (k4.1.2.2.2.1 0 8 (by decide +kernel)).trans v18
            have c3_0_8 : η3 0 8 = η 0 8 := v35
            have bx5 : (0 : Int) ≤ x5 ∧ x5 ≤ 1 := k5.1.2.1
            have v36 : η4 0 41 = η 0 41 := (k5.1.2.2.2.1 0 41 (by decide +kernel)).trans v27
            have c4_0_41 : η4 0 41 = η 0 41 := v36
            have v37 : η4 0 43 = η 0 43 := (k5.1.2.2.2.1 0 43 (by decide +kernel)).trans v28
            have c4_0_43 : η4 0 43 = η 0 43 := v37
            have v38 : η4 0 42 = η 0 42 := (k5.1.2.2.2.1 0 42 (by decide +kernel)).trans v29
            have c4_0_42 : η4 0 42 = η 0 42 := v38
            have v39 : η4 0 45 = η 0 45 := (k5.1.2.2.2.1 0 45 (by decide +kernel)).trans v30
            have c4_0_45 : η4 0 45 = η 0 45 := v39
            have v40 : η4 0 19 = η 0 19 := (k5.1.2.2.2.1 0 19 (by decide +kernel)).trans v31
            have c4_0_19 : η4 0 19 = η 0 19 := v40
            have v41 : η4 0 44 = η 0 44 := (k5.1.2.2.2.1 0 44 (by decide +kernel)).trans v32
            have c4_0_44 : η4 0 44 = η 0 44 := v41
            have v42 : η4 0 7 = η 0 7 := (k5.1.2.2.2.1 0 7 (by decide +kernel)).trans v33
            have c4_0_7 : η4 0 7 = η 0 7 := v42
            have v43 : η4 0 6 = η 0 6 := (k5.1.2.2.2.1 0 6 (by decide +kernel)).trans v34
            have c4_0_6 : η4 0 6 = η 0 6 := v43
            have v44 : η4 0 8 = η 0 8 := (k5.1.2.2.2.1 0 8 (by decide +kernel)).trans v35
            have c4_0_8 : η4 0 8 = η 0 8 := v44
            have bx6 : (0 : Int) ≤ x6 ∧ x6 ≤ 1 := k6.1.2.1
            have v45 : η5 0 41 = η 0 41 := (k6.1.2.2.2.1 0 41 (by decide +kernel)).trans v36
            have c5_0_41 : η5 0 41 = η 0 41 := v45
            have v46 : η5 0 43 = η 0 43 := (k6.1.2.2.2.1 0 43 (by decide +kernel)).trans v37
            have c5_0_43 : η5 0 43 = η 0 43 := v46
            have v47 : η5 0 42 = η 0 42 := (k6.1.2.2.2.1 0 42 (by decide +kernel)).trans v38
            have c5_0_42 : η5 0 42 = η 0 42 := v47
            have v48 : η5 0 45 = η 0 45 := (k6.1.2.2.2.1 0 45 (by decide +kernel)).trans v39
            have c5_0_45 : η5 0 45 = η 0 45 := v48
            have v49 : η5 0 19 = η 0 19 := (k6.1.2.2.2.1 0 19 (by decide +kernel)).trans v40
            have c5_0_19 : η5 0 19 = η 0 19 := v49
            have v50 : η5 0 44 = η 0 44 := (k6.1.2.2.2.1 0 44 (by decide +kernel)).trans v41
            have c5_0_44 : η5 0 44 = η 0 44 := v50
            have v51 : η5 0 7 = η 0 7 := (k6.1.2.2.2.1 0 7 (by decide +kernel)).trans v42
            have c5_0_7 : η5 0 7 = η 0 7 := v51
            have v52 : η5 0 6 = η 0 6 := (k6.1.2.2.2.1 0 6 (by decide +kernel)).trans v43
            have c5_0_6 : η5 0 6 = η 0 6 := v52
            have v53 : η5 0 8 = η 0 8 := (k6.1.2.2.2.1 0 8 (by decide +kernel)).trans v44
            have c5_0_8 : η5 0 8 = η 0 8 := v53
            have bx7 : (0 : Int) ≤ x7 ∧ x7 ≤ 1 := k7.1.2.1
            have fm1 : zFm zMl_signs η0 η1 := zFm_tr2 hI.2 k1.1.2.2.2.1 (by decide +kernel)
            have fm2 : zFm zMl_signs η0 η2 := zFm_tr2 fm1 k2.1.2.2.2.1 (by decide +kernel)
            have fm3 : zFm zMl_signs η0 η3 := zFm_tr2 fm2 k4.1.2.2.2.1 (by decide +kernel)
            have fm4 : zFm zMl_signs η0 η4 := zFm_tr2 fm3 k5.1.2.2.2.1 (by decide +kernel)
            have fm5 : zFm zMl_signs η0 η5 := zFm_tr2 fm4 k6.1.2.2.2.1 (by decide +kernel)
            have fm6 : zFm zMl_signs η0 η6 := zFm_tr2 fm5 k7.1.2.2.2.1 (by decide +kernel)
            have fmE : zFm zMl_signs η0 η6 := fm6
            have fr22_0 : ∀ j, η 22 j = η 22 j := fun _ => rfl
            have v54 : ∀ j, η1 22 j = η 22 j := fun j => k1.1.2.2.2.1 22 _ (zinr_not (by decide +kernel))
            have fr22_1 : ∀ j, η1 22 j = η 22 j := v54
            have v55 : ∀ j, η2 22 j = η 22 j := fun j => (k2.1.2.2.2.1 22 _ (zinr_not (by decide +kernel))).trans (v54 j)
            have fr22_2 : ∀ j, η2 22 j = η 22 j := v55
            have v56 : ∀ j, η3 22 j = η 22 j := fun j => (k4.1.2.2.2.1 22 _ (zinr_not (by decide +kernel))).trans (v55 j)
            have fr22_3 : ∀ j, η3 22 j = η 22 j := v56
            have v57 : ∀ j, η4 22 j = η 22 j := fun j => (k5.1.2.2.2.1 22 _ (zinr_not (by decide +kernel))).trans (v56 j)
            have fr22_4 : ∀ j, η4 22 j = η 22 j := v57
            have v58 : ∀ j, η5 22 j = η 22 j := fun j => (k6.1.2.2.2.1 22 _ (zinr_not (by decide +kernel))).trans (v57 j)
            have fr22_5 : ∀ j, η5 22 j = η 22 j := v58
            have v59 : ∀ j, η6 22 j = η 22 j := fun j => (k7.1.2.2.2.1 22 _ (zinr_not (by decide +kernel))).trans (v58 j)
            have fr22_6 : ∀ j, η6 22 j = η 22 j := v59
            have fr22 : ∀ j, η6 22 j = η 22 j := v59
            have v60 : η6 0 41 = η 0 41 := (k7.1.2.2.2.1 0 41 (by decide +kernel)).trans v45
            have f0_41 : η6 0 41 = η 0 41 := v60
            have v61 : η6 0 43 = η 0 43 := (k7.1.2.2.2.1 0 43 (by decide +kernel)).trans v46
            have f0_43 : η6 0 43 = η 0 43 := v61
            have v62 : η6 0 42 = η 0 42 := (k7.1.2.2.2.1 0 42 (by decide +kernel)).trans v47
            have f0_42 : η6 0 42 = η 0 42 := v62
            have v63 : η6 0 45 = η 0 45 := (k7.1.2.2.2.1 0 45 (by decide +kernel)).trans v48
            have f0_45 : η6 0 45 = η 0 45 := v63
            have v64 : η6 0 19 = η 0 19 := (k7.1.2.2.2.1 0 19 (by decide +kernel)).trans v49
            have f0_19 : η6 0 19 = η 0 19 := v64
            have v65 : η6 0 44 = η 0 44 := (k7.1.2.2.2.1 0 44 (by decide +kernel)).trans v50
            have f0_44 : η6 0 44 = η 0 44 := v65
            have v66 : η6 0 7 = η 0 7 := (k7.1.2.2.2.1 0 7 (by decide +kernel)).trans v51
            have f0_7 : η6 0 7 = η 0 7 := v66
            have v67 : η6 0 6 = η 0 6 := (k7.1.2.2.2.1 0 6 (by decide +kernel)).trans v52
            have f0_6 : η6 0 6 = η 0 6 := v67
            have v68 : η6 0 8 = η 0 8 := (k7.1.2.2.2.1 0 8 (by decide +kernel)).trans v53
            have f0_8 : η6 0 8 = η 0 8 := v68
            have wb1 : wB wl_l zTr η1 := k1.1.1
            have wb2 : wB wl_l zTr η2 := k2.1.1
            have wb3 : wB wl_l zTr η3 := k4.1.1
            have wb4 : wB wl_l zTr η4 := k5.1.1
            have wb5 : wB wl_l zTr η5 := k6.1.1
            have wb6 : wB wl_l zTr η6 := k7.1.1
            have wbE : wB wl_l zTr η6 := wb6
            have I0 : H_l 0 0 0 η := hig.1
            have I1 : H_l 0 0 0 η1 := k1.2.1
            have I2 : H_l 0 0 0 η2 := k2.2.1
            have I3 : H_l 0 0 0 η3 := k4.2.1
            have I4 : H_l 0 0 0 η4 := k5.2.1
            have I5 : H_l 0 0 0 η5 := k6.2.1
            have I6 : H_l 0 0 0 η6 := k7.2.1
            exact ⟨⟨I6, show η6 0 45 = 0 by omega, show 1 ≤ η6 0 19 by omega, show η6 0 7 = η0 0 7 by omega, show η6 0 6 = η0 0 6 by omega, show η6 0 8 = η0 0 8 by omega, show 0 = 0 ∨ (3 ≤ 0 ∧ ¬ η6 0 8 = 0) by omega⟩, Nat.zero_lt_one⟩
          · show ∀ (x1 : Int) (η1 : zE), ((gC2 wl_l [(nat_lit 0, zPl_isSign, zOl_isSign, zMl_isSign), (nat_lit 1, zPl_wrong, zOl_wrong, zMl_wrong), (nat_lit 2, zPl_token, zOl_token, zMl_token), (nat_lit 3, zPl_isKey, zOl_isKey, zMl_isKey), (nat_lit 4, zPl_isCounted, zOl_isCounted, zMl_isCounted), (nat_lit 5, zPl_waitsFor, zOl_waitsFor, zMl_waitsFor), (nat_lit 6, zPl_rank, zOl_rank, zMl_rank), (nat_lit 7, zPl_bind, zOl_bind, zMl_bind)] pCl_signs qCl_signs) 3).2 [10] η x1 η1 → (x1 = 0) → ∀ (x2 : Int) (η2 : zE), ((gC2 wl_l [(nat_lit 0, zPl_isSign, zOl_isSign, zMl_isSign), (nat_lit 1, zPl_wrong, zOl_wrong, zMl_wrong), (nat_lit 2, zPl_token, zOl_token, zMl_token), (nat_lit 3, zPl_isKey, zOl_isKey, zMl_isKey), (nat_lit 4, zPl_isCounted, zOl_isCounted, zMl_isCounted), (nat_lit 5, zPl_waitsFor, zOl_waitsFor, zMl_waitsFor), (nat_lit 6, zPl_rank, zOl_rank, zMl_rank), (nat_lit 7, zPl_bind, zOl_bind, zMl_bind)] pCl_signs qCl_signs) 3).2 [11] η1 x2 η2 → (x2 = 0) → ∀ x3 : Int, x3 = η2 0 (Int.toNat 8) → zok 0 x3 → (¬ x3 = 5) → ∀ (x4 : Int) (η3 : zE), ((gC2 wl_l [(nat_lit 0, zPl_isSign, zOl_isSign, zMl_isSign), (nat_lit 1, zPl_wrong, zOl_wrong, zMl_wrong), (nat_lit 2, zPl_token, zOl_token, zMl_token), (nat_lit 3, zPl_isKey, zOl_isKey, zMl_isKey), (nat_lit 4, zPl_isCounted, zOl_isCounted, zMl_isCounted), (nat_lit 5, zPl_waitsFor, zOl_waitsFor, zMl_waitsFor), (nat_lit 6, zPl_rank, zOl_rank, zMl_rank), (nat_lit 7, zPl_bind, zOl_bind, zMl_bind)] pCl_signs qCl_signs) 0).2 [43] η2 x4 η3 → (x4 = 0) → ∀ (x5 : Int) (η4 : zE), ((gC2 wl_l [(nat_lit 0, zPl_isSign, zOl_isSign, zMl_isSign), (nat_lit 1, zPl_wrong, zOl_wrong, zMl_wrong), (nat_lit 2, zPl_token, zOl_token, zMl_token), (nat_lit 3, zPl_isKey, zOl_isKey, zMl_isKey), (nat_lit 4, zPl_isCounted, zOl_isCounted, zMl_isCounted), (nat_lit 5, zPl_waitsFor, zOl_waitsFor, zMl_waitsFor), (nat_lit 6, zPl_rank, zOl_rank, zMl_rank), (nat_lit 7, zPl_bind, zOl_bind, zMl_bind)] pCl_signs qCl_signs) 0).2 [45] η3 x5 η4 → (x5 = 0) → ∀ (x6 : Int) (η5 : zE), ((gC2 wl_l [(nat_lit 0, zPl_isSign, zOl_isSign, zMl_isSign), (nat_lit 1, zPl_wrong, zOl_wrong, zMl_wrong), (nat_lit 2, zPl_token, zOl_token, zMl_token), (nat_lit 3, zPl_isKey, zOl_isKey, zMl_isKey), (nat_lit 4, zPl_isCounted, zOl_isCounted, zMl_isCounted), (nat_lit 5, zPl_waitsFor, zOl_waitsFor, zMl_waitsFor), (nat_lit 6, zPl_rank, zOl_rank, zMl_rank), (nat_lit 7, zPl_bind, zOl_bind, zMl_bind)] pCl_signs qCl_signs) 0).2 [42] η4 x6 η5 → (x6 = 0) → ∀ (x7 : Int) (η6 : zE), ((gC2 wl_l [(nat_lit 0, zPl_isSign, zOl_isSign, zMl_isSign), (nat_lit 1, zPl_wrong, zOl_wrong, zMl_wrong), (nat_lit 2, zPl_token, zOl_token, zMl_token), (nat_lit 3, zPl_isKey, zOl_isKey, zMl_isKey), (nat_lit 4, zPl_isCounted, zOl_isCounted, zMl_isCounted), (nat_lit 5, zPl_waitsFor, zOl_waitsFor, zMl_waitsFor), (nat_lit 6, zPl_rank, zOl_rank, zMl_rank), (nat_lit 7, zPl_bind, zOl_bind, zMl_bind)] pCl_signs qCl_signs) 0).2 [47] η5 x7 η6 → (¬ x7 = 0) → (iCl_signs xs η0) 1 [14] η6 ∧ (fun (_ : Nat) (_ : List Int) (_ : zE) => (0 : Nat)) 1 [14] η6 < 1
            have hw : η 0 45 = 0 := hig.2.1
            have hr1 : 1 ≤ η 0 19 := hig.2.2.1
            have hs1 : η 0 7 = η0 0 7 := hig.2.2.2.1
            have hs2 : η 0 6 = η0 0 6 := hig.2.2.2.2.1
            have hs3 : η 0 8 = η0 0 8 := hig.2.2.2.2.2.1
            have kk : η 0 8 = 5 → 0 ≤ η 0 9 ∧ η 0 9 ≤ 5 := hig.1.1.1.2.1.2
            have bd43 : (0 : Int) ≤ η 0 43 ∧ η 0 43 ≤ 8 := wf_ok (a := 43) (b := 43) (z := (0, 8)) hI.1.1 (by decide +kernel) (Nat.le_refl _) (Nat.le_refl _)
            have bd44 : (0 : Int) ≤ η 0 44 ∧ η 0 44 ≤ 64 := wf_ok (a := 44) (b := 44) (z := (0, 64)) hI.1.1 (by decide +kernel) (Nat.le_refl _) (Nat.le_refl _)
            have bd19 : (0 : Int) ≤ η 0 19 ∧ η 0 19 ≤ 64 := wf_ok (a := 19) (b := 19) (z := (0, 64)) hI.1.1 (by decide +kernel) (Nat.le_refl _) (Nat.le_refl _)
            obtain ⟨u1, u2, u3, u4⟩ := hig.1.2
            have cn := cz_n (η := η) (η 0 41).toNat
            intro x1 η1 h1 c1 x2 η2 h2 c2 x3 e3 r3 c3 x4 η3 h4 c4 x5 η4 h5 c5 x6 η5 h6 c6 x7 η6 h7 c7
            have k1 : sQ wl_l zTr zOl_isKey zMl_isKey [10] η x1 η1 ∧ pQl_isKey [10] η x1 η1 := h1
            have k2 : sQ wl_l zTr zOl_isKey zMl_isKey [11] η1 x2 η2 ∧ pQl_isKey [11] η1 x2 η2 := h2
            have k4 : sQ wl_l zTr zOl_isSign zMl_isSign [43] η2 x4 η3 ∧ pQl_isSign [43] η2 x4 η3 := h4
            have k5 : sQ wl_l zTr zOl_isSign zMl_isSign [45] η3 x5 η4 ∧ pQl_isSign [45] η3 x5 η4 := h5
            have k6 : sQ wl_l zTr zOl_isSign zMl_isSign [42] η4 x6 η5 ∧ pQl_isSign [42] η4 x6 η5 := h6
            have k7 : sQ wl_l zTr zOl_isSign zMl_isSign [47] η5 x7 η6 ∧ pQl_isSign [47] η5 x7 η6 := h7
            have c0_0_41 : η 0 41 = η 0 41 := rfl
            have w0_0_43 : (0 : Int) ≤ η 0 43 ∧ η 0 43 ≤ 8 := wf_ok (a := 43) (b := 43) (z := (0, 8)) hI.1.1 (by decide +kernel) (Nat.le_refl _) (Nat.le_refl _)
            have c0_0_43 : η 0 43 = η 0 43 := rfl
            have c0_0_42 : η 0 42 = η 0 42 := rfl
            have c0_0_45 : η 0 45 = η 0 45 := rfl
            have w0_0_19 : (0 : Int) ≤ η 0 19 ∧ η 0 19 ≤ 64 := wf_ok (a := 19) (b := 19) (z := (0, 64)) hI.1.1 (by decide +kernel) (Nat.le_refl _) (Nat.le_refl _)
            have c0_0_19 : η 0 19 = η 0 19 := rfl
            have w0_0_44 : (0 : Int) ≤ η 0 44 ∧ η 0 44 ≤ 64 := wf_ok (a := 44) (b := 44) (z := (0, 64)) hI.1.1 (by decide +kernel) (Nat.le_refl _) (Nat.le_refl _)
            have c0_0_44 : η 0 44 = η 0 44 := rfl
            have w0_0_7 : (0 : Int) ≤ η 0 7 ∧ η 0 7 ≤ 700 := wf_ok (a := 7) (b := 7) (z := (0, 700)) hI.1.1 (by decide +kernel) (Nat.le_refl _) (Nat.le_refl _)
            have c0_0_7 : η 0 7 = η 0 7 := rfl
            have w0_0_6 : (0 : Int) ≤ η 0 6 ∧ η 0 6 ≤ 700 := wf_ok (a := 6) (b := 6) (z := (0, 700)) hI.1.1 (by decide +kernel) (Nat.le_refl _) (Nat.le_refl _)
            have c0_0_6 : η 0 6 = η 0 6 := rfl
            have w0_0_8 : (0 : Int) ≤ η 0 8 ∧ η 0 8 ≤ 6 := wf_ok (a := 8) (b := 8) (z := (0, 6)) hI.1.1 (by decide +kernel) (Nat.le_refl _) (Nat.le_refl _)
            have c0_0_8 : η 0 8 = η 0 8 := rfl
            have bx1 : (0 : Int) ≤ x1 ∧ x1 ≤ 1 := k1.1.2.1
            have v9 : η1 0 41 = η 0 41 := (k1.1.2.2.2.1 0 41 (by decide +kernel)).trans rfl
            have c1_0_41 : η1 0 41 = η 0 41 := v9
            have v10 : η1 0 43 = η 0 43 := (k1.1.2.2.2.1 0 43 (by decide +kernel)).trans rfl
            have c1_0_43 : η1 0 43 = η 0 43 := v10
            have v11 : η1 0 42 = η 0 42 := (k1.1.2.2.2.1 0 42 (by decide +kernel)).trans rfl
            have c1_0_42 : η1 0 42 = η 0 42 := v11
            have v12 : η1 0 45 = η 0 45 := (k1.1.2.2.2.1 0 45 (by decide +kernel)).trans rfl
            have c1_0_45 : η1 0 45 = η 0 45 := v12
            have v13 : η1 0 19 = η 0 19 := (k1.1.2.2.2.1 0 19 (by decide +kernel)).trans rfl
            have c1_0_19 : η1 0 19 = η 0 19 := v13
            have v14 : η1 0 44 = η 0 44 := (k1.1.2.2.2.1 0 44 (by decide +kernel)).trans rfl
            have c1_0_44 : η1 0 44 = η 0 44 := v14
            have v15 : η1 0 7 = η 0 7 := (k1.1.2.2.2.1 0 7 (by decide +kernel)).trans rfl
            have c1_0_7 : η1 0 7 = η 0 7 := v15
            have v16 : η1 0 6 = η 0 6 := (k1.1.2.2.2.1 0 6 (by decide +kernel)).trans rfl
            have c1_0_6 : η1 0 6 = η 0 6 := v16
            have v17 : η1 0 8 = η 0 8 := (k1.1.2.2.2.1 0 8 (by decide +kernel)).trans rfl
            have c1_0_8 : η1 0 8 = η 0 8 := v17
            have bx2 : (0 : Int) ≤ x2 ∧ x2 ≤ 1 := k2.1.2.1
            have v18 : η2 0 8 = η 0 8 := (k2.1.2.2.2.1 0 8 (by decide +kernel)).trans v17
            replace e3 : x3 = η 0 8 := e3.trans v18
            replace r3 : -2147483648 ≤ x3 ∧ x3 ≤ 2147483647 := r3
            have v19 : η2 0 41 = η 0 41 := (k2.1.2.2.2.1 0 41 (by decide +kernel)).trans v9
            have c2_0_41 : η2 0 41 = η 0 41 := v19
            have v20 : η2 0 43 = η 0 43 := (k2.1.2.2.2.1 0 43 (by decide +kernel)).trans v10
            have c2_0_43 : η2 0 43 = η 0 43 := v20
            have v21 : η2 0 42 = η 0 42 := (k2.1.2.2.2.1 0 42 (by decide +kernel)).trans v11
            have c2_0_42 : η2 0 42 = η 0 42 := v21
            have v22 : η2 0 45 = η 0 45 := (k2.1.2.2.2.1 0 45 (by decide +kernel)).trans v12
            have c2_0_45 : η2 0 45 = η 0 45 := v22
            have v23 : η2 0 19 = η 0 19 := (k2.1.2.2.2.1 0 19 (by decide +kernel)).trans v13
            have c2_0_19 : η2 0 19 = η 0 19 := v23
            have v24 : η2 0 44 = η 0 44 := (k2.1.2.2.2.1 0 44 (by decide +kernel)).trans v14
            have c2_0_44 : η2 0 44 = η 0 44 := v24
            have v25 : η2 0 7 = η 0 7 := (k2.1.2.2.2.1 0 7 (by decide +kernel)).trans v15
            have c2_0_7 : η2 0 7 = η 0 7 := v25
            have v26 : η2 0 6 = η 0 6 := (k2.1.2.2.2.1 0 6 (by decide +kernel)).trans v16
            have c2_0_6 : η2 0 6 = η 0 6 := v26
            have c2_0_8 : η2 0 8 = η 0 8 := v18
            have bx4 : (0 : Int) ≤ x4 ∧ x4 ≤ 1 := k4.1.2.1
            have v27 : η3 0 41 = η 0 41 := (k4.1.2.2.2.1 0 41 (by decide +kernel)).trans v19
            have c3_0_41 : η3 0 41 = η 0 41 := v27
            have v28 : η3 0 43 = η 0 43 := (k4.1.2.2.2.1 0 43 (by decide +kernel)).trans v20
            have c3_0_43 : η3 0 43 = η 0 43 := v28
            have v29 : η3 0 42 = η 0 42 := (k4.1.2.2.2.1 0 42 (by decide +kernel)).trans v21
            have c3_0_42 : η3 0 42 = η 0 42 := v29
            have v30 : η3 0 45 = η 0 45 := (k4.1.2.2.2.1 0 45 (by decide +kernel)).trans v22
            have c3_0_45 : η3 0 45 = η 0 45 := v30
            have v31 : η3 0 19 = η 0 19 := (k4.1.2.2.2.1 0 19 (by decide +kernel)).trans v23
            have c3_0_19 : η3 0 19 = η 0 19 := v31
            have v32 : η3 0 44 = η 0 44 := (k4.1.2.2.2.1 0 44 (by decide +kernel)).trans v24
            have c3_0_44 : η3 0 44 = η 0 44 := v32
            have v33 : η3 0 7 = η 0 7 := (k4.1.2.2.2.1 0 7 (by decide +kernel)).trans v25
            have c3_0_7 : η3 0 7 = η 0 7 := v33
            have v34 : η3 0 6 = η 0 6 := (k4.1.2.2.2.1 0 6 (by decide +kernel)).trans v26
            have c3_0_6 : η3 0 6 = η 0 6 := v34
            have v35 : η3 0 8 = η 0 8 := (k4.1.2.2.2.1 0 8 (by decide +kernel)).trans v18
            have c3_0_8 : η3 0 8 = η 0 8 := v35
            have bx5 : (0 : Int) ≤ x5 ∧ x5 ≤ 1 := k5.1.2.1
            have v36 : η4 0 41 = η 0 41 := (k5.1.2.2.2.1 0 41 (by decide +kernel)).trans v27
            have c4_0_41 : η4 0 41 = η 0 41 := v36
            have v37 : η4 0 43 = η 0 43 := (k5.1.2.2.2.1 0 43 (by decide +kernel)).trans v28
            have c4_0_43 : η4 0 43 = η 0 43 := v37
            have v38 : η4 0 42 = η 0 42 := (k5.1.2.2.2.1 0 42 (by decide +kernel)).trans v29
            have c4_0_42 : η4 0 42 = η 0 42 := v38
            have v39 : η4 0 45 = η 0 45 := (k5.1.2.2.2.1 0 45 (by decide +kernel)).trans v30
            have c4_0_45 : η4 0 45 = η 0 45 := v39
            have v40 : η4 0 19 = η 0 19 := (k5.1.2.2.2.1 0 19 (by decide +kernel)).trans v31
            have c4_0_19 : η4 0 19 = η 0 19 := v40
            have v41 : η4 0 44 = η 0 44 := (k5.1.2.2.2.1 0 44 (by decide +kernel)).trans v32
            have c4_0_44 : η4 0 44 = η 0 44 := v41
            have v42 : η4 0 7 = η 0 7 := (k5.1.2.2.2.1 0 7 (by decide +kernel)).trans v33
            have c4_0_7 : η4 0 7 = η 0 7 := v42
            have v43 : η4 0 6 = η 0 6 := (k5.1.2.2.2.1 0 6 (by decide +kernel)).trans v34
            have c4_0_6 : η4 0 6 = η 0 6 := v43
            have v44 : η4 0 8 = η 0 8 := (k5.1.2.2.2.1 0 8 (by decide +kernel)).trans v35
            have c4_0_8 : η4 0 8 = η 0 8 := v44
            have bx6 : (0 : Int) ≤ x6 ∧ x6 ≤ 1 := k6.1.2.1
            have v45 : η5 0 41 = η 0 41 := (k6.1.2.2.2.1 0 41 (by decide +kernel)).trans v36
            have c5_0_41 : η5 0 41 = η 0 41 := v45
            have v46 : η5 0 43 = η 0 43 := (k6.1.2.2.2.1 0 43 (by decide +kernel)).trans v37
            have c5_0_43 : η5 0 43 = η 0 43 := v46
            have v47 : η5 0 42 = η 0 42 := (k6.1.2.2.2.1 0 42 (by decide +kernel)).trans v38
            have c5_0_42 : η5 0 42 = η 0 42 := v47
            have v48 : η5 0 45 = η 0 45 := (k6.1.2.2.2.1 0 45 (by decide +kernel)).trans v39
            have c5_0_45 : η5 0 45 = η 0 45 := v48
            have v49 : η5 0 19 = η 0 19 := (k6.1.2.2.2.1 0 19 (by decide +kernel)).trans v40
            have c5_0_19 : η5 0 19 = η 0 19 := v49
            have v50 : η5 0 44 = η 0 44 := (k6.1.2.2.2.1 0 44 (by decide +kernel)).trans v41
            have c5_0_44 : η5 0 44 = η 0 44 := v50
            have v51 : η5 0 7 = η 0 7 := (k6.1.2.2.2.1 0 7 (by decide +kernel)).trans v42
            have c5_0_7 : η5 0 7 = η 0 7 := v51
            have v52 : η5 0 6 = η 0 6 := (k6.1.2.2.2.1 0 6 (by decide +kernel)).trans v43
            have c5_0_6 : η5 0 6 = η 0 6 := v52
            have v53 : η5 0 8 = η 0 8 := (k6.1.2.2.2.1 0 8 (by decide +kernel)).trans v44
            have c5_0_8 : η5 0 8 = η 0 8 := v53
            have bx7 : (0 : Int) ≤ x7 ∧ x7 ≤ 1 := k7.1.2.1
            have fm1 : zFm zMl_signs η0 η1 := zFm_tr2 hI.2 k1.1.2.2.2.1 (by decide +kernel)
            have fm2 : zFm zMl_signs η0 η2 := zFm_tr2 fm1 k2.1.2.2.2.1 (by decide +kernel)
            have fm3 : zFm zMl_signs η0 η3 := zFm_tr2 fm2 k4.1.2.2.2.1 (by decide +kernel)
            have fm4 : zFm zMl_signs η0 η4 := zFm_tr2 fm3 k5.1.2.2.2.1 (by decide +kernel)
            have fm5 : zFm zMl_signs η0 η5 := zFm_tr2 fm4 k6.1.2.2.2.1 (by decide +kernel)
            have fm6 : zFm zMl_signs η0 η6 := zFm_tr2 fm5 k7.1.2.2.2.1 (by decide +kernel)
            have fmE : zFm zMl_signs η0 η6 := fm6
            have fr22_0 : ∀ j, η 22 j = η 22 j := fun _ => rfl
            have v54 : ∀ j, η1 22 j = η 22 j := fun j => k1.1.2.2.2.1 22 _ (zinr_not (by decide +kernel))
            have fr22_1 : ∀ j, η1 22 j = η 22 j := v54
            have v55 : ∀ j, η2 22 j = η 22 j := fun j => (k2.1.2.2.2.1 22 _ (zinr_not (by decide +kernel))).trans (v54 j)
            have fr22_2 : ∀ j, η2 22 j = η 22 j := v55
            have v56 : ∀ j, η3 22 j = η 22 j := fun j => (k4.1.2.2.2.1 22 _ (zinr_not (by decide +kernel))).trans (v55 j)
            have fr22_3 : ∀ j, η3 22 j = η 22 j := v56
            have v57 : ∀ j, η4 22 j = η 22 j := fun j => (k5.1.2.2.2.1 22 _ (zinr_not (by decide +kernel))).trans (v56 j)
            have fr22_4 : ∀ j, η4 22 j = η 22 j := v57
            have v58 : ∀ j, η5 22 j = η 22 j := fun j => (k6.1.2.2.2.1 22 _ (zinr_not (by decide +kernel))).trans (v57 j)
            have fr22_5 : ∀ j, η5 22 j = η 22 j := v58
            have v59 : ∀ j, η6 22 j = η 22 j := fun j => (k7.1.2.2.2.1 22 _ (zinr_not (by decide +kernel))).trans (v58 j)
            have fr22_6 : ∀ j, η6 22 j = η 22 j := v59
            have fr22 : ∀ j, η6 22 j = η 22 j := v59
            have v60 : η6 0 41 = η 0 41 := (k7.1.2.2.2.1 0 41 (by decide +kernel)).trans v45
            have f0_41 : η6 0 41 = η 0 41 := v60
            have v61 : η6 0 43 = η 0 43 := (k7.1.2.2.2.1 0 43 (by decide +kernel)).trans v46
            have f0_43 : η6 0 43 = η 0 43 := v61
            have v62 : η6 0 42 = η 0 42 := (k7.1.2.2.2.1 0 42 (by decide +kernel)).trans v47
            have f0_42 : η6 0 42 = η 0 42 := v62
            have v63 : η6 0 45 = η 0 45 := (k7.1.2.2.2.1 0 45 (by decide +kernel)).trans v48
            have f0_45 : η6 0 45 = η 0 45 := v63
            have v64 : η6 0 19 = η 0 19 := (k7.1.2.2.2.1 0 19 (by decide +kernel)).trans v49
            have f0_19 : η6 0 19 = η 0 19 := v64
            have v65 : η6 0 44 = η 0 44 := (k7.1.2.2.2.1 0 44 (by decide +kernel)).trans v50
            have f0_44 : η6 0 44 = η 0 44 := v65
            have v66 : η6 0 7 = η 0 7 := (k7.1.2.2.2.1 0 7 (by decide +kernel)).trans v51
            have f0_7 : η6 0 7 = η 0 7 := v66
            have v67 : η6 0 6 = η 0 6 := (k7.1.2.2.2.1 0 6 (by decide +kernel)).trans v52
            have f0_6 : η6 0 6 = η 0 6 := v67
            have v68 : η6 0 8 = η 0 8 := (k7.1.2.2.2.1 0 8 (by decide +kernel)).trans v53
            have f0_8 : η6 0 8 = η 0 8 := v68
            have wb1 : wB wl_l zTr η1 := k1.1.1
            have wb2 : wB wl_l zTr η2 := k2.1.1
            have wb3 : wB wl_l zTr η3 := k4.1.1
            have wb4 : wB wl_l zTr η4 := k5.1.1
            have wb5 : wB wl_l zTr η5 := k6.1.1
            have wb6 : wB wl_l zTr η6 := k7.1.1
            have wbE : wB wl_l zTr η6 := wb6
            have I0 : H_l 0 0 0 η := hig.1
            have I1 : H_l 0 0 0 η1 := k1.2.1
            have I2 : H_l 0 0 0 η2 := k2.2.1
            have I3 : H_l 0 0 0 η3 := k4.2.1
            have I4 : H_l 0 0 0 η4 := k5.2.1
            have I5 : H_l 0 0 0 η5 := k6.2.1
            have I6 : H_l 0 0 0 η6 := k7.2.1
            have qk7 : η5 0 8 = 4 := k7.2.2 c7
            exact ⟨⟨I6, show η6 0 45 = 0 by omega, show 1 ≤ η6 0 19 by omega, show η6 0 7 = η0 0 7 by omega, show η6 0 6 = η0 0 6 by omega, show η6 0 8 = η0 0 8 by omega, show 14 = 0 ∨ (3 ≤ 14 ∧ ¬ η6 0 8 = 0) by omega⟩, Nat.zero_lt_one⟩
          · show ∀ (x1 : Int) (η1 : zE), ((gC2 wl_l [(nat_lit 0, zPl_isSign, zOl_isSign, zMl_isSign), (nat_lit 1, zPl_wrong, zOl_wrong, zMl_wrong), (nat_lit 2, zPl_token, zOl_token, zMl_token), (nat_lit 3, zPl_isKey, zOl_isKey, zMl_isKey), (nat_lit 4, zPl_isCounted, zOl_isCounted, zMl_isCounted), (nat_lit 5, zPl_waitsFor, zOl_waitsFor, zMl_waitsFor), (nat_lit 6, zPl_rank, zOl_rank, zMl_rank), (nat_lit 7, zPl_bind, zOl_bind, zMl_bind)] pCl_signs qCl_signs) 3).2 [10] η x1 η1 → (x1 = 0) → ∀ (x2 : Int) (η2 : zE), ((gC2 wl_l [(nat_lit 0, zPl_isSign, zOl_isSign, zMl_isSign), (nat_lit 1, zPl_wrong, zOl_wrong, zMl_wrong), (nat_lit 2, zPl_token, zOl_token, zMl_token), (nat_lit 3, zPl_isKey, zOl_isKey, zMl_isKey), (nat_lit 4, zPl_isCounted, zOl_isCounted, zMl_isCounted), (nat_lit 5, zPl_waitsFor, zOl_waitsFor, zMl_waitsFor), (nat_lit 6, zPl_rank, zOl_rank, zMl_rank), (nat_lit 7, zPl_bind, zOl_bind, zMl_bind)] pCl_signs qCl_signs) 3).2 [11] η1 x2 η2 → (x2 = 0) → ∀ x3 : Int, x3 = η2 0 (Int.toNat 8) → zok 0 x3 → (¬ x3 = 5) → ∀ (x4 : Int) (η3 : zE), ((gC2 wl_l [(nat_lit 0, zPl_isSign, zOl_isSign, zMl_isSign), (nat_lit 1, zPl_wrong, zOl_wrong, zMl_wrong), (nat_lit 2, zPl_token, zOl_token, zMl_token), (nat_lit 3, zPl_isKey, zOl_isKey, zMl_isKey), (nat_lit 4, zPl_isCounted, zOl_isCounted, zMl_isCounted), (nat_lit 5, zPl_waitsFor, zOl_waitsFor, zMl_waitsFor), (nat_lit 6, zPl_rank, zOl_rank, zMl_rank), (nat_lit 7, zPl_bind, zOl_bind, zMl_bind)] pCl_signs qCl_signs) 0).2 [43] η2 x4 η3 → (x4 = 0) → ∀ (x5 : Int) (η4 : zE), ((gC2 wl_l [(nat_lit 0, zPl_isSign, zOl_isSign, zMl_isSign), (nat_lit 1, zPl_wrong, zOl_wrong, zMl_wrong), (nat_lit 2, zPl_token, zOl_token, zMl_token), (nat_lit 3, zPl_isKey, zOl_isKey, zMl_isKey), (nat_lit 4, zPl_isCounted, zOl_isCounted, zMl_isCounted), (nat_lit 5, zPl_waitsFor, zOl_waitsFor, zMl_waitsFor), (nat_lit 6, zPl_rank, zOl_rank, zMl_rank), (nat_lit 7, zPl_bind, zOl_bind, zMl_bind)] pCl_signs qCl_signs) 0).2 [45] η3 x5 η4 → (x5 = 0) → ∀ (x6 : Int) (η5 : zE), ((gC2 wl_l [(nat_lit 0, zPl_isSign, zOl_isSign, zMl_isSign), (nat_lit 1, zPl_wrong, zOl_wrong, zMl_wrong), (nat_lit 2, zPl_token, zOl_token, zMl_token), (nat_lit 3, zPl_isKey, zOl_isKey, zMl_isKey), (nat_lit 4, zPl_isCounted, zOl_isCounted, zMl_isCounted), (nat_lit 5, zPl_waitsFor, zOl_waitsFor, zMl_waitsFor), (nat_lit 6, zPl_rank, zOl_rank, zMl_rank), (nat_lit 7, zPl_bind, zOl_bind, zMl_bind)] pCl_signs qCl_signs) 0).2 [42] η4 x6 η5 → (¬ x6 = 0) → (iCl_signs xs η0) 1 [13] η5 ∧ (fun (_ : Nat) (_ : List Int) (_ : zE) => (0 : Nat)) 1 [13] η5 < 1
            have hw : η 0 45 = 0 := hig.2.1
            have hr1 : 1 ≤ η 0 19 := hig.2.2.1
            have hs1 : η 0 7 = η0 0 7 := hig.2.2.2.1
            have hs2 : η 0 6 = η0 0 6 := hig.2.2.2.2.1
            have hs3 : η 0 8 = η0 0 8 := hig.2.2.2.2.2.1
            have kk : η 0 8 = 5 → 0 ≤ η 0 9 ∧ η 0 9 ≤ 5 := hig.1.1.1.2.1.2
            have bd43 : (0 : Int) ≤ η 0 43 ∧ η 0 43 ≤ 8 := wf_ok (a := 43) (b := 43) (z := (0, 8)) hI.1.1 (by decide +kernel) (Nat.le_refl _) (Nat.le_refl _)
            have bd44 : (0 : Int) ≤ η 0 44 ∧ η 0 44 ≤ 64 := wf_ok (a := 44) (b := 44) (z := (0, 64)) hI.1.1 (by decide +kernel) (Nat.le_refl _) (Nat.le_refl _)
            have bd19 : (0 : Int) ≤ η 0 19 ∧ η 0 19 ≤ 64 := wf_ok (a := 19) (b := 19) (z := (0, 64)) hI.1.1 (by decide +kernel) (Nat.le_refl _) (Nat.le_refl _)
            obtain ⟨u1, u2, u3, u4⟩ := hig.1.2
            have cn := cz_n (η := η) (η 0 41).toNat
            intro x1 η1 h1 c1 x2 η2 h2 c2 x3 e3 r3 c3 x4 η3 h4 c4 x5 η4 h5 c5 x6 η5 h6 c6
            have k1 : sQ wl_l zTr zOl_isKey zMl_isKey [10] η x1 η1 ∧ pQl_isKey [10] η x1 η1 := h1
            have k2 : sQ wl_l zTr zOl_isKey zMl_isKey [11] η1 x2 η2 ∧ pQl_isKey [11] η1 x2 η2 := h2
            have k4 : sQ wl_l zTr zOl_isSign zMl_isSign [43] η2 x4 η3 ∧ pQl_isSign [43] η2 x4 η3 := h4
            have k5 : sQ wl_l zTr zOl_isSign zMl_isSign [45] η3 x5 η4 ∧ pQl_isSign [45] η3 x5 η4 := h5
            have k6 : sQ wl_l zTr zOl_isSign zMl_isSign [42] η4 x6 η5 ∧ pQl_isSign [42] η4 x6 η5 := h6
            have c0_0_41 : η 0 41 = η 0 41 := rfl
            have w0_0_43 : (0 : Int) ≤ η 0 43 ∧ η 0 43 ≤ 8 := wf_ok (a := 43) (b := 43) (z := (0, 8)) hI.1.1 (by decide +kernel) (Nat.le_refl _) (Nat.le_refl _)
            have c0_0_43 : η 0 43 = η 0 43 := rfl
            have c0_0_42 : η 0 42 = η 0 42 := rfl
            have c0_0_45 : η 0 45 = η 0 45 := rfl
            have w0_0_19 : (0 : Int) ≤ η 0 19 ∧ η 0 19 ≤ 64 := wf_ok (a := 19) (b := 19) (z := (0, 64)) hI.1.1 (by decide +kernel) (Nat.le_refl _) (Nat.le_refl _)
            have c0_0_19 : η 0 19 = η 0 19 := rfl
            have w0_0_44 : (0 : Int) ≤ η 0 44 ∧ η 0 44 ≤ 64 := wf_ok (a := 44) (b := 44) (z := (0, 64)) hI.1.1 (by decide +kernel) (Nat.le_refl _) (Nat.le_refl _)
            have c0_0_44 : η 0 44 = η 0 44 := rfl
            have w0_0_7 : (0 : Int) ≤ η 0 7 ∧ η 0 7 ≤ 700 := wf_ok (a := 7) (b := 7) (z := (0, 700)) hI.1.1 (by decide +kernel) (Nat.le_refl _) (Nat.le_refl _)
            have c0_0_7 : η 0 7 = η 0 7 := rfl
            have w0_0_6 : (0 : Int) ≤ η 0 6 ∧ η 0 6 ≤ 700 := wf_ok (a := 6) (b := 6) (z := (0, 700)) hI.1.1 (by decide +kernel) (Nat.le_refl _) (Nat.le_refl _)
            have c0_0_6 : η 0 6 = η 0 6 := rfl
            have w0_0_8 : (0 : Int) ≤ η 0 8 ∧ η 0 8 ≤ 6 := wf_ok (a := 8) (b := 8) (z := (0, 6)) hI.1.1 (by decide +kernel) (Nat.le_refl _) (Nat.le_refl _)
            have c0_0_8 : η 0 8 = η 0 8 := rfl
            have bx1 : (0 : Int) ≤ x1 ∧ x1 ≤ 1 := k1.1.2.1
            have v9 : η1 0 41 = η 0 41 := (k1.1.2.2.2.1 0 41 (by decide +kernel)).trans rfl
            have c1_0_41 : η1 0 41 = η 0 41 := v9
            have v10 : η1 0 43 = η 0 43 := (k1.1.2.2.2.1 0 43 (by decide +kernel)).trans rfl
            have c1_0_43 : η1 0 43 = η 0 43 := v10
            have v11 : η1 0 42 = η 0 42 := (k1.1.2.2.2.1 0 42 (by decide +kernel)).trans rfl
            have c1_0_42 : η1 0 42 = η 0 42 := v11
            have v12 : η1 0 45 = η 0 45 := (k1.1.2.2.2.1 0 45 (by decide +kernel)).trans rfl
            have c1_0_45 : η1 0 45 = η 0 45 := v12
            have v13 : η1 0 19 = η 0 19 := (k1.1.2.2.2.1 0 19 (by decide +kernel)).trans rfl
            have c1_0_19 : η1 0 19 = η 0 19 := v13
            have v14 : η1 0 44 = η 0 44 := (k1.1.2.2.2.1 0 44 (by decide +kernel)).trans rfl
            have c1_0_44 : η1 0 44 = η 0 44 := v14
            have v15 : η1 0 7 = η 0 7 := (k1.1.2.2.2.1 0 7 (by decide +kernel)).trans rfl
            have c1_0_7 : η1 0 7 = η 0 7 := v15
            have v16 : η1 0 6 = η 0 6 := (k1.1.2.2.2.1 0 6 (by decide +kernel)).trans rfl
            have c1_0_6 : η1 0 6 = η 0 6 := v16
            have v17 : η1 0 8 = η 0 8 := (k1.1.2.2.2.1 0 8 (by decide +kernel)).trans rfl
            have c1_0_8 : η1 0 8 = η 0 8 := v17
            have bx2 : (0 : Int) ≤ x2 ∧ x2 ≤ 1 := k2.1.2.1
            have v18 : η2 0 8 = η 0 8 := (k2.1.2.2.2.1 0 8 (by decide +kernel)).trans v17
            replace e3 : x3 = η 0 8 := e3.trans v18
            replace r3 : -2147483648 ≤ x3 ∧ x3 ≤ 2147483647 := r3
            have v19 : η2 0 41 = η 0 41 := (k2.1.2.2.2.1 0 41 (by decide +kernel)).trans v9
            have c2_0_41 : η2 0 41 = η 0 41 := v19
            have v20 : η2 0 43 = η 0 43 := (k2.1.2.2.2.1 0 43 (by decide +kernel)).trans v10
            have c2_0_43 : η2 0 43 = η 0 43 := v20
            have v21 : η2 0 42 = η 0 42 := (k2.1.2.2.2.1 0 42 (by decide +kernel)).trans v11
            have c2_0_42 : η2 0 42 = η 0 42 := v21
            have v22 : η2 0 45 = η 0 45 := (k2.1.2.2.2.1 0 45 (by decide +kernel)).trans v12
            have c2_0_45 : η2 0 45 = η 0 45 := v22
            have v23 : η2 0 19 = η 0 19 := (k2.1.2.2.2.1 0 19 (by decide +kernel)).trans v13
            have c2_0_19 : η2 0 19 = η 0 19 := v23
            have v24 : η2 0 44 = η 0 44 := (k2.1.2.2.2.1 0 44 (by decide +kernel)).trans v14
            have c2_0_44 : η2 0 44 = η 0 44 := v24
            have v25 : η2 0 7 = η 0 7 := (k2.1.2.2.2.1 0 7 (by decide +kernel)).trans v15
            have c2_0_7 : η2 0 7 = η 0 7 := v25
            have v26 : η2 0 6 = η 0 6 := (k2.1.2.2.2.1 0 6 (by decide +kernel)).trans v16
            have c2_0_6 : η2 0 6 = η 0 6 := v26
            have c2_0_8 : η2 0 8 = η 0 8 := v18
            have bx4 : (0 : Int) ≤ x4 ∧ x4 ≤ 1 := k4.1.2.1
            have v27 : η3 0 41 = η 0 41 := (k4.1.2.2.2.1 0 41 (by decide +kernel)).trans v19
            have c3_0_41 : η3 0 41 = η 0 41 := v27
            have v28 : η3 0 43 = η 0 43 := (k4.1.2.2.2.1 0 43 (by decide +kernel)).trans v20
            have c3_0_43 : η3 0 43 = η 0 43 := v28
            have v29 : η3 0 42 = η 0 42 := (k4.1.2.2.2.1 0 42 (by decide +kernel)).trans v21
            have c3_0_42 : η3 0 42 = η 0 42 := v29
            have v30 : η3 0 45 = η 0 45 := (k4.1.2.2.2.1 0 45 (by decide +kernel)).trans v22
            have c3_0_45 : η3 0 45 = η 0 45 := v30
            have v31 : η3 0 19 = η 0 19 := (k4.1.2.2.2.1 0 19 (by decide +kernel)).trans v23
            have c3_0_19 : η3 0 19 = η 0 19 := v31
            have v32 : η3 0 44 = η 0 44 := (k4.1.2.2.2.1 0 44 (by decide +kernel)).trans v24
            have c3_0_44 : η3 0 44 = η 0 44 := v32
            have v33 : η3 0 7 = η 0 7 := (k4.1.2.2.2.1 0 7 (by decide +kernel)).trans v25
            have c3_0_7 : η3 0 7 = η 0 7 := v33
            have v34 : η3 0 6 = η 0 6 := (k4.1.2.2.2.1 0 6 (by decide +kernel)).trans v26
            have c3_0_6 : η3 0 6 = η 0 6 := v34
            have v35 : η3 0 8 = η 0 8 := (k4.1.2.2.2.1 0 8 (by decide +kernel)).trans v18
            have c3_0_8 : η3 0 8 = η 0 8 := v35
            have bx5 : (0 : Int) ≤ x5 ∧ x5 ≤ 1 := k5.1.2.1
            have v36 : η4 0 41 = η 0 41 := (k5.1.2.2.2.1 0 41 (by decide +kernel)).trans v27
            have c4_0_41 : η4 0 41 = η 0 41 := v36
            have v37 : η4 0 43 = η 0 43 := (k5.1.2.2.2.1 0 43 (by decide +kernel)).trans v28
            have c4_0_43 : η4 0 43 = η 0 43 := v37
            have v38 : η4 0 42 = η 0 42 := (k5.1.2.2.2.1 0 42 (by decide +kernel)).trans v29
            have c4_0_42 : η4 0 42 = η 0 42 := v38
            have v39 : η4 0 45 = η 0 45 := (k5.1.2.2.2.1 0 45 (by decide +kernel)).trans v30
            have c4_0_45 : η4 0 45 = η 0 45 := v39
            have v40 : η4 0 19 = η 0 19 := (k5.1.2.2.2.1 0 19 (by decide +kernel)).trans v31
            have c4_0_19 : η4 0 19 = η 0 19 := v40
            have v41 : η4 0 44 = η 0 44 := (k5.1.2.2.2.1 0 44 (by decide +kernel)).trans v32
            have c4_0_44 : η4 0 44 = η 0 44 := v41
            have v42 : η4 0 7 = η 0 7 := (k5.1.2.2.2.1 0 7 (by decide +kernel)).trans v33
            have c4_0_7 : η4 0 7 = η 0 7 := v42
            have v43 : η4 0 6 = η 0 6 := (k5.1.2.2.2.1 0 6 (by decide +kernel)).trans v34
            have c4_0_6 : η4 0 6 = η 0 6 := v43
            have v44 : η4 0 8 = η 0 8 := (k5.1.2.2.2.1 0 8 (by decide +kernel)).trans v35
            have c4_0_8 : η4 0 8 = η 0 8 := v44
            have bx6 : (0 : Int) ≤ x6 ∧ x6 ≤ 1 := k6.1.2.1
            have fm1 : zFm zMl_signs η0 η1 := zFm_tr2 hI.2 k1.1.2.2.2.1 (by decide +kernel)
            have fm2 : zFm zMl_signs η0 η2 := zFm_tr2 fm1 k2.1.2.2.2.1 (by decide +kernel)
            have fm3 : zFm zMl_signs η0 η3 := zFm_tr2 fm2 k4.1.2.2.2.1 (by decide +kernel)
            have fm4 : zFm zMl_signs η0 η4 := zFm_tr2 fm3 k5.1.2.2.2.1 (by decide +kernel)
            have fm5 : zFm zMl_signs η0 η5 := zFm_tr2 fm4 k6.1.2.2.2.1 (by decide +kernel)
            have fmE : zFm zMl_signs η0 η5 := fm5
            have fr22_0 : ∀ j, η 22 j = η 22 j := fun _ => rfl
            have v45 : ∀ j, η1 22 j = η 22 j := fun j => k1.1.2.2.2.1 22 _ (zinr_not (by decide +kernel))
            have fr22_1 : ∀ j, η1 22 j = η 22 j := v45
            have v46 : ∀ j, η2 22 j = η 22 j := fun j => (k2.1.2.2.2.1 22 _ (zinr_not (by decide +kernel))).trans (v45 j)
            have fr22_2 : ∀ j, η2 22 j = η 22 j := v46
            have v47 : ∀ j, η3 22 j = η 22 j := fun j => (k4.1.2.2.2.1 22 _ (zinr_not (by decide +kernel))).trans (v46 j)
            have fr22_3 : ∀ j, η3 22 j = η 22 j := v47
            have v48 : ∀ j, η4 22 j = η 22 j := fun j => (k5.1.2.2.2.1 22 _ (zinr_not (by decide +kernel))).trans (v47 j)
            have fr22_4 : ∀ j, η4 22 j = η 22 j := v48
            have v49 : ∀ j, η5 22 j = η 22 j := fun j => (k6.1.2.2.2.1 22 _ (zinr_not (by decide +kernel))).trans (v48 j)
            have fr22_5 : ∀ j, η5 22 j = η 22 j := v49
            have fr22 : ∀ j, η5 22 j = η 22 j := v49
            have v50 : η5 0 41 = η 0 41 := (k6.1.2.2.2.1 0 41 (by decide +kernel)).trans v36
            have f0_41 : η5 0 41 = η 0 41 := v50
            have v51 : η5 0 43 = η 0 43 := (k6.1.2.2.2.1 0 43 (by decide +kernel)).trans v37
            have f0_43 : η5 0 43 = η 0 43 := v51
            have v52 : η5 0 42 = η 0 42 := (k6.1.2.2.2.1 0 42 (by decide +kernel)).trans v38
            have f0_42 : η5 0 42 = η 0 42 := v52
            have v53 : η5 0 45 = η 0 45 := (k6.1.2.2.2.1 0 45 (by decide +kernel)).trans v39
            have f0_45 : η5 0 45 = η 0 45 := v53
            have v54 : η5 0 19 = η 0 19 := (k6.1.2.2.2.1 0 19 (by decide +kernel)).trans v40
            have f0_19 : η5 0 19 = η 0 19 := v54
            have v55 : η5 0 44 = η 0 44 := (k6.1.2.2.2.1 0 44 (by decide +kernel)).trans v41
            have f0_44 : η5 0 44 = η 0 44 := v55
            have v56 : η5 0 7 = η 0 7 := (k6.1.2.2.2.1 0 7 (by decide +kernel)).trans v42
            have f0_7 : η5 0 7 = η 0 7 := v56
            have v57 : η5 0 6 = η 0 6 := (k6.1.2.2.2.1 0 6 (by decide +kernel)).trans v43
            have f0_6 : η5 0 6 = η 0 6 := v57
            have v58 : η5 0 8 = η 0 8 := (k6.1.2.2.2.1 0 8 (by decide +kernel)).trans v44
            have f0_8 : η5 0 8 = η 0 8 := v58
            have wb1 : wB wl_l zTr η1 := k1.1.1
            have wb2 : wB wl_l zTr η2 := k2.1.1
            have wb3 : wB wl_l zTr η3 := k4.1.1
            have wb4 : wB wl_l zTr η4 := k5.1.1
            have wb5 : wB wl_l zTr η5 := k6.1.1
            have wbE : wB wl_l zTr η5 := wb5
            have I0 : H_l 0 0 0 η := hig.1
            have I1 : H_l 0 0 0 η1 := k1.2.1
            have I2 : H_l 0 0 0 η2 := k2.2.1
            have I3 : H_l 0 0 0 η3 := k4.2.1
            have I4 : H_l 0 0 0 η4 := k5.2.1
            have I5 : H_l 0 0 0 η5 := k6.2.1
            have qk6 : η4 0 8 = 4 := k6.2.2 c6
            exact ⟨⟨I5, show η5 0 45 = 0 by omega, show 1 ≤ η5 0 19 by omega, show η5 0 7 = η0 0 7 by omega, show η5 0 6 = η0 0 6 by omega, show η5 0 8 = η0 0 8 by omega, show 13 = 0 ∨ (3 ≤ 13 ∧ ¬ η5 0 8 = 0) by omega⟩, Nat.zero_lt_one⟩
          · show ∀ (x1 : Int) (η1 : zE), ((gC2 wl_l [(nat_lit 0, zPl_isSign, zOl_isSign, zMl_isSign), (nat_lit 1, zPl_wrong, zOl_wrong, zMl_wrong), (nat_lit 2, zPl_token, zOl_token, zMl_token), (nat_lit 3, zPl_isKey, zOl_isKey, zMl_isKey), (nat_lit 4, zPl_isCounted, zOl_isCounted, zMl_isCounted), (nat_lit 5, zPl_waitsFor, zOl_waitsFor, zMl_waitsFor), (nat_lit 6, zPl_rank, zOl_rank, zMl_rank), (nat_lit 7, zPl_bind, zOl_bind, zMl_bind)] pCl_signs qCl_signs) 3).2 [10] η x1 η1 → (x1 = 0) → ∀ (x2 : Int) (η2 : zE), ((gC2 wl_l [(nat_lit 0, zPl_isSign, zOl_isSign, zMl_isSign), (nat_lit 1, zPl_wrong, zOl_wrong, zMl_wrong), (nat_lit 2, zPl_token, zOl_token, zMl_token), (nat_lit 3, zPl_isKey, zOl_isKey, zMl_isKey), (nat_lit 4, zPl_isCounted, zOl_isCounted, zMl_isCounted), (nat_lit 5, zPl_waitsFor, zOl_waitsFor, zMl_waitsFor), (nat_lit 6, zPl_rank, zOl_rank, zMl_rank), (nat_lit 7, zPl_bind, zOl_bind, zMl_bind)] pCl_signs qCl_signs) 3).2 [11] η1 x2 η2 → (x2 = 0) → ∀ x3 : Int, x3 = η2 0 (Int.toNat 8) → zok 0 x3 → (¬ x3 = 5) → ∀ (x4 : Int) (η3 : zE), ((gC2 wl_l [(nat_lit 0, zPl_isSign, zOl_isSign, zMl_isSign), (nat_lit 1, zPl_wrong, zOl_wrong, zMl_wrong), (nat_lit 2, zPl_token, zOl_token, zMl_token), (nat_lit 3, zPl_isKey, zOl_isKey, zMl_isKey), (nat_lit 4, zPl_isCounted, zOl_isCounted, zMl_isCounted), (nat_lit 5, zPl_waitsFor, zOl_waitsFor, zMl_waitsFor), (nat_lit 6, zPl_rank, zOl_rank, zMl_rank), (nat_lit 7, zPl_bind, zOl_bind, zMl_bind)] pCl_signs qCl_signs) 0).2 [43] η2 x4 η3 → (x4 = 0) → ∀ (x5 : Int) (η4 : zE), ((gC2 wl_l [(nat_lit 0, zPl_isSign, zOl_isSign, zMl_isSign), (nat_lit 1, zPl_wrong, zOl_wrong, zMl_wrong), (nat_lit 2, zPl_token, zOl_token, zMl_token), (nat_lit 3, zPl_isKey, zOl_isKey, zMl_isKey), (nat_lit 4, zPl_isCounted, zOl_isCounted, zMl_isCounted), (nat_lit 5, zPl_waitsFor, zOl_waitsFor, zMl_waitsFor), (nat_lit 6, zPl_rank, zOl_rank, zMl_rank), (nat_lit 7, zPl_bind, zOl_bind, zMl_bind)] pCl_signs qCl_signs) 0).2 [45] η3 x5 η4 → (¬ x5 = 0) → (iCl_signs xs η0) 1 [12] η4 ∧ (fun (_ : Nat) (_ : List Int) (_ : zE) => (0 : Nat)) 1 [12] η4 < 1
            have hw : η 0 45 = 0 := hig.2.1
            have hr1 : 1 ≤ η 0 19 := hig.2.2.1
            have hs1 : η 0 7 = η0 0 7 := hig.2.2.2.1
            have hs2 : η 0 6 = η0 0 6 := hig.2.2.2.2.1
            have hs3 : η 0 8 = η0 0 8 := hig.2.2.2.2.2.1
            have kk : η 0 8 = 5 → 0 ≤ η 0 9 ∧ η 0 9 ≤ 5 := hig.1.1.1.2.1.2
            have bd43 : (0 : Int) ≤ η 0 43 ∧ η 0 43 ≤ 8 := wf_ok (a := 43) (b := 43) (z := (0, 8)) hI.1.1 (by decide +kernel) (Nat.le_refl _) (Nat.le_refl _)
            have bd44 : (0 : Int) ≤ η 0 44 ∧ η 0 44 ≤ 64 := wf_ok (a := 44) (b := 44) (z := (0, 64)) hI.1.1 (by decide +kernel) (Nat.le_refl _) (Nat.le_refl _)
            have bd19 : (0 : Int) ≤ η 0 19 ∧ η 0 19 ≤ 64 := wf_ok (a := 19) (b := 19) (z := (0, 64)) hI.1.1 (by decide +kernel) (Nat.le_refl _) (Nat.le_refl _)
            obtain ⟨u1, u2, u3, u4⟩ := hig.1.2
            have cn := cz_n (η := η) (η 0 41).toNat
            intro x1 η1 h1 c1 x2 η2 h2 c2 x3 e3 r3 c3 x4 η3 h4 c4 x5 η4 h5 c5
            have k1 : sQ wl_l zTr zOl_isKey zMl_isKey [10] η x1 η1 ∧ pQl_isKey [10] η x1 η1 := h1
            have k2 : sQ wl_l zTr zOl_isKey zMl_isKey [11] η1 x2 η2 ∧ pQl_isKey [11] η1 x2 η2 := h2
            have k4 : sQ wl_l zTr zOl_isSign zMl_isSign [43] η2 x4 η3 ∧ pQl_isSign [43] η2 x4 η3 := h4
            have k5 : sQ wl_l zTr zOl_isSign zMl_isSign [45] η3 x5 η4 ∧ pQl_isSign [45] η3 x5 η4 := h5
            have c0_0_41 : η 0 41 = η 0 41 := rfl
            have w0_0_43 : (0 : Int) ≤ η 0 43 ∧ η 0 43 ≤ 8 := wf_ok (a := 43) (b := 43) (z := (0, 8)) hI.1.1 (by decide +kernel) (Nat.le_refl _) (Nat.le_refl _)
            have c0_0_43 : η 0 43 = η 0 43 := rfl
            have c0_0_42 : η 0 42 = η 0 42 := rfl
            have c0_0_45 : η 0 45 = η 0 45 := rfl
            have w0_0_19 : (0 : Int) ≤ η 0 19 ∧ η 0 19 ≤ 64 := wf_ok (a := 19) (b := 19) (z := (0, 64)) hI.1.1 (by decide +kernel) (Nat.le_refl _) (Nat.le_refl _)
            have c0_0_19 : η 0 19 = η 0 19 := rfl
            have w0_0_44 : (0 : Int) ≤ η 0 44 ∧ η 0 44 ≤ 64 := wf_ok (a := 44) (b := 44) (z := (0, 64)) hI.1.1 (by decide +kernel) (Nat.le_refl _) (Nat.le_refl _)
            have c0_0_44 : η 0 44 = η 0 44 := rfl
            have w0_0_7 : (0 : Int) ≤ η 0 7 ∧ η 0 7 ≤ 700 := wf_ok (a := 7) (b := 7) (z := (0, 700)) hI.1.1 (by decide +kernel) (Nat.le_refl _) (Nat.le_refl _)
            have c0_0_7 : η 0 7 = η 0 7 := rfl
            have w0_0_6 : (0 : Int) ≤ η 0 6 ∧ η 0 6 ≤ 700 := wf_ok (a := 6) (b := 6) (z := (0, 700)) hI.1.1 (by decide +kernel) (Nat.le_refl _) (Nat.le_refl _)
            have c0_0_6 : η 0 6 = η 0 6 := rfl
            have w0_0_8 : (0 : Int) ≤ η 0 8 ∧ η 0 8 ≤ 6 := wf_ok (a := 8) (b := 8) (z := (0, 6)) hI.1.1 (by decide +kernel) (Nat.le_refl _) (Nat.le_refl _)
            have c0_0_8 : η 0 8 = η 0 8 := rfl
            have bx1 : (0 : Int) ≤ x1 ∧ x1 ≤ 1 := k1.1.2.1
            have v9 : η1 0 41 = η 0 41 := (k1.1.2.2.2.1 0 41 (by decide +kernel)).trans rfl
            have c1_0_41 : η1 0 41 = η 0 41 := v9
            have v10 : η1 0 43 = η 0 43 := (k1.1.2.2.2.1 0 43 (by decide +kernel)).trans rfl
            have c1_0_43 : η1 0 43 = η 0 43 := v10
            have v11 : η1 0 42 = η 0 42 := (k1.1.2.2.2.1 0 42 (by decide +kernel)).trans rfl
            have c1_0_42 : η1 0 42 = η 0 42 := v11
            have v12 : η1 0 45 = η 0 45 := (k1.1.2.2.2.1 0 45 (by decide +kernel)).trans rfl
            have c1_0_45 : η1 0 45 = η 0 45 := v12
            have v13 : η1 0 19 = η 0 19 := (k1.1.2.2.2.1 0 19 (by decide +kernel)).trans rfl
            have c1_0_19 : η1 0 19 = η 0 19 := v13
            have v14 : η1 0 44 = η 0 44 := (k1.1.2.2.2.1 0 44 (by decide +kernel)).trans rfl
            have c1_0_44 : η1 0 44 = η 0 44 := v14
            have v15 : η1 0 7 = η 0 7 := (k1.1.2.2.2.1 0 7 (by decide +kernel)).trans rfl
            have c1_0_7 : η1 0 7 = η 0 7 := v15
            have v16 : η1 0 6 = η 0 6 := (k1.1.2.2.2.1 0 6 (by decide +kernel)).trans rfl
            have c1_0_6 : η1 0 6 = η 0 6 := v16
            have v17 : η1 0 8 = η 0 8 := (k1.1.2.2.2.1 0 8 (by decide +kernel)).trans rfl
            have c1_0_8 : η1 0 8 = η 0 8 := v17
            have bx2 : (0 : Int) ≤ x2 ∧ x2 ≤ 1 := k2.1.2.1
            have v18 : η2 0 8 = η 0 8 := (k2.1.2.2.2.1 0 8 (by decide +kernel)).trans v17
            replace e3 : x3 = η 0 8 := e3.trans v18
            replace r3 : -2147483648 ≤ x3 ∧ x3 ≤ 2147483647 := r3
            have v19 : η2 0 41 = η 0 41 := (k2.1.2.2.2.1 0 41 (by decide +kernel)).trans v9
            have c2_0_41 : η2 0 41 = η 0 41 := v19
            have v20 : η2 0 43 = η 0 43 := (k2.1.2.2.2.1 0 43 (by decide +kernel)).trans v10
            have c2_0_43 : η2 0 43 = η 0 43 := v20
            have v21 : η2 0 42 = η 0 42 := (k2.1.2.2.2.1 0 42 (by decide +kernel)).trans v11
            have c2_0_42 : η2 0 42 = η 0 42 := v21
            have v22 : η2 0 45 = η 0 45 := (k2.1.2.2.2.1 0 45 (by decide +kernel)).trans v12
            have c2_0_45 : η2 0 45 = η 0 45 := v22
            have v23 : η2 0 19 = η 0 19 := (k2.1.2.2.2.1 0 19 (by decide +kernel)).trans v13
            have c2_0_19 : η2 0 19 = η 0 19 := v23
            have v24 : η2 0 44 = η 0 44 := (k2.1.2.2.2.1 0 44 (by decide +kernel)).trans v14
            have c2_0_44 : η2 0 44 = η 0 44 := v24
            have v25 : η2 0 7 = η 0 7 := (k2.1.2.2.2.1 0 7 (by decide +kernel)).trans v15
            have c2_0_7 : η2 0 7 = η 0 7 := v25
            have v26 : η2 0 6 = η 0 6 := (k2.1.2.2.2.1 0 6 (by decide +kernel)).trans v16
            have c2_0_6 : η2 0 6 = η 0 6 := v26
            have c2_0_8 : η2 0 8 = η 0 8 := v18
            have bx4 : (0 : Int) ≤ x4 ∧ x4 ≤ 1 := k4.1.2.1
            have v27 : η3 0 41 = η 0 41 := (k4.1.2.2.2.1 0 41 (by decide +kernel)).trans v19
            have c3_0_41 : η3 0 41 = η 0 41 := v27
            have v28 : η3 0 43 = η 0 43 := (k4.1.2.2.2.1 0 43 (by decide +kernel)).trans v20
            have c3_0_43 : η3 0 43 = η 0 43 := v28
            have v29 : η3 0 42 = η 0 42 := (k4.1.2.2.2.1 0 42 (by decide +kernel)).trans v21
            have c3_0_42 : η3 0 42 = η 0 42 := v29
            have v30 : η3 0 45 = η 0 45 := (k4.1.2.2.2.1 0 45 (by decide +kernel)).trans v22
            have c3_0_45 : η3 0 45 = η 0 45 := v30
            have v31 : η3 0 19 = η 0 19 := (k4.1.2.2.2.1 0 19 (by decide +kernel)).trans v23
            have c3_0_19 : η3 0 19 = η 0 19 := v31
            have v32 : η3 0 44 = η 0 44 := (k4.1.2.2.2.1 0 44 (by decide +kernel)).trans v24
            have c3_0_44 : η3 0 44 = η 0 44 := v32
            have v33 : η3 0 7 = η 0 7 := (k4.1.2.2.2.1 0 7 (by decide +kernel)).trans v25
            have c3_0_7 : η3 0 7 = η 0 7 := v33
            have v34 : η3 0 6 = η 0 6 := (k4.1.2.2.2.1 0 6 (by decide +kernel)).trans v26
            have c3_0_6 : η3 0 6 = η 0 6 := v34
            have v35 : η3 0 8 = η 0 8 := (k4.1.2.2.2.1 0 8 (by decide +kernel)).trans v18
            have c3_0_8 : η3 0 8 = η 0 8 := v35
            have bx5 : (0 : Int) ≤ x5 ∧ x5 ≤ 1 := k5.1.2.1
            have fm1 : zFm zMl_signs η0 η1 := zFm_tr2 hI.2 k1.1.2.2.2.1 (by decide +kernel)
            have fm2 : zFm zMl_signs η0 η2 := zFm_tr2 fm1 k2.1.2.2.2.1 (by decide +kernel)
            have fm3 : zFm zMl_signs η0 η3 := zFm_tr2 fm2 k4.1.2.2.2.1 (by decide +kernel)
            have fm4 : zFm zMl_signs η0 η4 := zFm_tr2 fm3 k5.1.2.2.2.1 (by decide +kernel)
            have fmE : zFm zMl_signs η0 η4 := fm4
            have fr22_0 : ∀ j, η 22 j = η 22 j := fun _ => rfl
            have v36 : ∀ j, η1 22 j = η 22 j := fun j => k1.1.2.2.2.1 22 _ (zinr_not (by decide +kernel))
            have fr22_1 : ∀ j, η1 22 j = η 22 j := v36
            have v37 : ∀ j, η2 22 j = η 22 j := fun j => (k2.1.2.2.2.1 22 _ (zinr_not (by decide +kernel))).trans (v36 j)
            have fr22_2 : ∀ j, η2 22 j = η 22 j := v37
            have v38 : ∀ j, η3 22 j = η 22 j := fun j => (k4.1.2.2.2.1 22 _ (zinr_not (by decide +kernel))).trans (v37 j)
            have fr22_3 : ∀ j, η3 22 j = η 22 j := v38
            have v39 : ∀ j, η4 22 j = η 22 j := fun j => (k5.1.2.2.2.1 22 _ (zinr_not (by decide +kernel))).trans (v38 j)
            have fr22_4 : ∀ j, η4 22 j = η 22 j := v39
            have fr22 : ∀ j, η4 22 j = η 22 j := v39
            have v40 : η4 0 41 = η 0 41 := (k5.1.2.2.2.1 0 41 (by decide +kernel)).trans v27
            have f0_41 : η4 0 41 = η 0 41 := v40
            have v41 : η4 0 43 = η 0 43 := (k5.1.2.2.2.1 0 43 (by decide +kernel)).trans v28
            have f0_43 : η4 0 43 = η 0 43 := v41
            have v42 : η4 0 42 = η 0 42 := (k5.1.2.2.2.1 0 42 (by decide +kernel)).trans v29
            have f0_42 : η4 0 42 = η 0 42 := v42
            have v43 : η4 0 45 = η 0 45 := (k5.1.2.2.2.1 0 45 (by decide +kernel)).trans v30
            have f0_45 : η4 0 45 = η 0 45 := v43
            have v44 : η4 0 19 = η 0 19 := (k5.1.2.2.2.1 0 19 (by decide +kernel)).trans v31
            have f0_19 : η4 0 19 = η 0 19 := v44
            have v45 : η4 0 44 = η 0 44 := (k5.1.2.2.2.1 0 44 (by decide +kernel)).trans v32
            have f0_44 : η4 0 44 = η 0 44 := v45
            have v46 : η4 0 7 = η 0 7 := (k5.1.2.2.2.1 0 7 (by decide +kernel)).trans v33
            have f0_7 : η4 0 7 = η 0 7 := v46
            have v47 : η4 0 6 = η 0 6 := (k5.1.2.2.2.1 0 6 (by decide +kernel)).trans v34
            have f0_6 : η4 0 6 = η 0 6 := v47
            have v48 : η4 0 8 = η 0 8 := (k5.1.2.2.2.1 0 8 (by decide +kernel)).trans v35
            have f0_8 : η4 0 8 = η 0 8 := v48
            have wb1 : wB wl_l zTr η1 := k1.1.1
            have wb2 : wB wl_l zTr η2 := k2.1.1
            have wb3 : wB wl_l zTr η3 := k4.1.1
            have wb4 : wB wl_l zTr η4 := k5.1.1
            have wbE : wB wl_l zTr η4 := wb4
            have I0 : H_l 0 0 0 η := hig.1
            have I1 : H_l 0 0 0 η1 := k1.2.1
            have I2 : H_l 0 0 0 η2 := k2.2.1
            have I3 : H_l 0 0 0 η3 := k4.2.1
            have I4 : H_l 0 0 0 η4 := k5.2.1
            have qk5 : η3 0 8 = 4 := k5.2.2 c5
            exact ⟨⟨I4, show η4 0 45 = 0 by omega, show 1 ≤ η4 0 19 by omega, show η4 0 7 = η0 0 7 by omega, show η4 0 6 = η0 0 6 by omega, show η4 0 8 = η0 0 8 by omega, show 12 = 0 ∨ (3 ≤ 12 ∧ ¬ η4 0 8 = 0) by omega⟩, Nat.zero_lt_one⟩
          · show ∀ (x1 : Int) (η1 : zE), ((gC2 wl_l [(nat_lit 0, zPl_isSign, zOl_isSign, zMl_isSign), (nat_lit 1, zPl_wrong, zOl_wrong, zMl_wrong), (nat_lit 2, zPl_token, zOl_token, zMl_token), (nat_lit 3, zPl_isKey, zOl_isKey, zMl_isKey), (nat_lit 4, zPl_isCounted, zOl_isCounted, zMl_isCounted), (nat_lit 5, zPl_waitsFor, zOl_waitsFor, zMl_waitsFor), (nat_lit 6, zPl_rank, zOl_rank, zMl_rank), (nat_lit 7, zPl_bind, zOl_bind, zMl_bind)] pCl_signs qCl_signs) 3).2 [10] η x1 η1 → (x1 = 0) → ∀ (x2 : Int) (η2 : zE), ((gC2 wl_l [(nat_lit 0, zPl_isSign, zOl_isSign, zMl_isSign), (nat_lit 1, zPl_wrong, zOl_wrong, zMl_wrong), (nat_lit 2, zPl_token, zOl_token, zMl_token), (nat_lit 3, zPl_isKey, zOl_isKey, zMl_isKey), (nat_lit 4, zPl_isCounted, zOl_isCounted, zMl_isCounted), (nat_lit 5, zPl_waitsFor, zOl_waitsFor, zMl_waitsFor), (nat_lit 6, zPl_rank, zOl_rank, zMl_rank), (nat_lit 7, zPl_bind, zOl_bind, zMl_bind)] pCl_signs qCl_signs) 3).2 [11] η1 x2 η2 → (x2 = 0) → ∀ x3 : Int, x3 = η2 0 (Int.toNat 8) → zok 0 x3 → (¬ x3 = 5) → ∀ (x4 : Int) (η3 : zE), ((gC2 wl_l [(nat_lit 0, zPl_isSign, zOl_isSign, zMl_isSign), (nat_lit 1, zPl_wrong, zOl_wrong, zMl_wrong), (nat_lit 2, zPl_token, zOl_token, zMl_token), (nat_lit 3, zPl_isKey, zOl_isKey, zMl_isKey), (nat_lit 4, zPl_isCounted, zOl_isCounted, zMl_isCounted), (nat_lit 5, zPl_waitsFor, zOl_waitsFor, zMl_waitsFor), (nat_lit 6, zPl_rank, zOl_rank, zMl_rank), (nat_lit 7, zPl_bind, zOl_bind, zMl_bind)] pCl_signs qCl_signs) 0).2 [43] η2 x4 η3 → (¬ x4 = 0) → (iCl_signs xs η0) 1 [11] η3 ∧ (fun (_ : Nat) (_ : List Int) (_ : zE) => (0 : Nat)) 1 [11] η3 < 1
            have hw : η 0 45 = 0 := hig.2.1
            have hr1 : 1 ≤ η 0 19 := hig.2.2.1
            have hs1 : η 0 7 = η0 0 7 := hig.2.2.2.1
            have hs2 : η 0 6 = η0 0 6 := hig.2.2.2.2.1
            have hs3 : η 0 8 = η0 0 8 := hig.2.2.2.2.2.1
            have kk : η 0 8 = 5 → 0 ≤ η 0 9 ∧ η 0 9 ≤ 5 := hig.1.1.1.2.1.2
            have bd43 : (0 : Int) ≤ η 0 43 ∧ η 0 43 ≤ 8 := wf_ok (a := 43) (b := 43) (z := (0, 8)) hI.1.1 (by decide +kernel) (Nat.le_refl _) (Nat.le_refl _)
            have bd44 : (0 : Int) ≤ η 0 44 ∧ η 0 44 ≤ 64 := wf_ok (a := 44) (b := 44) (z := (0, 64)) hI.1.1 (by decide +kernel) (Nat.le_refl _) (Nat.le_refl _)
            have bd19 : (0 : Int) ≤ η 0 19 ∧ η 0 19 ≤ 64 := wf_ok (a := 19) (b := 19) (z := (0, 64)) hI.1.1 (by decide +kernel) (Nat.le_refl _) (Nat.le_refl _)
            obtain ⟨u1, u2, u3, u4⟩ := hig.1.2
            have cn := cz_n (η := η) (η 0 41).toNat
            intro x1 η1 h1 c1 x2 η2 h2 c2 x3 e3 r3 c3 x4 η3 h4 c4
            have k1 : sQ wl_l zTr zOl_isKey zMl_isKey [10] η x1 η1 ∧ pQl_isKey [10] η x1 η1 := h1
            have k2 : sQ wl_l zTr zOl_isKey zMl_isKey [11] η1 x2 η2 ∧ pQl_isKey [11] η1 x2 η2 := h2
            have k4 : sQ wl_l zTr zOl_isSign zMl_isSign [43] η2 x4 η3 ∧ pQl_isSign [43] η2 x4 η3 := h4
            have c0_0_41 : η 0 41 = η 0 41 := rfl
            have w0_0_43 : (0 : Int) ≤ η 0 43 ∧ η 0 43 ≤ 8 := wf_ok (a := 43) (b := 43) (z := (0, 8)) hI.1.1 (by decide +kernel) (Nat.le_refl _) (Nat.le_refl _)
            have c0_0_43 : η 0 43 = η 0 43 := rfl
            have c0_0_42 : η 0 42 = η 0 42 := rfl
            have c0_0_45 : η 0 45 = η 0 45 := rfl
            have w0_0_19 : (0 : Int) ≤ η 0 19 ∧ η 0 19 ≤ 64 := wf_ok (a := 19) (b := 19) (z := (0, 64)) hI.1.1 (by decide +kernel) (Nat.le_refl _) (Nat.le_refl _)
            have c0_0_19 : η 0 19 = η 0 19 := rfl
            have w0_0_44 : (0 : Int) ≤ η 0 44 ∧ η 0 44 ≤ 64 := wf_ok (a := 44) (b := 44) (z := (0, 64)) hI.1.1 (by decide +kernel) (Nat.le_refl _) (Nat.le_refl _)
            have c0_0_44 : η 0 44 = η 0 44 := rfl
            have w0_0_7 : (0 : Int) ≤ η 0 7 ∧ η 0 7 ≤ 700 := wf_ok (a := 7) (b := 7) (z := (0, 700)) hI.1.1 (by decide +kernel) (Nat.le_refl _) (Nat.le_refl _)
            have c0_0_7 : η 0 7 = η 0 7 := rfl
            have w0_0_6 : (0 : Int) ≤ η 0 6 ∧ η 0 6 ≤ 700 := wf_ok (a := 6) (b := 6) (z := (0, 700)) hI.1.1 (by decide +kernel) (Nat.le_refl _) (Nat.le_refl _)
            have c0_0_6 : η 0 6 = η 0 6 := rfl
            have w0_0_8 : (0 : Int) ≤ η 0 8 ∧ η 0 8 ≤ 6 := wf_ok (a := 8) (b := 8) (z := (0, 6)) hI.1.1 (by decide +kernel) (Nat.le_refl _) (Nat.le_refl _)
            have c0_0_8 : η 0 8 = η 0 8 := rfl
            have bx1 : (0 : Int) ≤ x1 ∧ x1 ≤ 1 := k1.1.2.1
            have v9 : η1 0 41 = η 0 41 := (k1.1.2.2.2.1 0 41 (by decide +kernel)).trans rfl
            have c1_0_41 : η1 0 41 = η 0 41 := v9
            have v10 : η1 0 43 = η 0 43 := (k1.1.2.2.2.1 0 43 (by decide +kernel)).trans rfl
            have c1_0_43 : η1 0 43 = η 0 43 := v10
            have v11 : η1 0 42 = η 0 42 := (k1.1.2.2.2.1 0 42 (by decide +kernel)).trans rfl
            have c1_0_42 : η1 0 42 = η 0 42 := v11
            have v12 : η1 0 45 = η 0 45 := (k1.1.2.2.2.1 0 45 (by decide +kernel)).trans rfl
            have c1_0_45 : η1 0 45 = η 0 45 := v12
            have v13 : η1 0 19 = η 0 19 := (k1.1.2.2.2.1 0 19 (by decide +kernel)).trans rfl
            have c1_0_19 : η1 0 19 = η 0 19 := v13
            have v14 : η1 0 44 = η 0 44 := (k1.1.2.2.2.1 0 44 (by decide +kernel)).trans rfl
            have c1_0_44 : η1 0 44 = η 0 44 := v14
            have v15 : η1 0 7 = η 0 7 := (k1.1.2.2.2.1 0 7 (by decide +kernel)).trans rfl
            have c1_0_7 : η1 0 7 = η 0 7 := v15
            have v16 : η1 0 6 = η 0 6 := (k1.1.2.2.2.1 0 6 (by decide +kernel)).trans rfl
            have c1_0_6 : η1 0 6 = η 0 6 := v16
            have v17 : η1 0 8 = η 0 8 := (k1.1.2.2.2.1 0 8 (by decide +kernel)).trans rfl
            have c1_0_8 : η1 0 8 = η 0 8 := v17
            have bx2 : (0 : Int) ≤ x2 ∧ x2 ≤ 1 := k2.1.2.1
            have v18 : η2 0 8 = η 0 8 := (k2.1.2.2.2.1 0 8 (by decide +kernel)).trans v17
            replace e3 : x3 = η 0 8 := e3.trans v18
            replace r3 : -2147483648 ≤ x3 ∧ x3 ≤ 2147483647 := r3
            have v19 : η2 0 41 = η 0 41 := (k2.1.2.2.2.1 0 41 (by decide +kernel)).trans v9
            have c2_0_41 : η2 0 41 = η 0 41 := v19
            have v20 : η2 0 43 = η 0 43 := (k2.1.2.2.2.1 0 43 (by decide +kernel)).trans v10
            have c2_0_43 : η2 0 43 = η 0 43 := v20
            have v21 : η2 0 42 = η 0 42 := (k2.1.2.2.2.1 0 42 (by decide +kernel)).trans v11
            have c2_0_42 : η2 0 42 = η 0 42 := v21
            have v22 : η2 0 45 = η 0 45 := (k2.1.2.2.2.1 0 45 (by decide +kernel)).trans v12
            have c2_0_45 : η2 0 45 = η 0 45 := v22
            have v23 : η2 0 19 = η 0 19 := (k2.1.2.2.2.1 0 19 (by decide +kernel)).trans v13
            have c2_0_19 : η2 0 19 = η 0 19 := v23
            have v24 : η2 0 44 = η 0 44 := (k2.1.2.2.2.1 0 44 (by decide +kernel)).trans v14
            have c2_0_44 : η2 0 44 = η 0 44 := v24
            have v25 : η2 0 7 = η 0 7 := (k2.1.2.2.2.1 0 7 (by decide +kernel)).trans v15
            have c2_0_7 : η2 0 7 = η 0 7 := v25
            have v26 : η2 0 6 = η 0 6 := (k2.1.2.2.2.1 0 6 (by decide +kernel)).trans v16
            have c2_0_6 : η2 0 6 = η 0 6 := v26
            have c2_0_8 : η2 0 8 = η 0 8 := v18
            have bx4 : (0 : Int) ≤ x4 ∧ x4 ≤ 1 := k4.1.2.1
            have fm1 : zFm zMl_signs η0 η1 := zFm_tr2 hI.2 k1.1.2.2.2.1 (by decide +kernel)
            have fm2 : zFm zMl_signs η0 η2 := zFm_tr2 fm1 k2.1.2.2.2.1 (by decide +kernel)
            have fm3 : zFm zMl_signs η0 η3 := zFm_tr2 fm2 k4.1.2.2.2.1 (by decide +kernel)
            have fmE : zFm zMl_signs η0 η3 := fm3
            have fr22_0 : ∀ j, η 22 j = η 22 j := fun _ => rfl
            have v27 : ∀ j, η1 22 j = η 22 j := fun j => k1.1.2.2.2.1 22 _ (zinr_not (by decide +kernel))
            have fr22_1 : ∀ j, η1 22 j = η 22 j := v27
            have v28 : ∀ j, η2 22 j = η 22 j := fun j => (k2.1.2.2.2.1 22 _ (zinr_not (by decide +kernel))).trans (v27 j)
            have fr22_2 : ∀ j, η2 22 j = η 22 j := v28
            have v29 : ∀ j, η3 22 j = η 22 j := fun j => (k4.1.2.2.2.1 22 _ (zinr_not (by decide +kernel))).trans (v28 j)
            have fr22_3 : ∀ j, η3 22 j = η 22 j := v29
            have fr22 : ∀ j, η3 22 j = η 22 j := v29
            have v30 : η3 0 41 = η 0 41 := (k4.1.2.2.2.1 0 41 (by decide +kernel)).trans v19
            have f0_41 : η3 0 41 = η 0 41 := v30
            have v31 : η3 0 43 = η 0 43 := (k4.1.2.2.2.1 0 43 (by decide +kernel)).trans v20
            have f0_43 : η3 0 43 = η 0 43 := v31
            have v32 : η3 0 42 = η 0 42 := (k4.1.2.2.2.1 0 42 (by decide +kernel)).trans v21
            have f0_42 : η3 0 42 = η 0 42 := v32
            have v33 : η3 0 45 = η 0 45 := (k4.1.2.2.2.1 0 45 (by decide +kernel)).trans v22
            have f0_45 : η3 0 45 = η 0 45 := v33
            have v34 : η3 0 19 = η 0 19 := (k4.1.2.2.2.1 0 19 (by decide +kernel)).trans v23
            have f0_19 : η3 0 19 = η 0 19 := v34
            have v35 : η3 0 44 = η 0 44 := (k4.1.2.2.2.1 0 44 (by decide +kernel)).trans v24
            have f0_44 : η3 0 44 = η 0 44 := v35
            have v36 : η3 0 7 = η 0 7 := (k4.1.2.2.2.1 0 7 (by decide +kernel)).trans v25
            have f0_7 : η3 0 7 = η 0 7 := v36
            have v37 : η3 0 6 = η 0 6 := (k4.1.2.2.2.1 0 6 (by decide +kernel)).trans v26
            have f0_6 : η3 0 6 = η 0 6 := v37
            have v38 : η3 0 8 = η 0 8 := (k4.1.2.2.2.1 0 8 (by decide +kernel)).trans v18
            have f0_8 : η3 0 8 = η 0 8 := v38
            have wb1 : wB wl_l zTr η1 := k1.1.1
            have wb2 : wB wl_l zTr η2 := k2.1.1
            have wb3 : wB wl_l zTr η3 := k4.1.1
            have wbE : wB wl_l zTr η3 := wb3
            have I0 : H_l 0 0 0 η := hig.1
            have I1 : H_l 0 0 0 η1 := k1.2.1
            have I2 : H_l 0 0 0 η2 := k2.2.1
            have I3 : H_l 0 0 0 η3 := k4.2.1
            have qk4 : η2 0 8 = 4 := k4.2.2 c4
            exact ⟨⟨I3, show η3 0 45 = 0 by omega, show 1 ≤ η3 0 19 by omega, show η3 0 7 = η0 0 7 by omega, show η3 0 6 = η0 0 6 by omega, show η3 0 8 = η0 0 8 by omega, show 11 = 0 ∨ (3 ≤ 11 ∧ ¬ η3 0 8 = 0) by omega⟩, Nat.zero_lt_one⟩
          · show ∀ (x1 : Int) (η1 : zE), ((gC2 wl_l [(nat_lit 0, zPl_isSign, zOl_isSign, zMl_isSign), (nat_lit 1, zPl_wrong, zOl_wrong, zMl_wrong), (nat_lit 2, zPl_token, zOl_token, zMl_token), (nat_lit 3, zPl_isKey, zOl_isKey, zMl_isKey), (nat_lit 4, zPl_isCounted, zOl_isCounted, zMl_isCounted), (nat_lit 5, zPl_waitsFor, zOl_waitsFor, zMl_waitsFor), (nat_lit 6, zPl_rank, zOl_rank, zMl_rank), (nat_lit 7, zPl_bind, zOl_bind, zMl_bind)] pCl_signs qCl_signs) 3).2 [10] η x1 η1 → (x1 = 0) → ∀ (x2 : Int) (η2 : zE), ((gC2 wl_l [(nat_lit 0, zPl_isSign, zOl_isSign, zMl_isSign), (nat_lit 1, zPl_wrong, zOl_wrong, zMl_wrong), (nat_lit 2, zPl_token, zOl_token, zMl_token), (nat_lit 3, zPl_isKey, zOl_isKey, zMl_isKey), (nat_lit 4, zPl_isCounted, zOl_isCounted, zMl_isCounted), (nat_lit 5, zPl_waitsFor, zOl_waitsFor, zMl_waitsFor), (nat_lit 6, zPl_rank, zOl_rank, zMl_rank), (nat_lit 7, zPl_bind, zOl_bind, zMl_bind)] pCl_signs qCl_signs) 3).2 [11] η1 x2 η2 → (¬ x2 = 0) → (iCl_signs xs η0) 1 [4] η2 ∧ (fun (_ : Nat) (_ : List Int) (_ : zE) => (0 : Nat)) 1 [4] η2 < 1
            have hw : η 0 45 = 0 := hig.2.1
            have hr1 : 1 ≤ η 0 19 := hig.2.2.1
            have hs1 : η 0 7 = η0 0 7 := hig.2.2.2.1
            have hs2 : η 0 6 = η0 0 6 := hig.2.2.2.2.1
            have hs3 : η 0 8 = η0 0 8 := hig.2.2.2.2.2.1
            have kk : η 0 8 = 5 → 0 ≤ η 0 9 ∧ η 0 9 ≤ 5 := hig.1.1.1.2.1.2
            have bd43 : (0 : Int) ≤ η 0 43 ∧ η 0 43 ≤ 8 := wf_ok (a := 43) (b := 43) (z := (0, 8)) hI.1.1 (by decide +kernel) (Nat.le_refl _) (Nat.le_refl _)
            have bd44 : (0 : Int) ≤ η 0 44 ∧ η 0 44 ≤ 64 := wf_ok (a := 44) (b := 44) (z := (0, 64)) hI.1.1 (by decide +kernel) (Nat.le_refl _) (Nat.le_refl _)
            have bd19 : (0 : Int) ≤ η 0 19 ∧ η 0 19 ≤ 64 := wf_ok (a := 19) (b := 19) (z := (0, 64)) hI.1.1 (by decide +kernel) (Nat.le_refl _) (Nat.le_refl _)
            obtain ⟨u1, u2, u3, u4⟩ := hig.1.2
            have cn := cz_n (η := η) (η 0 41).toNat
            intro x1 η1 h1 c1 x2 η2 h2 c2
            have k1 : sQ wl_l zTr zOl_isKey zMl_isKey [10] η x1 η1 ∧ pQl_isKey [10] η x1 η1 := h1
            have k2 : sQ wl_l zTr zOl_isKey zMl_isKey [11] η1 x2 η2 ∧ pQl_isKey [11] η1 x2 η2 := h2
            have c0_0_41 : η 0 41 = η 0 41 := rfl
            have w0_0_43 : (0 : Int) ≤ η 0 43 ∧ η 0 43 ≤ 8 := wf_ok (a := 43) (b := 43) (z := (0, 8)) hI.1.1 (by decide +kernel) (Nat.le_refl _) (Nat.le_refl _)
            have c0_0_43 : η 0 43 = η 0 43 := rfl
            have c0_0_42 : η 0 42 = η 0 42 := rfl
            have c0_0_45 : η 0 45 = η 0 45 := rfl
            have w0_0_19 : (0 : Int) ≤ η 0 19 ∧ η 0 19 ≤ 64 := wf_ok (a := 19) (b := 19) (z := (0, 64)) hI.1.1 (by decide +kernel) (Nat.le_refl _) (Nat.le_refl _)
            have c0_0_19 : η 0 19 = η 0 19 := rfl
            have w0_0_44 : (0 : Int) ≤ η 0 44 ∧ η 0 44 ≤ 64 := wf_ok (a := 44) (b := 44) (z := (0, 64)) hI.1.1 (by decide +kernel) (Nat.le_refl _) (Nat.le_refl _)
            have c0_0_44 : η 0 44 = η 0 44 := rfl
            have w0_0_7 : (0 : Int) ≤ η 0 7 ∧ η 0 7 ≤ 700 := wf_ok (a := 7) (b := 7) (z := (0, 700)) hI.1.1 (by decide +kernel) (Nat.le_refl _) (Nat.le_refl _)
            have c0_0_7 : η 0 7 = η 0 7 := rfl
            have w0_0_6 : (0 : Int) ≤ η 0 6 ∧ η 0 6 ≤ 700 := wf_ok (a := 6) (b := 6) (z := (0, 700)) hI.1.1 (by decide +kernel) (Nat.le_refl _) (Nat.le_refl _)
            have c0_0_6 : η 0 6 = η 0 6 := rfl
            have w0_0_8 : (0 : Int) ≤ η 0 8 ∧ η 0 8 ≤ 6 := wf_ok (a := 8) (b := 8) (z := (0, 6)) hI.1.1 (by decide +kernel) (Nat.le_refl _) (Nat.le_refl _)
            have c0_0_8 : η 0 8 = η 0 8 := rfl
            have bx1 : (0 : Int) ≤ x1 ∧ x1 ≤ 1 := k1.1.2.1
            have v9 : η1 0 41 = η 0 41 := (k1.1.2.2.2.1 0 41 (by decide +kernel)).trans rfl
            have c1_0_41 : η1 0 41 = η 0 41 := v9
            have v10 : η1 0 43 = η 0 43 := (k1.1.2.2.2.1 0 43 (by decide +kernel)).trans rfl
            have c1_0_43 : η1 0 43 = η 0 43 := v10
            have v11 : η1 0 42 = η 0 42 := (k1.1.2.2.2.1 0 42 (by decide +kernel)).trans rfl
            have c1_0_42 : η1 0 42 = η 0 42 := v11
            have v12 : η1 0 45 = η 0 45 := (k1.1.2.2.2.1 0 45 (by decide +kernel)).trans rfl
            have c1_0_45 : η1 0 45 = η 0 45 := v12
            have v13 : η1 0 19 = η 0 19 := (k1.1.2.2.2.1 0 19 (by decide +kernel)).trans rfl
            have c1_0_19 : η1 0 19 = η 0 19 := v13
            have v14 : η1 0 44 = η 0 44 := (k1.1.2.2.2.1 0 44 (by decide +kernel)).trans rfl
            have c1_0_44 : η1 0 44 = η 0 44 := v14
            have v15 : η1 0 7 = η 0 7 := (k1.1.2.2.2.1 0 7 (by decide +kernel)).trans rfl
            have c1_0_7 : η1 0 7 = η 0 7 := v15
            have v16 : η1 0 6 = η 0 6 := (k1.1.2.2.2.1 0 6 (by decide +kernel)).trans rfl
            have c1_0_6 : η1 0 6 = η 0 6 := v16
            have v17 : η1 0 8 = η 0 8 := (k1.1.2.2.2.1 0 8 (by decide +kernel)).trans rfl
            have c1_0_8 : η1 0 8 = η 0 8 := v17
            have bx2 : (0 : Int) ≤ x2 ∧ x2 ≤ 1 := k2.1.2.1
            have fm1 : zFm zMl_signs η0 η1 := zFm_tr2 hI.2 k1.1.2.2.2.1 (by decide +kernel)
            have fm2 : zFm zMl_signs η0 η2 := zFm_tr2 fm1 k2.1.2.2.2.1 (by decide +kernel)
            have fmE : zFm zMl_signs η0 η2 := fm2
            have fr22_0 : ∀ j, η 22 j = η 22 j := fun _ => rfl
            have v18 : ∀ j, η1 22 j = η 22 j := fun j => k1.1.2.2.2.1 22 _ (zinr_not (by decide +kernel))
            have fr22_1 : ∀ j, η1 22 j = η 22 j := v18
            have v19 : ∀ j, η2 22 j = η 22 j := fun j => (k2.1.2.2.2.1 22 _ (zinr_not (by decide +kernel))).trans (v18 j)
            have fr22_2 : ∀ j, η2 22 j = η 22 j := v19
            have fr22 : ∀ j, η2 22 j = η 22 j := v19
            have v20 : η2 0 41 = η 0 41 := (k2.1.2.2.2.1 0 41 (by decide +kernel)).trans v9
            have f0_41 : η2 0 41 = η 0 41 := v20
            have v21 : η2 0 43 = η 0 43 := (k2.1.2.2.2.1 0 43 (by decide +kernel)).trans v10
            have f0_43 : η2 0 43 = η 0 43 := v21
            have v22 : η2 0 42 = η 0 42 := (k2.1.2.2.2.1 0 42 (by decide +kernel)).trans v11
            have f0_42 : η2 0 42 = η 0 42 := v22
            have v23 : η2 0 45 = η 0 45 := (k2.1.2.2.2.1 0 45 (by decide +kernel)).trans v12
            have f0_45 : η2 0 45 = η 0 45 := v23
            have v24 : η2 0 19 = η 0 19 := (k2.1.2.2.2.1 0 19 (by decide +kernel)).trans v13
            have f0_19 : η2 0 19 = η 0 19 := v24
            have v25 : η2 0 44 = η 0 44 := (k2.1.2.2.2.1 0 44 (by decide +kernel)).trans v14
            have f0_44 : η2 0 44 = η 0 44 := v25
            have v26 : η2 0 7 = η 0 7 := (k2.1.2.2.2.1 0 7 (by decide +kernel)).trans v15
            have f0_7 : η2 0 7 = η 0 7 := v26
            have v27 : η2 0 6 = η 0 6 := (k2.1.2.2.2.1 0 6 (by decide +kernel)).trans v16
            have f0_6 : η2 0 6 = η 0 6 := v27
            have v28 : η2 0 8 = η 0 8 := (k2.1.2.2.2.1 0 8 (by decide +kernel)).trans v17
            have f0_8 : η2 0 8 = η 0 8 := v28
            have wb1 : wB wl_l zTr η1 := k1.1.1
            have wb2 : wB wl_l zTr η2 := k2.1.1
            have wbE : wB wl_l zTr η2 := wb2
            have I0 : H_l 0 0 0 η := hig.1
            have I1 : H_l 0 0 0 η1 := k1.2.1
            have I2 : H_l 0 0 0 η2 := k2.2.1
            have qk2 : η1 0 8 = 1 := k2.2.2 c2
            exact ⟨⟨I2, show η2 0 45 = 0 by omega, show 1 ≤ η2 0 19 by omega, show η2 0 7 = η0 0 7 by omega, show η2 0 6 = η0 0 6 by omega, show η2 0 8 = η0 0 8 by omega, show 4 = 0 ∨ (3 ≤ 4 ∧ ¬ η2 0 8 = 0) by omega⟩, Nat.zero_lt_one⟩
          · show ∀ (x1 : Int) (η1 : zE), ((gC2 wl_l [(nat_lit 0, zPl_isSign, zOl_isSign, zMl_isSign), (nat_lit 1, zPl_wrong, zOl_wrong, zMl_wrong), (nat_lit 2, zPl_token, zOl_token, zMl_token), (nat_lit 3, zPl_isKey, zOl_isKey, zMl_isKey), (nat_lit 4, zPl_isCounted, zOl_isCounted, zMl_isCounted), (nat_lit 5, zPl_waitsFor, zOl_waitsFor, zMl_waitsFor), (nat_lit 6, zPl_rank, zOl_rank, zMl_rank), (nat_lit 7, zPl_bind, zOl_bind, zMl_bind)] pCl_signs qCl_signs) 3).2 [10] η x1 η1 → (¬ x1 = 0) → (iCl_signs xs η0) 1 [3] η1 ∧ (fun (_ : Nat) (_ : List Int) (_ : zE) => (0 : Nat)) 1 [3] η1 < 1
            have hw : η 0 45 = 0 := hig.2.1
            have hr1 : 1 ≤ η 0 19 := hig.2.2.1
            have hs1 : η 0 7 = η0 0 7 := hig.2.2.2.1
            have hs2 : η 0 6 = η0 0 6 := hig.2.2.2.2.1
            have hs3 : η 0 8 = η0 0 8 := hig.2.2.2.2.2.1
            have kk : η 0 8 = 5 → 0 ≤ η 0 9 ∧ η 0 9 ≤ 5 := hig.1.1.1.2.1.2
            have bd43 : (0 : Int) ≤ η 0 43 ∧ η 0 43 ≤ 8 := wf_ok (a := 43) (b := 43) (z := (0, 8)) hI.1.1 (by decide +kernel) (Nat.le_refl _) (Nat.le_refl _)
            have bd44 : (0 : Int) ≤ η 0 44 ∧ η 0 44 ≤ 64 := wf_ok (a := 44) (b := 44) (z := (0, 64)) hI.1.1 (by decide +kernel) (Nat.le_refl _) (Nat.le_refl _)
            have bd19 : (0 : Int) ≤ η 0 19 ∧ η 0 19 ≤ 64 := wf_ok (a := 19) (b := 19) (z := (0, 64)) hI.1.1 (by decide +kernel) (Nat.le_refl _) (Nat.le_refl _)
            obtain ⟨u1, u2, u3, u4⟩ := hig.1.2
            have cn := cz_n (η := η) (η 0 41).toNat
            intro x1 η1 h1 c1
            have k1 : sQ wl_l zTr zOl_isKey zMl_isKey [10] η x1 η1 ∧ pQl_isKey [10] η x1 η1 := h1
            have c0_0_41 : η 0 41 = η 0 41 := rfl
            have w0_0_43 : (0 : Int) ≤ η 0 43 ∧ η 0 43 ≤ 8 := wf_ok (a := 43) (b := 43) (z := (0, 8)) hI.1.1 (by decide +kernel) (Nat.le_refl _) (Nat.le_refl _)
            have c0_0_43 : η 0 43 = η 0 43 := rfl
            have c0_0_42 : η 0 42 = η 0 42 := rfl
            have c0_0_45 : η 0 45 = η 0 45 := rfl
            have w0_0_19 : (0 : Int) ≤ η 0 19 ∧ η 0 19 ≤ 64 := wf_ok (a := 19) (b := 19) (z := (0, 64)) hI.1.1 (by decide +kernel) (Nat.le_refl _) (Nat.le_refl _)
            have c0_0_19 : η 0 19 = η 0 19 := rfl
            have w0_0_44 : (0 : Int) ≤ η 0 44 ∧ η 0 44 ≤ 64 := wf_ok (a := 44) (b := 44) (z := (0, 64)) hI.1.1 (by decide +kernel) (Nat.le_refl _) (Nat.le_refl _)
            have c0_0_44 : η 0 44 = η 0 44 := rfl
            have w0_0_7 : (0 : Int) ≤ η 0 7 ∧ η 0 7 ≤ 700 := wf_ok (a := 7) (b := 7) (z := (0, 700)) hI.1.1 (by decide +kernel) (Nat.le_refl _) (Nat.le_refl _)
            have c0_0_7 : η 0 7 = η 0 7 := rfl
            have w0_0_6 : (0 : Int) ≤ η 0 6 ∧ η 0 6 ≤ 700 := wf_ok (a := 6) (b := 6) (z := (0, 700)) hI.1.1 (by decide +kernel) (Nat.le_refl _) (Nat.le_refl _)
            have c0_0_6 : η 0 6 = η 0 6 := rfl
            have w0_0_8 : (0 : Int) ≤ η 0 8 ∧ η 0 8 ≤ 6 := wf_ok (a := 8) (b := 8) (z := (0, 6)) hI.1.1 (by decide +kernel) (Nat.le_refl _) (Nat.le_refl _)
            have c0_0_8 : η 0 8 = η 0 8 := rfl
            have bx1 : (0 : Int) ≤ x1 ∧ x1 ≤ 1 := k1.1.2.1
            have fm1 : zFm zMl_signs η0 η1 := zFm_tr2 hI.2 k1.1.2.2.2.1 (by decide +kernel)
            have fmE : zFm zMl_signs η0 η1 := fm1
            have fr22_0 : ∀ j, η 22 j = η 22 j := fun _ => rfl
            have v9 : ∀ j, η1 22 j = η 22 j := fun j => k1.1.2.2.2.1 22 _ (zinr_not (by decide +kernel))
            have fr22_1 : ∀ j, η1 22 j = η 22 j := v9
            have fr22 : ∀ j, η1 22 j = η 22 j := v9
            have v10 : η1 0 41 = η 0 41 := (k1.1.2.2.2.1 0 41 (by decide +kernel)).trans rfl
            have f0_41 : η1 0 41 = η 0 41 := v10
            have v11 : η1 0 43 = η 0 43 := (k1.1.2.2.2.1 0 43 (by decide +kernel)).trans rfl
            have f0_43 : η1 0 43 = η 0 43 := v11
            have v12 : η1 0 42 = η 0 42 := (k1.1.2.2.2.1 0 42 (by decide +kernel)).trans rfl
            have f0_42 : η1 0 42 = η 0 42 := v12
            have v13 : η1 0 45 = η 0 45 := (k1.1.2.2.2.1 0 45 (by decide +kernel)).trans rfl
            have f0_45 : η1 0 45 = η 0 45 := v13
            have v14 : η1 0 19 = η 0 19 := (k1.1.2.2.2.1 0 19 (by decide +kernel)).trans rfl
            have f0_19 : η1 0 19 = η 0 19 := v14
            have v15 : η1 0 44 = η 0 44 := (k1.1.2.2.2.1 0 44 (by decide +kernel)).trans rfl
            have f0_44 : η1 0 44 = η 0 44 := v15
            have v16 : η1 0 7 = η 0 7 := (k1.1.2.2.2.1 0 7 (by decide +kernel)).trans rfl
            have f0_7 : η1 0 7 = η 0 7 := v16
            have v17 : η1 0 6 = η 0 6 := (k1.1.2.2.2.1 0 6 (by decide +kernel)).trans rfl
            have f0_6 : η1 0 6 = η 0 6 := v17
            have v18 : η1 0 8 = η 0 8 := (k1.1.2.2.2.1 0 8 (by decide +kernel)).trans rfl
            have f0_8 : η1 0 8 = η 0 8 := v18
            have wb1 : wB wl_l zTr η1 := k1.1.1
            have wbE : wB wl_l zTr η1 := wb1
            have I0 : H_l 0 0 0 η := hig.1
            have I1 : H_l 0 0 0 η1 := k1.2.1
            have qk1 : η 0 8 = 1 := k1.2.2 c1
            exact ⟨⟨I1, show η1 0 45 = 0 by omega, show 1 ≤ η1 0 19 by omega, show η1 0 7 = η0 0 7 by omega, show η1 0 6 = η0 0 6 by omega, show η1 0 8 = η0 0 8 by omega, show 3 = 0 ∨ (3 ≤ 3 ∧ ¬ η1 0 8 = 0) by omega⟩, Nat.zero_lt_one⟩
        · refine List.forall_mem_cons.mpr ⟨?_, fun _ h => nomatch h⟩
          · show ∀ (x1 : Int) (η1 : zE), ((gC wl_l [(nat_lit 0, zPl_isSign, zOl_isSign, zMl_isSign), (nat_lit 1, zPl_wrong, zOl_wrong, zMl_wrong), (nat_lit 2, zPl_token, zOl_token, zMl_token), (nat_lit 3, zPl_isKey, zOl_isKey, zMl_isKey), (nat_lit 4, zPl_isCounted, zOl_isCounted, zMl_isCounted), (nat_lit 5, zPl_waitsFor, zOl_waitsFor, zMl_waitsFor), (nat_lit 6, zPl_rank, zOl_rank, zMl_rank), (nat_lit 7, zPl_bind, zOl_bind, zMl_bind)] pCl_signs qCl_signs) 3).2 [10] η x1 η1 → (x1 = 0) → ∀ (x2 : Int) (η2 : zE), ((gC wl_l [(nat_lit 0, zPl_isSign, zOl_isSign, zMl_isSign), (nat_lit 1, zPl_wrong, zOl_wrong, zMl_wrong), (nat_lit 2, zPl_token, zOl_token, zMl_token), (nat_lit 3, zPl_isKey, zOl_isKey, zMl_isKey), (nat_lit 4, zPl_isCounted, zOl_isCounted, zMl_isCounted), (nat_lit 5, zPl_waitsFor, zOl_waitsFor, zMl_waitsFor), (nat_lit 6, zPl_rank, zOl_rank, zMl_rank), (nat_lit 7, zPl_bind, zOl_bind, zMl_bind)] pCl_signs qCl_signs) 3).2 [11] η1 x2 η2 → (x2 = 0) → ∀ x3 : Int, x3 = η2 0 (Int.toNat 8) → zok 0 x3 → (x3 = 5) → ∀ x4 : Int, x4 = η2 0 (Int.toNat 9) → zok 0 x4 → ∀ x5 : Int, x5 = zd 0 1 5 x4 → (fun c ys η1 => zsI wl_l zTr zVl_signs zMl_signs η0 c ys η1 ∧ iCl_signs xs η0 c ys η1) 1 [x5] η2 ∧ (zsM zVl_signs) 1 [x5] η2 < zsM zVl_signs 0 [] η
            have hw : η 0 45 = 0 := hig.2.1
            have hr1 : 1 ≤ η 0 19 := hig.2.2.1
            have hs1 : η 0 7 = η0 0 7 := hig.2.2.2.1
            have hs2 : η 0 6 = η0 0 6 := hig.2.2.2.2.1
            have hs3 : η 0 8 = η0 0 8 := hig.2.2.2.2.2.1
            have kk : η 0 8 = 5 → 0 ≤ η 0 9 ∧ η 0 9 ≤ 5 := hig.1.1.1.2.1.2
            have bd43 : (0 : Int) ≤ η 0 43 ∧ η 0 43 ≤ 8 := wf_ok (a := 43) (b := 43) (z := (0, 8)) hI.1.1 (by decide +kernel) (Nat.le_refl _) (Nat.le_refl _)
            have bd44 : (0 : Int) ≤ η 0 44 ∧ η 0 44 ≤ 64 := wf_ok (a := 44) (b := 44) (z := (0, 64)) hI.1.1 (by decide +kernel) (Nat.le_refl _) (Nat.le_refl _)
            have bd19 : (0 : Int) ≤ η 0 19 ∧ η 0 19 ≤ 64 := wf_ok (a := 19) (b := 19) (z := (0, 64)) hI.1.1 (by decide +kernel) (Nat.le_refl _) (Nat.le_refl _)
            obtain ⟨u1, u2, u3, u4⟩ := hig.1.2
            have cn := cz_n (η := η) (η 0 41).toNat
            intro x1 η1 h1 c1 x2 η2 h2 c2 x3 e3 r3 c3 x4 e4 r4 x5 e5
            replace e5 := zEq_i e5
            have k1 : sQ wl_l zTr zOl_isKey zMl_isKey [10] η x1 η1 ∧ pQl_isKey [10] η x1 η1 := h1
            have k2 : sQ wl_l zTr zOl_isKey zMl_isKey [11] η1 x2 η2 ∧ pQl_isKey [11] η1 x2 η2 := h2
            have c0_0_41 : η 0 41 = η 0 41 := rfl
            have w0_0_43 : (0 : Int) ≤ η 0 43 ∧ η 0 43 ≤ 8 := wf_ok (a := 43) (b := 43) (z := (0, 8)) hI.1.1 (by decide +kernel) (Nat.le_refl _) (Nat.le_refl _)
            have c0_0_43 : η 0 43 = η 0 43 := rfl
            have c0_0_42 : η 0 42 = η 0 42 := rfl
            have c0_0_45 : η 0 45 = η 0 45 := rfl
            have w0_0_19 : (0 : Int) ≤ η 0 19 ∧ η 0 19 ≤ 64 := wf_ok (a := 19) (b := 19) (z := (0, 64)) hI.1.1 (by decide +kernel) (Nat.le_refl _) (Nat.le_refl _)
            have c0_0_19 : η 0 19 = η 0 19 := rfl
            have w0_0_44 : (0 : Int) ≤ η 0 44 ∧ η 0 44 ≤ 64 := wf_ok (a := 44) (b := 44) (z := (0, 64)) hI.1.1 (by decide +kernel) (Nat.le_refl _) (Nat.le_refl _)
            have c0_0_44 : η 0 44 = η 0 44 := rfl
            have w0_0_7 : (0 : Int) ≤ η 0 7 ∧ η 0 7 ≤ 700 := wf_ok (a := 7) (b := 7) (z := (0, 700)) hI.1.1 (by decide +kernel) (Nat.le_refl _) (Nat.le_refl _)
            have c0_0_7 : η 0 7 = η 0 7 := rfl
            have w0_0_6 : (0 : Int) ≤ η 0 6 ∧ η 0 6 ≤ 700 := wf_ok (a := 6) (b := 6) (z := (0, 700)) hI.1.1 (by decide +kernel) (Nat.le_refl _) (Nat.le_refl _)
            have c0_0_6 : η 0 6 = η 0 6 := rfl
            have w0_0_8 : (0 : Int) ≤ η 0 8 ∧ η 0 8 ≤ 6 := wf_ok (a := 8) (b := 8) (z := (0, 6)) hI.1.1 (by decide +kernel) (Nat.le_refl _) (Nat.le_refl _)
            have c0_0_8 : η 0 8 = η 0 8 := rfl
            have bx1 : (0 : Int) ≤ x1 ∧ x1 ≤ 1 := k1.1.2.1
            have v9 : η1 0 41 = η 0 41 := (k1.1.2.2.2.1 0 41 (by decide +kernel)).trans rfl
            have c1_0_41 : η1 0 41 = η 0 41 := v9
            have v10 : η1 0 43 = η 0 43 := (k1.1.2.2.2.1 0 43 (by decide +kernel)).trans rfl
            have c1_0_43 : η1 0 43 = η 0 43 := v10
            have v11 : η1 0 42 = η 0 42 := (k1.1.2.2.2.1 0 42 (by decide +kernel)).trans rfl
            have c1_0_42 : η1 0 42 = η 0 42 := v11
            have v12 : η1 0 45 = η 0 45 := (k1.1.2.2.2.1 0 45 (by decide +kernel)).trans rfl
            have c1_0_45 : η1 0 45 = η 0 45 := v12
            have v13 : η1 0 19 = η 0 19 := (k1.1.2.2.2.1 0 19 (by decide +kernel)).trans rfl
            have c1_0_19 : η1 0 19 = η 0 19 := v13
            have v14 : η1 0 44 = η 0 44 := (k1.1.2.2.2.1 0 44 (by decide +kernel)).trans rfl
            have c1_0_44 : η1 0 44 = η 0 44 := v14
            have v15 : η1 0 7 = η 0 7 := (k1.1.2.2.2.1 0 7 (by decide +kernel)).trans rfl
            have c1_0_7 : η1 0 7 = η 0 7 := v15
            have v16 : η1 0 6 = η 0 6 := (k1.1.2.2.2.1 0 6 (by decide +kernel)).trans rfl
            have c1_0_6 : η1 0 6 = η 0 6 := v16
            have v17 : η1 0 8 = η 0 8 := (k1.1.2.2.2.1 0 8 (by decide +kernel)).trans rfl
            have c1_0_8 : η1 0 8 = η 0 8 := v17
            have bx2 : (0 : Int) ≤ x2 ∧ x2 ≤ 1 := k2.1.2.1
            have v18 : η2 0 8 = η 0 8 := (k2.1.2.2.2.1 0 8 (by decide +kernel)).trans v17
            replace e3 : x3 = η 0 8 := e3.trans v18
            replace r3 : -2147483648 ≤ x3 ∧ x3 ≤ 2147483647 := r3
            have v20 : η1 0 9 = η 0 9 := (k1.1.2.2.2.1 0 9 (by decide +kernel)).trans rfl
            have v21 : η2 0 9 = η 0 9 := (k2.1.2.2.2.1 0 9 (by decide +kernel)).trans v20
            replace e4 : x4 = η 0 9 := e4.trans v21
            replace r4 : -2147483648 ≤ x4 ∧ x4 ≤ 2147483647 := r4
            first
            | replace e5 : x5 = 5 + x4 := zd_a2 (zEq_o e5) (by clear e5; exact ⟨by omega, by omega⟩)
            | clear e5
            have fm1 : zFm zMl_signs η0 η1 := zFm_tr2 hI.2 k1.1.2.2.2.1 (by decide +kernel)
            have fm2 : zFm zMl_signs η0 η2 := zFm_tr2 fm1 k2.1.2.2.2.1 (by decide +kernel)
            have fmE : zFm zMl_signs η0 η2 := fm2
            have fr22_0 : ∀ j, η 22 j = η 22 j := fun _ => rfl
            have v22 : ∀ j, η1 22 j = η 22 j := fun j => k1.1.2.2.2.1 22 _ (zinr_not (by decide +kernel))
            have fr22_1 : ∀ j, η1 22 j = η 22 j := v22
            have v23 : ∀ j, η2 22 j = η 22 j := fun j => (k2.1.2.2.2.1 22 _ (zinr_not (by decide +kernel))).trans (v22 j)
            have fr22_2 : ∀ j, η2 22 j = η 22 j := v23
            have fr22 : ∀ j, η2 22 j = η 22 j := v23
            have v24 : η2 0 41 = η 0 41 := (k2.1.2.2.2.1 0 41 (by decide +kernel)).trans v9
            have f0_41 : η2 0 41 = η 0 41 := v24
            have v25 : η2 0 43 = η 0 43 := (k2.1.2.2.2.1 0 43 (by decide +kernel)).trans v10
            have f0_43 : η2 0 43 = η 0 43 := v25
            have v26 : η2 0 42 = η 0 42 := (k2.1.2.2.2.1 0 42 (by decide +kernel)).trans v11
            have f0_42 : η2 0 42 = η 0 42 := v26
            have v27 : η2 0 45 = η 0 45 := (k2.1.2.2.2.1 0 45 (by decide +kernel)).trans v12
            have f0_45 : η2 0 45 = η 0 45 := v27
            have v28 : η2 0 19 = η 0 19 := (k2.1.2.2.2.1 0 19 (by decide +kernel)).trans v13
            have f0_19 : η2 0 19 = η 0 19 := v28
            have v29 : η2 0 44 = η 0 44 := (k2.1.2.2.2.1 0 44 (by decide +kernel)).trans v14
            have f0_44 : η2 0 44 = η 0 44 := v29
            have v30 : η2 0 7 = η 0 7 := (k2.1.2.2.2.1 0 7 (by decide +kernel)).trans v15
            have f0_7 : η2 0 7 = η 0 7 := v30
            have v31 : η2 0 6 = η 0 6 := (k2.1.2.2.2.1 0 6 (by decide +kernel)).trans v16
            have f0_6 : η2 0 6 = η 0 6 := v31
            have f0_8 : η2 0 8 = η 0 8 := v18
            have wb1 : wB wl_l zTr η1 := k1.1.1
            have wb2 : wB wl_l zTr η2 := k2.1.1
            have wbE : wB wl_l zTr η2 := wb2
            have I0 : H_l 0 0 0 η := hig.1
            have I1 : H_l 0 0 0 η1 := k1.2.1
            have I2 : H_l 0 0 0 η2 := k2.2.1
            exact ⟨⟨⟨⟨wbE, ⟨⟨show (0 : Int) ≤ x5 by omega, show x5 ≤ 14 by omega⟩, trivial⟩, fun f hf => nomatch hf⟩, fmE⟩, ⟨I2, show η2 0 45 = 0 by omega, show 1 ≤ η2 0 19 by omega, show η2 0 7 = η0 0 7 by omega, show η2 0 6 = η0 0 6 by omega, show η2 0 8 = η0 0 8 by omega, show x5 = 0 ∨ (3 ≤ x5 ∧ ¬ η2 0 8 = 0) by omega⟩⟩, show (8 : Nat) < 9 by decide⟩
      )⟩, (List.forall_mem_cons.mpr ⟨⟨zDl_signs_1, zEl_signs_1, zFl_signs_1, 15, by decide +kernel, (by
      intro xs η0 hlx hp hpp ys η hr hl hI hig
      match ys, hl, hI, hig with
      | [x1], _, hI, hig =>
        refine ⟨?_, ?_⟩
        · refine List.forall_mem_cons.mpr ⟨?_, List.forall_mem_cons.mpr ⟨?_, List.forall_mem_cons.mpr ⟨?_, List.forall_mem_cons.mpr ⟨?_, List.forall_mem_cons.mpr ⟨?_, fun _ h => nomatch h⟩⟩⟩⟩⟩
          · show (¬ x1 = 0) → ((gC2 wl_l [(nat_lit 0, zPl_isSign, zOl_isSign, zMl_isSign), (nat_lit 1, zPl_wrong, zOl_wrong, zMl_wrong), (nat_lit 2, zPl_token, zOl_token, zMl_token), (nat_lit 3, zPl_isKey, zOl_isKey, zMl_isKey), (nat_lit 4, zPl_isCounted, zOl_isCounted, zMl_isCounted), (nat_lit 5, zPl_waitsFor, zOl_waitsFor, zMl_waitsFor), (nat_lit 6, zPl_rank, zOl_rank, zMl_rank), (nat_lit 7, zPl_bind, zOl_bind, zMl_bind)] pCl_signs qCl_signs) 6).1 [x1] η
            have hw : η 0 45 = 0 := hig.2.1
            have hr1 : 1 ≤ η 0 19 := hig.2.2.1
            have hs1 : η 0 7 = η0 0 7 := hig.2.2.2.1
            have hs2 : η 0 6 = η0 0 6 := hig.2.2.2.2.1
            have hs3 : η 0 8 = η0 0 8 := hig.2.2.2.2.2.1
            have hk : x1 = 0 ∨ (3 ≤ x1 ∧ ¬ η 0 8 = 0) := hig.2.2.2.2.2.2
            have kk : η 0 8 = 5 → 0 ≤ η 0 9 ∧ η 0 9 ≤ 5 := hig.1.1.1.2.1.2
            have bd43 : (0 : Int) ≤ η 0 43 ∧ η 0 43 ≤ 8 := wf_ok (a := 43) (b := 43) (z := (0, 8)) hI.1.1 (by decide +kernel) (Nat.le_refl _) (Nat.le_refl _)
            have bd44 : (0 : Int) ≤ η 0 44 ∧ η 0 44 ≤ 64 := wf_ok (a := 44) (b := 44) (z := (0, 64)) hI.1.1 (by decide +kernel) (Nat.le_refl _) (Nat.le_refl _)
            have bd19 : (0 : Int) ≤ η 0 19 ∧ η 0 19 ≤ 64 := wf_ok (a := 19) (b := 19) (z := (0, 64)) hI.1.1 (by decide +kernel) (Nat.le_refl _) (Nat.le_refl _)
            obtain ⟨u1, u2, u3, u4⟩ := hig.1.2
            have cn := cz_n (η := η) (η 0 41).toNat
            intro c1
            have bx1 : (0 : Int) ≤ x1 ∧ x1 ≤ 14 := hI.1.2.1.1
            have fmE : zFm zMl_signs η0 η := hI.2
            have fr22_0 : ∀ j, η 22 j = η 22 j := fun _ => rfl
            have fr22 : ∀ j, η 22 j = η 22 j := fun _ => rfl
            have f0_41 : η 0 41 = η 0 41 := rfl
            have w0_0_43 : (0 : Int) ≤ η 0 43 ∧ η 0 43 ≤ 8 := wf_ok (a := 43) (b := 43) (z := (0, 8)) hI.1.1 (by decide +kernel) (Nat.le_refl _) (Nat.le_refl _)
            have f0_43 : η 0 43 = η 0 43 := rfl
            have f0_42 : η 0 42 = η 0 42 := rfl
            have f0_45 : η 0 45 = η 0 45 := rfl
            have w0_0_19 : (0 : Int) ≤ η 0 19 ∧ η 0 19 ≤ 64 := wf_ok (a := 19) (b := 19) (z := (0, 64)) hI.1.1 (by decide +kernel) (Nat.le_refl _) (Nat.le_refl _)
            have f0_19 : η 0 19 = η 0 19 := rfl
            have w0_0_44 : (0 : Int) ≤ η 0 44 ∧ η 0 44 ≤ 64 := wf_ok (a := 44) (b := 44) (z := (0, 64)) hI.1.1 (by decide +kernel) (Nat.le_refl _) (Nat.le_refl _)
            have f0_44 : η 0 44 = η 0 44 := rfl
            have w0_0_7 : (0 : Int) ≤ η 0 7 ∧ η 0 7 ≤ 700 := wf_ok (a := 7) (b := 7) (z := (0, 700)) hI.1.1 (by decide +kernel) (Nat.le_refl _) (Nat.le_refl _)
            have f0_7 : η 0 7 = η 0 7 := rfl
            have w0_0_6 : (0 : Int) ≤ η 0 6 ∧ η 0 6 ≤ 700 := wf_ok (a := 6) (b := 6) (z := (0, 700)) hI.1.1 (by decide +kernel) (Nat.le_refl _) (Nat.le_refl _)
            have f0_6 : η 0 6 = η 0 6 := rfl
            have w0_0_8 : (0 : Int) ≤ η 0 8 ∧ η 0 8 ≤ 6 := wf_ok (a := 8) (b := 8) (z := (0, 6)) hI.1.1 (by decide +kernel) (Nat.le_refl _) (Nat.le_refl _)
            have f0_8 : η 0 8 = η 0 8 := rfl
            have wbE : wB wl_l zTr η := hI.1.1
            have I0 : H_l 0 0 0 η := hig.1
            exact I0
          · show (¬ x1 = 0) → ∀ (x2 : Int) (η1 : zE), ((gC2 wl_l [(nat_lit 0, zPl_isSign, zOl_isSign, zMl_isSign), (nat_lit 1, zPl_wrong, zOl_wrong, zMl_wrong), (nat_lit 2, zPl_token, zOl_token, zMl_token), (nat_lit 3, zPl_isKey, zOl_isKey, zMl_isKey), (nat_lit 4, zPl_isCounted, zOl_isCounted, zMl_isCounted), (nat_lit 5, zPl_waitsFor, zOl_waitsFor, zMl_waitsFor), (nat_lit 6, zPl_rank, zOl_rank, zMl_rank), (nat_lit 7, zPl_bind, zOl_bind, zMl_bind)] pCl_signs qCl_signs) 6).2 [x1] η x2 η1 → (¬ x2 = 4) → ((gC2 wl_l [(nat_lit 0, zPl_isSign, zOl_isSign, zMl_isSign), (nat_lit 1, zPl_wrong, zOl_wrong, zMl_wrong), (nat_lit 2, zPl_token, zOl_token, zMl_token), (nat_lit 3, zPl_isKey, zOl_isKey, zMl_isKey), (nat_lit 4, zPl_isCounted, zOl_isCounted, zMl_isCounted), (nat_lit 5, zPl_waitsFor, zOl_waitsFor, zMl_waitsFor), (nat_lit 6, zPl_rank, zOl_rank, zMl_rank), (nat_lit 7, zPl_bind, zOl_bind, zMl_bind)] pCl_signs qCl_signs) 6).1 [x1] η1
            have hw : η 0 45 = 0 := hig.2.1
            have hr1 : 1 ≤ η 0 19 := hig.2.2.1
            have hs1 : η 0 7 = η0 0 7 := hig.2.2.2.1
            have hs2 : η 0 6 = η0 0 6 := hig.2.2.2.2.1
            have hs3 : η 0 8 = η0 0 8 := hig.2.2.2.2.2.1
            have hk : x1 = 0 ∨ (3 ≤ x1 ∧ ¬ η 0 8 = 0) := hig.2.2.2.2.2.2
            have kk : η 0 8 = 5 → 0 ≤ η 0 9 ∧ η 0 9 ≤ 5 := hig.1.1.1.2.1.2
            have bd43 : (0 : Int) ≤ η 0 43 ∧ η 0 43 ≤ 8 := wf_ok (a := 43) (b := 43) (z := (0, 8)) hI.1.1 (by decide +kernel) (Nat.le_refl _) (Nat.le_refl _)
            have bd44 : (0 : Int) ≤ η 0 44 ∧ η 0 44 ≤ 64 := wf_ok (a := 44) (b := 44) (z := (0, 64)) hI.1.1 (by decide +kernel) (Nat.le_refl _) (Nat.le_refl _)
            have bd19 : (0 : Int) ≤ η 0 19 ∧ η 0 19 ≤ 64 := wf_ok (a := 19) (b := 19) (z := (0, 64)) hI.1.1 (by decide +kernel) (Nat.le_refl _) (Nat.le_refl _)
            obtain ⟨u1, u2, u3, u4⟩ := hig.1.2
            have cn := cz_n (η := η) (η 0 41).toNat
            intro c1 x2 η1 h2 c2
            have k2 : sQ wl_l zTr zOl_rank zMl_rank [x1] η x2 η1 ∧ pQl_rank [x1] η x2 η1 := h2
            have bx1 : (0 : Int) ≤ x1 ∧ x1 ≤ 14 := hI.1.2.1.1
            have c0_0_41 : η 0 41 = η 0 41 := rfl
            have w0_0_43 : (0 : Int) ≤ η 0 43 ∧ η 0 43 ≤ 8 := wf_ok (a := 43) (b := 43) (z := (0, 8)) hI.1.1 (by decide +kernel) (Nat.le_refl _) (Nat.le_refl _)
            have c0_0_43 : η 0 43 = η 0 43 := rfl
            have c0_0_42 : η 0 42 = η 0 42 := rfl
            have c0_0_45 : η 0 45 = η 0 45 := rfl
            have w0_0_19 : (0 : Int) ≤ η 0 19 ∧ η 0 19 ≤ 64 := wf_ok (a := 19) (b := 19) (z := (0, 64)) hI.1.1 (by decide +kernel) (Nat.le_refl _) (Nat.le_refl _)
            have c0_0_19 : η 0 19 = η 0 19 := rfl
            have w0_0_44 : (0 : Int) ≤ η 0 44 ∧ η 0 44 ≤ 64 := wf_ok (a := 44) (b := 44) (z := (0, 64)) hI.1.1 (by decide +kernel) (Nat.le_refl _) (Nat.le_refl _)
            have c0_0_44 : η 0 44 = η 0 44 := rfl
            have w0_0_7 : (0 : Int) ≤ η 0 7 ∧ η 0 7 ≤ 700 := wf_ok (a := 7) (b := 7) (z := (0, 700)) hI.1.1 (by decide +kernel) (Nat.le_refl _) (Nat.le_refl _)
            have c0_0_7 : η 0 7 = η 0 7 := rfl
            have w0_0_6 : (0 : Int) ≤ η 0 6 ∧ η 0 6 ≤ 700 := wf_ok (a := 6) (b := 6) (z := (0, 700)) hI.1.1 (by decide +kernel) (Nat.le_refl _) (Nat.le_refl _)
            have c0_0_6 : η 0 6 = η 0 6 := rfl
            have w0_0_8 : (0 : Int) ≤ η 0 8 ∧ η 0 8 ≤ 6 := wf_ok (a := 8) (b := 8) (z := (0, 6)) hI.1.1 (by decide +kernel) (Nat.le_refl _) (Nat.le_refl _)
            have c0_0_8 : η 0 8 = η 0 8 := rfl
            have bx2 : (0 : Int) ≤ x2 ∧ x2 ≤ 6 := k2.1.2.1
            have fm1 : zFm zMl_signs η0 η1 := zFm_tr2 hI.2 k2.1.2.2.2.1 (by decide +kernel)
            have fmE : zFm zMl_signs η0 η1 := fm1
            have fr22_0 : ∀ j, η 22 j = η 22 j := fun _ => rfl
            have v9 : ∀ j, η1 22 j = η 22 j := fun j => k2.1.2.2.2.1 22 _ (zinr_not (by decide +kernel))
            have fr22_1 : ∀ j, η1 22 j = η 22 j := v9
            have fr22 : ∀ j, η1 22 j = η 22 j := v9
            have v10 : η1 0 41 = η 0 41 := (k2.1.2.2.2.1 0 41 (by decide +kernel)).trans rfl
            have f0_41 : η1 0 41 = η 0 41 := v10
            have v11 : η1 0 43 = η 0 43 := (k2.1.2.2.2.1 0 43 (by decide +kernel)).trans rfl
            have f0_43 : η1 0 43 = η 0 43 := v11
            have v12 : η1 0 42 = η 0 42 := (k2.1.2.2.2.1 0 42 (by decide +kernel)).trans rfl
            have f0_42 : η1 0 42 = η 0 42 := v12
            have v13 : η1 0 45 = η 0 45 := (k2.1.2.2.2.1 0 45 (by decide +kernel)).trans rfl
            have f0_45 : η1 0 45 = η 0 45 := v13
            have v14 : η1 0 19 = η 0 19 := (k2.1.2.2.2.1 0 19 (by decide +kernel)).trans rfl
            have f0_19 : η1 0 19 = η 0 19 := v14
            have v15 : η1 0 44 = η 0 44 := (k2.1.2.2.2.1 0 44 (by decide +kernel)).trans rfl
            have f0_44 : η1 0 44 = η 0 44 := v15
            have v16 : η1 0 7 = η 0 7 := (k2.1.2.2.2.1 0 7 (by decide +kernel)).trans rfl
            have f0_7 : η1 0 7 = η 0 7 := v16
            have v17 : η1 0 6 = η 0 6 := (k2.1.2.2.2.1 0 6 (by decide +kernel)).trans rfl
            have f0_6 : η1 0 6 = η 0 6 := v17
            have v18 : η1 0 8 = η 0 8 := (k2.1.2.2.2.1 0 8 (by decide +kernel)).trans rfl
            have f0_8 : η1 0 8 = η 0 8 := v18
            have wb1 : wB wl_l zTr η1 := k2.1.1
            have wbE : wB wl_l zTr η1 := wb1
            have I0 : H_l 0 0 0 η := hig.1
            have I1 : H_l 0 0 0 η1 := k2.2.1
            have qr2 : (1 ≤ x2 → 2 ≤ x1) ∧ (2 ≤ x1 → 1 ≤ x2) := k2.2.2
            exact I1
          · show (¬ x1 = 0) → ∀ (x2 : Int) (η1 : zE), ((gC2 wl_l [(nat_lit 0, zPl_isSign, zOl_isSign, zMl_isSign), (nat_lit 1, zPl_wrong, zOl_wrong, zMl_wrong), (nat_lit 2, zPl_token, zOl_token, zMl_token), (nat_lit 3, zPl_isKey, zOl_isKey, zMl_isKey), (nat_lit 4, zPl_isCounted, zOl_isCounted, zMl_isCounted), (nat_lit 5, zPl_waitsFor, zOl_waitsFor, zMl_waitsFor), (nat_lit 6, zPl_rank, zOl_rank, zMl_rank), (nat_lit 7, zPl_bind, zOl_bind, zMl_bind)] pCl_signs qCl_signs) 6).2 [x1] η x2 η1 → (x2 = 4) → ((gC2 wl_l [(nat_lit 0, zPl_isSign, zOl_isSign, zMl_isSign), (nat_lit 1, zPl_wrong, zOl_wrong, zMl_wrong), (nat_lit 2, zPl_token, zOl_token, zMl_token), (nat_lit 3, zPl_isKey, zOl_isKey, zMl_isKey), (nat_lit 4, zPl_isCounted, zOl_isCounted, zMl_isCounted), (nat_lit 5, zPl_waitsFor, zOl_waitsFor, zMl_waitsFor), (nat_lit 6, zPl_rank, zOl_rank, zMl_rank), (nat_lit 7, zPl_bind, zOl_bind, zMl_bind)] pCl_signs qCl_signs) 7).1 [5] η1
            have hw : η 0 45 = 0 := hig.2.1
            have hr1 : 1 ≤ η 0 19 := hig.2.2.1
            have hs1 : η 0 7 = η0 0 7 := hig.2.2.2.1
            have hs2 : η 0 6 = η0 0 6 := hig.2.2.2.2.1
            have hs3 : η 0 8 = η0 0 8 := hig.2.2.2.2.2.1
            have hk : x1 = 0 ∨ (3 ≤ x1 ∧ ¬ η 0 8 = 0) := hig.2.2.2.2.2.2
            have kk : η 0 8 = 5 → 0 ≤ η 0 9 ∧ η 0 9 ≤ 5 := hig.1.1.1.2.1.2
            have bd43 : (0 : Int) ≤ η 0 43 ∧ η 0 43 ≤ 8 := wf_ok (a := 43) (b := 43) (z := (0, 8)) hI.1.1 (by decide +kernel) (Nat.le_refl _) (Nat.le_refl _)
            have bd44 : (0 : Int) ≤ η 0 44 ∧ η 0 44 ≤ 64 := wf_ok (a := 44) (b := 44) (z := (0, 64)) hI.1.1 (by decide +kernel) (Nat.le_refl _) (Nat.le_refl _)
            have bd19 : (0 : Int) ≤ η 0 19 ∧ η 0 19 ≤ 64 := wf_ok (a := 19) (b := 19) (z := (0, 64)) hI.1.1 (by decide +kernel) (Nat.le_refl _) (Nat.le_refl _)
            obtain ⟨u1, u2, u3, u4⟩ := hig.1.2
            have cn := cz_n (η := η) (η 0 41).toNat
            intro c1 x2 η1 h2 c2
            have k2 : sQ wl_l zTr zOl_rank zMl_rank [x1] η x2 η1 ∧ pQl_rank [x1] η x2 η1 := h2
            have bx1 : (0 : Int) ≤ x1 ∧ x1 ≤ 14 := hI.1.2.1.1
            have c0_0_41 : η 0 41 = η 0 41 := rfl
            have w0_0_43 : (0 : Int) ≤ η 0 43 ∧ η 0 43 ≤ 8 := wf_ok (a := 43) (b := 43) (z := (0, 8)) hI.1.1 (by decide +kernel) (Nat.le_refl _) (Nat.le_refl _)
            have c0_0_43 : η 0 43 = η 0 43 := rfl
            have c0_0_42 : η 0 42 = η 0 42 := rfl
            have c0_0_45 : η 0 45 = η 0 45 := rfl
            have w0_0_19 : (0 : Int) ≤ η 0 19 ∧ η 0 19 ≤ 64 := wf_ok (a := 19) (b := 19) (z := (0, 64)) hI.1.1 (by decide +kernel) (Nat.le_refl _) (Nat.le_refl _)
            have c0_0_19 : η 0 19 = η 0 19 := rfl
            have w0_0_44 : (0 : Int) ≤ η 0 44 ∧ η 0 44 ≤ 64 := wf_ok (a := 44) (b := 44) (z := (0, 64)) hI.1.1 (by decide +kernel) (Nat.le_refl _) (Nat.le_refl _)
            have c0_0_44 : η 0 44 = η 0 44 := rfl
            have w0_0_7 : (0 : Int) ≤ η 0 7 ∧ η 0 7 ≤ 700 := wf_ok (a := 7) (b := 7) (z := (0, 700)) hI.1.1 (by decide +kernel) (Nat.le_refl _) (Nat.le_refl _)
            have c0_0_7 : η 0 7 = η 0 7 := rfl
            have w0_0_6 : (0 : Int) ≤ η 0 6 ∧ η 0 6 ≤ 700 := wf_ok (a := 6) (b := 6) (z := (0, 700)) hI.1.1 (by decide +kernel) (Nat.le_refl _) (Nat.le_refl _)
            have c0_0_6 : η 0 6 = η 0 6 := rfl
            have w0_0_8 : (0 : Int) ≤ η 0 8 ∧ η 0 8 ≤ 6 := wf_ok (a := 8) (b := 8) (z := (0, 6)) hI.1.1 (by decide +kernel) (Nat.le_refl _) (Nat.le_refl _)
            have c0_0_8 : η 0 8 = η 0 8 := rfl
            have bx2 : (0 : Int) ≤ x2 ∧ x2 ≤ 6 := k2.1.2.1
            have fm1 : zFm zMl_signs η0 η1 := zFm_tr2 hI.2 k2.1.2.2.2.1 (by decide +kernel)
            have fmE : zFm zMl_signs η0 η1 := fm1
            have fr22_0 : ∀ j, η 22 j = η 22 j := fun _ => rfl
            have v9 : ∀ j, η1 22 j = η 22 j := fun j => k2.1.2.2.2.1 22 _ (zinr_not (by decide +kernel))
            have fr22_1 : ∀ j, η1 22 j = η 22 j := v9
            have fr22 : ∀ j, η1 22 j = η 22 j := v9
            have v10 : η1 0 41 = η 0 41 := (k2.1.2.2.2.1 0 41 (by decide +kernel)).trans rfl
            have f0_41 : η1 0 41 = η 0 41 := v10
            have v11 : η1 0 43 = η 0 43 := (k2.1.2.2.2.1 0 43 (by decide +kernel)).trans rfl
            have f0_43 : η1 0 43 = η 0 43 := v11
            have v12 : η1 0 42 = η 0 42 := (k2.1.2.2.2.1 0 42 (by decide +kernel)).trans rfl
            have f0_42 : η1 0 42 = η 0 42 := v12
            have v13 : η1 0 45 = η 0 45 := (k2.1.2.2.2.1 0 45 (by decide +kernel)).trans rfl
            have f0_45 : η1 0 45 = η 0 45 := v13
            have v14 : η1 0 19 = η 0 19 := (k2.1.2.2.2.1 0 19 (by decide +kernel)).trans rfl
            have f0_19 : η1 0 19 = η 0 19 := v14
            have v15 : η1 0 44 = η 0 44 := (k2.1.2.2.2.1 0 44 (by decide +kernel)).trans rfl
            have f0_44 : η1 0 44 = η 0 44 := v15
            have v16 : η1 0 7 = η 0 7 := (k2.1.2.2.2.1 0 7 (by decide +kernel)).trans rfl
            have f0_7 : η1 0 7 = η 0 7 := v16
            have v17 : η1 0 6 = η 0 6 := (k2.1.2.2.2.1 0 6 (by decide +kernel)).trans rfl
            have f0_6 : η1 0 6 = η 0 6 := v17
            have v18 : η1 0 8 = η 0 8 := (k2.1.2.2.2.1 0 8 (by decide +kernel)).trans rfl
            have f0_8 : η1 0 8 = η 0 8 := v18
            have wb1 : wB wl_l zTr η1 := k2.1.1
            have wbE : wB wl_l zTr η1 := wb1
            have I0 : H_l 0 0 0 η := hig.1
            have I1 : H_l 0 0 0 η1 := k2.2.1
            have qr2 : (1 ≤ x2 → 2 ≤ x1) ∧ (2 ≤ x1 → 1 ≤ x2) := k2.2.2
            exact ⟨I1, show η1 0 45 = 0 by omega⟩
          · show (x1 = 0) → ((gC2 wl_l [(nat_lit 0, zPl_isSign, zOl_isSign, zMl_isSign), (nat_lit 1, zPl_wrong, zOl_wrong, zMl_wrong), (nat_lit 2, zPl_token, zOl_token, zMl_token), (nat_lit 3, zPl_isKey, zOl_isKey, zMl_isKey), (nat_lit 4, zPl_isCounted, zOl_isCounted, zMl_isCounted), (nat_lit 5, zPl_waitsFor, zOl_waitsFor, zMl_waitsFor), (nat_lit 6, zPl_rank, zOl_rank, zMl_rank), (nat_lit 7, zPl_bind, zOl_bind, zMl_bind)] pCl_signs qCl_signs) 1).1 [1] η
            have hw : η 0 45 = 0 := hig.2.1
            have hr1 : 1 ≤ η 0 19 := hig.2.2.1
            have hs1 : η 0 7 = η0 0 7 := hig.2.2.2.1
            have hs2 : η 0 6 = η0 0 6 := hig.2.2.2.2.1
            have hs3 : η 0 8 = η0 0 8 := hig.2.2.2.2.2.1
            have hk : x1 = 0 ∨ (3 ≤ x1 ∧ ¬ η 0 8 = 0) := hig.2.2.2.2.2.2
            have kk : η 0 8 = 5 → 0 ≤ η 0 9 ∧ η 0 9 ≤ 5 := hig.1.1.1.2.1.2
            have bd43 : (0 : Int) ≤ η 0 43 ∧ η 0 43 ≤ 8 := wf_ok (a := 43) (b := 43) (z := (0, 8)) hI.1.1 (by decide +kernel) (Nat.le_refl _) (Nat.le_refl _)
            have bd44 : (0 : Int) ≤ η 0 44 ∧ η 0 44 ≤ 64 := wf_ok (a := 44) (b := 44) (z := (0, 64)) hI.1.1 (by decide +kernel) (Nat.le_refl _) (Nat.le_refl _)
            have bd19 : (0 : Int) ≤ η 0 19 ∧ η 0 19 ≤ 64 := wf_ok (a := 19) (b := 19) (z := (0, 64)) hI.1.1 (by decide +kernel) (Nat.le_refl _) (Nat.le_refl _)
            obtain ⟨u1, u2, u3, u4⟩ := hig.1.2
            have cn := cz_n (η := η) (η 0 41).toNat
            intro c1
            have bx1 : (0 : Int) ≤ x1 ∧ x1 ≤ 14 := hI.1.2.1.1
            have fmE : zFm zMl_signs η0 η := hI.2
            have fr22_0 : ∀ j, η 22 j = η 22 j := fun _ => rfl
            have fr22 : ∀ j, η 22 j = η 22 j := fun _ => rfl
            have f0_41 : η 0 41 = η 0 41 := rfl
            have w0_0_43 : (0 : Int) ≤ η 0 43 ∧ η 0 43 ≤ 8 := wf_ok (a := 43) (b := 43) (z := (0, 8)) hI.1.1 (by decide +kernel) (Nat.le_refl _) (Nat.le_refl _)
            have f0_43 : η 0 43 = η 0 43 := rfl
            have f0_42 : η 0 42 = η 0 42 := rfl
            have f0_45 : η 0 45 = η 0 45 := rfl
            have w0_0_19 : (0 : Int) ≤ η 0 19 ∧ η 0 19 ≤ 64 := wf_ok (a := 19) (b := 19) (z := (0, 64)) hI.1.1 (by decide +kernel) (Nat.le_refl _) (Nat.le_refl _)
            have f0_19 : η 0 19 = η 0 19 := rfl
            have w0_0_44 : (0 : Int) ≤ η 0 44 ∧ η 0 44 ≤ 64 := wf_ok (a := 44) (b := 44) (z := (0, 64)) hI.1.1 (by decide +kernel) (Nat.le_refl _) (Nat.le_refl _)
            have f0_44 : η 0 44 = η 0 44 := rfl
            have w0_0_7 : (0 : Int) ≤ η 0 7 ∧ η 0 7 ≤ 700 := wf_ok (a := 7) (b := 7) (z := (0, 700)) hI.1.1 (by decide +kernel) (Nat.le_refl _) (Nat.le_refl _)
            have f0_7 : η 0 7 = η 0 7 := rfl
            have w0_0_6 : (0 : Int) ≤ η 0 6 ∧ η 0 6 ≤ 700 := wf_ok (a := 6) (b := 6) (z := (0, 700)) hI.1.1 (by decide +kernel) (Nat.le_refl _) (Nat.le_refl _)
            have f0_6 : η 0 6 = η 0 6 := rfl
            have w0_0_8 : (0 : Int) ≤ η 0 8 ∧ η 0 8 ≤ 6 := wf_ok (a := 8) (b := 8) (z := (0, 6)) hI.1.1 (by decide +kernel) (Nat.le_refl _) (Nat.le_refl _)
            have f0_8 : η 0 8 = η 0 8 := rfl
            have wbE : wB wl_l zTr η := hI.1.1
            have I0 : H_l 0 0 0 η := hig.1
            exact I0
          · show (x1 = 0) → ∀ (x2 : Int) (η1 : zE), ((gC2 wl_l [(nat_lit 0, zPl_isSign, zOl_isSign, zMl_isSign), (nat_lit 1, zPl_wrong, zOl_wrong, zMl_wrong), (nat_lit 2, zPl_token, zOl_token, zMl_token), (nat_lit 3, zPl_isKey, zOl_isKey, zMl_isKey), (nat_lit 4, zPl_isCounted, zOl_isCounted, zMl_isCounted), (nat_lit 5, zPl_waitsFor, zOl_waitsFor, zMl_waitsFor), (nat_lit 6, zPl_rank, zOl_rank, zMl_rank), (nat_lit 7, zPl_bind, zOl_bind, zMl_bind)] pCl_signs qCl_signs) 1).2 [1] η x2 η1 → (fun (_ : Nat) (y : Int) (η' : zE) => pQl_signs xs η0 y η') 0 x2 η1
            have hw : η 0 45 = 0 := hig.2.1
            have hr1 : 1 ≤ η 0 19 := hig.2.2.1
            have hs1 : η 0 7 = η0 0 7 := hig.2.2.2.1
            have hs2 : η 0 6 = η0 0 6 := hig.2.2.2.2.1
            have hs3 : η 0 8 = η0 0 8 := hig.2.2.2.2.2.1
            have hk : x1 = 0 ∨ (3 ≤ x1 ∧ ¬ η 0 8 = 0) := hig.2.2.2.2.2.2
            have kk : η 0 8 = 5 → 0 ≤ η 0 9 ∧ η 0 9 ≤ 5 := hig.1.1.1.2.1.2
            have bd43 : (0 : Int) ≤ η 0 43 ∧ η 0 43 ≤ 8 := wf_ok (a := 43) (b := 43) (z := (0, 8)) hI.1.1 (by decide +kernel) (Nat.le_refl _) (Nat.le_refl _)
            have bd44 : (0 : Int) ≤ η 0 44 ∧ η 0 44 ≤ 64 := wf_ok (a := 44) (b := 44) (z := (0, 64)) hI.1.1 (by decide +kernel) (Nat.le_refl _) (Nat.le_refl _)
            have bd19 : (0 : Int) ≤ η 0 19 ∧ η 0 19 ≤ 64 := wf_ok (a := 19) (b := 19) (z := (0, 64)) hI.1.1 (by decide +kernel) (Nat.le_refl _) (Nat.le_refl _)
            obtain ⟨u1, u2, u3, u4⟩ := hig.1.2
            have cn := cz_n (η := η) (η 0 41).toNat
            intro c1 x2 η1 h2
            have k2 : sQ wl_l zTr zOl_wrong zMl_wrong [1] η x2 η1 ∧ pQl_wrong [1] η x2 η1 := h2
            have bx1 : (0 : Int) ≤ x1 ∧ x1 ≤ 14 := hI.1.2.1.1
            have c0_0_41 : η 0 41 = η 0 41 := rfl
            have w0_0_43 : (0 : Int) ≤ η 0 43 ∧ η 0 43 ≤ 8 := wf_ok (a := 43) (b := 43) (z := (0, 8)) hI.1.1 (by decide +kernel) (Nat.le_refl _) (Nat.le_refl _)
            have c0_0_43 : η 0 43 = η 0 43 := rfl
            have c0_0_42 : η 0 42 = η 0 42 := rfl
            have c0_0_45 : η 0 45 = η 0 45 := rfl
            have w0_0_19 : (0 : Int) ≤ η 0 19 ∧ η 0 19 ≤ 64 := wf_ok (a := 19) (b := 19) (z := (0, 64)) hI.1.1 (by decide +kernel) (Nat.le_refl _) (Nat.le_refl _)
            have c0_0_19 : η 0 19 = η 0 19 := rfl
            have w0_0_44 : (0 : Int) ≤ η 0 44 ∧ η 0 44 ≤ 64 := wf_ok (a := 44) (b := 44) (z := (0, 64)) hI.1.1 (by decide +kernel) (Nat.le_refl _) (Nat.le_refl _)
            have c0_0_44 : η 0 44 = η 0 44 := rfl
            have w0_0_7 : (0 : Int) ≤ η 0 7 ∧ η 0 7 ≤ 700 := wf_ok (a := 7) (b := 7) (z := (0, 700)) hI.1.1 (by decide +kernel) (Nat.le_refl _) (Nat.le_refl _)
            have c0_0_7 : η 0 7 = η 0 7 := rfl
            have w0_0_6 : (0 : Int) ≤ η 0 6 ∧ η 0 6 ≤ 700 := wf_ok (a := 6) (b := 6) (z := (0, 700)) hI.1.1 (by decide +kernel) (Nat.le_refl _) (Nat.le_refl _)
            have c0_0_6 : η 0 6 = η 0 6 := rfl
            have w0_0_8 : (0 : Int) ≤ η 0 8 ∧ η 0 8 ≤ 6 := wf_ok (a := 8) (b := 8) (z := (0, 6)) hI.1.1 (by decide +kernel) (Nat.le_refl _) (Nat.le_refl _)
            have c0_0_8 : η 0 8 = η 0 8 := rfl
            have bx2 : (0 : Int) ≤ x2 ∧ x2 ≤ 0 := k2.1.2.1
            have fm1 : zFm zMl_signs η0 η1 := zFm_tr2 hI.2 k2.1.2.2.2.1 (by decide +kernel)
            have fmE : zFm zMl_signs η0 η1 := fm1
            have fr22_0 : ∀ j, η 22 j = η 22 j := fun _ => rfl
            have v9 : ∀ j, η1 22 j = η 22 j := fun j => k2.1.2.2.2.1 22 _ (zinr_not (by decide +kernel))
            have fr22_1 : ∀ j, η1 22 j = η 22 j := v9
            have fr22 : ∀ j, η1 22 j = η 22 j := v9
            have v10 : η1 0 41 = η 0 41 := (k2.1.2.2.2.1 0 41 (by decide +kernel)).trans rfl
            have f0_41 : η1 0 41 = η 0 41 := v10
            have v11 : η1 0 43 = η 0 43 := (k2.1.2.2.2.1 0 43 (by decide +kernel)).trans rfl
            have f0_43 : η1 0 43 = η 0 43 := v11
            have v12 : η1 0 42 = η 0 42 := (k2.1.2.2.2.1 0 42 (by decide +kernel)).trans rfl
            have f0_42 : η1 0 42 = η 0 42 := v12
            have v13 : η1 0 45 = η 0 45 := (k2.1.2.2.2.1 0 45 (by decide +kernel)).trans rfl
            have f0_45 : η1 0 45 = η 0 45 := v13
            have v14 : η1 0 19 = η 0 19 := (k2.1.2.2.2.1 0 19 (by decide +kernel)).trans rfl
            have f0_19 : η1 0 19 = η 0 19 := v14
            have v15 : η1 0 44 = η 0 44 := (k2.1.2.2.2.1 0 44 (by decide +kernel)).trans rfl
            have f0_44 : η1 0 44 = η 0 44 := v15
            have v16 : η1 0 7 = η 0 7 := (k2.1.2.2.2.1 0 7 (by decide +kernel)).trans rfl
            have f0_7 : η1 0 7 = η 0 7 := v16
            have v17 : η1 0 6 = η 0 6 := (k2.1.2.2.2.1 0 6 (by decide +kernel)).trans rfl
            have f0_6 : η1 0 6 = η 0 6 := v17
            have v18 : η1 0 8 = η 0 8 := (k2.1.2.2.2.1 0 8 (by decide +kernel)).trans rfl
            have f0_8 : η1 0 8 = η 0 8 := v18
            have wb1 : wB wl_l zTr η1 := k2.1.1
            have wbE : wB wl_l zTr η1 := wb1
            have I0 : H_l 0 0 0 η := hig.1
            have I1 : H_l 0 0 0 η1 := k2.2
            exact ⟨I1.1, fun w => absurd (show (x2 : Int) = 0 by omega) w⟩
        · refine List.forall_mem_cons.mpr ⟨?_, List.forall_mem_cons.mpr ⟨?_, List.forall_mem_cons.mpr ⟨?_, fun _ h => nomatch h⟩⟩⟩
          · show (¬ x1 = 0) → ∀ (x2 : Int) (η1 : zE), ((gC wl_l [(nat_lit 0, zPl_isSign, zOl_isSign, zMl_isSign), (nat_lit 1, zPl_wrong, zOl_wrong, zMl_wrong), (nat_lit 2, zPl_token, zOl_token, zMl_token), (nat_lit 3, zPl_isKey, zOl_isKey, zMl_isKey), (nat_lit 4, zPl_isCounted, zOl_isCounted, zMl_isCounted), (nat_lit 5, zPl_waitsFor, zOl_waitsFor, zMl_waitsFor), (nat_lit 6, zPl_rank, zOl_rank, zMl_rank), (nat_lit 7, zPl_bind, zOl_bind, zMl_bind)] pCl_signs qCl_signs) 6).2 [x1] η x2 η1 → (¬ x2 = 4) → ∀ (x3 : Int) (η2 : zE), ((gC wl_l [(nat_lit 0, zPl_isSign, zOl_isSign, zMl_isSign), (nat_lit 1, zPl_wrong, zOl_wrong, zMl_wrong), (nat_lit 2, zPl_token, zOl_token, zMl_token), (nat_lit 3, zPl_isKey, zOl_isKey, zMl_isKey), (nat_lit 4, zPl_isCounted, zOl_isCounted, zMl_isCounted), (nat_lit 5, zPl_waitsFor, zOl_waitsFor, zMl_waitsFor), (nat_lit 6, zPl_rank, zOl_rank, zMl_rank), (nat_lit 7, zPl_bind, zOl_bind, zMl_bind)] pCl_signs qCl_signs) 6).2 [x1] η1 x3 η2 → ((gC wl_l [(nat_lit 0, zPl_isSign, zOl_isSign, zMl_isSign), (nat_lit 1, zPl_wrong, zOl_wrong, zMl_wrong), (nat_lit 2, zPl_token, zOl_token, zMl_token), (nat_lit 3, zPl_isKey, zOl_isKey, zMl_isKey), (nat_lit 4, zPl_isCounted, zOl_isCounted, zMl_isCounted), (nat_lit 5, zPl_waitsFor, zOl_waitsFor, zMl_waitsFor), (nat_lit 6, zPl_rank, zOl_rank, zMl_rank), (nat_lit 7, zPl_bind, zOl_bind, zMl_bind)] pCl_signs qCl_signs) 7).1 [x3] η2
            have hw : η 0 45 = 0 := hig.2.1
            have hr1 : 1 ≤ η 0 19 := hig.2.2.1
            have hs1 : η 0 7 = η0 0 7 := hig.2.2.2.1
            have hs2 : η 0 6 = η0 0 6 := hig.2.2.2.2.1
            have hs3 : η 0 8 = η0 0 8 := hig.2.2.2.2.2.1
            have hk : x1 = 0 ∨ (3 ≤ x1 ∧ ¬ η 0 8 = 0) := hig.2.2.2.2.2.2
            have kk : η 0 8 = 5 → 0 ≤ η 0 9 ∧ η 0 9 ≤ 5 := hig.1.1.1.2.1.2
            have bd43 : (0 : Int) ≤ η 0 43 ∧ η 0 43 ≤ 8 := wf_ok (a := 43) (b := 43) (z := (0, 8)) hI.1.1 (by decide +kernel) (Nat.le_refl _) (Nat.le_refl _)
            have bd44 : (0 : Int) ≤ η 0 44 ∧ η 0 44 ≤ 64 := wf_ok (a := 44) (b := 44) (z := (0, 64)) hI.1.1 (by decide +kernel) (Nat.le_refl _) (Nat.le_refl _)
            have bd19 : (0 : Int) ≤ η 0 19 ∧ η 0 19 ≤ 64 := wf_ok (a := 19) (b := 19) (z := (0, 64)) hI.1.1 (by decide +kernel) (Nat.le_refl _) (Nat.le_refl _)
            obtain ⟨u1, u2, u3, u4⟩ := hig.1.2
            have cn := cz_n (η := η) (η 0 41).toNat
            intro c1 x2 η1 h2 c2 x3 η2 h3
            have k2 : sQ wl_l zTr zOl_rank zMl_rank [x1] η x2 η1 ∧ pQl_rank [x1] η x2 η1 := h2
            have k3 : sQ wl_l zTr zOl_rank zMl_rank [x1] η1 x3 η2 ∧ pQl_rank [x1] η1 x3 η2 := h3
            have bx1 : (0 : Int) ≤ x1 ∧ x1 ≤ 14 := hI.1.2.1.1
            have c0_0_41 : η 0 41 = η 0 41 := rfl
            have w0_0_43 : (0 : Int) ≤ η 0 43 ∧ η 0 43 ≤ 8 := wf_ok (a := 43) (b := 43) (z := (0, 8)) hI.1.1 (by decide +kernel) (Nat.le_refl _) (Nat.le_refl _)
            have c0_0_43 : η 0 43 = η 0 43 := rfl
            have c0_0_42 : η 0 42 = η 0 42 := rfl
            have c0_0_45 : η 0 45 = η 0 45 := rfl
            have w0_0_19 : (0 : Int) ≤ η 0 19 ∧ η 0 19 ≤ 64 := wf_ok (a := 19) (b := 19) (z := (0, 64)) hI.1.1 (by decide +kernel) (Nat.le_refl _) (Nat.le_refl _)
            have c0_0_19 : η 0 19 = η 0 19 := rfl
            have w0_0_44 : (0 : Int) ≤ η 0 44 ∧ η 0 44 ≤ 64 := wf_ok (a := 44) (b := 44) (z := (0, 64)) hI.1.1 (by decide +kernel) (Nat.le_refl _) (Nat.le_refl _)
            have c0_0_44 : η 0 44 = η 0 44 := rfl
            have w0_0_7 : (0 : Int) ≤ η 0 7 ∧ η 0 7 ≤ 700 := wf_ok (a := 7) (b := 7) (z := (0, 700)) hI.1.1 (by decide +kernel) (Nat.le_refl _) (Nat.le_refl _)
            have c0_0_7 : η 0 7 = η 0 7 := rfl
            have w0_0_6 : (0 : Int) ≤ η 0 6 ∧ η 0 6 ≤ 700 := wf_ok (a := 6) (b := 6) (z := (0, 700)) hI.1.1 (by decide +kernel) (Nat.le_refl _) (Nat.le_refl _)
            have c0_0_6 : η 0 6 = η 0 6 := rfl
            have w0_0_8 : (0 : Int) ≤ η 0 8 ∧ η 0 8 ≤ 6 := wf_ok (a := 8) (b := 8) (z := (0, 6)) hI.1.1 (by decide +kernel) (Nat.le_refl _) (Nat.le_refl _)
            have c0_0_8 : η 0 8 = η 0 8 := rfl
            have bx2 : (0 : Int) ≤ x2 ∧ x2 ≤ 6 := k2.1.2.1
            have v9 : η1 0 41 = η 0 41 := (k2.1.2.2.2.1 0 41 (by decide +kernel)).trans rfl
            have c1_0_41 : η1 0 41 = η 0 41 := v9
            have v10 : η1 0 43 = η 0 43 := (k2.1.2.2.2.1 0 43 (by decide +kernel)).trans rfl
            have c1_0_43 : η1 0 43 = η 0 43 := v10
            have v11 : η1 0 42 = η 0 42 := (k2.1.2.2.2.1 0 42 (by decide +kernel)).trans rfl
            have c1_0_42 : η1 0 42 = η 0 42 := v11
            have v12 : η1 0 45 = η 0 45 := (k2.1.2.2.2.1 0 45 (by decide +kernel)).trans rfl
            have c1_0_45 : η1 0 45 = η 0 45 := v12
            have v13 : η1 0 19 = η 0 19 := (k2.1.2.2.2.1 0 19 (by decide +kernel)).trans rfl
            have c1_0_19 : η1 0 19 = η 0 19 := v13
            have v14 : η1 0 44 = η 0 44 := (k2.1.2.2.2.1 0 44 (by decide +kernel)).trans rfl
            have c1_0_44 : η1 0 44 = η 0 44 := v14
            have v15 : η1 0 7 = η 0 7 := (k2.1.2.2.2.1 0 7 (by decide +kernel)).trans rfl
            have c1_0_7 : η1 0 7 = η 0 7 := v15
            have v16 : η1 0 6 = η 0 6 := (k2.1.2.2.2.1 0 6 (by decide +kernel)).trans rfl
            have c1_0_6 : η1 0 6 = η 0 6 := v16
            have v17 : η1 0 8 = η 0 8 := (k2.1.2.2.2.1 0 8 (by decide +kernel)).trans rfl
            have c1_0_8 : η1 0 8 = η 0 8 := v17
            have bx3 : (0 : Int) ≤ x3 ∧ x3 ≤ 6 := k3.1.2.1
            have fm1 : zFm zMl_signs η0 η1 := zFm_tr2 hI.2 k2.1.2.2.2.1 (by decide +kernel)
            have fm2 : zFm zMl_signs η0 η2 := zFm_tr2 fm1 k3.1.2.2.2.1 (by decide +kernel)
            have fmE : zFm zMl_signs η0 η2 := fm2
            have fr22_0 : ∀ j, η 22 j = η 22 j := fun _ => rfl
            have v18 : ∀ j, η1 22 j = η 22 j := fun j => k2.1.2.2.2.1 22 _ (zinr_not (by decide +kernel))
            have fr22_1 : ∀ j, η1 22 j = η 22 j := v18
            have v19 : ∀ j, η2 22 j = η 22 j := fun j => (k3.1.2.2.2.1 22 _ (zinr_not (by decide +kernel))).trans (v18 j)
            have fr22_2 : ∀ j, η2 22 j = η 22 j := v19
            have fr22 : ∀ j, η2 22 j = η 22 j := v19
            have v20 : η2 0 41 = η 0 41 := (k3.1.2.2.2.1 0 41 (by decide +kernel)).trans v9
            have f0_41 : η2 0 41 = η 0 41 := v20
            have v21 : η2 0 43 = η 0 43 := (k3.1.2.2.2.1 0 43 (by decide +kernel)).trans v10
            have f0_43 : η2 0 43 = η 0 43 := v21
            have v22 : η2 0 42 = η 0 42 := (k3.1.2.2.2.1 0 42 (by decide +kernel)).trans v11
            have f0_42 : η2 0 42 = η 0 42 := v22
            have v23 : η2 0 45 = η 0 45 := (k3.1.2.2.2.1 0 45 (by decide +kernel)).trans v12
            have f0_45 : η2 0 45 = η 0 45 := v23
            have v24 : η2 0 19 = η 0 19 := (k3.1.2.2.2.1 0 19 (by decide +kernel)).trans v13
            have f0_19 : η2 0 19 = η 0 19 := v24
            have v25 : η2 0 44 = η 0 44 := (k3.1.2.2.2.1 0 44 (by decide +kernel)).trans v14
            have f0_44 : η2 0 44 = η 0 44 := v25
            have v26 : η2 0 7 = η 0 7 := (k3.1.2.2.2.1 0 7 (by decide +kernel)).trans v15
            have f0_7 : η2 0 7 = η 0 7 := v26
            have v27 : η2 0 6 = η 0 6 := (k3.1.2.2.2.1 0 6 (by decide +kernel)).trans v16
            have f0_6 : η2 0 6 = η 0 6 := v27
            have v28 : η2 0 8 = η 0 8 := (k3.1.2.2.2.1 0 8 (by decide +kernel)).trans v17
            have f0_8 : η2 0 8 = η 0 8 := v28
            have wb1 : wB wl_l zTr η1 := k2.1.1
            have wb2 : wB wl_l zTr η2 := k3.1.1
            have wbE : wB wl_l zTr η2 := wb2
            have I0 : H_l 0 0 0 η := hig.1
            have I1 : H_l 0 0 0 η1 := k2.2.1
            have qr2 : (1 ≤ x2 → 2 ≤ x1) ∧ (2 ≤ x1 → 1 ≤ x2) := k2.2.2
            have I2 : H_l 0 0 0 η2 := k3.2.1
            have qr3 : (1 ≤ x3 → 2 ≤ x1) ∧ (2 ≤ x1 → 1 ≤ x3) := k3.2.2
            exact ⟨⟨wbE, ⟨⟨show (1 : Int) ≤ x3 by omega, show x3 ≤ 6 by omega⟩, trivial⟩, fun f hf => nomatch hf⟩, ⟨I2, show η2 0 45 = 0 by omega⟩⟩
          · show (¬ x1 = 0) → ∀ (x2 : Int) (η1 : zE), ((gC wl_l [(nat_lit 0, zPl_isSign, zOl_isSign, zMl_isSign), (nat_lit 1, zPl_wrong, zOl_wrong, zMl_wrong), (nat_lit 2, zPl_token, zOl_token, zMl_token), (nat_lit 3, zPl_isKey, zOl_isKey, zMl_isKey), (nat_lit 4, zPl_isCounted, zOl_isCounted, zMl_isCounted), (nat_lit 5, zPl_waitsFor, zOl_waitsFor, zMl_waitsFor), (nat_lit 6, zPl_rank, zOl_rank, zMl_rank), (nat_lit 7, zPl_bind, zOl_bind, zMl_bind)] pCl_signs qCl_signs) 6).2 [x1] η x2 η1 → (¬ x2 = 4) → ∀ (x3 : Int) (η2 : zE), ((gC wl_l [(nat_lit 0, zPl_isSign, zOl_isSign, zMl_isSign), (nat_lit 1, zPl_wrong, zOl_wrong, zMl_wrong), (nat_lit 2, zPl_token, zOl_token, zMl_token), (nat_lit 3, zPl_isKey, zOl_isKey, zMl_isKey), (nat_lit 4, zPl_isCounted, zOl_isCounted, zMl_isCounted), (nat_lit 5, zPl_waitsFor, zOl_waitsFor, zMl_waitsFor), (nat_lit 6, zPl_rank, zOl_rank, zMl_rank), (nat_lit 7, zPl_bind, zOl_bind, zMl_bind)] pCl_signs qCl_signs) 6).2 [x1] η1 x3 η2 → ∀ (x4 : Int) (η3 : zE), ((gC wl_l [(nat_lit 0, zPl_isSign, zOl_isSign, zMl_isSign), (nat_lit 1, zPl_wrong, zOl_wrong, zMl_wrong), (nat_lit 2, zPl_token, zOl_token, zMl_token), (nat_lit 3, zPl_isKey, zOl_isKey, zMl_isKey), (nat_lit 4, zPl_isCounted, zOl_isCounted, zMl_isCounted), (nat_lit 5, zPl_waitsFor, zOl_waitsFor, zMl_waitsFor), (nat_lit 6, zPl_rank, zOl_rank, zMl_rank), (nat_lit 7, zPl_bind, zOl_bind, zMl_bind)] pCl_signs qCl_signs) 7).2 [x3] η2 x4 η3 → (fun c ys η1 => zsI wl_l zTr zVl_signs zMl_signs η0 c ys η1 ∧ iCl_signs xs η0 c ys η1) 2 [x1] η3 ∧ (zsM zVl_signs) 2 [x1] η3 < zsM zVl_signs 1 [x1] η
            have hw : η 0 45 = 0 := hig.2.1
            have hr1 : 1 ≤ η 0 19 := hig.2.2.1
            have hs1 : η 0 7 = η0 0 7 := hig.2.2.2.1
            have hs2 : η 0 6 = η0 0 6 := hig.2.2.2.2.1
            have hs3 : η 0 8 = η0 0 8 := hig.2.2.2.2.2.1
            have hk : x1 = 0 ∨ (3 ≤ x1 ∧ ¬ η 0 8 = 0) := hig.2.2.2.2.2.2
            have kk : η 0 8 = 5 → 0 ≤ η 0 9 ∧ η 0 9 ≤ 5 := hig.1.1.1.2.1.2
            have bd43 : (0 : Int) ≤ η 0 43 ∧ η 0 43 ≤ 8 := wf_ok (a := 43) (b := 43) (z := (0, 8)) hI.1.1 (by decide +kernel) (Nat.le_refl _) (Nat.le_refl _)
            have bd44 : (0 : Int) ≤ η 0 44 ∧ η 0 44 ≤ 64 := wf_ok (a := 44) (b := 44) (z := (0, 64)) hI.1.1 (by decide +kernel) (Nat.le_refl _) (Nat.le_refl _)
            have bd19 : (0 : Int) ≤ η 0 19 ∧ η 0 19 ≤ 64 := wf_ok (a := 19) (b := 19) (z := (0, 64)) hI.1.1 (by decide +kernel) (Nat.le_refl _) (Nat.le_refl _)
            obtain ⟨u1, u2, u3, u4⟩ := hig.1.2
            have cn := cz_n (η := η) (η 0 41).toNat
            intro c1 x2 η1 h2 c2 x3 η2 h3 x4 η3 h4
            have k2 : sQ wl_l zTr zOl_rank zMl_rank [x1] η x2 η1 ∧ pQl_rank [x1] η x2 η1 := h2
            have k3 : sQ wl_l zTr zOl_rank zMl_rank [x1] η1 x3 η2 ∧ pQl_rank [x1] η1 x3 η2 := h3
            have k4 : sQ wl_l zTr zOl_bind zMl_bind [x3] η2 x4 η3 ∧ pQl_bind [x3] η2 x4 η3 := h4
            have bx1 : (0 : Int) ≤ x1 ∧ x1 ≤ 14 := hI.1.2.1.1
            have c0_0_41 : η 0 41 = η 0 41 := rfl
            have w0_0_43 : (0 : Int) ≤ η 0 43 ∧ η 0 43 ≤ 8 := wf_ok (a := 43) (b := 43) (z := (0, 8)) hI.1.1 (by decide +kernel) (Nat.le_refl _) (Nat.le_refl _)
            have c0_0_43 : η 0 43 = η 0 43 := rfl
            have c0_0_42 : η 0 42 = η 0 42 := rfl
            have c0_0_45 : η 0 45 = η 0 45 := rfl
            have w0_0_19 : (0 : Int) ≤ η 0 19 ∧ η 0 19 ≤ 64 := wf_ok (a := 19) (b := 19) (z := (0, 64)) hI.1.1 (by decide +kernel) (Nat.le_refl _) (Nat.le_refl _)
            have c0_0_19 : η 0 19 = η 0 19 := rfl
            have w0_0_44 : (0 : Int) ≤ η 0 44 ∧ η 0 44 ≤ 64 := wf_ok (a := 44) (b := 44) (z := (0, 64)) hI.1.1 (by decide +kernel) (Nat.le_refl _) (Nat.le_refl _)
            have c0_0_44 : η 0 44 = η 0 44 := rfl
            have w0_0_7 : (0 : Int) ≤ η 0 7 ∧ η 0 7 ≤ 700 := wf_ok (a := 7) (b := 7) (z := (0, 700)) hI.1.1 (by decide +kernel) (Nat.le_refl _) (Nat.le_refl _)
            have c0_0_7 : η 0 7 = η 0 7 := rfl
            have w0_0_6 : (0 : Int) ≤ η 0 6 ∧ η 0 6 ≤ 700 := wf_ok (a := 6) (b := 6) (z := (0, 700)) hI.1.1 (by decide +kernel) (Nat.le_refl _) (Nat.le_refl _)
            have c0_0_6 : η 0 6 = η 0 6 := rfl
            have w0_0_8 : (0 : Int) ≤ η 0 8 ∧ η 0 8 ≤ 6 := wf_ok (a := 8) (b := 8) (z := (0, 6)) hI.1.1 (by decide +kernel) (Nat.le_refl _) (Nat.le_refl _)
            have c0_0_8 : η 0 8 = η 0 8 := rfl
            have bx2 : (0 : Int) ≤ x2 ∧ x2 ≤ 6 := k2.1.2.1
            have v9 : η1 0 41 = η 0 41 := (k2.1.2.2.2.1 0 41 (by decide +kernel)).trans rfl
            have c1_0_41 : η1 0 41 = η 0 41 := v9
            have v10 : η1 0 43 = η 0 43 := (k2.1.2.2.2.1 0 43 (by decide +kernel)).trans rfl
            have c1_0_43 : η1 0 43 = η 0 43 := v10
            have v11 : η1 0 42 = η 0 42 := (k2.1.2.2.2.1 0 42 (by decide +kernel)).trans rfl
            have c1_0_42 : η1 0 42 = η 0 42 := v11
            have v12 : η1 0 45 = η 0 45 := (k2.1.2.2.2.1 0 45 (by decide +kernel)).trans rfl
            have c1_0_45 : η1 0 45 = η 0 45 := v12
            have v13 : η1 0 19 = η 0 19 := (k2.1.2.2.2.1 0 19 (by decide +kernel)).trans rfl
            have c1_0_19 : η1 0 19 = η 0 19 := v13
            have v14 : η1 0 44 = η 0 44 := (k2.1.2.2.2.1 0 44 (by decide +kernel)).trans rfl
            have c1_0_44 : η1 0 44 = η 0 44 := v14
            have v15 : η1 0 7 = η 0 7 := (k2.1.2.2.2.1 0 7 (by decide +kernel)).trans rfl
            have c1_0_7 : η1 0 7 = η 0 7 := v15
            have v16 : η1 0 6 = η 0 6 := (k2.1.2.2.2.1 0 6 (by decide +kernel)).trans rfl
            have c1_0_6 : η1 0 6 = η 0 6 := v16
            have v17 : η1 0 8 = η 0 8 := (k2.1.2.2.2.1 0 8 (by decide +kernel)).trans rfl
            have c1_0_8 : η1 0 8 = η 0 8 := v17
            have bx3 : (0 : Int) ≤ x3 ∧ x3 ≤ 6 := k3.1.2.1
            have v18 : η2 0 41 = η 0 41 := (k3.1.2.2.2.1 0 41 (by decide +kernel)).trans v9
            have c2_0_41 : η2 0 41 = η 0 41 := v18
            have v19 : η2 0 43 = η 0 43 := (k3.1.2.2.2.1 0 43 (by decide +kernel)).trans v10
            have c2_0_43 : η2 0 43 = η 0 43 := v19
            have v20 : η2 0 42 = η 0 42 := (k3.1.2.2.2.1 0 42 (by decide +kernel)).trans v11
            have c2_0_42 : η2 0 42 = η 0 42 := v20
            have v21 : η2 0 45 = η 0 45 := (k3.1.2.2.2.1 0 45 (by decide +kernel)).trans v12
            have c2_0_45 : η2 0 45 = η 0 45 := v21
            have v22 : η2 0 19 = η 0 19 := (k3.1.2.2.2.1 0 19 (by decide +kernel)).trans v13
            have c2_0_19 : η2 0 19 = η 0 19 := v22
            have v23 : η2 0 44 = η 0 44 := (k3.1.2.2.2.1 0 44 (by decide +kernel)).trans v14
            have c2_0_44 : η2 0 44 = η 0 44 := v23
            have v24 : η2 0 7 = η 0 7 := (k3.1.2.2.2.1 0 7 (by decide +kernel)).trans v15
            have c2_0_7 : η2 0 7 = η 0 7 := v24
            have v25 : η2 0 6 = η 0 6 := (k3.1.2.2.2.1 0 6 (by decide +kernel)).trans v16
            have c2_0_6 : η2 0 6 = η 0 6 := v25
            have v26 : η2 0 8 = η 0 8 := (k3.1.2.2.2.1 0 8 (by decide +kernel)).trans v17
            have c2_0_8 : η2 0 8 = η 0 8 := v26
            have bx4 : (0 : Int) ≤ x4 ∧ x4 ≤ 0 := k4.1.2.1
            have fm1 : zFm zMl_signs η0 η1 := zFm_tr2 hI.2 k2.1.2.2.2.1 (by decide +kernel)
            have fm2 : zFm zMl_signs η0 η2 := zFm_tr2 fm1 k3.1.2.2.2.1 (by decide +kernel)
            have fm3 : zFm zMl_signs η0 η3 := zFm_tr2 fm2 k4.1.2.2.2.1 (by decide +kernel)
            have fmE : zFm zMl_signs η0 η3 := fm3
            have fr22_0 : ∀ j, η 22 j = η 22 j := fun _ => rfl
            have v27 : ∀ j, η1 22 j = η 22 j := fun j => k2.1.2.2.2.1 22 _ (zinr_not (by decide +kernel))
            have fr22_1 : ∀ j, η1 22 j = η 22 j := v27
            have v28 : ∀ j, η2 22 j = η 22 j := fun j => (k3.1.2.2.2.1 22 _ (zinr_not (by decide +kernel))).trans (v27 j)
            have fr22_2 : ∀ j, η2 22 j = η 22 j := v28
            have v29 : ∀ j, η3 22 j = η 22 j := fun j => (k4.1.2.2.2.1 22 _ (zinr_not (by decide +kernel))).trans (v28 j)
            have fr22_3 : ∀ j, η3 22 j = η 22 j := v29
            have fr22 : ∀ j, η3 22 j = η 22 j := v29
            have f0_41 : η3 0 41 = η3 0 41 := rfl
            have v31 : η3 0 43 = η 0 43 := (k4.1.2.2.2.1 0 43 (by decide +kernel)).trans v19
            have f0_43 : η3 0 43 = η 0 43 := v31
            have f0_42 : η3 0 42 = η3 0 42 := rfl
            have v33 : η3 0 45 = η 0 45 := (k4.1.2.2.2.1 0 45 (by decide +kernel)).trans v21
            have f0_45 : η3 0 45 = η 0 45 := v33
            have w3_0_19 : (0 : Int) ≤ η3 0 19 ∧ η3 0 19 ≤ 64 := wf_ok (a := 19) (b := 19) (z := (0, 64)) k4.1.1 (by decide +kernel) (Nat.le_refl _) (Nat.le_refl _)
            have f0_19 : η3 0 19 = η3 0 19 := rfl
            have v35 : η3 0 44 = η 0 44 := (k4.1.2.2.2.1 0 44 (by decide +kernel)).trans v23
            have f0_44 : η3 0 44 = η 0 44 := v35
            have v36 : η3 0 7 = η 0 7 := (k4.1.2.2.2.1 0 7 (by decide +kernel)).trans v24
            have f0_7 : η3 0 7 = η 0 7 := v36
            have v37 : η3 0 6 = η 0 6 := (k4.1.2.2.2.1 0 6 (by decide +kernel)).trans v25
            have f0_6 : η3 0 6 = η 0 6 := v37
            have v38 : η3 0 8 = η 0 8 := (k4.1.2.2.2.1 0 8 (by decide +kernel)).trans v26
            have f0_8 : η3 0 8 = η 0 8 := v38
            have wb1 : wB wl_l zTr η1 := k2.1.1
            have wb2 : wB wl_l zTr η2 := k3.1.1
            have wb3 : wB wl_l zTr η3 := k4.1.1
            have wbE : wB wl_l zTr η3 := wb3
            have I0 : H_l 0 0 0 η := hig.1
            have I1 : H_l 0 0 0 η1 := k2.2.1
            have qr2 : (1 ≤ x2 → 2 ≤ x1) ∧ (2 ≤ x1 → 1 ≤ x2) := k2.2.2
            have I2 : H_l 0 0 0 η2 := k3.2.1
            have qr3 : (1 ≤ x3 → 2 ≤ x1) ∧ (2 ≤ x1 → 1 ≤ x3) := k3.2.2
            have I3 : H_l 0 0 0 η3 := k4.2.1
            have qb4 : η2 0 19 ≤ η3 0 19 := k4.2.2.2
            exact ⟨⟨⟨⟨wbE, ⟨⟨show (3 : Int) ≤ x1 by omega, show x1 ≤ 14 by omega⟩, trivial⟩, fun f hf => nomatch hf⟩, fmE⟩, ⟨I3, show η3 0 45 = 0 by omega, show 1 ≤ η3 0 19 by omega, show η3 0 7 = η0 0 7 by omega, show η3 0 6 = η0 0 6 by omega, show η3 0 8 = η0 0 8 by omega, show x1 = 0 ∨ (3 ≤ x1 ∧ ¬ η3 0 8 = 0) by omega⟩⟩, show (7 : Nat) < 8 by decide⟩
          · show (¬ x1 = 0) → ∀ (x2 : Int) (η1 : zE), ((gC wl_l [(nat_lit 0, zPl_isSign, zOl_isSign, zMl_isSign), (nat_lit 1, zPl_wrong, zOl_wrong, zMl_wrong), (nat_lit 2, zPl_token, zOl_token, zMl_token), (nat_lit 3, zPl_isKey, zOl_isKey, zMl_isKey), (nat_lit 4, zPl_isCounted, zOl_isCounted, zMl_isCounted), (nat_lit 5, zPl_waitsFor, zOl_waitsFor, zMl_waitsFor), (nat_lit 6, zPl_rank, zOl_rank, zMl_rank), (nat_lit 7, zPl_bind, zOl_bind, zMl_bind)] pCl_signs qCl_signs) 6).2 [x1] η x2 η1 → (x2 = 4) → ∀ (x3 : Int) (η2 : zE), ((gC wl_l [(nat_lit 0, zPl_isSign, zOl_isSign, zMl_isSign), (nat_lit 1, zPl_wrong, zOl_wrong, zMl_wrong), (nat_lit 2, zPl_token, zOl_token, zMl_token), (nat_lit 3, zPl_isKey, zOl_isKey, zMl_isKey), (nat_lit 4, zPl_isCounted, zOl_isCounted, zMl_isCounted), (nat_lit 5, zPl_waitsFor, zOl_waitsFor, zMl_waitsFor), (nat_lit 6, zPl_rank, zOl_rank, zMl_rank), (nat_lit 7, zPl_bind, zOl_bind, zMl_bind)] pCl_signs qCl_signs) 7).2 [5] η1 x3 η2 → (fun c ys η1 => zsI wl_l zTr zVl_signs zMl_signs η0 c ys η1 ∧ iCl_signs xs η0 c ys η1) 2 [x1] η2 ∧ (zsM zVl_signs) 2 [x1] η2 < zsM zVl_signs 1 [x1] η
            have hw : η 0 45 = 0 := hig.2.1
            have hr1 : 1 ≤ η 0 19 := hig.2.2.1
            have hs1 : η 0 7 = η0 0 7 := hig.2.2.2.1
            have hs2 : η 0 6 = η0 0 6 := hig.2.2.2.2.1
            have hs3 : η 0 8 = η0 0 8 := hig.2.2.2.2.2.1
            have hk : x1 = 0 ∨ (3 ≤ x1 ∧ ¬ η 0 8 = 0) := hig.2.2.2.2.2.2
            have kk : η 0 8 = 5 → 0 ≤ η 0 9 ∧ η 0 9 ≤ 5 := hig.1.1.1.2.1.2
            have bd43 : (0 : Int) ≤ η 0 43 ∧ η 0 43 ≤ 8 := wf_ok (a := 43) (b := 43) (z := (0, 8)) hI.1.1 (by decide +kernel) (Nat.le_refl _) (Nat.le_refl _)
            have bd44 : (0 : Int) ≤ η 0 44 ∧ η 0 44 ≤ 64 := wf_ok (a := 44) (b := 44) (z := (0, 64)) hI.1.1 (by decide +kernel) (Nat.le_refl _) (Nat.le_refl _)
            have bd19 : (0 : Int) ≤ η 0 19 ∧ η 0 19 ≤ 64 := wf_ok (a := 19) (b := 19) (z := (0, 64)) hI.1.1 (by decide +kernel) (Nat.le_refl _) (Nat.le_refl _)
            obtain ⟨u1, u2, u3, u4⟩ := hig.1.2
            have cn := cz_n (η := η) (η 0 41).toNat
            intro c1 x2 η1 h2 c2 x3 η2 h3
            have k2 : sQ wl_l zTr zOl_rank zMl_rank [x1] η x2 η1 ∧ pQl_rank [x1] η x2 η1 := h2
            have k3 : sQ wl_l zTr zOl_bind zMl_bind [5] η1 x3 η2 ∧ pQl_bind [5] η1 x3 η2 := h3
            have bx1 : (0 : Int) ≤ x1 ∧ x1 ≤ 14 := hI.1.2.1.1
            have c0_0_41 : η 0 41 = η 0 41 := rfl
            have w0_0_43 : (0 : Int) ≤ η 0 43 ∧ η 0 43 ≤ 8 := wf_ok (a := 43) (b := 43) (z := (0, 8)) hI.1.1 (by decide +kernel) (Nat.le_refl _) (Nat.le_refl _)
            have c0_0_43 : η 0 43 = η 0 43 := rfl
            have c0_0_42 : η 0 42 = η 0 42 := rfl
            have c0_0_45 : η 0 45 = η 0 45 := rfl
            have w0_0_19 : (0 : Int) ≤ η 0 19 ∧ η 0 19 ≤ 64 := wf_ok (a := 19) (b := 19) (z := (0, 64)) hI.1.1 (by decide +kernel) (Nat.le_refl _) (Nat.le_refl _)
            have c0_0_19 : η 0 19 = η 0 19 := rfl
            have w0_0_44 : (0 : Int) ≤ η 0 44 ∧ η 0 44 ≤ 64 := wf_ok (a := 44) (b := 44) (z := (0, 64)) hI.1.1 (by decide +kernel) (Nat.le_refl _) (Nat.le_refl _)
            have c0_0_44 : η 0 44 = η 0 44 := rfl
            have w0_0_7 : (0 : Int) ≤ η 0 7 ∧ η 0 7 ≤ 700 := wf_ok (a := 7) (b := 7) (z := (0, 700)) hI.1.1 (by decide +kernel) (Nat.le_refl _) (Nat.le_refl _)
            have c0_0_7 : η 0 7 = η 0 7 := rfl
            have w0_0_6 : (0 : Int) ≤ η 0 6 ∧ η 0 6 ≤ 700 := wf_ok (a := 6) (b := 6) (z := (0, 700)) hI.1.1 (by decide +kernel) (Nat.le_refl _) (Nat.le_refl _)
            have c0_0_6 : η 0 6 = η 0 6 := rfl
            have w0_0_8 : (0 : Int) ≤ η 0 8 ∧ η 0 8 ≤ 6 := wf_ok (a := 8) (b := 8) (z := (0, 6)) hI.1.1 (by decide +kernel) (Nat.le_refl _) (Nat.le_refl _)
            have c0_0_8 : η 0 8 = η 0 8 := rfl
            have bx2 : (0 : Int) ≤ x2 ∧ x2 ≤ 6 := k2.1.2.1
            have v9 : η1 0 41 = η 0 41 := (k2.1.2.2.2.1 0 41 (by decide +kernel)).trans rfl
            have c1_0_41 : η1 0 41 = η 0 41 := v9
            have v10 : η1 0 43 = η 0 43 := (k2.1.2.2.2.1 0 43 (by decide +kernel)).trans rfl
            have c1_0_43 : η1 0 43 = η 0 43 := v10
            have v11 : η1 0 42 = η 0 42 := (k2.1.2.2.2.1 0 42 (by decide +kernel)).trans rfl
            have c1_0_42 : η1 0 42 = η 0 42 := v11
            have v12 : η1 0 45 = η 0 45 := (k2.1.2.2.2.1 0 45 (by decide +kernel)).trans rfl
            have c1_0_45 : η1 0 45 = η 0 45 := v12
            have v13 : η1 0 19 = η 0 19 := (k2.1.2.2.2.1 0 19 (by decide +kernel)).trans rfl
            have c1_0_19 : η1 0 19 = η 0 19 := v13
            have v14 : η1 0 44 = η 0 44 := (k2.1.2.2.2.1 0 44 (by decide +kernel)).trans rfl
            have c1_0_44 : η1 0 44 = η 0 44 := v14
            have v15 : η1 0 7 = η 0 7 := (k2.1.2.2.2.1 0 7 (by decide +kernel)).trans rfl
            have c1_0_7 : η1 0 7 = η 0 7 := v15
            have v16 : η1 0 6 = η 0 6 := (k2.1.2.2.2.1 0 6 (by decide +kernel)).trans rfl
            have c1_0_6 : η1 0 6 = η 0 6 := v16
            have v17 : η1 0 8 = η 0 8 := (k2.1.2.2.2.1 0 8 (by decide +kernel)).trans rfl
            have c1_0_8 : η1 0 8 = η 0 8 := v17
            have bx3 : (0 : Int) ≤ x3 ∧ x3 ≤ 0 := k3.1.2.1
            have fm1 : zFm zMl_signs η0 η1 := zFm_tr2 hI.2 k2.1.2.2.2.1 (by decide +kernel)
            have fm2 : zFm zMl_signs η0 η2 := zFm_tr2 fm1 k3.1.2.2.2.1 (by decide +kernel)
            have fmE : zFm zMl_signs η0 η2 := fm2
            have fr22_0 : ∀ j, η 22 j = η 22 j := fun _ => rfl
            have v18 : ∀ j, η1 22 j = η 22 j := fun j => k2.1.2.2.2.1 22 _ (zinr_not (by decide +kernel))
            have fr22_1 : ∀ j, η1 22 j = η 22 j := v18
            have v19 : ∀ j, η2 22 j = η 22 j := fun j => (k3.1.2.2.2.1 22 _ (zinr_not (by decide +kernel))).trans (v18 j)
            have fr22_2 : ∀ j, η2 22 j = η 22 j := v19
            have fr22 : ∀ j, η2 22 j = η 22 j := v19
            have f0_41 : η2 0 41 = η2 0 41 := rfl
            have v21 : η2 0 43 = η 0 43 := (k3.1.2.2.2.1 0 43 (by decide +kernel)).trans v10
            have f0_43 : η2 0 43 = η 0 43 := v21
            have f0_42 : η2 0 42 = η2 0 42 := rfl
            have v23 : η2 0 45 = η 0 45 := (k3.1.2.2.2.1 0 45 (by decide +kernel)).trans v12
            have f0_45 : η2 0 45 = η 0 45 := v23
            have w2_0_19 : (0 : Int) ≤ η2 0 19 ∧ η2 0 19 ≤ 64 := wf_ok (a := 19) (b := 19) (z := (0, 64)) k3.1.1 (by decide +kernel) (Nat.le_refl _) (Nat.le_refl _)
            have f0_19 : η2 0 19 = η2 0 19 := rfl
            have v25 : η2 0 44 = η 0 44 := (k3.1.2.2.2.1 0 44 (by decide +kernel)).trans v14
            have f0_44 : η2 0 44 = η 0 44 := v25
            have v26 : η2 0 7 = η 0 7 := (k3.1.2.2.2.1 0 7 (by decide +kernel)).trans v15
            have f0_7 : η2 0 7 = η 0 7 := v26
            have v27 : η2 0 6 = η 0 6 := (k3.1.2.2.2.1 0 6 (by decide +kernel)).trans v16
            have f0_6 : η2 0 6 = η 0 6 := v27
            have v28 : η2 0 8 = η 0 8 := (k3.1.2.2.2.1 0 8 (by decide +kernel)).trans v17
            have f0_8 : η2 0 8 = η 0 8 := v28
            have wb1 : wB wl_l zTr η1 := k2.1.1
            have wb2 : wB wl_l zTr η2 := k3.1.1
            have wbE : wB wl_l zTr η2 := wb2
            have I0 : H_l 0 0 0 η := hig.1
            have I1 : H_l 0 0 0 η1 := k2.2.1
            have qr2 : (1 ≤ x2 → 2 ≤ x1) ∧ (2 ≤ x1 → 1 ≤ x2) := k2.2.2
            have I2 : H_l 0 0 0 η2 := k3.2.1
            have qb3 : η1 0 19 ≤ η2 0 19 := k3.2.2.2
            exact ⟨⟨⟨⟨wbE, ⟨⟨show (3 : Int) ≤ x1 by omega, show x1 ≤ 14 by omega⟩, trivial⟩, fun f hf => nomatch hf⟩, fmE⟩, ⟨I2, show η2 0 45 = 0 by omega, show 1 ≤ η2 0 19 by omega, show η2 0 7 = η0 0 7 by omega, show η2 0 6 = η0 0 6 by omega, show η2 0 8 = η0 0 8 by omega, show x1 = 0 ∨ (3 ≤ x1 ∧ ¬ η2 0 8 = 0) by omega⟩⟩, show (7 : Nat) < 8 by decide⟩
      )⟩, (List.forall_mem_cons.mpr ⟨⟨zDl_signs_2, zEl_signs_2, zFl_signs_2, 25, by decide +kernel, (by
      intro xs η0 hlx hp hpp ys η hr hl hI hig
      match ys, hl, hI, hig with
      | [x1], _, hI, hig =>
        refine ⟨?_, ?_⟩
        · refine List.forall_mem_cons.mpr ⟨?_, List.forall_mem_cons.mpr ⟨?_, List.forall_mem_cons.mpr ⟨?_, List.forall_mem_cons.mpr ⟨?_, List.forall_mem_cons.mpr ⟨?_, List.forall_mem_cons.mpr ⟨?_, List.forall_mem_cons.mpr ⟨?_, fun _ h => nomatch h⟩⟩⟩⟩⟩⟩⟩
          · show ((gC2 wl_l [(nat_lit 0, zPl_isSign, zOl_isSign, zMl_isSign), (nat_lit 1, zPl_wrong, zOl_wrong, zMl_wrong), (nat_lit 2, zPl_token, zOl_token, zMl_token), (nat_lit 3, zPl_isKey, zOl_isKey, zMl_isKey), (nat_lit 4, zPl_isCounted, zOl_isCounted, zMl_isCounted), (nat_lit 5, zPl_waitsFor, zOl_waitsFor, zMl_waitsFor), (nat_lit 6, zPl_rank, zOl_rank, zMl_rank), (nat_lit 7, zPl_bind, zOl_bind, zMl_bind)] pCl_signs qCl_signs) 6).1 [x1] η
            have hw : η 0 45 = 0 := hig.2.1
            have hr1 : 1 ≤ η 0 19 := hig.2.2.1
            have hs1 : η 0 7 = η0 0 7 := hig.2.2.2.1
            have hs2 : η 0 6 = η0 0 6 := hig.2.2.2.2.1
            have hs3 : η 0 8 = η0 0 8 := hig.2.2.2.2.2.1
            have hk : x1 = 0 ∨ (3 ≤ x1 ∧ ¬ η 0 8 = 0) := hig.2.2.2.2.2.2
            have kk : η 0 8 = 5 → 0 ≤ η 0 9 ∧ η 0 9 ≤ 5 := hig.1.1.1.2.1.2
            have bd43 : (0 : Int) ≤ η 0 43 ∧ η 0 43 ≤ 8 := wf_ok (a := 43) (b := 43) (z := (0, 8)) hI.1.1 (by decide +kernel) (Nat.le_refl _) (Nat.le_refl _)
            have bd44 : (0 : Int) ≤ η 0 44 ∧ η 0 44 ≤ 64 := wf_ok (a := 44) (b := 44) (z := (0, 64)) hI.1.1 (by decide +kernel) (Nat.le_refl _) (Nat.le_refl _)
            have bd19 : (0 : Int) ≤ η 0 19 ∧ η 0 19 ≤ 64 := wf_ok (a := 19) (b := 19) (z := (0, 64)) hI.1.1 (by decide +kernel) (Nat.le_refl _) (Nat.le_refl _)
            obtain ⟨u1, u2, u3, u4⟩ := hig.1.2
            have cn := cz_n (η := η) (η 0 41).toNat
            have bx1 : (3 : Int) ≤ x1 ∧ x1 ≤ 14 := hI.1.2.1.1
            have fmE : zFm zMl_signs η0 η := hI.2
            have fr22_0 : ∀ j, η 22 j = η 22 j := fun _ => rfl
            have fr22 : ∀ j, η 22 j = η 22 j := fun _ => rfl
            have f0_41 : η 0 41 = η 0 41 := rfl
            have w0_0_43 : (0 : Int) ≤ η 0 43 ∧ η 0 43 ≤ 8 := wf_ok (a := 43) (b := 43) (z := (0, 8)) hI.1.1 (by decide +kernel) (Nat.le_refl _) (Nat.le_refl _)
            have f0_43 : η 0 43 = η 0 43 := rfl
            have f0_42 : η 0 42 = η 0 42 := rfl
            have f0_45 : η 0 45 = η 0 45 := rfl
            have w0_0_19 : (0 : Int) ≤ η 0 19 ∧ η 0 19 ≤ 64 := wf_ok (a := 19) (b := 19) (z := (0, 64)) hI.1.1 (by decide +kernel) (Nat.le_refl _) (Nat.le_refl _)
            have f0_19 : η 0 19 = η 0 19 := rfl
            have w0_0_44 : (0 : Int) ≤ η 0 44 ∧ η 0 44 ≤ 64 := wf_ok (a := 44) (b := 44) (z := (0, 64)) hI.1.1 (by decide +kernel) (Nat.le_refl _) (Nat.le_refl _)
            have f0_44 : η 0 44 = η 0 44 := rfl
            have w0_0_7 : (0 : Int) ≤ η 0 7 ∧ η 0 7 ≤ 700 := wf_ok (a := 7) (b := 7) (z := (0, 700)) hI.1.1 (by decide +kernel) (Nat.le_refl _) (Nat.le_refl _)
            have f0_7 : η 0 7 = η 0 7 := rfl
            have w0_0_6 : (0 : Int) ≤ η 0 6 ∧ η 0 6 ≤ 700 := wf_ok (a := 6) (b := 6) (z := (0, 700)) hI.1.1 (by decide +kernel) (Nat.le_refl _) (Nat.le_refl _)
            have f0_6 : η 0 6 = η 0 6 := rfl
            have w0_0_8 : (0 : Int) ≤ η 0 8 ∧ η 0 8 ≤ 6 := wf_ok (a := 8) (b := 8) (z := (0, 6)) hI.1.1 (by decide +kernel) (Nat.le_refl _) (Nat.le_refl _)
            have f0_8 : η 0 8 = η 0 8 := rfl
            have wbE : wB wl_l zTr η := hI.1.1
            have I0 : H_l 0 0 0 η := hig.1
            exact I0
          · show ∀ (x2 : Int) (η1 : zE), ((gC2 wl_l [(nat_lit 0, zPl_isSign, zOl_isSign, zMl_isSign), (nat_lit 1, zPl_wrong, zOl_wrong, zMl_wrong), (nat_lit 2, zPl_token, zOl_token, zMl_token), (nat_lit 3, zPl_isKey, zOl_isKey, zMl_isKey), (nat_lit 4, zPl_isCounted, zOl_isCounted, zMl_isCounted), (nat_lit 5, zPl_waitsFor, zOl_waitsFor, zMl_waitsFor), (nat_lit 6, zPl_rank, zOl_rank, zMl_rank), (nat_lit 7, zPl_bind, zOl_bind, zMl_bind)] pCl_signs qCl_signs) 6).2 [x1] η x2 η1 → (¬ x2 = 4) → (iCl_signs xs η0) 3 [x1] η1 ∧ (fun (_ : Nat) (_ : List Int) (_ : zE) => (0 : Nat)) 3 [x1] η1 < 1
            have hw : η 0 45 = 0 := hig.2.1
            have hr1 : 1 ≤ η 0 19 := hig.2.2.1
            have hs1 : η 0 7 = η0 0 7 := hig.2.2.2.1
            have hs2 : η 0 6 = η0 0 6 := hig.2.2.2.2.1
            have hs3 : η 0 8 = η0 0 8 := hig.2.2.2.2.2.1
            have hk : x1 = 0 ∨ (3 ≤ x1 ∧ ¬ η 0 8 = 0) := hig.2.2.2.2.2.2
            have kk : η 0 8 = 5 → 0 ≤ η 0 9 ∧ η 0 9 ≤ 5 := hig.1.1.1.2.1.2
            have bd43 : (0 : Int) ≤ η 0 43 ∧ η 0 43 ≤ 8 := wf_ok (a := 43) (b := 43) (z := (0, 8)) hI.1.1 (by decide +kernel) (Nat.le_refl _) (Nat.le_refl _)
            have bd44 : (0 : Int) ≤ η 0 44 ∧ η 0 44 ≤ 64 := wf_ok (a := 44) (b := 44) (z := (0, 64)) hI.1.1 (by decide +kernel) (Nat.le_refl _) (Nat.le_refl _)
            have bd19 : (0 : Int) ≤ η 0 19 ∧ η 0 19 ≤ 64 := wf_ok (a := 19) (b := 19) (z := (0, 64)) hI.1.1 (by decide +kernel) (Nat.le_refl _) (Nat.le_refl _)
            obtain ⟨u1, u2, u3, u4⟩ := hig.1.2
            have cn := cz_n (η := η) (η 0 41).toNat
            intro x2 η1 h2 c1
            have k2 : sQ wl_l zTr zOl_rank zMl_rank [x1] η x2 η1 ∧ pQl_rank [x1] η x2 η1 := h2
            have bx1 : (3 : Int) ≤ x1 ∧ x1 ≤ 14 := hI.1.2.1.1
            have c0_0_41 : η 0 41 = η 0 41 := rfl
            have w0_0_43 : (0 : Int) ≤ η 0 43 ∧ η 0 43 ≤ 8 := wf_ok (a := 43) (b := 43) (z := (0, 8)) hI.1.1 (by decide +kernel) (Nat.le_refl _) (Nat.le_refl _)
            have c0_0_43 : η 0 43 = η 0 43 := rfl
            have c0_0_42 : η 0 42 = η 0 42 := rfl
            have c0_0_45 : η 0 45 = η 0 45 := rfl
            have w0_0_19 : (0 : Int) ≤ η 0 19 ∧ η 0 19 ≤ 64 := wf_ok (a := 19) (b := 19) (z := (0, 64)) hI.1.1 (by decide +kernel) (Nat.le_refl _) (Nat.le_refl _)
            have c0_0_19 : η 0 19 = η 0 19 := rfl
            have w0_0_44 : (0 : Int) ≤ η 0 44 ∧ η 0 44 ≤ 64 := wf_ok (a := 44) (b := 44) (z := (0, 64)) hI.1.1 (by decide +kernel) (Nat.le_refl _) (Nat.le_refl _)
            have c0_0_44 : η 0 44 = η 0 44 := rfl
            have w0_0_7 : (0 : Int) ≤ η 0 7 ∧ η 0 7 ≤ 700 := wf_ok (a := 7) (b := 7) (z := (0, 700)) hI.1.1 (by decide +kernel) (Nat.le_refl _) (Nat.le_refl _)
            have c0_0_7 : η 0 7 = η 0 7 := rfl
            have w0_0_6 : (0 : Int) ≤ η 0 6 ∧ η 0 6 ≤ 700 := wf_ok (a := 6) (b := 6) (z := (0, 700)) hI.1.1 (by decide +kernel) (Nat.le_refl _) (Nat.le_refl _)
            have c0_0_6 : η 0 6 = η 0 6 := rfl
            have w0_0_8 : (0 : Int) ≤ η 0 8 ∧ η 0 8 ≤ 6 := wf_ok (a := 8) (b := 8) (z := (0, 6)) hI.1.1 (by decide +kernel) (Nat.le_refl _) (Nat.le_refl _)
            have c0_0_8 : η 0 8 = η 0 8 := rfl
            have bx2 : (0 : Int) ≤ x2 ∧ x2 ≤ 6 := k2.1.2.1
            have fm1 : zFm zMl_signs η0 η1 := zFm_tr2 hI.2 k2.1.2.2.2.1 (by decide +kernel)
            have fmE : zFm zMl_signs η0 η1 := fm1
            have fr22_0 : ∀ j, η 22 j = η 22 j := fun _ => rfl
            have v9 : ∀ j, η1 22 j = η 22 j := fun j => k2.1.2.2.2.1 22 _ (zinr_not (by decide +kernel))
            have fr22_1 : ∀ j, η1 22 j = η 22 j := v9
            have fr22 : ∀ j, η1 22 j = η 22 j := v9
            have v10 : η1 0 41 = η 0 41 := (k2.1.2.2.2.1 0 41 (by decide +kernel)).trans rfl
            have f0_41 : η1 0 41 = η 0 41 := v10
            have v11 : η1 0 43 = η 0 43 := (k2.1.2.2.2.1 0 43 (by decide +kernel)).trans rfl
            have f0_43 : η1 0 43 = η 0 43 := v11
            have v12 : η1 0 42 = η 0 42 := (k2.1.2.2.2.1 0 42 (by decide +kernel)).trans rfl
            have f0_42 : η1 0 42 = η 0 42 := v12
            have v13 : η1 0 45 = η 0 45 := (k2.1.2.2.2.1 0 45 (by decide +kernel)).trans rfl
            have f0_45 : η1 0 45 = η 0 45 := v13
            have v14 : η1 0 19 = η 0 19 := (k2.1.2.2.2.1 0 19 (by decide +kernel)).trans rfl
            have f0_19 : η1 0 19 = η 0 19 := v14
            have v15 : η1 0 44 = η 0 44 := (k2.1.2.2.2.1 0 44 (by decide +kernel)).trans rfl
            have f0_44 : η1 0 44 = η 0 44 := v15
            have v16 : η1 0 7 = η 0 7 := (k2.1.2.2.2.1 0 7 (by decide +kernel)).trans rfl
            have f0_7 : η1 0 7 = η 0 7 := v16
            have v17 : η1 0 6 = η 0 6 := (k2.1.2.2.2.1 0 6 (by decide +kernel)).trans rfl
            have f0_6 : η1 0 6 = η 0 6 := v17
            have v18 : η1 0 8 = η 0 8 := (k2.1.2.2.2.1 0 8 (by decide +kernel)).trans rfl
            have f0_8 : η1 0 8 = η 0 8 := v18
            have wb1 : wB wl_l zTr η1 := k2.1.1
            have wbE : wB wl_l zTr η1 := wb1
            have I0 : H_l 0 0 0 η := hig.1
            have I1 : H_l 0 0 0 η1 := k2.2.1
            have qr2 : (1 ≤ x2 → 2 ≤ x1) ∧ (2 ≤ x1 → 1 ≤ x2) := k2.2.2
            exact ⟨⟨I1, show η1 0 45 = 0 by omega, show 1 ≤ η1 0 19 by omega, show η1 0 7 = η0 0 7 by omega, show η1 0 6 = η0 0 6 by omega, show η1 0 8 = η0 0 8 by omega, show x1 = 0 ∨ (3 ≤ x1 ∧ ¬ η1 0 8 = 0) by omega⟩, Nat.zero_lt_one⟩
          · show ∀ (x2 : Int) (η1 : zE), ((gC2 wl_l [(nat_lit 0, zPl_isSign, zOl_isSign, zMl_isSign), (nat_lit 1, zPl_wrong, zOl_wrong, zMl_wrong), (nat_lit 2, zPl_token, zOl_token, zMl_token), (nat_lit 3, zPl_isKey, zOl_isKey, zMl_isKey), (nat_lit 4, zPl_isCounted, zOl_isCounted, zMl_isCounted), (nat_lit 5, zPl_waitsFor, zOl_waitsFor, zMl_waitsFor), (nat_lit 6, zPl_rank, zOl_rank, zMl_rank), (nat_lit 7, zPl_bind, zOl_bind, zMl_bind)] pCl_signs qCl_signs) 6).2 [x1] η x2 η1 → (x2 = 4) → ∀ x3 : Int, x3 = η1 0 (Int.toNat 41) → zok 0 x3 → (x3 ≤ 0) → (iCl_signs xs η0) 3 [x1] η1 ∧ (fun (_ : Nat) (_ : List Int) (_ : zE) => (0 : Nat)) 3 [x1] η1 < 1
            have hw : η 0 45 = 0 := hig.2.1
            have hr1 : 1 ≤ η 0 19 := hig.2.2.1
            have hs1 : η 0 7 = η0 0 7 := hig.2.2.2.1
            have hs2 : η 0 6 = η0 0 6 := hig.2.2.2.2.1
            have hs3 : η 0 8 = η0 0 8 := hig.2.2.2.2.2.1
            have hk : x1 = 0 ∨ (3 ≤ x1 ∧ ¬ η 0 8 = 0) := hig.2.2.2.2.2.2
            have kk : η 0 8 = 5 → 0 ≤ η 0 9 ∧ η 0 9 ≤ 5 := hig.1.1.1.2.1.2
            have bd43 : (0 : Int) ≤ η 0 43 ∧ η 0 43 ≤ 8 := wf_ok (a := 43) (b := 43) (z := (0, 8)) hI.1.1 (by decide +kernel) (Nat.le_refl _) (Nat.le_refl _)
            have bd44 : (0 : Int) ≤ η 0 44 ∧ η 0 44 ≤ 64 := wf_ok (a := 44) (b := 44) (z := (0, 64)) hI.1.1 (by decide +kernel) (Nat.le_refl _) (Nat.le_refl _)
            have bd19 : (0 : Int) ≤ η 0 19 ∧ η 0 19 ≤ 64 := wf_ok (a := 19) (b := 19) (z := (0, 64)) hI.1.1 (by decide +kernel) (Nat.le_refl _) (Nat.le_refl _)
            obtain ⟨u1, u2, u3, u4⟩ := hig.1.2
            have cn := cz_n (η := η) (η 0 41).toNat
            intro x2 η1 h2 c1 x3 e3 r3 c2
            have k2 : sQ wl_l zTr zOl_rank zMl_rank [x1] η x2 η1 ∧ pQl_rank [x1] η x2 η1 := h2
            have bx1 : (3 : Int) ≤ x1 ∧ x1 ≤ 14 := hI.1.2.1.1
            have c0_0_41 : η 0 41 = η 0 41 := rfl
            have w0_0_43 : (0 : Int) ≤ η 0 43 ∧ η 0 43 ≤ 8 := wf_ok (a := 43) (b := 43) (z := (0, 8)) hI.1.1 (by decide +kernel) (Nat.le_refl _) (Nat.le_refl _)
            have c0_0_43 : η 0 43 = η 0 43 := rfl
            have c0_0_42 : η 0 42 = η 0 42 := rfl
            have c0_0_45 : η 0 45 = η 0 45 := rfl
            have w0_0_19 : (0 : Int) ≤ η 0 19 ∧ η 0 19 ≤ 64 := wf_ok (a := 19) (b := 19) (z := (0, 64)) hI.1.1 (by decide +kernel) (Nat.le_refl _) (Nat.le_refl _)
            have c0_0_19 : η 0 19 = η 0 19 := rfl
            have w0_0_44 : (0 : Int) ≤ η 0 44 ∧ η 0 44 ≤ 64 := wf_ok (a := 44) (b := 44) (z := (0, 64)) hI.1.1 (by decide +kernel) (Nat.le_refl _) (Nat.le_refl _)
            have c0_0_44 : η 0 44 = η 0 44 := rfl
            have w0_0_7 : (0 : Int) ≤ η 0 7 ∧ η 0 7 ≤ 700 := wf_ok (a := 7) (b := 7) (z := (0, 700)) hI.1.1 (by decide +kernel) (Nat.le_refl _) (Nat.le_refl _)
            have c0_0_7 : η 0 7 = η 0 7 := rfl
            have w0_0_6 : (0 : Int) ≤ η 0 6 ∧ η 0 6 ≤ 700 := wf_ok (a := 6) (b := 6) (z := (0, 700)) hI.1.1 (by decide +kernel) (Nat.le_refl _) (Nat.le_refl _)
            have c0_0_6 : η 0 6 = η 0 6 := rfl
            have w0_0_8 : (0 : Int) ≤ η 0 8 ∧ η 0 8 ≤ 6 := wf_ok (a := 8) (b := 8) (z := (0, 6)) hI.1.1 (by decide +kernel) (Nat.le_refl _) (Nat.le_refl _)
            have c0_0_8 : η 0 8 = η 0 8 := rfl
            have bx2 : (0 : Int) ≤ x2 ∧ x2 ≤ 6 := k2.1.2.1
            have v9 : η1 0 41 = η 0 41 := (k2.1.2.2.2.1 0 41 (by decide +kernel)).trans rfl
            replace e3 : x3 = η 0 41 := e3.trans v9
            replace r3 : -2147483648 ≤ x3 ∧ x3 ≤ 2147483647 := r3
            have fm1 : zFm zMl_signs η0 η1 := zFm_tr2 hI.2 k2.1.2.2.2.1 (by decide +kernel)
            have fmE : zFm zMl_signs η0 η1 := fm1
            have fr22_0 : ∀ j, η 22 j = η 22 j := fun _ => rfl
            have v10 : ∀ j, η1 22 j = η 22 j := fun j => k2.1.2.2.2.1 22 _ (zinr_not (by decide +kernel))
            have fr22_1 : ∀ j, η1 22 j = η 22 j := v10
            have fr22 : ∀ j, η1 22 j = η 22 j := v10
            have f0_41 : η1 0 41 = η 0 41 := v9
            have v11 : η1 0 43 = η 0 43 := (k2.1.2.2.2.1 0 43 (by decide +kernel)).trans rfl
            have f0_43 : η1 0 43 = η 0 43 := v11
            have v12 : η1 0 42 = η 0 42 := (k2.1.2.2.2.1 0 42 (by decide +kernel)).trans rfl
            have f0_42 : η1 0 42 = η 0 42 := v12
            have v13 : η1 0 45 = η 0 45 := (k2.1.2.2.2.1 0 45 (by decide +kernel)).trans rfl
            have f0_45 : η1 0 45 = η 0 45 := v13
            have v14 : η1 0 19 = η 0 19 := (k2.1.2.2.2.1 0 19 (by decide +kernel)).trans rfl
            have f0_19 : η1 0 19 = η 0 19 := v14
            have v15 : η1 0 44 = η 0 44 := (k2.1.2.2.2.1 0 44 (by decide +kernel)).trans rfl
            have f0_44 : η1 0 44 = η 0 44 := v15
            have v16 : η1 0 7 = η 0 7 := (k2.1.2.2.2.1 0 7 (by decide +kernel)).trans rfl
            have f0_7 : η1 0 7 = η 0 7 := v16
            have v17 : η1 0 6 = η 0 6 := (k2.1.2.2.2.1 0 6 (by decide +kernel)).trans rfl
            have f0_6 : η1 0 6 = η 0 6 := v17
            have v18 : η1 0 8 = η 0 8 := (k2.1.2.2.2.1 0 8 (by decide +kernel)).trans rfl
            have f0_8 : η1 0 8 = η 0 8 := v18
            have wb1 : wB wl_l zTr η1 := k2.1.1
            have wbE : wB wl_l zTr η1 := wb1
            have I0 : H_l 0 0 0 η := hig.1
            have I1 : H_l 0 0 0 η1 := k2.2.1
            have qr2 : (1 ≤ x2 → 2 ≤ x1) ∧ (2 ≤ x1 → 1 ≤ x2) := k2.2.2
            exact ⟨⟨I1, show η1 0 45 = 0 by omega, show 1 ≤ η1 0 19 by omega, show η1 0 7 = η0 0 7 by omega, show η1 0 6 = η0 0 6 by omega, show η1 0 8 = η0 0 8 by omega, show x1 = 0 ∨ (3 ≤ x1 ∧ ¬ η1 0 8 = 0) by omega⟩, Nat.zero_lt_one⟩
          · show ∀ (x2 : Int) (η1 : zE), ((gC2 wl_l [(nat_lit 0, zPl_isSign, zOl_isSign, zMl_isSign), (nat_lit 1, zPl_wrong, zOl_wrong, zMl_wrong), (nat_lit 2, zPl_token, zOl_token, zMl_token), (nat_lit 3, zPl_isKey, zOl_isKey, zMl_isKey), (nat_lit 4, zPl_isCounted, zOl_isCounted, zMl_isCounted), (nat_lit 5, zPl_waitsFor, zOl_waitsFor, zMl_waitsFor), (nat_lit 6, zPl_rank, zOl_rank, zMl_rank), (nat_lit 7, zPl_bind, zOl_bind, zMl_bind)] pCl_signs qCl_signs) 6).2 [x1] η x2 η1 → (x2 = 4) → ∀ x3 : Int, x3 = η1 0 (Int.toNat 41) → zok 0 x3 → (0 < x3) → ∀ x4 : Int, x4 = η1 0 (Int.toNat 41) → zok 0 x4 → ∀ x5 : Int, x5 = zd 0 2 x4 1 → ∀ x6 : Int, x6 = η1 22 (Int.toNat x5) → zok 0 x6 → ((gC2 wl_l [(nat_lit 0, zPl_isSign, zOl_isSign, zMl_isSign), (nat_lit 1, zPl_wrong, zOl_wrong, zMl_wrong), (nat_lit 2, zPl_token, zOl_token, zMl_token), (nat_lit 3, zPl_isKey, zOl_isKey, zMl_isKey), (nat_lit 4, zPl_isCounted, zOl_isCounted, zMl_isCounted), (nat_lit 5, zPl_waitsFor, zOl_waitsFor, zMl_waitsFor), (nat_lit 6, zPl_rank, zOl_rank, zMl_rank), (nat_lit 7, zPl_bind, zOl_bind, zMl_bind)] pCl_signs qCl_signs) 6).1 [x6] η1
            have hw : η 0 45 = 0 := hig.2.1
            have hr1 : 1 ≤ η 0 19 := hig.2.2.1
            have hs1 : η 0 7 = η0 0 7 := hig.2.2.2.1
            have hs2 : η 0 6 = η0 0 6 := hig.2.2.2.2.1
            have hs3 : η 0 8 = η0 0 8 := hig.2.2.2.2.2.1
            have hk : x1 = 0 ∨ (3 ≤ x1 ∧ ¬ η 0 8 = 0) := hig.2.2.2.2.2.2
            have kk : η 0 8 = 5 → 0 ≤ η 0 9 ∧ η 0 9 ≤ 5 := hig.1.1.1.2.1.2
            have bd43 : (0 : Int) ≤ η 0 43 ∧ η 0 43 ≤ 8 := wf_ok (a := 43) (b := 43) (z := (0, 8)) hI.1.1 (by decide +kernel) (Nat.le_refl _) (Nat.le_refl _)
            have bd44 : (0 : Int) ≤ η 0 44 ∧ η 0 44 ≤ 64 := wf_ok (a := 44) (b := 44) (z := (0, 64)) hI.1.1 (by decide +kernel) (Nat.le_refl _) (Nat.le_refl _)
            have bd19 : (0 : Int) ≤ η 0 19 ∧ η 0 19 ≤ 64 := wf_ok (a := 19) (b := 19) (z := (0, 64)) hI.1.1 (by decide +kernel) (Nat.le_refl _) (Nat.le_refl _)
            obtain ⟨u1, u2, u3, u4⟩ := hig.1.2
            have cn := cz_n (η := η) (η 0 41).toNat
            intro x2 η1 h2 c1 x3 e3 r3 c2 x4 e4 r4 x5 e5 x6 e6 r6
            replace e5 := zEq_i e5
            have k2 : sQ wl_l zTr zOl_rank zMl_rank [x1] η x2 η1 ∧ pQl_rank [x1] η x2 η1 := h2
            have bx1 : (3 : Int) ≤ x1 ∧ x1 ≤ 14 := hI.1.2.1.1
            have c0_0_41 : η 0 41 = η 0 41 := rfl
            have w0_0_43 : (0 : Int) ≤ η 0 43 ∧ η 0 43 ≤ 8 := wf_ok (a := 43) (b := 43) (z := (0, 8)) hI.1.1 (by decide +kernel) (Nat.le_refl _) (Nat.le_refl _)
            have c0_0_43 : η 0 43 = η 0 43 := rfl
            have c0_0_42 : η 0 42 = η 0 42 := rfl
            have c0_0_45 : η 0 45 = η 0 45 := rfl
            have w0_0_19 : (0 : Int) ≤ η 0 19 ∧ η 0 19 ≤ 64 := wf_ok (a := 19) (b := 19) (z := (0, 64)) hI.1.1 (by decide +kernel) (Nat.le_refl _) (Nat.le_refl _)
            have c0_0_19 : η 0 19 = η 0 19 := rfl
            have w0_0_44 : (0 : Int) ≤ η 0 44 ∧ η 0 44 ≤ 64 := wf_ok (a := 44) (b := 44) (z := (0, 64)) hI.1.1 (by decide +kernel) (Nat.le_refl _) (Nat.le_refl _)
            have c0_0_44 : η 0 44 = η 0 44 := rfl
            have w0_0_7 : (0 : Int) ≤ η 0 7 ∧ η 0 7 ≤ 700 := wf_ok (a := 7) (b := 7) (z := (0, 700)) hI.1.1 (by decide +kernel) (Nat.le_refl _) (Nat.le_refl _)
            have c0_0_7 : η 0 7 = η 0 7 := rfl
            have w0_0_6 : (0 : Int) ≤ η 0 6 ∧ η 0 6 ≤ 700 := wf_ok (a := 6) (b := 6) (z := (0, 700)) hI.1.1 (by decide +kernel) (Nat.le_refl _) (Nat.le_refl _)
            have c0_0_6 : η 0 6 = η 0 6 := rfl
            have w0_0_8 : (0 : Int) ≤ η 0 8 ∧ η 0 8 ≤ 6 := wf_ok (a := 8) (b := 8) (z := (0, 6)) hI.1.1 (by decide +kernel) (Nat.le_refl _) (Nat.le_refl _)
            have c0_0_8 : η 0 8 = η 0 8 := rfl
            have bx2 : (0 : Int) ≤ x2 ∧ x2 ≤ 6 := k2.1.2.1
            have v9 : η1 0 41 = η 0 41 := (k2.1.2.2.2.1 0 41 (by decide +kernel)).trans rfl
            replace e3 : x3 = η 0 41 := e3.trans v9
            replace r3 : -2147483648 ≤ x3 ∧ x3 ≤ 2147483647 := r3
            replace e4 : x4 = η 0 41 := e4.trans v9
            replace r4 : -2147483648 ≤ x4 ∧ x4 ≤ 2147483647 := r4
            first
            | replace e5 : x5 = x4 - 1 := zd_s2 (zEq_o e5) (by clear e5; exact ⟨by omega, by omega⟩)
            | clear e5
            have v11 : η1 22 (Int.toNat x5) = η 22 (Int.toNat x5) := (k2.1.2.2.2.1 22 _ (zinr_not (by decide +kernel))).trans rfl
            replace e6 : x6 = η 22 (Int.toNat x5) := e6.trans v11
            replace r6 : -2147483648 ≤ x6 ∧ x6 ≤ 2147483647 := r6
            try have rb6 : (0 : Int) ≤ η 22 (Int.toNat x5) ∧ η 22 (Int.toNat x5) ≤ 14 := wf_ok (a := 0) (b := 95) (z := (0, 14)) hI.1.1 (by decide +kernel) (Nat.zero_le _) (by omega)
            have fm1 : zFm zMl_signs η0 η1 := zFm_tr2 hI.2 k2.1.2.2.2.1 (by decide +kernel)
            have fmE : zFm zMl_signs η0 η1 := fm1
            have fr22_0 : ∀ j, η 22 j = η 22 j := fun _ => rfl
            have v12 : ∀ j, η1 22 j = η 22 j := fun j => k2.1.2.2.2.1 22 _ (zinr_not (by decide +kernel))
            have fr22_1 : ∀ j, η1 22 j = η 22 j := v12
            have fr22 : ∀ j, η1 22 j = η 22 j := v12
            have f0_41 : η1 0 41 = η 0 41 := v9
            have v13 : η1 0 43 = η 0 43 := (k2.1.2.2.2.1 0 43 (by decide +kernel)).trans rfl
            have f0_43 : η1 0 43 = η 0 43 := v13
            have v14 : η1 0 42 = η 0 42 := (k2.1.2.2.2.1 0 42 (by decide +kernel)).trans rfl
            have f0_42 : η1 0 42 = η 0 42 := v14
            have v15 : η1 0 45 = η 0 45 := (k2.1.2.2.2.1 0 45 (by decide +kernel)).trans rfl
            have f0_45 : η1 0 45 = η 0 45 := v15
            have v16 : η1 0 19 = η 0 19 := (k2.1.2.2.2.1 0 19 (by decide +kernel)).trans rfl
            have f0_19 : η1 0 19 = η 0 19 := v16
            have v17 : η1 0 44 = η 0 44 := (k2.1.2.2.2.1 0 44 (by decide +kernel)).trans rfl
            have f0_44 : η1 0 44 = η 0 44 := v17
            have v18 : η1 0 7 = η 0 7 := (k2.1.2.2.2.1 0 7 (by decide +kernel)).trans rfl
            have f0_7 : η1 0 7 = η 0 7 := v18
            have v19 : η1 0 6 = η 0 6 := (k2.1.2.2.2.1 0 6 (by decide +kernel)).trans rfl
            have f0_6 : η1 0 6 = η 0 6 := v19
            have v20 : η1 0 8 = η 0 8 := (k2.1.2.2.2.1 0 8 (by decide +kernel)).trans rfl
            have f0_8 : η1 0 8 = η 0 8 := v20
            have wb1 : wB wl_l zTr η1 := k2.1.1
            have wbE : wB wl_l zTr η1 := wb1
            have I0 : H_l 0 0 0 η := hig.1
            have I1 : H_l 0 0 0 η1 := k2.2.1
            have qr2 : (1 ≤ x2 → 2 ≤ x1) ∧ (2 ≤ x1 → 1 ≤ x2) := k2.2.2
            exact I1
          · show ∀ (x2 : Int) (η1 : zE), ((gC2 wl_l [(nat_lit 0, zPl_isSign, zOl_isSign, zMl_isSign), (nat_lit 1, zPl_wrong, zOl_wrong, zMl_wrong), (nat_lit 2, zPl_token, zOl_token, zMl_token), (nat_lit 3, zPl_isKey, zOl_isKey, zMl_isKey), (nat_lit 4, zPl_isCounted, zOl_isCounted, zMl_isCounted), (nat_lit 5, zPl_waitsFor, zOl_waitsFor, zMl_waitsFor), (nat_lit 6, zPl_rank, zOl_rank, zMl_rank), (nat_lit 7, zPl_bind, zOl_bind, zMl_bind)] pCl_signs qCl_signs) 6).2 [x1] η x2 η1 → (x2 = 4) → ∀ x3 : Int, x3 = η1 0 (Int.toNat 41) → zok 0 x3 → (0 < x3) → ∀ x4 : Int, x4 = η1 0 (Int.toNat 41) → zok 0 x4 → ∀ x5 : Int, x5 = zd 0 2 x4 1 → ∀ x6 : Int, x6 = η1 22 (Int.toNat x5) → zok 0 x6 → ∀ (x7 : Int) (η2 : zE), ((gC2 wl_l [(nat_lit 0, zPl_isSign, zOl_isSign, zMl_isSign), (nat_lit 1, zPl_wrong, zOl_wrong, zMl_wrong), (nat_lit 2, zPl_token, zOl_token, zMl_token), (nat_lit 3, zPl_isKey, zOl_isKey, zMl_isKey), (nat_lit 4, zPl_isCounted, zOl_isCounted, zMl_isCounted), (nat_lit 5, zPl_waitsFor, zOl_waitsFor, zMl_waitsFor), (nat_lit 6, zPl_rank, zOl_rank, zMl_rank), (nat_lit 7, zPl_bind, zOl_bind, zMl_bind)] pCl_signs qCl_signs) 6).2 [x6] η1 x7 η2 → (¬ x7 = 4) → (iCl_signs xs η0) 3 [x1] η2 ∧ (fun (_ : Nat) (_ : List Int) (_ : zE) => (0 : Nat)) 3 [x1] η2 < 1
            have hw : η 0 45 = 0 := hig.2.1
            have hr1 : 1 ≤ η 0 19 := hig.2.2.1
            have hs1 : η 0 7 = η0 0 7 := hig.2.2.2.1
            have hs2 : η 0 6 = η0 0 6 := hig.2.2.2.2.1
            have hs3 : η 0 8 = η0 0 8 := hig.2.2.2.2.2.1
            have hk : x1 = 0 ∨ (3 ≤ x1 ∧ ¬ η 0 8 = 0) := hig.2.2.2.2.2.2
            have kk : η 0 8 = 5 → 0 ≤ η 0 9 ∧ η 0 9 ≤ 5 := hig.1.1.1.2.1.2
            have bd43 : (0 : Int) ≤ η 0 43 ∧ η 0 43 ≤ 8 := wf_ok (a := 43) (b := 43) (z := (0, 8)) hI.1.1 (by decide +kernel) (Nat.le_refl _) (Nat.le_refl _)
            have bd44 : (0 : Int) ≤ η 0 44 ∧ η 0 44 ≤ 64 := wf_ok (a := 44) (b := 44) (z := (0, 64)) hI.1.1 (by decide +kernel) (Nat.le_refl _) (Nat.le_refl _)
            have bd19 : (0 : Int) ≤ η 0 19 ∧ η 0 19 ≤ 64 := wf_ok (a := 19) (b := 19) (z := (0, 64)) hI.1.1 (by decide +kernel) (Nat.le_refl _) (Nat.le_refl _)
            obtain ⟨u1, u2, u3, u4⟩ := hig.1.2
            have cn := cz_n (η := η) (η 0 41).toNat
            intro x2 η1 h2 c1 x3 e3 r3 c2 x4 e4 r4 x5 e5 x6 e6 r6 x7 η2 h7 c3
            replace e5 := zEq_i e5
            have k2 : sQ wl_l zTr zOl_rank zMl_rank [x1] η x2 η1 ∧ pQl_rank [x1] η x2 η1 := h2
            have k7 : sQ wl_l zTr zOl_rank zMl_rank [x6] η1 x7 η2 ∧ pQl_rank [x6] η1 x7 η2 := h7
            have bx1 : (3 : Int) ≤ x1 ∧ x1 ≤ 14 := hI.1.2.1.1
            have c0_0_41 : η 0 41 = η 0 41 := rfl
            have w0_0_43 : (0 : Int) ≤ η 0 43 ∧ η 0 43 ≤ 8 := wf_ok (a := 43) (b := 43) (z := (0, 8)) hI.1.1 (by decide +kernel) (Nat.le_refl _) (Nat.le_refl _)
            have c0_0_43 : η 0 43 = η 0 43 := rfl
            have c0_0_42 : η 0 42 = η 0 42 := rfl
            have c0_0_45 : η 0 45 = η 0 45 := rfl
            have w0_0_19 : (0 : Int) ≤ η 0 19 ∧ η 0 19 ≤ 64 := wf_ok (a := 19) (b := 19) (z := (0, 64)) hI.1.1 (by decide +kernel) (Nat.le_refl _) (Nat.le_refl _)
            have c0_0_19 : η 0 19 = η 0 19 := rfl
            have w0_0_44 : (0 : Int) ≤ η 0 44 ∧ η 0 44 ≤ 64 := wf_ok (a := 44) (b := 44) (z := (0, 64)) hI.1.1 (by decide +kernel) (Nat.le_refl _) (Nat.le_refl _)
            have c0_0_44 : η 0 44 = η 0 44 := rfl
            have w0_0_7 : (0 : Int) ≤ η 0 7 ∧ η 0 7 ≤ 700 := wf_ok (a := 7) (b := 7) (z := (0, 700)) hI.1.1 (by decide +kernel) (Nat.le_refl _) (Nat.le_refl _)
            have c0_0_7 : η 0 7 = η 0 7 := rfl
            have w0_0_6 : (0 : Int) ≤ η 0 6 ∧ η 0 6 ≤ 700 := wf_ok (a := 6) (b := 6) (z := (0, 700)) hI.1.1 (by decide +kernel) (Nat.le_refl _) (Nat.le_refl _)
            have c0_0_6 : η 0 6 = η 0 6 := rfl
            have w0_0_8 : (0 : Int) ≤ η 0 8 ∧ η 0 8 ≤ 6 := wf_ok (a := 8) (b := 8) (z := (0, 6)) hI.1.1 (by decide +kernel) (Nat.le_refl _) (Nat.le_refl _)
            have c0_0_8 : η 0 8 = η 0 8 := rfl
            have bx2 : (0 : Int) ≤ x2 ∧ x2 ≤ 6 := k2.1.2.1
            have v9 : η1 0 41 = η 0 41 := (k2.1.2.2.2.1 0 41 (by decide +kernel)).trans rfl
            replace e3 : x3 = η 0 41 := e3.trans v9
            replace r3 : -2147483648 ≤ x3 ∧ x3 ≤ 2147483647 := r3
            replace e4 : x4 = η 0 41 := e4.trans v9
            replace r4 : -2147483648 ≤ x4 ∧ x4 ≤ 2147483647 := r4
            first
            | replace e5 : x5 = x4 - 1 := zd_s2 (zEq_o e5) (by clear e5; exact ⟨by omega, by omega⟩)
            | clear e5
            have v11 : η1 22 (Int.toNat x5) = η 22 (Int.toNat x5) := (k2.1.2.2.2.1 22 _ (zinr_not (by decide +kernel))).trans rfl
            replace e6 : x6 = η 22 (Int.toNat x5) := e6.trans v11
            replace r6 : -2147483648 ≤ x6 ∧ x6 ≤ 2147483647 := r6
            try have rb6 : (0 : Int) ≤ η 22 (Int.toNat x5) ∧ η 22 (Int.toNat x5) ≤ 14 := wf_ok (a := 0) (b := 95) (z := (0, 14)) hI.1.1 (by decide +kernel) (Nat.zero_le _) (by omega)
            have c1_0_41 : η1 0 41 = η 0 41 := v9
            have v12 : η1 0 43 = η 0 43 := (k2.1.2.2.2.1 0 43 (by decide +kernel)).trans rfl
            have c1_0_43 : η1 0 43 = η 0 43 := v12
            have v13 : η1 0 42 = η 0 42 := (k2.1.2.2.2.1 0 42 (by decide +kernel)).trans rfl
            have c1_0_42 : η1 0 42 = η 0 42 := v13
            have v14 : η1 0 45 = η 0 45 := (k2.1.2.2.2.1 0 45 (by decide +kernel)).trans rfl
            have c1_0_45 : η1 0 45 = η 0 45 := v14
            have v15 : η1 0 19 = η 0 19 := (k2.1.2.2.2.1 0 19 (by decide +kernel)).trans rfl
            have c1_0_19 : η1 0 19 = η 0 19 := v15
            have v16 : η1 0 44 = η 0 44 := (k2.1.2.2.2.1 0 44 (by decide +kernel)).trans rfl
            have c1_0_44 : η1 0 44 = η 0 44 := v16
            have v17 : η1 0 7 = η 0 7 := (k2.1.2.2.2.1 0 7 (by decide +kernel)).trans rfl
            have c1_0_7 : η1 0 7 = η 0 7 := v17
            have v18 : η1 0 6 = η 0 6 := (k2.1.2.2.2.1 0 6 (by decide +kernel)).trans rfl
            have c1_0_6 : η1 0 6 = η 0 6 := v18
            have v19 : η1 0 8 = η 0 8 := (k2.1.2.2.2.1 0 8 (by decide +kernel)).trans rfl
            have c1_0_8 : η1 0 8 = η 0 8 := v19
            have bx7 : (0 : Int) ≤ x7 ∧ x7 ≤ 6 := k7.1.2.1
            have fm1 : zFm zMl_signs η0 η1 := zFm_tr2 hI.2 k2.1.2.2.2.1 (by decide +kernel)
            have fm2 : zFm zMl_signs η0 η2 := zFm_tr2 fm1 k7.1.2.2.2.1 (by decide +kernel)
            have fmE : zFm zMl_signs η0 η2 := fm2
            have fr22_0 : ∀ j, η 22 j = η 22 j := fun _ => rfl
            have v20 : ∀ j, η1 22 j = η 22 j := fun j => k2.1.2.2.2.1 22 _ (zinr_not (by decide +kernel))
            have fr22_1 : ∀ j, η1 22 j = η 22 j := v20
            have v21 : ∀ j, η2 22 j = η 22 j := fun j => (k7.1.2.2.2.1 22 _ (zinr_not (by decide +kernel))).trans (v20 j)
            have fr22_2 : ∀ j, η2 22 j = η 22 j := v21
            have fr22 : ∀ j, η2 22 j = η 22 j := v21
            have v22 : η2 0 41 = η 0 41 := (k7.1.2.2.2.1 0 41 (by decide +kernel)).trans v9
            have f0_41 : η2 0 41 = η 0 41 := v22
            have v23 : η2 0 43 = η 0 43 := (k7.1.2.2.2.1 0 43 (by decide +kernel)).trans v12
            have f0_43 : η2 0 43 = η 0 43 := v23
            have v24 : η2 0 42 = η 0 42 := (k7.1.2.2.2.1 0 42 (by decide +kernel)).trans v13
            have f0_42 : η2 0 42 = η 0 42 := v24
            have v25 : η2 0 45 = η 0 45 := (k7.1.2.2.2.1 0 45 (by decide +kernel)).trans v14
            have f0_45 : η2 0 45 = η 0 45 := v25
            have v26 : η2 0 19 = η 0 19 := (k7.1.2.2.2.1 0 19 (by decide +kernel)).trans v15
            have f0_19 : η2 0 19 = η 0 19 := v26
            have v27 : η2 0 44 = η 0 44 := (k7.1.2.2.2.1 0 44 (by decide +kernel)).trans v16
            have f0_44 : η2 0 44 = η 0 44 := v27
            have v28 : η2 0 7 = η 0 7 := (k7.1.2.2.2.1 0 7 (by decide +kernel)).trans v17
            have f0_7 : η2 0 7 = η 0 7 := v28
            have v29 : η2 0 6 = η 0 6 := (k7.1.2.2.2.1 0 6 (by decide +kernel)).trans v18
            have f0_6 : η2 0 6 = η 0 6 := v29
            have v30 : η2 0 8 = η 0 8 := (k7.1.2.2.2.1 0 8 (by decide +kernel)).trans v19
            have f0_8 : η2 0 8 = η 0 8 := v30
            have wb1 : wB wl_l zTr η1 := k2.1.1
            have wb2 : wB wl_l zTr η2 := k7.1.1
            have wbE : wB wl_l zTr η2 := wb2
            have I0 : H_l 0 0 0 η := hig.1
            have I1 : H_l 0 0 0 η1 := k2.2.1
            have qr2 : (1 ≤ x2 → 2 ≤ x1) ∧ (2 ≤ x1 → 1 ≤ x2) := k2.2.2
            have I2 : H_l 0 0 0 η2 := k7.2.1
            have qr7 : (1 ≤ x7 → 2 ≤ x6) ∧ (2 ≤ x6 → 1 ≤ x7) := k7.2.2
            exact ⟨⟨I2, show η2 0 45 = 0 by omega, show 1 ≤ η2 0 19 by omega, show η2 0 7 = η0 0 7 by omega, show η2 0 6 = η0 0 6 by omega, show η2 0 8 = η0 0 8 by omega, show x1 = 0 ∨ (3 ≤ x1 ∧ ¬ η2 0 8 = 0) by omega⟩, Nat.zero_lt_one⟩
          · show ∀ (x2 : Int) (η1 : zE), ((gC2 wl_l [(nat_lit 0, zPl_isSign, zOl_isSign, zMl_isSign), (nat_lit 1, zPl_wrong, zOl_wrong, zMl_wrong), (nat_lit 2, zPl_token, zOl_token, zMl_token), (nat_lit 3, zPl_isKey, zOl_isKey, zMl_isKey), (nat_lit 4, zPl_isCounted, zOl_isCounted, zMl_isCounted), (nat_lit 5, zPl_waitsFor, zOl_waitsFor, zMl_waitsFor), (nat_lit 6, zPl_rank, zOl_rank, zMl_rank), (nat_lit 7, zPl_bind, zOl_bind, zMl_bind)] pCl_signs qCl_signs) 6).2 [x1] η x2 η1 → (x2 = 4) → ∀ x3 : Int, x3 = η1 0 (Int.toNat 41) → zok 0 x3 → (0 < x3) → ∀ x4 : Int, x4 = η1 0 (Int.toNat 41) → zok 0 x4 → ∀ x5 : Int, x5 = zd 0 2 x4 1 → ∀ x6 : Int, x6 = η1 22 (Int.toNat x5) → zok 0 x6 → ∀ (x7 : Int) (η2 : zE), ((gC2 wl_l [(nat_lit 0, zPl_isSign, zOl_isSign, zMl_isSign), (nat_lit 1, zPl_wrong, zOl_wrong, zMl_wrong), (nat_lit 2, zPl_token, zOl_token, zMl_token), (nat_lit 3, zPl_isKey, zOl_isKey, zMl_isKey), (nat_lit 4, zPl_isCounted, zOl_isCounted, zMl_isCounted), (nat_lit 5, zPl_waitsFor, zOl_waitsFor, zMl_waitsFor), (nat_lit 6, zPl_rank, zOl_rank, zMl_rank), (nat_lit 7, zPl_bind, zOl_bind, zMl_bind)] pCl_signs qCl_signs) 6).2 [x6] η1 x7 η2 → (x7 = 4) → ((gC2 wl_l [(nat_lit 0, zPl_isSign, zOl_isSign, zMl_isSign), (nat_lit 1, zPl_wrong, zOl_wrong, zMl_wrong), (nat_lit 2, zPl_token, zOl_token, zMl_token), (nat_lit 3, zPl_isKey, zOl_isKey, zMl_isKey), (nat_lit 4, zPl_isCounted, zOl_isCounted, zMl_isCounted), (nat_lit 5, zPl_waitsFor, zOl_waitsFor, zMl_waitsFor), (nat_lit 6, zPl_rank, zOl_rank, zMl_rank), (nat_lit 7, zPl_bind, zOl_bind, zMl_bind)] pCl_signs qCl_signs) 1).1 [1] η2
            have hw : η 0 45 = 0 := hig.2.1
            have hr1 : 1 ≤ η 0 19 := hig.2.2.1
            have hs1 : η 0 7 = η0 0 7 := hig.2.2.2.1
            have hs2 : η 0 6 = η0 0 6 := hig.2.2.2.2.1
            have hs3 : η 0 8 = η0 0 8 := hig.2.2.2.2.2.1
            have hk : x1 = 0 ∨ (3 ≤ x1 ∧ ¬ η 0 8 = 0) := hig.2.2.2.2.2.2
            have kk : η 0 8 = 5 → 0 ≤ η 0 9 ∧ η 0 9 ≤ 5 := hig.1.1.1.2.1.2
            have bd43 : (0 : Int) ≤ η 0 43 ∧ η 0 43 ≤ 8 := wf_ok (a := 43) (b := 43) (z := (0, 8)) hI.1.1 (by decide +kernel) (Nat.le_refl _) (Nat.le_refl _)
            have bd44 : (0 : Int) ≤ η 0 44 ∧ η 0 44 ≤ 64 := wf_ok (a := 44) (b := 44) (z := (0, 64)) hI.1.1 (by decide +kernel) (Nat.le_refl _) (Nat.le_refl _)
            have bd19 : (0 : Int) ≤ η 0 19 ∧ η 0 19 ≤ 64 := wf_ok (a := 19) (b := 19) (z := (0, 64)) hI.1.1 (by decide +kernel) (Nat.le_refl _) (Nat.le_refl _)
            obtain ⟨u1, u2, u3, u4⟩ := hig.1.2
            have cn := cz_n (η := η) (η 0 41).toNat
            intro x2 η1 h2 c1 x3 e3 r3 c2 x4 e4 r4 x5 e5 x6 e6 r6 x7 η2 h7 c3
            replace e5 := zEq_i e5
            have k2 : sQ wl_l zTr zOl_rank zMl_rank [x1] η x2 η1 ∧ pQl_rank [x1] η x2 η1 := h2
            have k7 : sQ wl_l zTr zOl_rank zMl_rank [x6] η1 x7 η2 ∧ pQl_rank [x6] η1 x7 η2 := h7
            have bx1 : (3 : Int) ≤ x1 ∧ x1 ≤ 14 := hI.1.2.1.1
            have c0_0_41 : η 0 41 = η 0 41 := rfl
            have w0_0_43 : (0 : Int) ≤ η 0 43 ∧ η 0 43 ≤ 8 := wf_ok (a := 43) (b := 43) (z := (0, 8)) hI.1.1 (by decide +kernel) (Nat.le_refl _) (Nat.le_refl _)
            have c0_0_43 : η 0 43 = η 0 43 := rfl
            have c0_0_42 : η 0 42 = η 0 42 := rfl
            have c0_0_45 : η 0 45 = η 0 45 := rfl
            have w0_0_19 : (0 : Int) ≤ η 0 19 ∧ η 0 19 ≤ 64 := wf_ok (a := 19) (b := 19) (z := (0, 64)) hI.1.1 (by decide +kernel) (Nat.le_refl _) (Nat.le_refl _)
            have c0_0_19 : η 0 19 = η 0 19 := rfl
            have w0_0_44 : (0 : Int) ≤ η 0 44 ∧ η 0 44 ≤ 64 := wf_ok (a := 44) (b := 44) (z := (0, 64)) hI.1.1 (by decide +kernel) (Nat.le_refl _) (Nat.le_refl _)
            have c0_0_44 : η 0 44 = η 0 44 := rfl
            have w0_0_7 : (0 : Int) ≤ η 0 7 ∧ η 0 7 ≤ 700 := wf_ok (a := 7) (b := 7) (z := (0, 700)) hI.1.1 (by decide +kernel) (Nat.le_refl _) (Nat.le_refl _)
            have c0_0_7 : η 0 7 = η 0 7 := rfl
            have w0_0_6 : (0 : Int) ≤ η 0 6 ∧ η 0 6 ≤ 700 := wf_ok (a := 6) (b := 6) (z := (0, 700)) hI.1.1 (by decide +kernel) (Nat.le_refl _) (Nat.le_refl _)
            have c0_0_6 : η 0 6 = η 0 6 := rfl
            have w0_0_8 : (0 : Int) ≤ η 0 8 ∧ η 0 8 ≤ 6 := wf_ok (a := 8) (b := 8) (z := (0, 6)) hI.1.1 (by decide +kernel) (Nat.le_refl _) (Nat.le_refl _)
            have c0_0_8 : η 0 8 = η 0 8 := rfl
            have bx2 : (0 : Int) ≤ x2 ∧ x2 ≤ 6 := k2.1.2.1
            have v9 : η1 0 41 = η 0 41 := (k2.1.2.2.2.1 0 41 (by decide +kernel)).trans rfl
            replace e3 : x3 = η 0 41 := e3.trans v9
            replace r3 : -2147483648 ≤ x3 ∧ x3 ≤ 2147483647 := r3
            replace e4 : x4 = η 0 41 := e4.trans v9
            replace r4 : -2147483648 ≤ x4 ∧ x4 ≤ 2147483647 := r4
            first
            | replace e5 : x5 = x4 - 1 := zd_s2 (zEq_o e5) (by clear e5; exact ⟨by omega, by omega⟩)
            | clear e5
            have v11 : η1 22 (Int.toNat x5) = η 22 (Int.toNat x5) := (k2.1.2.2.2.1 22 _ (zinr_not (by decide +kernel))).trans rfl
            replace e6 : x6 = η 22 (Int.toNat x5) := e6.trans v11
            replace r6 : -2147483648 ≤ x6 ∧ x6 ≤ 2147483647 := r6
            try have rb6 : (0 : Int) ≤ η 22 (Int.toNat x5) ∧ η 22 (Int.toNat x5) ≤ 14 := wf_ok (a := 0) (b := 95) (z := (0, 14)) hI.1.1 (by decide +kernel) (Nat.zero_le _) (by omega)
            have c1_0_41 : η1 0 41 = η 0 41 := v9
            have v12 : η1 0 43 = η 0 43 := (k2.1.2.2.2.1 0 43 (by decide +kernel)).trans rfl
            have c1_0_43 : η1 0 43 = η 0 43 := v12
            have v13 : η1 0 42 = η 0 42 := (k2.1.2.2.2.1 0 42 (by decide +kernel)).trans rfl
            have c1_0_42 : η1 0 42 = η 0 42 := v13
            have v14 : η1 0 45 = η 0 45 := (k2.1.2.2.2.1 0 45 (by decide +kernel)).trans rfl
            have c1_0_45 : η1 0 45 = η 0 45 := v14
            have v15 : η1 0 19 = η 0 19 := (k2.1.2.2.2.1 0 19 (by decide +kernel)).trans rfl
            have c1_0_19 : η1 0 19 = η 0 19 := v15
            have v16 : η1 0 44 = η 0 44 := (k2.1.2.2.2.1 0 44 (by decide +kernel)).trans rfl
            have c1_0_44 : η1 0 44 = η 0 44 := v16
            have v17 : η1 0 7 = η 0 7 := (k2.1.2.2.2.1 0 7 (by decide +kernel)).trans rfl
            have c1_0_7 : η1 0 7 = η 0 7 := v17
            have v18 : η1 0 6 = η 0 6 := (k2.1.2.2.2.1 0 6 (by decide +kernel)).trans rfl
            have c1_0_6 : η1 0 6 = η 0 6 := v18
            have v19 : η1 0 8 = η 0 8 := (k2.1.2.2.2.1 0 8 (by decide +kernel)).trans rfl
            have c1_0_8 : η1 0 8 = η 0 8 := v19
            have bx7 : (0 : Int) ≤ x7 ∧ x7 ≤ 6 := k7.1.2.1
            have fm1 : zFm zMl_signs η0 η1 := zFm_tr2 hI.2 k2.1.2.2.2.1 (by decide +kernel)
            have fm2 : zFm zMl_signs η0 η2 := zFm_tr2 fm1 k7.1.2.2.2.1 (by decide +kernel)
            have fmE : zFm zMl_signs η0 η2 := fm2
            have fr22_0 : ∀ j, η 22 j = η 22 j := fun _ => rfl
            have v20 : ∀ j, η1 22 j = η 22 j := fun j => k2.1.2.2.2.1 22 _ (zinr_not (by decide +kernel))
            have fr22_1 : ∀ j, η1 22 j = η 22 j := v20
            have v21 : ∀ j, η2 22 j = η 22 j := fun j => (k7.1.2.2.2.1 22 _ (zinr_not (by decide +kernel))).trans (v20 j)
            have fr22_2 : ∀ j, η2 22 j = η 22 j := v21
            have fr22 : ∀ j, η2 22 j = η 22 j := v21
            have v22 : η2 0 41 = η 0 41 := (k7.1.2.2.2.1 0 41 (by decide +kernel)).trans v9
            have f0_41 : η2 0 41 = η 0 41 := v22
            have v23 : η2 0 43 = η 0 43 := (k7.1.2.2.2.1 0 43 (by decide +kernel)).trans v12
            have f0_43 : η2 0 43 = η 0 43 := v23
            have v24 : η2 0 42 = η 0 42 := (k7.1.2.2.2.1 0 42 (by decide +kernel)).trans v13
            have f0_42 : η2 0 42 = η 0 42 := v24
            have v25 : η2 0 45 = η 0 45 := (k7.1.2.2.2.1 0 45 (by decide +kernel)).trans v14
            have f0_45 : η2 0 45 = η 0 45 := v25
            have v26 : η2 0 19 = η 0 19 := (k7.1.2.2.2.1 0 19 (by decide +kernel)).trans v15
            have f0_19 : η2 0 19 = η 0 19 := v26
            have v27 : η2 0 44 = η 0 44 := (k7.1.2.2.2.1 0 44 (by decide +kernel)).trans v16
            have f0_44 : η2 0 44 = η 0 44 := v27
            have v28 : η2 0 7 = η 0 7 := (k7.1.2.2.2.1 0 7 (by decide +kernel)).trans v17
            have f0_7 : η2 0 7 = η 0 7 := v28
            have v29 : η2 0 6 = η 0 6 := (k7.1.2.2.2.1 0 6 (by decide +kernel)).trans v18
            have f0_6 : η2 0 6 = η 0 6 := v29
            have v30 : η2 0 8 = η 0 8 := (k7.1.2.2.2.1 0 8 (by decide +kernel)).trans v19
            have f0_8 : η2 0 8 = η 0 8 := v30
            have wb1 : wB wl_l zTr η1 := k2.1.1
            have wb2 : wB wl_l zTr η2 := k7.1.1
            have wbE : wB wl_l zTr η2 := wb2
            have I0 : H_l 0 0 0 η := hig.1
            have I1 : H_l 0 0 0 η1 := k2.2.1
            have qr2 : (1 ≤ x2 → 2 ≤ x1) ∧ (2 ≤ x1 → 1 ≤ x2) := k2.2.2
            have I2 : H_l 0 0 0 η2 := k7.2.1
            have qr7 : (1 ≤ x7 → 2 ≤ x6) ∧ (2 ≤ x6 → 1 ≤ x7) := k7.2.2
            exact I2
          · show ∀ (x2 : Int) (η1 : zE), ((gC2 wl_l [(nat_lit 0, zPl_isSign, zOl_isSign, zMl_isSign), (nat_lit 1, zPl_wrong, zOl_wrong, zMl_wrong), (nat_lit 2, zPl_token, zOl_token, zMl_token), (nat_lit 3, zPl_isKey, zOl_isKey, zMl_isKey), (nat_lit 4, zPl_isCounted, zOl_isCounted, zMl_isCounted), (nat_lit 5, zPl_waitsFor, zOl_waitsFor, zMl_waitsFor), (nat_lit 6, zPl_rank, zOl_rank, zMl_rank), (nat_lit 7, zPl_bind, zOl_bind, zMl_bind)] pCl_signs qCl_signs) 6).2 [x1] η x2 η1 → (x2 = 4) → ∀ x3 : Int, x3 = η1 0 (Int.toNat 41) → zok 0 x3 → (0 < x3) → ∀ x4 : Int, x4 = η1 0 (Int.toNat 41) → zok 0 x4 → ∀ x5 : Int, x5 = zd 0 2 x4 1 → ∀ x6 : Int, x6 = η1 22 (Int.toNat x5) → zok 0 x6 → ∀ (x7 : Int) (η2 : zE), ((gC2 wl_l [(nat_lit 0, zPl_isSign, zOl_isSign, zMl_isSign), (nat_lit 1, zPl_wrong, zOl_wrong, zMl_wrong), (nat_lit 2, zPl_token, zOl_token, zMl_token), (nat_lit 3, zPl_isKey, zOl_isKey, zMl_isKey), (nat_lit 4, zPl_isCounted, zOl_isCounted, zMl_isCounted), (nat_lit 5, zPl_waitsFor, zOl_waitsFor, zMl_waitsFor), (nat_lit 6, zPl_rank, zOl_rank, zMl_rank), (nat_lit 7, zPl_bind, zOl_bind, zMl_bind)] pCl_signs qCl_signs) 6).2 [x6] η1 x7 η2 → (x7 = 4) → ∀ (x8 : Int) (η3 : zE), ((gC2 wl_l [(nat_lit 0, zPl_isSign, zOl_isSign, zMl_isSign), (nat_lit 1, zPl_wrong, zOl_wrong, zMl_wrong), (nat_lit 2, zPl_token, zOl_token, zMl_token), (nat_lit 3, zPl_isKey, zOl_isKey, zMl_isKey), (nat_lit 4, zPl_isCounted, zOl_isCounted, zMl_isCounted), (nat_lit 5, zPl_waitsFor, zOl_waitsFor, zMl_waitsFor), (nat_lit 6, zPl_rank, zOl_rank, zMl_rank), (nat_lit 7, zPl_bind, zOl_bind, zMl_bind)] pCl_signs qCl_signs) 1).2 [1] η2 x8 η3 → (fun (_ : Nat) (y : Int) (η' : zE) => pQl_signs xs η0 y η') 0 x8 η3
            have hw : η 0 45 = 0 := hig.2.1
            have hr1 : 1 ≤ η 0 19 := hig.2.2.1
            have hs1 : η 0 7 = η0 0 7 := hig.2.2.2.1
            have hs2 : η 0 6 = η0 0 6 := hig.2.2.2.2.1
            have hs3 : η 0 8 = η0 0 8 := hig.2.2.2.2.2.1
            have hk : x1 = 0 ∨ (3 ≤ x1 ∧ ¬ η 0 8 = 0) := hig.2.2.2.2.2.2
            have kk : η 0 8 = 5 → 0 ≤ η 0 9 ∧ η 0 9 ≤ 5 := hig.1.1.1.2.1.2
            have bd43 : (0 : Int) ≤ η 0 43 ∧ η 0 43 ≤ 8 := wf_ok (a := 43) (b := 43) (z := (0, 8)) hI.1.1 (by decide +kernel) (Nat.le_refl _) (Nat.le_refl _)
            have bd44 : (0 : Int) ≤ η 0 44 ∧ η 0 44 ≤ 64 := wf_ok (a := 44) (b := 44) (z := (0, 64)) hI.1.1 (by decide +kernel) (Nat.le_refl _) (Nat.le_refl _)
            have bd19 : (0 : Int) ≤ η 0 19 ∧ η 0 19 ≤ 64 := wf_ok (a := 19) (b := 19) (z := (0, 64)) hI.1.1 (by decide +kernel) (Nat.le_refl _) (Nat.le_refl _)
            obtain ⟨u1, u2, u3, u4⟩ := hig.1.2
            have cn := cz_n (η := η) (η 0 41).toNat
            intro x2 η1 h2 c1 x3 e3 r3 c2 x4 e4 r4 x5 e5 x6 e6 r6 x7 η2 h7 c3 x8 η3 h8
            replace e5 := zEq_i e5
            have k2 : sQ wl_l zTr zOl_rank zMl_rank [x1] η x2 η1 ∧ pQl_rank [x1] η x2 η1 := h2
            have k7 : sQ wl_l zTr zOl_rank zMl_rank [x6] η1 x7 η2 ∧ pQl_rank [x6] η1 x7 η2 := h7
            have k8 : sQ wl_l zTr zOl_wrong zMl_wrong [1] η2 x8 η3 ∧ pQl_wrong [1] η2 x8 η3 := h8
            have bx1 : (3 : Int) ≤ x1 ∧ x1 ≤ 14 := hI.1.2.1.1
            have c0_0_41 : η 0 41 = η 0 41 := rfl
            have w0_0_43 : (0 : Int) ≤ η 0 43 ∧ η 0 43 ≤ 8 := wf_ok (a := 43) (b := 43) (z := (0, 8)) hI.1.1 (by decide +kernel) (Nat.le_refl _) (Nat.le_refl _)
            have c0_0_43 : η 0 43 = η 0 43 := rfl
            have c0_0_42 : η 0 42 = η 0 42 := rfl
            have c0_0_45 : η 0 45 = η 0 45 := rfl
            have w0_0_19 : (0 : Int) ≤ η 0 19 ∧ η 0 19 ≤ 64 := wf_ok (a := 19) (b := 19) (z := (0, 64)) hI.1.1 (by decide +kernel) (Nat.le_refl _) (Nat.le_refl _)
            have c0_0_19 : η 0 19 = η 0 19 := rfl
            have w0_0_44 : (0 : Int) ≤ η 0 44 ∧ η 0 44 ≤ 64 := wf_ok (a := 44) (b := 44) (z := (0, 64)) hI.1.1 (by decide +kernel) (Nat.le_refl _) (Nat.le_refl _)
            have c0_0_44 : η 0 44 = η 0 44 := rfl
            have w0_0_7 : (0 : Int) ≤ η 0 7 ∧ η 0 7 ≤ 700 := wf_ok (a := 7) (b := 7) (z := (0, 700)) hI.1.1 (by decide +kernel) (Nat.le_refl _) (Nat.le_refl _)
            have c0_0_7 : η 0 7 = η 0 7 := rfl
            have w0_0_6 : (0 : Int) ≤ η 0 6 ∧ η 0 6 ≤ 700 := wf_ok (a := 6) (b := 6) (z := (0, 700)) hI.1.1 (by decide +kernel) (Nat.le_refl _) (Nat.le_refl _)
            have c0_0_6 : η 0 6 = η 0 6 := rfl
            have w0_0_8 : (0 : Int) ≤ η 0 8 ∧ η 0 8 ≤ 6 := wf_ok (a := 8) (b := 8) (z := (0, 6)) hI.1.1 (by decide +kernel) (Nat.le_refl _) (Nat.le_refl _)
            have c0_0_8 : η 0 8 = η 0 8 := rfl
            have bx2 : (0 : Int) ≤ x2 ∧ x2 ≤ 6 := k2.1.2.1
            have v9 : η1 0 41 = η 0 41 := (k2.1.2.2.2.1 0 41 (by decide +kernel)).trans rfl
            replace e3 : x3 = η 0 41 := e3.trans v9
            replace r3 : -2147483648 ≤ x3 ∧ x3 ≤ 2147483647 := r3
            replace e4 : x4 = η 0 41 := e4.trans v9
            replace r4 : -2147483648 ≤ x4 ∧ x4 ≤ 2147483647 := r4
            first
            | replace e5 : x5 = x4 - 1 := zd_s2 (zEq_o e5) (by clear e5; exact ⟨by omega, by omega⟩)
            | clear e5
            have v11 : η1 22 (Int.toNat x5) = η 22 (Int.toNat x5) := (k2.1.2.2.2.1 22 _ (zinr_not (by decide +kernel))).trans rfl
            replace e6 : x6 = η 22 (Int.toNat x5) := e6.trans v11
            replace r6 : -2147483648 ≤ x6 ∧ x6 ≤ 2147483647 := r6
            try have rb6 : (0 : Int) ≤ η 22 (Int.toNat x5) ∧ η 22 (Int.toNat x5) ≤ 14 := wf_ok (a := 0) (b := 95) (z := (0, 14)) hI.1.1 (by decide +kernel) (Nat.zero_le _) (by omega)
            have c1_0_41 : η1 0 41 = η 0 41 := v9
            have v12 : η1 0 43 = η 0 43 := (k2.1.2.2.2.1 0 43 (by decide +kernel)).trans rfl
            have c1_0_43 : η1 0 43 = η 0 43 := v12
            have v13 : η1 0 42 = η 0 42 := (k2.1.2.2.2.1 0 42 (by decide +kernel)).trans rfl
            have c1_0_42 : η1 0 42 = η 0 42 := v13
            have v14 : η1 0 45 = η 0 45 := (k2.1.2.2.2.1 0 45 (by decide +kernel)).trans rfl
            have c1_0_45 : η1 0 45 = η 0 45 := v14
            have v15 : η1 0 19 = η 0 19 := (k2.1.2.2.2.1 0 19 (by decide +kernel)).trans rfl
            have c1_0_19 : η1 0 19 = η 0 19 := v15
            have v16 : η1 0 44 = η 0 44 := (k2.1.2.2.2.1 0 44 (by decide +kernel)).trans rfl
            have c1_0_44 : η1 0 44 = η 0 44 := v16
            have v17 : η1 0 7 = η 0 7 := (k2.1.2.2.2.1 0 7 (by decide +kernel)).trans rfl
            have c1_0_7 : η1 0 7 = η 0 7 := v17
            have v18 : η1 0 6 = η 0 6 := (k2.1.2.2.2.1 0 6 (by decide +kernel)).trans rfl
            have c1_0_6 : η1 0 6 = η 0 6 := v18
            have v19 : η1 0 8 = η 0 8 := (k2.1.2.2.2.1 0 8 (by decide +kernel)).trans rfl
            have c1_0_8 : η1 0 8 = η 0 8 := v19
            have bx7 : (0 : Int) ≤ x7 ∧ x7 ≤ 6 := k7.1.2.1
            have v20 : η2 0 41 = η 0 41 := (k7.1.2.2.2.1 0 41 (by decide +kernel)).trans v9
            have c2_0_41 : η2 0 41 = η 0 41 := v20
            have v21 : η2 0 43 = η 0 43 := (k7.1.2.2.2.1 0 43 (by decide +kernel)).trans v12
            have c2_0_43 : η2 0 43 = η 0 43 := v21
            have v22 : η2 0 42 = η 0 42 := (k7.1.2.2.2.1 0 42 (by decide +kernel)).trans v13
            have c2_0_42 : η2 0 42 = η 0 42 := v22
            have v23 : η2 0 45 = η 0 45 := (k7.1.2.2.2.1 0 45 (by decide +kernel)).trans v14
            have c2_0_45 : η2 0 45 = η 0 45 := v23
            have v24 : η2 0 19 = η 0 19 := (k7.1.2.2.2.1 0 19 (by decide +kernel)).trans v15
            have c2_0_19 : η2 0 19 = η 0 19 := v24
            have v25 : η2 0 44 = η 0 44 := (k7.1.2.2.2.1 0 44 (by decide +kernel)).trans v16
            have c2_0_44 : η2 0 44 = η 0 44 := v25
            have v26 : η2 0 7 = η 0 7 := (k7.1.2.2.2.1 0 7 (by decide +kernel)).trans v17
            have c2_0_7 : η2 0 7 = η 0 7 := v26
            have v27 : η2 0 6 = η 0 6 := (k7.1.2.2.2.1 0 6 (by decide +kernel)).trans v18
            have c2_0_6 : η2 0 6 = η 0 6 := v27
            have v28 : η2 0 8 = η 0 8 := (k7.1.2.2.2.1 0 8 (by decide +kernel)).trans v19
            have c2_0_8 : η2 0 8 = η 0 8 := v28
            have bx8 : (0 : Int) ≤ x8 ∧ x8 ≤ 0 := k8.1.2.1
            have fm1 : zFm zMl_signs η0 η1 := zFm_tr2 hI.2 k2.1.2.2.2.1 (by decide +kernel)
            have fm2 : zFm zMl_signs η0 η2 := zFm_tr2 fm1 k7.1.2.2.2.1 (by decide +kernel)
            have fm3 : zFm zMl_signs η0 η3 := zFm_tr2 fm2 k8.1.2.2.2.1 (by decide +kernel)
            have fmE : zFm zMl_signs η0 η3 := fm3
            have fr22_0 : ∀ j, η 22 j = η 22 j := fun _ => rfl
            have v29 : ∀ j, η1 22 j = η 22 j := fun j => k2.1.2.2.2.1 22 _ (zinr_not (by decide +kernel))
            have fr22_1 : ∀ j, η1 22 j = η 22 j := v29
            have v30 : ∀ j, η2 22 j = η 22 j := fun j => (k7.1.2.2.2.1 22 _ (zinr_not (by decide +kernel))).trans (v29 j)
            have fr22_2 : ∀ j, η2 22 j = η 22 j := v30
            have v31 : ∀ j, η3 22 j = η 22 j := fun j => (k8.1.2.2.2.1 22 _ (zinr_not (by decide +kernel))).trans (v30 j)
            have fr22_3 : ∀ j, η3 22 j = η 22 j := v31
            have fr22 : ∀ j, η3 22 j = η 22 j := v31
            have v32 : η3 0 41 = η 0 41 := (k8.1.2.2.2.1 0 41 (by decide +kernel)).trans v20
            have f0_41 : η3 0 41 = η 0 41 := v32
            have v33 : η3 0 43 = η 0 43 := (k8.1.2.2.2.1 0 43 (by decide +kernel)).trans v21
            have f0_43 : η3 0 43 = η 0 43 := v33
            have v34 : η3 0 42 = η 0 42 := (k8.1.2.2.2.1 0 42 (by decide +kernel)).trans v22
            have f0_42 : η3 0 42 = η 0 42 := v34
            have v35 : η3 0 45 = η 0 45 := (k8.1.2.2.2.1 0 45 (by decide +kernel)).trans v23
            have f0_45 : η3 0 45 = η 0 45 := v35
            have v36 : η3 0 19 = η 0 19 := (k8.1.2.2.2.1 0 19 (by decide +kernel)).trans v24
            have f0_19 : η3 0 19 = η 0 19 := v36
            have v37 : η3 0 44 = η 0 44 := (k8.1.2.2.2.1 0 44 (by decide +kernel)).trans v25
            have f0_44 : η3 0 44 = η 0 44 := v37
            have v38 : η3 0 7 = η 0 7 := (k8.1.2.2.2.1 0 7 (by decide +kernel)).trans v26
            have f0_7 : η3 0 7 = η 0 7 := v38
            have v39 : η3 0 6 = η 0 6 := (k8.1.2.2.2.1 0 6 (by decide +kernel)).trans v27
            have f0_6 : η3 0 6 = η 0 6 := v39
            have v40 : η3 0 8 = η 0 8 := (k8.1.2.2.2.1 0 8 (by decide +kernel)).trans v28
            have f0_8 : η3 0 8 = η 0 8 := v40
            have wb1 : wB wl_l zTr η1 := k2.1.1
            have wb2 : wB wl_l zTr η2 := k7.1.1
            have wb3 : wB wl_l zTr η3 := k8.1.1
            have wbE : wB wl_l zTr η3 := wb3
            have I0 : H_l 0 0 0 η := hig.1
            have I1 : H_l 0 0 0 η1 := k2.2.1
            have qr2 : (1 ≤ x2 → 2 ≤ x1) ∧ (2 ≤ x1 → 1 ≤ x2) := k2.2.2
            have I2 : H_l 0 0 0 η2 := k7.2.1
            have qr7 : (1 ≤ x7 → 2 ≤ x6) ∧ (2 ≤ x6 → 1 ≤ x7) := k7.2.2
            have I3 : H_l 0 0 0 η3 := k8.2
            exact ⟨I3.1, fun w => absurd (show (x8 : Int) = 0 by omega) w⟩
        · refine List.forall_mem_cons.mpr ⟨?_, fun _ h => nomatch h⟩
          · show ∀ (x2 : Int) (η1 : zE), ((gC wl_l [(nat_lit 0, zPl_isSign, zOl_isSign, zMl_isSign), (nat_lit 1, zPl_wrong, zOl_wrong, zMl_wrong), (nat_lit 2, zPl_token, zOl_token, zMl_token), (nat_lit 3, zPl_isKey, zOl_isKey, zMl_isKey), (nat_lit 4, zPl_isCounted, zOl_isCounted, zMl_isCounted), (nat_lit 5, zPl_waitsFor, zOl_waitsFor, zMl_waitsFor), (nat_lit 6, zPl_rank, zOl_rank, zMl_rank), (nat_lit 7, zPl_bind, zOl_bind, zMl_bind)] pCl_signs qCl_signs) 6).2 [x1] η x2 η1 → (x2 = 4) → ∀ x3 : Int, x3 = η1 0 (Int.toNat 41) → zok 0 x3 → (0 < x3) → ∀ x4 : Int, x4 = η1 0 (Int.toNat 41) → zok 0 x4 → ∀ x5 : Int, x5 = zd 0 2 x4 1 → (0 : Int) ≤ x5 ∧ (x5 : Int) < 96
            have hw : η 0 45 = 0 := hig.2.1
            have hr1 : 1 ≤ η 0 19 := hig.2.2.1
            have hs1 : η 0 7 = η0 0 7 := hig.2.2.2.1
            have hs2 : η 0 6 = η0 0 6 := hig.2.2.2.2.1
            have hs3 : η 0 8 = η0 0 8 := hig.2.2.2.2.2.1
            have hk : x1 = 0 ∨ (3 ≤ x1 ∧ ¬ η 0 8 = 0) := hig.2.2.2.2.2.2
            have kk : η 0 8 = 5 → 0 ≤ η 0 9 ∧ η 0 9 ≤ 5 := hig.1.1.1.2.1.2
            have bd43 : (0 : Int) ≤ η 0 43 ∧ η 0 43 ≤ 8 := wf_ok (a := 43) (b := 43) (z := (0, 8)) hI.1.1 (by decide +kernel) (Nat.le_refl _) (Nat.le_refl _)
            have bd44 : (0 : Int) ≤ η 0 44 ∧ η 0 44 ≤ 64 := wf_ok (a := 44) (b := 44) (z := (0, 64)) hI.1.1 (by decide +kernel) (Nat.le_refl _) (Nat.le_refl _)
            have bd19 : (0 : Int) ≤ η 0 19 ∧ η 0 19 ≤ 64 := wf_ok (a := 19) (b := 19) (z := (0, 64)) hI.1.1 (by decide +kernel) (Nat.le_refl _) (Nat.le_refl _)
            obtain ⟨u1, u2, u3, u4⟩ := hig.1.2
            have cn := cz_n (η := η) (η 0 41).toNat
            intro x2 η1 h2 c1 x3 e3 r3 c2 x4 e4 r4 x5 e5
            replace e5 := zEq_i e5
            have k2 : sQ wl_l zTr zOl_rank zMl_rank [x1] η x2 η1 ∧ pQl_rank [x1] η x2 η1 := h2
            have bx1 : (3 : Int) ≤ x1 ∧ x1 ≤ 14 := hI.1.2.1.1
            have c0_0_41 : η 0 41 = η 0 41 := rfl
            have w0_0_43 : (0 : Int) ≤ η 0 43 ∧ η 0 43 ≤ 8 := wf_ok (a := 43) (b := 43) (z := (0, 8)) hI.1.1 (by decide +kernel) (Nat.le_refl _) (Nat.le_refl _)
            have c0_0_43 : η 0 43 = η 0 43 := rfl
            have c0_0_42 : η 0 42 = η 0 42 := rfl
            have c0_0_45 : η 0 45 = η 0 45 := rfl
            have w0_0_19 : (0 : Int) ≤ η 0 19 ∧ η 0 19 ≤ 64 := wf_ok (a := 19) (b := 19) (z := (0, 64)) hI.1.1 (by decide +kernel) (Nat.le_refl _) (Nat.le_refl _)
            have c0_0_19 : η 0 19 = η 0 19 := rfl
            have w0_0_44 : (0 : Int) ≤ η 0 44 ∧ η 0 44 ≤ 64 := wf_ok (a := 44) (b := 44) (z := (0, 64)) hI.1.1 (by decide +kernel) (Nat.le_refl _) (Nat.le_refl _)
            have c0_0_44 : η 0 44 = η 0 44 := rfl
            have w0_0_7 : (0 : Int) ≤ η 0 7 ∧ η 0 7 ≤ 700 := wf_ok (a := 7) (b := 7) (z := (0, 700)) hI.1.1 (by decide +kernel) (Nat.le_refl _) (Nat.le_refl _)
            have c0_0_7 : η 0 7 = η 0 7 := rfl
            have w0_0_6 : (0 : Int) ≤ η 0 6 ∧ η 0 6 ≤ 700 := wf_ok (a := 6) (b := 6) (z := (0, 700)) hI.1.1 (by decide +kernel) (Nat.le_refl _) (Nat.le_refl _)
            have c0_0_6 : η 0 6 = η 0 6 := rfl
            have w0_0_8 : (0 : Int) ≤ η 0 8 ∧ η 0 8 ≤ 6 := wf_ok (a := 8) (b := 8) (z := (0, 6)) hI.1.1 (by decide +kernel) (Nat.le_refl _) (Nat.le_refl _)
            have c0_0_8 : η 0 8 = η 0 8 := rfl
            have bx2 : (0 : Int) ≤ x2 ∧ x2 ≤ 6 := k2.1.2.1
            have v9 : η1 0 41 = η 0 41 := (k2.1.2.2.2.1 0 41 (by decide +kernel)).trans rfl
            replace e3 : x3 = η 0 41 := e3.trans v9
            replace r3 : -2147483648 ≤ x3 ∧ x3 ≤ 2147483647 := r3
            replace e4 : x4 = η 0 41 := e4.trans v9
            replace r4 : -2147483648 ≤ x4 ∧ x4 ≤ 2147483647 := r4
            first
            | replace e5 : x5 = x4 - 1 := zd_s2 (zEq_o e5) (by clear e5; exact ⟨by omega, by omega⟩)
            | clear e5
            have fm1 : zFm zMl_signs η0 η1 := zFm_tr2 hI.2 k2.1.2.2.2.1 (by decide +kernel)
            have fmE : zFm zMl_signs η0 η1 := fm1
            have fr22_0 : ∀ j, η 22 j = η 22 j := fun _ => rfl
            have v10 : ∀ j, η1 22 j = η 22 j := fun j => k2.1.2.2.2.1 22 _ (zinr_not (by decide +kernel))
            have fr22_1 : ∀ j, η1 22 j = η 22 j := v10
            have fr22 : ∀ j, η1 22 j = η 22 j := v10
            have f0_41 : η1 0 41 = η 0 41 := v9
            have v11 : η1 0 43 = η 0 43 := (k2.1.2.2.2.1 0 43 (by decide +kernel)).trans rfl
            have f0_43 : η1 0 43 = η 0 43 := v11
            have v12 : η1 0 42 = η 0 42 := (k2.1.2.2.2.1 0 42 (by decide +kernel)).trans rfl
            have f0_42 : η1 0 42 = η 0 42 := v12
            have v13 : η1 0 45 = η 0 45 := (k2.1.2.2.2.1 0 45 (by decide +kernel)).trans rfl
            have f0_45 : η1 0 45 = η 0 45 := v13
            have v14 : η1 0 19 = η 0 19 := (k2.1.2.2.2.1 0 19 (by decide +kernel)).trans rfl
            have f0_19 : η1 0 19 = η 0 19 := v14
            have v15 : η1 0 44 = η 0 44 := (k2.1.2.2.2.1 0 44 (by decide +kernel)).trans rfl
            have f0_44 : η1 0 44 = η 0 44 := v15
            have v16 : η1 0 7 = η 0 7 := (k2.1.2.2.2.1 0 7 (by decide +kernel)).trans rfl
            have f0_7 : η1 0 7 = η 0 7 := v16
            have v17 : η1 0 6 = η 0 6 := (k2.1.2.2.2.1 0 6 (by decide +kernel)).trans rfl
            have f0_6 : η1 0 6 = η 0 6 := v17
            have v18 : η1 0 8 = η 0 8 := (k2.1.2.2.2.1 0 8 (by decide +kernel)).trans rfl
            have f0_8 : η1 0 8 = η 0 8 := v18
            have wb1 : wB wl_l zTr η1 := k2.1.1
            have wbE : wB wl_l zTr η1 := wb1
            have I0 : H_l 0 0 0 η := hig.1
            have I1 : H_l 0 0 0 η1 := k2.2.1
            have qr2 : (1 ≤ x2 → 2 ≤ x1) ∧ (2 ≤ x1 → 1 ≤ x2) := k2.2.2
            exact ⟨by omega, by omega⟩
      )⟩, (List.forall_mem_cons.mpr ⟨⟨zDl_signs_3, zEl_signs_3, zFl_signs_3, 25, by decide +kernel, (by
      intro xs η0 hlx hp hpp ys η hr hl hI hig
      match ys, hl, hI, hig with
      | [x1], _, hI, hig =>
        refine ⟨?_, ?_⟩
        · refine List.forall_mem_cons.mpr ⟨?_, List.forall_mem_cons.mpr ⟨?_, List.forall_mem_cons.mpr ⟨?_, List.forall_mem_cons.mpr ⟨?_, List.forall_mem_cons.mpr ⟨?_, List.forall_mem_cons.mpr ⟨?_, List.forall_mem_cons.mpr ⟨?_, List.forall_mem_cons.mpr ⟨?_, fun _ h => nomatch h⟩⟩⟩⟩⟩⟩⟩⟩
          · show ((gC2 wl_l [(nat_lit 0, zPl_isSign, zOl_isSign, zMl_isSign), (nat_lit 1, zPl_wrong, zOl_wrong, zMl_wrong), (nat_lit 2, zPl_token, zOl_token, zMl_token), (nat_lit 3, zPl_isKey, zOl_isKey, zMl_isKey), (nat_lit 4, zPl_isCounted, zOl_isCounted, zMl_isCounted), (nat_lit 5, zPl_waitsFor, zOl_waitsFor, zMl_waitsFor), (nat_lit 6, zPl_rank, zOl_rank, zMl_rank), (nat_lit 7, zPl_bind, zOl_bind, zMl_bind)] pCl_signs qCl_signs) 4).1 [] η
            have hw : η 0 45 = 0 := hig.2.1
            have hr1 : 1 ≤ η 0 19 := hig.2.2.1
            have hs1 : η 0 7 = η0 0 7 := hig.2.2.2.1
            have hs2 : η 0 6 = η0 0 6 := hig.2.2.2.2.1
            have hs3 : η 0 8 = η0 0 8 := hig.2.2.2.2.2.1
            have hk : x1 = 0 ∨ (3 ≤ x1 ∧ ¬ η 0 8 = 0) := hig.2.2.2.2.2.2
            have kk : η 0 8 = 5 → 0 ≤ η 0 9 ∧ η 0 9 ≤ 5 := hig.1.1.1.2.1.2
            have bd43 : (0 : Int) ≤ η 0 43 ∧ η 0 43 ≤ 8 := wf_ok (a := 43) (b := 43) (z := (0, 8)) hI.1.1 (by decide +kernel) (Nat.le_refl _) (Nat.le_refl _)
            have bd44 : (0 : Int) ≤ η 0 44 ∧ η 0 44 ≤ 64 := wf_ok (a := 44) (b := 44) (z := (0, 64)) hI.1.1 (by decide +kernel) (Nat.le_refl _) (Nat.le_refl _)
            have bd19 : (0 : Int) ≤ η 0 19 ∧ η 0 19 ≤ 64 := wf_ok (a := 19) (b := 19) (z := (0, 64)) hI.1.1 (by decide +kernel) (Nat.le_refl _) (Nat.le_refl _)
            obtain ⟨u1, u2, u3, u4⟩ := hig.1.2
            have cn := cz_n (η := η) (η 0 41).toNat
            have bx1 : (3 : Int) ≤ x1 ∧ x1 ≤ 14 := hI.1.2.1.1
            have fmE : zFm zMl_signs η0 η := hI.2
            have fr22_0 : ∀ j, η 22 j = η 22 j := fun _ => rfl
            have fr22 : ∀ j, η 22 j = η 22 j := fun _ => rfl
            have f0_41 : η 0 41 = η 0 41 := rfl
            have w0_0_43 : (0 : Int) ≤ η 0 43 ∧ η 0 43 ≤ 8 := wf_ok (a := 43) (b := 43) (z := (0, 8)) hI.1.1 (by decide +kernel) (Nat.le_refl _) (Nat.le_refl _)
            have f0_43 : η 0 43 = η 0 43 := rfl
            have f0_42 : η 0 42 = η 0 42 := rfl
            have f0_45 : η 0 45 = η 0 45 := rfl
            have w0_0_19 : (0 : Int) ≤ η 0 19 ∧ η 0 19 ≤ 64 := wf_ok (a := 19) (b := 19) (z := (0, 64)) hI.1.1 (by decide +kernel) (Nat.le_refl _) (Nat.le_refl _)
            have f0_19 : η 0 19 = η 0 19 := rfl
            have w0_0_44 : (0 : Int) ≤ η 0 44 ∧ η 0 44 ≤ 64 := wf_ok (a := 44) (b := 44) (z := (0, 64)) hI.1.1 (by decide +kernel) (Nat.le_refl _) (Nat.le_refl _)
            have f0_44 : η 0 44 = η 0 44 := rfl
            have w0_0_7 : (0 : Int) ≤ η 0 7 ∧ η 0 7 ≤ 700 := wf_ok (a := 7) (b := 7) (z := (0, 700)) hI.1.1 (by decide +kernel) (Nat.le_refl _) (Nat.le_refl _)
            have f0_7 : η 0 7 = η 0 7 := rfl
            have w0_0_6 : (0 : Int) ≤ η 0 6 ∧ η 0 6 ≤ 700 := wf_ok (a := 6) (b := 6) (z := (0, 700)) hI.1.1 (by decide +kernel) (Nat.le_refl _) (Nat.le_refl _)
            have f0_6 : η 0 6 = η 0 6 := rfl
            have w0_0_8 : (0 : Int) ≤ η 0 8 ∧ η 0 8 ≤ 6 := wf_ok (a := 8) (b := 8) (z := (0, 6)) hI.1.1 (by decide +kernel) (Nat.le_refl _) (Nat.le_refl _)
            have f0_8 : η 0 8 = η 0 8 := rfl
            have wbE : wB wl_l zTr η := hI.1.1
            have I0 : H_l 0 0 0 η := hig.1
            exact I0
          · show ∀ (x2 : Int) (η1 : zE), ((gC2 wl_l [(nat_lit 0, zPl_isSign, zOl_isSign, zMl_isSign), (nat_lit 1, zPl_wrong, zOl_wrong, zMl_wrong), (nat_lit 2, zPl_token, zOl_token, zMl_token), (nat_lit 3, zPl_isKey, zOl_isKey, zMl_isKey), (nat_lit 4, zPl_isCounted, zOl_isCounted, zMl_isCounted), (nat_lit 5, zPl_waitsFor, zOl_waitsFor, zMl_waitsFor), (nat_lit 6, zPl_rank, zOl_rank, zMl_rank), (nat_lit 7, zPl_bind, zOl_bind, zMl_bind)] pCl_signs qCl_signs) 4).2 [] η x2 η1 → (¬ x2 = 0) → ((gC2 wl_l [(nat_lit 0, zPl_isSign, zOl_isSign, zMl_isSign), (nat_lit 1, zPl_wrong, zOl_wrong, zMl_wrong), (nat_lit 2, zPl_token, zOl_token, zMl_token), (nat_lit 3, zPl_isKey, zOl_isKey, zMl_isKey), (nat_lit 4, zPl_isCounted, zOl_isCounted, zMl_isCounted), (nat_lit 5, zPl_waitsFor, zOl_waitsFor, zMl_waitsFor), (nat_lit 6, zPl_rank, zOl_rank, zMl_rank), (nat_lit 7, zPl_bind, zOl_bind, zMl_bind)] pCl_signs qCl_signs) 5).1 [x1] η1
            have hw : η 0 45 = 0 := hig.2.1
            have hr1 : 1 ≤ η 0 19 := hig.2.2.1
            have hs1 : η 0 7 = η0 0 7 := hig.2.2.2.1
            have hs2 : η 0 6 = η0 0 6 := hig.2.2.2.2.1
            have hs3 : η 0 8 = η0 0 8 := hig.2.2.2.2.2.1
            have hk : x1 = 0 ∨ (3 ≤ x1 ∧ ¬ η 0 8 = 0) := hig.2.2.2.2.2.2
            have kk : η 0 8 = 5 → 0 ≤ η 0 9 ∧ η 0 9 ≤ 5 := hig.1.1.1.2.1.2
            have bd43 : (0 : Int) ≤ η 0 43 ∧ η 0 43 ≤ 8 := wf_ok (a := 43) (b := 43) (z := (0, 8)) hI.1.1 (by decide +kernel) (Nat.le_refl _) (Nat.le_refl _)
            have bd44 : (0 : Int) ≤ η 0 44 ∧ η 0 44 ≤ 64 := wf_ok (a := 44) (b := 44) (z := (0, 64)) hI.1.1 (by decide +kernel) (Nat.le_refl _) (Nat.le_refl _)
            have bd19 : (0 : Int) ≤ η 0 19 ∧ η 0 19 ≤ 64 := wf_ok (a := 19) (b := 19) (z := (0, 64)) hI.1.1 (by decide +kernel) (Nat.le_refl _) (Nat.le_refl _)
            obtain ⟨u1, u2, u3, u4⟩ := hig.1.2
            have cn := cz_n (η := η) (η 0 41).toNat
            intro x2 η1 h2 c1
            have k2 : sQ wl_l zTr zOl_isCounted zMl_isCounted [] η x2 η1 ∧ pQl_isCounted [] η x2 η1 := h2
            have bx1 : (3 : Int) ≤ x1 ∧ x1 ≤ 14 := hI.1.2.1.1
            have c0_0_41 : η 0 41 = η 0 41 := rfl
            have w0_0_43 : (0 : Int) ≤ η 0 43 ∧ η 0 43 ≤ 8 := wf_ok (a := 43) (b := 43) (z := (0, 8)) hI.1.1 (by decide +kernel) (Nat.le_refl _) (Nat.le_refl _)
            have c0_0_43 : η 0 43 = η 0 43 := rfl
            have c0_0_42 : η 0 42 = η 0 42 := rfl
            have c0_0_45 : η 0 45 = η 0 45 := rfl
            have w0_0_19 : (0 : Int) ≤ η 0 19 ∧ η 0 19 ≤ 64 := wf_ok (a := 19) (b := 19) (z := (0, 64)) hI.1.1 (by decide +kernel) (Nat.le_refl _) (Nat.le_refl _)
            have c0_0_19 : η 0 19 = η 0 19 := rfl
            have w0_0_44 : (0 : Int) ≤ η 0 44 ∧ η 0 44 ≤ 64 := wf_ok (a := 44) (b := 44) (z := (0, 64)) hI.1.1 (by decide +kernel) (Nat.le_refl _) (Nat.le_refl _)
            have c0_0_44 : η 0 44 = η 0 44 := rfl
            have w0_0_7 : (0 : Int) ≤ η 0 7 ∧ η 0 7 ≤ 700 := wf_ok (a := 7) (b := 7) (z := (0, 700)) hI.1.1 (by decide +kernel) (Nat.le_refl _) (Nat.le_refl _)
            have c0_0_7 : η 0 7 = η 0 7 := rfl
            have w0_0_6 : (0 : Int) ≤ η 0 6 ∧ η 0 6 ≤ 700 := wf_ok (a := 6) (b := 6) (z := (0, 700)) hI.1.1 (by decide +kernel) (Nat.le_refl _) (Nat.le_refl _)
            have c0_0_6 : η 0 6 = η 0 6 := rfl
            have w0_0_8 : (0 : Int) ≤ η 0 8 ∧ η 0 8 ≤ 6 := wf_ok (a := 8) (b := 8) (z := (0, 6)) hI.1.1 (by decide +kernel) (Nat.le_refl _) (Nat.le_refl _)
            have c0_0_8 : η 0 8 = η 0 8 := rfl
            have bx2 : (0 : Int) ≤ x2 ∧ x2 ≤ 1 := k2.1.2.1
            have fm1 : zFm zMl_signs η0 η1 := zFm_tr2 hI.2 k2.1.2.2.2.1 (by decide +kernel)
            have fmE : zFm zMl_signs η0 η1 := fm1
            have fr22_0 : ∀ j, η 22 j = η 22 j := fun _ => rfl
            have v9 : ∀ j, η1 22 j = η 22 j := fun j => k2.1.2.2.2.1 22 _ (zinr_not (by decide +kernel))
            have fr22_1 : ∀ j, η1 22 j = η 22 j := v9
            have fr22 : ∀ j, η1 22 j = η 22 j := v9
            have v10 : η1 0 41 = η 0 41 := (k2.1.2.2.2.1 0 41 (by decide +kernel)).trans rfl
            have f0_41 : η1 0 41 = η 0 41 := v10
            have v11 : η1 0 43 = η 0 43 := (k2.1.2.2.2.1 0 43 (by decide +kernel)).trans rfl
            have f0_43 : η1 0 43 = η 0 43 := v11
            have v12 : η1 0 42 = η 0 42 := (k2.1.2.2.2.1 0 42 (by decide +kernel)).trans rfl
            have f0_42 : η1 0 42 = η 0 42 := v12
            have v13 : η1 0 45 = η 0 45 := (k2.1.2.2.2.1 0 45 (by decide +kernel)).trans rfl
            have f0_45 : η1 0 45 = η 0 45 := v13
            have v14 : η1 0 19 = η 0 19 := (k2.1.2.2.2.1 0 19 (by decide +kernel)).trans rfl
            have f0_19 : η1 0 19 = η 0 19 := v14
            have w1_0_44 : (0 : Int) ≤ η1 0 44 ∧ η1 0 44 ≤ 64 := wf_ok (a := 44) (b := 44) (z := (0, 64)) k2.1.1 (by decide +kernel) (Nat.le_refl _) (Nat.le_refl _)
            have f0_44 : η1 0 44 = η1 0 44 := rfl
            have v16 : η1 0 7 = η 0 7 := (k2.1.2.2.2.1 0 7 (by decide +kernel)).trans rfl
            have f0_7 : η1 0 7 = η 0 7 := v16
            have v17 : η1 0 6 = η 0 6 := (k2.1.2.2.2.1 0 6 (by decide +kernel)).trans rfl
            have f0_6 : η1 0 6 = η 0 6 := v17
            have v18 : η1 0 8 = η 0 8 := (k2.1.2.2.2.1 0 8 (by decide +kernel)).trans rfl
            have f0_8 : η1 0 8 = η 0 8 := v18
            have wb1 : wB wl_l zTr η1 := k2.1.1
            have wbE : wB wl_l zTr η1 := wb1
            have I0 : H_l 0 0 0 η := hig.1
            have I1 : H_l 1 0 0 η1 := k2.2.1 c1
            exact I1
          · show ∀ (x2 : Int) (η1 : zE), ((gC2 wl_l [(nat_lit 0, zPl_isSign, zOl_isSign, zMl_isSign), (nat_lit 1, zPl_wrong, zOl_wrong, zMl_wrong), (nat_lit 2, zPl_token, zOl_token, zMl_token), (nat_lit 3, zPl_isKey, zOl_isKey, zMl_isKey), (nat_lit 4, zPl_isCounted, zOl_isCounted, zMl_isCounted), (nat_lit 5, zPl_waitsFor, zOl_waitsFor, zMl_waitsFor), (nat_lit 6, zPl_rank, zOl_rank, zMl_rank), (nat_lit 7, zPl_bind, zOl_bind, zMl_bind)] pCl_signs qCl_signs) 4).2 [] η x2 η1 → (¬ x2 = 0) → ∀ (x3 : Int) (η2 : zE), ((gC2 wl_l [(nat_lit 0, zPl_isSign, zOl_isSign, zMl_isSign), (nat_lit 1, zPl_wrong, zOl_wrong, zMl_wrong), (nat_lit 2, zPl_token, zOl_token, zMl_token), (nat_lit 3, zPl_isKey, zOl_isKey, zMl_isKey), (nat_lit 4, zPl_isCounted, zOl_isCounted, zMl_isCounted), (nat_lit 5, zPl_waitsFor, zOl_waitsFor, zMl_waitsFor), (nat_lit 6, zPl_rank, zOl_rank, zMl_rank), (nat_lit 7, zPl_bind, zOl_bind, zMl_bind)] pCl_signs qCl_signs) 5).2 [x1] η1 x3 η2 → ∀ η3 : zE, η3 = zup η2 0 (Int.toNat 45) 1 → ((gC2 wl_l [(nat_lit 0, zPl_isSign, zOl_isSign, zMl_isSign), (nat_lit 1, zPl_wrong, zOl_wrong, zMl_wrong), (nat_lit 2, zPl_token, zOl_token, zMl_token), (nat_lit 3, zPl_isKey, zOl_isKey, zMl_isKey), (nat_lit 4, zPl_isCounted, zOl_isCounted, zMl_isCounted), (nat_lit 5, zPl_waitsFor, zOl_waitsFor, zMl_waitsFor), (nat_lit 6, zPl_rank, zOl_rank, zMl_rank), (nat_lit 7, zPl_bind, zOl_bind, zMl_bind)] pCl_signs qCl_signs) 6).1 [x1] η3
            have hw : η 0 45 = 0 := hig.2.1
            have hr1 : 1 ≤ η 0 19 := hig.2.2.1
            have hs1 : η 0 7 = η0 0 7 := hig.2.2.2.1
            have hs2 : η 0 6 = η0 0 6 := hig.2.2.2.2.1
            have hs3 : η 0 8 = η0 0 8 := hig.2.2.2.2.2.1
            have hk : x1 = 0 ∨ (3 ≤ x1 ∧ ¬ η 0 8 = 0) := hig.2.2.2.2.2.2
            have kk : η 0 8 = 5 → 0 ≤ η 0 9 ∧ η 0 9 ≤ 5 := hig.1.1.1.2.1.2
            have bd43 : (0 : Int) ≤ η 0 43 ∧ η 0 43 ≤ 8 := wf_ok (a := 43) (b := 43) (z := (0, 8)) hI.1.1 (by decide +kernel) (Nat.le_refl _) (Nat.le_refl _)
            have bd44 : (0 : Int) ≤ η 0 44 ∧ η 0 44 ≤ 64 := wf_ok (a := 44) (b := 44) (z := (0, 64)) hI.1.1 (by decide +kernel) (Nat.le_refl _) (Nat.le_refl _)
            have bd19 : (0 : Int) ≤ η 0 19 ∧ η 0 19 ≤ 64 := wf_ok (a := 19) (b := 19) (z := (0, 64)) hI.1.1 (by decide +kernel) (Nat.le_refl _) (Nat.le_refl _)
            obtain ⟨u1, u2, u3, u4⟩ := hig.1.2
            have cn := cz_n (η := η) (η 0 41).toNat
            intro x2 η1 h2 c1 x3 η2 h3 η3 eη3
            have k2 : sQ wl_l zTr zOl_isCounted zMl_isCounted [] η x2 η1 ∧ pQl_isCounted [] η x2 η1 := h2
            have k3 : sQ wl_l zTr zOl_waitsFor zMl_waitsFor [x1] η1 x3 η2 ∧ pQl_waitsFor [x1] η1 x3 η2 := h3
            have bx1 : (3 : Int) ≤ x1 ∧ x1 ≤ 14 := hI.1.2.1.1
            have c0_0_41 : η 0 41 = η 0 41 := rfl
            have w0_0_43 : (0 : Int) ≤ η 0 43 ∧ η 0 43 ≤ 8 := wf_ok (a := 43) (b := 43) (z := (0, 8)) hI.1.1 (by decide +kernel) (Nat.le_refl _) (Nat.le_refl _)
            have c0_0_43 : η 0 43 = η 0 43 := rfl
            have c0_0_42 : η 0 42 = η 0 42 := rfl
            have c0_0_45 : η 0 45 = η 0 45 := rfl
            have w0_0_19 : (0 : Int) ≤ η 0 19 ∧ η 0 19 ≤ 64 := wf_ok (a := 19) (b := 19) (z := (0, 64)) hI.1.1 (by decide +kernel) (Nat.le_refl _) (Nat.le_refl _)
            have c0_0_19 : η 0 19 = η 0 19 := rfl
            have w0_0_44 : (0 : Int) ≤ η 0 44 ∧ η 0 44 ≤ 64 := wf_ok (a := 44) (b := 44) (z := (0, 64)) hI.1.1 (by decide +kernel) (Nat.le_refl _) (Nat.le_refl _)
            have c0_0_44 : η 0 44 = η 0 44 := rfl
            have w0_0_7 : (0 : Int) ≤ η 0 7 ∧ η 0 7 ≤ 700 := wf_ok (a := 7) (b := 7) (z := (0, 700)) hI.1.1 (by decide +kernel) (Nat.le_refl _) (Nat.le_refl _)
            have c0_0_7 : η 0 7 = η 0 7 := rfl
            have w0_0_6 : (0 : Int) ≤ η 0 6 ∧ η 0 6 ≤ 700 := wf_ok (a := 6) (b := 6) (z := (0, 700)) hI.1.1 (by decide +kernel) (Nat.le_refl _) (Nat.le_refl _)
            have c0_0_6 : η 0 6 = η 0 6 := rfl
            have w0_0_8 : (0 : Int) ≤ η 0 8 ∧ η 0 8 ≤ 6 := wf_ok (a := 8) (b := 8) (z := (0, 6)) hI.1.1 (by decide +kernel) (Nat.le_refl _) (Nat.le_refl _)
            have c0_0_8 : η 0 8 = η 0 8 := rfl
            have bx2 : (0 : Int) ≤ x2 ∧ x2 ≤ 1 := k2.1.2.1
            have v9 : η1 0 41 = η 0 41 := (k2.1.2.2.2.1 0 41 (by decide +kernel)).trans rfl
            have c1_0_41 : η1 0 41 = η 0 41 := v9
            have v10 : η1 0 43 = η 0 43 := (k2.1.2.2.2.1 0 43 (by decide +kernel)).trans rfl
            have c1_0_43 : η1 0 43 = η 0 43 := v10
            have v11 : η1 0 42 = η 0 42 := (k2.1.2.2.2.1 0 42 (by decide +kernel)).trans rfl
            have c1_0_42 : η1 0 42 = η 0 42 := v11
            have v12 : η1 0 45 = η 0 45 := (k2.1.2.2.2.1 0 45 (by decide +kernel)).trans rfl
            have c1_0_45 : η1 0 45 = η 0 45 := v12
            have v13 : η1 0 19 = η 0 19 := (k2.1.2.2.2.1 0 19 (by decide +kernel)).trans rfl
            have c1_0_19 : η1 0 19 = η 0 19 := v13
            have w1_0_44 : (0 : Int) ≤ η1 0 44 ∧ η1 0 44 ≤ 64 := wf_ok (a := 44) (b := 44) (z := (0, 64)) k2.1.1 (by decide +kernel) (Nat.le_refl _) (Nat.le_refl _)
            have c1_0_44 : η1 0 44 = η1 0 44 := rfl
            have v15 : η1 0 7 = η 0 7 := (k2.1.2.2.2.1 0 7 (by decide +kernel)).trans rfl
            have c1_0_7 : η1 0 7 = η 0 7 := v15
            have v16 : η1 0 6 = η 0 6 := (k2.1.2.2.2.1 0 6 (by decide +kernel)).trans rfl
            have c1_0_6 : η1 0 6 = η 0 6 := v16
            have v17 : η1 0 8 = η 0 8 := (k2.1.2.2.2.1 0 8 (by decide +kernel)).trans rfl
            have c1_0_8 : η1 0 8 = η 0 8 := v17
            have bx3 : (0 : Int) ≤ x3 ∧ x3 ≤ 0 := k3.1.2.1
            have fm1 : zFm zMl_signs η0 η1 := zFm_tr2 hI.2 k2.1.2.2.2.1 (by decide +kernel)
            have fm2 : zFm zMl_signs η0 η2 := zFm_tr2 fm1 k3.1.2.2.2.1 (by decide +kernel)
            have fm3 : zFm zMl_signs η0 η3 := by rw [eη3]; exact zFm_up fm2 rfl
            have fmE : zFm zMl_signs η0 η3 := fm3
            have fr22_0 : ∀ j, η 22 j = η 22 j := fun _ => rfl
            have v18 : ∀ j, η1 22 j = η 22 j := fun j => k2.1.2.2.2.1 22 _ (zinr_not (by decide +kernel))
            have fr22_1 : ∀ j, η1 22 j = η 22 j := v18
            have fr22_2 : ∀ j, η2 22 j = η2 22 j := fun _ => rfl
            have v20 : ∀ j, η3 22 j = η2 22 j := fun j => by rw [eη3]; exact zup_ne (fun e _ => absurd e (by decide))
            have fr22_3 : ∀ j, η3 22 j = η2 22 j := v20
            have fr22 : ∀ j, η3 22 j = η2 22 j := v20
            have v22 : η3 0 41 = η2 0 41 := by rw [eη3]; exact (zup_ne (fun _ e => absurd e (by decide))).trans rfl
            have f0_41 : η3 0 41 = η2 0 41 := v22
            have v23 : η2 0 43 = η 0 43 := (k3.1.2.2.2.1 0 43 (by decide +kernel)).trans v10
            have v24 : η3 0 43 = η 0 43 := by rw [eη3]; exact (zup_ne (fun _ e => absurd e (by decide))).trans v23
            have f0_43 : η3 0 43 = η 0 43 := v24
            have v25 : η2 0 42 = η 0 42 := (k3.1.2.2.2.1 0 42 (by decide +kernel)).trans v11
            have v26 : η3 0 42 = η 0 42 := by rw [eη3]; exact (zup_ne (fun _ e => absurd e (by decide))).trans v25
            have f0_42 : η3 0 42 = η 0 42 := v26
            have v27 : η3 0 45 = 1 := by rw [eη3]; exact zup_eq
            have f0_45 : η3 0 45 = 1 := v27
            have v28 : η2 0 19 = η 0 19 := (k3.1.2.2.2.1 0 19 (by decide +kernel)).trans v13
            have v29 : η3 0 19 = η 0 19 := by rw [eη3]; exact (zup_ne (fun _ e => absurd e (by decide))).trans v28
            have f0_19 : η3 0 19 = η 0 19 := v29
            have v30 : η2 0 44 = η1 0 44 := (k3.1.2.2.2.1 0 44 (by decide +kernel)).trans rfl
            have v31 : η3 0 44 = η1 0 44 := by rw [eη3]; exact (zup_ne (fun _ e => absurd e (by decide))).trans v30
            have f0_44 : η3 0 44 = η1 0 44 := v31
            have v32 : η2 0 7 = η 0 7 := (k3.1.2.2.2.1 0 7 (by decide +kernel)).trans v15
            have v33 : η3 0 7 = η 0 7 := by rw [eη3]; exact (zup_ne (fun _ e => absurd e (by decide))).trans v32
            have f0_7 : η3 0 7 = η 0 7 := v33
            have v34 : η2 0 6 = η 0 6 := (k3.1.2.2.2.1 0 6 (by decide +kernel)).trans v16
            have v35 : η3 0 6 = η 0 6 := by rw [eη3]; exact (zup_ne (fun _ e => absurd e (by decide))).trans v34
            have f0_6 : η3 0 6 = η 0 6 := v35
            have v36 : η2 0 8 = η 0 8 := (k3.1.2.2.2.1 0 8 (by decide +kernel)).trans v17
            have v37 : η3 0 8 = η 0 8 := by rw [eη3]; exact (zup_ne (fun _ e => absurd e (by decide))).trans v36
            have f0_8 : η3 0 8 = η 0 8 := v37
            have wb1 : wB wl_l zTr η1 := k2.1.1
            have wb2 : wB wl_l zTr η2 := k3.1.1
            have wb3 : wB wl_l zTr η3 := by rw [eη3]; exact wk_ok (a := 45) (b := 45) (z := ((-2147483648), 2147483647)) zTr_k (GR := []) wb2 (by decide +kernel) (by decide) (by decide) (show ((-2147483648) : Int) ≤ 1 by omega) (show 1 ≤ (2147483647 : Int) by omega)
            have wbE : wB wl_l zTr η3 := wb3
            have I0 : H_l 0 0 0 η := hig.1
            have I1 : H_l 1 0 0 η1 := k2.2.1 c1
            have I2 : H_l 0 0 (-1) η2 := k3.2
            have I3 : H_l 0 0 0 η3 := by rw [eη3]; exact h_eq (wn_up I2) rfl rfl (by omega)
            exact I3
          · show ∀ (x2 : Int) (η1 : zE), ((gC2 wl_l [(nat_lit 0, zPl_isSign, zOl_isSign, zMl_isSign), (nat_lit 1, zPl_wrong, zOl_wrong, zMl_wrong), (nat_lit 2, zPl_token, zOl_token, zMl_token), (nat_lit 3, zPl_isKey, zOl_isKey, zMl_isKey), (nat_lit 4, zPl_isCounted, zOl_isCounted, zMl_isCounted), (nat_lit 5, zPl_waitsFor, zOl_waitsFor, zMl_waitsFor), (nat_lit 6, zPl_rank, zOl_rank, zMl_rank), (nat_lit 7, zPl_bind, zOl_bind, zMl_bind)] pCl_signs qCl_signs) 4).2 [] η x2 η1 → (¬ x2 = 0) → ∀ (x3 : Int) (η2 : zE), ((gC2 wl_l [(nat_lit 0, zPl_isSign, zOl_isSign, zMl_isSign), (nat_lit 1, zPl_wrong, zOl_wrong, zMl_wrong), (nat_lit 2, zPl_token, zOl_token, zMl_token), (nat_lit 3, zPl_isKey, zOl_isKey, zMl_isKey), (nat_lit 4, zPl_isCounted, zOl_isCounted, zMl_isCounted), (nat_lit 5, zPl_waitsFor, zOl_waitsFor, zMl_waitsFor), (nat_lit 6, zPl_rank, zOl_rank, zMl_rank), (nat_lit 7, zPl_bind, zOl_bind, zMl_bind)] pCl_signs qCl_signs) 5).2 [x1] η1 x3 η2 → ∀ η3 : zE, η3 = zup η2 0 (Int.toNat 45) 1 → ∀ (x4 : Int) (η4 : zE), ((gC2 wl_l [(nat_lit 0, zPl_isSign, zOl_isSign, zMl_isSign), (nat_lit 1, zPl_wrong, zOl_wrong, zMl_wrong), (nat_lit 2, zPl_token, zOl_token, zMl_token), (nat_lit 3, zPl_isKey, zOl_isKey, zMl_isKey), (nat_lit 4, zPl_isCounted, zOl_isCounted, zMl_isCounted), (nat_lit 5, zPl_waitsFor, zOl_waitsFor, zMl_waitsFor), (nat_lit 6, zPl_rank, zOl_rank, zMl_rank), (nat_lit 7, zPl_bind, zOl_bind, zMl_bind)] pCl_signs qCl_signs) 6).2 [x1] η3 x4 η4 → (3 ≤ x4) → ∀ η5 : zE, η5 = zup η4 0 (Int.toNat 46) 0 → ((gC2 wl_l [(nat_lit 0, zPl_isSign, zOl_isSign, zMl_isSign), (nat_lit 1, zPl_wrong, zOl_wrong, zMl_wrong), (nat_lit 2, zPl_token, zOl_token, zMl_token), (nat_lit 3, zPl_isKey, zOl_isKey, zMl_isKey), (nat_lit 4, zPl_isCounted, zOl_isCounted, zMl_isCounted), (nat_lit 5, zPl_waitsFor, zOl_waitsFor, zMl_waitsFor), (nat_lit 6, zPl_rank, zOl_rank, zMl_rank), (nat_lit 7, zPl_bind, zOl_bind, zMl_bind)] pCl_signs qCl_signs) 2).1 [] η5
            have hw : η 0 45 = 0 := hig.2.1
            have hr1 : 1 ≤ η 0 19 := hig.2.2.1
            have hs1 : η 0 7 = η0 0 7 := hig.2.2.2.1
            have hs2 : η 0 6 = η0 0 6 := hig.2.2.2.2.1
            have hs3 : η 0 8 = η0 0 8 := hig.2.2.2.2.2.1
            have hk : x1 = 0 ∨ (3 ≤ x1 ∧ ¬ η 0 8 = 0) := hig.2.2.2.2.2.2
            have kk : η 0 8 = 5 → 0 ≤ η 0 9 ∧ η 0 9 ≤ 5 := hig.1.1.1.2.1.2
            have bd43 : (0 : Int) ≤ η 0 43 ∧ η 0 43 ≤ 8 := wf_ok (a := 43) (b := 43) (z := (0, 8)) hI.1.1 (by decide +kernel) (Nat.le_refl _) (Nat.le_refl _)
            have bd44 : (0 : Int) ≤ η 0 44 ∧ η 0 44 ≤ 64 := wf_ok (a := 44) (b := 44) (z := (0, 64)) hI.1.1 (by decide +kernel) (Nat.le_refl _) (Nat.le_refl _)
            have bd19 : (0 : Int) ≤ η 0 19 ∧ η 0 19 ≤ 64 := wf_ok (a := 19) (b := 19) (z := (0, 64)) hI.1.1 (by decide +kernel) (Nat.le_refl _) (Nat.le_refl _)
            obtain ⟨u1, u2, u3, u4⟩ := hig.1.2
            have cn := cz_n (η := η) (η 0 41).toNat
            intro x2 η1 h2 c1 x3 η2 h3 η3 eη3 x4 η4 h4 c2 η5 eη5
            have k2 : sQ wl_l zTr zOl_isCounted zMl_isCounted [] η x2 η1 ∧ pQl_isCounted [] η x2 η1 := h2
            have k3 : sQ wl_l zTr zOl_waitsFor zMl_waitsFor [x1] η1 x3 η2 ∧ pQl_waitsFor [x1] η1 x3 η2 := h3
            have k4 : sQ wl_l zTr zOl_rank zMl_rank [x1] η3 x4 η4 ∧ pQl_rank [x1] η3 x4 η4 := h4
            have bx1 : (3 : Int) ≤ x1 ∧ x1 ≤ 14 := hI.1.2.1.1
            have c0_0_41 : η 0 41 = η 0 41 := rfl
            have w0_0_43 : (0 : Int) ≤ η 0 43 ∧ η 0 43 ≤ 8 := wf_ok (a := 43) (b := 43) (z := (0, 8)) hI.1.1 (by decide +kernel) (Nat.le_refl _) (Nat.le_refl _)
            have c0_0_43 : η 0 43 = η 0 43 := rfl
            have c0_0_42 : η 0 42 = η 0 42 := rfl
            have c0_0_45 : η 0 45 = η 0 45 := rfl
            have w0_0_19 : (0 : Int) ≤ η 0 19 ∧ η 0 19 ≤ 64 := wf_ok (a := 19) (b := 19) (z := (0, 64)) hI.1.1 (by decide +kernel) (Nat.le_refl _) (Nat.le_refl _)
            have c0_0_19 : η 0 19 = η 0 19 := rfl
            have w0_0_44 : (0 : Int) ≤ η 0 44 ∧ η 0 44 ≤ 64 := wf_ok (a := 44) (b := 44) (z := (0, 64)) hI.1.1 (by decide +kernel) (Nat.le_refl _) (Nat.le_refl _)
            have c0_0_44 : η 0 44 = η 0 44 := rfl
            have w0_0_7 : (0 : Int) ≤ η 0 7 ∧ η 0 7 ≤ 700 := wf_ok (a := 7) (b := 7) (z := (0, 700)) hI.1.1 (by decide +kernel) (Nat.le_refl _) (Nat.le_refl _)
            have c0_0_7 : η 0 7 = η 0 7 := rfl
            have w0_0_6 : (0 : Int) ≤ η 0 6 ∧ η 0 6 ≤ 700 := wf_ok (a := 6) (b := 6) (z := (0, 700)) hI.1.1 (by decide +kernel) (Nat.le_refl _) (Nat.le_refl _)
            have c0_0_6 : η 0 6 = η 0 6 := rfl
            have w0_0_8 : (0 : Int) ≤ η 0 8 ∧ η 0 8 ≤ 6 := wf_ok (a := 8) (b := 8) (z := (0, 6)) hI.1.1 (by decide +kernel) (Nat.le_refl _) (Nat.le_refl _)
            have c0_0_8 : η 0 8 = η 0 8 := rfl
            have bx2 : (0 : Int) ≤ x2 ∧ x2 ≤ 1 := k2.1.2.1
            have v9 : η1 0 41 = η 0 41 := (k2.1.2.2.2.1 0 41 (by decide +kernel)).trans rfl
            have c1_0_41 : η1 0 41 = η 0 41 := v9
            have v10 : η1 0 43 = η 0 43 := (k2.1.2.2.2.1 0 43 (by decide +kernel)).trans rfl
            have c1_0_43 : η1 0 43 = η 0 43 := v10
            have v11 : η1 0 42 = η 0 42 := (k2.1.2.2.2.1 0 42 (by decide +kernel)).trans rfl
            have c1_0_42 : η1 0 42 = η 0 42 := v11
            have v12 : η1 0 45 = η 0 45 := (k2.1.2.2.2.1 0 45 (by decide +kernel)).trans rfl
            have c1_0_45 : η1 0 45 = η 0 45 := v12
            have v13 : η1 0 19 = η 0 19 := (k2.1.2.2.2.1 0 19 (by decide +kernel)).trans rfl
            have c1_0_19 : η1 0 19 = η 0 19 := v13
            have w1_0_44 : (0 : Int) ≤ η1 0 44 ∧ η1 0 44 ≤ 64 := wf_ok (a := 44) (b := 44) (z := (0, 64)) k2.1.1 (by decide +kernel) (Nat.le_refl _) (Nat.le_refl _)
            have c1_0_44 : η1 0 44 = η1 0 44 := rfl
            have v15 : η1 0 7 = η 0 7 := (k2.1.2.2.2.1 0 7 (by decide +kernel)).trans rfl
            have c1_0_7 : η1 0 7 = η 0 7 := v15
            have v16 : η1 0 6 = η 0 6 := (k2.1.2.2.2.1 0 6 (by decide +kernel)).trans rfl
            have c1_0_6 : η1 0 6 = η 0 6 := v16
            have v17 : η1 0 8 = η 0 8 := (k2.1.2.2.2.1 0 8 (by decide +kernel)).trans rfl
            have c1_0_8 : η1 0 8 = η 0 8 := v17
            have bx3 : (0 : Int) ≤ x3 ∧ x3 ≤ 0 := k3.1.2.1
            have v19 : η3 0 41 = η2 0 41 := by rw [eη3]; exact (zup_ne (fun _ e => absurd e (by decide))).trans rfl
            have c3_0_41 : η3 0 41 = η2 0 41 := v19
            have v20 : η2 0 43 = η 0 43 := (k3.1.2.2.2.1 0 43 (by decide +kernel)).trans v10
            have v21 : η3 0 43 = η 0 43 := by rw [eη3]; exact (zup_ne (fun _ e => absurd e (by decide))).trans v20
            have c3_0_43 : η3 0 43 = η 0 43 := v21
            have v22 : η2 0 42 = η 0 42 := (k3.1.2.2.2.1 0 42 (by decide +kernel)).trans v11
            have v23 : η3 0 42 = η 0 42 := by rw [eη3]; exact (zup_ne (fun _ e => absurd e (by decide))).trans v22
            have c3_0_42 : η3 0 42 = η 0 42 := v23
            have v24 : η3 0 45 = 1 := by rw [eη3]; exact zup_eq
            have c3_0_45 : η3 0 45 = 1 := v24
            have v25 : η2 0 19 = η 0 19 := (k3.1.2.2.2.1 0 19 (by decide +kernel)).trans v13
            have v26 : η3 0 19 = η 0 19 := by rw [eη3]; exact (zup_ne (fun _ e => absurd e (by decide))).trans v25
            have c3_0_19 : η3 0 19 = η 0 19 := v26
            have v27 : η2 0 44 = η1 0 44 := (k3.1.2.2.2.1 0 44 (by decide +kernel)).trans rfl
            have v28 : η3 0 44 = η1 0 44 := by rw [eη3]; exact (zup_ne (fun _ e => absurd e (by decide))).trans v27
            have c3_0_44 : η3 0 44 = η1 0 44 := v28
            have v29 : η2 0 7 = η 0 7 := (k3.1.2.2.2.1 0 7 (by decide +kernel)).trans v15
            have v30 : η3 0 7 = η 0 7 := by rw [eη3]; exact (zup_ne (fun _ e => absurd e (by decide))).trans v29
            have c3_0_7 : η3 0 7 = η 0 7 := v30
            have v31 : η2 0 6 = η 0 6 := (k3.1.2.2.2.1 0 6 (by decide +kernel)).trans v16
            have v32 : η3 0 6 = η 0 6 := by rw [eη3]; exact (zup_ne (fun _ e => absurd e (by decide))).trans v31
            have c3_0_6 : η3 0 6 = η 0 6 := v32
            have v33 : η2 0 8 = η 0 8 := (k3.1.2.2.2.1 0 8 (by decide +kernel)).trans v17
            have v34 : η3 0 8 = η 0 8 := by rw [eη3]; exact (zup_ne (fun _ e => absurd e (by decide))).trans v33
            have c3_0_8 : η3 0 8 = η 0 8 := v34
            have bx4 : (0 : Int) ≤ x4 ∧ x4 ≤ 6 := k4.1.2.1
            have fm1 : zFm zMl_signs η0 η1 := zFm_tr2 hI.2 k2.1.2.2.2.1 (by decide +kernel)
            have fm2 : zFm zMl_signs η0 η2 := zFm_tr2 fm1 k3.1.2.2.2.1 (by decide +kernel)
            have fm3 : zFm zMl_signs η0 η3 := by rw [eη3]; exact zFm_up fm2 rfl
            have fm4 : zFm zMl_signs η0 η4 := zFm_tr2 fm3 k4.1.2.2.2.1 (by decide +kernel)
            have fm5 : zFm zMl_signs η0 η5 := by rw [eη5]; exact zFm_up fm4 rfl
            have fmE : zFm zMl_signs η0 η5 := fm5
            have fr22_0 : ∀ j, η 22 j = η 22 j := fun _ => rfl
            have v35 : ∀ j, η1 22 j = η 22 j := fun j => k2.1.2.2.2.1 22 _ (zinr_not (by decide +kernel))
            have fr22_1 : ∀ j, η1 22 j = η 22 j := v35
            have fr22_2 : ∀ j, η2 22 j = η2 22 j := fun _ => rfl
            have v37 : ∀ j, η3 22 j = η2 22 j := fun j => by rw [eη3]; exact zup_ne (fun e _ => absurd e (by decide))
            have fr22_3 : ∀ j, η3 22 j = η2 22 j := v37
            have v38 : ∀ j, η4 22 j = η2 22 j := fun j => (k4.1.2.2.2.1 22 _ (zinr_not (by decide +kernel))).trans (v37 j)
            have fr22_4 : ∀ j, η4 22 j = η2 22 j := v38
            have v39 : ∀ j, η5 22 j = η2 22 j := fun j => by rw [eη5]; exact (zup_ne (fun e _ => absurd e (by decide))).trans (v38 j)
            have fr22_5 : ∀ j, η5 22 j = η2 22 j := v39
            have fr22 : ∀ j, η5 22 j = η2 22 j := v39
            have v40 : η4 0 41 = η2 0 41 := (k4.1.2.2.2.1 0 41 (by decide +kernel)).trans v19
            have v41 : η5 0 41 = η2 0 41 := by rw [eη5]; exact (zup_ne (fun _ e => absurd e (by decide))).trans v40
            have f0_41 : η5 0 41 = η2 0 41 := v41
            have v42 : η4 0 43 = η 0 43 := (k4.1.2.2.2.1 0 43 (by decide +kernel)).trans v21
            have v43 : η5 0 43 = η 0 43 := by rw [eη5]; exact (zup_ne (fun _ e => absurd e (by decide))).trans v42
            have f0_43 : η5 0 43 = η 0 43 := v43
            have v44 : η4 0 42 = η 0 42 := (k4.1.2.2.2.1 0 42 (by decide +kernel)).trans v23
            have v45 : η5 0 42 = η 0 42 := by rw [eη5]; exact (zup_ne (fun _ e => absurd e (by decide))).trans v44
            have f0_42 : η5 0 42 = η 0 42 := v45
            have v46 : η4 0 45 = 1 := (k4.1.2.2.2.1 0 45 (by decide +kernel)).trans v24
            have v47 : η5 0 45 = 1 := by rw [eη5]; exact (zup_ne (fun _ e => absurd e (by decide))).trans v46
            have f0_45 : η5 0 45 = 1 := v47
            have v48 : η4 0 19 = η 0 19 := (k4.1.2.2.2.1 0 19 (by decide +kernel)).trans v26
            have v49 : η5 0 19 = η 0 19 := by rw [eη5]; exact (zup_ne (fun _ e => absurd e (by decide))).trans v48
            have f0_19 : η5 0 19 = η 0 19 := v49
            have v50 : η4 0 44 = η1 0 44 := (k4.1.2.2.2.1 0 44 (by decide +kernel)).trans v28
            have v51 : η5 0 44 = η1 0 44 := by rw [eη5]; exact (zup_ne (fun _ e => absurd e (by decide))).trans v50
            have f0_44 : η5 0 44 = η1 0 44 := v51
            have v52 : η4 0 7 = η 0 7 := (k4.1.2.2.2.1 0 7 (by decide +kernel)).trans v30
            have v53 : η5 0 7 = η 0 7 := by rw [eη5]; exact (zup_ne (fun _ e => absurd e (by decide))).trans v52
            have f0_7 : η5 0 7 = η 0 7 := v53
            have v54 : η4 0 6 = η 0 6 := (k4.1.2.2.2.1 0 6 (by decide +kernel)).trans v32
            have v55 : η5 0 6 = η 0 6 := by rw [eη5]; exact (zup_ne (fun _ e => absurd e (by decide))).trans v54
            have f0_6 : η5 0 6 = η 0 6 := v55
            have v56 : η4 0 8 = η 0 8 := (k4.1.2.2.2.1 0 8 (by decide +kernel)).trans v34
            have v57 : η5 0 8 = η 0 8 := by rw [eη5]; exact (zup_ne (fun _ e => absurd e (by decide))).trans v56
            have f0_8 : η5 0 8 = η 0 8 := v57
            have wb1 : wB wl_l zTr η1 := k2.1.1
            have wb2 : wB wl_l zTr η2 := k3.1.1
            have wb3 : wB wl_l zTr η3 := by rw [eη3]; exact wk_ok (a := 45) (b := 45) (z := ((-2147483648), 2147483647)) zTr_k (GR := []) wb2 (by decide +kernel) (by decide) (by decide) (show ((-2147483648) : Int) ≤ 1 by omega) (show 1 ≤ (2147483647 : Int) by omega)
            have wb4 : wB wl_l zTr η4 := k4.1.1
            have wb5 : wB wl_l zTr η5 := by rw [eη5]; exact wk_ok (a := 46) (b := 46) (z := ((-2147483648), 2147483647)) zTr_k (GR := []) wb4 (by decide +kernel) (by decide) (by decide) (show ((-2147483648) : Int) ≤ 0 by omega) (show 0 ≤ (2147483647 : Int) by omega)
            have wbE : wB wl_l zTr η5 := wb5
            have I0 : H_l 0 0 0 η := hig.1
            have I1 : H_l 1 0 0 η1 := k2.2.1 c1
            have I2 : H_l 0 0 (-1) η2 := k3.2
            have I3 : H_l 0 0 0 η3 := by rw [eη3]; exact h_eq (wn_up I2) rfl rfl (by omega)
            have I4 : H_l 0 0 0 η4 := k4.2.1
            have qr4 : (1 ≤ x4 → 2 ≤ x1) ∧ (2 ≤ x1 → 1 ≤ x4) := k4.2.2
            have I5 : H_l 0 0 0 η5 := by rw [eη5]; exact zGk_upc hk_l I4 (by decide +kernel)
            exact I5
          · show ∀ (x2 : Int) (η1 : zE), ((gC2 wl_l [(nat_lit 0, zPl_isSign, zOl_isSign, zMl_isSign), (nat_lit 1, zPl_wrong, zOl_wrong, zMl_wrong), (nat_lit 2, zPl_token, zOl_token, zMl_token), (nat_lit 3, zPl_isKey, zOl_isKey, zMl_isKey), (nat_lit 4, zPl_isCounted, zOl_isCounted, zMl_isCounted), (nat_lit 5, zPl_waitsFor, zOl_waitsFor, zMl_waitsFor), (nat_lit 6, zPl_rank, zOl_rank, zMl_rank), (nat_lit 7, zPl_bind, zOl_bind, zMl_bind)] pCl_signs qCl_signs) 4).2 [] η x2 η1 → (¬ x2 = 0) → ∀ (x3 : Int) (η2 : zE), ((gC2 wl_l [(nat_lit 0, zPl_isSign, zOl_isSign, zMl_isSign), (nat_lit 1, zPl_wrong, zOl_wrong, zMl_wrong), (nat_lit 2, zPl_token, zOl_token, zMl_token), (nat_lit 3, zPl_isKey, zOl_isKey, zMl_isKey), (nat_lit 4, zPl_isCounted, zOl_isCounted, zMl_isCounted), (nat_lit 5, zPl_waitsFor, zOl_waitsFor, zMl_waitsFor), (nat_lit 6, zPl_rank, zOl_rank, zMl_rank), (nat_lit 7, zPl_bind, zOl_bind, zMl_bind)] pCl_signs qCl_signs) 5).2 [x1] η1 x3 η2 → ∀ η3 : zE, η3 = zup η2 0 (Int.toNat 45) 1 → ∀ (x4 : Int) (η4 : zE), ((gC2 wl_l [(nat_lit 0, zPl_isSign, zOl_isSign, zMl_isSign), (nat_lit 1, zPl_wrong, zOl_wrong, zMl_wrong), (nat_lit 2, zPl_token, zOl_token, zMl_token), (nat_lit 3, zPl_isKey, zOl_isKey, zMl_isKey), (nat_lit 4, zPl_isCounted, zOl_isCounted, zMl_isCounted), (nat_lit 5, zPl_waitsFor, zOl_waitsFor, zMl_waitsFor), (nat_lit 6, zPl_rank, zOl_rank, zMl_rank), (nat_lit 7, zPl_bind, zOl_bind, zMl_bind)] pCl_signs qCl_signs) 6).2 [x1] η3 x4 η4 → (3 ≤ x4) → ∀ η5 : zE, η5 = zup η4 0 (Int.toNat 46) 0 → ∀ (x5 : Int) (η6 : zE), ((gC2 wl_l [(nat_lit 0, zPl_isSign, zOl_isSign, zMl_isSign), (nat_lit 1, zPl_wrong, zOl_wrong, zMl_wrong), (nat_lit 2, zPl_token, zOl_token, zMl_token), (nat_lit 3, zPl_isKey, zOl_isKey, zMl_isKey), (nat_lit 4, zPl_isCounted, zOl_isCounted, zMl_isCounted), (nat_lit 5, zPl_waitsFor, zOl_waitsFor, zMl_waitsFor), (nat_lit 6, zPl_rank, zOl_rank, zMl_rank), (nat_lit 7, zPl_bind, zOl_bind, zMl_bind)] pCl_signs qCl_signs) 2).2 [] η5 x5 η6 → (fun (_ : Nat) (y : Int) (η' : zE) => pQl_signs xs η0 y η') 0 1 η6
            have hw : η 0 45 = 0 := hig.2.1
            have hr1 : 1 ≤ η 0 19 := hig.2.2.1
            have hs1 : η 0 7 = η0 0 7 := hig.2.2.2.1
            have hs2 : η 0 6 = η0 0 6 := hig.2.2.2.2.1
            have hs3 : η 0 8 = η0 0 8 := hig.2.2.2.2.2.1
            have hk : x1 = 0 ∨ (3 ≤ x1 ∧ ¬ η 0 8 = 0) := hig.2.2.2.2.2.2
            have kk : η 0 8 = 5 → 0 ≤ η 0 9 ∧ η 0 9 ≤ 5 := hig.1.1.1.2.1.2
            have bd43 : (0 : Int) ≤ η 0 43 ∧ η 0 43 ≤ 8 := wf_ok (a := 43) (b := 43) (z := (0, 8)) hI.1.1 (by decide +kernel) (Nat.le_refl _) (Nat.le_refl _)
            have bd44 : (0 : Int) ≤ η 0 44 ∧ η 0 44 ≤ 64 := wf_ok (a := 44) (b := 44) (z := (0, 64)) hI.1.1 (by decide +kernel) (Nat.le_refl _) (Nat.le_refl _)
            have bd19 : (0 : Int) ≤ η 0 19 ∧ η 0 19 ≤ 64 := wf_ok (a := 19) (b := 19) (z := (0, 64)) hI.1.1 (by decide +kernel) (Nat.le_refl _) (Nat.le_refl _)
            obtain ⟨u1, u2, u3, u4⟩ := hig.1.2
            have cn := cz_n (η := η) (η 0 41).toNat
            intro x2 η1 h2 c1 x3 η2 h3 η3 eη3 x4 η4 h4 c2 η5 eη5 x5 η6 h5
            have k2 : sQ wl_l zTr zOl_isCounted zMl_isCounted [] η x2 η1 ∧ pQl_isCounted [] η x2 η1 := h2
            have k3 : sQ wl_l zTr zOl_waitsFor zMl_waitsFor [x1] η1 x3 η2 ∧ pQl_waitsFor [x1] η1 x3 η2 := h3
            have k4 : sQ wl_l zTr zOl_rank zMl_rank [x1] η3 x4 η4 ∧ pQl_rank [x1] η3 x4 η4 := h4
            have k5 : sQ wl_l zTr zOl_token zMl_token [] η5 x5 η6 ∧ pQl_token [] η5 x5 η6 := h5
            have bx1 : (3 : Int) ≤ x1 ∧ x1 ≤ 14 := hI.1.2.1.1
            have c0_0_41 : η 0 41 = η 0 41 := rfl
            have w0_0_43 : (0 : Int) ≤ η 0 43 ∧ η 0 43 ≤ 8 := wf_ok (a := 43) (b := 43) (z := (0, 8)) hI.1.1 (by decide +kernel) (Nat.le_refl _) (Nat.le_refl _)
            have c0_0_43 : η 0 43 = η 0 43 := rfl
            have c0_0_42 : η 0 42 = η 0 42 := rfl
            have c0_0_45 : η 0 45 = η 0 45 := rfl
            have w0_0_19 : (0 : Int) ≤ η 0 19 ∧ η 0 19 ≤ 64 := wf_ok (a := 19) (b := 19) (z := (0, 64)) hI.1.1 (by decide +kernel) (Nat.le_refl _) (Nat.le_refl _)
            have c0_0_19 : η 0 19 = η 0 19 := rfl
            have w0_0_44 : (0 : Int) ≤ η 0 44 ∧ η 0 44 ≤ 64 := wf_ok (a := 44) (b := 44) (z := (0, 64)) hI.1.1 (by decide +kernel) (Nat.le_refl _) (Nat.le_refl _)
            have c0_0_44 : η 0 44 = η 0 44 := rfl
            have w0_0_7 : (0 : Int) ≤ η 0 7 ∧ η 0 7 ≤ 700 := wf_ok (a := 7) (b := 7) (z := (0, 700)) hI.1.1 (by decide +kernel) (Nat.le_refl _) (Nat.le_refl _)
            have c0_0_7 : η 0 7 = η 0 7 := rfl
            have w0_0_6 : (0 : Int) ≤ η 0 6 ∧ η 0 6 ≤ 700 := wf_ok (a := 6) (b := 6) (z := (0, 700)) hI.1.1 (by decide +kernel) (Nat.le_refl _) (Nat.le_refl _)
            have c0_0_6 : η 0 6 = η 0 6 := rfl
            have w0_0_8 : (0 : Int) ≤ η 0 8 ∧ η 0 8 ≤ 6 := wf_ok (a := 8) (b := 8) (z := (0, 6)) hI.1.1 (by decide +kernel) (Nat.le_refl _) (Nat.le_refl _)
            have c0_0_8 : η 0 8 = η 0 8 := rfl
            have bx2 : (0 : Int) ≤ x2 ∧ x2 ≤ 1 := k2.1.2.1
            have v9 : η1 0 41 = η 0 41 := (k2.1.2.2.2.1 0 41 (by decide +kernel)).trans rfl
            have c1_0_41 : η1 0 41 = η 0 41 := v9
            have v10 : η1 0 43 = η 0 43 := (k2.1.2.2.2.1 0 43 (by decide +kernel)).trans rfl
            have c1_0_43 : η1 0 43 = η 0 43 := v10
            have v11 : η1 0 42 = η 0 42 := (k2.1.2.2.2.1 0 42 (by decide +kernel)).trans rfl
            have c1_0_42 : η1 0 42 = η 0 42 := v11
            have v12 : η1 0 45 = η 0 45 := (k2.1.2.2.2.1 0 45 (by decide +kernel)).trans rfl
            have c1_0_45 : η1 0 45 = η 0 45 := v12
            have v13 : η1 0 19 = η 0 19 := (k2.1.2.2.2.1 0 19 (by decide +kernel)).trans rfl
            have c1_0_19 : η1 0 19 = η 0 19 := v13
            have w1_0_44 : (0 : Int) ≤ η1 0 44 ∧ η1 0 44 ≤ 64 := wf_ok (a := 44) (b := 44) (z := (0, 64)) k2.1.1 (by decide +kernel) (Nat.le_refl _) (Nat.le_refl _)
            have c1_0_44 : η1 0 44 = η1 0 44 := rfl
            have v15 : η1 0 7 = η 0 7 := (k2.1.2.2.2.1 0 7 (by decide +kernel)).trans rfl
            have c1_0_7 : η1 0 7 = η 0 7 := v15
            have v16 : η1 0 6 = η 0 6 := (k2.1.2.2.2.1 0 6 (by decide +kernel)).trans rfl
            have c1_0_6 : η1 0 6 = η 0 6 := v16
            have v17 : η1 0 8 = η 0 8 := (k2.1.2.2.2.1 0 8 (by decide +kernel)).trans rfl
            have c1_0_8 : η1 0 8 = η 0 8 := v17
            have bx3 : (0 : Int) ≤ x3 ∧ x3 ≤ 0 := k3.1.2.1
            have v19 : η3 0 41 = η2 0 41 := by rw [eη3]; exact (zup_ne (fun _ e => absurd e (by decide))).trans rfl
            have c3_0_41 : η3 0 41 = η2 0 41 := v19
            have v20 : η2 0 43 = η 0 43 := (k3.1.2.2.2.1 0 43 (by decide +kernel)).trans v10
            have v21 : η3 0 43 = η 0 43 := by rw [eη3]; exact (zup_ne (fun _ e => absurd e (by decide))).trans v20
            have c3_0_43 : η3 0 43 = η 0 43 := v21
            have v22 : η2 0 42 = η 0 42 := (k3.1.2.2.2.1 0 42 (by decide +kernel)).trans v11
            have v23 : η3 0 42 = η 0 42 := by rw [eη3]; exact (zup_ne (fun _ e => absurd e (by decide))).trans v22
            have c3_0_42 : η3 0 42 = η 0 42 := v23
            have v24 : η3 0 45 = 1 := by rw [eη3]; exact zup_eq
            have c3_0_45 : η3 0 45 = 1 := v24
            have v25 : η2 0 19 = η 0 19 := (k3.1.2.2.2.1 0 19 (by decide +kernel)).trans v13
            have v26 : η3 0 19 = η 0 19 := by rw [eη3]; exact (zup_ne (fun _ e => absurd e (by decide))).trans v25
            have c3_0_19 : η3 0 19 = η 0 19 := v26
            have v27 : η2 0 44 = η1 0 44 := (k3.1.2.2.2.1 0 44 (by decide +kernel)).trans rfl
            have v28 : η3 0 44 = η1 0 44 := by rw [eη3]; exact (zup_ne (fun _ e => absurd e (by decide))).trans v27
            have c3_0_44 : η3 0 44 = η1 0 44 := v28
            have v29 : η2 0 7 = η 0 7 := (k3.1.2.2.2.1 0 7 (by decide +kernel)).trans v15
            have v30 : η3 0 7 = η 0 7 := by rw [eη3]; exact (zup_ne (fun _ e => absurd e (by decide))).trans v29
            have c3_0_7 : η3 0 7 = η 0 7 := v30
            have v31 : η2 0 6 = η 0 6 := (k3.1.2.2.2.1 0 6 (by decide +kernel)).trans v16
            have v32 : η3 0 6 = η 0 6 := by rw [eη3]; exact (zup_ne (fun _ e => absurd e (by decide))).trans v31
            have c3_0_6 : η3 0 6 = η 0 6 := v32
            have v33 : η2 0 8 = η 0 8 := (k3.1.2.2.2.1 0 8 (by decide +kernel)).trans v17
            have v34 : η3 0 8 = η 0 8 := by rw [eη3]; exact (zup_ne (fun _ e => absurd e (by decide))).trans v33
            have c3_0_8 : η3 0 8 = η 0 8 := v34
            have bx4 : (0 : Int) ≤ x4 ∧ x4 ≤ 6 := k4.1.2.1
            have v35 : η4 0 41 = η2 0 41 := (k4.1.2.2.2.1 0 41 (by decide +kernel)).trans v19
            have v36 : η5 0 41 = η2 0 41 := by rw [eη5]; exact (zup_ne (fun _ e => absurd e (by decide))).trans v35
            have c5_0_41 : η5 0 41 = η2 0 41 := v36
            have v37 : η4 0 43 = η 0 43 := (k4.1.2.2.2.1 0 43 (by decide +kernel)).trans v21
            have v38 : η5 0 43 = η 0 43 := by rw [eη5]; exact (zup_ne (fun _ e => absurd e (by decide))).trans v37
            have c5_0_43 : η5 0 43 = η 0 43 := v38
            have v39 : η4 0 42 = η 0 42 := (k4.1.2.2.2.1 0 42 (by decide +kernel)).trans v23
            have v40 : η5 0 42 = η 0 42 := by rw [eη5]; exact (zup_ne (fun _ e => absurd e (by decide))).trans v39
            have c5_0_42 : η5 0 42 = η 0 42 := v40
            have v41 : η4 0 45 = 1 := (k4.1.2.2.2.1 0 45 (by decide +kernel)).trans v24
            have v42 : η5 0 45 = 1 := by rw [eη5]; exact (zup_ne (fun _ e => absurd e (by decide))).trans v41
            have c5_0_45 : η5 0 45 = 1 := v42
            have v43 : η4 0 19 = η 0 19 := (k4.1.2.2.2.1 0 19 (by decide +kernel)).trans v26
            have v44 : η5 0 19 = η 0 19 := by rw [eη5]; exact (zup_ne (fun _ e => absurd e (by decide))).trans v43
            have c5_0_19 : η5 0 19 = η 0 19 := v44
            have v45 : η4 0 44 = η1 0 44 := (k4.1.2.2.2.1 0 44 (by decide +kernel)).trans v28
            have v46 : η5 0 44 = η1 0 44 := by rw [eη5]; exact (zup_ne (fun _ e => absurd e (by decide))).trans v45
            have c5_0_44 : η5 0 44 = η1 0 44 := v46
            have v47 : η4 0 7 = η 0 7 := (k4.1.2.2.2.1 0 7 (by decide +kernel)).trans v30
            have v48 : η5 0 7 = η 0 7 := by rw [eη5]; exact (zup_ne (fun _ e => absurd e (by decide))).trans v47
            have c5_0_7 : η5 0 7 = η 0 7 := v48
            have v49 : η4 0 6 = η 0 6 := (k4.1.2.2.2.1 0 6 (by decide +kernel)).trans v32
            have v50 : η5 0 6 = η 0 6 := by rw [eη5]; exact (zup_ne (fun _ e => absurd e (by decide))).trans v49
            have c5_0_6 : η5 0 6 = η 0 6 := v50
            have v51 : η4 0 8 = η 0 8 := (k4.1.2.2.2.1 0 8 (by decide +kernel)).trans v34
            have v52 : η5 0 8 = η 0 8 := by rw [eη5]; exact (zup_ne (fun _ e => absurd e (by decide))).trans v51
            have c5_0_8 : η5 0 8 = η 0 8 := v52
            have bx5 : (0 : Int) ≤ x5 ∧ x5 ≤ 0 := k5.1.2.1
            have fm1 : zFm zMl_signs η0 η1 := zFm_tr2 hI.2 k2.1.2.2.2.1 (by decide +kernel)
            have fm2 : zFm zMl_signs η0 η2 := zFm_tr2 fm1 k3.1.2.2.2.1 (by decide +kernel)
            have fm3 : zFm zMl_signs η0 η3 := by rw [eη3]; exact zFm_up fm2 rfl
            have fm4 : zFm zMl_signs η0 η4 := zFm_tr2 fm3 k4.1.2.2.2.1 (by decide +kernel)
            have fm5 : zFm zMl_signs η0 η5 := by rw [eη5]; exact zFm_up fm4 rfl
            have fm6 : zFm zMl_signs η0 η6 := zFm_tr2 fm5 k5.1.2.2.2.1 (by decide +kernel)
            have fmE : zFm zMl_signs η0 η6 := fm6
            have fr22_0 : ∀ j, η 22 j = η 22 j := fun _ => rfl
            have v53 : ∀ j, η1 22 j = η 22 j := fun j => k2.1.2.2.2.1 22 _ (zinr_not (by decide +kernel))
            have fr22_1 : ∀ j, η1 22 j = η 22 j := v53
            have fr22_2 : ∀ j, η2 22 j = η2 22 j := fun _ => rfl
            have v55 : ∀ j, η3 22 j = η2 22 j := fun j => by rw [eη3]; exact zup_ne (fun e _ => absurd e (by decide))
            have fr22_3 : ∀ j, η3 22 j = η2 22 j := v55
            have v56 : ∀ j, η4 22 j = η2 22 j := fun j => (k4.1.2.2.2.1 22 _ (zinr_not (by decide +kernel))).trans (v55 j)
            have fr22_4 : ∀ j, η4 22 j = η2 22 j := v56
            have v57 : ∀ j, η5 22 j = η2 22 j := fun j => by rw [eη5]; exact (zup_ne (fun e _ => absurd e (by decide))).trans (v56 j)
            have fr22_5 : ∀ j, η5 22 j = η2 22 j := v57
            have v58 : ∀ j, η6 22 j = η2 22 j := fun j => (k5.1.2.2.2.1 22 _ (zinr_not (by decide +kernel))).trans (v57 j)
            have fr22_6 : ∀ j, η6 22 j = η2 22 j := v58
            have fr22 : ∀ j, η6 22 j = η2 22 j := v58
            have v59 : η6 0 41 = η2 0 41 := (k5.1.2.2.2.1 0 41 (by decide +kernel)).trans v36
            have f0_41 : η6 0 41 = η2 0 41 := v59
            have v60 : η6 0 43 = η 0 43 := (k5.1.2.2.2.1 0 43 (by decide +kernel)).trans v38
            have f0_43 : η6 0 43 = η 0 43 := v60
            have v61 : η6 0 42 = η 0 42 := (k5.1.2.2.2.1 0 42 (by decide +kernel)).trans v40
            have f0_42 : η6 0 42 = η 0 42 := v61
            have v62 : η6 0 45 = 1 := (k5.1.2.2.2.1 0 45 (by decide +kernel)).trans v42
            have f0_45 : η6 0 45 = 1 := v62
            have v63 : η6 0 19 = η 0 19 := (k5.1.2.2.2.1 0 19 (by decide +kernel)).trans v44
            have f0_19 : η6 0 19 = η 0 19 := v63
            have v64 : η6 0 44 = η1 0 44 := (k5.1.2.2.2.1 0 44 (by decide +kernel)).trans v46
            have f0_44 : η6 0 44 = η1 0 44 := v64
            have w6_0_7 : (0 : Int) ≤ η6 0 7 ∧ η6 0 7 ≤ 700 := wf_ok (a := 7) (b := 7) (z := (0, 700)) k5.1.1 (by decide +kernel) (Nat.le_refl _) (Nat.le_refl _)
            have f0_7 : η6 0 7 = η6 0 7 := rfl
            have v66 : η6 0 6 = η 0 6 := (k5.1.2.2.2.1 0 6 (by decide +kernel)).trans v50
            have f0_6 : η6 0 6 = η 0 6 := v66
            have w6_0_8 : (0 : Int) ≤ η6 0 8 ∧ η6 0 8 ≤ 6 := wf_ok (a := 8) (b := 8) (z := (0, 6)) k5.1.1 (by decide +kernel) (Nat.le_refl _) (Nat.le_refl _)
            have f0_8 : η6 0 8 = η6 0 8 := rfl
            have wb1 : wB wl_l zTr η1 := k2.1.1
            have wb2 : wB wl_l zTr η2 := k3.1.1
            have wb3 : wB wl_l zTr η3 := by rw [eη3]; exact wk_ok (a := 45) (b := 45) (z := ((-2147483648), 2147483647)) zTr_k (GR := []) wb2 (by decide +kernel) (by decide) (by decide) (show ((-2147483648) : Int) ≤ 1 by omega) (show 1 ≤ (2147483647 : Int) by omega)
            have wb4 : wB wl_l zTr η4 := k4.1.1
            have wb5 : wB wl_l zTr η5 := by rw [eη5]; exact wk_ok (a := 46) (b := 46) (z := ((-2147483648), 2147483647)) zTr_k (GR := []) wb4 (by decide +kernel) (by decide) (by decide) (show ((-2147483648) : Int) ≤ 0 by omega) (show 0 ≤ (2147483647 : Int) by omega)
            have wb6 : wB wl_l zTr η6 := k5.1.1
            have wbE : wB wl_l zTr η6 := wb6
            have I0 : H_l 0 0 0 η := hig.1
            have I1 : H_l 1 0 0 η1 := k2.2.1 c1
            have I2 : H_l 0 0 (-1) η2 := k3.2
            have I3 : H_l 0 0 0 η3 := by rw [eη3]; exact h_eq (wn_up I2) rfl rfl (by omega)
            have I4 : H_l 0 0 0 η4 := k4.2.1
            have qr4 : (1 ≤ x4 → 2 ≤ x1) ∧ (2 ≤ x1 → 1 ≤ x4) := k4.2.2
            have I5 : H_l 0 0 0 η5 := by rw [eη5]; exact zGk_upc hk_l I4 (by decide +kernel)
            have I6 : H_l 0 0 0 η6 := k5.2.1
            have qt5 : ¬ η5 0 8 = 0 → 10 * (η6 0 6 - η6 0 7) + η6 0 8 < 10 * (η5 0 6 - η5 0 7) + η5 0 8 := k5.2.2
            refine ⟨I6.1, fun _ => ⟨I6, show 10 * (η6 0 6 - η6 0 7) + η6 0 8 < 10 * (η0 0 6 - η0 0 7) + η0 0 8 by omega, fun w => ?_⟩⟩
            have w : η6 0 45 = 0 := w
            omega
          · show ∀ (x2 : Int) (η1 : zE), ((gC2 wl_l [(nat_lit 0, zPl_isSign, zOl_isSign, zMl_isSign), (nat_lit 1, zPl_wrong, zOl_wrong, zMl_wrong), (nat_lit 2, zPl_token, zOl_token, zMl_token), (nat_lit 3, zPl_isKey, zOl_isKey, zMl_isKey), (nat_lit 4, zPl_isCounted, zOl_isCounted, zMl_isCounted), (nat_lit 5, zPl_waitsFor, zOl_waitsFor, zMl_waitsFor), (nat_lit 6, zPl_rank, zOl_rank, zMl_rank), (nat_lit 7, zPl_bind, zOl_bind, zMl_bind)] pCl_signs qCl_signs) 4).2 [] η x2 η1 → (¬ x2 = 0) → ∀ (x3 : Int) (η2 : zE), ((gC2 wl_l [(nat_lit 0, zPl_isSign, zOl_isSign, zMl_isSign), (nat_lit 1, zPl_wrong, zOl_wrong, zMl_wrong), (nat_lit 2, zPl_token, zOl_token, zMl_token), (nat_lit 3, zPl_isKey, zOl_isKey, zMl_isKey), (nat_lit 4, zPl_isCounted, zOl_isCounted, zMl_isCounted), (nat_lit 5, zPl_waitsFor, zOl_waitsFor, zMl_waitsFor), (nat_lit 6, zPl_rank, zOl_rank, zMl_rank), (nat_lit 7, zPl_bind, zOl_bind, zMl_bind)] pCl_signs qCl_signs) 5).2 [x1] η1 x3 η2 → ∀ η3 : zE, η3 = zup η2 0 (Int.toNat 45) 1 → ∀ (x4 : Int) (η4 : zE), ((gC2 wl_l [(nat_lit 0, zPl_isSign, zOl_isSign, zMl_isSign), (nat_lit 1, zPl_wrong, zOl_wrong, zMl_wrong), (nat_lit 2, zPl_token, zOl_token, zMl_token), (nat_lit 3, zPl_isKey, zOl_isKey, zMl_isKey), (nat_lit 4, zPl_isCounted, zOl_isCounted, zMl_isCounted), (nat_lit 5, zPl_waitsFor, zOl_waitsFor, zMl_waitsFor), (nat_lit 6, zPl_rank, zOl_rank, zMl_rank), (nat_lit 7, zPl_bind, zOl_bind, zMl_bind)] pCl_signs qCl_signs) 6).2 [x1] η3 x4 η4 → (x4 < 3) → ∀ η5 : zE, η5 = zup η4 0 (Int.toNat 46) 1 → ((gC2 wl_l [(nat_lit 0, zPl_isSign, zOl_isSign, zMl_isSign), (nat_lit 1, zPl_wrong, zOl_wrong, zMl_wrong), (nat_lit 2, zPl_token, zOl_token, zMl_token), (nat_lit 3, zPl_isKey, zOl_isKey, zMl_isKey), (nat_lit 4, zPl_isCounted, zOl_isCounted, zMl_isCounted), (nat_lit 5, zPl_waitsFor, zOl_waitsFor, zMl_waitsFor), (nat_lit 6, zPl_rank, zOl_rank, zMl_rank), (nat_lit 7, zPl_bind, zOl_bind, zMl_bind)] pCl_signs qCl_signs) 2).1 [] η5
            have hw : η 0 45 = 0 := hig.2.1
            have hr1 : 1 ≤ η 0 19 := hig.2.2.1
            have hs1 : η 0 7 = η0 0 7 := hig.2.2.2.1
            have hs2 : η 0 6 = η0 0 6 := hig.2.2.2.2.1
            have hs3 : η 0 8 = η0 0 8 := hig.2.2.2.2.2.1
            have hk : x1 = 0 ∨ (3 ≤ x1 ∧ ¬ η 0 8 = 0) := hig.2.2.2.2.2.2
            have kk : η 0 8 = 5 → 0 ≤ η 0 9 ∧ η 0 9 ≤ 5 := hig.1.1.1.2.1.2
            have bd43 : (0 : Int) ≤ η 0 43 ∧ η 0 43 ≤ 8 := wf_ok (a := 43) (b := 43) (z := (0, 8)) hI.1.1 (by decide +kernel) (Nat.le_refl _) (Nat.le_refl _)
            have bd44 : (0 : Int) ≤ η 0 44 ∧ η 0 44 ≤ 64 := wf_ok (a := 44) (b := 44) (z := (0, 64)) hI.1.1 (by decide +kernel) (Nat.le_refl _) (Nat.le_refl _)
            have bd19 : (0 : Int) ≤ η 0 19 ∧ η 0 19 ≤ 64 := wf_ok (a := 19) (b := 19) (z := (0, 64)) hI.1.1 (by decide +kernel) (Nat.le_refl _) (Nat.le_refl _)
            obtain ⟨u1, u2, u3, u4⟩ := hig.1.2
            have cn := cz_n (η := η) (η 0 41).toNat
            intro x2 η1 h2 c1 x3 η2 h3 η3 eη3 x4 η4 h4 c2 η5 eη5
            have k2 : sQ wl_l zTr zOl_isCounted zMl_isCounted [] η x2 η1 ∧ pQl_isCounted [] η x2 η1 := h2
            have k3 : sQ wl_l zTr zOl_waitsFor zMl_waitsFor [x1] η1 x3 η2 ∧ pQl_waitsFor [x1] η1 x3 η2 := h3
            have k4 : sQ wl_l zTr zOl_rank zMl_rank [x1] η3 x4 η4 ∧ pQl_rank [x1] η3 x4 η4 := h4
            have bx1 : (3 : Int) ≤ x1 ∧ x1 ≤ 14 := hI.1.2.1.1
            have c0_0_41 : η 0 41 = η 0 41 := rfl
            have w0_0_43 : (0 : Int) ≤ η 0 43 ∧ η 0 43 ≤ 8 := wf_ok (a := 43) (b := 43) (z := (0, 8)) hI.1.1 (by decide +kernel) (Nat.le_refl _) (Nat.le_refl _)
            have c0_0_43 : η 0 43 = η 0 43 := rfl
            have c0_0_42 : η 0 42 = η 0 42 := rfl
            have c0_0_45 : η 0 45 = η 0 45 := rfl
            have w0_0_19 : (0 : Int) ≤ η 0 19 ∧ η 0 19 ≤ 64 := wf_ok (a := 19) (b := 19) (z := (0, 64)) hI.1.1 (by decide +kernel) (Nat.le_refl _) (Nat.le_refl _)
            have c0_0_19 : η 0 19 = η 0 19 := rfl
            have w0_0_44 : (0 : Int) ≤ η 0 44 ∧ η 0 44 ≤ 64 := wf_ok (a := 44) (b := 44) (z := (0, 64)) hI.1.1 (by decide +kernel) (Nat.le_refl _) (Nat.le_refl _)
            have c0_0_44 : η 0 44 = η 0 44 := rfl
            have w0_0_7 : (0 : Int) ≤ η 0 7 ∧ η 0 7 ≤ 700 := wf_ok (a := 7) (b := 7) (z := (0, 700)) hI.1.1 (by decide +kernel) (Nat.le_refl _) (Nat.le_refl _)
            have c0_0_7 : η 0 7 = η 0 7 := rfl
            have w0_0_6 : (0 : Int) ≤ η 0 6 ∧ η 0 6 ≤ 700 := wf_ok (a := 6) (b := 6) (z := (0, 700)) hI.1.1 (by decide +kernel) (Nat.le_refl _) (Nat.le_refl _)
            have c0_0_6 : η 0 6 = η 0 6 := rfl
            have w0_0_8 : (0 : Int) ≤ η 0 8 ∧ η 0 8 ≤ 6 := wf_ok (a := 8) (b := 8) (z := (0, 6)) hI.1.1 (by decide +kernel) (Nat.le_refl _) (Nat.le_refl _)
            have c0_0_8 : η 0 8 = η 0 8 := rfl
            have bx2 : (0 : Int) ≤ x2 ∧ x2 ≤ 1 := k2.1.2.1
            have v9 : η1 0 41 = η 0 41 := (k2.1.2.2.2.1 0 41 (by decide +kernel)).trans rfl
            have c1_0_41 : η1 0 41 = η 0 41 := v9
            have v10 : η1 0 43 = η 0 43 := (k2.1.2.2.2.1 0 43 (by decide +kernel)).trans rfl
            have c1_0_43 : η1 0 43 = η 0 43 := v10
            have v11 : η1 0 42 = η 0 42 := (k2.1.2.2.2.1 0 42 (by decide +kernel)).trans rfl
            have c1_0_42 : η1 0 42 = η 0 42 := v11
            have v12 : η1 0 45 = η 0 45 := (k2.1.2.2.2.1 0 45 (by decide +kernel)).trans rfl
            have c1_0_45 : η1 0 45 = η 0 45 := v12
            have v13 : η1 0 19 = η 0 19 := (k2.1.2.2.2.1 0 19 (by decide +kernel)).trans rfl
            have c1_0_19 : η1 0 19 = η 0 19 := v13
            have w1_0_44 : (0 : Int) ≤ η1 0 44 ∧ η1 0 44 ≤ 64 := wf_ok (a := 44) (b := 44) (z := (0, 64)) k2.1.1 (by decide +kernel) (Nat.le_refl _) (Nat.le_refl _)
            have c1_0_44 : η1 0 44 = η1 0 44 := rfl
            have v15 : η1 0 7 = η 0 7 := (k2.1.2.2.2.1 0 7 (by decide +kernel)).trans rfl
            have c1_0_7 : η1 0 7 = η 0 7 := v15
            have v16 : η1 0 6 = η 0 6 := (k2.1.2.2.2.1 0 6 (by decide +kernel)).trans rfl
            have c1_0_6 : η1 0 6 = η 0 6 := v16
            have v17 : η1 0 8 = η 0 8 := (k2.1.2.2.2.1 0 8 (by decide +kernel)).trans rfl
            have c1_0_8 : η1 0 8 = η 0 8 := v17
            have bx3 : (0 : Int) ≤ x3 ∧ x3 ≤ 0 := k3.1.2.1
            have v19 : η3 0 41 = η2 0 41 := by rw [eη3]; exact (zup_ne (fun _ e => absurd e (by decide))).trans rfl
            have c3_0_41 : η3 0 41 = η2 0 41 := v19
            have v20 : η2 0 43 = η 0 43 := (k3.1.2.2.2.1 0 43 (by decide +kernel)).trans v10
            have v21 : η3 0 43 = η 0 43 := by rw [eη3]; exact (zup_ne (fun _ e => absurd e (by decide))).trans v20
            have c3_0_43 : η3 0 43 = η 0 43 := v21
            have v22 : η2 0 42 = η 0 42 := (k3.1.2.2.2.1 0 42 (by decide +kernel)).trans v11
            have v23 : η3 0 42 = η 0 42 := by rw [eη3]; exact (zup_ne (fun _ e => absurd e (by decide))).trans v22
            have c3_0_42 : η3 0 42 = η 0 42 := v23
            have v24 : η3 0 45 = 1 := by rw [eη3]; exact zup_eq
            have c3_0_45 : η3 0 45 = 1 := v24
            have v25 : η2 0 19 = η 0 19 := (k3.1.2.2.2.1 0 19 (by decide +kernel)).trans v13
            have v26 : η3 0 19 = η 0 19 := by rw [eη3]; exact (zup_ne (fun _ e => absurd e (by decide))).trans v25
            have c3_0_19 : η3 0 19 = η 0 19 := v26
            have v27 : η2 0 44 = η1 0 44 := (k3.1.2.2.2.1 0 44 (by decide +kernel)).trans rfl
            have v28 : η3 0 44 = η1 0 44 := by rw [eη3]; exact (zup_ne (fun _ e => absurd e (by decide))).trans v27
            have c3_0_44 : η3 0 44 = η1 0 44 := v28
            have v29 : η2 0 7 = η 0 7 := (k3.1.2.2.2.1 0 7 (by decide +kernel)).trans v15
            have v30 : η3 0 7 = η 0 7 := by rw [eη3]; exact (zup_ne (fun _ e => absurd e (by decide))).trans v29
            have c3_0_7 : η3 0 7 = η 0 7 := v30
            have v31 : η2 0 6 = η 0 6 := (k3.1.2.2.2.1 0 6 (by decide +kernel)).trans v16
            have v32 : η3 0 6 = η 0 6 := by rw [eη3]; exact (zup_ne (fun _ e => absurd e (by decide))).trans v31
            have c3_0_6 : η3 0 6 = η 0 6 := v32
            have v33 : η2 0 8 = η 0 8 := (k3.1.2.2.2.1 0 8 (by decide +kernel)).trans v17
            have v34 : η3 0 8 = η 0 8 := by rw [eη3]; exact (zup_ne (fun _ e => absurd e (by decide))).trans v33
            have c3_0_8 : η3 0 8 = η 0 8 := v34
            have bx4 : (0 : Int) ≤ x4 ∧ x4 ≤ 6 := k4.1.2.1
            have fm1 : zFm zMl_signs η0 η1 := zFm_tr2 hI.2 k2.1.2.2.2.1 (by decide +kernel)
            have fm2 : zFm zMl_signs η0 η2 := zFm_tr2 fm1 k3.1.2.2.2.1 (by decide +kernel)
            have fm3 : zFm zMl_signs η0 η3 := by rw [eη3]; exact zFm_up fm2 rfl
            have fm4 : zFm zMl_signs η0 η4 := zFm_tr2 fm3 k4.1.2.2.2.1 (by decide +kernel)
            have fm5 : zFm zMl_signs η0 η5 := by rw [eη5]; exact zFm_up fm4 rfl
            have fmE : zFm zMl_signs η0 η5 := fm5
            have fr22_0 : ∀ j, η 22 j = η 22 j := fun _ => rfl
            have v35 : ∀ j, η1 22 j = η 22 j := fun j => k2.1.2.2.2.1 22 _ (zinr_not (by decide +kernel))
            have fr22_1 : ∀ j, η1 22 j = η 22 j := v35
            have fr22_2 : ∀ j, η2 22 j = η2 22 j := fun _ => rfl
            have v37 : ∀ j, η3 22 j = η2 22 j := fun j => by rw [eη3]; exact zup_ne (fun e _ => absurd e (by decide))
            have fr22_3 : ∀ j, η3 22 j = η2 22 j := v37
            have v38 : ∀ j, η4 22 j = η2 22 j := fun j => (k4.1.2.2.2.1 22 _ (zinr_not (by decide +kernel))).trans (v37 j)
            have fr22_4 : ∀ j, η4 22 j = η2 22 j := v38
            have v39 : ∀ j, η5 22 j = η2 22 j := fun j => by rw [eη5]; exact (zup_ne (fun e _ => absurd e (by decide))).trans (v38 j)
            have fr22_5 : ∀ j, η5 22 j = η2 22 j := v39
            have fr22 : ∀ j, η5 22 j = η2 22 j := v39
            have v40 : η4 0 41 = η2 0 41 := (k4.1.2.2.2.1 0 41 (by decide +kernel)).trans v19
            have v41 : η5 0 41 = η2 0 41 := by rw [eη5]; exact (zup_ne (fun _ e => absurd e (by decide))).trans v40
            have f0_41 : η5 0 41 = η2 0 41 := v41
            have v42 : η4 0 43 = η 0 43 := (k4.1.2.2.2.1 0 43 (by decide +kernel)).trans v21
            have v43 : η5 0 43 = η 0 43 := by rw [eη5]; exact (zup_ne (fun _ e => absurd e (by decide))).trans v42
            have f0_43 : η5 0 43 = η 0 43 := v43
            have v44 : η4 0 42 = η 0 42 := (k4.1.2.2.2.1 0 42 (by decide +kernel)).trans v23
            have v45 : η5 0 42 = η 0 42 := by rw [eη5]; exact (zup_ne (fun _ e => absurd e (by decide))).trans v44
            have f0_42 : η5 0 42 = η 0 42 := v45
            have v46 : η4 0 45 = 1 := (k4.1.2.2.2.1 0 45 (by decide +kernel)).trans v24
            have v47 : η5 0 45 = 1 := by rw [eη5]; exact (zup_ne (fun _ e => absurd e (by decide))).trans v46
            have f0_45 : η5 0 45 = 1 := v47
            have v48 : η4 0 19 = η 0 19 := (k4.1.2.2.2.1 0 19 (by decide +kernel)).trans v26
            have v49 : η5 0 19 = η 0 19 := by rw [eη5]; exact (zup_ne (fun _ e => absurd e (by decide))).trans v48
            have f0_19 : η5 0 19 = η 0 19 := v49
            have v50 : η4 0 44 = η1 0 44 := (k4.1.2.2.2.1 0 44 (by decide +kernel)).trans v28
            have v51 : η5 0 44 = η1 0 44 := by rw [eη5]; exact (zup_ne (fun _ e => absurd e (by decide))).trans v50
            have f0_44 : η5 0 44 = η1 0 44 := v51
            have v52 : η4 0 7 = η 0 7 := (k4.1.2.2.2.1 0 7 (by decide +kernel)).trans v30
            have v53 : η5 0 7 = η 0 7 := by rw [eη5]; exact (zup_ne (fun _ e => absurd e (by decide))).trans v52
            have f0_7 : η5 0 7 = η 0 7 := v53
            have v54 : η4 0 6 = η 0 6 := (k4.1.2.2.2.1 0 6 (by decide +kernel)).trans v32
            have v55 : η5 0 6 = η 0 6 := by rw [eη5]; exact (zup_ne (fun _ e => absurd e (by decide))).trans v54
            have f0_6 : η5 0 6 = η 0 6 := v55
            have v56 : η4 0 8 = η 0 8 := (k4.1.2.2.2.1 0 8 (by decide +kernel)).trans v34
            have v57 : η5 0 8 = η 0 8 := by rw [eη5]; exact (zup_ne (fun _ e => absurd e (by decide))).trans v56
            have f0_8 : η5 0 8 = η 0 8 := v57
            have wb1 : wB wl_l zTr η1 := k2.1.1
            have wb2 : wB wl_l zTr η2 := k3.1.1
            have wb3 : wB wl_l zTr η3 := by rw [eη3]; exact wk_ok (a := 45) (b := 45) (z := ((-2147483648), 2147483647)) zTr_k (GR := []) wb2 (by decide +kernel) (by decide) (by decide) (show ((-2147483648) : Int) ≤ 1 by omega) (show 1 ≤ (2147483647 : Int) by omega)
            have wb4 : wB wl_l zTr η4 := k4.1.1
            have wb5 : wB wl_l zTr η5 := by rw [eη5]; exact wk_ok (a := 46) (b := 46) (z := ((-2147483648), 2147483647)) zTr_k (GR := []) wb4 (by decide +kernel) (by decide) (by decide) (show ((-2147483648) : Int) ≤ 1 by omega) (show 1 ≤ (2147483647 : Int) by omega)
            have wbE : wB wl_l zTr η5 := wb5
            have I0 : H_l 0 0 0 η := hig.1
            have I1 : H_l 1 0 0 η1 := k2.2.1 c1
            have I2 : H_l 0 0 (-1) η2 := k3.2
            have I3 : H_l 0 0 0 η3 := by rw [eη3]; exact h_eq (wn_up I2) rfl rfl (by omega)
            have I4 : H_l 0 0 0 η4 := k4.2.1
            have qr4 : (1 ≤ x4 → 2 ≤ x1) ∧ (2 ≤ x1 → 1 ≤ x4) := k4.2.2
            have I5 : H_l 0 0 0 η5 := by rw [eη5]; exact zGk_upc hk_l I4 (by decide +kernel)
            exact I5
          · show ∀ (x2 : Int) (η1 : zE), ((gC2 wl_l [(nat_lit 0, zPl_isSign, zOl_isSign, zMl_isSign), (nat_lit 1, zPl_wrong, zOl_wrong, zMl_wrong), (nat_lit 2, zPl_token, zOl_token, zMl_token), (nat_lit 3, zPl_isKey, zOl_isKey, zMl_isKey), (nat_lit 4, zPl_isCounted, zOl_isCounted, zMl_isCounted), (nat_lit 5, zPl_waitsFor, zOl_waitsFor, zMl_waitsFor), (nat_lit 6, zPl_rank, zOl_rank, zMl_rank), (nat_lit 7, zPl_bind, zOl_bind, zMl_bind)] pCl_signs qCl_signs) 4).2 [] η x2 η1 → (¬ x2 = 0) → ∀ (x3 : Int) (η2 : zE), ((gC2 wl_l [(nat_lit 0, zPl_isSign, zOl_isSign, zMl_isSign), (nat_lit 1, zPl_wrong, zOl_wrong, zMl_wrong), (nat_lit 2, zPl_token, zOl_token, zMl_token), (nat_lit 3, zPl_isKey, zOl_isKey, zMl_isKey), (nat_lit 4, zPl_isCounted, zOl_isCounted, zMl_isCounted), (nat_lit 5, zPl_waitsFor, zOl_waitsFor, zMl_waitsFor), (nat_lit 6, zPl_rank, zOl_rank, zMl_rank), (nat_lit 7, zPl_bind, zOl_bind, zMl_bind)] pCl_signs qCl_signs) 5).2 [x1] η1 x3 η2 → ∀ η3 : zE, η3 = zup η2 0 (Int.toNat 45) 1 → ∀ (x4 : Int) (η4 : zE), ((gC2 wl_l [(nat_lit 0, zPl_isSign, zOl_isSign, zMl_isSign), (nat_lit 1, zPl_wrong, zOl_wrong, zMl_wrong), (nat_lit 2, zPl_token, zOl_token, zMl_token), (nat_lit 3, zPl_isKey, zOl_isKey, zMl_isKey), (nat_lit 4, zPl_isCounted, zOl_isCounted, zMl_isCounted), (nat_lit 5, zPl_waitsFor, zOl_waitsFor, zMl_waitsFor), (nat_lit 6, zPl_rank, zOl_rank, zMl_rank), (nat_lit 7, zPl_bind, zOl_bind, zMl_bind)] pCl_signs qCl_signs) 6).2 [x1] η3 x4 η4 → (x4 < 3) → ∀ η5 : zE, η5 = zup η4 0 (Int.toNat 46) 1 → ∀ (x5 : Int) (η6 : zE), ((gC2 wl_l [(nat_lit 0, zPl_isSign, zOl_isSign, zMl_isSign), (nat_lit 1, zPl_wrong, zOl_wrong, zMl_wrong), (nat_lit 2, zPl_token, zOl_token, zMl_token), (nat_lit 3, zPl_isKey, zOl_isKey, zMl_isKey), (nat_lit 4, zPl_isCounted, zOl_isCounted, zMl_isCounted), (nat_lit 5, zPl_waitsFor, zOl_waitsFor, zMl_waitsFor), (nat_lit 6, zPl_rank, zOl_rank, zMl_rank), (nat_lit 7, zPl_bind, zOl_bind, zMl_bind)] pCl_signs qCl_signs) 2).2 [] η5 x5 η6 → (fun (_ : Nat) (y : Int) (η' : zE) => pQl_signs xs η0 y η') 0 1 η6
            have hw : η 0 45 = 0 := hig.2.1
            have hr1 : 1 ≤ η 0 19 := hig.2.2.1
            have hs1 : η 0 7 = η0 0 7 := hig.2.2.2.1
            have hs2 : η 0 6 = η0 0 6 := hig.2.2.2.2.1
            have hs3 : η 0 8 = η0 0 8 := hig.2.2.2.2.2.1
            have hk : x1 = 0 ∨ (3 ≤ x1 ∧ ¬ η 0 8 = 0) := hig.2.2.2.2.2.2
            have kk : η 0 8 = 5 → 0 ≤ η 0 9 ∧ η 0 9 ≤ 5 := hig.1.1.1.2.1.2
            have bd43 : (0 : Int) ≤ η 0 43 ∧ η 0 43 ≤ 8 := wf_ok (a := 43) (b := 43) (z := (0, 8)) hI.1.1 (by decide +kernel) (Nat.le_refl _) (Nat.le_refl _)
            have bd44 : (0 : Int) ≤ η 0 44 ∧ η 0 44 ≤ 64 := wf_ok (a := 44) (b := 44) (z := (0, 64)) hI.1.1 (by decide +kernel) (Nat.le_refl _) (Nat.le_refl _)
            have bd19 : (0 : Int) ≤ η 0 19 ∧ η 0 19 ≤ 64 := wf_ok (a := 19) (b := 19) (z := (0, 64)) hI.1.1 (by decide +kernel) (Nat.le_refl _) (Nat.le_refl _)
            obtain ⟨u1, u2, u3, u4⟩ := hig.1.2
            have cn := cz_n (η := η) (η 0 41).toNat
            intro x2 η1 h2 c1 x3 η2 h3 η3 eη3 x4 η4 h4 c2 η5 eη5 x5 η6 h5
            have k2 : sQ wl_l zTr zOl_isCounted zMl_isCounted [] η x2 η1 ∧ pQl_isCounted [] η x2 η1 := h2
            have k3 : sQ wl_l zTr zOl_waitsFor zMl_waitsFor [x1] η1 x3 η2 ∧ pQl_waitsFor [x1] η1 x3 η2 := h3
            have k4 : sQ wl_l zTr zOl_rank zMl_rank [x1] η3 x4 η4 ∧ pQl_rank [x1] η3 x4 η4 := h4
            have k5 : sQ wl_l zTr zOl_token zMl_token [] η5 x5 η6 ∧ pQl_token [] η5 x5 η6 := h5
            have bx1 : (3 : Int) ≤ x1 ∧ x1 ≤ 14 := hI.1.2.1.1
            have c0_0_41 : η 0 41 = η 0 41 := rfl
            have w0_0_43 : (0 : Int) ≤ η 0 43 ∧ η 0 43 ≤ 8 := wf_ok (a := 43) (b := 43) (z := (0, 8)) hI.1.1 (by decide +kernel) (Nat.le_refl _) (Nat.le_refl _)
            have c0_0_43 : η 0 43 = η 0 43 := rfl
            have c0_0_42 : η 0 42 = η 0 42 := rfl
            have c0_0_45 : η 0 45 = η 0 45 := rfl
            have w0_0_19 : (0 : Int) ≤ η 0 19 ∧ η 0 19 ≤ 64 := wf_ok (a := 19) (b := 19) (z := (0, 64)) hI.1.1 (by decide +kernel) (Nat.le_refl _) (Nat.le_refl _)
            have c0_0_19 : η 0 19 = η 0 19 := rfl
            have w0_0_44 : (0 : Int) ≤ η 0 44 ∧ η 0 44 ≤ 64 := wf_ok (a := 44) (b := 44) (z := (0, 64)) hI.1.1 (by decide +kernel) (Nat.le_refl _) (Nat.le_refl _)
            have c0_0_44 : η 0 44 = η 0 44 := rfl
            have w0_0_7 : (0 : Int) ≤ η 0 7 ∧ η 0 7 ≤ 700 := wf_ok (a := 7) (b := 7) (z := (0, 700)) hI.1.1 (by decide +kernel) (Nat.le_refl _) (Nat.le_refl _)
            have c0_0_7 : η 0 7 = η 0 7 := rfl
            have w0_0_6 : (0 : Int) ≤ η 0 6 ∧ η 0 6 ≤ 700 := wf_ok (a := 6) (b := 6) (z := (0, 700)) hI.1.1 (by decide +kernel) (Nat.le_refl _) (Nat.le_refl _)
            have c0_0_6 : η 0 6 = η 0 6 := rfl
            have w0_0_8 : (0 : Int) ≤ η 0 8 ∧ η 0 8 ≤ 6 := wf_ok (a := 8) (b := 8) (z := (0, 6)) hI.1.1 (by decide +kernel) (Nat.le_refl _) (Nat.le_refl _)
            have c0_0_8 : η 0 8 = η 0 8 := rfl
            have bx2 : (0 : Int) ≤ x2 ∧ x2 ≤ 1 := k2.1.2.1
            have v9 : η1 0 41 = η 0 41 := (k2.1.2.2.2.1 0 41 (by decide +kernel)).trans rfl
            have c1_0_41 : η1 0 41 = η 0 41 := v9
            have v10 : η1 0 43 = η 0 43 := (k2.1.2.2.2.1 0 43 (by decide +kernel)).trans rfl
            have c1_0_43 : η1 0 43 = η 0 43 := v10
            have v11 : η1 0 42 = η 0 42 := (k2.1.2.2.2.1 0 42 (by decide +kernel)).trans rfl
            have c1_0_42 : η1 0 42 = η 0 42 := v11
            have v12 : η1 0 45 = η 0 45 := (k2.1.2.2.2.1 0 45 (by decide +kernel)).trans rfl
            have c1_0_45 : η1 0 45 = η 0 45 := v12
            have v13 : η1 0 19 = η 0 19 := (k2.1.2.2.2.1 0 19 (by decide +kernel)).trans rfl
            have c1_0_19 : η1 0 19 = η 0 19 := v13
            have w1_0_44 : (0 : Int) ≤ η1 0 44 ∧ η1 0 44 ≤ 64 := wf_ok (a := 44) (b := 44) (z := (0, 64)) k2.1.1 (by decide +kernel) (Nat.le_refl _) (Nat.le_refl _)
            have c1_0_44 : η1 0 44 = η1 0 44 := rfl
            have v15 : η1 0 7 = η 0 7 := (k2.1.2.2.2.1 0 7 (by decide +kernel)).trans rfl
            have c1_0_7 : η1 0 7 = η 0 7 := v15
            have v16 : η1 0 6 = η 0 6 := (k2.1.2.2.2.1 0 6 (by decide +kernel)).trans rfl
            have c1_0_6 : η1 0 6 = η 0 6 := v16
            have v17 : η1 0 8 = η 0 8 := (k2.1.2.2.2.1 0 8 (by decide +kernel)).trans rfl
            have c1_0_8 : η1 0 8 = η 0 8 := v17
            have bx3 : (0 : Int) ≤ x3 ∧ x3 ≤ 0 := k3.1.2.1
            have v19 : η3 0 41 = η2 0 41 := by rw [eη3]; exact (zup_ne (fun _ e => absurd e (by decide))).trans rfl
            have c3_0_41 : η3 0 41 = η2 0 41 := v19
            have v20 : η2 0 43 = η 0 43 := (k3.1.2.2.2.1 0 43 (by decide +kernel)).trans v10
            have v21 : η3 0 43 = η 0 43 := by rw [eη3]; exact (zup_ne (fun _ e => absurd e (by decide))).trans v20
            have c3_0_43 : η3 0 43 = η 0 43 := v21
            have v22 : η2 0 42 = η 0 42 := (k3.1.2.2.2.1 0 42 (by decide +kernel)).trans v11
            have v23 : η3 0 42 = η 0 42 := by rw [eη3]; exact (zup_ne (fun _ e => absurd e (by decide))).trans v22
            have c3_0_42 : η3 0 42 = η 0 42 := v23
            have v24 : η3 0 45 = 1 := by rw [eη3]; exact zup_eq
            have c3_0_45 : η3 0 45 = 1 := v24
            have v25 : η2 0 19 = η 0 19 := (k3.1.2.2.2.1 0 19 (by decide +kernel)).trans v13
            have v26 : η3 0 19 = η 0 19 := by rw [eη3]; exact (zup_ne (fun _ e => absurd e (by decide))).trans v25
            have c3_0_19 : η3 0 19 = η 0 19 := v26
            have v27 : η2 0 44 = η1 0 44 := (k3.1.2.2.2.1 0 44 (by decide +kernel)).trans rfl
            have v28 : η3 0 44 = η1 0 44 := by rw [eη3]; exact (zup_ne (fun _ e => absurd e (by decide))).trans v27
            have c3_0_44 : η3 0 44 = η1 0 44 := v28
            have v29 : η2 0 7 = η 0 7 := (k3.1.2.2.2.1 0 7 (by decide +kernel)).trans v15
            have v30 : η3 0 7 = η 0 7 := by rw [eη3]; exact (zup_ne (fun _ e => absurd e (by decide))).trans v29
            have c3_0_7 : η3 0 7 = η 0 7 := v30
            have v31 : η2 0 6 = η 0 6 := (k3.1.2.2.2.1 0 6 (by decide +kernel)).trans v16
            have v32 : η3 0 6 = η 0 6 := by rw [eη3]; exact (zup_ne (fun _ e => absurd e (by decide))).trans v31
            have c3_0_6 : η3 0 6 = η 0 6 := v32
            have v33 : η2 0 8 = η 0 8 := (k3.1.2.2.2.1 0 8 (by decide +kernel)).trans v17
            have v34 : η3 0 8 = η 0 8 := by rw [eη3]; exact (zup_ne (fun _ e => absurd e (by decide))).trans v33
            have c3_0_8 : η3 0 8 = η 0 8 := v34
            have bx4 : (0 : Int) ≤ x4 ∧ x4 ≤ 6 := k4.1.2.1
            have v35 : η4 0 41 = η2 0 41 := (k4.1.2.2.2.1 0 41 (by decide +kernel)).trans v19
            have v36 : η5 0 41 = η2 0 41 := by rw [eη5]; exact (zup_ne (fun _ e => absurd e (by decide))).trans v35
            have c5_0_41 : η5 0 41 = η2 0 41 := v36
            have v37 : η4 0 43 = η 0 43 := (k4.1.2.2.2.1 0 43 (by decide +kernel)).trans v21
            have v38 : η5 0 43 = η 0 43 := by rw [eη5]; exact (zup_ne (fun _ e => absurd e (by decide))).trans v37
            have c5_0_43 : η5 0 43 = η 0 43 := v38
            have v39 : η4 0 42 = η 0 42 := (k4.1.2.2.2.1 0 42 (by decide +kernel)).trans v23
            have v40 : η5 0 42 = η 0 42 := by rw [eη5]; exact (zup_ne (fun _ e => absurd e (by decide))).trans v39
            have c5_0_42 : η5 0 42 = η 0 42 := v40
            have v41 : η4 0 45 = 1 := (k4.1.2.2.2.1 0 45 (by decide +kernel)).trans v24
            have v42 : η5 0 45 = 1 := by rw [eη5]; exact (zup_ne (fun _ e => absurd e (by decide))).trans v41
            have c5_0_45 : η5 0 45 = 1 := v42
            have v43 : η4 0 19 = η 0 19 := (k4.1.2.2.2.1 0 19 (by decide +kernel)).trans v26
            have v44 : η5 0 19 = η 0 19 := by rw [eη5]; exact (zup_ne (fun _ e => absurd e (by decide))).trans v43
            have c5_0_19 : η5 0 19 = η 0 19 := v44
            have v45 : η4 0 44 = η1 0 44 := (k4.1.2.2.2.1 0 44 (by decide +kernel)).trans v28
            have v46 : η5 0 44 = η1 0 44 := by rw [eη5]; exact (zup_ne (fun _ e => absurd e (by decide))).trans v45
            have c5_0_44 : η5 0 44 = η1 0 44 := v46
            have v47 : η4 0 7 = η 0 7 := (k4.1.2.2.2.1 0 7 (by decide +kernel)).trans v30
            have v48 : η5 0 7 = η 0 7 := by rw [eη5]; exact (zup_ne (fun _ e => absurd e (by decide))).trans v47
            have c5_0_7 : η5 0 7 = η 0 7 := v48
            have v49 : η4 0 6 = η 0 6 := (k4.1.2.2.2.1 0 6 (by decide +kernel)).trans v32
            have v50 : η5 0 6 = η 0 6 := by rw [eη5]; exact (zup_ne (fun _ e => absurd e (by decide))).trans v49
            have c5_0_6 : η5 0 6 = η 0 6 := v50
            have v51 : η4 0 8 = η 0 8 := (k4.1.2.2.2.1 0 8 (by decide +kernel)).trans v34
            have v52 : η5 0 8 = η 0 8 := by rw [eη5]; exact (zup_ne (fun _ e => absurd e (by decide))).trans v51
            have c5_0_8 : η5 0 8 = η 0 8 := v52
            have bx5 : (0 : Int) ≤ x5 ∧ x5 ≤ 0 := k5.1.2.1
            have fm1 : zFm zMl_signs η0 η1 := zFm_tr2 hI.2 k2.1.2.2.2.1 (by decide +kernel)
            have fm2 : zFm zMl_signs η0 η2 := zFm_tr2 fm1 k3.1.2.2.2.1 (by decide +kernel)
            have fm3 : zFm zMl_signs η0 η3 := by rw [eη3]; exact zFm_up fm2 rfl
            have fm4 : zFm zMl_signs η0 η4 := zFm_tr2 fm3 k4.1.2.2.2.1 (by decide +kernel)
            have fm5 : zFm zMl_signs η0 η5 := by rw [eη5]; exact zFm_up fm4 rfl
            have fm6 : zFm zMl_signs η0 η6 := zFm_tr2 fm5 k5.1.2.2.2.1 (by decide +kernel)
            have fmE : zFm zMl_signs η0 η6 := fm6
            have fr22_0 : ∀ j, η 22 j = η 22 j := fun _ => rfl
            have v53 : ∀ j, η1 22 j = η 22 j := fun j => k2.1.2.2.2.1 22 _ (zinr_not (by decide +kernel))
            have fr22_1 : ∀ j, η1 22 j = η 22 j := v53
            have fr22_2 : ∀ j, η2 22 j = η2 22 j := fun _ => rfl
            have v55 : ∀ j, η3 22 j = η2 22 j := fun j => by rw [eη3]; exact zup_ne (fun e _ => absurd e (by decide))
            have fr22_3 : ∀ j, η3 22 j = η2 22 j := v55
            have v56 : ∀ j, η4 22 j = η2 22 j := fun j => (k4.1.2.2.2.1 22 _ (zinr_not (by decide +kernel))).trans (v55 j)
            have fr22_4 : ∀ j, η4 22 j = η2 22 j := v56
            have v57 : ∀ j, η5 22 j = η2 22 j := fun j => by rw [eη5]; exact (zup_ne (fun e _ => absurd e (by decide))).trans (v56 j)
            have fr22_5 : ∀ j, η5 22 j = η2 22 j := v57
            have v58 : ∀ j, η6 22 j = η2 22 j := fun j => (k5.1.2.2.2.1 22 _ (zinr_not (by decide +kernel))).trans (v57 j)
            have fr22_6 : ∀ j, η6 22 j = η2 22 j := v58
            have fr22 : ∀ j, η6 22 j = η2 22 j := v58
            have v59 : η6 0 41 = η2 0 41 := (k5.1.2.2.2.1 0 41 (by decide +kernel)).trans v36
            have f0_41 : η6 0 41 = η2 0 41 := v59
            have v60 : η6 0 43 = η 0 43 := (k5.1.2.2.2.1 0 43 (by decide +kernel)).trans v38
            have f0_43 : η6 0 43 = η 0 43 := v60
            have v61 : η6 0 42 = η 0 42 := (k5.1.2.2.2.1 0 42 (by decide +kernel)).trans v40
            have f0_42 : η6 0 42 = η 0 42 := v61
            have v62 : η6 0 45 = 1 := (k5.1.2.2.2.1 0 45 (by decide +kernel)).trans v42
            have f0_45 : η6 0 45 = 1 := v62
            have v63 : η6 0 19 = η 0 19 := (k5.1.2.2.2.1 0 19 (by decide +kernel)).trans v44
            have f0_19 : η6 0 19 = η 0 19 := v63
            have v64 : η6 0 44 = η1 0 44 := (k5.1.2.2.2.1 0 44 (by decide +kernel)).trans v46
            have f0_44 : η6 0 44 = η1 0 44 := v64
            have w6_0_7 : (0 : Int) ≤ η6 0 7 ∧ η6 0 7 ≤ 700 := wf_ok (a := 7) (b := 7) (z := (0, 700)) k5.1.1 (by decide +kernel) (Nat.le_refl _) (Nat.le_refl _)
            have f0_7 : η6 0 7 = η6 0 7 := rfl
            have v66 : η6 0 6 = η 0 6 := (k5.1.2.2.2.1 0 6 (by decide +kernel)).trans v50
            have f0_6 : η6 0 6 = η 0 6 := v66
            have w6_0_8 : (0 : Int) ≤ η6 0 8 ∧ η6 0 8 ≤ 6 := wf_ok (a := 8) (b := 8) (z := (0, 6)) k5.1.1 (by decide +kernel) (Nat.le_refl _) (Nat.le_refl _)
            have f0_8 : η6 0 8 = η6 0 8 := rfl
            have wb1 : wB wl_l zTr η1 := k2.1.1
            have wb2 : wB wl_l zTr η2 := k3.1.1
            have wb3 : wB wl_l zTr η3 := by rw [eη3]; exact wk_ok (a := 45) (b := 45) (z := ((-2147483648), 2147483647)) zTr_k (GR := []) wb2 (by decide +kernel) (by decide) (by decide) (show ((-2147483648) : Int) ≤ 1 by omega) (show 1 ≤ (2147483647 : Int) by omega)
            have wb4 : wB wl_l zTr η4 := k4.1.1
            have wb5 : wB wl_l zTr η5 := by rw [eη5]; exact wk_ok (a := 46) (b := 46) (z := ((-2147483648), 2147483647)) zTr_k (GR := []) wb4 (by decide +kernel) (by decide) (by decide) (show ((-2147483648) : Int) ≤ 1 by omega) (show 1 ≤ (2147483647 : Int) by omega)
            have wb6 : wB wl_l zTr η6 := k5.1.1
            have wbE : wB wl_l zTr η6 := wb6
            have I0 : H_l 0 0 0 η := hig.1
            have I1 : H_l 1 0 0 η1 := k2.2.1 c1
            have I2 : H_l 0 0 (-1) η2 := k3.2
            have I3 : H_l 0 0 0 η3 := by rw [eη3]; exact h_eq (wn_up I2) rfl rfl (by omega)
            have I4 : H_l 0 0 0 η4 := k4.2.1
            have qr4 : (1 ≤ x4 → 2 ≤ x1) ∧ (2 ≤ x1 → 1 ≤ x4) := k4.2.2
            have I5 : H_l 0 0 0 η5 := by rw [eη5]; exact zGk_upc hk_l I4 (by decide +kernel)
            have I6 : H_l 0 0 0 η6 := k5.2.1
            have qt5 : ¬ η5 0 8 = 0 → 10 * (η6 0 6 - η6 0 7) + η6 0 8 < 10 * (η5 0 6 - η5 0 7) + η5 0 8 := k5.2.2
            refine ⟨I6.1, fun _ => ⟨I6, show 10 * (η6 0 6 - η6 0 7) + η6 0 8 < 10 * (η0 0 6 - η0 0 7) + η0 0 8 by omega, fun w => ?_⟩⟩
            have w : η6 0 45 = 0 := w
            omega
          · show ∀ (x2 : Int) (η1 : zE), ((gC2 wl_l [(nat_lit 0, zPl_isSign, zOl_isSign, zMl_isSign), (nat_lit 1, zPl_wrong, zOl_wrong, zMl_wrong), (nat_lit 2, zPl_token, zOl_token, zMl_token), (nat_lit 3, zPl_isKey, zOl_isKey, zMl_isKey), (nat_lit 4, zPl_isCounted, zOl_isCounted, zMl_isCounted), (nat_lit 5, zPl_waitsFor, zOl_waitsFor, zMl_waitsFor), (nat_lit 6, zPl_rank, zOl_rank, zMl_rank), (nat_lit 7, zPl_bind, zOl_bind, zMl_bind)] pCl_signs qCl_signs) 4).2 [] η x2 η1 → (x2 = 0) → (fun (_ : Nat) (y : Int) (η' : zE) => pQl_signs xs η0 y η') 0 0 η1
            have hw : η 0 45 = 0 := hig.2.1
            have hr1 : 1 ≤ η 0 19 := hig.2.2.1
            have hs1 : η 0 7 = η0 0 7 := hig.2.2.2.1
            have hs2 : η 0 6 = η0 0 6 := hig.2.2.2.2.1
            have hs3 : η 0 8 = η0 0 8 := hig.2.2.2.2.2.1
            have hk : x1 = 0 ∨ (3 ≤ x1 ∧ ¬ η 0 8 = 0) := hig.2.2.2.2.2.2
            have kk : η 0 8 = 5 → 0 ≤ η 0 9 ∧ η 0 9 ≤ 5 := hig.1.1.1.2.1.2
            have bd43 : (0 : Int) ≤ η 0 43 ∧ η 0 43 ≤ 8 := wf_ok (a := 43) (b := 43) (z := (0, 8)) hI.1.1 (by decide +kernel) (Nat.le_refl _) (Nat.le_refl _)
            have bd44 : (0 : Int) ≤ η 0 44 ∧ η 0 44 ≤ 64 := wf_ok (a := 44) (b := 44) (z := (0, 64)) hI.1.1 (by decide +kernel) (Nat.le_refl _) (Nat.le_refl _)
            have bd19 : (0 : Int) ≤ η 0 19 ∧ η 0 19 ≤ 64 := wf_ok (a := 19) (b := 19) (z := (0, 64)) hI.1.1 (by decide +kernel) (Nat.le_refl _) (Nat.le_refl _)
            obtain ⟨u1, u2, u3, u4⟩ := hig.1.2
            have cn := cz_n (η := η) (η 0 41).toNat
            intro x2 η1 h2 c1
            have k2 : sQ wl_l zTr zOl_isCounted zMl_isCounted [] η x2 η1 ∧ pQl_isCounted [] η x2 η1 := h2
            have bx1 : (3 : Int) ≤ x1 ∧ x1 ≤ 14 := hI.1.2.1.1
            have c0_0_41 : η 0 41 = η 0 41 := rfl
            have w0_0_43 : (0 : Int) ≤ η 0 43 ∧ η 0 43 ≤ 8 := wf_ok (a := 43) (b := 43) (z := (0, 8)) hI.1.1 (by decide +kernel) (Nat.le_refl _) (Nat.le_refl _)
            have c0_0_43 : η 0 43 = η 0 43 := rfl
            have c0_0_42 : η 0 42 = η 0 42 := rfl
            have c0_0_45 : η 0 45 = η 0 45 := rfl
            have w0_0_19 : (0 : Int) ≤ η 0 19 ∧ η 0 19 ≤ 64 := wf_ok (a := 19) (b := 19) (z := (0, 64)) hI.1.1 (by decide +kernel) (Nat.le_refl _) (Nat.le_refl _)
            have c0_0_19 : η 0 19 = η 0 19 := rfl
            have w0_0_44 : (0 : Int) ≤ η 0 44 ∧ η 0 44 ≤ 64 := wf_ok (a := 44) (b := 44) (z := (0, 64)) hI.1.1 (by decide +kernel) (Nat.le_refl _) (Nat.le_refl _)
            have c0_0_44 : η 0 44 = η 0 44 := rfl
            have w0_0_7 : (0 : Int) ≤ η 0 7 ∧ η 0 7 ≤ 700 := wf_ok (a := 7) (b := 7) (z := (0, 700)) hI.1.1 (by decide +kernel) (Nat.le_refl _) (Nat.le_refl _)
            have c0_0_7 : η 0 7 = η 0 7 := rfl
            have w0_0_6 : (0 : Int) ≤ η 0 6 ∧ η 0 6 ≤ 700 := wf_ok (a := 6) (b := 6) (z := (0, 700)) hI.1.1 (by decide +kernel) (Nat.le_refl _) (Nat.le_refl _)
            have c0_0_6 : η 0 6 = η 0 6 := rfl
            have w0_0_8 : (0 : Int) ≤ η 0 8 ∧ η 0 8 ≤ 6 := wf_ok (a := 8) (b := 8) (z := (0, 6)) hI.1.1 (by decide +kernel) (Nat.le_refl _) (Nat.le_refl _)
            have c0_0_8 : η 0 8 = η 0 8 := rfl
            have bx2 : (0 : Int) ≤ x2 ∧ x2 ≤ 1 := k2.1.2.1
            have fm1 : zFm zMl_signs η0 η1 := zFm_tr2 hI.2 k2.1.2.2.2.1 (by decide +kernel)
            have fmE : zFm zMl_signs η0 η1 := fm1
            have fr22_0 : ∀ j, η 22 j = η 22 j := fun _ => rfl
            have v9 : ∀ j, η1 22 j = η 22 j := fun j => k2.1.2.2.2.1 22 _ (zinr_not (by decide +kernel))
            have fr22_1 : ∀ j, η1 22 j = η 22 j := v9
            have fr22 : ∀ j, η1 22 j = η 22 j := v9
            have v10 : η1 0 41 = η 0 41 := (k2.1.2.2.2.1 0 41 (by decide +kernel)).trans rfl
            have f0_41 : η1 0 41 = η 0 41 := v10
            have v11 : η1 0 43 = η 0 43 := (k2.1.2.2.2.1 0 43 (by decide +kernel)).trans rfl
            have f0_43 : η1 0 43 = η 0 43 := v11
            have v12 : η1 0 42 = η 0 42 := (k2.1.2.2.2.1 0 42 (by decide +kernel)).trans rfl
            have f0_42 : η1 0 42 = η 0 42 := v12
            have v13 : η1 0 45 = η 0 45 := (k2.1.2.2.2.1 0 45 (by decide +kernel)).trans rfl
            have f0_45 : η1 0 45 = η 0 45 := v13
            have v14 : η1 0 19 = η 0 19 := (k2.1.2.2.2.1 0 19 (by decide +kernel)).trans rfl
            have f0_19 : η1 0 19 = η 0 19 := v14
            have w1_0_44 : (0 : Int) ≤ η1 0 44 ∧ η1 0 44 ≤ 64 := wf_ok (a := 44) (b := 44) (z := (0, 64)) k2.1.1 (by decide +kernel) (Nat.le_refl _) (Nat.le_refl _)
            have f0_44 : η1 0 44 = η1 0 44 := rfl
            have v16 : η1 0 7 = η 0 7 := (k2.1.2.2.2.1 0 7 (by decide +kernel)).trans rfl
            have f0_7 : η1 0 7 = η 0 7 := v16
            have v17 : η1 0 6 = η 0 6 := (k2.1.2.2.2.1 0 6 (by decide +kernel)).trans rfl
            have f0_6 : η1 0 6 = η 0 6 := v17
            have v18 : η1 0 8 = η 0 8 := (k2.1.2.2.2.1 0 8 (by decide +kernel)).trans rfl
            have f0_8 : η1 0 8 = η 0 8 := v18
            have wb1 : wB wl_l zTr η1 := k2.1.1
            have wbE : wB wl_l zTr η1 := wb1
            have I0 : H_l 0 0 0 η := hig.1
            have I1 : H_l 0 0 0 η1 := k2.2.2 c1
            exact ⟨I1.1, fun w => absurd (show (0 : Int) = 0 by omega) w⟩
        · exact fun _ h => nomatch h
      )⟩, (fun _ h => nomatch h)⟩)⟩)⟩)⟩))
