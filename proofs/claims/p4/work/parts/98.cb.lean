def zPk_token : zPq := ([], [])
def zOk_token : zPo := (((.ofNat (nat_lit 0)), (.ofNat (nat_lit 0))), [], [])
def zMk_token : List zCe := [(nat_lit 0, nat_lit 8), (nat_lit 0, nat_lit 9), (nat_lit 0, nat_lit 10), (nat_lit 0, nat_lit 11)]
def pPk_token : List Int → zE → Prop := (fun _ η => G_k η)
def pQk_token : List Int → zE → Int → zE → Prop := fun _ η _ η' => G_k η' ∧ (¬ η 0 8 = 0 → 10 * (η' 0 6 - η' 0 7) + η' 0 8 < 10 * (η 0 6 - η 0 7) + η 0 8)
def pCk_token : Nat → List Int → zE → Prop := fun c => match c with
  | 0 => pPk_isSmall
  | 1 => pPk_isDigit
  | 2 => pPk_wordAt
  | 3 => pPk_packed
  | 4 => pPk_signToken
  | _ => fun _ _ => True
def qCk_token : Nat → List Int → zE → Int → zE → Prop := fun c => match c with
  | 0 => pQk_isSmall
  | 1 => pQk_isDigit
  | 2 => pQk_wordAt
  | 3 => pQk_packed
  | 4 => pQk_signToken
  | _ => fun _ _ _ _ => True
def iCk_token : List Int → zE → Nat → List Int → zE → Prop := fun xs η0 c => match c with
  | 0 => fun ys η => G_k η ∧ η0 0 7 ≤ η 0 7 ∧ η 0 8 = η0 0 8
  | 1 => fun ys η => G_k η ∧ (η0 0 7 < η 0 7 ∨ (η0 0 7 ≤ η 0 7 ∧ η 0 7 < η 0 6 ∧ 97 ≤ η 1 (Int.toNat (η 0 7)) ∧ η 1 (Int.toNat (η 0 7)) ≤ 122))
  | 2 => fun ys η => G_k η ∧ η 0 8 = 3 ∧ (η0 0 7 < η 0 7 ∨ (η0 0 7 ≤ η 0 7 ∧ η 0 7 < η 0 6 ∧ 48 ≤ η 1 (Int.toNat (η 0 7)) ∧ η 1 (Int.toNat (η 0 7)) ≤ 57))
  | _ => fun _ _ => True
def zVk_token : List zIv := [(nat_lit 0, ([], []), ((.ofNat (nat_lit 3000)), [((.negSucc (nat_lit 0)), nat_lit 1, nat_lit 0, nat_lit 7)])), (nat_lit 1, ([], []), ((.ofNat (nat_lit 2000)), [((.negSucc (nat_lit 0)), nat_lit 1, nat_lit 0, nat_lit 7)])), (nat_lit 2, ([], []), ((.ofNat (nat_lit 2000)), [((.negSucc (nat_lit 0)), nat_lit 1, nat_lit 0, nat_lit 7)]))]
def zUk_token : List zCu := [(nat_lit 0, nat_lit 0, [(nat_lit 0, (.inr (.inr (.inl (nat_lit 0)))))], []), (nat_lit 90, nat_lit 1, [(nat_lit 0, (.inr (.inr (.inl (nat_lit 0)))))], []), (nat_lit 213, nat_lit 2, [(nat_lit 0, (.inr (.inr (.inl (nat_lit 0)))))], [])]
def zDk_token : List (List zK) := []
def zEk_token : List (List zK) := [[(nat_lit 12, nat_lit 0, [])]]
def zFk_token : List (List zK) := []
def zDk_token_0 : List (List zK) := [[(nat_lit 7, nat_lit 0, [(nat_lit 3, (.ofNat (nat_lit 0))), (nat_lit 0, (.ofNat (nat_lit 700)))]), (nat_lit 4, nat_lit 0, [(nat_lit 0, (.ofNat (nat_lit 0))), (nat_lit 0, (.ofNat (nat_lit 7)))]), (nat_lit 6, nat_lit 2, [(nat_lit 1, (.ofNat (nat_lit 0))), (nat_lit 2, (.ofNat (nat_lit 0)))]), (nat_lit 4, nat_lit 0, [(nat_lit 0, (.ofNat (nat_lit 0))), (nat_lit 0, (.ofNat (nat_lit 6)))]), (nat_lit 4, nat_lit 0, [(nat_lit 0, (.ofNat (nat_lit 0))), (nat_lit 0, (.ofNat (nat_lit 7)))])],
  [(nat_lit 7, nat_lit 0, [(nat_lit 5, (.ofNat (nat_lit 0))), (nat_lit 0, (.ofNat (nat_lit 700)))]), (nat_lit 4, nat_lit 0, [(nat_lit 0, (.ofNat (nat_lit 0))), (nat_lit 0, (.ofNat (nat_lit 7)))]), (nat_lit 6, nat_lit 1, [(nat_lit 4, (.ofNat (nat_lit 0))), (nat_lit 0, (.ofNat (nat_lit 10)))]), (nat_lit 4, nat_lit 0, [(nat_lit 1, (.ofNat (nat_lit 0))), (nat_lit 3, (.ofNat (nat_lit 0)))]), (nat_lit 4, nat_lit 0, [(nat_lit 0, (.ofNat (nat_lit 0))), (nat_lit 0, (.ofNat (nat_lit 7)))]), (nat_lit 6, nat_lit 2, [(nat_lit 1, (.ofNat (nat_lit 0))), (nat_lit 2, (.ofNat (nat_lit 0)))]), (nat_lit 4, nat_lit 0, [(nat_lit 0, (.ofNat (nat_lit 0))), (nat_lit 0, (.ofNat (nat_lit 6)))]), (nat_lit 4, nat_lit 0, [(nat_lit 0, (.ofNat (nat_lit 0))), (nat_lit 0, (.ofNat (nat_lit 7)))])],
  [(nat_lit 7, nat_lit 3, []), (nat_lit 6, nat_lit 0, [(nat_lit 8, (.ofNat (nat_lit 0))), (nat_lit 9, (.ofNat (nat_lit 0)))]), (nat_lit 4, nat_lit 0, [(nat_lit 0, (.ofNat (nat_lit 0))), (nat_lit 0, (.ofNat (nat_lit 6)))]), (nat_lit 4, nat_lit 0, [(nat_lit 0, (.ofNat (nat_lit 0))), (nat_lit 0, (.ofNat (nat_lit 7)))]), (nat_lit 5, nat_lit 0, [(nat_lit 0, (.ofNat (nat_lit 0))), (nat_lit 0, (.ofNat (nat_lit 10))), (nat_lit 7, (.ofNat (nat_lit 0)))]), (nat_lit 4, nat_lit 0, [(nat_lit 0, (.ofNat (nat_lit 0))), (nat_lit 0, (.ofNat (nat_lit 7)))]), (nat_lit 6, nat_lit 1, [(nat_lit 6, (.ofNat (nat_lit 0))), (nat_lit 0, (.ofNat (nat_lit 32)))]), (nat_lit 4, nat_lit 0, [(nat_lit 1, (.ofNat (nat_lit 0))), (nat_lit 5, (.ofNat (nat_lit 0)))]), (nat_lit 4, nat_lit 0, [(nat_lit 0, (.ofNat (nat_lit 0))), (nat_lit 0, (.ofNat (nat_lit 7)))]), (nat_lit 6, nat_lit 1, [(nat_lit 4, (.ofNat (nat_lit 0))), (nat_lit 0, (.ofNat (nat_lit 10)))]), (nat_lit 4, nat_lit 0, [(nat_lit 1, (.ofNat (nat_lit 0))), (nat_lit 3, (.ofNat (nat_lit 0)))]), (nat_lit 4, nat_lit 0, [(nat_lit 0, (.ofNat (nat_lit 0))), (nat_lit 0, (.ofNat (nat_lit 7)))]), (nat_lit 6, nat_lit 2, [(nat_lit 1, (.ofNat (nat_lit 0))), (nat_lit 2, (.ofNat (nat_lit 0)))]), (nat_lit 4, nat_lit 0, [(nat_lit 0, (.ofNat (nat_lit 0))), (nat_lit 0, (.ofNat (nat_lit 6)))]), (nat_lit 4, nat_lit 0, [(nat_lit 0, (.ofNat (nat_lit 0))), (nat_lit 0, (.ofNat (nat_lit 7)))])]]
def zEk_token_0 : List (List zK) := [[(nat_lit 13, nat_lit 0, [(nat_lit 6, (.ofNat (nat_lit 0)))]), (nat_lit 4, nat_lit 0, [(nat_lit 0, (.ofNat (nat_lit 0))), (nat_lit 0, (.ofNat (nat_lit 7)))]), (nat_lit 6, nat_lit 1, [(nat_lit 4, (.ofNat (nat_lit 0))), (nat_lit 5, (.ofNat (nat_lit 0)))]), (nat_lit 4, nat_lit 0, [(nat_lit 0, (.ofNat (nat_lit 0))), (nat_lit 0, (.ofNat (nat_lit 6)))]), (nat_lit 4, nat_lit 0, [(nat_lit 0, (.ofNat (nat_lit 0))), (nat_lit 0, (.ofNat (nat_lit 7)))]), (nat_lit 5, nat_lit 0, [(nat_lit 0, (.ofNat (nat_lit 0))), (nat_lit 0, (.ofNat (nat_lit 10))), (nat_lit 3, (.ofNat (nat_lit 0)))]), (nat_lit 4, nat_lit 0, [(nat_lit 0, (.ofNat (nat_lit 0))), (nat_lit 0, (.ofNat (nat_lit 7)))]), (nat_lit 6, nat_lit 3, [(nat_lit 1, (.ofNat (nat_lit 0))), (nat_lit 2, (.ofNat (nat_lit 0)))]), (nat_lit 4, nat_lit 0, [(nat_lit 0, (.ofNat (nat_lit 0))), (nat_lit 0, (.ofNat (nat_lit 6)))]), (nat_lit 4, nat_lit 0, [(nat_lit 0, (.ofNat (nat_lit 0))), (nat_lit 0, (.ofNat (nat_lit 7)))])],
  [(nat_lit 13, nat_lit 1, [(nat_lit 8, (.ofNat (nat_lit 0)))]), (nat_lit 4, nat_lit 0, [(nat_lit 0, (.ofNat (nat_lit 0))), (nat_lit 0, (.ofNat (nat_lit 7)))]), (nat_lit 6, nat_lit 0, [(nat_lit 7, (.ofNat (nat_lit 0))), (nat_lit 0, (.ofNat (nat_lit 0)))]), (nat_lit 8, nat_lit 0, [(nat_lit 6, (.ofNat (nat_lit 0)))]), (nat_lit 4, nat_lit 0, [(nat_lit 0, (.ofNat (nat_lit 0))), (nat_lit 0, (.ofNat (nat_lit 7)))]), (nat_lit 6, nat_lit 1, [(nat_lit 4, (.ofNat (nat_lit 0))), (nat_lit 5, (.ofNat (nat_lit 0)))]), (nat_lit 4, nat_lit 0, [(nat_lit 0, (.ofNat (nat_lit 0))), (nat_lit 0, (.ofNat (nat_lit 6)))]), (nat_lit 4, nat_lit 0, [(nat_lit 0, (.ofNat (nat_lit 0))), (nat_lit 0, (.ofNat (nat_lit 7)))]), (nat_lit 5, nat_lit 0, [(nat_lit 0, (.ofNat (nat_lit 0))), (nat_lit 0, (.ofNat (nat_lit 10))), (nat_lit 3, (.ofNat (nat_lit 0)))]), (nat_lit 4, nat_lit 0, [(nat_lit 0, (.ofNat (nat_lit 0))), (nat_lit 0, (.ofNat (nat_lit 7)))]), (nat_lit 6, nat_lit 3, [(nat_lit 1, (.ofNat (nat_lit 0))), (nat_lit 2, (.ofNat (nat_lit 0)))]), (nat_lit 4, nat_lit 0, [(nat_lit 0, (.ofNat (nat_lit 0))), (nat_lit 0, (.ofNat (nat_lit 6)))]), (nat_lit 4, nat_lit 0, [(nat_lit 0, (.ofNat (nat_lit 0))), (nat_lit 0, (.ofNat (nat_lit 7)))])],
  [(nat_lit 11, nat_lit 0, [(nat_lit 0, (.ofNat (nat_lit 0)))]), (nat_lit 8, nat_lit 4, []), (nat_lit 6, nat_lit 0, [(nat_lit 9, (.ofNat (nat_lit 0))), (nat_lit 0, (.ofNat (nat_lit 0)))]), (nat_lit 8, nat_lit 1, [(nat_lit 8, (.ofNat (nat_lit 0)))]), (nat_lit 4, nat_lit 0, [(nat_lit 0, (.ofNat (nat_lit 0))), (nat_lit 0, (.ofNat (nat_lit 7)))]), (nat_lit 6, nat_lit 0, [(nat_lit 7, (.ofNat (nat_lit 0))), (nat_lit 0, (.ofNat (nat_lit 0)))]), (nat_lit 8, nat_lit 0, [(nat_lit 6, (.ofNat (nat_lit 0)))]), (nat_lit 4, nat_lit 0, [(nat_lit 0, (.ofNat (nat_lit 0))), (nat_lit 0, (.ofNat (nat_lit 7)))]), (nat_lit 6, nat_lit 1, [(nat_lit 4, (.ofNat (nat_lit 0))), (nat_lit 5, (.ofNat (nat_lit 0)))]), (nat_lit 4, nat_lit 0, [(nat_lit 0, (.ofNat (nat_lit 0))), (nat_lit 0, (.ofNat (nat_lit 6)))]), (nat_lit 4, nat_lit 0, [(nat_lit 0, (.ofNat (nat_lit 0))), (nat_lit 0, (.ofNat (nat_lit 7)))]), (nat_lit 5, nat_lit 0, [(nat_lit 0, (.ofNat (nat_lit 0))), (nat_lit 0, (.ofNat (nat_lit 10))), (nat_lit 3, (.ofNat (nat_lit 0)))]), (nat_lit 4, nat_lit 0, [(nat_lit 0, (.ofNat (nat_lit 0))), (nat_lit 0, (.ofNat (nat_lit 7)))]), (nat_lit 6, nat_lit 3, [(nat_lit 1, (.ofNat (nat_lit 0))), (nat_lit 2, (.ofNat (nat_lit 0)))]), (nat_lit 4, nat_lit 0, [(nat_lit 0, (.ofNat (nat_lit 0))), (nat_lit 0, (.ofNat (nat_lit 6)))]), (nat_lit 4, nat_lit 0, [(nat_lit 0, (.ofNat (nat_lit 0))), (nat_lit 0, (.ofNat (nat_lit 7)))])],
  [(nat_lit 10, nat_lit 2, []), (nat_lit 5, nat_lit 0, [(nat_lit 0, (.ofNat (nat_lit 0))), (nat_lit 0, (.ofNat (nat_lit 9))), (nat_lit 0, (.ofNat (nat_lit 0)))]), (nat_lit 5, nat_lit 0, [(nat_lit 0, (.ofNat (nat_lit 0))), (nat_lit 0, (.ofNat (nat_lit 8))), (nat_lit 0, (.ofNat (nat_lit 3)))]), (nat_lit 6, nat_lit 1, [(nat_lit 9, (.ofNat (nat_lit 0))), (nat_lit 0, (.ofNat (nat_lit 0)))]), (nat_lit 8, nat_lit 1, [(nat_lit 8, (.ofNat (nat_lit 0)))]), (nat_lit 4, nat_lit 0, [(nat_lit 0, (.ofNat (nat_lit 0))), (nat_lit 0, (.ofNat (nat_lit 7)))]), (nat_lit 6, nat_lit 0, [(nat_lit 7, (.ofNat (nat_lit 0))), (nat_lit 0, (.ofNat (nat_lit 0)))]), (nat_lit 8, nat_lit 0, [(nat_lit 6, (.ofNat (nat_lit 0)))]), (nat_lit 4, nat_lit 0, [(nat_lit 0, (.ofNat (nat_lit 0))), (nat_lit 0, (.ofNat (nat_lit 7)))]), (nat_lit 6, nat_lit 1, [(nat_lit 4, (.ofNat (nat_lit 0))), (nat_lit 5, (.ofNat (nat_lit 0)))]), (nat_lit 4, nat_lit 0, [(nat_lit 0, (.ofNat (nat_lit 0))), (nat_lit 0, (.ofNat (nat_lit 6)))]), (nat_lit 4, nat_lit 0, [(nat_lit 0, (.ofNat (nat_lit 0))), (nat_lit 0, (.ofNat (nat_lit 7)))]), (nat_lit 5, nat_lit 0, [(nat_lit 0, (.ofNat (nat_lit 0))), (nat_lit 0, (.ofNat (nat_lit 10))), (nat_lit 3, (.ofNat (nat_lit 0)))]), (nat_lit 4, nat_lit 0, [(nat_lit 0, (.ofNat (nat_lit 0))), (nat_lit 0, (.ofNat (nat_lit 7)))]), (nat_lit 6, nat_lit 3, [(nat_lit 1, (.ofNat (nat_lit 0))), (nat_lit 2, (.ofNat (nat_lit 0)))]), (nat_lit 4, nat_lit 0, [(nat_lit 0, (.ofNat (nat_lit 0))), (nat_lit 0, (.ofNat (nat_lit 6)))]), (nat_lit 4, nat_lit 0, [(nat_lit 0, (.ofNat (nat_lit 0))), (nat_lit 0, (.ofNat (nat_lit 7)))])],
  [(nat_lit 10, nat_lit 1, []), (nat_lit 6, nat_lit 1, [(nat_lit 7, (.ofNat (nat_lit 0))), (nat_lit 0, (.ofNat (nat_lit 0)))]), (nat_lit 8, nat_lit 0, [(nat_lit 6, (.ofNat (nat_lit 0)))]), (nat_lit 4, nat_lit 0, [(nat_lit 0, (.ofNat (nat_lit 0))), (nat_lit 0, (.ofNat (nat_lit 7)))]), (nat_lit 6, nat_lit 1, [(nat_lit 4, (.ofNat (nat_lit 0))), (nat_lit 5, (.ofNat (nat_lit 0)))]), (nat_lit 4, nat_lit 0, [(nat_lit 0, (.ofNat (nat_lit 0))), (nat_lit 0, (.ofNat (nat_lit 6)))]), (nat_lit 4, nat_lit 0, [(nat_lit 0, (.ofNat (nat_lit 0))), (nat_lit 0, (.ofNat (nat_lit 7)))]), (nat_lit 5, nat_lit 0, [(nat_lit 0, (.ofNat (nat_lit 0))), (nat_lit 0, (.ofNat (nat_lit 10))), (nat_lit 3, (.ofNat (nat_lit 0)))]), (nat_lit 4, nat_lit 0, [(nat_lit 0, (.ofNat (nat_lit 0))), (nat_lit 0, (.ofNat (nat_lit 7)))]), (nat_lit 6, nat_lit 3, [(nat_lit 1, (.ofNat (nat_lit 0))), (nat_lit 2, (.ofNat (nat_lit 0)))]), (nat_lit 4, nat_lit 0, [(nat_lit 0, (.ofNat (nat_lit 0))), (nat_lit 0, (.ofNat (nat_lit 6)))]), (nat_lit 4, nat_lit 0, [(nat_lit 0, (.ofNat (nat_lit 0))), (nat_lit 0, (.ofNat (nat_lit 7)))])],
  [(nat_lit 11, nat_lit 0, [(nat_lit 0, (.ofNat (nat_lit 0)))]), (nat_lit 5, nat_lit 0, [(nat_lit 0, (.ofNat (nat_lit 0))), (nat_lit 0, (.ofNat (nat_lit 8))), (nat_lit 0, (.ofNat (nat_lit 0)))]), (nat_lit 6, nat_lit 0, [(nat_lit 4, (.ofNat (nat_lit 0))), (nat_lit 5, (.ofNat (nat_lit 0)))]), (nat_lit 4, nat_lit 0, [(nat_lit 0, (.ofNat (nat_lit 0))), (nat_lit 0, (.ofNat (nat_lit 6)))]), (nat_lit 4, nat_lit 0, [(nat_lit 0, (.ofNat (nat_lit 0))), (nat_lit 0, (.ofNat (nat_lit 7)))]), (nat_lit 5, nat_lit 0, [(nat_lit 0, (.ofNat (nat_lit 0))), (nat_lit 0, (.ofNat (nat_lit 10))), (nat_lit 3, (.ofNat (nat_lit 0)))]), (nat_lit 4, nat_lit 0, [(nat_lit 0, (.ofNat (nat_lit 0))), (nat_lit 0, (.ofNat (nat_lit 7)))]), (nat_lit 6, nat_lit 3, [(nat_lit 1, (.ofNat (nat_lit 0))), (nat_lit 2, (.ofNat (nat_lit 0)))]), (nat_lit 4, nat_lit 0, [(nat_lit 0, (.ofNat (nat_lit 0))), (nat_lit 0, (.ofNat (nat_lit 6)))]), (nat_lit 4, nat_lit 0, [(nat_lit 0, (.ofNat (nat_lit 0))), (nat_lit 0, (.ofNat (nat_lit 7)))])],
  [(nat_lit 10, nat_lit 0, []), (nat_lit 5, nat_lit 0, [(nat_lit 0, (.ofNat (nat_lit 0))), (nat_lit 0, (.ofNat (nat_lit 7))), (nat_lit 6, (.ofNat (nat_lit 0)))]), (nat_lit 0, nat_lit 1, [(nat_lit 5, (.ofNat (nat_lit 0))), (nat_lit 0, (.ofNat (nat_lit 1)))]), (nat_lit 4, nat_lit 0, [(nat_lit 0, (.ofNat (nat_lit 0))), (nat_lit 0, (.ofNat (nat_lit 7)))]), (nat_lit 6, nat_lit 0, [(nat_lit 4, (.ofNat (nat_lit 0))), (nat_lit 0, (.ofNat (nat_lit 10)))]), (nat_lit 4, nat_lit 0, [(nat_lit 1, (.ofNat (nat_lit 0))), (nat_lit 3, (.ofNat (nat_lit 0)))]), (nat_lit 4, nat_lit 0, [(nat_lit 0, (.ofNat (nat_lit 0))), (nat_lit 0, (.ofNat (nat_lit 7)))]), (nat_lit 6, nat_lit 2, [(nat_lit 1, (.ofNat (nat_lit 0))), (nat_lit 2, (.ofNat (nat_lit 0)))]), (nat_lit 4, nat_lit 0, [(nat_lit 0, (.ofNat (nat_lit 0))), (nat_lit 0, (.ofNat (nat_lit 6)))]), (nat_lit 4, nat_lit 0, [(nat_lit 0, (.ofNat (nat_lit 0))), (nat_lit 0, (.ofNat (nat_lit 7)))])],
  [(nat_lit 13, nat_lit 0, [(nat_lit 10, (.ofNat (nat_lit 0)))]), (nat_lit 4, nat_lit 0, [(nat_lit 0, (.ofNat (nat_lit 0))), (nat_lit 0, (.ofNat (nat_lit 7)))]), (nat_lit 6, nat_lit 1, [(nat_lit 8, (.ofNat (nat_lit 0))), (nat_lit 9, (.ofNat (nat_lit 0)))]), (nat_lit 4, nat_lit 0, [(nat_lit 0, (.ofNat (nat_lit 0))), (nat_lit 0, (.ofNat (nat_lit 6)))]), (nat_lit 4, nat_lit 0, [(nat_lit 0, (.ofNat (nat_lit 0))), (nat_lit 0, (.ofNat (nat_lit 7)))]), (nat_lit 5, nat_lit 0, [(nat_lit 0, (.ofNat (nat_lit 0))), (nat_lit 0, (.ofNat (nat_lit 10))), (nat_lit 7, (.ofNat (nat_lit 0)))]), (nat_lit 4, nat_lit 0, [(nat_lit 0, (.ofNat (nat_lit 0))), (nat_lit 0, (.ofNat (nat_lit 7)))]), (nat_lit 6, nat_lit 1, [(nat_lit 6, (.ofNat (nat_lit 0))), (nat_lit 0, (.ofNat (nat_lit 32)))]), (nat_lit 4, nat_lit 0, [(nat_lit 1, (.ofNat (nat_lit 0))), (nat_lit 5, (.ofNat (nat_lit 0)))]), (nat_lit 4, nat_lit 0, [(nat_lit 0, (.ofNat (nat_lit 0))), (nat_lit 0, (.ofNat (nat_lit 7)))]), (nat_lit 6, nat_lit 1, [(nat_lit 4, (.ofNat (nat_lit 0))), (nat_lit 0, (.ofNat (nat_lit 10)))]), (nat_lit 4, nat_lit 0, [(nat_lit 1, (.ofNat (nat_lit 0))), (nat_lit 3, (.ofNat (nat_lit 0)))]), (nat_lit 4, nat_lit 0, [(nat_lit 0, (.ofNat (nat_lit 0))), (nat_lit 0, (.ofNat (nat_lit 7)))]), (nat_lit 6, nat_lit 2, [(nat_lit 1, (.ofNat (nat_lit 0))), (nat_lit 2, (.ofNat (nat_lit 0)))]), (nat_lit 4, nat_lit 0, [(nat_lit 0, (.ofNat (nat_lit 0))), (nat_lit 0, (.ofNat (nat_lit 6)))]), (nat_lit 4, nat_lit 0, [(nat_lit 0, (.ofNat (nat_lit 0))), (nat_lit 0, (.ofNat (nat_lit 7)))])],
  [(nat_lit 13, nat_lit 1, [(nat_lit 12, (.ofNat (nat_lit 0)))]), (nat_lit 4, nat_lit 0, [(nat_lit 0, (.ofNat (nat_lit 0))), (nat_lit 0, (.ofNat (nat_lit 7)))]), (nat_lit 6, nat_lit 0, [(nat_lit 11, (.ofNat (nat_lit 0))), (nat_lit 0, (.ofNat (nat_lit 0)))]), (nat_lit 8, nat_lit 0, [(nat_lit 10, (.ofNat (nat_lit 0)))]), (nat_lit 4, nat_lit 0, [(nat_lit 0, (.ofNat (nat_lit 0))), (nat_lit 0, (.ofNat (nat_lit 7)))]), (nat_lit 6, nat_lit 1, [(nat_lit 8, (.ofNat (nat_lit 0))), (nat_lit 9, (.ofNat (nat_lit 0)))]), (nat_lit 4, nat_lit 0, [(nat_lit 0, (.ofNat (nat_lit 0))), (nat_lit 0, (.ofNat (nat_lit 6)))]), (nat_lit 4, nat_lit 0, [(nat_lit 0, (.ofNat (nat_lit 0))), (nat_lit 0, (.ofNat (nat_lit 7)))]), (nat_lit 5, nat_lit 0, [(nat_lit 0, (.ofNat (nat_lit 0))), (nat_lit 0, (.ofNat (nat_lit 10))), (nat_lit 7, (.ofNat (nat_lit 0)))]), (nat_lit 4, nat_lit 0, [(nat_lit 0, (.ofNat (nat_lit 0))), (nat_lit 0, (.ofNat (nat_lit 7)))]), (nat_lit 6, nat_lit 1, [(nat_lit 6, (.ofNat (nat_lit 0))), (nat_lit 0, (.ofNat (nat_lit 32)))]), (nat_lit 4, nat_lit 0, [(nat_lit 1, (.ofNat (nat_lit 0))), (nat_lit 5, (.ofNat (nat_lit 0)))]), (nat_lit 4, nat_lit 0, [(nat_lit 0, (.ofNat (nat_lit 0))), (nat_lit 0, (.ofNat (nat_lit 7)))]), (nat_lit 6, nat_lit 1, [(nat_lit 4, (.ofNat (nat_lit 0))), (nat_lit 0, (.ofNat (nat_lit 10)))]), (nat_lit 4, nat_lit 0, [(nat_lit 1, (.ofNat (nat_lit 0))), (nat_lit 3, (.ofNat (nat_lit 0)))]), (nat_lit 4, nat_lit 0, [(nat_lit 0, (.ofNat (nat_lit 0))), (nat_lit 0, (.ofNat (nat_lit 7)))]), (nat_lit 6, nat_lit 2, [(nat_lit 1, (.ofNat (nat_lit 0))), (nat_lit 2, (.ofNat (nat_lit 0)))]), (nat_lit 4, nat_lit 0, [(nat_lit 0, (.ofNat (nat_lit 0))), (nat_lit 0, (.ofNat (nat_lit 6)))]), (nat_lit 4, nat_lit 0, [(nat_lit 0, (.ofNat (nat_lit 0))), (nat_lit 0, (.ofNat (nat_lit 7)))])],
  [(nat_lit 13, nat_lit 4, []), (nat_lit 6, nat_lit 0, [(nat_lit 13, (.ofNat (nat_lit 0))), (nat_lit 0, (.ofNat (nat_lit 0)))]), (nat_lit 8, nat_lit 1, [(nat_lit 12, (.ofNat (nat_lit 0)))]), (nat_lit 4, nat_lit 0, [(nat_lit 0, (.ofNat (nat_lit 0))), (nat_lit 0, (.ofNat (nat_lit 7)))]), (nat_lit 6, nat_lit 0, [(nat_lit 11, (.ofNat (nat_lit 0))), (nat_lit 0, (.ofNat (nat_lit 0)))]), (nat_lit 8, nat_lit 0, [(nat_lit 10, (.ofNat (nat_lit 0)))]), (nat_lit 4, nat_lit 0, [(nat_lit 0, (.ofNat (nat_lit 0))), (nat_lit 0, (.ofNat (nat_lit 7)))]), (nat_lit 6, nat_lit 1, [(nat_lit 8, (.ofNat (nat_lit 0))), (nat_lit 9, (.ofNat (nat_lit 0)))]), (nat_lit 4, nat_lit 0, [(nat_lit 0, (.ofNat (nat_lit 0))), (nat_lit 0, (.ofNat (nat_lit 6)))]), (nat_lit 4, nat_lit 0, [(nat_lit 0, (.ofNat (nat_lit 0))), (nat_lit 0, (.ofNat (nat_lit 7)))]), (nat_lit 5, nat_lit 0, [(nat_lit 0, (.ofNat (nat_lit 0))), (nat_lit 0, (.ofNat (nat_lit 10))), (nat_lit 7, (.ofNat (nat_lit 0)))]), (nat_lit 4, nat_lit 0, [(nat_lit 0, (.ofNat (nat_lit 0))), (nat_lit 0, (.ofNat (nat_lit 7)))]), (nat_lit 6, nat_lit 1, [(nat_lit 6, (.ofNat (nat_lit 0))), (nat_lit 0, (.ofNat (nat_lit 32)))]), (nat_lit 4, nat_lit 0, [(nat_lit 1, (.ofNat (nat_lit 0))), (nat_lit 5, (.ofNat (nat_lit 0)))]), (nat_lit 4, nat_lit 0, [(nat_lit 0, (.ofNat (nat_lit 0))), (nat_lit 0, (.ofNat (nat_lit 7)))]), (nat_lit 6, nat_lit 1, [(nat_lit 4, (.ofNat (nat_lit 0))), (nat_lit 0, (.ofNat (nat_lit 10)))]), (nat_lit 4, nat_lit 0, [(nat_lit 1, (.ofNat (nat_lit 0))), (nat_lit 3, (.ofNat (nat_lit 0)))]), (nat_lit 4, nat_lit 0, [(nat_lit 0, (.ofNat (nat_lit 0))), (nat_lit 0, (.ofNat (nat_lit 7)))]), (nat_lit 6, nat_lit 2, [(nat_lit 1, (.ofNat (nat_lit 0))), (nat_lit 2, (.ofNat (nat_lit 0)))]), (nat_lit 4, nat_lit 0, [(nat_lit 0, (.ofNat (nat_lit 0))), (nat_lit 0, (.ofNat (nat_lit 6)))]), (nat_lit 4, nat_lit 0, [(nat_lit 0, (.ofNat (nat_lit 0))), (nat_lit 0, (.ofNat (nat_lit 7)))])],
  [(nat_lit 11, nat_lit 0, [(nat_lit 0, (.ofNat (nat_lit 0)))]), (nat_lit 8, nat_lit 4, []), (nat_lit 6, nat_lit 0, [(nat_lit 13, (.ofNat (nat_lit 0))), (nat_lit 0, (.ofNat (nat_lit 0)))]), (nat_lit 8, nat_lit 1, [(nat_lit 12, (.ofNat (nat_lit 0)))]), (nat_lit 4, nat_lit 0, [(nat_lit 0, (.ofNat (nat_lit 0))), (nat_lit 0, (.ofNat (nat_lit 7)))]), (nat_lit 6, nat_lit 0, [(nat_lit 11, (.ofNat (nat_lit 0))), (nat_lit 0, (.ofNat (nat_lit 0)))]), (nat_lit 8, nat_lit 0, [(nat_lit 10, (.ofNat (nat_lit 0)))]), (nat_lit 4, nat_lit 0, [(nat_lit 0, (.ofNat (nat_lit 0))), (nat_lit 0, (.ofNat (nat_lit 7)))]), (nat_lit 6, nat_lit 1, [(nat_lit 8, (.ofNat (nat_lit 0))), (nat_lit 9, (.ofNat (nat_lit 0)))]), (nat_lit 4, nat_lit 0, [(nat_lit 0, (.ofNat (nat_lit 0))), (nat_lit 0, (.ofNat (nat_lit 6)))]), (nat_lit 4, nat_lit 0, [(nat_lit 0, (.ofNat (nat_lit 0))), (nat_lit 0, (.ofNat (nat_lit 7)))]), (nat_lit 5, nat_lit 0, [(nat_lit 0, (.ofNat (nat_lit 0))), (nat_lit 0, (.ofNat (nat_lit 10))), (nat_lit 7, (.ofNat (nat_lit 0)))]), (nat_lit 4, nat_lit 0, [(nat_lit 0, (.ofNat (nat_lit 0))), (nat_lit 0, (.ofNat (nat_lit 7)))]), (nat_lit 6, nat_lit 1, [(nat_lit 6, (.ofNat (nat_lit 0))), (nat_lit 0, (.ofNat (nat_lit 32)))]), (nat_lit 4, nat_lit 0, [(nat_lit 1, (.ofNat (nat_lit 0))), (nat_lit 5, (.ofNat (nat_lit 0)))]), (nat_lit 4, nat_lit 0, [(nat_lit 0, (.ofNat (nat_lit 0))), (nat_lit 0, (.ofNat (nat_lit 7)))]), (nat_lit 6, nat_lit 1, [(nat_lit 4, (.ofNat (nat_lit 0))), (nat_lit 0, (.ofNat (nat_lit 10)))]), (nat_lit 4, nat_lit 0, [(nat_lit 1, (.ofNat (nat_lit 0))), (nat_lit 3, (.ofNat (nat_lit 0)))]), (nat_lit 4, nat_lit 0, [(nat_lit 0, (.ofNat (nat_lit 0))), (nat_lit 0, (.ofNat (nat_lit 7)))]), (nat_lit 6, nat_lit 2, [(nat_lit 1, (.ofNat (nat_lit 0))), (nat_lit 2, (.ofNat (nat_lit 0)))]), (nat_lit 4, nat_lit 0, [(nat_lit 0, (.ofNat (nat_lit 0))), (nat_lit 0, (.ofNat (nat_lit 6)))]), (nat_lit 4, nat_lit 0, [(nat_lit 0, (.ofNat (nat_lit 0))), (nat_lit 0, (.ofNat (nat_lit 7)))])],
  [(nat_lit 10, nat_lit 2, []), (nat_lit 5, nat_lit 0, [(nat_lit 0, (.ofNat (nat_lit 0))), (nat_lit 0, (.ofNat (nat_lit 9))), (nat_lit 0, (.ofNat (nat_lit 0)))]), (nat_lit 5, nat_lit 0, [(nat_lit 0, (.ofNat (nat_lit 0))), (nat_lit 0, (.ofNat (nat_lit 8))), (nat_lit 0, (.ofNat (nat_lit 3)))]), (nat_lit 6, nat_lit 1, [(nat_lit 13, (.ofNat (nat_lit 0))), (nat_lit 0, (.ofNat (nat_lit 0)))]), (nat_lit 8, nat_lit 1, [(nat_lit 12, (.ofNat (nat_lit 0)))]), (nat_lit 4, nat_lit 0, [(nat_lit 0, (.ofNat (nat_lit 0))), (nat_lit 0, (.ofNat (nat_lit 7)))]), (nat_lit 6, nat_lit 0, [(nat_lit 11, (.ofNat (nat_lit 0))), (nat_lit 0, (.ofNat (nat_lit 0)))]), (nat_lit 8, nat_lit 0, [(nat_lit 10, (.ofNat (nat_lit 0)))]), (nat_lit 4, nat_lit 0, [(nat_lit 0, (.ofNat (nat_lit 0))), (nat_lit 0, (.ofNat (nat_lit 7)))]), (nat_lit 6, nat_lit 1, [(nat_lit 8, (.ofNat (nat_lit 0))), (nat_lit 9, (.ofNat (nat_lit 0)))]), (nat_lit 4, nat_lit 0, [(nat_lit 0, (.ofNat (nat_lit 0))), (nat_lit 0, (.ofNat (nat_lit 6)))]), (nat_lit 4, nat_lit 0, [(nat_lit 0, (.ofNat (nat_lit 0))), (nat_lit 0, (.ofNat (nat_lit 7)))]), (nat_lit 5, nat_lit 0, [(nat_lit 0, (.ofNat (nat_lit 0))), (nat_lit 0, (.ofNat (nat_lit 10))), (nat_lit 7, (.ofNat (nat_lit 0)))]), (nat_lit 4, nat_lit 0, [(nat_lit 0, (.ofNat (nat_lit 0))), (nat_lit 0, (.ofNat (nat_lit 7)))]), (nat_lit 6, nat_lit 1, [(nat_lit 6, (.ofNat (nat_lit 0))), (nat_lit 0, (.ofNat (nat_lit 32)))]), (nat_lit 4, nat_lit 0, [(nat_lit 1, (.ofNat (nat_lit 0))), (nat_lit 5, (.ofNat (nat_lit 0)))]), (nat_lit 4, nat_lit 0, [(nat_lit 0, (.ofNat (nat_lit 0))), (nat_lit 0, (.ofNat (nat_lit 7)))]), (nat_lit 6, nat_lit 1, [(nat_lit 4, (.ofNat (nat_lit 0))), (nat_lit 0, (.ofNat (nat_lit 10)))]), (nat_lit 4, nat_lit 0, [(nat_lit 1, (.ofNat (nat_lit 0))), (nat_lit 3, (.ofNat (nat_lit 0)))]), (nat_lit 4, nat_lit 0, [(nat_lit 0, (.ofNat (nat_lit 0))), (nat_lit 0, (.ofNat (nat_lit 7)))]), (nat_lit 6, nat_lit 2, [(nat_lit 1, (.ofNat (nat_lit 0))), (nat_lit 2, (.ofNat (nat_lit 0)))]), (nat_lit 4, nat_lit 0, [(nat_lit 0, (.ofNat (nat_lit 0))), (nat_lit 0, (.ofNat (nat_lit 6)))]), (nat_lit 4, nat_lit 0, [(nat_lit 0, (.ofNat (nat_lit 0))), (nat_lit 0, (.ofNat (nat_lit 7)))])],
  [(nat_lit 10, nat_lit 1, []), (nat_lit 6, nat_lit 1, [(nat_lit 11, (.ofNat (nat_lit 0))), (nat_lit 0, (.ofNat (nat_lit 0)))]), (nat_lit 8, nat_lit 0, [(nat_lit 10, (.ofNat (nat_lit 0)))]), (nat_lit 4, nat_lit 0, [(nat_lit 0, (.ofNat (nat_lit 0))), (nat_lit 0, (.ofNat (nat_lit 7)))]), (nat_lit 6, nat_lit 1, [(nat_lit 8, (.ofNat (nat_lit 0))), (nat_lit 9, (.ofNat (nat_lit 0)))]), (nat_lit 4, nat_lit 0, [(nat_lit 0, (.ofNat (nat_lit 0))), (nat_lit 0, (.ofNat (nat_lit 6)))]), (nat_lit 4, nat_lit 0, [(nat_lit 0, (.ofNat (nat_lit 0))), (nat_lit 0, (.ofNat (nat_lit 7)))]), (nat_lit 5, nat_lit 0, [(nat_lit 0, (.ofNat (nat_lit 0))), (nat_lit 0, (.ofNat (nat_lit 10))), (nat_lit 7, (.ofNat (nat_lit 0)))]), (nat_lit 4, nat_lit 0, [(nat_lit 0, (.ofNat (nat_lit 0))), (nat_lit 0, (.ofNat (nat_lit 7)))]), (nat_lit 6, nat_lit 1, [(nat_lit 6, (.ofNat (nat_lit 0))), (nat_lit 0, (.ofNat (nat_lit 32)))]), (nat_lit 4, nat_lit 0, [(nat_lit 1, (.ofNat (nat_lit 0))), (nat_lit 5, (.ofNat (nat_lit 0)))]), (nat_lit 4, nat_lit 0, [(nat_lit 0, (.ofNat (nat_lit 0))), (nat_lit 0, (.ofNat (nat_lit 7)))]), (nat_lit 6, nat_lit 1, [(nat_lit 4, (.ofNat (nat_lit 0))), (nat_lit 0, (.ofNat (nat_lit 10)))]), (nat_lit 4, nat_lit 0, [(nat_lit 1, (.ofNat (nat_lit 0))), (nat_lit 3, (.ofNat (nat_lit 0)))]), (nat_lit 4, nat_lit 0, [(nat_lit 0, (.ofNat (nat_lit 0))), (nat_lit 0, (.ofNat (nat_lit 7)))]), (nat_lit 6, nat_lit 2, [(nat_lit 1, (.ofNat (nat_lit 0))), (nat_lit 2, (.ofNat (nat_lit 0)))]), (nat_lit 4, nat_lit 0, [(nat_lit 0, (.ofNat (nat_lit 0))), (nat_lit 0, (.ofNat (nat_lit 6)))]), (nat_lit 4, nat_lit 0, [(nat_lit 0, (.ofNat (nat_lit 0))), (nat_lit 0, (.ofNat (nat_lit 7)))])],
  [(nat_lit 10, nat_lit 0, []), (nat_lit 5, nat_lit 0, [(nat_lit 0, (.ofNat (nat_lit 0))), (nat_lit 0, (.ofNat (nat_lit 7))), (nat_lit 8, (.ofNat (nat_lit 0)))]), (nat_lit 0, nat_lit 1, [(nat_lit 7, (.ofNat (nat_lit 0))), (nat_lit 0, (.ofNat (nat_lit 1)))]), (nat_lit 4, nat_lit 0, [(nat_lit 0, (.ofNat (nat_lit 0))), (nat_lit 0, (.ofNat (nat_lit 7)))]), (nat_lit 6, nat_lit 0, [(nat_lit 6, (.ofNat (nat_lit 0))), (nat_lit 0, (.ofNat (nat_lit 32)))]), (nat_lit 4, nat_lit 0, [(nat_lit 1, (.ofNat (nat_lit 0))), (nat_lit 5, (.ofNat (nat_lit 0)))]), (nat_lit 4, nat_lit 0, [(nat_lit 0, (.ofNat (nat_lit 0))), (nat_lit 0, (.ofNat (nat_lit 7)))]), (nat_lit 6, nat_lit 1, [(nat_lit 4, (.ofNat (nat_lit 0))), (nat_lit 0, (.ofNat (nat_lit 10)))]), (nat_lit 4, nat_lit 0, [(nat_lit 1, (.ofNat (nat_lit 0))), (nat_lit 3, (.ofNat (nat_lit 0)))]), (nat_lit 4, nat_lit 0, [(nat_lit 0, (.ofNat (nat_lit 0))), (nat_lit 0, (.ofNat (nat_lit 7)))]), (nat_lit 6, nat_lit 2, [(nat_lit 1, (.ofNat (nat_lit 0))), (nat_lit 2, (.ofNat (nat_lit 0)))]), (nat_lit 4, nat_lit 0, [(nat_lit 0, (.ofNat (nat_lit 0))), (nat_lit 0, (.ofNat (nat_lit 6)))]), (nat_lit 4, nat_lit 0, [(nat_lit 0, (.ofNat (nat_lit 0))), (nat_lit 0, (.ofNat (nat_lit 7)))])]]
def zFk_token_0 : List (List zK) := [[(nat_lit 13, nat_lit 4, []), (nat_lit 6, nat_lit 0, [(nat_lit 9, (.ofNat (nat_lit 0))), (nat_lit 0, (.ofNat (nat_lit 0)))]), (nat_lit 8, nat_lit 1, [(nat_lit 8, (.ofNat (nat_lit 0)))]), (nat_lit 4, nat_lit 0, [(nat_lit 0, (.ofNat (nat_lit 0))), (nat_lit 0, (.ofNat (nat_lit 7)))]), (nat_lit 6, nat_lit 0, [(nat_lit 7, (.ofNat (nat_lit 0))), (nat_lit 0, (.ofNat (nat_lit 0)))]), (nat_lit 8, nat_lit 0, [(nat_lit 6, (.ofNat (nat_lit 0)))]), (nat_lit 4, nat_lit 0, [(nat_lit 0, (.ofNat (nat_lit 0))), (nat_lit 0, (.ofNat (nat_lit 7)))]), (nat_lit 6, nat_lit 1, [(nat_lit 4, (.ofNat (nat_lit 0))), (nat_lit 5, (.ofNat (nat_lit 0)))]), (nat_lit 4, nat_lit 0, [(nat_lit 0, (.ofNat (nat_lit 0))), (nat_lit 0, (.ofNat (nat_lit 6)))]), (nat_lit 4, nat_lit 0, [(nat_lit 0, (.ofNat (nat_lit 0))), (nat_lit 0, (.ofNat (nat_lit 7)))]), (nat_lit 5, nat_lit 0, [(nat_lit 0, (.ofNat (nat_lit 0))), (nat_lit 0, (.ofNat (nat_lit 10))), (nat_lit 3, (.ofNat (nat_lit 0)))]), (nat_lit 4, nat_lit 0, [(nat_lit 0, (.ofNat (nat_lit 0))), (nat_lit 0, (.ofNat (nat_lit 7)))]), (nat_lit 6, nat_lit 3, [(nat_lit 1, (.ofNat (nat_lit 0))), (nat_lit 2, (.ofNat (nat_lit 0)))]), (nat_lit 4, nat_lit 0, [(nat_lit 0, (.ofNat (nat_lit 0))), (nat_lit 0, (.ofNat (nat_lit 6)))]), (nat_lit 4, nat_lit 0, [(nat_lit 0, (.ofNat (nat_lit 0))), (nat_lit 0, (.ofNat (nat_lit 7)))])]]
def zDk_token_1 : List (List zK) := [[(nat_lit 7, nat_lit 3, []), (nat_lit 6, nat_lit 1, [(nat_lit 10, (.ofNat (nat_lit 0))), (nat_lit 0, (.ofNat (nat_lit 2)))]), (nat_lit 4, nat_lit 0, [(nat_lit 0, (.ofNat (nat_lit 0))), (nat_lit 0, (.ofNat (nat_lit 8)))]), (nat_lit 5, nat_lit 0, [(nat_lit 0, (.ofNat (nat_lit 0))), (nat_lit 0, (.ofNat (nat_lit 8))), (nat_lit 0, (.ofNat (nat_lit 2)))]), (nat_lit 6, nat_lit 5, [(nat_lit 9, (.ofNat (nat_lit 0))), (nat_lit 0, (.ofNat (nat_lit 6)))]), (nat_lit 0, nat_lit 2, [(nat_lit 7, (.ofNat (nat_lit 0))), (nat_lit 8, (.ofNat (nat_lit 0)))]), (nat_lit 4, nat_lit 0, [(nat_lit 0, (.ofNat (nat_lit 0))), (nat_lit 0, (.ofNat (nat_lit 10)))]), (nat_lit 4, nat_lit 0, [(nat_lit 0, (.ofNat (nat_lit 0))), (nat_lit 0, (.ofNat (nat_lit 7)))]), (nat_lit 6, nat_lit 2, [(nat_lit 6, (.ofNat (nat_lit 0))), (nat_lit 0, (.ofNat (nat_lit 0)))]), (nat_lit 4, nat_lit 0, [(nat_lit 0, (.ofNat (nat_lit 0))), (nat_lit 0, (.ofNat (nat_lit 9)))]), (nat_lit 5, nat_lit 0, [(nat_lit 0, (.ofNat (nat_lit 0))), (nat_lit 0, (.ofNat (nat_lit 9))), (nat_lit 5, (.ofNat (nat_lit 0)))]), (nat_lit 8, nat_lit 2, [(nat_lit 3, (.ofNat (nat_lit 0))), (nat_lit 4, (.ofNat (nat_lit 0)))]), (nat_lit 4, nat_lit 0, [(nat_lit 0, (.ofNat (nat_lit 0))), (nat_lit 0, (.ofNat (nat_lit 7)))]), (nat_lit 4, nat_lit 0, [(nat_lit 0, (.ofNat (nat_lit 0))), (nat_lit 0, (.ofNat (nat_lit 10)))]), (nat_lit 6, nat_lit 0, [(nat_lit 2, (.ofNat (nat_lit 0))), (nat_lit 0, (.ofNat (nat_lit 0)))]), (nat_lit 8, nat_lit 0, [(nat_lit 1, (.ofNat (nat_lit 0)))]), (nat_lit 4, nat_lit 0, [(nat_lit 0, (.ofNat (nat_lit 0))), (nat_lit 0, (.ofNat (nat_lit 7)))])],
  [(nat_lit 7, nat_lit 3, []), (nat_lit 6, nat_lit 0, [(nat_lit 10, (.ofNat (nat_lit 0))), (nat_lit 0, (.ofNat (nat_lit 2)))]), (nat_lit 4, nat_lit 0, [(nat_lit 0, (.ofNat (nat_lit 0))), (nat_lit 0, (.ofNat (nat_lit 8)))]), (nat_lit 5, nat_lit 0, [(nat_lit 0, (.ofNat (nat_lit 0))), (nat_lit 0, (.ofNat (nat_lit 8))), (nat_lit 0, (.ofNat (nat_lit 6)))]), (nat_lit 6, nat_lit 4, [(nat_lit 9, (.ofNat (nat_lit 0))), (nat_lit 0, (.ofNat (nat_lit 6)))]), (nat_lit 0, nat_lit 2, [(nat_lit 7, (.ofNat (nat_lit 0))), (nat_lit 8, (.ofNat (nat_lit 0)))]), (nat_lit 4, nat_lit 0, [(nat_lit 0, (.ofNat (nat_lit 0))), (nat_lit 0, (.ofNat (nat_lit 10)))]), (nat_lit 4, nat_lit 0, [(nat_lit 0, (.ofNat (nat_lit 0))), (nat_lit 0, (.ofNat (nat_lit 7)))]), (nat_lit 6, nat_lit 2, [(nat_lit 6, (.ofNat (nat_lit 0))), (nat_lit 0, (.ofNat (nat_lit 0)))]), (nat_lit 4, nat_lit 0, [(nat_lit 0, (.ofNat (nat_lit 0))), (nat_lit 0, (.ofNat (nat_lit 9)))]), (nat_lit 5, nat_lit 0, [(nat_lit 0, (.ofNat (nat_lit 0))), (nat_lit 0, (.ofNat (nat_lit 9))), (nat_lit 5, (.ofNat (nat_lit 0)))]), (nat_lit 8, nat_lit 2, [(nat_lit 3, (.ofNat (nat_lit 0))), (nat_lit 4, (.ofNat (nat_lit 0)))]), (nat_lit 4, nat_lit 0, [(nat_lit 0, (.ofNat (nat_lit 0))), (nat_lit 0, (.ofNat (nat_lit 7)))]), (nat_lit 4, nat_lit 0, [(nat_lit 0, (.ofNat (nat_lit 0))), (nat_lit 0, (.ofNat (nat_lit 10)))]), (nat_lit 6, nat_lit 0, [(nat_lit 2, (.ofNat (nat_lit 0))), (nat_lit 0, (.ofNat (nat_lit 0)))]), (nat_lit 8, nat_lit 0, [(nat_lit 1, (.ofNat (nat_lit 0)))]), (nat_lit 4, nat_lit 0, [(nat_lit 0, (.ofNat (nat_lit 0))), (nat_lit 0, (.ofNat (nat_lit 7)))])],
  [(nat_lit 7, nat_lit 3, []), (nat_lit 6, nat_lit 0, [(nat_lit 7, (.ofNat (nat_lit 0))), (nat_lit 0, (.ofNat (nat_lit 2)))]), (nat_lit 4, nat_lit 0, [(nat_lit 0, (.ofNat (nat_lit 0))), (nat_lit 0, (.ofNat (nat_lit 8)))]), (nat_lit 5, nat_lit 0, [(nat_lit 0, (.ofNat (nat_lit 0))), (nat_lit 0, (.ofNat (nat_lit 8))), (nat_lit 0, (.ofNat (nat_lit 1)))]), (nat_lit 6, nat_lit 3, [(nat_lit 6, (.ofNat (nat_lit 0))), (nat_lit 0, (.ofNat (nat_lit 0)))]), (nat_lit 4, nat_lit 0, [(nat_lit 0, (.ofNat (nat_lit 0))), (nat_lit 0, (.ofNat (nat_lit 9)))]), (nat_lit 5, nat_lit 0, [(nat_lit 0, (.ofNat (nat_lit 0))), (nat_lit 0, (.ofNat (nat_lit 9))), (nat_lit 5, (.ofNat (nat_lit 0)))]), (nat_lit 8, nat_lit 2, [(nat_lit 3, (.ofNat (nat_lit 0))), (nat_lit 4, (.ofNat (nat_lit 0)))]), (nat_lit 4, nat_lit 0, [(nat_lit 0, (.ofNat (nat_lit 0))), (nat_lit 0, (.ofNat (nat_lit 7)))]), (nat_lit 4, nat_lit 0, [(nat_lit 0, (.ofNat (nat_lit 0))), (nat_lit 0, (.ofNat (nat_lit 10)))]), (nat_lit 6, nat_lit 0, [(nat_lit 2, (.ofNat (nat_lit 0))), (nat_lit 0, (.ofNat (nat_lit 0)))]), (nat_lit 8, nat_lit 0, [(nat_lit 1, (.ofNat (nat_lit 0)))]), (nat_lit 4, nat_lit 0, [(nat_lit 0, (.ofNat (nat_lit 0))), (nat_lit 0, (.ofNat (nat_lit 7)))])]]
def zEk_token_1 : List (List zK) := [[(nat_lit 13, nat_lit 0, [(nat_lit 1, (.ofNat (nat_lit 0)))]), (nat_lit 4, nat_lit 0, [(nat_lit 0, (.ofNat (nat_lit 0))), (nat_lit 0, (.ofNat (nat_lit 7)))])],
  [(nat_lit 13, nat_lit 2, [(nat_lit 3, (.ofNat (nat_lit 0))), (nat_lit 4, (.ofNat (nat_lit 0)))]), (nat_lit 4, nat_lit 0, [(nat_lit 0, (.ofNat (nat_lit 0))), (nat_lit 0, (.ofNat (nat_lit 7)))]), (nat_lit 4, nat_lit 0, [(nat_lit 0, (.ofNat (nat_lit 0))), (nat_lit 0, (.ofNat (nat_lit 10)))]), (nat_lit 6, nat_lit 0, [(nat_lit 2, (.ofNat (nat_lit 0))), (nat_lit 0, (.ofNat (nat_lit 0)))]), (nat_lit 8, nat_lit 0, [(nat_lit 1, (.ofNat (nat_lit 0)))]), (nat_lit 4, nat_lit 0, [(nat_lit 0, (.ofNat (nat_lit 0))), (nat_lit 0, (.ofNat (nat_lit 7)))])],
  [(nat_lit 13, nat_lit 3, [(nat_lit 11, (.ofNat (nat_lit 0))), (nat_lit 12, (.ofNat (nat_lit 0)))]), (nat_lit 4, nat_lit 0, [(nat_lit 0, (.ofNat (nat_lit 0))), (nat_lit 0, (.ofNat (nat_lit 7)))]), (nat_lit 4, nat_lit 0, [(nat_lit 0, (.ofNat (nat_lit 0))), (nat_lit 0, (.ofNat (nat_lit 10)))]), (nat_lit 6, nat_lit 0, [(nat_lit 10, (.ofNat (nat_lit 0))), (nat_lit 0, (.ofNat (nat_lit 2)))]), (nat_lit 4, nat_lit 0, [(nat_lit 0, (.ofNat (nat_lit 0))), (nat_lit 0, (.ofNat (nat_lit 8)))]), (nat_lit 5, nat_lit 0, [(nat_lit 0, (.ofNat (nat_lit 0))), (nat_lit 0, (.ofNat (nat_lit 8))), (nat_lit 0, (.ofNat (nat_lit 2)))]), (nat_lit 6, nat_lit 5, [(nat_lit 9, (.ofNat (nat_lit 0))), (nat_lit 0, (.ofNat (nat_lit 6)))]), (nat_lit 0, nat_lit 2, [(nat_lit 7, (.ofNat (nat_lit 0))), (nat_lit 8, (.ofNat (nat_lit 0)))]), (nat_lit 4, nat_lit 0, [(nat_lit 0, (.ofNat (nat_lit 0))), (nat_lit 0, (.ofNat (nat_lit 10)))]), (nat_lit 4, nat_lit 0, [(nat_lit 0, (.ofNat (nat_lit 0))), (nat_lit 0, (.ofNat (nat_lit 7)))]), (nat_lit 6, nat_lit 2, [(nat_lit 6, (.ofNat (nat_lit 0))), (nat_lit 0, (.ofNat (nat_lit 0)))]), (nat_lit 4, nat_lit 0, [(nat_lit 0, (.ofNat (nat_lit 0))), (nat_lit 0, (.ofNat (nat_lit 9)))]), (nat_lit 5, nat_lit 0, [(nat_lit 0, (.ofNat (nat_lit 0))), (nat_lit 0, (.ofNat (nat_lit 9))), (nat_lit 5, (.ofNat (nat_lit 0)))]), (nat_lit 8, nat_lit 2, [(nat_lit 3, (.ofNat (nat_lit 0))), (nat_lit 4, (.ofNat (nat_lit 0)))]), (nat_lit 4, nat_lit 0, [(nat_lit 0, (.ofNat (nat_lit 0))), (nat_lit 0, (.ofNat (nat_lit 7)))]), (nat_lit 4, nat_lit 0, [(nat_lit 0, (.ofNat (nat_lit 0))), (nat_lit 0, (.ofNat (nat_lit 10)))]), (nat_lit 6, nat_lit 0, [(nat_lit 2, (.ofNat (nat_lit 0))), (nat_lit 0, (.ofNat (nat_lit 0)))]), (nat_lit 8, nat_lit 0, [(nat_lit 1, (.ofNat (nat_lit 0)))]), (nat_lit 4, nat_lit 0, [(nat_lit 0, (.ofNat (nat_lit 0))), (nat_lit 0, (.ofNat (nat_lit 7)))])],
  [(nat_lit 11, nat_lit 0, [(nat_lit 0, (.ofNat (nat_lit 0)))]), (nat_lit 5, nat_lit 0, [(nat_lit 0, (.ofNat (nat_lit 0))), (nat_lit 0, (.ofNat (nat_lit 9))), (nat_lit 13, (.ofNat (nat_lit 0)))]), (nat_lit 8, nat_lit 3, [(nat_lit 11, (.ofNat (nat_lit 0))), (nat_lit 12, (.ofNat (nat_lit 0)))]), (nat_lit 4, nat_lit 0, [(nat_lit 0, (.ofNat (nat_lit 0))), (nat_lit 0, (.ofNat (nat_lit 7)))]), (nat_lit 4, nat_lit 0, [(nat_lit 0, (.ofNat (nat_lit 0))), (nat_lit 0, (.ofNat (nat_lit 10)))]), (nat_lit 6, nat_lit 0, [(nat_lit 10, (.ofNat (nat_lit 0))), (nat_lit 0, (.ofNat (nat_lit 2)))]), (nat_lit 4, nat_lit 0, [(nat_lit 0, (.ofNat (nat_lit 0))), (nat_lit 0, (.ofNat (nat_lit 8)))]), (nat_lit 5, nat_lit 0, [(nat_lit 0, (.ofNat (nat_lit 0))), (nat_lit 0, (.ofNat (nat_lit 8))), (nat_lit 0, (.ofNat (nat_lit 2)))]), (nat_lit 6, nat_lit 5, [(nat_lit 9, (.ofNat (nat_lit 0))), (nat_lit 0, (.ofNat (nat_lit 6)))]), (nat_lit 0, nat_lit 2, [(nat_lit 7, (.ofNat (nat_lit 0))), (nat_lit 8, (.ofNat (nat_lit 0)))]), (nat_lit 4, nat_lit 0, [(nat_lit 0, (.ofNat (nat_lit 0))), (nat_lit 0, (.ofNat (nat_lit 10)))]), (nat_lit 4, nat_lit 0, [(nat_lit 0, (.ofNat (nat_lit 0))), (nat_lit 0, (.ofNat (nat_lit 7)))]), (nat_lit 6, nat_lit 2, [(nat_lit 6, (.ofNat (nat_lit 0))), (nat_lit 0, (.ofNat (nat_lit 0)))]), (nat_lit 4, nat_lit 0, [(nat_lit 0, (.ofNat (nat_lit 0))), (nat_lit 0, (.ofNat (nat_lit 9)))]), (nat_lit 5, nat_lit 0, [(nat_lit 0, (.ofNat (nat_lit 0))), (nat_lit 0, (.ofNat (nat_lit 9))), (nat_lit 5, (.ofNat (nat_lit 0)))]), (nat_lit 8, nat_lit 2, [(nat_lit 3, (.ofNat (nat_lit 0))), (nat_lit 4, (.ofNat (nat_lit 0)))]), (nat_lit 4, nat_lit 0, [(nat_lit 0, (.ofNat (nat_lit 0))), (nat_lit 0, (.ofNat (nat_lit 7)))]), (nat_lit 4, nat_lit 0, [(nat_lit 0, (.ofNat (nat_lit 0))), (nat_lit 0, (.ofNat (nat_lit 10)))]), (nat_lit 6, nat_lit 0, [(nat_lit 2, (.ofNat (nat_lit 0))), (nat_lit 0, (.ofNat (nat_lit 0)))]), (nat_lit 8, nat_lit 0, [(nat_lit 1, (.ofNat (nat_lit 0)))]), (nat_lit 4, nat_lit 0, [(nat_lit 0, (.ofNat (nat_lit 0))), (nat_lit 0, (.ofNat (nat_lit 7)))])],
  [(nat_lit 11, nat_lit 0, [(nat_lit 0, (.ofNat (nat_lit 0)))]), (nat_lit 6, nat_lit 1, [(nat_lit 10, (.ofNat (nat_lit 0))), (nat_lit 0, (.ofNat (nat_lit 2)))]), (nat_lit 4, nat_lit 0, [(nat_lit 0, (.ofNat (nat_lit 0))), (nat_lit 0, (.ofNat (nat_lit 8)))]), (nat_lit 5, nat_lit 0, [(nat_lit 0, (.ofNat (nat_lit 0))), (nat_lit 0, (.ofNat (nat_lit 8))), (nat_lit 0, (.ofNat (nat_lit 6)))]), (nat_lit 6, nat_lit 4, [(nat_lit 9, (.ofNat (nat_lit 0))), (nat_lit 0, (.ofNat (nat_lit 6)))]), (nat_lit 0, nat_lit 2, [(nat_lit 7, (.ofNat (nat_lit 0))), (nat_lit 8, (.ofNat (nat_lit 0)))]), (nat_lit 4, nat_lit 0, [(nat_lit 0, (.ofNat (nat_lit 0))), (nat_lit 0, (.ofNat (nat_lit 10)))]), (nat_lit 4, nat_lit 0, [(nat_lit 0, (.ofNat (nat_lit 0))), (nat_lit 0, (.ofNat (nat_lit 7)))]), (nat_lit 6, nat_lit 2, [(nat_lit 6, (.ofNat (nat_lit 0))), (nat_lit 0, (.ofNat (nat_lit 0)))]), (nat_lit 4, nat_lit 0, [(nat_lit 0, (.ofNat (nat_lit 0))), (nat_lit 0, (.ofNat (nat_lit 9)))]), (nat_lit 5, nat_lit 0, [(nat_lit 0, (.ofNat (nat_lit 0))), (nat_lit 0, (.ofNat (nat_lit 9))), (nat_lit 5, (.ofNat (nat_lit 0)))]), (nat_lit 8, nat_lit 2, [(nat_lit 3, (.ofNat (nat_lit 0))), (nat_lit 4, (.ofNat (nat_lit 0)))]), (nat_lit 4, nat_lit 0, [(nat_lit 0, (.ofNat (nat_lit 0))), (nat_lit 0, (.ofNat (nat_lit 7)))]), (nat_lit 4, nat_lit 0, [(nat_lit 0, (.ofNat (nat_lit 0))), (nat_lit 0, (.ofNat (nat_lit 10)))]), (nat_lit 6, nat_lit 0, [(nat_lit 2, (.ofNat (nat_lit 0))), (nat_lit 0, (.ofNat (nat_lit 0)))]), (nat_lit 8, nat_lit 0, [(nat_lit 1, (.ofNat (nat_lit 0)))]), (nat_lit 4, nat_lit 0, [(nat_lit 0, (.ofNat (nat_lit 0))), (nat_lit 0, (.ofNat (nat_lit 7)))])],
  [(nat_lit 11, nat_lit 0, [(nat_lit 0, (.ofNat (nat_lit 0)))]), (nat_lit 6, nat_lit 1, [(nat_lit 7, (.ofNat (nat_lit 0))), (nat_lit 0, (.ofNat (nat_lit 2)))]), (nat_lit 4, nat_lit 0, [(nat_lit 0, (.ofNat (nat_lit 0))), (nat_lit 0, (.ofNat (nat_lit 8)))]), (nat_lit 5, nat_lit 0, [(nat_lit 0, (.ofNat (nat_lit 0))), (nat_lit 0, (.ofNat (nat_lit 8))), (nat_lit 0, (.ofNat (nat_lit 1)))]), (nat_lit 6, nat_lit 3, [(nat_lit 6, (.ofNat (nat_lit 0))), (nat_lit 0, (.ofNat (nat_lit 0)))]), (nat_lit 4, nat_lit 0, [(nat_lit 0, (.ofNat (nat_lit 0))), (nat_lit 0, (.ofNat (nat_lit 9)))]), (nat_lit 5, nat_lit 0, [(nat_lit 0, (.ofNat (nat_lit 0))), (nat_lit 0, (.ofNat (nat_lit 9))), (nat_lit 5, (.ofNat (nat_lit 0)))]), (nat_lit 8, nat_lit 2, [(nat_lit 3, (.ofNat (nat_lit 0))), (nat_lit 4, (.ofNat (nat_lit 0)))]), (nat_lit 4, nat_lit 0, [(nat_lit 0, (.ofNat (nat_lit 0))), (nat_lit 0, (.ofNat (nat_lit 7)))]), (nat_lit 4, nat_lit 0, [(nat_lit 0, (.ofNat (nat_lit 0))), (nat_lit 0, (.ofNat (nat_lit 10)))]), (nat_lit 6, nat_lit 0, [(nat_lit 2, (.ofNat (nat_lit 0))), (nat_lit 0, (.ofNat (nat_lit 0)))]), (nat_lit 8, nat_lit 0, [(nat_lit 1, (.ofNat (nat_lit 0)))]), (nat_lit 4, nat_lit 0, [(nat_lit 0, (.ofNat (nat_lit 0))), (nat_lit 0, (.ofNat (nat_lit 7)))])],
  [(nat_lit 10, nat_lit 1, []), (nat_lit 5, nat_lit 0, [(nat_lit 0, (.ofNat (nat_lit 0))), (nat_lit 0, (.ofNat (nat_lit 7))), (nat_lit 4, (.ofNat (nat_lit 0)))]), (nat_lit 0, nat_lit 1, [(nat_lit 3, (.ofNat (nat_lit 0))), (nat_lit 0, (.ofNat (nat_lit 1)))]), (nat_lit 4, nat_lit 0, [(nat_lit 0, (.ofNat (nat_lit 0))), (nat_lit 0, (.ofNat (nat_lit 7)))]), (nat_lit 6, nat_lit 1, [(nat_lit 2, (.ofNat (nat_lit 0))), (nat_lit 0, (.ofNat (nat_lit 0)))]), (nat_lit 8, nat_lit 0, [(nat_lit 1, (.ofNat (nat_lit 0)))]), (nat_lit 4, nat_lit 0, [(nat_lit 0, (.ofNat (nat_lit 0))), (nat_lit 0, (.ofNat (nat_lit 7)))])]]
def zFk_token_1 : List (List zK) := []
def zDk_token_2 : List (List zK) := [[(nat_lit 7, nat_lit 0, [(nat_lit 6, (.ofNat (nat_lit 0))), (nat_lit 0, (.ofNat (nat_lit 700)))]), (nat_lit 4, nat_lit 0, [(nat_lit 0, (.ofNat (nat_lit 0))), (nat_lit 0, (.ofNat (nat_lit 7)))]), (nat_lit 0, nat_lit 3, [(nat_lit 0, (.ofNat (nat_lit 10))), (nat_lit 4, (.ofNat (nat_lit 0)))]), (nat_lit 4, nat_lit 0, [(nat_lit 0, (.ofNat (nat_lit 0))), (nat_lit 0, (.ofNat (nat_lit 9)))]), (nat_lit 6, nat_lit 5, [(nat_lit 3, (.ofNat (nat_lit 0))), (nat_lit 0, (.ofNat (nat_lit 99999)))]), (nat_lit 4, nat_lit 0, [(nat_lit 0, (.ofNat (nat_lit 0))), (nat_lit 0, (.ofNat (nat_lit 9)))]), (nat_lit 6, nat_lit 1, [(nat_lit 2, (.ofNat (nat_lit 0))), (nat_lit 0, (.ofNat (nat_lit 0)))]), (nat_lit 8, nat_lit 1, [(nat_lit 1, (.ofNat (nat_lit 0)))]), (nat_lit 4, nat_lit 0, [(nat_lit 0, (.ofNat (nat_lit 0))), (nat_lit 0, (.ofNat (nat_lit 7)))])]]
def zEk_token_2 : List (List zK) := [[(nat_lit 13, nat_lit 1, [(nat_lit 1, (.ofNat (nat_lit 0)))]), (nat_lit 4, nat_lit 0, [(nat_lit 0, (.ofNat (nat_lit 0))), (nat_lit 0, (.ofNat (nat_lit 7)))])],
  [(nat_lit 11, nat_lit 0, [(nat_lit 0, (.ofNat (nat_lit 0)))]), (nat_lit 6, nat_lit 0, [(nat_lit 2, (.ofNat (nat_lit 0))), (nat_lit 0, (.ofNat (nat_lit 0)))]), (nat_lit 8, nat_lit 1, [(nat_lit 1, (.ofNat (nat_lit 0)))]), (nat_lit 4, nat_lit 0, [(nat_lit 0, (.ofNat (nat_lit 0))), (nat_lit 0, (.ofNat (nat_lit 7)))])],
  [(nat_lit 10, nat_lit 2, []), (nat_lit 5, nat_lit 0, [(nat_lit 0, (.ofNat (nat_lit 0))), (nat_lit 0, (.ofNat (nat_lit 7))), (nat_lit 11, (.ofNat (nat_lit 0)))]), (nat_lit 0, nat_lit 1, [(nat_lit 10, (.ofNat (nat_lit 0))), (nat_lit 0, (.ofNat (nat_lit 1)))]), (nat_lit 4, nat_lit 0, [(nat_lit 0, (.ofNat (nat_lit 0))), (nat_lit 0, (.ofNat (nat_lit 7)))]), (nat_lit 5, nat_lit 0, [(nat_lit 0, (.ofNat (nat_lit 0))), (nat_lit 0, (.ofNat (nat_lit 9))), (nat_lit 9, (.ofNat (nat_lit 0)))]), (nat_lit 0, nat_lit 2, [(nat_lit 8, (.ofNat (nat_lit 0))), (nat_lit 0, (.ofNat (nat_lit 48)))]), (nat_lit 0, nat_lit 1, [(nat_lit 5, (.ofNat (nat_lit 0))), (nat_lit 7, (.ofNat (nat_lit 0)))]), (nat_lit 4, nat_lit 0, [(nat_lit 1, (.ofNat (nat_lit 0))), (nat_lit 6, (.ofNat (nat_lit 0)))]), (nat_lit 4, nat_lit 0, [(nat_lit 0, (.ofNat (nat_lit 0))), (nat_lit 0, (.ofNat (nat_lit 7)))]), (nat_lit 0, nat_lit 3, [(nat_lit 0, (.ofNat (nat_lit 10))), (nat_lit 4, (.ofNat (nat_lit 0)))]), (nat_lit 4, nat_lit 0, [(nat_lit 0, (.ofNat (nat_lit 0))), (nat_lit 0, (.ofNat (nat_lit 9)))]), (nat_lit 6, nat_lit 5, [(nat_lit 3, (.ofNat (nat_lit 0))), (nat_lit 0, (.ofNat (nat_lit 99999)))]), (nat_lit 4, nat_lit 0, [(nat_lit 0, (.ofNat (nat_lit 0))), (nat_lit 0, (.ofNat (nat_lit 9)))]), (nat_lit 6, nat_lit 1, [(nat_lit 2, (.ofNat (nat_lit 0))), (nat_lit 0, (.ofNat (nat_lit 0)))]), (nat_lit 8, nat_lit 1, [(nat_lit 1, (.ofNat (nat_lit 0)))]), (nat_lit 4, nat_lit 0, [(nat_lit 0, (.ofNat (nat_lit 0))), (nat_lit 0, (.ofNat (nat_lit 7)))])],
  [(nat_lit 10, nat_lit 2, []), (nat_lit 5, nat_lit 0, [(nat_lit 0, (.ofNat (nat_lit 0))), (nat_lit 0, (.ofNat (nat_lit 7))), (nat_lit 6, (.ofNat (nat_lit 0)))]), (nat_lit 0, nat_lit 1, [(nat_lit 5, (.ofNat (nat_lit 0))), (nat_lit 0, (.ofNat (nat_lit 1)))]), (nat_lit 4, nat_lit 0, [(nat_lit 0, (.ofNat (nat_lit 0))), (nat_lit 0, (.ofNat (nat_lit 7)))]), (nat_lit 5, nat_lit 0, [(nat_lit 0, (.ofNat (nat_lit 0))), (nat_lit 0, (.ofNat (nat_lit 9))), (nat_lit 4, (.ofNat (nat_lit 0)))]), (nat_lit 4, nat_lit 0, [(nat_lit 0, (.ofNat (nat_lit 0))), (nat_lit 0, (.ofNat (nat_lit 9)))]), (nat_lit 6, nat_lit 4, [(nat_lit 3, (.ofNat (nat_lit 0))), (nat_lit 0, (.ofNat (nat_lit 99999)))]), (nat_lit 4, nat_lit 0, [(nat_lit 0, (.ofNat (nat_lit 0))), (nat_lit 0, (.ofNat (nat_lit 9)))]), (nat_lit 6, nat_lit 1, [(nat_lit 2, (.ofNat (nat_lit 0))), (nat_lit 0, (.ofNat (nat_lit 0)))]), (nat_lit 8, nat_lit 1, [(nat_lit 1, (.ofNat (nat_lit 0)))]), (nat_lit 4, nat_lit 0, [(nat_lit 0, (.ofNat (nat_lit 0))), (nat_lit 0, (.ofNat (nat_lit 7)))])]]
def zFk_token_2 : List (List zK) := []
set_option maxHeartbeats 8000000 in
theorem zk_token {ro : Nat → List Int32} : zMet pr_P pr_K pr_df ro (sm_X0 1 6) 1 122 tm_k [(.inr (.inr (.inl (nat_lit 0))))] 0 [(nat_lit 0, nat_lit 0, nat_lit 1), (nat_lit 0, nat_lit 3, nat_lit 2), (nat_lit 0, nat_lit 20, nat_lit 3), (nat_lit 0, nat_lit 21, nat_lit 4), (nat_lit 0, nat_lit 22, nat_lit 5), (nat_lit 0, nat_lit 23, nat_lit 6), (nat_lit 0, nat_lit 24, nat_lit 7), (nat_lit 0, nat_lit 25, nat_lit 8), (nat_lit 0, nat_lit 26, nat_lit 9), (nat_lit 0, nat_lit 27, nat_lit 10), (nat_lit 0, nat_lit 28, nat_lit 11), (nat_lit 0, nat_lit 29, nat_lit 12), (nat_lit 0, nat_lit 30, nat_lit 13), (nat_lit 0, nat_lit 31, nat_lit 14), (nat_lit 0, nat_lit 32, nat_lit 15), (nat_lit 0, nat_lit 33, nat_lit 16), (nat_lit 0, nat_lit 34, nat_lit 17), (nat_lit 0, nat_lit 35, nat_lit 18), (nat_lit 0, nat_lit 36, nat_lit 19), (nat_lit 0, nat_lit 37, nat_lit 20), (nat_lit 0, nat_lit 38, nat_lit 21), (nat_lit 0, nat_lit 39, nat_lit 22), (nat_lit 0, nat_lit 40, nat_lit 23), (nat_lit 0, nat_lit 47, nat_lit 24), (nat_lit 0, nat_lit 48, nat_lit 25), (nat_lit 0, nat_lit 50, nat_lit 26), (nat_lit 0, nat_lit 51, nat_lit 27), (nat_lit 0, nat_lit 52, nat_lit 28), (nat_lit 0, nat_lit 53, nat_lit 29), (nat_lit 0, nat_lit 54, nat_lit 30), (nat_lit 0, nat_lit 55, nat_lit 31), (nat_lit 0, nat_lit 56, nat_lit 32), (nat_lit 0, nat_lit 57, nat_lit 33), (nat_lit 0, nat_lit 58, nat_lit 34), (nat_lit 0, nat_lit 59, nat_lit 35), (nat_lit 0, nat_lit 72, nat_lit 36), (nat_lit 0, nat_lit 73, nat_lit 37), (nat_lit 0, nat_lit 76, nat_lit 38), (nat_lit 0, nat_lit 77, nat_lit 39), (nat_lit 0, nat_lit 79, nat_lit 40), (nat_lit 0, nat_lit 81, nat_lit 41), (nat_lit 0, nat_lit 82, nat_lit 42)] [] (fun xs η => sP wl_k zTr zPk_token xs η ∧ pPk_token xs η) (fun xs η y η' => sQ wl_k zTr zOk_token zMk_token xs η y η' ∧ pQk_token xs η y η') :=
  zmet_alt (zmea_gen (mi := (nat_lit 0, nat_lit 1, nat_lit 8, nat_lit 1, nat_lit 0, tX8_token)) (cd := [(nat_lit 120, nat_lit 0, nat_lit 0, [(.inr (.inr (.inl (nat_lit 0)))), (.inl (nat_lit 1, (.ofNat (nat_lit 0))))], nat_lit 2, [(nat_lit 0, nat_lit 0, nat_lit 1), (nat_lit 0, nat_lit 3, nat_lit 2), (nat_lit 0, nat_lit 20, nat_lit 3), (nat_lit 0, nat_lit 21, nat_lit 4), (nat_lit 0, nat_lit 22, nat_lit 5), (nat_lit 0, nat_lit 23, nat_lit 6), (nat_lit 0, nat_lit 24, nat_lit 7), (nat_lit 0, nat_lit 25, nat_lit 8), (nat_lit 0, nat_lit 26, nat_lit 9), (nat_lit 0, nat_lit 27, nat_lit 10), (nat_lit 0, nat_lit 28, nat_lit 11), (nat_lit 0, nat_lit 29, nat_lit 12), (nat_lit 0, nat_lit 30, nat_lit 13), (nat_lit 0, nat_lit 31, nat_lit 14), (nat_lit 0, nat_lit 32, nat_lit 15), (nat_lit 0, nat_lit 33, nat_lit 16), (nat_lit 0, nat_lit 34, nat_lit 17), (nat_lit 0, nat_lit 35, nat_lit 18), (nat_lit 0, nat_lit 36, nat_lit 19), (nat_lit 0, nat_lit 37, nat_lit 20), (nat_lit 0, nat_lit 38, nat_lit 21), (nat_lit 0, nat_lit 39, nat_lit 22), (nat_lit 0, nat_lit 40, nat_lit 23), (nat_lit 0, nat_lit 47, nat_lit 24), (nat_lit 0, nat_lit 48, nat_lit 25), (nat_lit 0, nat_lit 50, nat_lit 26), (nat_lit 0, nat_lit 51, nat_lit 27), (nat_lit 0, nat_lit 52, nat_lit 28), (nat_lit 0, nat_lit 53, nat_lit 29), (nat_lit 0, nat_lit 54, nat_lit 30), (nat_lit 0, nat_lit 55, nat_lit 31), (nat_lit 0, nat_lit 56, nat_lit 32), (nat_lit 0, nat_lit 57, nat_lit 33), (nat_lit 0, nat_lit 58, nat_lit 34), (nat_lit 0, nat_lit 59, nat_lit 35), (nat_lit 0, nat_lit 72, nat_lit 36), (nat_lit 0, nat_lit 73, nat_lit 37), (nat_lit 0, nat_lit 76, nat_lit 38), (nat_lit 0, nat_lit 77, nat_lit 39), (nat_lit 0, nat_lit 79, nat_lit 40), (nat_lit 0, nat_lit 81, nat_lit 41), (nat_lit 0, nat_lit 82, nat_lit 42)], []), (nat_lit 121, nat_lit 1, nat_lit 0, [(.inr (.inr (.inl (nat_lit 0)))), (.inl (nat_lit 1, (.ofNat (nat_lit 0))))], nat_lit 2, [(nat_lit 0, nat_lit 0, nat_lit 1), (nat_lit 0, nat_lit 3, nat_lit 2), (nat_lit 0, nat_lit 20, nat_lit 3), (nat_lit 0, nat_lit 21, nat_lit 4), (nat_lit 0, nat_lit 22, nat_lit 5), (nat_lit 0, nat_lit 23, nat_lit 6), (nat_lit 0, nat_lit 24, nat_lit 7), (nat_lit 0, nat_lit 25, nat_lit 8), (nat_lit 0, nat_lit 26, nat_lit 9), (nat_lit 0, nat_lit 27, nat_lit 10), (nat_lit 0, nat_lit 28, nat_lit 11), (nat_lit 0, nat_lit 29, nat_lit 12), (nat_lit 0, nat_lit 30, nat_lit 13), (nat_lit 0, nat_lit 31, nat_lit 14), (nat_lit 0, nat_lit 32, nat_lit 15), (nat_lit 0, nat_lit 33, nat_lit 16), (nat_lit 0, nat_lit 34, nat_lit 17), (nat_lit 0, nat_lit 35, nat_lit 18), (nat_lit 0, nat_lit 36, nat_lit 19), (nat_lit 0, nat_lit 37, nat_lit 20), (nat_lit 0, nat_lit 38, nat_lit 21), (nat_lit 0, nat_lit 39, nat_lit 22), (nat_lit 0, nat_lit 40, nat_lit 23), (nat_lit 0, nat_lit 47, nat_lit 24), (nat_lit 0, nat_lit 48, nat_lit 25), (nat_lit 0, nat_lit 50, nat_lit 26), (nat_lit 0, nat_lit 51, nat_lit 27), (nat_lit 0, nat_lit 52, nat_lit 28), (nat_lit 0, nat_lit 53, nat_lit 29), (nat_lit 0, nat_lit 54, nat_lit 30), (nat_lit 0, nat_lit 55, nat_lit 31), (nat_lit 0, nat_lit 56, nat_lit 32), (nat_lit 0, nat_lit 57, nat_lit 33), (nat_lit 0, nat_lit 58, nat_lit 34), (nat_lit 0, nat_lit 59, nat_lit 35), (nat_lit 0, nat_lit 72, nat_lit 36), (nat_lit 0, nat_lit 73, nat_lit 37), (nat_lit 0, nat_lit 76, nat_lit 38), (nat_lit 0, nat_lit 77, nat_lit 39), (nat_lit 0, nat_lit 79, nat_lit 40), (nat_lit 0, nat_lit 81, nat_lit 41), (nat_lit 0, nat_lit 82, nat_lit 42)], []), (nat_lit 119, nat_lit 2, nat_lit 0, [(.inr (.inr (.inl (nat_lit 0)))), (.inl (nat_lit 1, (.ofNat (nat_lit 0)))), (.inl (nat_lit 2, (.ofNat (nat_lit 0))))], nat_lit 1, [(nat_lit 0, nat_lit 0, nat_lit 1), (nat_lit 0, nat_lit 3, nat_lit 2), (nat_lit 0, nat_lit 20, nat_lit 3), (nat_lit 0, nat_lit 21, nat_lit 4), (nat_lit 0, nat_lit 22, nat_lit 5), (nat_lit 0, nat_lit 23, nat_lit 6), (nat_lit 0, nat_lit 24, nat_lit 7), (nat_lit 0, nat_lit 25, nat_lit 8), (nat_lit 0, nat_lit 26, nat_lit 9), (nat_lit 0, nat_lit 27, nat_lit 10), (nat_lit 0, nat_lit 28, nat_lit 11), (nat_lit 0, nat_lit 29, nat_lit 12), (nat_lit 0, nat_lit 30, nat_lit 13), (nat_lit 0, nat_lit 31, nat_lit 14), (nat_lit 0, nat_lit 32, nat_lit 15), (nat_lit 0, nat_lit 33, nat_lit 16), (nat_lit 0, nat_lit 34, nat_lit 17), (nat_lit 0, nat_lit 35, nat_lit 18), (nat_lit 0, nat_lit 36, nat_lit 19), (nat_lit 0, nat_lit 37, nat_lit 20), (nat_lit 0, nat_lit 38, nat_lit 21), (nat_lit 0, nat_lit 39, nat_lit 22), (nat_lit 0, nat_lit 40, nat_lit 23), (nat_lit 0, nat_lit 47, nat_lit 24), (nat_lit 0, nat_lit 48, nat_lit 25), (nat_lit 0, nat_lit 50, nat_lit 26), (nat_lit 0, nat_lit 51, nat_lit 27), (nat_lit 0, nat_lit 52, nat_lit 28), (nat_lit 0, nat_lit 53, nat_lit 29), (nat_lit 0, nat_lit 54, nat_lit 30), (nat_lit 0, nat_lit 55, nat_lit 31), (nat_lit 0, nat_lit 56, nat_lit 32), (nat_lit 0, nat_lit 57, nat_lit 33), (nat_lit 0, nat_lit 58, nat_lit 34), (nat_lit 0, nat_lit 59, nat_lit 35), (nat_lit 0, nat_lit 72, nat_lit 36), (nat_lit 0, nat_lit 73, nat_lit 37), (nat_lit 0, nat_lit 76, nat_lit 38), (nat_lit 0, nat_lit 77, nat_lit 39), (nat_lit 0, nat_lit 79, nat_lit 40), (nat_lit 0, nat_lit 81, nat_lit 41), (nat_lit 0, nat_lit 82, nat_lit 42)], []), (nat_lit 124, nat_lit 3, nat_lit 0, [(.inr (.inr (.inl (nat_lit 0)))), (.inl (nat_lit 1, (.ofNat (nat_lit 0)))), (.inl (nat_lit 2, (.ofNat (nat_lit 0))))], nat_lit 1, [(nat_lit 0, nat_lit 0, nat_lit 1), (nat_lit 0, nat_lit 3, nat_lit 2), (nat_lit 0, nat_lit 20, nat_lit 3), (nat_lit 0, nat_lit 21, nat_lit 4), (nat_lit 0, nat_lit 22, nat_lit 5), (nat_lit 0, nat_lit 23, nat_lit 6), (nat_lit 0, nat_lit 24, nat_lit 7), (nat_lit 0, nat_lit 25, nat_lit 8), (nat_lit 0, nat_lit 26, nat_lit 9), (nat_lit 0, nat_lit 27, nat_lit 10), (nat_lit 0, nat_lit 28, nat_lit 11), (nat_lit 0, nat_lit 29, nat_lit 12), (nat_lit 0, nat_lit 30, nat_lit 13), (nat_lit 0, nat_lit 31, nat_lit 14), (nat_lit 0, nat_lit 32, nat_lit 15), (nat_lit 0, nat_lit 33, nat_lit 16), (nat_lit 0, nat_lit 34, nat_lit 17), (nat_lit 0, nat_lit 35, nat_lit 18), (nat_lit 0, nat_lit 36, nat_lit 19), (nat_lit 0, nat_lit 37, nat_lit 20), (nat_lit 0, nat_lit 38, nat_lit 21), (nat_lit 0, nat_lit 39, nat_lit 22), (nat_lit 0, nat_lit 40, nat_lit 23), (nat_lit 0, nat_lit 47, nat_lit 24), (nat_lit 0, nat_lit 48, nat_lit 25), (nat_lit 0, nat_lit 50, nat_lit 26), (nat_lit 0, nat_lit 51, nat_lit 27), (nat_lit 0, nat_lit 52, nat_lit 28), (nat_lit 0, nat_lit 53, nat_lit 29), (nat_lit 0, nat_lit 54, nat_lit 30), (nat_lit 0, nat_lit 55, nat_lit 31), (nat_lit 0, nat_lit 56, nat_lit 32), (nat_lit 0, nat_lit 57, nat_lit 33), (nat_lit 0, nat_lit 58, nat_lit 34), (nat_lit 0, nat_lit 59, nat_lit 35), (nat_lit 0, nat_lit 72, nat_lit 36), (nat_lit 0, nat_lit 73, nat_lit 37), (nat_lit 0, nat_lit 76, nat_lit 38), (nat_lit 0, nat_lit 77, nat_lit 39), (nat_lit 0, nat_lit 79, nat_lit 40), (nat_lit 0, nat_lit 81, nat_lit 41), (nat_lit 0, nat_lit 82, nat_lit 42)], []), (nat_lit 123, nat_lit 4, nat_lit 0, [(.inr (.inr (.inl (nat_lit 0))))], nat_lit 0, [(nat_lit 0, nat_lit 0, nat_lit 1), (nat_lit 0, nat_lit 3, nat_lit 2), (nat_lit 0, nat_lit 20, nat_lit 3), (nat_lit 0, nat_lit 21, nat_lit 4), (nat_lit 0, nat_lit 22, nat_lit 5), (nat_lit 0, nat_lit 23, nat_lit 6), (nat_lit 0, nat_lit 24, nat_lit 7), (nat_lit 0, nat_lit 25, nat_lit 8), (nat_lit 0, nat_lit 26, nat_lit 9), (nat_lit 0, nat_lit 27, nat_lit 10), (nat_lit 0, nat_lit 28, nat_lit 11), (nat_lit 0, nat_lit 29, nat_lit 12), (nat_lit 0, nat_lit 30, nat_lit 13), (nat_lit 0, nat_lit 31, nat_lit 14), (nat_lit 0, nat_lit 32, nat_lit 15), (nat_lit 0, nat_lit 33, nat_lit 16), (nat_lit 0, nat_lit 34, nat_lit 17), (nat_lit 0, nat_lit 35, nat_lit 18), (nat_lit 0, nat_lit 36, nat_lit 19), (nat_lit 0, nat_lit 37, nat_lit 20), (nat_lit 0, nat_lit 38, nat_lit 21), (nat_lit 0, nat_lit 39, nat_lit 22), (nat_lit 0, nat_lit 40, nat_lit 23), (nat_lit 0, nat_lit 47, nat_lit 24), (nat_lit 0, nat_lit 48, nat_lit 25), (nat_lit 0, nat_lit 50, nat_lit 26), (nat_lit 0, nat_lit 51, nat_lit 27), (nat_lit 0, nat_lit 52, nat_lit 28), (nat_lit 0, nat_lit 53, nat_lit 29), (nat_lit 0, nat_lit 54, nat_lit 30), (nat_lit 0, nat_lit 55, nat_lit 31), (nat_lit 0, nat_lit 56, nat_lit 32), (nat_lit 0, nat_lit 57, nat_lit 33), (nat_lit 0, nat_lit 58, nat_lit 34), (nat_lit 0, nat_lit 59, nat_lit 35), (nat_lit 0, nat_lit 72, nat_lit 36), (nat_lit 0, nat_lit 73, nat_lit 37), (nat_lit 0, nat_lit 76, nat_lit 38), (nat_lit 0, nat_lit 77, nat_lit 39), (nat_lit 0, nat_lit 79, nat_lit 40), (nat_lit 0, nat_lit 81, nat_lit 41), (nat_lit 0, nat_lit 82, nat_lit 42)], [])]) (cu := zUk_token) (cs := [(nat_lit 0, zPk_isSmall, zOk_isSmall, zMk_isSmall), (nat_lit 1, zPk_isDigit, zOk_isDigit, zMk_isDigit), (nat_lit 2, zPk_wordAt, zOk_wordAt, zMk_wordAt), (nat_lit 3, zPk_packed, zOk_packed, zMk_packed), (nat_lit 4, zPk_signToken, zOk_signToken, zMk_signToken)]) (iv := zVk_token) (po := [zOk_token]) (pr := zPk_token) (mods := zMk_token) (D7 := zDk_token) (D0 := zEk_token) (Dm := zFk_token) (f0 := 5) pCk_token qCk_token iCk_token pPk_token (fun xs η _ y η' => pQk_token xs η y η') zX_low pr_mtR rfl (List.forall_mem_cons.mpr ⟨zk_isSmall, List.forall_mem_cons.mpr ⟨zk_isDigit, List.forall_mem_cons.mpr ⟨zk_wordAt, List.forall_mem_cons.mpr ⟨zk_packed, List.forall_mem_cons.mpr ⟨zk_signToken, fun _ h => nomatch h⟩⟩⟩⟩⟩) (by decide +kernel) (by decide +kernel) (by decide +kernel)
    (by
      intro xs η hr hl hp hpp
      match xs, hl, hp, hpp with
      | [], _, hp, hpp =>
        refine List.forall_mem_cons.mpr ⟨?_, fun _ h => nomatch h⟩
        · show (iCk_token [] η) 0 [] η
          exact ⟨hpp, Int.le_refl _, rfl⟩
      )
    (fun _ _ _ _ _ _ _ h => nomatch h)
    (List.forall_mem_cons.mpr ⟨⟨zDk_token_0, zEk_token_0, zFk_token_0, 49, by decide +kernel, (by
      intro xs η0 hlx hp hpp ys η hr hl hI hig
      match ys, hl, hI, hig with
      | [], _, hI, hig =>
        refine ⟨?_, ?_⟩
        · refine List.forall_mem_cons.mpr ⟨?_, List.forall_mem_cons.mpr ⟨?_, List.forall_mem_cons.mpr ⟨?_, List.forall_mem_cons.mpr ⟨?_, List.forall_mem_cons.mpr ⟨?_, List.forall_mem_cons.mpr ⟨?_, List.forall_mem_cons.mpr ⟨?_, List.forall_mem_cons.mpr ⟨?_, List.forall_mem_cons.mpr ⟨?_, List.forall_mem_cons.mpr ⟨?_, List.forall_mem_cons.mpr ⟨?_, List.forall_mem_cons.mpr ⟨?_, List.forall_mem_cons.mpr ⟨?_, List.forall_mem_cons.mpr ⟨?_, fun _ h => nomatch h⟩⟩⟩⟩⟩⟩⟩⟩⟩⟩⟩⟩⟩⟩
          · show ∀ x1 : Int, x1 = η 0 (Int.toNat 7) → zok 0 x1 → ∀ x2 : Int, x2 = η 0 (Int.toNat 6) → zok 0 x2 → (x2 ≤ x1) → ∀ x3 : Int, x3 = η 0 (Int.toNat 7) → zok 0 x3 → ∀ η1 : zE, η1 = zup η 0 (Int.toNat 10) x3 → ∀ x4 : Int, x4 = η1 0 (Int.toNat 7) → zok 0 x4 → ∀ x5 : Int, x5 = η1 0 (Int.toNat 6) → zok 0 x5 → (¬ x4 = x5) → ∀ x6 : Int, x6 = η1 0 (Int.toNat 7) → zok 0 x6 → ((gC2 wl_k [(nat_lit 0, zPk_isSmall, zOk_isSmall, zMk_isSmall), (nat_lit 1, zPk_isDigit, zOk_isDigit, zMk_isDigit), (nat_lit 2, zPk_wordAt, zOk_wordAt, zMk_wordAt), (nat_lit 3, zPk_packed, zOk_packed, zMk_packed), (nat_lit 4, zPk_signToken, zOk_signToken, zMk_signToken)] pCk_token qCk_token) 0).1 [x6] η1
            intro x1 e1 r1 x2 e2 r2 c1 x3 e3 r3 η1 eη1 x4 e4 r4 x5 e5 r5 c2 x6 e6 r6
            have w0_0_7 : (0 : Int) ≤ η 0 7 ∧ η 0 7 ≤ 700 := wf_ok (a := 7) (b := 7) (z := (0, 700)) hI.1.1 (by decide +kernel) (Nat.le_refl _) (Nat.le_refl _)
            replace e1 : x1 = η 0 7 := e1
            replace r1 : -2147483648 ≤ x1 ∧ x1 ≤ 2147483647 := r1
            have w0_0_6 : (0 : Int) ≤ η 0 6 ∧ η 0 6 ≤ 700 := wf_ok (a := 6) (b := 6) (z := (0, 700)) hI.1.1 (by decide +kernel) (Nat.le_refl _) (Nat.le_refl _)
            replace e2 : x2 = η 0 6 := e2
            replace r2 : -2147483648 ≤ x2 ∧ x2 ≤ 2147483647 := r2
            replace e3 : x3 = η 0 7 := e3
            replace r3 : -2147483648 ≤ x3 ∧ x3 ≤ 2147483647 := r3
            have v2 : η1 0 7 = η 0 7 := by rw [eη1]; exact (zup_ne (fun _ e => absurd e (by decide))).trans rfl
            replace e4 : x4 = η 0 7 := e4.trans v2
            replace r4 : -2147483648 ≤ x4 ∧ x4 ≤ 2147483647 := r4
            have v3 : η1 0 6 = η 0 6 := by rw [eη1]; exact (zup_ne (fun _ e => absurd e (by decide))).trans rfl
            replace e5 : x5 = η 0 6 := e5.trans v3
            replace r5 : -2147483648 ≤ x5 ∧ x5 ≤ 2147483647 := r5
            replace e6 : x6 = η 0 7 := e6.trans v2
            replace r6 : -2147483648 ≤ x6 ∧ x6 ≤ 2147483647 := r6
            have fr1_0 : ∀ j, η 1 j = η 1 j := fun _ => rfl
            have v4 : ∀ j, η1 1 j = η 1 j := fun j => by rw [eη1]; exact zup_ne (fun e _ => absurd e (by decide))
            have fr1_1 : ∀ j, η1 1 j = η 1 j := v4
            have v5 : ∀ j, η1 2 j = η 2 j := fun j => by rw [eη1]; exact zup_ne (fun e _ => absurd e (by decide))
            have fr2 : ∀ j, η1 2 j = η 2 j := v5
            have f0_7 : η1 0 7 = η 0 7 := v2
            have f0_6 : η1 0 6 = η 0 6 := v3
            have w0_0_8 : (0 : Int) ≤ η 0 8 ∧ η 0 8 ≤ 6 := wf_ok (a := 8) (b := 8) (z := (0, 6)) hI.1.1 (by decide +kernel) (Nat.le_refl _) (Nat.le_refl _)
            have v7 : η1 0 8 = η 0 8 := by rw [eη1]; exact (zup_ne (fun _ e => absurd e (by decide))).trans rfl
            have f0_8 : η1 0 8 = η 0 8 := v7
            have v9 : η1 0 9 = η 0 9 := by rw [eη1]; exact (zup_ne (fun _ e => absurd e (by decide))).trans rfl
            have f0_9 : η1 0 9 = η 0 9 := v9
            have g : G_k η := hig.1
            have hh : η 0 7 ≤ η 0 6 := g.1
            have hs : η 0 6 = η0 0 6 := hI.2 0 6 (by decide +kernel)
            have hk0 : (0 : Int) ≤ η0 0 8 ∧ η0 0 8 ≤ 6 := wf_ok (a := 8) (b := 8) (z := (0, 6)) hp.1 (by decide +kernel) (Nat.le_refl _) (Nat.le_refl _)
            have hn : η0 0 7 ≤ η 0 7 := hig.2.1
            have hk : η 0 8 = η0 0 8 := hig.2.2
            have hG : G_k η1 := by
              first
              | (exfalso; omega)
              | exact gk_v f0_7 f0_6 f0_8 f0_9 fr2 g.2.2 (by omega) (k_o (by decide) (by decide))
              | exact gk_v f0_7 f0_6 f0_8 f0_9 fr2 g.2.2 (by omega) (k_o (fun w => by omega) (fun w => by omega))
              | exact gk_v f0_7 f0_6 f0_8 f0_9 fr2 g.2.2 (by omega) ⟨fun _ => ⟨by omega, by omega⟩, fun h => absurd h (by decide)⟩
              | exact gk_v f0_7 f0_6 f0_8 f0_9 fr2 g.2.2 (by omega) g.2.1
            exact hG
          · show ∀ x1 : Int, x1 = η 0 (Int.toNat 7) → zok 0 x1 → ∀ x2 : Int, x2 = η 0 (Int.toNat 6) → zok 0 x2 → (x2 ≤ x1) → ∀ x3 : Int, x3 = η 0 (Int.toNat 7) → zok 0 x3 → ∀ η1 : zE, η1 = zup η 0 (Int.toNat 10) x3 → ∀ x4 : Int, x4 = η1 0 (Int.toNat 7) → zok 0 x4 → ∀ x5 : Int, x5 = η1 0 (Int.toNat 6) → zok 0 x5 → (¬ x4 = x5) → ∀ x6 : Int, x6 = η1 0 (Int.toNat 7) → zok 0 x6 → ∀ (x7 : Int) (η2 : zE), ((gC2 wl_k [(nat_lit 0, zPk_isSmall, zOk_isSmall, zMk_isSmall), (nat_lit 1, zPk_isDigit, zOk_isDigit, zMk_isDigit), (nat_lit 2, zPk_wordAt, zOk_wordAt, zMk_wordAt), (nat_lit 3, zPk_packed, zOk_packed, zMk_packed), (nat_lit 4, zPk_signToken, zOk_signToken, zMk_signToken)] pCk_token qCk_token) 0).2 [x6] η1 x7 η2 → (x7 = 0) → ∀ x8 : Int, x8 = η2 0 (Int.toNat 7) → zok 0 x8 → ((gC2 wl_k [(nat_lit 0, zPk_isSmall, zOk_isSmall, zMk_isSmall), (nat_lit 1, zPk_isDigit, zOk_isDigit, zMk_isDigit), (nat_lit 2, zPk_wordAt, zOk_wordAt, zMk_wordAt), (nat_lit 3, zPk_packed, zOk_packed, zMk_packed), (nat_lit 4, zPk_signToken, zOk_signToken, zMk_signToken)] pCk_token qCk_token) 1).1 [x8] η2
            intro x1 e1 r1 x2 e2 r2 c1 x3 e3 r3 η1 eη1 x4 e4 r4 x5 e5 r5 c2 x6 e6 r6 x7 η2 h7 c3 x8 e8 r8
            have k7 : sQ wl_k zTr zOk_isSmall zMk_isSmall [x6] η1 x7 η2 ∧ pQk_isSmall [x6] η1 x7 η2 := h7
            have w0_0_7 : (0 : Int) ≤ η 0 7 ∧ η 0 7 ≤ 700 := wf_ok (a := 7) (b := 7) (z := (0, 700)) hI.1.1 (by decide +kernel) (Nat.le_refl _) (Nat.le_refl _)
            replace e1 : x1 = η 0 7 := e1
            replace r1 : -2147483648 ≤ x1 ∧ x1 ≤ 2147483647 := r1
            have w0_0_6 : (0 : Int) ≤ η 0 6 ∧ η 0 6 ≤ 700 := wf_ok (a := 6) (b := 6) (z := (0, 700)) hI.1.1 (by decide +kernel) (Nat.le_refl _) (Nat.le_refl _)
            replace e2 : x2 = η 0 6 := e2
            replace r2 : -2147483648 ≤ x2 ∧ x2 ≤ 2147483647 := r2
            replace e3 : x3 = η 0 7 := e3
            replace r3 : -2147483648 ≤ x3 ∧ x3 ≤ 2147483647 := r3
            have v2 : η1 0 7 = η 0 7 := by rw [eη1]; exact (zup_ne (fun _ e => absurd e (by decide))).trans rfl
            replace e4 : x4 = η 0 7 := e4.trans v2
            replace r4 : -2147483648 ≤ x4 ∧ x4 ≤ 2147483647 := r4
            have v3 : η1 0 6 = η 0 6 := by rw [eη1]; exact (zup_ne (fun _ e => absurd e (by decide))).trans rfl
            replace e5 : x5 = η 0 6 := e5.trans v3
            replace r5 : -2147483648 ≤ x5 ∧ x5 ≤ 2147483647 := r5
            replace e6 : x6 = η 0 7 := e6.trans v2
            replace r6 : -2147483648 ≤ x6 ∧ x6 ≤ 2147483647 := r6
            have c1_0_7 : η1 0 7 = η 0 7 := v2
            have c1_0_6 : η1 0 6 = η 0 6 := v3
            have w0_0_8 : (0 : Int) ≤ η 0 8 ∧ η 0 8 ≤ 6 := wf_ok (a := 8) (b := 8) (z := (0, 6)) hI.1.1 (by decide +kernel) (Nat.le_refl _) (Nat.le_refl _)
            have v5 : η1 0 8 = η 0 8 := by rw [eη1]; exact (zup_ne (fun _ e => absurd e (by decide))).trans rfl
            have c1_0_8 : η1 0 8 = η 0 8 := v5
            have v7 : η1 0 9 = η 0 9 := by rw [eη1]; exact (zup_ne (fun _ e => absurd e (by decide))).trans rfl
            have c1_0_9 : η1 0 9 = η 0 9 := v7
            have bx7 : (0 : Int) ≤ x7 ∧ x7 ≤ 1 := k7.1.2.1
            have v8 : η2 0 7 = η 0 7 := (k7.1.2.2.2.1 0 7 (by decide +kernel)).trans v2
            replace e8 : x8 = η 0 7 := e8.trans v8
            replace r8 : -2147483648 ≤ x8 ∧ x8 ≤ 2147483647 := r8
            have fr1_0 : ∀ j, η 1 j = η 1 j := fun _ => rfl
            have v9 : ∀ j, η1 1 j = η 1 j := fun j => by rw [eη1]; exact zup_ne (fun e _ => absurd e (by decide))
            have fr1_1 : ∀ j, η1 1 j = η 1 j := v9
            have v10 : ∀ j, η2 1 j = η 1 j := fun j => (k7.1.2.2.2.1 1 _ (zinr_not (by decide +kernel))).trans (v9 j)
            have fr1_2 : ∀ j, η2 1 j = η 1 j := v10
            have v11 : ∀ j, η1 2 j = η 2 j := fun j => by rw [eη1]; exact zup_ne (fun e _ => absurd e (by decide))
            have v12 : ∀ j, η2 2 j = η 2 j := fun j => (k7.1.2.2.2.1 2 _ (zinr_not (by decide +kernel))).trans (v11 j)
            have fr2 : ∀ j, η2 2 j = η 2 j := v12
            have f0_7 : η2 0 7 = η 0 7 := v8
            have v13 : η2 0 6 = η 0 6 := (k7.1.2.2.2.1 0 6 (by decide +kernel)).trans v3
            have f0_6 : η2 0 6 = η 0 6 := v13
            have v14 : η2 0 8 = η 0 8 := (k7.1.2.2.2.1 0 8 (by decide +kernel)).trans v5
            have f0_8 : η2 0 8 = η 0 8 := v14
            have v15 : η2 0 9 = η 0 9 := (k7.1.2.2.2.1 0 9 (by decide +kernel)).trans v7
            have f0_9 : η2 0 9 = η 0 9 := v15
            have g : G_k η := hig.1
            have hh : η 0 7 ≤ η 0 6 := g.1
            have hs : η 0 6 = η0 0 6 := hI.2 0 6 (by decide +kernel)
            have hk0 : (0 : Int) ≤ η0 0 8 ∧ η0 0 8 ≤ 6 := wf_ok (a := 8) (b := 8) (z := (0, 6)) hp.1 (by decide +kernel) (Nat.le_refl _) (Nat.le_refl _)
            have hn : η0 0 7 ≤ η 0 7 := hig.2.1
            have hk : η 0 8 = η0 0 8 := hig.2.2
            have hG : G_k η2 := by
              first
              | (exfalso; omega)
              | exact gk_v f0_7 f0_6 f0_8 f0_9 fr2 g.2.2 (by omega) (k_o (by decide) (by decide))
              | exact gk_v f0_7 f0_6 f0_8 f0_9 fr2 g.2.2 (by omega) (k_o (fun w => by omega) (fun w => by omega))
              | exact gk_v f0_7 f0_6 f0_8 f0_9 fr2 g.2.2 (by omega) ⟨fun _ => ⟨by omega, by omega⟩, fun h => absurd h (by decide)⟩
              | exact gk_v f0_7 f0_6 f0_8 f0_9 fr2 g.2.2 (by omega) g.2.1
            exact hG
          · show ∀ x1 : Int, x1 = η 0 (Int.toNat 7) → zok 0 x1 → ∀ x2 : Int, x2 = η 0 (Int.toNat 6) → zok 0 x2 → (x2 ≤ x1) → ∀ x3 : Int, x3 = η 0 (Int.toNat 7) → zok 0 x3 → ∀ η1 : zE, η1 = zup η 0 (Int.toNat 10) x3 → ∀ x4 : Int, x4 = η1 0 (Int.toNat 7) → zok 0 x4 → ∀ x5 : Int, x5 = η1 0 (Int.toNat 6) → zok 0 x5 → (¬ x4 = x5) → ∀ x6 : Int, x6 = η1 0 (Int.toNat 7) → zok 0 x6 → ∀ (x7 : Int) (η2 : zE), ((gC2 wl_k [(nat_lit 0, zPk_isSmall, zOk_isSmall, zMk_isSmall), (nat_lit 1, zPk_isDigit, zOk_isDigit, zMk_isDigit), (nat_lit 2, zPk_wordAt, zOk_wordAt, zMk_wordAt), (nat_lit 3, zPk_packed, zOk_packed, zMk_packed), (nat_lit 4, zPk_signToken, zOk_signToken, zMk_signToken)] pCk_token qCk_token) 0).2 [x6] η1 x7 η2 → (x7 = 0) → ∀ x8 : Int, x8 = η2 0 (Int.toNat 7) → zok 0 x8 → ∀ (x9 : Int) (η3 : zE), ((gC2 wl_k [(nat_lit 0, zPk_isSmall, zOk_isSmall, zMk_isSmall), (nat_lit 1, zPk_isDigit, zOk_isDigit, zMk_isDigit), (nat_lit 2, zPk_wordAt, zOk_wordAt, zMk_wordAt), (nat_lit 3, zPk_packed, zOk_packed, zMk_packed), (nat_lit 4, zPk_signToken, zOk_signToken, zMk_signToken)] pCk_token qCk_token) 1).2 [x8] η2 x9 η3 → (x9 = 0) → ∀ (x10 : Int) (η4 : zE), ((gC2 wl_k [(nat_lit 0, zPk_isSmall, zOk_isSmall, zMk_isSmall), (nat_lit 1, zPk_isDigit, zOk_isDigit, zMk_isDigit), (nat_lit 2, zPk_wordAt, zOk_wordAt, zMk_wordAt), (nat_lit 3, zPk_packed, zOk_packed, zMk_packed), (nat_lit 4, zPk_signToken, zOk_signToken, zMk_signToken)] pCk_token qCk_token) 4).2 [] η3 x10 η4 → (fun (_ : Nat) (y : Int) (η' : zE) => pQk_token xs η0 y η') 0 0 η4
            intro x1 e1 r1 x2 e2 r2 c1 x3 e3 r3 η1 eη1 x4 e4 r4 x5 e5 r5 c2 x6 e6 r6 x7 η2 h7 c3 x8 e8 r8 x9 η3 h9 c4 x10 η4 h10
            have k7 : sQ wl_k zTr zOk_isSmall zMk_isSmall [x6] η1 x7 η2 ∧ pQk_isSmall [x6] η1 x7 η2 := h7
            have k9 : sQ wl_k zTr zOk_isDigit zMk_isDigit [x8] η2 x9 η3 ∧ pQk_isDigit [x8] η2 x9 η3 := h9
            have k10 : sQ wl_k zTr zOk_signToken zMk_signToken [] η3 x10 η4 ∧ pQk_signToken [] η3 x10 η4 := h10
            have w0_0_7 : (0 : Int) ≤ η 0 7 ∧ η 0 7 ≤ 700 := wf_ok (a := 7) (b := 7) (z := (0, 700)) hI.1.1 (by decide +kernel) (Nat.le_refl _) (Nat.le_refl _)
            replace e1 : x1 = η 0 7 := e1
            replace r1 : -2147483648 ≤ x1 ∧ x1 ≤ 2147483647 := r1
            have w0_0_6 : (0 : Int) ≤ η 0 6 ∧ η 0 6 ≤ 700 := wf_ok (a := 6) (b := 6) (z := (0, 700)) hI.1.1 (by decide +kernel) (Nat.le_refl _) (Nat.le_refl _)
            replace e2 : x2 = η 0 6 := e2
            replace r2 : -2147483648 ≤ x2 ∧ x2 ≤ 2147483647 := r2
            replace e3 : x3 = η 0 7 := e3
            replace r3 : -2147483648 ≤ x3 ∧ x3 ≤ 2147483647 := r3
            have v2 : η1 0 7 = η 0 7 := by rw [eη1]; exact (zup_ne (fun _ e => absurd e (by decide))).trans rfl
            replace e4 : x4 = η 0 7 := e4.trans v2
            replace r4 : -2147483648 ≤ x4 ∧ x4 ≤ 2147483647 := r4
            have v3 : η1 0 6 = η 0 6 := by rw [eη1]; exact (zup_ne (fun _ e => absurd e (by decide))).trans rfl
            replace e5 : x5 = η 0 6 := e5.trans v3
            replace r5 : -2147483648 ≤ x5 ∧ x5 ≤ 2147483647 := r5
            replace e6 : x6 = η 0 7 := e6.trans v2
            replace r6 : -2147483648 ≤ x6 ∧ x6 ≤ 2147483647 := r6
            have c1_0_7 : η1 0 7 = η 0 7 := v2
            have c1_0_6 : η1 0 6 = η 0 6 := v3
            have w0_0_8 : (0 : Int) ≤ η 0 8 ∧ η 0 8 ≤ 6 := wf_ok (a := 8) (b := 8) (z := (0, 6)) hI.1.1 (by decide +kernel) (Nat.le_refl _) (Nat.le_refl _)
            have v5 : η1 0 8 = η 0 8 := by rw [eη1]; exact (zup_ne (fun _ e => absurd e (by decide))).trans rfl
            have c1_0_8 : η1 0 8 = η 0 8 := v5
            have v7 : η1 0 9 = η 0 9 := by rw [eη1]; exact (zup_ne (fun _ e => absurd e (by decide))).trans rfl
            have c1_0_9 : η1 0 9 = η 0 9 := v7
            have bx7 : (0 : Int) ≤ x7 ∧ x7 ≤ 1 := k7.1.2.1
            have v8 : η2 0 7 = η 0 7 := (k7.1.2.2.2.1 0 7 (by decide +kernel)).trans v2
            replace e8 : x8 = η 0 7 := e8.trans v8
            replace r8 : -2147483648 ≤ x8 ∧ x8 ≤ 2147483647 := r8
            have c2_0_7 : η2 0 7 = η 0 7 := v8
            have v9 : η2 0 6 = η 0 6 := (k7.1.2.2.2.1 0 6 (by decide +kernel)).trans v3
            have c2_0_6 : η2 0 6 = η 0 6 := v9
            have v10 : η2 0 8 = η 0 8 := (k7.1.2.2.2.1 0 8 (by decide +kernel)).trans v5
            have c2_0_8 : η2 0 8 = η 0 8 := v10
            have v11 : η2 0 9 = η 0 9 := (k7.1.2.2.2.1 0 9 (by decide +kernel)).trans v7
            have c2_0_9 : η2 0 9 = η 0 9 := v11
            have bx9 : (0 : Int) ≤ x9 ∧ x9 ≤ 1 := k9.1.2.1
            have v12 : η3 0 7 = η 0 7 := (k9.1.2.2.2.1 0 7 (by decide +kernel)).trans v8
            have c3_0_7 : η3 0 7 = η 0 7 := v12
            have v13 : η3 0 6 = η 0 6 := (k9.1.2.2.2.1 0 6 (by decide +kernel)).trans v9
            have c3_0_6 : η3 0 6 = η 0 6 := v13
            have v14 : η3 0 8 = η 0 8 := (k9.1.2.2.2.1 0 8 (by decide +kernel)).trans v10
            have c3_0_8 : η3 0 8 = η 0 8 := v14
            have v15 : η3 0 9 = η 0 9 := (k9.1.2.2.2.1 0 9 (by decide +kernel)).trans v11
            have c3_0_9 : η3 0 9 = η 0 9 := v15
            have bx10 : (0 : Int) ≤ x10 ∧ x10 ≤ 0 := k10.1.2.1
            have fr1_0 : ∀ j, η 1 j = η 1 j := fun _ => rfl
            have v16 : ∀ j, η1 1 j = η 1 j := fun j => by rw [eη1]; exact zup_ne (fun e _ => absurd e (by decide))
            have fr1_1 : ∀ j, η1 1 j = η 1 j := v16
            have v17 : ∀ j, η2 1 j = η 1 j := fun j => (k7.1.2.2.2.1 1 _ (zinr_not (by decide +kernel))).trans (v16 j)
            have fr1_2 : ∀ j, η2 1 j = η 1 j := v17
            have v18 : ∀ j, η3 1 j = η 1 j := fun j => (k9.1.2.2.2.1 1 _ (zinr_not (by decide +kernel))).trans (v17 j)
            have fr1_3 : ∀ j, η3 1 j = η 1 j := v18
            have v19 : ∀ j, η4 1 j = η 1 j := fun j => (k10.1.2.2.2.1 1 _ (zinr_not (by decide +kernel))).trans (v18 j)
            have fr1_4 : ∀ j, η4 1 j = η 1 j := v19
            have v20 : ∀ j, η1 2 j = η 2 j := fun j => by rw [eη1]; exact zup_ne (fun e _ => absurd e (by decide))
            have v21 : ∀ j, η2 2 j = η 2 j := fun j => (k7.1.2.2.2.1 2 _ (zinr_not (by decide +kernel))).trans (v20 j)
            have v22 : ∀ j, η3 2 j = η 2 j := fun j => (k9.1.2.2.2.1 2 _ (zinr_not (by decide +kernel))).trans (v21 j)
            have v23 : ∀ j, η4 2 j = η 2 j := fun j => (k10.1.2.2.2.1 2 _ (zinr_not (by decide +kernel))).trans (v22 j)
            have fr2 : ∀ j, η4 2 j = η 2 j := v23
            have w4_0_7 : (0 : Int) ≤ η4 0 7 ∧ η4 0 7 ≤ 700 := wf_ok (a := 7) (b := 7) (z := (0, 700)) k10.1.1 (by decide +kernel) (Nat.le_refl _) (Nat.le_refl _)
            have f0_7 : η4 0 7 = η4 0 7 := rfl
            have v25 : η4 0 6 = η 0 6 := (k10.1.2.2.2.1 0 6 (by decide +kernel)).trans v13
            have f0_6 : η4 0 6 = η 0 6 := v25
            have w4_0_8 : (0 : Int) ≤ η4 0 8 ∧ η4 0 8 ≤ 6 := wf_ok (a := 8) (b := 8) (z := (0, 6)) k10.1.1 (by decide +kernel) (Nat.le_refl _) (Nat.le_refl _)
            have f0_8 : η4 0 8 = η4 0 8 := rfl
            have f0_9 : η4 0 9 = η4 0 9 := rfl
            have g : G_k η := hig.1
            have hh : η 0 7 ≤ η 0 6 := g.1
            have hs : η 0 6 = η0 0 6 := hI.2 0 6 (by decide +kernel)
            have hk0 : (0 : Int) ≤ η0 0 8 ∧ η0 0 8 ≤ 6 := wf_ok (a := 8) (b := 8) (z := (0, 6)) hp.1 (by decide +kernel) (Nat.le_refl _) (Nat.le_refl _)
            have hn : η0 0 7 ≤ η 0 7 := hig.2.1
            have hk : η 0 8 = η0 0 8 := hig.2.2
            have q10 : η3 0 7 < η4 0 7 := k10.2.2
            have hG : G_k η4 := by first | (exfalso; omega) | exact k10.2.1
            refine ⟨hG, fun w => ?_⟩
            have w : ¬ η0 0 8 = 0 := w
            show 10 * (η4 0 6 - η4 0 7) + η4 0 8 < 10 * (η0 0 6 - η0 0 7) + η0 0 8
            omega
          · show ∀ x1 : Int, x1 = η 0 (Int.toNat 7) → zok 0 x1 → ∀ x2 : Int, x2 = η 0 (Int.toNat 6) → zok 0 x2 → (x2 ≤ x1) → ∀ x3 : Int, x3 = η 0 (Int.toNat 7) → zok 0 x3 → ∀ η1 : zE, η1 = zup η 0 (Int.toNat 10) x3 → ∀ x4 : Int, x4 = η1 0 (Int.toNat 7) → zok 0 x4 → ∀ x5 : Int, x5 = η1 0 (Int.toNat 6) → zok 0 x5 → (¬ x4 = x5) → ∀ x6 : Int, x6 = η1 0 (Int.toNat 7) → zok 0 x6 → ∀ (x7 : Int) (η2 : zE), ((gC2 wl_k [(nat_lit 0, zPk_isSmall, zOk_isSmall, zMk_isSmall), (nat_lit 1, zPk_isDigit, zOk_isDigit, zMk_isDigit), (nat_lit 2, zPk_wordAt, zOk_wordAt, zMk_wordAt), (nat_lit 3, zPk_packed, zOk_packed, zMk_packed), (nat_lit 4, zPk_signToken, zOk_signToken, zMk_signToken)] pCk_token qCk_token) 0).2 [x6] η1 x7 η2 → (x7 = 0) → ∀ x8 : Int, x8 = η2 0 (Int.toNat 7) → zok 0 x8 → ∀ (x9 : Int) (η3 : zE), ((gC2 wl_k [(nat_lit 0, zPk_isSmall, zOk_isSmall, zMk_isSmall), (nat_lit 1, zPk_isDigit, zOk_isDigit, zMk_isDigit), (nat_lit 2, zPk_wordAt, zOk_wordAt, zMk_wordAt), (nat_lit 3, zPk_packed, zOk_packed, zMk_packed), (nat_lit 4, zPk_signToken, zOk_signToken, zMk_signToken)] pCk_token qCk_token) 1).2 [x8] η2 x9 η3 → (¬ x9 = 0) → ∀ η4 : zE, η4 = zup η3 0 (Int.toNat 8) 3 → ∀ η5 : zE, η5 = zup η4 0 (Int.toNat 9) 0 → (iCk_token xs η0) 2 [] η5 ∧ (fun (_ : Nat) (_ : List Int) (_ : zE) => (0 : Nat)) 2 [] η5 < 1
            intro x1 e1 r1 x2 e2 r2 c1 x3 e3 r3 η1 eη1 x4 e4 r4 x5 e5 r5 c2 x6 e6 r6 x7 η2 h7 c3 x8 e8 r8 x9 η3 h9 c4 η4 eη4 η5 eη5
            have k7 : sQ wl_k zTr zOk_isSmall zMk_isSmall [x6] η1 x7 η2 ∧ pQk_isSmall [x6] η1 x7 η2 := h7
            have k9 : sQ wl_k zTr zOk_isDigit zMk_isDigit [x8] η2 x9 η3 ∧ pQk_isDigit [x8] η2 x9 η3 := h9
            have w0_0_7 : (0 : Int) ≤ η 0 7 ∧ η 0 7 ≤ 700 := wf_ok (a := 7) (b := 7) (z := (0, 700)) hI.1.1 (by decide +kernel) (Nat.le_refl _) (Nat.le_refl _)
            replace e1 : x1 = η 0 7 := e1
            replace r1 : -2147483648 ≤ x1 ∧ x1 ≤ 2147483647 := r1
            have w0_0_6 : (0 : Int) ≤ η 0 6 ∧ η 0 6 ≤ 700 := wf_ok (a := 6) (b := 6) (z := (0, 700)) hI.1.1 (by decide +kernel) (Nat.le_refl _) (Nat.le_refl _)
            replace e2 : x2 = η 0 6 := e2
            replace r2 : -2147483648 ≤ x2 ∧ x2 ≤ 2147483647 := r2
            replace e3 : x3 = η 0 7 := e3
            replace r3 : -2147483648 ≤ x3 ∧ x3 ≤ 2147483647 := r3
            have v2 : η1 0 7 = η 0 7 := by rw [eη1]; exact (zup_ne (fun _ e => absurd e (by decide))).trans rfl
            replace e4 : x4 = η 0 7 := e4.trans v2
            replace r4 : -2147483648 ≤ x4 ∧ x4 ≤ 2147483647 := r4
            have v3 : η1 0 6 = η 0 6 := by rw [eη1]; exact (zup_ne (fun _ e => absurd e (by decide))).trans rfl
            replace e5 : x5 = η 0 6 := e5.trans v3
            replace r5 : -2147483648 ≤ x5 ∧ x5 ≤ 2147483647 := r5
            replace e6 : x6 = η 0 7 := e6.trans v2
            replace r6 : -2147483648 ≤ x6 ∧ x6 ≤ 2147483647 := r6
            have c1_0_7 : η1 0 7 = η 0 7 := v2
            have c1_0_6 : η1 0 6 = η 0 6 := v3
            have w0_0_8 : (0 : Int) ≤ η 0 8 ∧ η 0 8 ≤ 6 := wf_ok (a := 8) (b := 8) (z := (0, 6)) hI.1.1 (by decide +kernel) (Nat.le_refl _) (Nat.le_refl _)
            have v5 : η1 0 8 = η 0 8 := by rw [eη1]; exact (zup_ne (fun _ e => absurd e (by decide))).trans rfl
            have c1_0_8 : η1 0 8 = η 0 8 := v5
            have v7 : η1 0 9 = η 0 9 := by rw [eη1]; exact (zup_ne (fun _ e => absurd e (by decide))).trans rfl
            have c1_0_9 : η1 0 9 = η 0 9 := v7
            have bx7 : (0 : Int) ≤ x7 ∧ x7 ≤ 1 := k7.1.2.1
            have v8 : η2 0 7 = η 0 7 := (k7.1.2.2.2.1 0 7 (by decide +kernel)).trans v2
            replace e8 : x8 = η 0 7 := e8.trans v8
            replace r8 : -2147483648 ≤ x8 ∧ x8 ≤ 2147483647 := r8
            have c2_0_7 : η2 0 7 = η 0 7 := v8
            have v9 : η2 0 6 = η 0 6 := (k7.1.2.2.2.1 0 6 (by decide +kernel)).trans v3
            have c2_0_6 : η2 0 6 = η 0 6 := v9
            have v10 : η2 0 8 = η 0 8 := (k7.1.2.2.2.1 0 8 (by decide +kernel)).trans v5
            have c2_0_8 : η2 0 8 = η 0 8 := v10
            have v11 : η2 0 9 = η 0 9 := (k7.1.2.2.2.1 0 9 (by decide +kernel)).trans v7
            have c2_0_9 : η2 0 9 = η 0 9 := v11
            have bx9 : (0 : Int) ≤ x9 ∧ x9 ≤ 1 := k9.1.2.1
            have fr1_0 : ∀ j, η 1 j = η 1 j := fun _ => rfl
            have v12 : ∀ j, η1 1 j = η 1 j := fun j => by rw [eη1]; exact zup_ne (fun e _ => absurd e (by decide))
            have fr1_1 : ∀ j, η1 1 j = η 1 j := v12
            have v13 : ∀ j, η2 1 j = η 1 j := fun j => (k7.1.2.2.2.1 1 _ (zinr_not (by decide +kernel))).trans (v12 j)
            have fr1_2 : ∀ j, η2 1 j = η 1 j := v13
            have v14 : ∀ j, η3 1 j = η 1 j := fun j => (k9.1.2.2.2.1 1 _ (zinr_not (by decide +kernel))).trans (v13 j)
            have fr1_3 : ∀ j, η3 1 j = η 1 j := v14
            have v15 : ∀ j, η4 1 j = η 1 j := fun j => by rw [eη4]; exact (zup_ne (fun e _ => absurd e (by decide))).trans (v14 j)
            have fr1_4 : ∀ j, η4 1 j = η 1 j := v15
            have v16 : ∀ j, η5 1 j = η 1 j := fun j => by rw [eη5]; exact (zup_ne (fun e _ => absurd e (by decide))).trans (v15 j)
            have fr1_5 : ∀ j, η5 1 j = η 1 j := v16
            have v17 : ∀ j, η1 2 j = η 2 j := fun j => by rw [eη1]; exact zup_ne (fun e _ => absurd e (by decide))
            have v18 : ∀ j, η2 2 j = η 2 j := fun j => (k7.1.2.2.2.1 2 _ (zinr_not (by decide +kernel))).trans (v17 j)
            have v19 : ∀ j, η3 2 j = η 2 j := fun j => (k9.1.2.2.2.1 2 _ (zinr_not (by decide +kernel))).trans (v18 j)
            have v20 : ∀ j, η4 2 j = η 2 j := fun j => by rw [eη4]; exact (zup_ne (fun e _ => absurd e (by decide))).trans (v19 j)
            have v21 : ∀ j, η5 2 j = η 2 j := fun j => by rw [eη5]; exact (zup_ne (fun e _ => absurd e (by decide))).trans (v20 j)
            have fr2 : ∀ j, η5 2 j = η 2 j := v21
            have v22 : η3 0 7 = η 0 7 := (k9.1.2.2.2.1 0 7 (by decide +kernel)).trans v8
            have v23 : η4 0 7 = η 0 7 := by rw [eη4]; exact (zup_ne (fun _ e => absurd e (by decide))).trans v22
            have v24 : η5 0 7 = η 0 7 := by rw [eη5]; exact (zup_ne (fun _ e => absurd e (by decide))).trans v23
            have f0_7 : η5 0 7 = η 0 7 := v24
            have v25 : η3 0 6 = η 0 6 := (k9.1.2.2.2.1 0 6 (by decide +kernel)).trans v9
            have v26 : η4 0 6 = η 0 6 := by rw [eη4]; exact (zup_ne (fun _ e => absurd e (by decide))).trans v25
            have v27 : η5 0 6 = η 0 6 := by rw [eη5]; exact (zup_ne (fun _ e => absurd e (by decide))).trans v26
            have f0_6 : η5 0 6 = η 0 6 := v27
            have v28 : η4 0 8 = 3 := by rw [eη4]; exact zup_eq
            have v29 : η5 0 8 = 3 := by rw [eη5]; exact (zup_ne (fun _ e => absurd e (by decide))).trans v28
            have f0_8 : η5 0 8 = 3 := v29
            have v30 : η5 0 9 = 0 := by rw [eη5]; exact zup_eq
            have f0_9 : η5 0 9 = 0 := v30
            have g : G_k η := hig.1
            have hh : η 0 7 ≤ η 0 6 := g.1
            have hs : η 0 6 = η0 0 6 := hI.2 0 6 (by decide +kernel)
            have hk0 : (0 : Int) ≤ η0 0 8 ∧ η0 0 8 ≤ 6 := wf_ok (a := 8) (b := 8) (z := (0, 6)) hp.1 (by decide +kernel) (Nat.le_refl _) (Nat.le_refl _)
            have hn : η0 0 7 ≤ η 0 7 := hig.2.1
            have hk : η 0 8 = η0 0 8 := hig.2.2
            have q9 : x8 < η2 0 6 ∧ 48 ≤ η2 1 (Int.toNat x8) ∧ η2 1 (Int.toNat x8) ≤ 57 := k9.2.2.2.1 c4
            rw [fr1_2] at q9
            have p9 := q9.1
            rw [show x8 = η 0 7 by omega] at q9
            have hG : G_k η5 := by
              first
              | (exfalso; omega)
              | exact gk_v f0_7 f0_6 f0_8 f0_9 fr2 g.2.2 (by omega) (k_o (by decide) (by decide))
              | exact gk_v f0_7 f0_6 f0_8 f0_9 fr2 g.2.2 (by omega) (k_o (fun w => by omega) (fun w => by omega))
              | exact gk_v f0_7 f0_6 f0_8 f0_9 fr2 g.2.2 (by omega) ⟨fun _ => ⟨by omega, by omega⟩, fun h => absurd h (by decide)⟩
              | exact gk_v f0_7 f0_6 f0_8 f0_9 fr2 g.2.2 (by omega) g.2.1
            first
            | (exfalso; omega)
            | exact ⟨⟨hG, show η5 0 8 = 3 by omega, Or.inr ⟨show η0 0 7 ≤ η5 0 7 by omega, show η5 0 7 < η5 0 6 by omega, by rw [fr1_5, show η5 0 7 = η 0 7 by omega]; exact q9.2.1, by rw [fr1_5, show η5 0 7 = η 0 7 by omega]; exact q9.2.2⟩⟩, Nat.zero_lt_one⟩
          · show ∀ x1 : Int, x1 = η 0 (Int.toNat 7) → zok 0 x1 → ∀ x2 : Int, x2 = η 0 (Int.toNat 6) → zok 0 x2 → (x2 ≤ x1) → ∀ x3 : Int, x3 = η 0 (Int.toNat 7) → zok 0 x3 → ∀ η1 : zE, η1 = zup η 0 (Int.toNat 10) x3 → ∀ x4 : Int, x4 = η1 0 (Int.toNat 7) → zok 0 x4 → ∀ x5 : Int, x5 = η1 0 (Int.toNat 6) → zok 0 x5 → (¬ x4 = x5) → ∀ x6 : Int, x6 = η1 0 (Int.toNat 7) → zok 0 x6 → ∀ (x7 : Int) (η2 : zE), ((gC2 wl_k [(nat_lit 0, zPk_isSmall, zOk_isSmall, zMk_isSmall), (nat_lit 1, zPk_isDigit, zOk_isDigit, zMk_isDigit), (nat_lit 2, zPk_wordAt, zOk_wordAt, zMk_wordAt), (nat_lit 3, zPk_packed, zOk_packed, zMk_packed), (nat_lit 4, zPk_signToken, zOk_signToken, zMk_signToken)] pCk_token qCk_token) 0).2 [x6] η1 x7 η2 → (¬ x7 = 0) → (iCk_token xs η0) 1 [] η2 ∧ (fun (_ : Nat) (_ : List Int) (_ : zE) => (0 : Nat)) 1 [] η2 < 1
            intro x1 e1 r1 x2 e2 r2 c1 x3 e3 r3 η1 eη1 x4 e4 r4 x5 e5 r5 c2 x6 e6 r6 x7 η2 h7 c3
            have k7 : sQ wl_k zTr zOk_isSmall zMk_isSmall [x6] η1 x7 η2 ∧ pQk_isSmall [x6] η1 x7 η2 := h7
            have w0_0_7 : (0 : Int) ≤ η 0 7 ∧ η 0 7 ≤ 700 := wf_ok (a := 7) (b := 7) (z := (0, 700)) hI.1.1 (by decide +kernel) (Nat.le_refl _) (Nat.le_refl _)
            replace e1 : x1 = η 0 7 := e1
            replace r1 : -2147483648 ≤ x1 ∧ x1 ≤ 2147483647 := r1
            have w0_0_6 : (0 : Int) ≤ η 0 6 ∧ η 0 6 ≤ 700 := wf_ok (a := 6) (b := 6) (z := (0, 700)) hI.1.1 (by decide +kernel) (Nat.le_refl _) (Nat.le_refl _)
            replace e2 : x2 = η 0 6 := e2
            replace r2 : -2147483648 ≤ x2 ∧ x2 ≤ 2147483647 := r2
            replace e3 : x3 = η 0 7 := e3
            replace r3 : -2147483648 ≤ x3 ∧ x3 ≤ 2147483647 := r3
            have v2 : η1 0 7 = η 0 7 := by rw [eη1]; exact (zup_ne (fun _ e => absurd e (by decide))).trans rfl
            replace e4 : x4 = η 0 7 := e4.trans v2
            replace r4 : -2147483648 ≤ x4 ∧ x4 ≤ 2147483647 := r4
            have v3 : η1 0 6 = η 0 6 := by rw [eη1]; exact (zup_ne (fun _ e => absurd e (by decide))).trans rfl
            replace e5 : x5 = η 0 6 := e5.trans v3
            replace r5 : -2147483648 ≤ x5 ∧ x5 ≤ 2147483647 := r5
            replace e6 : x6 = η 0 7 := e6.trans v2
            replace r6 : -2147483648 ≤ x6 ∧ x6 ≤ 2147483647 := r6
            have c1_0_7 : η1 0 7 = η 0 7 := v2
            have c1_0_6 : η1 0 6 = η 0 6 := v3
            have w0_0_8 : (0 : Int) ≤ η 0 8 ∧ η 0 8 ≤ 6 := wf_ok (a := 8) (b := 8) (z := (0, 6)) hI.1.1 (by decide +kernel) (Nat.le_refl _) (Nat.le_refl _)
            have v5 : η1 0 8 = η 0 8 := by rw [eη1]; exact (zup_ne (fun _ e => absurd e (by decide))).trans rfl
            have c1_0_8 : η1 0 8 = η 0 8 := v5
            have v7 : η1 0 9 = η 0 9 := by rw [eη1]; exact (zup_ne (fun _ e => absurd e (by decide))).trans rfl
            have c1_0_9 : η1 0 9 = η 0 9 := v7
            have bx7 : (0 : Int) ≤ x7 ∧ x7 ≤ 1 := k7.1.2.1
            have fr1_0 : ∀ j, η 1 j = η 1 j := fun _ => rfl
            have v8 : ∀ j, η1 1 j = η 1 j := fun j => by rw [eη1]; exact zup_ne (fun e _ => absurd e (by decide))
            have fr1_1 : ∀ j, η1 1 j = η 1 j := v8
            have v9 : ∀ j, η2 1 j = η 1 j := fun j => (k7.1.2.2.2.1 1 _ (zinr_not (by decide +kernel))).trans (v8 j)
            have fr1_2 : ∀ j, η2 1 j = η 1 j := v9
            have v10 : ∀ j, η1 2 j = η 2 j := fun j => by rw [eη1]; exact zup_ne (fun e _ => absurd e (by decide))
            have v11 : ∀ j, η2 2 j = η 2 j := fun j => (k7.1.2.2.2.1 2 _ (zinr_not (by decide +kernel))).trans (v10 j)
            have fr2 : ∀ j, η2 2 j = η 2 j := v11
            have v12 : η2 0 7 = η 0 7 := (k7.1.2.2.2.1 0 7 (by decide +kernel)).trans v2
            have f0_7 : η2 0 7 = η 0 7 := v12
            have v13 : η2 0 6 = η 0 6 := (k7.1.2.2.2.1 0 6 (by decide +kernel)).trans v3
            have f0_6 : η2 0 6 = η 0 6 := v13
            have v14 : η2 0 8 = η 0 8 := (k7.1.2.2.2.1 0 8 (by decide +kernel)).trans v5
            have f0_8 : η2 0 8 = η 0 8 := v14
            have v15 : η2 0 9 = η 0 9 := (k7.1.2.2.2.1 0 9 (by decide +kernel)).trans v7
            have f0_9 : η2 0 9 = η 0 9 := v15
            have g : G_k η := hig.1
            have hh : η 0 7 ≤ η 0 6 := g.1
            have hs : η 0 6 = η0 0 6 := hI.2 0 6 (by decide +kernel)
            have hk0 : (0 : Int) ≤ η0 0 8 ∧ η0 0 8 ≤ 6 := wf_ok (a := 8) (b := 8) (z := (0, 6)) hp.1 (by decide +kernel) (Nat.le_refl _) (Nat.le_refl _)
            have hn : η0 0 7 ≤ η 0 7 := hig.2.1
            have hk : η 0 8 = η0 0 8 := hig.2.2
            have q7 : x6 < η1 0 6 ∧ 97 ≤ η1 1 (Int.toNat x6) ∧ η1 1 (Int.toNat x6) ≤ 122 := k7.2.2.2.1 c3
            rw [fr1_1] at q7
            have p7 := q7.1
            rw [show x6 = η 0 7 by omega] at q7
            have hG : G_k η2 := by
              first
              | (exfalso; omega)
              | exact gk_v f0_7 f0_6 f0_8 f0_9 fr2 g.2.2 (by omega) (k_o (by decide) (by decide))
              | exact gk_v f0_7 f0_6 f0_8 f0_9 fr2 g.2.2 (by omega) (k_o (fun w => by omega) (fun w => by omega))
              | exact gk_v f0_7 f0_6 f0_8 f0_9 fr2 g.2.2 (by omega) ⟨fun _ => ⟨by omega, by omega⟩, fun h => absurd h (by decide)⟩
              | exact gk_v f0_7 f0_6 f0_8 f0_9 fr2 g.2.2 (by omega) g.2.1
            first
            | (exfalso; omega)
            | exact ⟨⟨hG, Or.inr ⟨show η0 0 7 ≤ η2 0 7 by omega, show η2 0 7 < η2 0 6 by omega, by rw [fr1_2, show η2 0 7 = η 0 7 by omega]; exact q7.2.1, by rw [fr1_2, show η2 0 7 = η 0 7 by omega]; exact q7.2.2⟩⟩, Nat.zero_lt_one⟩
          · show ∀ x1 : Int, x1 = η 0 (Int.toNat 7) → zok 0 x1 → ∀ x2 : Int, x2 = η 0 (Int.toNat 6) → zok 0 x2 → (x2 ≤ x1) → ∀ x3 : Int, x3 = η 0 (Int.toNat 7) → zok 0 x3 → ∀ η1 : zE, η1 = zup η 0 (Int.toNat 10) x3 → ∀ x4 : Int, x4 = η1 0 (Int.toNat 7) → zok 0 x4 → ∀ x5 : Int, x5 = η1 0 (Int.toNat 6) → zok 0 x5 → (x4 = x5) → ∀ η2 : zE, η2 = zup η1 0 (Int.toNat 8) 0 → (fun (_ : Nat) (y : Int) (η' : zE) => pQk_token xs η0 y η') 0 0 η2
            intro x1 e1 r1 x2 e2 r2 c1 x3 e3 r3 η1 eη1 x4 e4 r4 x5 e5 r5 c2 η2 eη2
            have w0_0_7 : (0 : Int) ≤ η 0 7 ∧ η 0 7 ≤ 700 := wf_ok (a := 7) (b := 7) (z := (0, 700)) hI.1.1 (by decide +kernel) (Nat.le_refl _) (Nat.le_refl _)
            replace e1 : x1 = η 0 7 := e1
            replace r1 : -2147483648 ≤ x1 ∧ x1 ≤ 2147483647 := r1
            have w0_0_6 : (0 : Int) ≤ η 0 6 ∧ η 0 6 ≤ 700 := wf_ok (a := 6) (b := 6) (z := (0, 700)) hI.1.1 (by decide +kernel) (Nat.le_refl _) (Nat.le_refl _)
            replace e2 : x2 = η 0 6 := e2
            replace r2 : -2147483648 ≤ x2 ∧ x2 ≤ 2147483647 := r2
            replace e3 : x3 = η 0 7 := e3
            replace r3 : -2147483648 ≤ x3 ∧ x3 ≤ 2147483647 := r3
            have v2 : η1 0 7 = η 0 7 := by rw [eη1]; exact (zup_ne (fun _ e => absurd e (by decide))).trans rfl
            replace e4 : x4 = η 0 7 := e4.trans v2
            replace r4 : -2147483648 ≤ x4 ∧ x4 ≤ 2147483647 := r4
            have v3 : η1 0 6 = η 0 6 := by rw [eη1]; exact (zup_ne (fun _ e => absurd e (by decide))).trans rfl
            replace e5 : x5 = η 0 6 := e5.trans v3
            replace r5 : -2147483648 ≤ x5 ∧ x5 ≤ 2147483647 := r5
            have fr1_0 : ∀ j, η 1 j = η 1 j := fun _ => rfl
            have v4 : ∀ j, η1 1 j = η 1 j := fun j => by rw [eη1]; exact zup_ne (fun e _ => absurd e (by decide))
            have fr1_1 : ∀ j, η1 1 j = η 1 j := v4
            have v5 : ∀ j, η2 1 j = η 1 j := fun j => by rw [eη2]; exact (zup_ne (fun e _ => absurd e (by decide))).trans (v4 j)
            have fr1_2 : ∀ j, η2 1 j = η 1 j := v5
            have v6 : ∀ j, η1 2 j = η 2 j := fun j => by rw [eη1]; exact zup_ne (fun e _ => absurd e (by decide))
            have v7 : ∀ j, η2 2 j = η 2 j := fun j => by rw [eη2]; exact (zup_ne (fun e _ => absurd e (by decide))).trans (v6 j)
            have fr2 : ∀ j, η2 2 j = η 2 j := v7
            have v8 : η2 0 7 = η 0 7 := by rw [eη2]; exact (zup_ne (fun _ e => absurd e (by decide))).trans v2
            have f0_7 : η2 0 7 = η 0 7 := v8
            have v9 : η2 0 6 = η 0 6 := by rw [eη2]; exact (zup_ne (fun _ e => absurd e (by decide))).trans v3
            have f0_6 : η2 0 6 = η 0 6 := v9
            have v10 : η2 0 8 = 0 := by rw [eη2]; exact zup_eq
            have f0_8 : η2 0 8 = 0 := v10
            have v12 : η1 0 9 = η 0 9 := by rw [eη1]; exact (zup_ne (fun _ e => absurd e (by decide))).trans rfl
            have v13 : η2 0 9 = η 0 9 := by rw [eη2]; exact (zup_ne (fun _ e => absurd e (by decide))).trans v12
            have f0_9 : η2 0 9 = η 0 9 := v13
            have g : G_k η := hig.1
            have hh : η 0 7 ≤ η 0 6 := g.1
            have hs : η 0 6 = η0 0 6 := hI.2 0 6 (by decide +kernel)
            have hk0 : (0 : Int) ≤ η0 0 8 ∧ η0 0 8 ≤ 6 := wf_ok (a := 8) (b := 8) (z := (0, 6)) hp.1 (by decide +kernel) (Nat.le_refl _) (Nat.le_refl _)
            have hn : η0 0 7 ≤ η 0 7 := hig.2.1
            have hk : η 0 8 = η0 0 8 := hig.2.2
            have hG : G_k η2 := by
              first
              | (exfalso; omega)
              | exact gk_v f0_7 f0_6 f0_8 f0_9 fr2 g.2.2 (by omega) (k_o (by decide) (by decide))
              | exact gk_v f0_7 f0_6 f0_8 f0_9 fr2 g.2.2 (by omega) (k_o (fun w => by omega) (fun w => by omega))
              | exact gk_v f0_7 f0_6 f0_8 f0_9 fr2 g.2.2 (by omega) ⟨fun _ => ⟨by omega, by omega⟩, fun h => absurd h (by decide)⟩
              | exact gk_v f0_7 f0_6 f0_8 f0_9 fr2 g.2.2 (by omega) g.2.1
            refine ⟨hG, fun w => ?_⟩
            have w : ¬ η0 0 8 = 0 := w
            show 10 * (η2 0 6 - η2 0 7) + η2 0 8 < 10 * (η0 0 6 - η0 0 7) + η0 0 8
            omega
          · show ∀ x1 : Int, x1 = η 0 (Int.toNat 7) → zok 0 x1 → ∀ x2 : Int, x2 = η 0 (Int.toNat 6) → zok 0 x2 → (x1 < x2) → ∀ x3 : Int, x3 = η 0 (Int.toNat 7) → zok 0 x3 → ∀ x4 : Int, x4 = η 1 (Int.toNat x3) → zok 0 x4 → (x4 = 10) → ∀ x5 : Int, x5 = η 0 (Int.toNat 7) → zok 0 x5 → ∀ x6 : Int, x6 = zd 0 1 x5 1 → ∀ η1 : zE, η1 = zup η 0 (Int.toNat 7) x6 → (iCk_token xs η0) 0 [] η1 ∧ (fun (_ : Nat) (_ : List Int) (_ : zE) => (0 : Nat)) 0 [] η1 < 1
            intro x1 e1 r1 x2 e2 r2 c1 x3 e3 r3 x4 e4 r4 c2 x5 e5 r5 x6 e6 η1 eη1
            replace e6 := zEq_i e6
            have w0_0_7 : (0 : Int) ≤ η 0 7 ∧ η 0 7 ≤ 700 := wf_ok (a := 7) (b := 7) (z := (0, 700)) hI.1.1 (by decide +kernel) (Nat.le_refl _) (Nat.le_refl _)
            replace e1 : x1 = η 0 7 := e1
            replace r1 : -2147483648 ≤ x1 ∧ x1 ≤ 2147483647 := r1
            have w0_0_6 : (0 : Int) ≤ η 0 6 ∧ η 0 6 ≤ 700 := wf_ok (a := 6) (b := 6) (z := (0, 700)) hI.1.1 (by decide +kernel) (Nat.le_refl _) (Nat.le_refl _)
            replace e2 : x2 = η 0 6 := e2
            replace r2 : -2147483648 ≤ x2 ∧ x2 ≤ 2147483647 := r2
            replace e3 : x3 = η 0 7 := e3
            replace r3 : -2147483648 ≤ x3 ∧ x3 ≤ 2147483647 := r3
            replace e4 : x4 = η 1 (Int.toNat x3) := e4
            replace r4 : -2147483648 ≤ x4 ∧ x4 ≤ 2147483647 := r4
            replace e5 : x5 = η 0 7 := e5
            replace r5 : -2147483648 ≤ x5 ∧ x5 ≤ 2147483647 := r5
            first
            | replace e6 : x6 = x5 + 1 := zd_a2 (zEq_o e6) (by clear e6; exact ⟨by omega, by omega⟩)
            | clear e6
            have fr1_0 : ∀ j, η 1 j = η 1 j := fun _ => rfl
            have v3 : ∀ j, η1 1 j = η 1 j := fun j => by rw [eη1]; exact zup_ne (fun e _ => absurd e (by decide))
            have fr1_1 : ∀ j, η1 1 j = η 1 j := v3
            have v4 : ∀ j, η1 2 j = η 2 j := fun j => by rw [eη1]; exact zup_ne (fun e _ => absurd e (by decide))
            have fr2 : ∀ j, η1 2 j = η 2 j := v4
            have v5 : η1 0 7 = x6 := by rw [eη1]; exact zup_eq
            have f0_7 : η1 0 7 = x6 := v5
            have v6 : η1 0 6 = η 0 6 := by rw [eη1]; exact (zup_ne (fun _ e => absurd e (by decide))).trans rfl
            have f0_6 : η1 0 6 = η 0 6 := v6
            have w0_0_8 : (0 : Int) ≤ η 0 8 ∧ η 0 8 ≤ 6 := wf_ok (a := 8) (b := 8) (z := (0, 6)) hI.1.1 (by decide +kernel) (Nat.le_refl _) (Nat.le_refl _)
            have v8 : η1 0 8 = η 0 8 := by rw [eη1]; exact (zup_ne (fun _ e => absurd e (by decide))).trans rfl
            have f0_8 : η1 0 8 = η 0 8 := v8
            have v10 : η1 0 9 = η 0 9 := by rw [eη1]; exact (zup_ne (fun _ e => absurd e (by decide))).trans rfl
            have f0_9 : η1 0 9 = η 0 9 := v10
            have g : G_k η := hig.1
            have hh : η 0 7 ≤ η 0 6 := g.1
            have hs : η 0 6 = η0 0 6 := hI.2 0 6 (by decide +kernel)
            have hk0 : (0 : Int) ≤ η0 0 8 ∧ η0 0 8 ≤ 6 := wf_ok (a := 8) (b := 8) (z := (0, 6)) hp.1 (by decide +kernel) (Nat.le_refl _) (Nat.le_refl _)
            have hn : η0 0 7 ≤ η 0 7 := hig.2.1
            have hk : η 0 8 = η0 0 8 := hig.2.2
            have hG : G_k η1 := by
              first
              | (exfalso; omega)
              | exact gk_v f0_7 f0_6 f0_8 f0_9 fr2 g.2.2 (by omega) (k_o (by decide) (by decide))
              | exact gk_v f0_7 f0_6 f0_8 f0_9 fr2 g.2.2 (by omega) (k_o (fun w => by omega) (fun w => by omega))
              | exact gk_v f0_7 f0_6 f0_8 f0_9 fr2 g.2.2 (by omega) ⟨fun _ => ⟨by omega, by omega⟩, fun h => absurd h (by decide)⟩
              | exact gk_v f0_7 f0_6 f0_8 f0_9 fr2 g.2.2 (by omega) g.2.1
            exact ⟨⟨hG, show η0 0 7 ≤ η1 0 7 by omega, show η1 0 8 = η0 0 8 by omega⟩, Nat.zero_lt_one⟩
          · show ∀ x1 : Int, x1 = η 0 (Int.toNat 7) → zok 0 x1 → ∀ x2 : Int, x2 = η 0 (Int.toNat 6) → zok 0 x2 → (x1 < x2) → ∀ x3 : Int, x3 = η 0 (Int.toNat 7) → zok 0 x3 → ∀ x4 : Int, x4 = η 1 (Int.toNat x3) → zok 0 x4 → (¬ x4 = 10) → ∀ x5 : Int, x5 = η 0 (Int.toNat 7) → zok 0 x5 → ∀ x6 : Int, x6 = η 1 (Int.toNat x5) → zok 0 x6 → (¬ x6 = 32) → ∀ x7 : Int, x7 = η 0 (Int.toNat 7) → zok 0 x7 → ∀ η1 : zE, η1 = zup η 0 (Int.toNat 10) x7 → ∀ x8 : Int, x8 = η1 0 (Int.toNat 7) → zok 0 x8 → ∀ x9 : Int, x9 = η1 0 (Int.toNat 6) → zok 0 x9 → (¬ x8 = x9) → ∀ x10 : Int, x10 = η1 0 (Int.toNat 7) → zok 0 x10 → ((gC2 wl_k [(nat_lit 0, zPk_isSmall, zOk_isSmall, zMk_isSmall), (nat_lit 1, zPk_isDigit, zOk_isDigit, zMk_isDigit), (nat_lit 2, zPk_wordAt, zOk_wordAt, zMk_wordAt), (nat_lit 3, zPk_packed, zOk_packed, zMk_packed), (nat_lit 4, zPk_signToken, zOk_signToken, zMk_signToken)] pCk_token qCk_token) 0).1 [x10] η1
            intro x1 e1 r1 x2 e2 r2 c1 x3 e3 r3 x4 e4 r4 c2 x5 e5 r5 x6 e6 r6 c3 x7 e7 r7 η1 eη1 x8 e8 r8 x9 e9 r9 c4 x10 e10 r10
            have w0_0_7 : (0 : Int) ≤ η 0 7 ∧ η 0 7 ≤ 700 := wf_ok (a := 7) (b := 7) (z := (0, 700)) hI.1.1 (by decide +kernel) (Nat.le_refl _) (Nat.le_refl _)
            replace e1 : x1 = η 0 7 := e1
            replace r1 : -2147483648 ≤ x1 ∧ x1 ≤ 2147483647 := r1
            have w0_0_6 : (0 : Int) ≤ η 0 6 ∧ η 0 6 ≤ 700 := wf_ok (a := 6) (b := 6) (z := (0, 700)) hI.1.1 (by decide +kernel) (Nat.le_refl _) (Nat.le_refl _)
            replace e2 : x2 = η 0 6 := e2
            replace r2 : -2147483648 ≤ x2 ∧ x2 ≤ 2147483647 := r2
            replace e3 : x3 = η 0 7 := e3
            replace r3 : -2147483648 ≤ x3 ∧ x3 ≤ 2147483647 := r3
            replace e4 : x4 = η 1 (Int.toNat x3) := e4
            replace r4 : -2147483648 ≤ x4 ∧ x4 ≤ 2147483647 := r4
            replace e5 : x5 = η 0 7 := e5
            replace r5 : -2147483648 ≤ x5 ∧ x5 ≤ 2147483647 := r5
            replace e6 : x6 = η 1 (Int.toNat x5) := e6
            replace r6 : -2147483648 ≤ x6 ∧ x6 ≤ 2147483647 := r6
            replace e7 : x7 = η 0 7 := e7
            replace r7 : -2147483648 ≤ x7 ∧ x7 ≤ 2147483647 := r7
            have v4 : η1 0 7 = η 0 7 := by rw [eη1]; exact (zup_ne (fun _ e => absurd e (by decide))).trans rfl
            replace e8 : x8 = η 0 7 := e8.trans v4
            replace r8 : -2147483648 ≤ x8 ∧ x8 ≤ 2147483647 := r8
            have v5 : η1 0 6 = η 0 6 := by rw [eη1]; exact (zup_ne (fun _ e => absurd e (by decide))).trans rfl
            replace e9 : x9 = η 0 6 := e9.trans v5
            replace r9 : -2147483648 ≤ x9 ∧ x9 ≤ 2147483647 := r9
            replace e10 : x10 = η 0 7 := e10.trans v4
            replace r10 : -2147483648 ≤ x10 ∧ x10 ≤ 2147483647 := r10
            have fr1_0 : ∀ j, η 1 j = η 1 j := fun _ => rfl
            have v6 : ∀ j, η1 1 j = η 1 j := fun j => by rw [eη1]; exact zup_ne (fun e _ => absurd e (by decide))
            have fr1_1 : ∀ j, η1 1 j = η 1 j := v6
            have v7 : ∀ j, η1 2 j = η 2 j := fun j => by rw [eη1]; exact zup_ne (fun e _ => absurd e (by decide))
            have fr2 : ∀ j, η1 2 j = η 2 j := v7
            have f0_7 : η1 0 7 = η 0 7 := v4
            have f0_6 : η1 0 6 = η 0 6 := v5
            have w0_0_8 : (0 : Int) ≤ η 0 8 ∧ η 0 8 ≤ 6 := wf_ok (a := 8) (b := 8) (z := (0, 6)) hI.1.1 (by decide +kernel) (Nat.le_refl _) (Nat.le_refl _)
            have v9 : η1 0 8 = η 0 8 := by rw [eη1]; exact (zup_ne (fun _ e => absurd e (by decide))).trans rfl
            have f0_8 : η1 0 8 = η 0 8 := v9
            have v11 : η1 0 9 = η 0 9 := by rw [eη1]; exact (zup_ne (fun _ e => absurd e (by decide))).trans rfl
            have f0_9 : η1 0 9 = η 0 9 := v11
            have g : G_k η := hig.1
            have hh : η 0 7 ≤ η 0 6 := g.1
            have hs : η 0 6 = η0 0 6 := hI.2 0 6 (by decide +kernel)
            have hk0 : (0 : Int) ≤ η0 0 8 ∧ η0 0 8 ≤ 6 := wf_ok (a := 8) (b := 8) (z := (0, 6)) hp.1 (by decide +kernel) (Nat.le_refl _) (Nat.le_refl _)
            have hn : η0 0 7 ≤ η 0 7 := hig.2.1
            have hk : η 0 8 = η0 0 8 := hig.2.2
            have hG : G_k η1 := by
              first
              | (exfalso; omega)
              | exact gk_v f0_7 f0_6 f0_8 f0_9 fr2 g.2.2 (by omega) (k_o (by decide) (by decide))
              | exact gk_v f0_7 f0_6 f0_8 f0_9 fr2 g.2.2 (by omega) (k_o (fun w => by omega) (fun w => by omega))
              | exact gk_v f0_7 f0_6 f0_8 f0_9 fr2 g.2.2 (by omega) ⟨fun _ => ⟨by omega, by omega⟩, fun h => absurd h (by decide)⟩
              | exact gk_v f0_7 f0_6 f0_8 f0_9 fr2 g.2.2 (by omega) g.2.1
            exact hG
          · show ∀ x1 : Int, x1 = η 0 (Int.toNat 7) → zok 0 x1 → ∀ x2 : Int, x2 = η 0 (Int.toNat 6) → zok 0 x2 → (x1 < x2) → ∀ x3 : Int, x3 = η 0 (Int.toNat 7) → zok 0 x3 → ∀ x4 : Int, x4 = η 1 (Int.toNat x3) → zok 0 x4 → (¬ x4 = 10) → ∀ x5 : Int, x5 = η 0 (Int.toNat 7) → zok 0 x5 → ∀ x6 : Int, x6 = η 1 (Int.toNat x5) → zok 0 x6 → (¬ x6 = 32) → ∀ x7 : Int, x7 = η 0 (Int.toNat 7) → zok 0 x7 → ∀ η1 : zE, η1 = zup η 0 (Int.toNat 10) x7 → ∀ x8 : Int, x8 = η1 0 (Int.toNat 7) → zok 0 x8 → ∀ x9 : Int, x9 = η1 0 (Int.toNat 6) → zok 0 x9 → (¬ x8 = x9) → ∀ x10 : Int, x10 = η1 0 (Int.toNat 7) → zok 0 x10 → ∀ (x11 : Int) (η2 : zE), ((gC2 wl_k [(nat_lit 0, zPk_isSmall, zOk_isSmall, zMk_isSmall), (nat_lit 1, zPk_isDigit, zOk_isDigit, zMk_isDigit), (nat_lit 2, zPk_wordAt, zOk_wordAt, zMk_wordAt), (nat_lit 3, zPk_packed, zOk_packed, zMk_packed), (nat_lit 4, zPk_signToken, zOk_signToken, zMk_signToken)] pCk_token qCk_token) 0).2 [x10] η1 x11 η2 → (x11 = 0) → ∀ x12 : Int, x12 = η2 0 (Int.toNat 7) → zok 0 x12 → ((gC2 wl_k [(nat_lit 0, zPk_isSmall, zOk_isSmall, zMk_isSmall), (nat_lit 1, zPk_isDigit, zOk_isDigit, zMk_isDigit), (nat_lit 2, zPk_wordAt, zOk_wordAt, zMk_wordAt), (nat_lit 3, zPk_packed, zOk_packed, zMk_packed), (nat_lit 4, zPk_signToken, zOk_signToken, zMk_signToken)] pCk_token qCk_token) 1).1 [x12] η2
            intro x1 e1 r1 x2 e2 r2 c1 x3 e3 r3 x4 e4 r4 c2 x5 e5 r5 x6 e6 r6 c3 x7 e7 r7 η1 eη1 x8 e8 r8 x9 e9 r9 c4 x10 e10 r10 x11 η2 h11 c5 x12 e12 r12
            have k11 : sQ wl_k zTr zOk_isSmall zMk_isSmall [x10] η1 x11 η2 ∧ pQk_isSmall [x10] η1 x11 η2 := h11
            have w0_0_7 : (0 : Int) ≤ η 0 7 ∧ η 0 7 ≤ 700 := wf_ok (a := 7) (b := 7) (z := (0, 700)) hI.1.1 (by decide +kernel) (Nat.le_refl _) (Nat.le_refl _)
            replace e1 : x1 = η 0 7 := e1
            replace r1 : -2147483648 ≤ x1 ∧ x1 ≤ 2147483647 := r1
            have w0_0_6 : (0 : Int) ≤ η 0 6 ∧ η 0 6 ≤ 700 := wf_ok (a := 6) (b := 6) (z := (0, 700)) hI.1.1 (by decide +kernel) (Nat.le_refl _) (Nat.le_refl _)
            replace e2 : x2 = η 0 6 := e2
            replace r2 : -2147483648 ≤ x2 ∧ x2 ≤ 2147483647 := r2
            replace e3 : x3 = η 0 7 := e3
            replace r3 : -2147483648 ≤ x3 ∧ x3 ≤ 2147483647 := r3
            replace e4 : x4 = η 1 (Int.toNat x3) := e4
            replace r4 : -2147483648 ≤ x4 ∧ x4 ≤ 2147483647 := r4
            replace e5 : x5 = η 0 7 := e5
            replace r5 : -2147483648 ≤ x5 ∧ x5 ≤ 2147483647 := r5
            replace e6 : x6 = η 1 (Int.toNat x5) := e6
            replace r6 : -2147483648 ≤ x6 ∧ x6 ≤ 2147483647 := r6
            replace e7 : x7 = η 0 7 := e7
            replace r7 : -2147483648 ≤ x7 ∧ x7 ≤ 2147483647 := r7
            have v4 : η1 0 7 = η 0 7 := by rw [eη1]; exact (zup_ne (fun _ e => absurd e (by decide))).trans rfl
            replace e8 : x8 = η 0 7 := e8.trans v4
            replace r8 : -2147483648 ≤ x8 ∧ x8 ≤ 2147483647 := r8
            have v5 : η1 0 6 = η 0 6 := by rw [eη1]; exact (zup_ne (fun _ e => absurd e (by decide))).trans rfl
            replace e9 : x9 = η 0 6 := e9.trans v5
            replace r9 : -2147483648 ≤ x9 ∧ x9 ≤ 2147483647 := r9
            replace e10 : x10 = η 0 7 := e10.trans v4
            replace r10 : -2147483648 ≤ x10 ∧ x10 ≤ 2147483647 := r10
            have c1_0_7 : η1 0 7 = η 0 7 := v4
            have c1_0_6 : η1 0 6 = η 0 6 := v5
            have w0_0_8 : (0 : Int) ≤ η 0 8 ∧ η 0 8 ≤ 6 := wf_ok (a := 8) (b := 8) (z := (0, 6)) hI.1.1 (by decide +kernel) (Nat.le_refl _) (Nat.le_refl _)
            have v7 : η1 0 8 = η 0 8 := by rw [eη1]; exact (zup_ne (fun _ e => absurd e (by decide))).trans rfl
            have c1_0_8 : η1 0 8 = η 0 8 := v7
            have v9 : η1 0 9 = η 0 9 := by rw [eη1]; exact (zup_ne (fun _ e => absurd e (by decide))).trans rfl
            have c1_0_9 : η1 0 9 = η 0 9 := v9
            have bx11 : (0 : Int) ≤ x11 ∧ x11 ≤ 1 := k11.1.2.1
            have v10 : η2 0 7 = η 0 7 := (k11.1.2.2.2.1 0 7 (by decide +kernel)).trans v4
            replace e12 : x12 = η 0 7 := e12.trans v10
            replace r12 : -2147483648 ≤ x12 ∧ x12 ≤ 2147483647 := r12
            have fr1_0 : ∀ j, η 1 j = η 1 j := fun _ => rfl
            have v11 : ∀ j, η1 1 j = η 1 j := fun j => by rw [eη1]; exact zup_ne (fun e _ => absurd e (by decide))
            have fr1_1 : ∀ j, η1 1 j = η 1 j := v11
            have v12 : ∀ j, η2 1 j = η 1 j := fun j => (k11.1.2.2.2.1 1 _ (zinr_not (by decide +kernel))).trans (v11 j)
            have fr1_2 : ∀ j, η2 1 j = η 1 j := v12
            have v13 : ∀ j, η1 2 j = η 2 j := fun j => by rw [eη1]; exact zup_ne (fun e _ => absurd e (by decide))
            have v14 : ∀ j, η2 2 j = η 2 j := fun j => (k11.1.2.2.2.1 2 _ (zinr_not (by decide +kernel))).trans (v13 j)
            have fr2 : ∀ j, η2 2 j = η 2 j := v14
            have f0_7 : η2 0 7 = η 0 7 := v10
            have v15 : η2 0 6 = η 0 6 := (k11.1.2.2.2.1 0 6 (by decide +kernel)).trans v5
            have f0_6 : η2 0 6 = η 0 6 := v15
            have v16 : η2 0 8 = η 0 8 := (k11.1.2.2.2.1 0 8 (by decide +kernel)).trans v7
            have f0_8 : η2 0 8 = η 0 8 := v16
            have v17 : η2 0 9 = η 0 9 := (k11.1.2.2.2.1 0 9 (by decide +kernel)).trans v9
            have f0_9 : η2 0 9 = η 0 9 := v17
            have g : G_k η := hig.1
            have hh : η 0 7 ≤ η 0 6 := g.1
            have hs : η 0 6 = η0 0 6 := hI.2 0 6 (by decide +kernel)
            have hk0 : (0 : Int) ≤ η0 0 8 ∧ η0 0 8 ≤ 6 := wf_ok (a := 8) (b := 8) (z := (0, 6)) hp.1 (by decide +kernel) (Nat.le_refl _) (Nat.le_refl _)
            have hn : η0 0 7 ≤ η 0 7 := hig.2.1
            have hk : η 0 8 = η0 0 8 := hig.2.2
            have hG : G_k η2 := by
              first
              | (exfalso; omega)
              | exact gk_v f0_7 f0_6 f0_8 f0_9 fr2 g.2.2 (by omega) (k_o (by decide) (by decide))
              | exact gk_v f0_7 f0_6 f0_8 f0_9 fr2 g.2.2 (by omega) (k_o (fun w => by omega) (fun w => by omega))
              | exact gk_v f0_7 f0_6 f0_8 f0_9 fr2 g.2.2 (by omega) ⟨fun _ => ⟨by omega, by omega⟩, fun h => absurd h (by decide)⟩
              | exact gk_v f0_7 f0_6 f0_8 f0_9 fr2 g.2.2 (by omega) g.2.1
            exact hG
          · show ∀ x1 : Int, x1 = η 0 (Int.toNat 7) → zok 0 x1 → ∀ x2 : Int, x2 = η 0 (Int.toNat 6) → zok 0 x2 → (x1 < x2) → ∀ x3 : Int, x3 = η 0 (Int.toNat 7) → zok 0 x3 → ∀ x4 : Int, x4 = η 1 (Int.toNat x3) → zok 0 x4 → (¬ x4 = 10) → ∀ x5 : Int, x5 = η 0 (Int.toNat 7) → zok 0 x5 → ∀ x6 : Int, x6 = η 1 (Int.toNat x5) → zok 0 x6 → (¬ x6 = 32) → ∀ x7 : Int, x7 = η 0 (Int.toNat 7) → zok 0 x7 → ∀ η1 : zE, η1 = zup η 0 (Int.toNat 10) x7 → ∀ x8 : Int, x8 = η1 0 (Int.toNat 7) → zok 0 x8 → ∀ x9 : Int, x9 = η1 0 (Int.toNat 6) → zok 0 x9 → (¬ x8 = x9) → ∀ x10 : Int, x10 = η1 0 (Int.toNat 7) → zok 0 x10 → ∀ (x11 : Int) (η2 : zE), ((gC2 wl_k [(nat_lit 0, zPk_isSmall, zOk_isSmall, zMk_isSmall), (nat_lit 1, zPk_isDigit, zOk_isDigit, zMk_isDigit), (nat_lit 2, zPk_wordAt, zOk_wordAt, zMk_wordAt), (nat_lit 3, zPk_packed, zOk_packed, zMk_packed), (nat_lit 4, zPk_signToken, zOk_signToken, zMk_signToken)] pCk_token qCk_token) 0).2 [x10] η1 x11 η2 → (x11 = 0) → ∀ x12 : Int, x12 = η2 0 (Int.toNat 7) → zok 0 x12 → ∀ (x13 : Int) (η3 : zE), ((gC2 wl_k [(nat_lit 0, zPk_isSmall, zOk_isSmall, zMk_isSmall), (nat_lit 1, zPk_isDigit, zOk_isDigit, zMk_isDigit), (nat_lit 2, zPk_wordAt, zOk_wordAt, zMk_wordAt), (nat_lit 3, zPk_packed, zOk_packed, zMk_packed), (nat_lit 4, zPk_signToken, zOk_signToken, zMk_signToken)] pCk_token qCk_token) 1).2 [x12] η2 x13 η3 → (x13 = 0) → ((gC2 wl_k [(nat_lit 0, zPk_isSmall, zOk_isSmall, zMk_isSmall), (nat_lit 1, zPk_isDigit, zOk_isDigit, zMk_isDigit), (nat_lit 2, zPk_wordAt, zOk_wordAt, zMk_wordAt), (nat_lit 3, zPk_packed, zOk_packed, zMk_packed), (nat_lit 4, zPk_signToken, zOk_signToken, zMk_signToken)] pCk_token qCk_token) 4).1 [] η3
            intro x1 e1 r1 x2 e2 r2 c1 x3 e3 r3 x4 e4 r4 c2 x5 e5 r5 x6 e6 r6 c3 x7 e7 r7 η1 eη1 x8 e8 r8 x9 e9 r9 c4 x10 e10 r10 x11 η2 h11 c5 x12 e12 r12 x13 η3 h13 c6
            have k11 : sQ wl_k zTr zOk_isSmall zMk_isSmall [x10] η1 x11 η2 ∧ pQk_isSmall [x10] η1 x11 η2 := h11
            have k13 : sQ wl_k zTr zOk_isDigit zMk_isDigit [x12] η2 x13 η3 ∧ pQk_isDigit [x12] η2 x13 η3 := h13
            have w0_0_7 : (0 : Int) ≤ η 0 7 ∧ η 0 7 ≤ 700 := wf_ok (a := 7) (b := 7) (z := (0, 700)) hI.1.1 (by decide +kernel) (Nat.le_refl _) (Nat.le_refl _)
            replace e1 : x1 = η 0 7 := e1
            replace r1 : -2147483648 ≤ x1 ∧ x1 ≤ 2147483647 := r1
            have w0_0_6 : (0 : Int) ≤ η 0 6 ∧ η 0 6 ≤ 700 := wf_ok (a := 6) (b := 6) (z := (0, 700)) hI.1.1 (by decide +kernel) (Nat.le_refl _) (Nat.le_refl _)
            replace e2 : x2 = η 0 6 := e2
            replace r2 : -2147483648 ≤ x2 ∧ x2 ≤ 2147483647 := r2
            replace e3 : x3 = η 0 7 := e3
            replace r3 : -2147483648 ≤ x3 ∧ x3 ≤ 2147483647 := r3
            replace e4 : x4 = η 1 (Int.toNat x3) := e4
            replace r4 : -2147483648 ≤ x4 ∧ x4 ≤ 2147483647 := r4
            replace e5 : x5 = η 0 7 := e5
            replace r5 : -2147483648 ≤ x5 ∧ x5 ≤ 2147483647 := r5
            replace e6 : x6 = η 1 (Int.toNat x5) := e6
            replace r6 : -2147483648 ≤ x6 ∧ x6 ≤ 2147483647 := r6
            replace e7 : x7 = η 0 7 := e7
            replace r7 : -2147483648 ≤ x7 ∧ x7 ≤ 2147483647 := r7
            have v4 : η1 0 7 = η 0 7 := by rw [eη1]; exact (zup_ne (fun _ e => absurd e (by decide))).trans rfl
            replace e8 : x8 = η 0 7 := e8.trans v4
            replace r8 : -2147483648 ≤ x8 ∧ x8 ≤ 2147483647 := r8
            have v5 : η1 0 6 = η 0 6 := by rw [eη1]; exact (zup_ne (fun _ e => absurd e (by decide))).trans rfl
            replace e9 : x9 = η 0 6 := e9.trans v5
            replace r9 : -2147483648 ≤ x9 ∧ x9 ≤ 2147483647 := r9
            replace e10 : x10 = η 0 7 := e10.trans v4
            replace r10 : -2147483648 ≤ x10 ∧ x10 ≤ 2147483647 := r10
            have c1_0_7 : η1 0 7 = η 0 7 := v4
            have c1_0_6 : η1 0 6 = η 0 6 := v5
            have w0_0_8 : (0 : Int) ≤ η 0 8 ∧ η 0 8 ≤ 6 := wf_ok (a := 8) (b := 8) (z := (0, 6)) hI.1.1 (by decide +kernel) (Nat.le_refl _) (Nat.le_refl _)
            have v7 : η1 0 8 = η 0 8 := by rw [eη1]; exact (zup_ne (fun _ e => absurd e (by decide))).trans rfl
            have c1_0_8 : η1 0 8 = η 0 8 := v7
            have v9 : η1 0 9 = η 0 9 := by rw [eη1]; exact (zup_ne (fun _ e => absurd e (by decide))).trans rfl
            have c1_0_9 : η1 0 9 = η 0 9 := v9
            have bx11 : (0 : Int) ≤ x11 ∧ x11 ≤ 1 := k11.1.2.1
            have v10 : η2 0 7 = η 0 7 := (k11.1.2.2.2.1 0 7 (by decide +kernel)).trans v4
            replace e12 : x12 = η 0 7 := e12.trans v10
            replace r12 : -2147483648 ≤ x12 ∧ x12 ≤ 2147483647 := r12
            have c2_0_7 : η2 0 7 = η 0 7 := v10
            have v11 : η2 0 6 = η 0 6 := (k11.1.2.2.2.1 0 6 (by decide +kernel)).trans v5
            have c2_0_6 : η2 0 6 = η 0 6 := v11
            have v12 : η2 0 8 = η 0 8 := (k11.1.2.2.2.1 0 8 (by decide +kernel)).trans v7
            have c2_0_8 : η2 0 8 = η 0 8 := v12
            have v13 : η2 0 9 = η 0 9 := (k11.1.2.2.2.1 0 9 (by decide +kernel)).trans v9
            have c2_0_9 : η2 0 9 = η 0 9 := v13
            have bx13 : (0 : Int) ≤ x13 ∧ x13 ≤ 1 := k13.1.2.1
            have fr1_0 : ∀ j, η 1 j = η 1 j := fun _ => rfl
            have v14 : ∀ j, η1 1 j = η 1 j := fun j => by rw [eη1]; exact zup_ne (fun e _ => absurd e (by decide))
            have fr1_1 : ∀ j, η1 1 j = η 1 j := v14
            have v15 : ∀ j, η2 1 j = η 1 j := fun j => (k11.1.2.2.2.1 1 _ (zinr_not (by decide +kernel))).trans (v14 j)
            have fr1_2 : ∀ j, η2 1 j = η 1 j := v15
            have v16 : ∀ j, η3 1 j = η 1 j := fun j => (k13.1.2.2.2.1 1 _ (zinr_not (by decide +kernel))).trans (v15 j)
            have fr1_3 : ∀ j, η3 1 j = η 1 j := v16
            have v17 : ∀ j, η1 2 j = η 2 j := fun j => by rw [eη1]; exact zup_ne (fun e _ => absurd e (by decide))
            have v18 : ∀ j, η2 2 j = η 2 j := fun j => (k11.1.2.2.2.1 2 _ (zinr_not (by decide +kernel))).trans (v17 j)
            have v19 : ∀ j, η3 2 j = η 2 j := fun j => (k13.1.2.2.2.1 2 _ (zinr_not (by decide +kernel))).trans (v18 j)
            have fr2 : ∀ j, η3 2 j = η 2 j := v19
            have v20 : η3 0 7 = η 0 7 := (k13.1.2.2.2.1 0 7 (by decide +kernel)).trans v10
            have f0_7 : η3 0 7 = η 0 7 := v20
            have v21 : η3 0 6 = η 0 6 := (k13.1.2.2.2.1 0 6 (by decide +kernel)).trans v11
            have f0_6 : η3 0 6 = η 0 6 := v21
            have v22 : η3 0 8 = η 0 8 := (k13.1.2.2.2.1 0 8 (by decide +kernel)).trans v12
            have f0_8 : η3 0 8 = η 0 8 := v22
            have v23 : η3 0 9 = η 0 9 := (k13.1.2.2.2.1 0 9 (by decide +kernel)).trans v13
            have f0_9 : η3 0 9 = η 0 9 := v23
            have g : G_k η := hig.1
            have hh : η 0 7 ≤ η 0 6 := g.1
            have hs : η 0 6 = η0 0 6 := hI.2 0 6 (by decide +kernel)
            have hk0 : (0 : Int) ≤ η0 0 8 ∧ η0 0 8 ≤ 6 := wf_ok (a := 8) (b := 8) (z := (0, 6)) hp.1 (by decide +kernel) (Nat.le_refl _) (Nat.le_refl _)
            have hn : η0 0 7 ≤ η 0 7 := hig.2.1
            have hk : η 0 8 = η0 0 8 := hig.2.2
            first
            | (exfalso; omega)
            | exact ⟨show η3 0 7 < η3 0 6 by omega, fun j hj => by rw [fr2]; exact g.2.2 j hj⟩
          · show ∀ x1 : Int, x1 = η 0 (Int.toNat 7) → zok 0 x1 → ∀ x2 : Int, x2 = η 0 (Int.toNat 6) → zok 0 x2 → (x1 < x2) → ∀ x3 : Int, x3 = η 0 (Int.toNat 7) → zok 0 x3 → ∀ x4 : Int, x4 = η 1 (Int.toNat x3) → zok 0 x4 → (¬ x4 = 10) → ∀ x5 : Int, x5 = η 0 (Int.toNat 7) → zok 0 x5 → ∀ x6 : Int, x6 = η 1 (Int.toNat x5) → zok 0 x6 → (¬ x6 = 32) → ∀ x7 : Int, x7 = η 0 (Int.toNat 7) → zok 0 x7 → ∀ η1 : zE, η1 = zup η 0 (Int.toNat 10) x7 → ∀ x8 : Int, x8 = η1 0 (Int.toNat 7) → zok 0 x8 → ∀ x9 : Int, x9 = η1 0 (Int.toNat 6) → zok 0 x9 → (¬ x8 = x9) → ∀ x10 : Int, x10 = η1 0 (Int.toNat 7) → zok 0 x10 → ∀ (x11 : Int) (η2 : zE), ((gC2 wl_k [(nat_lit 0, zPk_isSmall, zOk_isSmall, zMk_isSmall), (nat_lit 1, zPk_isDigit, zOk_isDigit, zMk_isDigit), (nat_lit 2, zPk_wordAt, zOk_wordAt, zMk_wordAt), (nat_lit 3, zPk_packed, zOk_packed, zMk_packed), (nat_lit 4, zPk_signToken, zOk_signToken, zMk_signToken)] pCk_token qCk_token) 0).2 [x10] η1 x11 η2 → (x11 = 0) → ∀ x12 : Int, x12 = η2 0 (Int.toNat 7) → zok 0 x12 → ∀ (x13 : Int) (η3 : zE), ((gC2 wl_k [(nat_lit 0, zPk_isSmall, zOk_isSmall, zMk_isSmall), (nat_lit 1, zPk_isDigit, zOk_isDigit, zMk_isDigit), (nat_lit 2, zPk_wordAt, zOk_wordAt, zMk_wordAt), (nat_lit 3, zPk_packed, zOk_packed, zMk_packed), (nat_lit 4, zPk_signToken, zOk_signToken, zMk_signToken)] pCk_token qCk_token) 1).2 [x12] η2 x13 η3 → (x13 = 0) → ∀ (x14 : Int) (η4 : zE), ((gC2 wl_k [(nat_lit 0, zPk_isSmall, zOk_isSmall, zMk_isSmall), (nat_lit 1, zPk_isDigit, zOk_isDigit, zMk_isDigit), (nat_lit 2, zPk_wordAt, zOk_wordAt, zMk_wordAt), (nat_lit 3, zPk_packed, zOk_packed, zMk_packed), (nat_lit 4, zPk_signToken, zOk_signToken, zMk_signToken)] pCk_token qCk_token) 4).2 [] η3 x14 η4 → (fun (_ : Nat) (y : Int) (η' : zE) => pQk_token xs η0 y η') 0 0 η4
            intro x1 e1 r1 x2 e2 r2 c1 x3 e3 r3 x4 e4 r4 c2 x5 e5 r5 x6 e6 r6 c3 x7 e7 r7 η1 eη1 x8 e8 r8 x9 e9 r9 c4 x10 e10 r10 x11 η2 h11 c5 x12 e12 r12 x13 η3 h13 c6 x14 η4 h14
            have k11 : sQ wl_k zTr zOk_isSmall zMk_isSmall [x10] η1 x11 η2 ∧ pQk_isSmall [x10] η1 x11 η2 := h11
            have k13 : sQ wl_k zTr zOk_isDigit zMk_isDigit [x12] η2 x13 η3 ∧ pQk_isDigit [x12] η2 x13 η3 := h13
            have k14 : sQ wl_k zTr zOk_signToken zMk_signToken [] η3 x14 η4 ∧ pQk_signToken [] η3 x14 η4 := h14
            have w0_0_7 : (0 : Int) ≤ η 0 7 ∧ η 0 7 ≤ 700 := wf_ok (a := 7) (b := 7) (z := (0, 700)) hI.1.1 (by decide +kernel) (Nat.le_refl _) (Nat.le_refl _)
            replace e1 : x1 = η 0 7 := e1
            replace r1 : -2147483648 ≤ x1 ∧ x1 ≤ 2147483647 := r1
            have w0_0_6 : (0 : Int) ≤ η 0 6 ∧ η 0 6 ≤ 700 := wf_ok (a := 6) (b := 6) (z := (0, 700)) hI.1.1 (by decide +kernel) (Nat.le_refl _) (Nat.le_refl _)
            replace e2 : x2 = η 0 6 := e2
            replace r2 : -2147483648 ≤ x2 ∧ x2 ≤ 2147483647 := r2
            replace e3 : x3 = η 0 7 := e3
            replace r3 : -2147483648 ≤ x3 ∧ x3 ≤ 2147483647 := r3
            replace e4 : x4 = η 1 (Int.toNat x3) := e4
            replace r4 : -2147483648 ≤ x4 ∧ x4 ≤ 2147483647 := r4
            replace e5 : x5 = η 0 7 := e5
            replace r5 : -2147483648 ≤ x5 ∧ x5 ≤ 2147483647 := r5
            replace e6 : x6 = η 1 (Int.toNat x5) := e6
            replace r6 : -2147483648 ≤ x6 ∧ x6 ≤ 2147483647 := r6
            replace e7 : x7 = η 0 7 := e7
            replace r7 : -2147483648 ≤ x7 ∧ x7 ≤ 2147483647 := r7
            have v4 : η1 0 7 = η 0 7 := by rw [eη1]; exact (zup_ne (fun _ e => absurd e (by decide))).trans rfl
            replace e8 : x8 = η 0 7 := e8.trans v4
            replace r8 : -2147483648 ≤ x8 ∧ x8 ≤ 2147483647 := r8
            have v5 : η1 0 6 = η 0 6 := by rw [eη1]; exact (zup_ne (fun _ e => absurd e (by decide))).trans rfl
            replace e9 : x9 = η 0 6 := e9.trans v5
            replace r9 : -2147483648 ≤ x9 ∧ x9 ≤ 2147483647 := r9
            replace e10 : x10 = η 0 7 := e10.trans v4
            replace r10 : -2147483648 ≤ x10 ∧ x10 ≤ 2147483647 := r10
            have c1_0_7 : η1 0 7 = η 0 7 := v4
            have c1_0_6 : η1 0 6 = η 0 6 := v5
            have w0_0_8 : (0 : Int) ≤ η 0 8 ∧ η 0 8 ≤ 6 := wf_ok (a := 8) (b := 8) (z := (0, 6)) hI.1.1 (by decide +kernel) (Nat.le_refl _) (Nat.le_refl _)
            have v7 : η1 0 8 = η 0 8 := by rw [eη1]; exact (zup_ne (fun _ e => absurd e (by decide))).trans rfl
            have c1_0_8 : η1 0 8 = η 0 8 := v7
            have v9 : η1 0 9 = η 0 9 := by rw [eη1]; exact (zup_ne (fun _ e => absurd e (by decide))).trans rfl
            have c1_0_9 : η1 0 9 = η 0 9 := v9
            have bx11 : (0 : Int) ≤ x11 ∧ x11 ≤ 1 := k11.1.2.1
            have v10 : η2 0 7 = η 0 7 := (k11.1.2.2.2.1 0 7 (by decide +kernel)).trans v4
            replace e12 : x12 = η 0 7 := e12.trans v10
            replace r12 : -2147483648 ≤ x12 ∧ x12 ≤ 2147483647 := r12
            have c2_0_7 : η2 0 7 = η 0 7 := v10
            have v11 : η2 0 6 = η 0 6 := (k11.1.2.2.2.1 0 6 (by decide +kernel)).trans v5
            have c2_0_6 : η2 0 6 = η 0 6 := v11
            have v12 : η2 0 8 = η 0 8 := (k11.1.2.2.2.1 0 8 (by decide +kernel)).trans v7
            have c2_0_8 : η2 0 8 = η 0 8 := v12
            have v13 : η2 0 9 = η 0 9 := (k11.1.2.2.2.1 0 9 (by decide +kernel)).trans v9
            have c2_0_9 : η2 0 9 = η 0 9 := v13
            have bx13 : (0 : Int) ≤ x13 ∧ x13 ≤ 1 := k13.1.2.1
            have v14 : η3 0 7 = η 0 7 := (k13.1.2.2.2.1 0 7 (by decide +kernel)).trans v10
            have c3_0_7 : η3 0 7 = η 0 7 := v14
            have v15 : η3 0 6 = η 0 6 := (k13.1.2.2.2.1 0 6 (by decide +kernel)).trans v11
            have c3_0_6 : η3 0 6 = η 0 6 := v15
            have v16 : η3 0 8 = η 0 8 := (k13.1.2.2.2.1 0 8 (by decide +kernel)).trans v12
            have c3_0_8 : η3 0 8 = η 0 8 := v16
            have v17 : η3 0 9 = η 0 9 := (k13.1.2.2.2.1 0 9 (by decide +kernel)).trans v13
            have c3_0_9 : η3 0 9 = η 0 9 := v17
            have bx14 : (0 : Int) ≤ x14 ∧ x14 ≤ 0 := k14.1.2.1
            have fr1_0 : ∀ j, η 1 j = η 1 j := fun _ => rfl
            have v18 : ∀ j, η1 1 j = η 1 j := fun j => by rw [eη1]; exact zup_ne (fun e _ => absurd e (by decide))
            have fr1_1 : ∀ j, η1 1 j = η 1 j := v18
            have v19 : ∀ j, η2 1 j = η 1 j := fun j => (k11.1.2.2.2.1 1 _ (zinr_not (by decide +kernel))).trans (v18 j)
            have fr1_2 : ∀ j, η2 1 j = η 1 j := v19
            have v20 : ∀ j, η3 1 j = η 1 j := fun j => (k13.1.2.2.2.1 1 _ (zinr_not (by decide +kernel))).trans (v19 j)
            have fr1_3 : ∀ j, η3 1 j = η 1 j := v20
            have v21 : ∀ j, η4 1 j = η 1 j := fun j => (k14.1.2.2.2.1 1 _ (zinr_not (by decide +kernel))).trans (v20 j)
            have fr1_4 : ∀ j, η4 1 j = η 1 j := v21
            have v22 : ∀ j, η1 2 j = η 2 j := fun j => by rw [eη1]; exact zup_ne (fun e _ => absurd e (by decide))
            have v23 : ∀ j, η2 2 j = η 2 j := fun j => (k11.1.2.2.2.1 2 _ (zinr_not (by decide +kernel))).trans (v22 j)
            have v24 : ∀ j, η3 2 j = η 2 j := fun j => (k13.1.2.2.2.1 2 _ (zinr_not (by decide +kernel))).trans (v23 j)
            have v25 : ∀ j, η4 2 j = η 2 j := fun j => (k14.1.2.2.2.1 2 _ (zinr_not (by decide +kernel))).trans (v24 j)
            have fr2 : ∀ j, η4 2 j = η 2 j := v25
            have w4_0_7 : (0 : Int) ≤ η4 0 7 ∧ η4 0 7 ≤ 700 := wf_ok (a := 7) (b := 7) (z := (0, 700)) k14.1.1 (by decide +kernel) (Nat.le_refl _) (Nat.le_refl _)
            have f0_7 : η4 0 7 = η4 0 7 := rfl
            have v27 : η4 0 6 = η 0 6 := (k14.1.2.2.2.1 0 6 (by decide +kernel)).trans v15
            have f0_6 : η4 0 6 = η 0 6 := v27
            have w4_0_8 : (0 : Int) ≤ η4 0 8 ∧ η4 0 8 ≤ 6 := wf_ok (a := 8) (b := 8) (z := (0, 6)) k14.1.1 (by decide +kernel) (Nat.le_refl _) (Nat.le_refl _)
            have f0_8 : η4 0 8 = η4 0 8 := rfl
            have f0_9 : η4 0 9 = η4 0 9 := rfl
            have g : G_k η := hig.1
            have hh : η 0 7 ≤ η 0 6 := g.1
            have hs : η 0 6 = η0 0 6 := hI.2 0 6 (by decide +kernel)
            have hk0 : (0 : Int) ≤ η0 0 8 ∧ η0 0 8 ≤ 6 := wf_ok (a := 8) (b := 8) (z := (0, 6)) hp.1 (by decide +kernel) (Nat.le_refl _) (Nat.le_refl _)
            have hn : η0 0 7 ≤ η 0 7 := hig.2.1
            have hk : η 0 8 = η0 0 8 := hig.2.2
            have q14 : η3 0 7 < η4 0 7 := k14.2.2
            have hG : G_k η4 := by first | (exfalso; omega) | exact k14.2.1
            refine ⟨hG, fun w => ?_⟩
            have w : ¬ η0 0 8 = 0 := w
            show 10 * (η4 0 6 - η4 0 7) + η4 0 8 < 10 * (η0 0 6 - η0 0 7) + η0 0 8
            omega
          · show ∀ x1 : Int, x1 = η 0 (Int.toNat 7) → zok 0 x1 → ∀ x2 : Int, x2 = η 0 (Int.toNat 6) → zok 0 x2 → (x1 < x2) → ∀ x3 : Int, x3 = η 0 (Int.toNat 7) → zok 0 x3 → ∀ x4 : Int, x4 = η 1 (Int.toNat x3) → zok 0 x4 → (¬ x4 = 10) → ∀ x5 : Int, x5 = η 0 (Int.toNat 7) → zok 0 x5 → ∀ x6 : Int, x6 = η 1 (Int.toNat x5) → zok 0 x6 → (¬ x6 = 32) → ∀ x7 : Int, x7 = η 0 (Int.toNat 7) → zok 0 x7 → ∀ η1 : zE, η1 = zup η 0 (Int.toNat 10) x7 → ∀ x8 : Int, x8 = η1 0 (Int.toNat 7) → zok 0 x8 → ∀ x9 : Int, x9 = η1 0 (Int.toNat 6) → zok 0 x9 → (¬ x8 = x9) → ∀ x10 : Int, x10 = η1 0 (Int.toNat 7) → zok 0 x10 → ∀ (x11 : Int) (η2 : zE), ((gC2 wl_k [(nat_lit 0, zPk_isSmall, zOk_isSmall, zMk_isSmall), (nat_lit 1, zPk_isDigit, zOk_isDigit, zMk_isDigit), (nat_lit 2, zPk_wordAt, zOk_wordAt, zMk_wordAt), (nat_lit 3, zPk_packed, zOk_packed, zMk_packed), (nat_lit 4, zPk_signToken, zOk_signToken, zMk_signToken)] pCk_token qCk_token) 0).2 [x10] η1 x11 η2 → (x11 = 0) → ∀ x12 : Int, x12 = η2 0 (Int.toNat 7) → zok 0 x12 → ∀ (x13 : Int) (η3 : zE), ((gC2 wl_k [(nat_lit 0, zPk_isSmall, zOk_isSmall, zMk_isSmall), (nat_lit 1, zPk_isDigit, zOk_isDigit, zMk_isDigit), (nat_lit 2, zPk_wordAt, zOk_wordAt, zMk_wordAt), (nat_lit 3, zPk_packed, zOk_packed, zMk_packed), (nat_lit 4, zPk_signToken, zOk_signToken, zMk_signToken)] pCk_token qCk_token) 1).2 [x12] η2 x13 η3 → (¬ x13 = 0) → ∀ η4 : zE, η4 = zup η3 0 (Int.toNat 8) 3 → ∀ η5 : zE, η5 = zup η4 0 (Int.toNat 9) 0 → (iCk_token xs η0) 2 [] η5 ∧ (fun (_ : Nat) (_ : List Int) (_ : zE) => (0 : Nat)) 2 [] η5 < 1
            intro x1 e1 r1 x2 e2 r2 c1 x3 e3 r3 x4 e4 r4 c2 x5 e5 r5 x6 e6 r6 c3 x7 e7 r7 η1 eη1 x8 e8 r8 x9 e9 r9 c4 x10 e10 r10 x11 η2 h11 c5 x12 e12 r12 x13 η3 h13 c6 η4 eη4 η5 eη5
            have k11 : sQ wl_k zTr zOk_isSmall zMk_isSmall [x10] η1 x11 η2 ∧ pQk_isSmall [x10] η1 x11 η2 := h11
            have k13 : sQ wl_k zTr zOk_isDigit zMk_isDigit [x12] η2 x13 η3 ∧ pQk_isDigit [x12] η2 x13 η3 := h13
            have w0_0_7 : (0 : Int) ≤ η 0 7 ∧ η 0 7 ≤ 700 := wf_ok (a := 7) (b := 7) (z := (0, 700)) hI.1.1 (by decide +kernel) (Nat.le_refl _) (Nat.le_refl _)
            replace e1 : x1 = η 0 7 := e1
            replace r1 : -2147483648 ≤ x1 ∧ x1 ≤ 2147483647 := r1
            have w0_0_6 : (0 : Int) ≤ η 0 6 ∧ η 0 6 ≤ 700 := wf_ok (a := 6) (b := 6) (z := (0, 700)) hI.1.1 (by decide +kernel) (Nat.le_refl _) (Nat.le_refl _)
            replace e2 : x2 = η 0 6 := e2
            replace r2 : -2147483648 ≤ x2 ∧ x2 ≤ 2147483647 := r2
            replace e3 : x3 = η 0 7 := e3
            replace r3 : -2147483648 ≤ x3 ∧ x3 ≤ 2147483647 := r3
            replace e4 : x4 = η 1 (Int.toNat x3) := e4
            replace r4 : -2147483648 ≤ x4 ∧ x4 ≤ 2147483647 := r4
            replace e5 : x5 = η 0 7 := e5
            replace r5 : -2147483648 ≤ x5 ∧ x5 ≤ 2147483647 := r5
            replace e6 : x6 = η 1 (Int.toNat x5) := e6
            replace r6 : -2147483648 ≤ x6 ∧ x6 ≤ 2147483647 := r6
            replace e7 : x7 = η 0 7 := e7
            replace r7 : -2147483648 ≤ x7 ∧ x7 ≤ 2147483647 := r7
            have v4 : η1 0 7 = η 0 7 := by rw [eη1]; exact (zup_ne (fun _ e => absurd e (by decide))).trans rfl
            replace e8 : x8 = η 0 7 := e8.trans v4
            replace r8 : -2147483648 ≤ x8 ∧ x8 ≤ 2147483647 := r8
            have v5 : η1 0 6 = η 0 6 := by rw [eη1]; exact (zup_ne (fun _ e => absurd e (by decide))).trans rfl
            replace e9 : x9 = η 0 6 := e9.trans v5
            replace r9 : -2147483648 ≤ x9 ∧ x9 ≤ 2147483647 := r9
            replace e10 : x10 = η 0 7 := e10.trans v4
            replace r10 : -2147483648 ≤ x10 ∧ x10 ≤ 2147483647 := r10
            have c1_0_7 : η1 0 7 = η 0 7 := v4
            have c1_0_6 : η1 0 6 = η 0 6 := v5
            have w0_0_8 : (0 : Int) ≤ η 0 8 ∧ η 0 8 ≤ 6 := wf_ok (a := 8) (b := 8) (z := (0, 6)) hI.1.1 (by decide +kernel) (Nat.le_refl _) (Nat.le_refl _)
            have v7 : η1 0 8 = η 0 8 := by rw [eη1]; exact (zup_ne (fun _ e => absurd e (by decide))).trans rfl
            have c1_0_8 : η1 0 8 = η 0 8 := v7
            have v9 : η1 0 9 = η 0 9 := by rw [eη1]; exact (zup_ne (fun _ e => absurd e (by decide))).trans rfl
            have c1_0_9 : η1 0 9 = η 0 9 := v9
            have bx11 : (0 : Int) ≤ x11 ∧ x11 ≤ 1 := k11.1.2.1
            have v10 : η2 0 7 = η 0 7 := (k11.1.2.2.2.1 0 7 (by decide +kernel)).trans v4
            replace e12 : x12 = η 0 7 := e12.trans v10
            replace r12 : -2147483648 ≤ x12 ∧ x12 ≤ 2147483647 := r12
            have c2_0_7 : η2 0 7 = η 0 7 := v10
            have v11 : η2 0 6 = η 0 6 := (k11.1.2.2.2.1 0 6 (by decide +kernel)).trans v5
            have c2_0_6 : η2 0 6 = η 0 6 := v11
            have v12 : η2 0 8 = η 0 8 := (k11.1.2.2.2.1 0 8 (by decide +kernel)).trans v7
            have c2_0_8 : η2 0 8 = η 0 8 := v12
            have v13 : η2 0 9 = η 0 9 := (k11.1.2.2.2.1 0 9 (by decide +kernel)).trans v9
            have c2_0_9 : η2 0 9 = η 0 9 := v13
            have bx13 : (0 : Int) ≤ x13 ∧ x13 ≤ 1 := k13.1.2.1
            have fr1_0 : ∀ j, η 1 j = η 1 j := fun _ => rfl
            have v14 : ∀ j, η1 1 j = η 1 j := fun j => by rw [eη1]; exact zup_ne (fun e _ => absurd e (by decide))
            have fr1_1 : ∀ j, η1 1 j = η 1 j := v14
            have v15 : ∀ j, η2 1 j = η 1 j := fun j => (k11.1.2.2.2.1 1 _ (zinr_not (by decide +kernel))).trans (v14 j)
            have fr1_2 : ∀ j, η2 1 j = η 1 j := v15
            have v16 : ∀ j, η3 1 j = η 1 j := fun j => (k13.1.2.2.2.1 1 _ (zinr_not (by decide +kernel))).trans (v15 j)
            have fr1_3 : ∀ j, η3 1 j = η 1 j := v16
            have v17 : ∀ j, η4 1 j = η 1 j := fun j => by rw [eη4]; exact (zup_ne (fun e _ => absurd e (by decide))).trans (v16 j)
            have fr1_4 : ∀ j, η4 1 j = η 1 j := v17
            have v18 : ∀ j, η5 1 j = η 1 j := fun j => by rw [eη5]; exact (zup_ne (fun e _ => absurd e (by decide))).trans (v17 j)
            have fr1_5 : ∀ j, η5 1 j = η 1 j := v18
            have v19 : ∀ j, η1 2 j = η 2 j := fun j => by rw [eη1]; exact zup_ne (fun e _ => absurd e (by decide))
            have v20 : ∀ j, η2 2 j = η 2 j := fun j => (k11.1.2.2.2.1 2 _ (zinr_not (by decide +kernel))).trans (v19 j)
            have v21 : ∀ j, η3 2 j = η 2 j := fun j => (k13.1.2.2.2.1 2 _ (zinr_not (by decide +kernel))).trans (v20 j)
            have v22 : ∀ j, η4 2 j = η 2 j := fun j => by rw [eη4]; exact (zup_ne (fun e _ => absurd e (by decide))).trans (v21 j)
            have v23 : ∀ j, η5 2 j = η 2 j := fun j => by rw [eη5]; exact (zup_ne (fun e _ => absurd e (by decide))).trans (v22 j)
            have fr2 : ∀ j, η5 2 j = η 2 j := v23
            have v24 : η3 0 7 = η 0 7 := (k13.1.2.2.2.1 0 7 (by decide +kernel)).trans v10
            have v25 : η4 0 7 = η 0 7 := by rw [eη4]; exact (zup_ne (fun _ e => absurd e (by decide))).trans v24
            have v26 : η5 0 7 = η 0 7 := by rw [eη5]; exact (zup_ne (fun _ e => absurd e (by decide))).trans v25
            have f0_7 : η5 0 7 = η 0 7 := v26
            have v27 : η3 0 6 = η 0 6 := (k13.1.2.2.2.1 0 6 (by decide +kernel)).trans v11
            have v28 : η4 0 6 = η 0 6 := by rw [eη4]; exact (zup_ne (fun _ e => absurd e (by decide))).trans v27
            have v29 : η5 0 6 = η 0 6 := by rw [eη5]; exact (zup_ne (fun _ e => absurd e (by decide))).trans v28
            have f0_6 : η5 0 6 = η 0 6 := v29
            have v30 : η4 0 8 = 3 := by rw [eη4]; exact zup_eq
            have v31 : η5 0 8 = 3 := by rw [eη5]; exact (zup_ne (fun _ e => absurd e (by decide))).trans v30
            have f0_8 : η5 0 8 = 3 := v31
            have v32 : η5 0 9 = 0 := by rw [eη5]; exact zup_eq
            have f0_9 : η5 0 9 = 0 := v32
            have g : G_k η := hig.1
            have hh : η 0 7 ≤ η 0 6 := g.1
            have hs : η 0 6 = η0 0 6 := hI.2 0 6 (by decide +kernel)
            have hk0 : (0 : Int) ≤ η0 0 8 ∧ η0 0 8 ≤ 6 := wf_ok (a := 8) (b := 8) (z := (0, 6)) hp.1 (by decide +kernel) (Nat.le_refl _) (Nat.le_refl _)
            have hn : η0 0 7 ≤ η 0 7 := hig.2.1
            have hk : η 0 8 = η0 0 8 := hig.2.2
            have q13 : x12 < η2 0 6 ∧ 48 ≤ η2 1 (Int.toNat x12) ∧ η2 1 (Int.toNat x12) ≤ 57 := k13.2.2.2.1 c6
            rw [fr1_2] at q13
            have p13 := q13.1
            rw [show x12 = η 0 7 by omega] at q13
            have hG : G_k η5 := by
              first
              | (exfalso; omega)
              | exact gk_v f0_7 f0_6 f0_8 f0_9 fr2 g.2.2 (by omega) (k_o (by decide) (by decide))
              | exact gk_v f0_7 f0_6 f0_8 f0_9 fr2 g.2.2 (by omega) (k_o (fun w => by omega) (fun w => by omega))
              | exact gk_v f0_7 f0_6 f0_8 f0_9 fr2 g.2.2 (by omega) ⟨fun _ => ⟨by omega, by omega⟩, fun h => absurd h (by decide)⟩
              | exact gk_v f0_7 f0_6 f0_8 f0_9 fr2 g.2.2 (by omega) g.2.1
            first
            | (exfalso; omega)
            | exact ⟨⟨hG, show η5 0 8 = 3 by omega, Or.inr ⟨show η0 0 7 ≤ η5 0 7 by omega, show η5 0 7 < η5 0 6 by omega, by rw [fr1_5, show η5 0 7 = η 0 7 by omega]; exact q13.2.1, by rw [fr1_5, show η5 0 7 = η 0 7 by omega]; exact q13.2.2⟩⟩, Nat.zero_lt_one⟩
          · show ∀ x1 : Int, x1 = η 0 (Int.toNat 7) → zok 0 x1 → ∀ x2 : Int, x2 = η 0 (Int.toNat 6) → zok 0 x2 → (x1 < x2) → ∀ x3 : Int, x3 = η 0 (Int.toNat 7) → zok 0 x3 → ∀ x4 : Int, x4 = η 1 (Int.toNat x3) → zok 0 x4 → (¬ x4 = 10) → ∀ x5 : Int, x5 = η 0 (Int.toNat 7) → zok 0 x5 → ∀ x6 : Int, x6 = η 1 (Int.toNat x5) → zok 0 x6 → (¬ x6 = 32) → ∀ x7 : Int, x7 = η 0 (Int.toNat 7) → zok 0 x7 → ∀ η1 : zE, η1 = zup η 0 (Int.toNat 10) x7 → ∀ x8 : Int, x8 = η1 0 (Int.toNat 7) → zok 0 x8 → ∀ x9 : Int, x9 = η1 0 (Int.toNat 6) → zok 0 x9 → (¬ x8 = x9) → ∀ x10 : Int, x10 = η1 0 (Int.toNat 7) → zok 0 x10 → ∀ (x11 : Int) (η2 : zE), ((gC2 wl_k [(nat_lit 0, zPk_isSmall, zOk_isSmall, zMk_isSmall), (nat_lit 1, zPk_isDigit, zOk_isDigit, zMk_isDigit), (nat_lit 2, zPk_wordAt, zOk_wordAt, zMk_wordAt), (nat_lit 3, zPk_packed, zOk_packed, zMk_packed), (nat_lit 4, zPk_signToken, zOk_signToken, zMk_signToken)] pCk_token qCk_token) 0).2 [x10] η1 x11 η2 → (¬ x11 = 0) → (iCk_token xs η0) 1 [] η2 ∧ (fun (_ : Nat) (_ : List Int) (_ : zE) => (0 : Nat)) 1 [] η2 < 1
            intro x1 e1 r1 x2 e2 r2 c1 x3 e3 r3 x4 e4 r4 c2 x5 e5 r5 x6 e6 r6 c3 x7 e7 r7 η1 eη1 x8 e8 r8 x9 e9 r9 c4 x10 e10 r10 x11 η2 h11 c5
            have k11 : sQ wl_k zTr zOk_isSmall zMk_isSmall [x10] η1 x11 η2 ∧ pQk_isSmall [x10] η1 x11 η2 := h11
            have w0_0_7 : (0 : Int) ≤ η 0 7 ∧ η 0 7 ≤ 700 := wf_ok (a := 7) (b := 7) (z := (0, 700)) hI.1.1 (by decide +kernel) (Nat.le_refl _) (Nat.le_refl _)
            replace e1 : x1 = η 0 7 := e1
            replace r1 : -2147483648 ≤ x1 ∧ x1 ≤ 2147483647 := r1
            have w0_0_6 : (0 : Int) ≤ η 0 6 ∧ η 0 6 ≤ 700 := wf_ok (a := 6) (b := 6) (z := (0, 700)) hI.1.1 (by decide +kernel) (Nat.le_refl _) (Nat.le_refl _)
            replace e2 : x2 = η 0 6 := e2
            replace r2 : -2147483648 ≤ x2 ∧ x2 ≤ 2147483647 := r2
            replace e3 : x3 = η 0 7 := e3
            replace r3 : -2147483648 ≤ x3 ∧ x3 ≤ 2147483647 := r3
            replace e4 : x4 = η 1 (Int.toNat x3) := e4
            replace r4 : -2147483648 ≤ x4 ∧ x4 ≤ 2147483647 := r4
            replace e5 : x5 = η 0 7 := e5
            replace r5 : -2147483648 ≤ x5 ∧ x5 ≤ 2147483647 := r5
            replace e6 : x6 = η 1 (Int.toNat x5) := e6
            replace r6 : -2147483648 ≤ x6 ∧ x6 ≤ 2147483647 := r6
            replace e7 : x7 = η 0 7 := e7
            replace r7 : -2147483648 ≤ x7 ∧ x7 ≤ 2147483647 := r7
            have v4 : η1 0 7 = η 0 7 := by rw [eη1]; exact (zup_ne (fun _ e => absurd e (by decide))).trans rfl
            replace e8 : x8 = η 0 7 := e8.trans v4
            replace r8 : -2147483648 ≤ x8 ∧ x8 ≤ 2147483647 := r8
            have v5 : η1 0 6 = η 0 6 := by rw [eη1]; exact (zup_ne (fun _ e => absurd e (by decide))).trans rfl
            replace e9 : x9 = η 0 6 := e9.trans v5
            replace r9 : -2147483648 ≤ x9 ∧ x9 ≤ 2147483647 := r9
            replace e10 : x10 = η 0 7 := e10.trans v4
            replace r10 : -2147483648 ≤ x10 ∧ x10 ≤ 2147483647 := r10
            have c1_0_7 : η1 0 7 = η 0 7 := v4
            have c1_0_6 : η1 0 6 = η 0 6 := v5
            have w0_0_8 : (0 : Int) ≤ η 0 8 ∧ η 0 8 ≤ 6 := wf_ok (a := 8) (b := 8) (z := (0, 6)) hI.1.1 (by decide +kernel) (Nat.le_refl _) (Nat.le_refl _)
            have v7 : η1 0 8 = η 0 8 := by rw [eη1]; exact (zup_ne (fun _ e => absurd e (by decide))).trans rfl
            have c1_0_8 : η1 0 8 = η 0 8 := v7
            have v9 : η1 0 9 = η 0 9 := by rw [eη1]; exact (zup_ne (fun _ e => absurd e (by decide))).trans rfl
            have c1_0_9 : η1 0 9 = η 0 9 := v9
            have bx11 : (0 : Int) ≤ x11 ∧ x11 ≤ 1 := k11.1.2.1
            have fr1_0 : ∀ j, η 1 j = η 1 j := fun _ => rfl
            have v10 : ∀ j, η1 1 j = η 1 j := fun j => by rw [eη1]; exact zup_ne (fun e _ => absurd e (by decide))
            have fr1_1 : ∀ j, η1 1 j = η 1 j := v10
            have v11 : ∀ j, η2 1 j = η 1 j := fun j => (k11.1.2.2.2.1 1 _ (zinr_not (by decide +kernel))).trans (v10 j)
            have fr1_2 : ∀ j, η2 1 j = η 1 j := v11
            have v12 : ∀ j, η1 2 j = η 2 j := fun j => by rw [eη1]; exact zup_ne (fun e _ => absurd e (by decide))
            have v13 : ∀ j, η2 2 j = η 2 j := fun j => (k11.1.2.2.2.1 2 _ (zinr_not (by decide +kernel))).trans (v12 j)
            have fr2 : ∀ j, η2 2 j = η 2 j := v13
            have v14 : η2 0 7 = η 0 7 := (k11.1.2.2.2.1 0 7 (by decide +kernel)).trans v4
            have f0_7 : η2 0 7 = η 0 7 := v14
            have v15 : η2 0 6 = η 0 6 := (k11.1.2.2.2.1 0 6 (by decide +kernel)).trans v5
            have f0_6 : η2 0 6 = η 0 6 := v15
            have v16 : η2 0 8 = η 0 8 := (k11.1.2.2.2.1 0 8 (by decide +kernel)).trans v7
            have f0_8 : η2 0 8 = η 0 8 := v16
            have v17 : η2 0 9 = η 0 9 := (k11.1.2.2.2.1 0 9 (by decide +kernel)).trans v9
            have f0_9 : η2 0 9 = η 0 9 := v17
            have g : G_k η := hig.1
            have hh : η 0 7 ≤ η 0 6 := g.1
            have hs : η 0 6 = η0 0 6 := hI.2 0 6 (by decide +kernel)
            have hk0 : (0 : Int) ≤ η0 0 8 ∧ η0 0 8 ≤ 6 := wf_ok (a := 8) (b := 8) (z := (0, 6)) hp.1 (by decide +kernel) (Nat.le_refl _) (Nat.le_refl _)
            have hn : η0 0 7 ≤ η 0 7 := hig.2.1
            have hk : η 0 8 = η0 0 8 := hig.2.2
            have q11 : x10 < η1 0 6 ∧ 97 ≤ η1 1 (Int.toNat x10) ∧ η1 1 (Int.toNat x10) ≤ 122 := k11.2.2.2.1 c5
            rw [fr1_1] at q11
            have p11 := q11.1
            rw [show x10 = η 0 7 by omega] at q11
            have hG : G_k η2 := by
              first
              | (exfalso; omega)
              | exact gk_v f0_7 f0_6 f0_8 f0_9 fr2 g.2.2 (by omega) (k_o (by decide) (by decide))
              | exact gk_v f0_7 f0_6 f0_8 f0_9 fr2 g.2.2 (by omega) (k_o (fun w => by omega) (fun w => by omega))
              | exact gk_v f0_7 f0_6 f0_8 f0_9 fr2 g.2.2 (by omega) ⟨fun _ => ⟨by omega, by omega⟩, fun h => absurd h (by decide)⟩
              | exact gk_v f0_7 f0_6 f0_8 f0_9 fr2 g.2.2 (by omega) g.2.1
            first
            | (exfalso; omega)
            | exact ⟨⟨hG, Or.inr ⟨show η0 0 7 ≤ η2 0 7 by omega, show η2 0 7 < η2 0 6 by omega, by rw [fr1_2, show η2 0 7 = η 0 7 by omega]; exact q11.2.1, by rw [fr1_2, show η2 0 7 = η 0 7 by omega]; exact q11.2.2⟩⟩, Nat.zero_lt_one⟩
          · show ∀ x1 : Int, x1 = η 0 (Int.toNat 7) → zok 0 x1 → ∀ x2 : Int, x2 = η 0 (Int.toNat 6) → zok 0 x2 → (x1 < x2) → ∀ x3 : Int, x3 = η 0 (Int.toNat 7) → zok 0 x3 → ∀ x4 : Int, x4 = η 1 (Int.toNat x3) → zok 0 x4 → (¬ x4 = 10) → ∀ x5 : Int, x5 = η 0 (Int.toNat 7) → zok 0 x5 → ∀ x6 : Int, x6 = η 1 (Int.toNat x5) → zok 0 x6 → (x6 = 32) → ∀ x7 : Int, x7 = η 0 (Int.toNat 7) → zok 0 x7 → ∀ x8 : Int, x8 = zd 0 1 x7 1 → ∀ η1 : zE, η1 = zup η 0 (Int.toNat 7) x8 → (iCk_token xs η0) 0 [] η1 ∧ (fun (_ : Nat) (_ : List Int) (_ : zE) => (0 : Nat)) 0 [] η1 < 1
            intro x1 e1 r1 x2 e2 r2 c1 x3 e3 r3 x4 e4 r4 c2 x5 e5 r5 x6 e6 r6 c3 x7 e7 r7 x8 e8 η1 eη1
            replace e8 := zEq_i e8
            have w0_0_7 : (0 : Int) ≤ η 0 7 ∧ η 0 7 ≤ 700 := wf_ok (a := 7) (b := 7) (z := (0, 700)) hI.1.1 (by decide +kernel) (Nat.le_refl _) (Nat.le_refl _)
            replace e1 : x1 = η 0 7 := e1
            replace r1 : -2147483648 ≤ x1 ∧ x1 ≤ 2147483647 := r1
            have w0_0_6 : (0 : Int) ≤ η 0 6 ∧ η 0 6 ≤ 700 := wf_ok (a := 6) (b := 6) (z := (0, 700)) hI.1.1 (by decide +kernel) (Nat.le_refl _) (Nat.le_refl _)
            replace e2 : x2 = η 0 6 := e2
            replace r2 : -2147483648 ≤ x2 ∧ x2 ≤ 2147483647 := r2
            replace e3 : x3 = η 0 7 := e3
            replace r3 : -2147483648 ≤ x3 ∧ x3 ≤ 2147483647 := r3
            replace e4 : x4 = η 1 (Int.toNat x3) := e4
            replace r4 : -2147483648 ≤ x4 ∧ x4 ≤ 2147483647 := r4
            replace e5 : x5 = η 0 7 := e5
            replace r5 : -2147483648 ≤ x5 ∧ x5 ≤ 2147483647 := r5
            replace e6 : x6 = η 1 (Int.toNat x5) := e6
            replace r6 : -2147483648 ≤ x6 ∧ x6 ≤ 2147483647 := r6
            replace e7 : x7 = η 0 7 := e7
            replace r7 : -2147483648 ≤ x7 ∧ x7 ≤ 2147483647 := r7
            first
            | replace e8 : x8 = x7 + 1 := zd_a2 (zEq_o e8) (by clear e8; exact ⟨by omega, by omega⟩)
            | clear e8
            have fr1_0 : ∀ j, η 1 j = η 1 j := fun _ => rfl
            have v4 : ∀ j, η1 1 j = η 1 j := fun j => by rw [eη1]; exact zup_ne (fun e _ => absurd e (by decide))
            have fr1_1 : ∀ j, η1 1 j = η 1 j := v4
            have v5 : ∀ j, η1 2 j = η 2 j := fun j => by rw [eη1]; exact zup_ne (fun e _ => absurd e (by decide))
            have fr2 : ∀ j, η1 2 j = η 2 j := v5
            have v6 : η1 0 7 = x8 := by rw [eη1]; exact zup_eq
            have f0_7 : η1 0 7 = x8 := v6
            have v7 : η1 0 6 = η 0 6 := by rw [eη1]; exact (zup_ne (fun _ e => absurd e (by decide))).trans rfl
            have f0_6 : η1 0 6 = η 0 6 := v7
            have w0_0_8 : (0 : Int) ≤ η 0 8 ∧ η 0 8 ≤ 6 := wf_ok (a := 8) (b := 8) (z := (0, 6)) hI.1.1 (by decide +kernel) (Nat.le_refl _) (Nat.le_refl _)
            have v9 : η1 0 8 = η 0 8 := by rw [eη1]; exact (zup_ne (fun _ e => absurd e (by decide))).trans rfl
            have f0_8 : η1 0 8 = η 0 8 := v9
            have v11 : η1 0 9 = η 0 9 := by rw [eη1]; exact (zup_ne (fun _ e => absurd e (by decide))).trans rfl
            have f0_9 : η1 0 9 = η 0 9 := v11
            have g : G_k η := hig.1
            have hh : η 0 7 ≤ η 0 6 := g.1
            have hs : η 0 6 = η0 0 6 := hI.2 0 6 (by decide +kernel)
            have hk0 : (0 : Int) ≤ η0 0 8 ∧ η0 0 8 ≤ 6 := wf_ok (a := 8) (b := 8) (z := (0, 6)) hp.1 (by decide +kernel) (Nat.le_refl _) (Nat.le_refl _)
            have hn : η0 0 7 ≤ η 0 7 := hig.2.1
            have hk : η 0 8 = η0 0 8 := hig.2.2
            have hG : G_k η1 := by
              first
              | (exfalso; omega)
              | exact gk_v f0_7 f0_6 f0_8 f0_9 fr2 g.2.2 (by omega) (k_o (by decide) (by decide))
              | exact gk_v f0_7 f0_6 f0_8 f0_9 fr2 g.2.2 (by omega) (k_o (fun w => by omega) (fun w => by omega))
              | exact gk_v f0_7 f0_6 f0_8 f0_9 fr2 g.2.2 (by omega) ⟨fun _ => ⟨by omega, by omega⟩, fun h => absurd h (by decide)⟩
              | exact gk_v f0_7 f0_6 f0_8 f0_9 fr2 g.2.2 (by omega) g.2.1
            exact ⟨⟨hG, show η0 0 7 ≤ η1 0 7 by omega, show η1 0 8 = η0 0 8 by omega⟩, Nat.zero_lt_one⟩
        · refine List.forall_mem_cons.mpr ⟨?_, fun _ h => nomatch h⟩
          · show ∀ x1 : Int, x1 = η 0 (Int.toNat 7) → zok 0 x1 → ∀ x2 : Int, x2 = η 0 (Int.toNat 6) → zok 0 x2 → (x2 ≤ x1) → ∀ x3 : Int, x3 = η 0 (Int.toNat 7) → zok 0 x3 → ∀ η1 : zE, η1 = zup η 0 (Int.toNat 10) x3 → ∀ x4 : Int, x4 = η1 0 (Int.toNat 7) → zok 0 x4 → ∀ x5 : Int, x5 = η1 0 (Int.toNat 6) → zok 0 x5 → (¬ x4 = x5) → ∀ x6 : Int, x6 = η1 0 (Int.toNat 7) → zok 0 x6 → ∀ (x7 : Int) (η2 : zE), ((gC wl_k [(nat_lit 0, zPk_isSmall, zOk_isSmall, zMk_isSmall), (nat_lit 1, zPk_isDigit, zOk_isDigit, zMk_isDigit), (nat_lit 2, zPk_wordAt, zOk_wordAt, zMk_wordAt), (nat_lit 3, zPk_packed, zOk_packed, zMk_packed), (nat_lit 4, zPk_signToken, zOk_signToken, zMk_signToken)] pCk_token qCk_token) 0).2 [x6] η1 x7 η2 → (x7 = 0) → ∀ x8 : Int, x8 = η2 0 (Int.toNat 7) → zok 0 x8 → ∀ (x9 : Int) (η3 : zE), ((gC wl_k [(nat_lit 0, zPk_isSmall, zOk_isSmall, zMk_isSmall), (nat_lit 1, zPk_isDigit, zOk_isDigit, zMk_isDigit), (nat_lit 2, zPk_wordAt, zOk_wordAt, zMk_wordAt), (nat_lit 3, zPk_packed, zOk_packed, zMk_packed), (nat_lit 4, zPk_signToken, zOk_signToken, zMk_signToken)] pCk_token qCk_token) 1).2 [x8] η2 x9 η3 → (x9 = 0) → ((gC wl_k [(nat_lit 0, zPk_isSmall, zOk_isSmall, zMk_isSmall), (nat_lit 1, zPk_isDigit, zOk_isDigit, zMk_isDigit), (nat_lit 2, zPk_wordAt, zOk_wordAt, zMk_wordAt), (nat_lit 3, zPk_packed, zOk_packed, zMk_packed), (nat_lit 4, zPk_signToken, zOk_signToken, zMk_signToken)] pCk_token qCk_token) 4).1 [] η3
            intro x1 e1 r1 x2 e2 r2 c1 x3 e3 r3 η1 eη1 x4 e4 r4 x5 e5 r5 c2 x6 e6 r6 x7 η2 h7 c3 x8 e8 r8 x9 η3 h9 c4
            have k7 : sQ wl_k zTr zOk_isSmall zMk_isSmall [x6] η1 x7 η2 ∧ pQk_isSmall [x6] η1 x7 η2 := h7
            have k9 : sQ wl_k zTr zOk_isDigit zMk_isDigit [x8] η2 x9 η3 ∧ pQk_isDigit [x8] η2 x9 η3 := h9
            have w0_0_7 : (0 : Int) ≤ η 0 7 ∧ η 0 7 ≤ 700 := wf_ok (a := 7) (b := 7) (z := (0, 700)) hI.1.1 (by decide +kernel) (Nat.le_refl _) (Nat.le_refl _)
            replace e1 : x1 = η 0 7 := e1
            replace r1 : -2147483648 ≤ x1 ∧ x1 ≤ 2147483647 := r1
            have w0_0_6 : (0 : Int) ≤ η 0 6 ∧ η 0 6 ≤ 700 := wf_ok (a := 6) (b := 6) (z := (0, 700)) hI.1.1 (by decide +kernel) (Nat.le_refl _) (Nat.le_refl _)
            replace e2 : x2 = η 0 6 := e2
            replace r2 : -2147483648 ≤ x2 ∧ x2 ≤ 2147483647 := r2
            replace e3 : x3 = η 0 7 := e3
            replace r3 : -2147483648 ≤ x3 ∧ x3 ≤ 2147483647 := r3
            have v2 : η1 0 7 = η 0 7 := by rw [eη1]; exact (zup_ne (fun _ e => absurd e (by decide))).trans rfl
            replace e4 : x4 = η 0 7 := e4.trans v2
            replace r4 : -2147483648 ≤ x4 ∧ x4 ≤ 2147483647 := r4
            have v3 : η1 0 6 = η 0 6 := by rw [eη1]; exact (zup_ne (fun _ e => absurd e (by decide))).trans rfl
            replace e5 : x5 = η 0 6 := e5.trans v3
            replace r5 : -2147483648 ≤ x5 ∧ x5 ≤ 2147483647 := r5
            replace e6 : x6 = η 0 7 := e6.trans v2
            replace r6 : -2147483648 ≤ x6 ∧ x6 ≤ 2147483647 := r6
            have c1_0_7 : η1 0 7 = η 0 7 := v2
            have c1_0_6 : η1 0 6 = η 0 6 := v3
            have w0_0_8 : (0 : Int) ≤ η 0 8 ∧ η 0 8 ≤ 6 := wf_ok (a := 8) (b := 8) (z := (0, 6)) hI.1.1 (by decide +kernel) (Nat.le_refl _) (Nat.le_refl _)
            have v5 : η1 0 8 = η 0 8 := by rw [eη1]; exact (zup_ne (fun _ e => absurd e (by decide))).trans rfl
            have c1_0_8 : η1 0 8 = η 0 8 := v5
            have v7 : η1 0 9 = η 0 9 := by rw [eη1]; exact (zup_ne (fun _ e => absurd e (by decide))).trans rfl
            have c1_0_9 : η1 0 9 = η 0 9 := v7
            have bx7 : (0 : Int) ≤ x7 ∧ x7 ≤ 1 := k7.1.2.1
            have v8 : η2 0 7 = η 0 7 := (k7.1.2.2.2.1 0 7 (by decide +kernel)).trans v2
            replace e8 : x8 = η 0 7 := e8.trans v8
            replace r8 : -2147483648 ≤ x8 ∧ x8 ≤ 2147483647 := r8
            have c2_0_7 : η2 0 7 = η 0 7 := v8
            have v9 : η2 0 6 = η 0 6 := (k7.1.2.2.2.1 0 6 (by decide +kernel)).trans v3
            have c2_0_6 : η2 0 6 = η 0 6 := v9
            have v10 : η2 0 8 = η 0 8 := (k7.1.2.2.2.1 0 8 (by decide +kernel)).trans v5
            have c2_0_8 : η2 0 8 = η 0 8 := v10
            have v11 : η2 0 9 = η 0 9 := (k7.1.2.2.2.1 0 9 (by decide +kernel)).trans v7
            have c2_0_9 : η2 0 9 = η 0 9 := v11
            have bx9 : (0 : Int) ≤ x9 ∧ x9 ≤ 1 := k9.1.2.1
            have fr1_0 : ∀ j, η 1 j = η 1 j := fun _ => rfl
            have v12 : ∀ j, η1 1 j = η 1 j := fun j => by rw [eη1]; exact zup_ne (fun e _ => absurd e (by decide))
            have fr1_1 : ∀ j, η1 1 j = η 1 j := v12
            have v13 : ∀ j, η2 1 j = η 1 j := fun j => (k7.1.2.2.2.1 1 _ (zinr_not (by decide +kernel))).trans (v12 j)
            have fr1_2 : ∀ j, η2 1 j = η 1 j := v13
            have v14 : ∀ j, η3 1 j = η 1 j := fun j => (k9.1.2.2.2.1 1 _ (zinr_not (by decide +kernel))).trans (v13 j)
            have fr1_3 : ∀ j, η3 1 j = η 1 j := v14
            have v15 : ∀ j, η1 2 j = η 2 j := fun j => by rw [eη1]; exact zup_ne (fun e _ => absurd e (by decide))
            have v16 : ∀ j, η2 2 j = η 2 j := fun j => (k7.1.2.2.2.1 2 _ (zinr_not (by decide +kernel))).trans (v15 j)
            have v17 : ∀ j, η3 2 j = η 2 j := fun j => (k9.1.2.2.2.1 2 _ (zinr_not (by decide +kernel))).trans (v16 j)
            have fr2 : ∀ j, η3 2 j = η 2 j := v17
            have v18 : η3 0 7 = η 0 7 := (k9.1.2.2.2.1 0 7 (by decide +kernel)).trans v8
            have f0_7 : η3 0 7 = η 0 7 := v18
            have v19 : η3 0 6 = η 0 6 := (k9.1.2.2.2.1 0 6 (by decide +kernel)).trans v9
            have f0_6 : η3 0 6 = η 0 6 := v19
            have v20 : η3 0 8 = η 0 8 := (k9.1.2.2.2.1 0 8 (by decide +kernel)).trans v10
            have f0_8 : η3 0 8 = η 0 8 := v20
            have v21 : η3 0 9 = η 0 9 := (k9.1.2.2.2.1 0 9 (by decide +kernel)).trans v11
            have f0_9 : η3 0 9 = η 0 9 := v21
            have hh : η 0 7 ≤ η 0 6 := hig.1.1
            exfalso; omega
      )⟩, (List.forall_mem_cons.mpr ⟨⟨zDk_token_1, zEk_token_1, zFk_token_1, 44, by decide +kernel, (by
      intro xs η0 hlx hp hpp ys η hr hl hI hig
      match ys, hl, hI, hig with
      | [], _, hI, hig =>
        refine ⟨?_, ?_⟩
        · refine List.forall_mem_cons.mpr ⟨?_, List.forall_mem_cons.mpr ⟨?_, List.forall_mem_cons.mpr ⟨?_, List.forall_mem_cons.mpr ⟨?_, List.forall_mem_cons.mpr ⟨?_, List.forall_mem_cons.mpr ⟨?_, List.forall_mem_cons.mpr ⟨?_, fun _ h => nomatch h⟩⟩⟩⟩⟩⟩⟩
          · show ∀ x1 : Int, x1 = η 0 (Int.toNat 7) → zok 0 x1 → ((gC2 wl_k [(nat_lit 0, zPk_isSmall, zOk_isSmall, zMk_isSmall), (nat_lit 1, zPk_isDigit, zOk_isDigit, zMk_isDigit), (nat_lit 2, zPk_wordAt, zOk_wordAt, zMk_wordAt), (nat_lit 3, zPk_packed, zOk_packed, zMk_packed), (nat_lit 4, zPk_signToken, zOk_signToken, zMk_signToken)] pCk_token qCk_token) 0).1 [x1] η
            intro x1 e1 r1
            have w0_0_7 : (0 : Int) ≤ η 0 7 ∧ η 0 7 ≤ 700 := wf_ok (a := 7) (b := 7) (z := (0, 700)) hI.1.1 (by decide +kernel) (Nat.le_refl _) (Nat.le_refl _)
            replace e1 : x1 = η 0 7 := e1
            replace r1 : -2147483648 ≤ x1 ∧ x1 ≤ 2147483647 := r1
            have fr1_0 : ∀ j, η 1 j = η 1 j := fun _ => rfl
            have fr2 : ∀ j, η 2 j = η 2 j := fun _ => rfl
            have f0_7 : η 0 7 = η 0 7 := rfl
            have w0_0_6 : (0 : Int) ≤ η 0 6 ∧ η 0 6 ≤ 700 := wf_ok (a := 6) (b := 6) (z := (0, 700)) hI.1.1 (by decide +kernel) (Nat.le_refl _) (Nat.le_refl _)
            have f0_6 : η 0 6 = η 0 6 := rfl
            have w0_0_8 : (0 : Int) ≤ η 0 8 ∧ η 0 8 ≤ 6 := wf_ok (a := 8) (b := 8) (z := (0, 6)) hI.1.1 (by decide +kernel) (Nat.le_refl _) (Nat.le_refl _)
            have f0_8 : η 0 8 = η 0 8 := rfl
            have f0_9 : η 0 9 = η 0 9 := rfl
            have g : G_k η := hig.1
            have hh : η 0 7 ≤ η 0 6 := g.1
            have hs : η 0 6 = η0 0 6 := hI.2 0 6 (by decide +kernel)
            have hk0 : (0 : Int) ≤ η0 0 8 ∧ η0 0 8 ≤ 6 := wf_ok (a := 8) (b := 8) (z := (0, 6)) hp.1 (by decide +kernel) (Nat.le_refl _) (Nat.le_refl _)
            have hd : (η0 0 7 < η 0 7 ∨ (η0 0 7 ≤ η 0 7 ∧ η 0 7 < η 0 6 ∧ 97 ≤ η 1 (Int.toNat (η 0 7)) ∧ η 1 (Int.toNat (η 0 7)) ≤ 122)) := hig.2
            have hn : η0 0 7 ≤ η 0 7 := by rcases hd with h | h <;> omega
            have hG : G_k η := by
              first
              | (exfalso; omega)
              | exact gk_v f0_7 f0_6 f0_8 f0_9 fr2 g.2.2 (by omega) (k_o (by decide) (by decide))
              | exact gk_v f0_7 f0_6 f0_8 f0_9 fr2 g.2.2 (by omega) (k_o (fun w => by omega) (fun w => by omega))
              | exact gk_v f0_7 f0_6 f0_8 f0_9 fr2 g.2.2 (by omega) ⟨fun _ => ⟨by omega, by omega⟩, fun h => absurd h (by decide)⟩
              | exact gk_v f0_7 f0_6 f0_8 f0_9 fr2 g.2.2 (by omega) g.2.1
            exact hG
          · show ∀ x1 : Int, x1 = η 0 (Int.toNat 7) → zok 0 x1 → ∀ (x2 : Int) (η1 : zE), ((gC2 wl_k [(nat_lit 0, zPk_isSmall, zOk_isSmall, zMk_isSmall), (nat_lit 1, zPk_isDigit, zOk_isDigit, zMk_isDigit), (nat_lit 2, zPk_wordAt, zOk_wordAt, zMk_wordAt), (nat_lit 3, zPk_packed, zOk_packed, zMk_packed), (nat_lit 4, zPk_signToken, zOk_signToken, zMk_signToken)] pCk_token qCk_token) 0).2 [x1] η x2 η1 → (x2 = 0) → ∀ x3 : Int, x3 = η1 0 (Int.toNat 10) → zok 0 x3 → ∀ x4 : Int, x4 = η1 0 (Int.toNat 7) → zok 0 x4 → ((gC2 wl_k [(nat_lit 0, zPk_isSmall, zOk_isSmall, zMk_isSmall), (nat_lit 1, zPk_isDigit, zOk_isDigit, zMk_isDigit), (nat_lit 2, zPk_wordAt, zOk_wordAt, zMk_wordAt), (nat_lit 3, zPk_packed, zOk_packed, zMk_packed), (nat_lit 4, zPk_signToken, zOk_signToken, zMk_signToken)] pCk_token qCk_token) 2).1 [x3, x4] η1
            intro x1 e1 r1 x2 η1 h2 c1 x3 e3 r3 x4 e4 r4
            have k2 : sQ wl_k zTr zOk_isSmall zMk_isSmall [x1] η x2 η1 ∧ pQk_isSmall [x1] η x2 η1 := h2
            have w0_0_7 : (0 : Int) ≤ η 0 7 ∧ η 0 7 ≤ 700 := wf_ok (a := 7) (b := 7) (z := (0, 700)) hI.1.1 (by decide +kernel) (Nat.le_refl _) (Nat.le_refl _)
            replace e1 : x1 = η 0 7 := e1
            replace r1 : -2147483648 ≤ x1 ∧ x1 ≤ 2147483647 := r1
            have c0_0_7 : η 0 7 = η 0 7 := rfl
            have w0_0_6 : (0 : Int) ≤ η 0 6 ∧ η 0 6 ≤ 700 := wf_ok (a := 6) (b := 6) (z := (0, 700)) hI.1.1 (by decide +kernel) (Nat.le_refl _) (Nat.le_refl _)
            have c0_0_6 : η 0 6 = η 0 6 := rfl
            have w0_0_8 : (0 : Int) ≤ η 0 8 ∧ η 0 8 ≤ 6 := wf_ok (a := 8) (b := 8) (z := (0, 6)) hI.1.1 (by decide +kernel) (Nat.le_refl _) (Nat.le_refl _)
            have c0_0_8 : η 0 8 = η 0 8 := rfl
            have c0_0_9 : η 0 9 = η 0 9 := rfl
            have bx2 : (0 : Int) ≤ x2 ∧ x2 ≤ 1 := k2.1.2.1
            have w0_0_10 : (0 : Int) ≤ η 0 10 ∧ η 0 10 ≤ 700 := wf_ok (a := 10) (b := 10) (z := (0, 700)) hI.1.1 (by decide +kernel) (Nat.le_refl _) (Nat.le_refl _)
            have v5 : η1 0 10 = η 0 10 := (k2.1.2.2.2.1 0 10 (by decide +kernel)).trans rfl
            replace e3 : x3 = η 0 10 := e3.trans v5
            replace r3 : -2147483648 ≤ x3 ∧ x3 ≤ 2147483647 := r3
            have v6 : η1 0 7 = η 0 7 := (k2.1.2.2.2.1 0 7 (by decide +kernel)).trans rfl
            replace e4 : x4 = η 0 7 := e4.trans v6
            replace r4 : -2147483648 ≤ x4 ∧ x4 ≤ 2147483647 := r4
            have fr1_0 : ∀ j, η 1 j = η 1 j := fun _ => rfl
            have v7 : ∀ j, η1 1 j = η 1 j := fun j => k2.1.2.2.2.1 1 _ (zinr_not (by decide +kernel))
            have fr1_1 : ∀ j, η1 1 j = η 1 j := v7
            have v8 : ∀ j, η1 2 j = η 2 j := fun j => k2.1.2.2.2.1 2 _ (zinr_not (by decide +kernel))
            have fr2 : ∀ j, η1 2 j = η 2 j := v8
            have f0_7 : η1 0 7 = η 0 7 := v6
            have v9 : η1 0 6 = η 0 6 := (k2.1.2.2.2.1 0 6 (by decide +kernel)).trans rfl
            have f0_6 : η1 0 6 = η 0 6 := v9
            have v10 : η1 0 8 = η 0 8 := (k2.1.2.2.2.1 0 8 (by decide +kernel)).trans rfl
            have f0_8 : η1 0 8 = η 0 8 := v10
            have v11 : η1 0 9 = η 0 9 := (k2.1.2.2.2.1 0 9 (by decide +kernel)).trans rfl
            have f0_9 : η1 0 9 = η 0 9 := v11
            have g : G_k η := hig.1
            have hh : η 0 7 ≤ η 0 6 := g.1
            have hs : η 0 6 = η0 0 6 := hI.2 0 6 (by decide +kernel)
            have hk0 : (0 : Int) ≤ η0 0 8 ∧ η0 0 8 ≤ 6 := wf_ok (a := 8) (b := 8) (z := (0, 6)) hp.1 (by decide +kernel) (Nat.le_refl _) (Nat.le_refl _)
            have hd : (η0 0 7 < η 0 7 ∨ (η0 0 7 ≤ η 0 7 ∧ η 0 7 < η 0 6 ∧ 97 ≤ η 1 (Int.toNat (η 0 7)) ∧ η 1 (Int.toNat (η 0 7)) ≤ 122)) := hig.2
            have hn : η0 0 7 ≤ η 0 7 := by rcases hd with h | h <;> omega
            have p0 : η0 0 7 < η 0 7 := by
              rcases hd with h | h
              · exact h
              · exact absurd (show x1 < η 0 6 ∧ 97 ≤ η 1 (Int.toNat x1) ∧ η 1 (Int.toNat x1) ≤ 122 by rw [show x1 = η 0 7 by omega]; exact h.2) (k2.2.2.2.2 c1)
            have hG : G_k η1 := by
              first
              | (exfalso; omega)
              | exact gk_v f0_7 f0_6 f0_8 f0_9 fr2 g.2.2 (by omega) (k_o (by decide) (by decide))
              | exact gk_v f0_7 f0_6 f0_8 f0_9 fr2 g.2.2 (by omega) (k_o (fun w => by omega) (fun w => by omega))
              | exact gk_v f0_7 f0_6 f0_8 f0_9 fr2 g.2.2 (by omega) ⟨fun _ => ⟨by omega, by omega⟩, fun h => absurd h (by decide)⟩
              | exact gk_v f0_7 f0_6 f0_8 f0_9 fr2 g.2.2 (by omega) g.2.1
            exact hG
          · show ∀ x1 : Int, x1 = η 0 (Int.toNat 7) → zok 0 x1 → ∀ (x2 : Int) (η1 : zE), ((gC2 wl_k [(nat_lit 0, zPk_isSmall, zOk_isSmall, zMk_isSmall), (nat_lit 1, zPk_isDigit, zOk_isDigit, zMk_isDigit), (nat_lit 2, zPk_wordAt, zOk_wordAt, zMk_wordAt), (nat_lit 3, zPk_packed, zOk_packed, zMk_packed), (nat_lit 4, zPk_signToken, zOk_signToken, zMk_signToken)] pCk_token qCk_token) 0).2 [x1] η x2 η1 → (x2 = 0) → ∀ x3 : Int, x3 = η1 0 (Int.toNat 10) → zok 0 x3 → ∀ x4 : Int, x4 = η1 0 (Int.toNat 7) → zok 0 x4 → ∀ (x5 : Int) (η2 : zE), ((gC2 wl_k [(nat_lit 0, zPk_isSmall, zOk_isSmall, zMk_isSmall), (nat_lit 1, zPk_isDigit, zOk_isDigit, zMk_isDigit), (nat_lit 2, zPk_wordAt, zOk_wordAt, zMk_wordAt), (nat_lit 3, zPk_packed, zOk_packed, zMk_packed), (nat_lit 4, zPk_signToken, zOk_signToken, zMk_signToken)] pCk_token qCk_token) 2).2 [x3, x4] η1 x5 η2 → ∀ η3 : zE, η3 = zup η2 0 (Int.toNat 9) x5 → ∀ x6 : Int, x6 = η3 0 (Int.toNat 9) → zok 0 x6 → (x6 < 0) → ∀ x7 : Int, x7 = η3 0 (Int.toNat 7) → zok 0 x7 → ∀ x8 : Int, x8 = η3 0 (Int.toNat 10) → zok 0 x8 → ∀ x9 : Int, x9 = zd 0 2 x7 x8 → (x9 ≤ 6) → ∀ η4 : zE, η4 = zup η3 0 (Int.toNat 8) 2 → ∀ x10 : Int, x10 = η4 0 (Int.toNat 8) → zok 0 x10 → (x10 = 2) → ∀ x11 : Int, x11 = η4 0 (Int.toNat 10) → zok 0 x11 → ∀ x12 : Int, x12 = η4 0 (Int.toNat 7) → zok 0 x12 → ((gC2 wl_k [(nat_lit 0, zPk_isSmall, zOk_isSmall, zMk_isSmall), (nat_lit 1, zPk_isDigit, zOk_isDigit, zMk_isDigit), (nat_lit 2, zPk_wordAt, zOk_wordAt, zMk_wordAt), (nat_lit 3, zPk_packed, zOk_packed, zMk_packed), (nat_lit 4, zPk_signToken, zOk_signToken, zMk_signToken)] pCk_token qCk_token) 3).1 [x11, x12] η4
            intro x1 e1 r1 x2 η1 h2 c1 x3 e3 r3 x4 e4 r4 x5 η2 h5 η3 eη3 x6 e6 r6 c2 x7 e7 r7 x8 e8 r8 x9 e9 c3 η4 eη4 x10 e10 r10 c4 x11 e11 r11 x12 e12 r12
            replace e9 := zEq_i e9
            have k2 : sQ wl_k zTr zOk_isSmall zMk_isSmall [x1] η x2 η1 ∧ pQk_isSmall [x1] η x2 η1 := h2
            have k5 : sQ wl_k zTr zOk_wordAt zMk_wordAt [x3, x4] η1 x5 η2 ∧ pQk_wordAt [x3, x4] η1 x5 η2 := h5
            have w0_0_7 : (0 : Int) ≤ η 0 7 ∧ η 0 7 ≤ 700 := wf_ok (a := 7) (b := 7) (z := (0, 700)) hI.1.1 (by decide +kernel) (Nat.le_refl _) (Nat.le_refl _)
            replace e1 : x1 = η 0 7 := e1
            replace r1 : -2147483648 ≤ x1 ∧ x1 ≤ 2147483647 := r1
            have c0_0_7 : η 0 7 = η 0 7 := rfl
            have w0_0_6 : (0 : Int) ≤ η 0 6 ∧ η 0 6 ≤ 700 := wf_ok (a := 6) (b := 6) (z := (0, 700)) hI.1.1 (by decide +kernel) (Nat.le_refl _) (Nat.le_refl _)
            have c0_0_6 : η 0 6 = η 0 6 := rfl
            have w0_0_8 : (0 : Int) ≤ η 0 8 ∧ η 0 8 ≤ 6 := wf_ok (a := 8) (b := 8) (z := (0, 6)) hI.1.1 (by decide +kernel) (Nat.le_refl _) (Nat.le_refl _)
            have c0_0_8 : η 0 8 = η 0 8 := rfl
            have c0_0_9 : η 0 9 = η 0 9 := rfl
            have bx2 : (0 : Int) ≤ x2 ∧ x2 ≤ 1 := k2.1.2.1
            have w0_0_10 : (0 : Int) ≤ η 0 10 ∧ η 0 10 ≤ 700 := wf_ok (a := 10) (b := 10) (z := (0, 700)) hI.1.1 (by decide +kernel) (Nat.le_refl _) (Nat.le_refl _)
            have v5 : η1 0 10 = η 0 10 := (k2.1.2.2.2.1 0 10 (by decide +kernel)).trans rfl
            replace e3 : x3 = η 0 10 := e3.trans v5
            replace r3 : -2147483648 ≤ x3 ∧ x3 ≤ 2147483647 := r3
            have v6 : η1 0 7 = η 0 7 := (k2.1.2.2.2.1 0 7 (by decide +kernel)).trans rfl
            replace e4 : x4 = η 0 7 := e4.trans v6
            replace r4 : -2147483648 ≤ x4 ∧ x4 ≤ 2147483647 := r4
            have c1_0_7 : η1 0 7 = η 0 7 := v6
            have v7 : η1 0 6 = η 0 6 := (k2.1.2.2.2.1 0 6 (by decide +kernel)).trans rfl
            have c1_0_6 : η1 0 6 = η 0 6 := v7
            have v8 : η1 0 8 = η 0 8 := (k2.1.2.2.2.1 0 8 (by decide +kernel)).trans rfl
            have c1_0_8 : η1 0 8 = η 0 8 := v8
            have v9 : η1 0 9 = η 0 9 := (k2.1.2.2.2.1 0 9 (by decide +kernel)).trans rfl
            have c1_0_9 : η1 0 9 = η 0 9 := v9
            have bx5 : ((-1) : Int) ≤ x5 ∧ x5 ≤ 20 := k5.1.2.1
            have v10 : η3 0 9 = x5 := by rw [eη3]; exact zup_eq
            replace e6 : x6 = x5 := e6.trans v10
            replace r6 : -2147483648 ≤ x6 ∧ x6 ≤ 2147483647 := r6
            have v11 : η2 0 7 = η 0 7 := (k5.1.2.2.2.1 0 7 (by decide +kernel)).trans v6
            have v12 : η3 0 7 = η 0 7 := by rw [eη3]; exact (zup_ne (fun _ e => absurd e (by decide))).trans v11
            replace e7 : x7 = η 0 7 := e7.trans v12
            replace r7 : -2147483648 ≤ x7 ∧ x7 ≤ 2147483647 := r7
            have v13 : η2 0 10 = η 0 10 := (k5.1.2.2.2.1 0 10 (by decide +kernel)).trans v5
            have v14 : η3 0 10 = η 0 10 := by rw [eη3]; exact (zup_ne (fun _ e => absurd e (by decide))).trans v13
            replace e8 : x8 = η 0 10 := e8.trans v14
            replace r8 : -2147483648 ≤ x8 ∧ x8 ≤ 2147483647 := r8
            first
            | replace e9 : x9 = x7 - x8 := zd_s2 (zEq_o e9) (by clear e9; exact ⟨by omega, by omega⟩)
            | clear e9
            have v15 : η4 0 8 = 2 := by rw [eη4]; exact zup_eq
            replace e10 : x10 = 2 := e10.trans v15
            replace r10 : -2147483648 ≤ x10 ∧ x10 ≤ 2147483647 := r10
            have v16 : η4 0 10 = η 0 10 := by rw [eη4]; exact (zup_ne (fun _ e => absurd e (by decide))).trans v14
            replace e11 : x11 = η 0 10 := e11.trans v16
            replace r11 : -2147483648 ≤ x11 ∧ x11 ≤ 2147483647 := r11
            have v17 : η4 0 7 = η 0 7 := by rw [eη4]; exact (zup_ne (fun _ e => absurd e (by decide))).trans v12
            replace e12 : x12 = η 0 7 := e12.trans v17
            replace r12 : -2147483648 ≤ x12 ∧ x12 ≤ 2147483647 := r12
            have fr1_0 : ∀ j, η 1 j = η 1 j := fun _ => rfl
            have v18 : ∀ j, η1 1 j = η 1 j := fun j => k2.1.2.2.2.1 1 _ (zinr_not (by decide +kernel))
            have fr1_1 : ∀ j, η1 1 j = η 1 j := v18
            have v19 : ∀ j, η2 1 j = η 1 j := fun j => (k5.1.2.2.2.1 1 _ (zinr_not (by decide +kernel))).trans (v18 j)
            have fr1_2 : ∀ j, η2 1 j = η 1 j := v19
            have v20 : ∀ j, η3 1 j = η 1 j := fun j => by rw [eη3]; exact (zup_ne (fun e _ => absurd e (by decide))).trans (v19 j)
            have fr1_3 : ∀ j, η3 1 j = η 1 j := v20
            have v21 : ∀ j, η4 1 j = η 1 j := fun j => by rw [eη4]; exact (zup_ne (fun e _ => absurd e (by decide))).trans (v20 j)
            have fr1_4 : ∀ j, η4 1 j = η 1 j := v21
            have v22 : ∀ j, η1 2 j = η 2 j := fun j => k2.1.2.2.2.1 2 _ (zinr_not (by decide +kernel))
            have v23 : ∀ j, η2 2 j = η 2 j := fun j => (k5.1.2.2.2.1 2 _ (zinr_not (by decide +kernel))).trans (v22 j)
            have v24 : ∀ j, η3 2 j = η 2 j := fun j => by rw [eη3]; exact (zup_ne (fun e _ => absurd e (by decide))).trans (v23 j)
            have v25 : ∀ j, η4 2 j = η 2 j := fun j => by rw [eη4]; exact (zup_ne (fun e _ => absurd e (by decide))).trans (v24 j)
            have fr2 : ∀ j, η4 2 j = η 2 j := v25
            have f0_7 : η4 0 7 = η 0 7 := v17
            have v26 : η2 0 6 = η 0 6 := (k5.1.2.2.2.1 0 6 (by decide +kernel)).trans v7
            have v27 : η3 0 6 = η 0 6 := by rw [eη3]; exact (zup_ne (fun _ e => absurd e (by decide))).trans v26
            have v28 : η4 0 6 = η 0 6 := by rw [eη4]; exact (zup_ne (fun _ e => absurd e (by decide))).trans v27
            have f0_6 : η4 0 6 = η 0 6 := v28
            have f0_8 : η4 0 8 = 2 := v15
            have v29 : η4 0 9 = x5 := by rw [eη4]; exact (zup_ne (fun _ e => absurd e (by decide))).trans v10
            have f0_9 : η4 0 9 = x5 := v29
            have g : G_k η := hig.1
            have hh : η 0 7 ≤ η 0 6 := g.1
            have hs : η 0 6 = η0 0 6 := hI.2 0 6 (by decide +kernel)
            have hk0 : (0 : Int) ≤ η0 0 8 ∧ η0 0 8 ≤ 6 := wf_ok (a := 8) (b := 8) (z := (0, 6)) hp.1 (by decide +kernel) (Nat.le_refl _) (Nat.le_refl _)
            have hd : (η0 0 7 < η 0 7 ∨ (η0 0 7 ≤ η 0 7 ∧ η 0 7 < η 0 6 ∧ 97 ≤ η 1 (Int.toNat (η 0 7)) ∧ η 1 (Int.toNat (η 0 7)) ≤ 122)) := hig.2
            have hn : η0 0 7 ≤ η 0 7 := by rcases hd with h | h <;> omega
            have p0 : η0 0 7 < η 0 7 := by
              rcases hd with h | h
              · exact h
              · exact absurd (show x1 < η 0 6 ∧ 97 ≤ η 1 (Int.toNat x1) ∧ η 1 (Int.toNat x1) ≤ 122 by rw [show x1 = η 0 7 by omega]; exact h.2) (k2.2.2.2.2 c1)
            have q5 : x5 ≤ 19 := k5.2.2
            have hG : G_k η4 := by
              first
              | (exfalso; omega)
              | exact gk_v f0_7 f0_6 f0_8 f0_9 fr2 g.2.2 (by omega) (k_o (by decide) (by decide))
              | exact gk_v f0_7 f0_6 f0_8 f0_9 fr2 g.2.2 (by omega) (k_o (fun w => by omega) (fun w => by omega))
              | exact gk_v f0_7 f0_6 f0_8 f0_9 fr2 g.2.2 (by omega) ⟨fun _ => ⟨by omega, by omega⟩, fun h => absurd h (by decide)⟩
              | exact gk_v f0_7 f0_6 f0_8 f0_9 fr2 g.2.2 (by omega) g.2.1
            exact hG
          · show ∀ x1 : Int, x1 = η 0 (Int.toNat 7) → zok 0 x1 → ∀ (x2 : Int) (η1 : zE), ((gC2 wl_k [(nat_lit 0, zPk_isSmall, zOk_isSmall, zMk_isSmall), (nat_lit 1, zPk_isDigit, zOk_isDigit, zMk_isDigit), (nat_lit 2, zPk_wordAt, zOk_wordAt, zMk_wordAt), (nat_lit 3, zPk_packed, zOk_packed, zMk_packed), (nat_lit 4, zPk_signToken, zOk_signToken, zMk_signToken)] pCk_token qCk_token) 0).2 [x1] η x2 η1 → (x2 = 0) → ∀ x3 : Int, x3 = η1 0 (Int.toNat 10) → zok 0 x3 → ∀ x4 : Int, x4 = η1 0 (Int.toNat 7) → zok 0 x4 → ∀ (x5 : Int) (η2 : zE), ((gC2 wl_k [(nat_lit 0, zPk_isSmall, zOk_isSmall, zMk_isSmall), (nat_lit 1, zPk_isDigit, zOk_isDigit, zMk_isDigit), (nat_lit 2, zPk_wordAt, zOk_wordAt, zMk_wordAt), (nat_lit 3, zPk_packed, zOk_packed, zMk_packed), (nat_lit 4, zPk_signToken, zOk_signToken, zMk_signToken)] pCk_token qCk_token) 2).2 [x3, x4] η1 x5 η2 → ∀ η3 : zE, η3 = zup η2 0 (Int.toNat 9) x5 → ∀ x6 : Int, x6 = η3 0 (Int.toNat 9) → zok 0 x6 → (x6 < 0) → ∀ x7 : Int, x7 = η3 0 (Int.toNat 7) → zok 0 x7 → ∀ x8 : Int, x8 = η3 0 (Int.toNat 10) → zok 0 x8 → ∀ x9 : Int, x9 = zd 0 2 x7 x8 → (x9 ≤ 6) → ∀ η4 : zE, η4 = zup η3 0 (Int.toNat 8) 2 → ∀ x10 : Int, x10 = η4 0 (Int.toNat 8) → zok 0 x10 → (x10 = 2) → ∀ x11 : Int, x11 = η4 0 (Int.toNat 10) → zok 0 x11 → ∀ x12 : Int, x12 = η4 0 (Int.toNat 7) → zok 0 x12 → ∀ (x13 : Int) (η5 : zE), ((gC2 wl_k [(nat_lit 0, zPk_isSmall, zOk_isSmall, zMk_isSmall), (nat_lit 1, zPk_isDigit, zOk_isDigit, zMk_isDigit), (nat_lit 2, zPk_wordAt, zOk_wordAt, zMk_wordAt), (nat_lit 3, zPk_packed, zOk_packed, zMk_packed), (nat_lit 4, zPk_signToken, zOk_signToken, zMk_signToken)] pCk_token qCk_token) 3).2 [x11, x12] η4 x13 η5 → ∀ η6 : zE, η6 = zup η5 0 (Int.toNat 9) x13 → (fun (_ : Nat) (y : Int) (η' : zE) => pQk_token xs η0 y η') 0 0 η6
            intro x1 e1 r1 x2 η1 h2 c1 x3 e3 r3 x4 e4 r4 x5 η2 h5 η3 eη3 x6 e6 r6 c2 x7 e7 r7 x8 e8 r8 x9 e9 c3 η4 eη4 x10 e10 r10 c4 x11 e11 r11 x12 e12 r12 x13 η5 h13 η6 eη6
            replace e9 := zEq_i e9
            have k2 : sQ wl_k zTr zOk_isSmall zMk_isSmall [x1] η x2 η1 ∧ pQk_isSmall [x1] η x2 η1 := h2
            have k5 : sQ wl_k zTr zOk_wordAt zMk_wordAt [x3, x4] η1 x5 η2 ∧ pQk_wordAt [x3, x4] η1 x5 η2 := h5
            have k13 : sQ wl_k zTr zOk_packed zMk_packed [x11, x12] η4 x13 η5 ∧ pQk_packed [x11, x12] η4 x13 η5 := h13
            have w0_0_7 : (0 : Int) ≤ η 0 7 ∧ η 0 7 ≤ 700 := wf_ok (a := 7) (b := 7) (z := (0, 700)) hI.1.1 (by decide +kernel) (Nat.le_refl _) (Nat.le_refl _)
            replace e1 : x1 = η 0 7 := e1
            replace r1 : -2147483648 ≤ x1 ∧ x1 ≤ 2147483647 := r1
            have c0_0_7 : η 0 7 = η 0 7 := rfl
            have w0_0_6 : (0 : Int) ≤ η 0 6 ∧ η 0 6 ≤ 700 := wf_ok (a := 6) (b := 6) (z := (0, 700)) hI.1.1 (by decide +kernel) (Nat.le_refl _) (Nat.le_refl _)
            have c0_0_6 : η 0 6 = η 0 6 := rfl
            have w0_0_8 : (0 : Int) ≤ η 0 8 ∧ η 0 8 ≤ 6 := wf_ok (a := 8) (b := 8) (z := (0, 6)) hI.1.1 (by decide +kernel) (Nat.le_refl _) (Nat.le_refl _)
            have c0_0_8 : η 0 8 = η 0 8 := rfl
            have c0_0_9 : η 0 9 = η 0 9 := rfl
            have bx2 : (0 : Int) ≤ x2 ∧ x2 ≤ 1 := k2.1.2.1
            have w0_0_10 : (0 : Int) ≤ η 0 10 ∧ η 0 10 ≤ 700 := wf_ok (a := 10) (b := 10) (z := (0, 700)) hI.1.1 (by decide +kernel) (Nat.le_refl _) (Nat.le_refl _)
            have v5 : η1 0 10 = η 0 10 := (k2.1.2.2.2.1 0 10 (by decide +kernel)).trans rfl
            replace e3 : x3 = η 0 10 := e3.trans v5
            replace r3 : -2147483648 ≤ x3 ∧ x3 ≤ 2147483647 := r3
            have v6 : η1 0 7 = η 0 7 := (k2.1.2.2.2.1 0 7 (by decide +kernel)).trans rfl
            replace e4 : x4 = η 0 7 := e4.trans v6
            replace r4 : -2147483648 ≤ x4 ∧ x4 ≤ 2147483647 := r4
            have c1_0_7 : η1 0 7 = η 0 7 := v6
            have v7 : η1 0 6 = η 0 6 := (k2.1.2.2.2.1 0 6 (by decide +kernel)).trans rfl
            have c1_0_6 : η1 0 6 = η 0 6 := v7
            have v8 : η1 0 8 = η 0 8 := (k2.1.2.2.2.1 0 8 (by decide +kernel)).trans rfl
            have c1_0_8 : η1 0 8 = η 0 8 := v8
            have v9 : η1 0 9 = η 0 9 := (k2.1.2.2.2.1 0 9 (by decide +kernel)).trans rfl
            have c1_0_9 : η1 0 9 = η 0 9 := v9
            have bx5 : ((-1) : Int) ≤ x5 ∧ x5 ≤ 20 := k5.1.2.1
            have v10 : η3 0 9 = x5 := by rw [eη3]; exact zup_eq
            replace e6 : x6 = x5 := e6.trans v10
            replace r6 : -2147483648 ≤ x6 ∧ x6 ≤ 2147483647 := r6
            have v11 : η2 0 7 = η 0 7 := (k5.1.2.2.2.1 0 7 (by decide +kernel)).trans v6
            have v12 : η3 0 7 = η 0 7 := by rw [eη3]; exact (zup_ne (fun _ e => absurd e (by decide))).trans v11
            replace e7 : x7 = η 0 7 := e7.trans v12
            replace r7 : -2147483648 ≤ x7 ∧ x7 ≤ 2147483647 := r7
            have v13 : η2 0 10 = η 0 10 := (k5.1.2.2.2.1 0 10 (by decide +kernel)).trans v5
            have v14 : η3 0 10 = η 0 10 := by rw [eη3]; exact (zup_ne (fun _ e => absurd e (by decide))).trans v13
            replace e8 : x8 = η 0 10 := e8.trans v14
            replace r8 : -2147483648 ≤ x8 ∧ x8 ≤ 2147483647 := r8
            first
            | replace e9 : x9 = x7 - x8 := zd_s2 (zEq_o e9) (by clear e9; exact ⟨by omega, by omega⟩)
            | clear e9
            have v15 : η4 0 8 = 2 := by rw [eη4]; exact zup_eq
            replace e10 : x10 = 2 := e10.trans v15
            replace r10 : -2147483648 ≤ x10 ∧ x10 ≤ 2147483647 := r10
            have v16 : η4 0 10 = η 0 10 := by rw [eη4]; exact (zup_ne (fun _ e => absurd e (by decide))).trans v14
            replace e11 : x11 = η 0 10 := e11.trans v16
            replace r11 : -2147483648 ≤ x11 ∧ x11 ≤ 2147483647 := r11
            have v17 : η4 0 7 = η 0 7 := by rw [eη4]; exact (zup_ne (fun _ e => absurd e (by decide))).trans v12
            replace e12 : x12 = η 0 7 := e12.trans v17
            replace r12 : -2147483648 ≤ x12 ∧ x12 ≤ 2147483647 := r12
            have c4_0_7 : η4 0 7 = η 0 7 := v17
            have v18 : η2 0 6 = η 0 6 := (k5.1.2.2.2.1 0 6 (by decide +kernel)).trans v7
            have v19 : η3 0 6 = η 0 6 := by rw [eη3]; exact (zup_ne (fun _ e => absurd e (by decide))).trans v18
            have v20 : η4 0 6 = η 0 6 := by rw [eη4]; exact (zup_ne (fun _ e => absurd e (by decide))).trans v19
            have c4_0_6 : η4 0 6 = η 0 6 := v20
            have c4_0_8 : η4 0 8 = 2 := v15
            have v21 : η4 0 9 = x5 := by rw [eη4]; exact (zup_ne (fun _ e => absurd e (by decide))).trans v10
            have c4_0_9 : η4 0 9 = x5 := v21
            have bx13 : ((-2147483648) : Int) ≤ x13 ∧ x13 ≤ 2147483647 := k13.1.2.1
            have fr1_0 : ∀ j, η 1 j = η 1 j := fun _ => rfl
            have v22 : ∀ j, η1 1 j = η 1 j := fun j => k2.1.2.2.2.1 1 _ (zinr_not (by decide +kernel))
            have fr1_1 : ∀ j, η1 1 j = η 1 j := v22
            have v23 : ∀ j, η2 1 j = η 1 j := fun j => (k5.1.2.2.2.1 1 _ (zinr_not (by decide +kernel))).trans (v22 j)
            have fr1_2 : ∀ j, η2 1 j = η 1 j := v23
            have v24 : ∀ j, η3 1 j = η 1 j := fun j => by rw [eη3]; exact (zup_ne (fun e _ => absurd e (by decide))).trans (v23 j)
            have fr1_3 : ∀ j, η3 1 j = η 1 j := v24
            have v25 : ∀ j, η4 1 j = η 1 j := fun j => by rw [eη4]; exact (zup_ne (fun e _ => absurd e (by decide))).trans (v24 j)
            have fr1_4 : ∀ j, η4 1 j = η 1 j := v25
            have v26 : ∀ j, η5 1 j = η 1 j := fun j => (k13.1.2.2.2.1 1 _ (zinr_not (by decide +kernel))).trans (v25 j)
            have fr1_5 : ∀ j, η5 1 j = η 1 j := v26
            have v27 : ∀ j, η6 1 j = η 1 j := fun j => by rw [eη6]; exact (zup_ne (fun e _ => absurd e (by decide))).trans (v26 j)
            have fr1_6 : ∀ j, η6 1 j = η 1 j := v27
            have v28 : ∀ j, η1 2 j = η 2 j := fun j => k2.1.2.2.2.1 2 _ (zinr_not (by decide +kernel))
            have v29 : ∀ j, η2 2 j = η 2 j := fun j => (k5.1.2.2.2.1 2 _ (zinr_not (by decide +kernel))).trans (v28 j)
            have v30 : ∀ j, η3 2 j = η 2 j := fun j => by rw [eη3]; exact (zup_ne (fun e _ => absurd e (by decide))).trans (v29 j)
            have v31 : ∀ j, η4 2 j = η 2 j := fun j => by rw [eη4]; exact (zup_ne (fun e _ => absurd e (by decide))).trans (v30 j)
            have v32 : ∀ j, η5 2 j = η 2 j := fun j => (k13.1.2.2.2.1 2 _ (zinr_not (by decide +kernel))).trans (v31 j)
            have v33 : ∀ j, η6 2 j = η 2 j := fun j => by rw [eη6]; exact (zup_ne (fun e _ => absurd e (by decide))).trans (v32 j)
            have fr2 : ∀ j, η6 2 j = η 2 j := v33
            have v34 : η5 0 7 = η 0 7 := (k13.1.2.2.2.1 0 7 (by decide +kernel)).trans v17
            have v35 : η6 0 7 = η 0 7 := by rw [eη6]; exact (zup_ne (fun _ e => absurd e (by decide))).trans v34
            have f0_7 : η6 0 7 = η 0 7 := v35
            have v36 : η5 0 6 = η 0 6 := (k13.1.2.2.2.1 0 6 (by decide +kernel)).trans v20
            have v37 : η6 0 6 = η 0 6 := by rw [eη6]; exact (zup_ne (fun _ e => absurd e (by decide))).trans v36
            have f0_6 : η6 0 6 = η 0 6 := v37
            have v38 : η5 0 8 = 2 := (k13.1.2.2.2.1 0 8 (by decide +kernel)).trans v15
            have v39 : η6 0 8 = 2 := by rw [eη6]; exact (zup_ne (fun _ e => absurd e (by decide))).trans v38
            have f0_8 : η6 0 8 = 2 := v39
            have v40 : η6 0 9 = x13 := by rw [eη6]; exact zup_eq
            have f0_9 : η6 0 9 = x13 := v40
            have g : G_k η := hig.1
            have hh : η 0 7 ≤ η 0 6 := g.1
            have hs : η 0 6 = η0 0 6 := hI.2 0 6 (by decide +kernel)
            have hk0 : (0 : Int) ≤ η0 0 8 ∧ η0 0 8 ≤ 6 := wf_ok (a := 8) (b := 8) (z := (0, 6)) hp.1 (by decide +kernel) (Nat.le_refl _) (Nat.le_refl _)
            have hd : (η0 0 7 < η 0 7 ∨ (η0 0 7 ≤ η 0 7 ∧ η 0 7 < η 0 6 ∧ 97 ≤ η 1 (Int.toNat (η 0 7)) ∧ η 1 (Int.toNat (η 0 7)) ≤ 122)) := hig.2
            have hn : η0 0 7 ≤ η 0 7 := by rcases hd with h | h <;> omega
            have p0 : η0 0 7 < η 0 7 := by
              rcases hd with h | h
              · exact h
              · exact absurd (show x1 < η 0 6 ∧ 97 ≤ η 1 (Int.toNat x1) ∧ η 1 (Int.toNat x1) ≤ 122 by rw [show x1 = η 0 7 by omega]; exact h.2) (k2.2.2.2.2 c1)
            have q5 : x5 ≤ 19 := k5.2.2
            have hG : G_k η6 := by
              first
              | (exfalso; omega)
              | exact gk_v f0_7 f0_6 f0_8 f0_9 fr2 g.2.2 (by omega) (k_o (by decide) (by decide))
              | exact gk_v f0_7 f0_6 f0_8 f0_9 fr2 g.2.2 (by omega) (k_o (fun w => by omega) (fun w => by omega))
              | exact gk_v f0_7 f0_6 f0_8 f0_9 fr2 g.2.2 (by omega) ⟨fun _ => ⟨by omega, by omega⟩, fun h => absurd h (by decide)⟩
              | exact gk_v f0_7 f0_6 f0_8 f0_9 fr2 g.2.2 (by omega) g.2.1
            refine ⟨hG, fun w => ?_⟩
            have w : ¬ η0 0 8 = 0 := w
            show 10 * (η6 0 6 - η6 0 7) + η6 0 8 < 10 * (η0 0 6 - η0 0 7) + η0 0 8
            omega
          · show ∀ x1 : Int, x1 = η 0 (Int.toNat 7) → zok 0 x1 → ∀ (x2 : Int) (η1 : zE), ((gC2 wl_k [(nat_lit 0, zPk_isSmall, zOk_isSmall, zMk_isSmall), (nat_lit 1, zPk_isDigit, zOk_isDigit, zMk_isDigit), (nat_lit 2, zPk_wordAt, zOk_wordAt, zMk_wordAt), (nat_lit 3, zPk_packed, zOk_packed, zMk_packed), (nat_lit 4, zPk_signToken, zOk_signToken, zMk_signToken)] pCk_token qCk_token) 0).2 [x1] η x2 η1 → (x2 = 0) → ∀ x3 : Int, x3 = η1 0 (Int.toNat 10) → zok 0 x3 → ∀ x4 : Int, x4 = η1 0 (Int.toNat 7) → zok 0 x4 → ∀ (x5 : Int) (η2 : zE), ((gC2 wl_k [(nat_lit 0, zPk_isSmall, zOk_isSmall, zMk_isSmall), (nat_lit 1, zPk_isDigit, zOk_isDigit, zMk_isDigit), (nat_lit 2, zPk_wordAt, zOk_wordAt, zMk_wordAt), (nat_lit 3, zPk_packed, zOk_packed, zMk_packed), (nat_lit 4, zPk_signToken, zOk_signToken, zMk_signToken)] pCk_token qCk_token) 2).2 [x3, x4] η1 x5 η2 → ∀ η3 : zE, η3 = zup η2 0 (Int.toNat 9) x5 → ∀ x6 : Int, x6 = η3 0 (Int.toNat 9) → zok 0 x6 → (x6 < 0) → ∀ x7 : Int, x7 = η3 0 (Int.toNat 7) → zok 0 x7 → ∀ x8 : Int, x8 = η3 0 (Int.toNat 10) → zok 0 x8 → ∀ x9 : Int, x9 = zd 0 2 x7 x8 → (6 < x9) → ∀ η4 : zE, η4 = zup η3 0 (Int.toNat 8) 6 → ∀ x10 : Int, x10 = η4 0 (Int.toNat 8) → zok 0 x10 → (¬ x10 = 2) → (fun (_ : Nat) (y : Int) (η' : zE) => pQk_token xs η0 y η') 0 0 η4
            intro x1 e1 r1 x2 η1 h2 c1 x3 e3 r3 x4 e4 r4 x5 η2 h5 η3 eη3 x6 e6 r6 c2 x7 e7 r7 x8 e8 r8 x9 e9 c3 η4 eη4 x10 e10 r10 c4
            replace e9 := zEq_i e9
            have k2 : sQ wl_k zTr zOk_isSmall zMk_isSmall [x1] η x2 η1 ∧ pQk_isSmall [x1] η x2 η1 := h2
            have k5 : sQ wl_k zTr zOk_wordAt zMk_wordAt [x3, x4] η1 x5 η2 ∧ pQk_wordAt [x3, x4] η1 x5 η2 := h5
            have w0_0_7 : (0 : Int) ≤ η 0 7 ∧ η 0 7 ≤ 700 := wf_ok (a := 7) (b := 7) (z := (0, 700)) hI.1.1 (by decide +kernel) (Nat.le_refl _) (Nat.le_refl _)
            replace e1 : x1 = η 0 7 := e1
            replace r1 : -2147483648 ≤ x1 ∧ x1 ≤ 2147483647 := r1
            have c0_0_7 : η 0 7 = η 0 7 := rfl
            have w0_0_6 : (0 : Int) ≤ η 0 6 ∧ η 0 6 ≤ 700 := wf_ok (a := 6) (b := 6) (z := (0, 700)) hI.1.1 (by decide +kernel) (Nat.le_refl _) (Nat.le_refl _)
            have c0_0_6 : η 0 6 = η 0 6 := rfl
            have w0_0_8 : (0 : Int) ≤ η 0 8 ∧ η 0 8 ≤ 6 := wf_ok (a := 8) (b := 8) (z := (0, 6)) hI.1.1 (by decide +kernel) (Nat.le_refl _) (Nat.le_refl _)
            have c0_0_8 : η 0 8 = η 0 8 := rfl
            have c0_0_9 : η 0 9 = η 0 9 := rfl
            have bx2 : (0 : Int) ≤ x2 ∧ x2 ≤ 1 := k2.1.2.1
            have w0_0_10 : (0 : Int) ≤ η 0 10 ∧ η 0 10 ≤ 700 := wf_ok (a := 10) (b := 10) (z := (0, 700)) hI.1.1 (by decide +kernel) (Nat.le_refl _) (Nat.le_refl _)
            have v5 : η1 0 10 = η 0 10 := (k2.1.2.2.2.1 0 10 (by decide +kernel)).trans rfl
            replace e3 : x3 = η 0 10 := e3.trans v5
            replace r3 : -2147483648 ≤ x3 ∧ x3 ≤ 2147483647 := r3
            have v6 : η1 0 7 = η 0 7 := (k2.1.2.2.2.1 0 7 (by decide +kernel)).trans rfl
            replace e4 : x4 = η 0 7 := e4.trans v6
            replace r4 : -2147483648 ≤ x4 ∧ x4 ≤ 2147483647 := r4
            have c1_0_7 : η1 0 7 = η 0 7 := v6
            have v7 : η1 0 6 = η 0 6 := (k2.1.2.2.2.1 0 6 (by decide +kernel)).trans rfl
            have c1_0_6 : η1 0 6 = η 0 6 := v7
            have v8 : η1 0 8 = η 0 8 := (k2.1.2.2.2.1 0 8 (by decide +kernel)).trans rfl
            have c1_0_8 : η1 0 8 = η 0 8 := v8
            have v9 : η1 0 9 = η 0 9 := (k2.1.2.2.2.1 0 9 (by decide +kernel)).trans rfl
            have c1_0_9 : η1 0 9 = η 0 9 := v9
            have bx5 : ((-1) : Int) ≤ x5 ∧ x5 ≤ 20 := k5.1.2.1
            have v10 : η3 0 9 = x5 := by rw [eη3]; exact zup_eq
            replace e6 : x6 = x5 := e6.trans v10
            replace r6 : -2147483648 ≤ x6 ∧ x6 ≤ 2147483647 := r6
            have v11 : η2 0 7 = η 0 7 := (k5.1.2.2.2.1 0 7 (by decide +kernel)).trans v6
            have v12 : η3 0 7 = η 0 7 := by rw [eη3]; exact (zup_ne (fun _ e => absurd e (by decide))).trans v11
            replace e7 : x7 = η 0 7 := e7.trans v12
            replace r7 : -2147483648 ≤ x7 ∧ x7 ≤ 2147483647 := r7
            have v13 : η2 0 10 = η 0 10 := (k5.1.2.2.2.1 0 10 (by decide +kernel)).trans v5
            have v14 : η3 0 10 = η 0 10 := by rw [eη3]; exact (zup_ne (fun _ e => absurd e (by decide))).trans v13
            replace e8 : x8 = η 0 10 := e8.trans v14
            replace r8 : -2147483648 ≤ x8 ∧ x8 ≤ 2147483647 := r8
            first
            | replace e9 : x9 = x7 - x8 := zd_s2 (zEq_o e9) (by clear e9; exact ⟨by omega, by omega⟩)
            | clear e9
            have v15 : η4 0 8 = 6 := by rw [eη4]; exact zup_eq
            replace e10 : x10 = 6 := e10.trans v15
            replace r10 : -2147483648 ≤ x10 ∧ x10 ≤ 2147483647 := r10
            have fr1_0 : ∀ j, η 1 j = η 1 j := fun _ => rfl
            have v16 : ∀ j, η1 1 j = η 1 j := fun j => k2.1.2.2.2.1 1 _ (zinr_not (by decide +kernel))
            have fr1_1 : ∀ j, η1 1 j = η 1 j := v16
            have v17 : ∀ j, η2 1 j = η 1 j := fun j => (k5.1.2.2.2.1 1 _ (zinr_not (by decide +kernel))).trans (v16 j)
            have fr1_2 : ∀ j, η2 1 j = η 1 j := v17
            have v18 : ∀ j, η3 1 j = η 1 j := fun j => by rw [eη3]; exact (zup_ne (fun e _ => absurd e (by decide))).trans (v17 j)
            have fr1_3 : ∀ j, η3 1 j = η 1 j := v18
            have v19 : ∀ j, η4 1 j = η 1 j := fun j => by rw [eη4]; exact (zup_ne (fun e _ => absurd e (by decide))).trans (v18 j)
            have fr1_4 : ∀ j, η4 1 j = η 1 j := v19
            have v20 : ∀ j, η1 2 j = η 2 j := fun j => k2.1.2.2.2.1 2 _ (zinr_not (by decide +kernel))
            have v21 : ∀ j, η2 2 j = η 2 j := fun j => (k5.1.2.2.2.1 2 _ (zinr_not (by decide +kernel))).trans (v20 j)
            have v22 : ∀ j, η3 2 j = η 2 j := fun j => by rw [eη3]; exact (zup_ne (fun e _ => absurd e (by decide))).trans (v21 j)
            have v23 : ∀ j, η4 2 j = η 2 j := fun j => by rw [eη4]; exact (zup_ne (fun e _ => absurd e (by decide))).trans (v22 j)
            have fr2 : ∀ j, η4 2 j = η 2 j := v23
            have v24 : η4 0 7 = η 0 7 := by rw [eη4]; exact (zup_ne (fun _ e => absurd e (by decide))).trans v12
            have f0_7 : η4 0 7 = η 0 7 := v24
            have v25 : η2 0 6 = η 0 6 := (k5.1.2.2.2.1 0 6 (by decide +kernel)).trans v7
            have v26 : η3 0 6 = η 0 6 := by rw [eη3]; exact (zup_ne (fun _ e => absurd e (by decide))).trans v25
            have v27 : η4 0 6 = η 0 6 := by rw [eη4]; exact (zup_ne (fun _ e => absurd e (by decide))).trans v26
            have f0_6 : η4 0 6 = η 0 6 := v27
            have f0_8 : η4 0 8 = 6 := v15
            have v28 : η4 0 9 = x5 := by rw [eη4]; exact (zup_ne (fun _ e => absurd e (by decide))).trans v10
            have f0_9 : η4 0 9 = x5 := v28
            have g : G_k η := hig.1
            have hh : η 0 7 ≤ η 0 6 := g.1
            have hs : η 0 6 = η0 0 6 := hI.2 0 6 (by decide +kernel)
            have hk0 : (0 : Int) ≤ η0 0 8 ∧ η0 0 8 ≤ 6 := wf_ok (a := 8) (b := 8) (z := (0, 6)) hp.1 (by decide +kernel) (Nat.le_refl _) (Nat.le_refl _)
            have hd : (η0 0 7 < η 0 7 ∨ (η0 0 7 ≤ η 0 7 ∧ η 0 7 < η 0 6 ∧ 97 ≤ η 1 (Int.toNat (η 0 7)) ∧ η 1 (Int.toNat (η 0 7)) ≤ 122)) := hig.2
            have hn : η0 0 7 ≤ η 0 7 := by rcases hd with h | h <;> omega
            have p0 : η0 0 7 < η 0 7 := by
              rcases hd with h | h
              · exact h
              · exact absurd (show x1 < η 0 6 ∧ 97 ≤ η 1 (Int.toNat x1) ∧ η 1 (Int.toNat x1) ≤ 122 by rw [show x1 = η 0 7 by omega]; exact h.2) (k2.2.2.2.2 c1)
            have q5 : x5 ≤ 19 := k5.2.2
            have hG : G_k η4 := by
              first
              | (exfalso; omega)
              | exact gk_v f0_7 f0_6 f0_8 f0_9 fr2 g.2.2 (by omega) (k_o (by decide) (by decide))
              | exact gk_v f0_7 f0_6 f0_8 f0_9 fr2 g.2.2 (by omega) (k_o (fun w => by omega) (fun w => by omega))
              | exact gk_v f0_7 f0_6 f0_8 f0_9 fr2 g.2.2 (by omega) ⟨fun _ => ⟨by omega, by omega⟩, fun h => absurd h (by decide)⟩
              | exact gk_v f0_7 f0_6 f0_8 f0_9 fr2 g.2.2 (by omega) g.2.1
            refine ⟨hG, fun w => ?_⟩
            have w : ¬ η0 0 8 = 0 := w
            show 10 * (η4 0 6 - η4 0 7) + η4 0 8 < 10 * (η0 0 6 - η0 0 7) + η0 0 8
            omega
          · show ∀ x1 : Int, x1 = η 0 (Int.toNat 7) → zok 0 x1 → ∀ (x2 : Int) (η1 : zE), ((gC2 wl_k [(nat_lit 0, zPk_isSmall, zOk_isSmall, zMk_isSmall), (nat_lit 1, zPk_isDigit, zOk_isDigit, zMk_isDigit), (nat_lit 2, zPk_wordAt, zOk_wordAt, zMk_wordAt), (nat_lit 3, zPk_packed, zOk_packed, zMk_packed), (nat_lit 4, zPk_signToken, zOk_signToken, zMk_signToken)] pCk_token qCk_token) 0).2 [x1] η x2 η1 → (x2 = 0) → ∀ x3 : Int, x3 = η1 0 (Int.toNat 10) → zok 0 x3 → ∀ x4 : Int, x4 = η1 0 (Int.toNat 7) → zok 0 x4 → ∀ (x5 : Int) (η2 : zE), ((gC2 wl_k [(nat_lit 0, zPk_isSmall, zOk_isSmall, zMk_isSmall), (nat_lit 1, zPk_isDigit, zOk_isDigit, zMk_isDigit), (nat_lit 2, zPk_wordAt, zOk_wordAt, zMk_wordAt), (nat_lit 3, zPk_packed, zOk_packed, zMk_packed), (nat_lit 4, zPk_signToken, zOk_signToken, zMk_signToken)] pCk_token qCk_token) 2).2 [x3, x4] η1 x5 η2 → ∀ η3 : zE, η3 = zup η2 0 (Int.toNat 9) x5 → ∀ x6 : Int, x6 = η3 0 (Int.toNat 9) → zok 0 x6 → (0 ≤ x6) → ∀ η4 : zE, η4 = zup η3 0 (Int.toNat 8) 1 → ∀ x7 : Int, x7 = η4 0 (Int.toNat 8) → zok 0 x7 → (¬ x7 = 2) → (fun (_ : Nat) (y : Int) (η' : zE) => pQk_token xs η0 y η') 0 0 η4
            intro x1 e1 r1 x2 η1 h2 c1 x3 e3 r3 x4 e4 r4 x5 η2 h5 η3 eη3 x6 e6 r6 c2 η4 eη4 x7 e7 r7 c3
            have k2 : sQ wl_k zTr zOk_isSmall zMk_isSmall [x1] η x2 η1 ∧ pQk_isSmall [x1] η x2 η1 := h2
            have k5 : sQ wl_k zTr zOk_wordAt zMk_wordAt [x3, x4] η1 x5 η2 ∧ pQk_wordAt [x3, x4] η1 x5 η2 := h5
            have w0_0_7 : (0 : Int) ≤ η 0 7 ∧ η 0 7 ≤ 700 := wf_ok (a := 7) (b := 7) (z := (0, 700)) hI.1.1 (by decide +kernel) (Nat.le_refl _) (Nat.le_refl _)
            replace e1 : x1 = η 0 7 := e1
            replace r1 : -2147483648 ≤ x1 ∧ x1 ≤ 2147483647 := r1
            have c0_0_7 : η 0 7 = η 0 7 := rfl
            have w0_0_6 : (0 : Int) ≤ η 0 6 ∧ η 0 6 ≤ 700 := wf_ok (a := 6) (b := 6) (z := (0, 700)) hI.1.1 (by decide +kernel) (Nat.le_refl _) (Nat.le_refl _)
            have c0_0_6 : η 0 6 = η 0 6 := rfl
            have w0_0_8 : (0 : Int) ≤ η 0 8 ∧ η 0 8 ≤ 6 := wf_ok (a := 8) (b := 8) (z := (0, 6)) hI.1.1 (by decide +kernel) (Nat.le_refl _) (Nat.le_refl _)
            have c0_0_8 : η 0 8 = η 0 8 := rfl
            have c0_0_9 : η 0 9 = η 0 9 := rfl
            have bx2 : (0 : Int) ≤ x2 ∧ x2 ≤ 1 := k2.1.2.1
            have w0_0_10 : (0 : Int) ≤ η 0 10 ∧ η 0 10 ≤ 700 := wf_ok (a := 10) (b := 10) (z := (0, 700)) hI.1.1 (by decide +kernel) (Nat.le_refl _) (Nat.le_refl _)
            have v5 : η1 0 10 = η 0 10 := (k2.1.2.2.2.1 0 10 (by decide +kernel)).trans rfl
            replace e3 : x3 = η 0 10 := e3.trans v5
            replace r3 : -2147483648 ≤ x3 ∧ x3 ≤ 2147483647 := r3
            have v6 : η1 0 7 = η 0 7 := (k2.1.2.2.2.1 0 7 (by decide +kernel)).trans rfl
            replace e4 : x4 = η 0 7 := e4.trans v6
            replace r4 : -2147483648 ≤ x4 ∧ x4 ≤ 2147483647 := r4
            have c1_0_7 : η1 0 7 = η 0 7 := v6
            have v7 : η1 0 6 = η 0 6 := (k2.1.2.2.2.1 0 6 (by decide +kernel)).trans rfl
            have c1_0_6 : η1 0 6 = η 0 6 := v7
            have v8 : η1 0 8 = η 0 8 := (k2.1.2.2.2.1 0 8 (by decide +kernel)).trans rfl
            have c1_0_8 : η1 0 8 = η 0 8 := v8
            have v9 : η1 0 9 = η 0 9 := (k2.1.2.2.2.1 0 9 (by decide +kernel)).trans rfl
            have c1_0_9 : η1 0 9 = η 0 9 := v9
            have bx5 : ((-1) : Int) ≤ x5 ∧ x5 ≤ 20 := k5.1.2.1
            have v10 : η3 0 9 = x5 := by rw [eη3]; exact zup_eq
            replace e6 : x6 = x5 := e6.trans v10
            replace r6 : -2147483648 ≤ x6 ∧ x6 ≤ 2147483647 := r6
            have v11 : η4 0 8 = 1 := by rw [eη4]; exact zup_eq
            replace e7 : x7 = 1 := e7.trans v11
            replace r7 : -2147483648 ≤ x7 ∧ x7 ≤ 2147483647 := r7
            have fr1_0 : ∀ j, η 1 j = η 1 j := fun _ => rfl
            have v12 : ∀ j, η1 1 j = η 1 j := fun j => k2.1.2.2.2.1 1 _ (zinr_not (by decide +kernel))
            have fr1_1 : ∀ j, η1 1 j = η 1 j := v12
            have v13 : ∀ j, η2 1 j = η 1 j := fun j => (k5.1.2.2.2.1 1 _ (zinr_not (by decide +kernel))).trans (v12 j)
            have fr1_2 : ∀ j, η2 1 j = η 1 j := v13
            have v14 : ∀ j, η3 1 j = η 1 j := fun j => by rw [eη3]; exact (zup_ne (fun e _ => absurd e (by decide))).trans (v13 j)
            have fr1_3 : ∀ j, η3 1 j = η 1 j := v14
            have v15 : ∀ j, η4 1 j = η 1 j := fun j => by rw [eη4]; exact (zup_ne (fun e _ => absurd e (by decide))).trans (v14 j)
            have fr1_4 : ∀ j, η4 1 j = η 1 j := v15
            have v16 : ∀ j, η1 2 j = η 2 j := fun j => k2.1.2.2.2.1 2 _ (zinr_not (by decide +kernel))
            have v17 : ∀ j, η2 2 j = η 2 j := fun j => (k5.1.2.2.2.1 2 _ (zinr_not (by decide +kernel))).trans (v16 j)
            have v18 : ∀ j, η3 2 j = η 2 j := fun j => by rw [eη3]; exact (zup_ne (fun e _ => absurd e (by decide))).trans (v17 j)
            have v19 : ∀ j, η4 2 j = η 2 j := fun j => by rw [eη4]; exact (zup_ne (fun e _ => absurd e (by decide))).trans (v18 j)
            have fr2 : ∀ j, η4 2 j = η 2 j := v19
            have v20 : η2 0 7 = η 0 7 := (k5.1.2.2.2.1 0 7 (by decide +kernel)).trans v6
            have v21 : η3 0 7 = η 0 7 := by rw [eη3]; exact (zup_ne (fun _ e => absurd e (by decide))).trans v20
            have v22 : η4 0 7 = η 0 7 := by rw [eη4]; exact (zup_ne (fun _ e => absurd e (by decide))).trans v21
            have f0_7 : η4 0 7 = η 0 7 := v22
            have v23 : η2 0 6 = η 0 6 := (k5.1.2.2.2.1 0 6 (by decide +kernel)).trans v7
            have v24 : η3 0 6 = η 0 6 := by rw [eη3]; exact (zup_ne (fun _ e => absurd e (by decide))).trans v23
            have v25 : η4 0 6 = η 0 6 := by rw [eη4]; exact (zup_ne (fun _ e => absurd e (by decide))).trans v24
            have f0_6 : η4 0 6 = η 0 6 := v25
            have f0_8 : η4 0 8 = 1 := v11
            have v26 : η4 0 9 = x5 := by rw [eη4]; exact (zup_ne (fun _ e => absurd e (by decide))).trans v10
            have f0_9 : η4 0 9 = x5 := v26
            have g : G_k η := hig.1
            have hh : η 0 7 ≤ η 0 6 := g.1
            have hs : η 0 6 = η0 0 6 := hI.2 0 6 (by decide +kernel)
            have hk0 : (0 : Int) ≤ η0 0 8 ∧ η0 0 8 ≤ 6 := wf_ok (a := 8) (b := 8) (z := (0, 6)) hp.1 (by decide +kernel) (Nat.le_refl _) (Nat.le_refl _)
            have hd : (η0 0 7 < η 0 7 ∨ (η0 0 7 ≤ η 0 7 ∧ η 0 7 < η 0 6 ∧ 97 ≤ η 1 (Int.toNat (η 0 7)) ∧ η 1 (Int.toNat (η 0 7)) ≤ 122)) := hig.2
            have hn : η0 0 7 ≤ η 0 7 := by rcases hd with h | h <;> omega
            have p0 : η0 0 7 < η 0 7 := by
              rcases hd with h | h
              · exact h
              · exact absurd (show x1 < η 0 6 ∧ 97 ≤ η 1 (Int.toNat x1) ∧ η 1 (Int.toNat x1) ≤ 122 by rw [show x1 = η 0 7 by omega]; exact h.2) (k2.2.2.2.2 c1)
            have q5 : x5 ≤ 19 := k5.2.2
            have hG : G_k η4 := by
              first
              | (exfalso; omega)
              | exact gk_v f0_7 f0_6 f0_8 f0_9 fr2 g.2.2 (by omega) (k_o (by decide) (by decide))
              | exact gk_v f0_7 f0_6 f0_8 f0_9 fr2 g.2.2 (by omega) (k_o (fun w => by omega) (fun w => by omega))
              | exact gk_v f0_7 f0_6 f0_8 f0_9 fr2 g.2.2 (by omega) ⟨fun _ => ⟨by omega, by omega⟩, fun h => absurd h (by decide)⟩
              | exact gk_v f0_7 f0_6 f0_8 f0_9 fr2 g.2.2 (by omega) g.2.1
            refine ⟨hG, fun w => ?_⟩
            have w : ¬ η0 0 8 = 0 := w
            show 10 * (η4 0 6 - η4 0 7) + η4 0 8 < 10 * (η0 0 6 - η0 0 7) + η0 0 8
            omega
          · show ∀ x1 : Int, x1 = η 0 (Int.toNat 7) → zok 0 x1 → ∀ (x2 : Int) (η1 : zE), ((gC2 wl_k [(nat_lit 0, zPk_isSmall, zOk_isSmall, zMk_isSmall), (nat_lit 1, zPk_isDigit, zOk_isDigit, zMk_isDigit), (nat_lit 2, zPk_wordAt, zOk_wordAt, zMk_wordAt), (nat_lit 3, zPk_packed, zOk_packed, zMk_packed), (nat_lit 4, zPk_signToken, zOk_signToken, zMk_signToken)] pCk_token qCk_token) 0).2 [x1] η x2 η1 → (¬ x2 = 0) → ∀ x3 : Int, x3 = η1 0 (Int.toNat 7) → zok 0 x3 → ∀ x4 : Int, x4 = zd 0 1 x3 1 → ∀ η2 : zE, η2 = zup η1 0 (Int.toNat 7) x4 → (iCk_token xs η0) 1 [] η2 ∧ (fun (_ : Nat) (_ : List Int) (_ : zE) => (0 : Nat)) 1 [] η2 < 1
            intro x1 e1 r1 x2 η1 h2 c1 x3 e3 r3 x4 e4 η2 eη2
            replace e4 := zEq_i e4
            have k2 : sQ wl_k zTr zOk_isSmall zMk_isSmall [x1] η x2 η1 ∧ pQk_isSmall [x1] η x2 η1 := h2
            have w0_0_7 : (0 : Int) ≤ η 0 7 ∧ η 0 7 ≤ 700 := wf_ok (a := 7) (b := 7) (z := (0, 700)) hI.1.1 (by decide +kernel) (Nat.le_refl _) (Nat.le_refl _)
            replace e1 : x1 = η 0 7 := e1
            replace r1 : -2147483648 ≤ x1 ∧ x1 ≤ 2147483647 := r1
            have c0_0_7 : η 0 7 = η 0 7 := rfl
            have w0_0_6 : (0 : Int) ≤ η 0 6 ∧ η 0 6 ≤ 700 := wf_ok (a := 6) (b := 6) (z := (0, 700)) hI.1.1 (by decide +kernel) (Nat.le_refl _) (Nat.le_refl _)
            have c0_0_6 : η 0 6 = η 0 6 := rfl
            have w0_0_8 : (0 : Int) ≤ η 0 8 ∧ η 0 8 ≤ 6 := wf_ok (a := 8) (b := 8) (z := (0, 6)) hI.1.1 (by decide +kernel) (Nat.le_refl _) (Nat.le_refl _)
            have c0_0_8 : η 0 8 = η 0 8 := rfl
            have c0_0_9 : η 0 9 = η 0 9 := rfl
            have bx2 : (0 : Int) ≤ x2 ∧ x2 ≤ 1 := k2.1.2.1
            have v4 : η1 0 7 = η 0 7 := (k2.1.2.2.2.1 0 7 (by decide +kernel)).trans rfl
            replace e3 : x3 = η 0 7 := e3.trans v4
            replace r3 : -2147483648 ≤ x3 ∧ x3 ≤ 2147483647 := r3
            first
            | replace e4 : x4 = x3 + 1 := zd_a2 (zEq_o e4) (by clear e4; exact ⟨by omega, by omega⟩)
            | clear e4
            have fr1_0 : ∀ j, η 1 j = η 1 j := fun _ => rfl
            have v5 : ∀ j, η1 1 j = η 1 j := fun j => k2.1.2.2.2.1 1 _ (zinr_not (by decide +kernel))
            have fr1_1 : ∀ j, η1 1 j = η 1 j := v5
            have v6 : ∀ j, η2 1 j = η 1 j := fun j => by rw [eη2]; exact (zup_ne (fun e _ => absurd e (by decide))).trans (v5 j)
            have fr1_2 : ∀ j, η2 1 j = η 1 j := v6
            have v7 : ∀ j, η1 2 j = η 2 j := fun j => k2.1.2.2.2.1 2 _ (zinr_not (by decide +kernel))
            have v8 : ∀ j, η2 2 j = η 2 j := fun j => by rw [eη2]; exact (zup_ne (fun e _ => absurd e (by decide))).trans (v7 j)
            have fr2 : ∀ j, η2 2 j = η 2 j := v8
            have v9 : η2 0 7 = x4 := by rw [eη2]; exact zup_eq
            have f0_7 : η2 0 7 = x4 := v9
            have v10 : η1 0 6 = η 0 6 := (k2.1.2.2.2.1 0 6 (by decide +kernel)).trans rfl
            have v11 : η2 0 6 = η 0 6 := by rw [eη2]; exact (zup_ne (fun _ e => absurd e (by decide))).trans v10
            have f0_6 : η2 0 6 = η 0 6 := v11
            have v12 : η1 0 8 = η 0 8 := (k2.1.2.2.2.1 0 8 (by decide +kernel)).trans rfl
            have v13 : η2 0 8 = η 0 8 := by rw [eη2]; exact (zup_ne (fun _ e => absurd e (by decide))).trans v12
            have f0_8 : η2 0 8 = η 0 8 := v13
            have v14 : η1 0 9 = η 0 9 := (k2.1.2.2.2.1 0 9 (by decide +kernel)).trans rfl
            have v15 : η2 0 9 = η 0 9 := by rw [eη2]; exact (zup_ne (fun _ e => absurd e (by decide))).trans v14
            have f0_9 : η2 0 9 = η 0 9 := v15
            have g : G_k η := hig.1
            have hh : η 0 7 ≤ η 0 6 := g.1
            have hs : η 0 6 = η0 0 6 := hI.2 0 6 (by decide +kernel)
            have hk0 : (0 : Int) ≤ η0 0 8 ∧ η0 0 8 ≤ 6 := wf_ok (a := 8) (b := 8) (z := (0, 6)) hp.1 (by decide +kernel) (Nat.le_refl _) (Nat.le_refl _)
            have hd : (η0 0 7 < η 0 7 ∨ (η0 0 7 ≤ η 0 7 ∧ η 0 7 < η 0 6 ∧ 97 ≤ η 1 (Int.toNat (η 0 7)) ∧ η 1 (Int.toNat (η 0 7)) ≤ 122)) := hig.2
            have hn : η0 0 7 ≤ η 0 7 := by rcases hd with h | h <;> omega
            have q2 : x1 < η 0 6 ∧ 97 ≤ η 1 (Int.toNat x1) ∧ η 1 (Int.toNat x1) ≤ 122 := k2.2.2.2.1 c1
            rw [fr1_0] at q2
            have p2 := q2.1
            rw [show x1 = η 0 7 by omega] at q2
            have hG : G_k η2 := by
              first
              | (exfalso; omega)
              | exact gk_v f0_7 f0_6 f0_8 f0_9 fr2 g.2.2 (by omega) (k_o (by decide) (by decide))
              | exact gk_v f0_7 f0_6 f0_8 f0_9 fr2 g.2.2 (by omega) (k_o (fun w => by omega) (fun w => by omega))
              | exact gk_v f0_7 f0_6 f0_8 f0_9 fr2 g.2.2 (by omega) ⟨fun _ => ⟨by omega, by omega⟩, fun h => absurd h (by decide)⟩
              | exact gk_v f0_7 f0_6 f0_8 f0_9 fr2 g.2.2 (by omega) g.2.1
            first
            | (exfalso; omega)
            | exact ⟨⟨hG, Or.inl (show η0 0 7 < η2 0 7 by omega)⟩, Nat.zero_lt_one⟩
        · exact fun _ h => nomatch h
      )⟩, (List.forall_mem_cons.mpr ⟨⟨zDk_token_2, zEk_token_2, zFk_token_2, 35, by decide +kernel, (by
      intro xs η0 hlx hp hpp ys η hr hl hI hig
      match ys, hl, hI, hig with
      | [], _, hI, hig =>
        refine ⟨?_, ?_⟩
        · refine List.forall_mem_cons.mpr ⟨?_, List.forall_mem_cons.mpr ⟨?_, List.forall_mem_cons.mpr ⟨?_, List.forall_mem_cons.mpr ⟨?_, fun _ h => nomatch h⟩⟩⟩⟩
          · show ∀ x1 : Int, x1 = η 0 (Int.toNat 7) → zok 0 x1 → ((gC2 wl_k [(nat_lit 0, zPk_isSmall, zOk_isSmall, zMk_isSmall), (nat_lit 1, zPk_isDigit, zOk_isDigit, zMk_isDigit), (nat_lit 2, zPk_wordAt, zOk_wordAt, zMk_wordAt), (nat_lit 3, zPk_packed, zOk_packed, zMk_packed), (nat_lit 4, zPk_signToken, zOk_signToken, zMk_signToken)] pCk_token qCk_token) 1).1 [x1] η
            intro x1 e1 r1
            have w0_0_7 : (0 : Int) ≤ η 0 7 ∧ η 0 7 ≤ 700 := wf_ok (a := 7) (b := 7) (z := (0, 700)) hI.1.1 (by decide +kernel) (Nat.le_refl _) (Nat.le_refl _)
            replace e1 : x1 = η 0 7 := e1
            replace r1 : -2147483648 ≤ x1 ∧ x1 ≤ 2147483647 := r1
            have fr1_0 : ∀ j, η 1 j = η 1 j := fun _ => rfl
            have fr2 : ∀ j, η 2 j = η 2 j := fun _ => rfl
            have f0_7 : η 0 7 = η 0 7 := rfl
            have w0_0_6 : (0 : Int) ≤ η 0 6 ∧ η 0 6 ≤ 700 := wf_ok (a := 6) (b := 6) (z := (0, 700)) hI.1.1 (by decide +kernel) (Nat.le_refl _) (Nat.le_refl _)
            have f0_6 : η 0 6 = η 0 6 := rfl
            have w0_0_8 : (0 : Int) ≤ η 0 8 ∧ η 0 8 ≤ 6 := wf_ok (a := 8) (b := 8) (z := (0, 6)) hI.1.1 (by decide +kernel) (Nat.le_refl _) (Nat.le_refl _)
            have f0_8 : η 0 8 = η 0 8 := rfl
            have f0_9 : η 0 9 = η 0 9 := rfl
            have g : G_k η := hig.1
            have hh : η 0 7 ≤ η 0 6 := g.1
            have hs : η 0 6 = η0 0 6 := hI.2 0 6 (by decide +kernel)
            have hk0 : (0 : Int) ≤ η0 0 8 ∧ η0 0 8 ≤ 6 := wf_ok (a := 8) (b := 8) (z := (0, 6)) hp.1 (by decide +kernel) (Nat.le_refl _) (Nat.le_refl _)
            have h3 : η 0 8 = 3 := hig.2.1
            have hd : (η0 0 7 < η 0 7 ∨ (η0 0 7 ≤ η 0 7 ∧ η 0 7 < η 0 6 ∧ 48 ≤ η 1 (Int.toNat (η 0 7)) ∧ η 1 (Int.toNat (η 0 7)) ≤ 57)) := hig.2.2
            have hn : η0 0 7 ≤ η 0 7 := by rcases hd with h | h <;> omega
            have hG : G_k η := by
              first
              | (exfalso; omega)
              | exact gk_v f0_7 f0_6 f0_8 f0_9 fr2 g.2.2 (by omega) (k_o (by decide) (by decide))
              | exact gk_v f0_7 f0_6 f0_8 f0_9 fr2 g.2.2 (by omega) (k_o (fun w => by omega) (fun w => by omega))
              | exact gk_v f0_7 f0_6 f0_8 f0_9 fr2 g.2.2 (by omega) ⟨fun _ => ⟨by omega, by omega⟩, fun h => absurd h (by decide)⟩
              | exact gk_v f0_7 f0_6 f0_8 f0_9 fr2 g.2.2 (by omega) g.2.1
            exact hG
          · show ∀ x1 : Int, x1 = η 0 (Int.toNat 7) → zok 0 x1 → ∀ (x2 : Int) (η1 : zE), ((gC2 wl_k [(nat_lit 0, zPk_isSmall, zOk_isSmall, zMk_isSmall), (nat_lit 1, zPk_isDigit, zOk_isDigit, zMk_isDigit), (nat_lit 2, zPk_wordAt, zOk_wordAt, zMk_wordAt), (nat_lit 3, zPk_packed, zOk_packed, zMk_packed), (nat_lit 4, zPk_signToken, zOk_signToken, zMk_signToken)] pCk_token qCk_token) 1).2 [x1] η x2 η1 → (x2 = 0) → (fun (_ : Nat) (y : Int) (η' : zE) => pQk_token xs η0 y η') 0 0 η1
            intro x1 e1 r1 x2 η1 h2 c1
            have k2 : sQ wl_k zTr zOk_isDigit zMk_isDigit [x1] η x2 η1 ∧ pQk_isDigit [x1] η x2 η1 := h2
            have w0_0_7 : (0 : Int) ≤ η 0 7 ∧ η 0 7 ≤ 700 := wf_ok (a := 7) (b := 7) (z := (0, 700)) hI.1.1 (by decide +kernel) (Nat.le_refl _) (Nat.le_refl _)
            replace e1 : x1 = η 0 7 := e1
            replace r1 : -2147483648 ≤ x1 ∧ x1 ≤ 2147483647 := r1
            have c0_0_7 : η 0 7 = η 0 7 := rfl
            have w0_0_6 : (0 : Int) ≤ η 0 6 ∧ η 0 6 ≤ 700 := wf_ok (a := 6) (b := 6) (z := (0, 700)) hI.1.1 (by decide +kernel) (Nat.le_refl _) (Nat.le_refl _)
            have c0_0_6 : η 0 6 = η 0 6 := rfl
            have w0_0_8 : (0 : Int) ≤ η 0 8 ∧ η 0 8 ≤ 6 := wf_ok (a := 8) (b := 8) (z := (0, 6)) hI.1.1 (by decide +kernel) (Nat.le_refl _) (Nat.le_refl _)
            have c0_0_8 : η 0 8 = η 0 8 := rfl
            have c0_0_9 : η 0 9 = η 0 9 := rfl
            have bx2 : (0 : Int) ≤ x2 ∧ x2 ≤ 1 := k2.1.2.1
            have fr1_0 : ∀ j, η 1 j = η 1 j := fun _ => rfl
            have v4 : ∀ j, η1 1 j = η 1 j := fun j => k2.1.2.2.2.1 1 _ (zinr_not (by decide +kernel))
            have fr1_1 : ∀ j, η1 1 j = η 1 j := v4
            have v5 : ∀ j, η1 2 j = η 2 j := fun j => k2.1.2.2.2.1 2 _ (zinr_not (by decide +kernel))
            have fr2 : ∀ j, η1 2 j = η 2 j := v5
            have v6 : η1 0 7 = η 0 7 := (k2.1.2.2.2.1 0 7 (by decide +kernel)).trans rfl
            have f0_7 : η1 0 7 = η 0 7 := v6
            have v7 : η1 0 6 = η 0 6 := (k2.1.2.2.2.1 0 6 (by decide +kernel)).trans rfl
            have f0_6 : η1 0 6 = η 0 6 := v7
            have v8 : η1 0 8 = η 0 8 := (k2.1.2.2.2.1 0 8 (by decide +kernel)).trans rfl
            have f0_8 : η1 0 8 = η 0 8 := v8
            have v9 : η1 0 9 = η 0 9 := (k2.1.2.2.2.1 0 9 (by decide +kernel)).trans rfl
            have f0_9 : η1 0 9 = η 0 9 := v9
            have g : G_k η := hig.1
            have hh : η 0 7 ≤ η 0 6 := g.1
            have hs : η 0 6 = η0 0 6 := hI.2 0 6 (by decide +kernel)
            have hk0 : (0 : Int) ≤ η0 0 8 ∧ η0 0 8 ≤ 6 := wf_ok (a := 8) (b := 8) (z := (0, 6)) hp.1 (by decide +kernel) (Nat.le_refl _) (Nat.le_refl _)
            have h3 : η 0 8 = 3 := hig.2.1
            have hd : (η0 0 7 < η 0 7 ∨ (η0 0 7 ≤ η 0 7 ∧ η 0 7 < η 0 6 ∧ 48 ≤ η 1 (Int.toNat (η 0 7)) ∧ η 1 (Int.toNat (η 0 7)) ≤ 57)) := hig.2.2
            have hn : η0 0 7 ≤ η 0 7 := by rcases hd with h | h <;> omega
            have p0 : η0 0 7 < η 0 7 := by
              rcases hd with h | h
              · exact h
              · exact absurd (show x1 < η 0 6 ∧ 48 ≤ η 1 (Int.toNat x1) ∧ η 1 (Int.toNat x1) ≤ 57 by rw [show x1 = η 0 7 by omega]; exact h.2) (k2.2.2.2.2 c1)
            have hG : G_k η1 := by
              first
              | (exfalso; omega)
              | exact gk_v f0_7 f0_6 f0_8 f0_9 fr2 g.2.2 (by omega) (k_o (by decide) (by decide))
              | exact gk_v f0_7 f0_6 f0_8 f0_9 fr2 g.2.2 (by omega) (k_o (fun w => by omega) (fun w => by omega))
              | exact gk_v f0_7 f0_6 f0_8 f0_9 fr2 g.2.2 (by omega) ⟨fun _ => ⟨by omega, by omega⟩, fun h => absurd h (by decide)⟩
              | exact gk_v f0_7 f0_6 f0_8 f0_9 fr2 g.2.2 (by omega) g.2.1
            refine ⟨hG, fun w => ?_⟩
            have w : ¬ η0 0 8 = 0 := w
            show 10 * (η1 0 6 - η1 0 7) + η1 0 8 < 10 * (η0 0 6 - η0 0 7) + η0 0 8
            omega
          · show ∀ x1 : Int, x1 = η 0 (Int.toNat 7) → zok 0 x1 → ∀ (x2 : Int) (η1 : zE), ((gC2 wl_k [(nat_lit 0, zPk_isSmall, zOk_isSmall, zMk_isSmall), (nat_lit 1, zPk_isDigit, zOk_isDigit, zMk_isDigit), (nat_lit 2, zPk_wordAt, zOk_wordAt, zMk_wordAt), (nat_lit 3, zPk_packed, zOk_packed, zMk_packed), (nat_lit 4, zPk_signToken, zOk_signToken, zMk_signToken)] pCk_token qCk_token) 1).2 [x1] η x2 η1 → (¬ x2 = 0) → ∀ x3 : Int, x3 = η1 0 (Int.toNat 9) → zok 0 x3 → (x3 ≤ 99999) → ∀ x4 : Int, x4 = η1 0 (Int.toNat 9) → zok 0 x4 → ∀ x5 : Int, x5 = zd 0 3 10 x4 → ∀ x6 : Int, x6 = η1 0 (Int.toNat 7) → zok 0 x6 → ∀ x7 : Int, x7 = η1 1 (Int.toNat x6) → zok 0 x7 → ∀ x8 : Int, x8 = zd 0 1 x5 x7 → ∀ x9 : Int, x9 = zd 0 2 x8 48 → ∀ η2 : zE, η2 = zup η1 0 (Int.toNat 9) x9 → ∀ x10 : Int, x10 = η2 0 (Int.toNat 7) → zok 0 x10 → ∀ x11 : Int, x11 = zd 0 1 x10 1 → ∀ η3 : zE, η3 = zup η2 0 (Int.toNat 7) x11 → (iCk_token xs η0) 2 [] η3 ∧ (fun (_ : Nat) (_ : List Int) (_ : zE) => (0 : Nat)) 2 [] η3 < 1
            intro x1 e1 r1 x2 η1 h2 c1 x3 e3 r3 c2 x4 e4 r4 x5 e5 x6 e6 r6 x7 e7 r7 x8 e8 x9 e9 η2 eη2 x10 e10 r10 x11 e11 η3 eη3
            replace e5 := zEq_i e5
            replace e8 := zEq_i e8
            replace e9 := zEq_i e9
            replace e11 := zEq_i e11
            have k2 : sQ wl_k zTr zOk_isDigit zMk_isDigit [x1] η x2 η1 ∧ pQk_isDigit [x1] η x2 η1 := h2
            have w0_0_7 : (0 : Int) ≤ η 0 7 ∧ η 0 7 ≤ 700 := wf_ok (a := 7) (b := 7) (z := (0, 700)) hI.1.1 (by decide +kernel) (Nat.le_refl _) (Nat.le_refl _)
            replace e1 : x1 = η 0 7 := e1
            replace r1 : -2147483648 ≤ x1 ∧ x1 ≤ 2147483647 := r1
            have c0_0_7 : η 0 7 = η 0 7 := rfl
            have w0_0_6 : (0 : Int) ≤ η 0 6 ∧ η 0 6 ≤ 700 := wf_ok (a := 6) (b := 6) (z := (0, 700)) hI.1.1 (by decide +kernel) (Nat.le_refl _) (Nat.le_refl _)
            have c0_0_6 : η 0 6 = η 0 6 := rfl
            have w0_0_8 : (0 : Int) ≤ η 0 8 ∧ η 0 8 ≤ 6 := wf_ok (a := 8) (b := 8) (z := (0, 6)) hI.1.1 (by decide +kernel) (Nat.le_refl _) (Nat.le_refl _)
            have c0_0_8 : η 0 8 = η 0 8 := rfl
            have c0_0_9 : η 0 9 = η 0 9 := rfl
            have bx2 : (0 : Int) ≤ x2 ∧ x2 ≤ 1 := k2.1.2.1
            have v4 : η1 0 9 = η 0 9 := (k2.1.2.2.2.1 0 9 (by decide +kernel)).trans rfl
            replace e3 : x3 = η 0 9 := e3.trans v4
            replace r3 : -2147483648 ≤ x3 ∧ x3 ≤ 2147483647 := r3
            replace e4 : x4 = η 0 9 := e4.trans v4
            replace r4 : -2147483648 ≤ x4 ∧ x4 ≤ 2147483647 := r4
            clear e5
            have v5 : η1 0 7 = η 0 7 := (k2.1.2.2.2.1 0 7 (by decide +kernel)).trans rfl
            replace e6 : x6 = η 0 7 := e6.trans v5
            replace r6 : -2147483648 ≤ x6 ∧ x6 ≤ 2147483647 := r6
            have v7 : η1 1 (Int.toNat x6) = η 1 (Int.toNat x6) := (k2.1.2.2.2.1 1 _ (zinr_not (by decide +kernel))).trans rfl
            replace e7 : x7 = η 1 (Int.toNat x6) := e7.trans v7
            replace r7 : -2147483648 ≤ x7 ∧ x7 ≤ 2147483647 := r7
            first
            | replace e8 : x8 = x5 + x7 := zd_a2 (zEq_o e8) (by clear e8; exact ⟨by omega, by omega⟩)
            | clear e8
            first
            | replace e9 : x9 = x8 - 48 := zd_s2 (zEq_o e9) (by clear e9; exact ⟨by omega, by omega⟩)
            | clear e9
            have v8 : η2 0 7 = η 0 7 := by rw [eη2]; exact (zup_ne (fun _ e => absurd e (by decide))).trans v5
            replace e10 : x10 = η 0 7 := e10.trans v8
            replace r10 : -2147483648 ≤ x10 ∧ x10 ≤ 2147483647 := r10
            first
            | replace e11 : x11 = x10 + 1 := zd_a2 (zEq_o e11) (by clear e11; exact ⟨by omega, by omega⟩)
            | clear e11
            have fr1_0 : ∀ j, η 1 j = η 1 j := fun _ => rfl
            have v9 : ∀ j, η1 1 j = η 1 j := fun j => k2.1.2.2.2.1 1 _ (zinr_not (by decide +kernel))
            have fr1_1 : ∀ j, η1 1 j = η 1 j := v9
            have v10 : ∀ j, η2 1 j = η 1 j := fun j => by rw [eη2]; exact (zup_ne (fun e _ => absurd e (by decide))).trans (v9 j)
            have fr1_2 : ∀ j, η2 1 j = η 1 j := v10
            have v11 : ∀ j, η3 1 j = η 1 j := fun j => by rw [eη3]; exact (zup_ne (fun e _ => absurd e (by decide))).trans (v10 j)
            have fr1_3 : ∀ j, η3 1 j = η 1 j := v11
            have v12 : ∀ j, η1 2 j = η 2 j := fun j => k2.1.2.2.2.1 2 _ (zinr_not (by decide +kernel))
            have v13 : ∀ j, η2 2 j = η 2 j := fun j => by rw [eη2]; exact (zup_ne (fun e _ => absurd e (by decide))).trans (v12 j)
            have v14 : ∀ j, η3 2 j = η 2 j := fun j => by rw [eη3]; exact (zup_ne (fun e _ => absurd e (by decide))).trans (v13 j)
            have fr2 : ∀ j, η3 2 j = η 2 j := v14
            have v15 : η3 0 7 = x11 := by rw [eη3]; exact zup_eq
            have f0_7 : η3 0 7 = x11 := v15
            have v16 : η1 0 6 = η 0 6 := (k2.1.2.2.2.1 0 6 (by decide +kernel)).trans rfl
            have v17 : η2 0 6 = η 0 6 := by rw [eη2]; exact (zup_ne (fun _ e => absurd e (by decide))).trans v16
            have v18 : η3 0 6 = η 0 6 := by rw [eη3]; exact (zup_ne (fun _ e => absurd e (by decide))).trans v17
            have f0_6 : η3 0 6 = η 0 6 := v18
            have v19 : η1 0 8 = η 0 8 := (k2.1.2.2.2.1 0 8 (by decide +kernel)).trans rfl
            have v20 : η2 0 8 = η 0 8 := by rw [eη2]; exact (zup_ne (fun _ e => absurd e (by decide))).trans v19
            have v21 : η3 0 8 = η 0 8 := by rw [eη3]; exact (zup_ne (fun _ e => absurd e (by decide))).trans v20
            have f0_8 : η3 0 8 = η 0 8 := v21
            have v22 : η2 0 9 = x9 := by rw [eη2]; exact zup_eq
            have v23 : η3 0 9 = x9 := by rw [eη3]; exact (zup_ne (fun _ e => absurd e (by decide))).trans v22
            have f0_9 : η3 0 9 = x9 := v23
            have g : G_k η := hig.1
            have hh : η 0 7 ≤ η 0 6 := g.1
            have hs : η 0 6 = η0 0 6 := hI.2 0 6 (by decide +kernel)
            have hk0 : (0 : Int) ≤ η0 0 8 ∧ η0 0 8 ≤ 6 := wf_ok (a := 8) (b := 8) (z := (0, 6)) hp.1 (by decide +kernel) (Nat.le_refl _) (Nat.le_refl _)
            have h3 : η 0 8 = 3 := hig.2.1
            have hd : (η0 0 7 < η 0 7 ∨ (η0 0 7 ≤ η 0 7 ∧ η 0 7 < η 0 6 ∧ 48 ≤ η 1 (Int.toNat (η 0 7)) ∧ η 1 (Int.toNat (η 0 7)) ≤ 57)) := hig.2.2
            have hn : η0 0 7 ≤ η 0 7 := by rcases hd with h | h <;> omega
            have q2 : x1 < η 0 6 ∧ 48 ≤ η 1 (Int.toNat x1) ∧ η 1 (Int.toNat x1) ≤ 57 := k2.2.2.2.1 c1
            rw [fr1_0] at q2
            have p2 := q2.1
            rw [show x1 = η 0 7 by omega] at q2
            have hG : G_k η3 := by
              first
              | (exfalso; omega)
              | exact gk_v f0_7 f0_6 f0_8 f0_9 fr2 g.2.2 (by omega) (k_o (by decide) (by decide))
              | exact gk_v f0_7 f0_6 f0_8 f0_9 fr2 g.2.2 (by omega) (k_o (fun w => by omega) (fun w => by omega))
              | exact gk_v f0_7 f0_6 f0_8 f0_9 fr2 g.2.2 (by omega) ⟨fun _ => ⟨by omega, by omega⟩, fun h => absurd h (by decide)⟩
              | exact gk_v f0_7 f0_6 f0_8 f0_9 fr2 g.2.2 (by omega) g.2.1
            first
            | (exfalso; omega)
            | exact ⟨⟨hG, show η3 0 8 = 3 by rw [f0_8]; exact hig.2.1, Or.inl (show η0 0 7 < η3 0 7 by omega)⟩, Nat.zero_lt_one⟩
          · show ∀ x1 : Int, x1 = η 0 (Int.toNat 7) → zok 0 x1 → ∀ (x2 : Int) (η1 : zE), ((gC2 wl_k [(nat_lit 0, zPk_isSmall, zOk_isSmall, zMk_isSmall), (nat_lit 1, zPk_isDigit, zOk_isDigit, zMk_isDigit), (nat_lit 2, zPk_wordAt, zOk_wordAt, zMk_wordAt), (nat_lit 3, zPk_packed, zOk_packed, zMk_packed), (nat_lit 4, zPk_signToken, zOk_signToken, zMk_signToken)] pCk_token qCk_token) 1).2 [x1] η x2 η1 → (¬ x2 = 0) → ∀ x3 : Int, x3 = η1 0 (Int.toNat 9) → zok 0 x3 → (99999 < x3) → ∀ x4 : Int, x4 = η1 0 (Int.toNat 9) → zok 0 x4 → ∀ η2 : zE, η2 = zup η1 0 (Int.toNat 9) x4 → ∀ x5 : Int, x5 = η2 0 (Int.toNat 7) → zok 0 x5 → ∀ x6 : Int, x6 = zd 0 1 x5 1 → ∀ η3 : zE, η3 = zup η2 0 (Int.toNat 7) x6 → (iCk_token xs η0) 2 [] η3 ∧ (fun (_ : Nat) (_ : List Int) (_ : zE) => (0 : Nat)) 2 [] η3 < 1
            intro x1 e1 r1 x2 η1 h2 c1 x3 e3 r3 c2 x4 e4 r4 η2 eη2 x5 e5 r5 x6 e6 η3 eη3
            replace e6 := zEq_i e6
            have k2 : sQ wl_k zTr zOk_isDigit zMk_isDigit [x1] η x2 η1 ∧ pQk_isDigit [x1] η x2 η1 := h2
            have w0_0_7 : (0 : Int) ≤ η 0 7 ∧ η 0 7 ≤ 700 := wf_ok (a := 7) (b := 7) (z := (0, 700)) hI.1.1 (by decide +kernel) (Nat.le_refl _) (Nat.le_refl _)
            replace e1 : x1 = η 0 7 := e1
            replace r1 : -2147483648 ≤ x1 ∧ x1 ≤ 2147483647 := r1
            have c0_0_7 : η 0 7 = η 0 7 := rfl
            have w0_0_6 : (0 : Int) ≤ η 0 6 ∧ η 0 6 ≤ 700 := wf_ok (a := 6) (b := 6) (z := (0, 700)) hI.1.1 (by decide +kernel) (Nat.le_refl _) (Nat.le_refl _)
            have c0_0_6 : η 0 6 = η 0 6 := rfl
            have w0_0_8 : (0 : Int) ≤ η 0 8 ∧ η 0 8 ≤ 6 := wf_ok (a := 8) (b := 8) (z := (0, 6)) hI.1.1 (by decide +kernel) (Nat.le_refl _) (Nat.le_refl _)
            have c0_0_8 : η 0 8 = η 0 8 := rfl
            have c0_0_9 : η 0 9 = η 0 9 := rfl
            have bx2 : (0 : Int) ≤ x2 ∧ x2 ≤ 1 := k2.1.2.1
            have v4 : η1 0 9 = η 0 9 := (k2.1.2.2.2.1 0 9 (by decide +kernel)).trans rfl
            replace e3 : x3 = η 0 9 := e3.trans v4
            replace r3 : -2147483648 ≤ x3 ∧ x3 ≤ 2147483647 := r3
            replace e4 : x4 = η 0 9 := e4.trans v4
            replace r4 : -2147483648 ≤ x4 ∧ x4 ≤ 2147483647 := r4
            have v5 : η1 0 7 = η 0 7 := (k2.1.2.2.2.1 0 7 (by decide +kernel)).trans rfl
            have v6 : η2 0 7 = η 0 7 := by rw [eη2]; exact (zup_ne (fun _ e => absurd e (by decide))).trans v5
            replace e5 : x5 = η 0 7 := e5.trans v6
            replace r5 : -2147483648 ≤ x5 ∧ x5 ≤ 2147483647 := r5
            first
            | replace e6 : x6 = x5 + 1 := zd_a2 (zEq_o e6) (by clear e6; exact ⟨by omega, by omega⟩)
            | clear e6
            have fr1_0 : ∀ j, η 1 j = η 1 j := fun _ => rfl
            have v7 : ∀ j, η1 1 j = η 1 j := fun j => k2.1.2.2.2.1 1 _ (zinr_not (by decide +kernel))
            have fr1_1 : ∀ j, η1 1 j = η 1 j := v7
            have v8 : ∀ j, η2 1 j = η 1 j := fun j => by rw [eη2]; exact (zup_ne (fun e _ => absurd e (by decide))).trans (v7 j)
            have fr1_2 : ∀ j, η2 1 j = η 1 j := v8
            have v9 : ∀ j, η3 1 j = η 1 j := fun j => by rw [eη3]; exact (zup_ne (fun e _ => absurd e (by decide))).trans (v8 j)
            have fr1_3 : ∀ j, η3 1 j = η 1 j := v9
            have v10 : ∀ j, η1 2 j = η 2 j := fun j => k2.1.2.2.2.1 2 _ (zinr_not (by decide +kernel))
            have v11 : ∀ j, η2 2 j = η 2 j := fun j => by rw [eη2]; exact (zup_ne (fun e _ => absurd e (by decide))).trans (v10 j)
            have v12 : ∀ j, η3 2 j = η 2 j := fun j => by rw [eη3]; exact (zup_ne (fun e _ => absurd e (by decide))).trans (v11 j)
            have fr2 : ∀ j, η3 2 j = η 2 j := v12
            have v13 : η3 0 7 = x6 := by rw [eη3]; exact zup_eq
            have f0_7 : η3 0 7 = x6 := v13
            have v14 : η1 0 6 = η 0 6 := (k2.1.2.2.2.1 0 6 (by decide +kernel)).trans rfl
            have v15 : η2 0 6 = η 0 6 := by rw [eη2]; exact (zup_ne (fun _ e => absurd e (by decide))).trans v14
            have v16 : η3 0 6 = η 0 6 := by rw [eη3]; exact (zup_ne (fun _ e => absurd e (by decide))).trans v15
            have f0_6 : η3 0 6 = η 0 6 := v16
            have v17 : η1 0 8 = η 0 8 := (k2.1.2.2.2.1 0 8 (by decide +kernel)).trans rfl
            have v18 : η2 0 8 = η 0 8 := by rw [eη2]; exact (zup_ne (fun _ e => absurd e (by decide))).trans v17
            have v19 : η3 0 8 = η 0 8 := by rw [eη3]; exact (zup_ne (fun _ e => absurd e (by decide))).trans v18
            have f0_8 : η3 0 8 = η 0 8 := v19
            have v20 : η2 0 9 = x4 := by rw [eη2]; exact zup_eq
            have v21 : η3 0 9 = x4 := by rw [eη3]; exact (zup_ne (fun _ e => absurd e (by decide))).trans v20
            have f0_9 : η3 0 9 = x4 := v21
            have g : G_k η := hig.1
            have hh : η 0 7 ≤ η 0 6 := g.1
            have hs : η 0 6 = η0 0 6 := hI.2 0 6 (by decide +kernel)
            have hk0 : (0 : Int) ≤ η0 0 8 ∧ η0 0 8 ≤ 6 := wf_ok (a := 8) (b := 8) (z := (0, 6)) hp.1 (by decide +kernel) (Nat.le_refl _) (Nat.le_refl _)
            have h3 : η 0 8 = 3 := hig.2.1
            have hd : (η0 0 7 < η 0 7 ∨ (η0 0 7 ≤ η 0 7 ∧ η 0 7 < η 0 6 ∧ 48 ≤ η 1 (Int.toNat (η 0 7)) ∧ η 1 (Int.toNat (η 0 7)) ≤ 57)) := hig.2.2
            have hn : η0 0 7 ≤ η 0 7 := by rcases hd with h | h <;> omega
            have q2 : x1 < η 0 6 ∧ 48 ≤ η 1 (Int.toNat x1) ∧ η 1 (Int.toNat x1) ≤ 57 := k2.2.2.2.1 c1
            rw [fr1_0] at q2
            have p2 := q2.1
            rw [show x1 = η 0 7 by omega] at q2
            have hG : G_k η3 := by
              first
              | (exfalso; omega)
              | exact gk_v f0_7 f0_6 f0_8 f0_9 fr2 g.2.2 (by omega) (k_o (by decide) (by decide))
              | exact gk_v f0_7 f0_6 f0_8 f0_9 fr2 g.2.2 (by omega) (k_o (fun w => by omega) (fun w => by omega))
              | exact gk_v f0_7 f0_6 f0_8 f0_9 fr2 g.2.2 (by omega) ⟨fun _ => ⟨by omega, by omega⟩, fun h => absurd h (by decide)⟩
              | exact gk_v f0_7 f0_6 f0_8 f0_9 fr2 g.2.2 (by omega) g.2.1
            first
            | (exfalso; omega)
            | exact ⟨⟨hG, show η3 0 8 = 3 by rw [f0_8]; exact hig.2.1, Or.inl (show η0 0 7 < η3 0 7 by omega)⟩, Nat.zero_lt_one⟩
        · exact fun _ h => nomatch h
      )⟩, (fun _ h => nomatch h)⟩)⟩)⟩))
def zPk_isIn : zPq := ([((.negSucc (nat_lit 2147483647)), (.ofNat (nat_lit 2147483647))), ((.negSucc (nat_lit 2147483647)), (.ofNat (nat_lit 2147483647))), ((.negSucc (nat_lit 2147483647)), (.ofNat (nat_lit 2147483647)))], [])
def zOk_isIn : zPo := (((.ofNat (nat_lit 0)), (.ofNat (nat_lit 1))), [], [])
def zMk_isIn : List zCe := []
def pPk_isIn : List Int → zE → Prop := (fun _ η => G_k η)
def pQk_isIn : List Int → zE → Int → zE → Prop := (fun _ _ _ η' => G_k η')
def pCk_isIn : Nat → List Int → zE → Prop := fun c => match c with
  | _ => fun _ _ => True
def qCk_isIn : Nat → List Int → zE → Int → zE → Prop := fun c => match c with
  | _ => fun _ _ _ _ => True
def iCk_isIn : List Int → zE → Nat → List Int → zE → Prop := fun xs η0 c => match c with
  | _ => fun _ _ => True
def zVk_isIn : List zIv := []
def zDk_isIn : List (List zK) := [[(nat_lit 7, nat_lit 2, [(nat_lit 0, (.ofNat (nat_lit 0)))]), (nat_lit 6, nat_lit 2, [(nat_lit 1, (.ofNat (nat_lit 0))), (nat_lit 2, (.ofNat (nat_lit 0)))])],
  [(nat_lit 7, nat_lit 2, [(nat_lit 0, (.ofNat (nat_lit 0)))]), (nat_lit 6, nat_lit 4, [(nat_lit 1, (.ofNat (nat_lit 0))), (nat_lit 3, (.ofNat (nat_lit 0)))]), (nat_lit 6, nat_lit 3, [(nat_lit 1, (.ofNat (nat_lit 0))), (nat_lit 2, (.ofNat (nat_lit 0)))])],
  [(nat_lit 7, nat_lit 2, [(nat_lit 0, (.ofNat (nat_lit 1)))]), (nat_lit 6, nat_lit 5, [(nat_lit 1, (.ofNat (nat_lit 0))), (nat_lit 3, (.ofNat (nat_lit 0)))]), (nat_lit 6, nat_lit 3, [(nat_lit 1, (.ofNat (nat_lit 0))), (nat_lit 2, (.ofNat (nat_lit 0)))])]]
def zEk_isIn : List (List zK) := [[(nat_lit 11, nat_lit 0, [(nat_lit 0, (.ofNat (nat_lit 0)))]), (nat_lit 6, nat_lit 2, [(nat_lit 1, (.ofNat (nat_lit 0))), (nat_lit 2, (.ofNat (nat_lit 0)))])],
  [(nat_lit 11, nat_lit 0, [(nat_lit 0, (.ofNat (nat_lit 0)))]), (nat_lit 6, nat_lit 4, [(nat_lit 1, (.ofNat (nat_lit 0))), (nat_lit 3, (.ofNat (nat_lit 0)))]), (nat_lit 6, nat_lit 3, [(nat_lit 1, (.ofNat (nat_lit 0))), (nat_lit 2, (.ofNat (nat_lit 0)))])],
  [(nat_lit 11, nat_lit 0, [(nat_lit 0, (.ofNat (nat_lit 1)))]), (nat_lit 6, nat_lit 5, [(nat_lit 1, (.ofNat (nat_lit 0))), (nat_lit 3, (.ofNat (nat_lit 0)))]), (nat_lit 6, nat_lit 3, [(nat_lit 1, (.ofNat (nat_lit 0))), (nat_lit 2, (.ofNat (nat_lit 0)))])]]
def zFk_isIn : List (List zK) := []
set_option maxHeartbeats 8000000 in
theorem zk_isIn {ro : Nat → List Int32} : zMet pr_P pr_K pr_df ro (sm_X0 1 6) 0 117 tm_k [(.inl (nat_lit 1, (.ofNat (nat_lit 0)))), (.inl (nat_lit 2, (.ofNat (nat_lit 0)))), (.inl (nat_lit 3, (.ofNat (nat_lit 0))))] 2 [(nat_lit 0, nat_lit 0, nat_lit 1), (nat_lit 0, nat_lit 3, nat_lit 2), (nat_lit 0, nat_lit 20, nat_lit 3), (nat_lit 0, nat_lit 21, nat_lit 4), (nat_lit 0, nat_lit 22, nat_lit 5), (nat_lit 0, nat_lit 23, nat_lit 6), (nat_lit 0, nat_lit 24, nat_lit 7), (nat_lit 0, nat_lit 25, nat_lit 8), (nat_lit 0, nat_lit 26, nat_lit 9), (nat_lit 0, nat_lit 27, nat_lit 10), (nat_lit 0, nat_lit 28, nat_lit 11), (nat_lit 0, nat_lit 29, nat_lit 12), (nat_lit 0, nat_lit 30, nat_lit 13), (nat_lit 0, nat_lit 31, nat_lit 14), (nat_lit 0, nat_lit 32, nat_lit 15), (nat_lit 0, nat_lit 33, nat_lit 16), (nat_lit 0, nat_lit 34, nat_lit 17), (nat_lit 0, nat_lit 35, nat_lit 18), (nat_lit 0, nat_lit 36, nat_lit 19), (nat_lit 0, nat_lit 37, nat_lit 20), (nat_lit 0, nat_lit 38, nat_lit 21), (nat_lit 0, nat_lit 39, nat_lit 22), (nat_lit 0, nat_lit 40, nat_lit 23), (nat_lit 0, nat_lit 47, nat_lit 24), (nat_lit 0, nat_lit 48, nat_lit 25), (nat_lit 0, nat_lit 50, nat_lit 26), (nat_lit 0, nat_lit 51, nat_lit 27), (nat_lit 0, nat_lit 52, nat_lit 28), (nat_lit 0, nat_lit 53, nat_lit 29), (nat_lit 0, nat_lit 54, nat_lit 30), (nat_lit 0, nat_lit 55, nat_lit 31), (nat_lit 0, nat_lit 56, nat_lit 32), (nat_lit 0, nat_lit 57, nat_lit 33), (nat_lit 0, nat_lit 58, nat_lit 34), (nat_lit 0, nat_lit 59, nat_lit 35), (nat_lit 0, nat_lit 72, nat_lit 36), (nat_lit 0, nat_lit 73, nat_lit 37), (nat_lit 0, nat_lit 76, nat_lit 38), (nat_lit 0, nat_lit 77, nat_lit 39), (nat_lit 0, nat_lit 79, nat_lit 40), (nat_lit 0, nat_lit 81, nat_lit 41), (nat_lit 0, nat_lit 82, nat_lit 42)] [] (fun xs η => sP wl_k zTr zPk_isIn xs η ∧ pPk_isIn xs η) (fun xs η y η' => sQ wl_k zTr zOk_isIn zMk_isIn xs η y η' ∧ pQk_isIn xs η y η') :=
  zmet_alt (zmea_gen (mi := (nat_lit 3, nat_lit 0, nat_lit 8, nat_lit 3, nat_lit 2, tX8_isIn)) (cd := []) (cu := []) (cs := []) (iv := zVk_isIn) (po := [zOk_isIn]) (pr := zPk_isIn) (mods := zMk_isIn) (D7 := zDk_isIn) (D0 := zEk_isIn) (Dm := zFk_isIn) (f0 := 13) pCk_isIn qCk_isIn iCk_isIn pPk_isIn (fun xs η _ y η' => pQk_isIn xs η y η') zX_low pr_mtR rfl (fun _ h => nomatch h) (by decide +kernel) (by decide +kernel) (by decide +kernel)
    (by
      intro xs η hr hl hp hpp
      match xs, hl, hp, hpp with
      | [x1, x2, x3], _, hp, hpp =>
        refine List.forall_mem_cons.mpr ⟨?_, List.forall_mem_cons.mpr ⟨?_, List.forall_mem_cons.mpr ⟨?_, fun _ h => nomatch h⟩⟩⟩
        · show (x1 < x2) → (fun (_ : Nat) (y : Int) (η' : zE) => pQk_isIn [x1, x2, x3] η y η') 0 0 η
          intro c1
          exact hpp
        · show (x2 ≤ x1) → (x3 < x1) → (fun (_ : Nat) (y : Int) (η' : zE) => pQk_isIn [x1, x2, x3] η y η') 0 0 η
          intro c1 c2
          exact hpp
        · show (x2 ≤ x1) → (x1 ≤ x3) → (fun (_ : Nat) (y : Int) (η' : zE) => pQk_isIn [x1, x2, x3] η y η') 0 1 η
          intro c1 c2
          exact hpp
      )
    (fun _ _ _ _ _ _ _ h => nomatch h)
    (fun _ h => nomatch h))
def zPk_isKey : zPq := ([((.negSucc (nat_lit 2147483647)), (.ofNat (nat_lit 2147483647)))], [])
def zOk_isKey : zPo := (((.ofNat (nat_lit 0)), (.ofNat (nat_lit 1))), [], [])
def zMk_isKey : List zCe := []
def pPk_isKey : List Int → zE → Prop := (fun _ η => G_k η)
def pQk_isKey : List Int → zE → Int → zE → Prop := fun _ η y η' => G_k η' ∧ (¬ y = 0 → η 0 8 = 1)
def pCk_isKey : Nat → List Int → zE → Prop := fun c => match c with
  | _ => fun _ _ => True
def qCk_isKey : Nat → List Int → zE → Int → zE → Prop := fun c => match c with
  | _ => fun _ _ _ _ => True
def iCk_isKey : List Int → zE → Nat → List Int → zE → Prop := fun xs η0 c => match c with
  | _ => fun _ _ => True
def zVk_isKey : List zIv := []
def zDk_isKey : List (List zK) := [[(nat_lit 7, nat_lit 2, [(nat_lit 0, (.ofNat (nat_lit 0)))]), (nat_lit 6, nat_lit 1, [(nat_lit 2, (.ofNat (nat_lit 0))), (nat_lit 0, (.ofNat (nat_lit 1)))]), (nat_lit 4, nat_lit 0, [(nat_lit 0, (.ofNat (nat_lit 0))), (nat_lit 0, (.ofNat (nat_lit 8)))])],
  [(nat_lit 7, nat_lit 2, [(nat_lit 0, (.ofNat (nat_lit 0)))]), (nat_lit 6, nat_lit 1, [(nat_lit 3, (.ofNat (nat_lit 0))), (nat_lit 1, (.ofNat (nat_lit 0)))]), (nat_lit 4, nat_lit 0, [(nat_lit 0, (.ofNat (nat_lit 0))), (nat_lit 0, (.ofNat (nat_lit 9)))]), (nat_lit 6, nat_lit 0, [(nat_lit 2, (.ofNat (nat_lit 0))), (nat_lit 0, (.ofNat (nat_lit 1)))]), (nat_lit 4, nat_lit 0, [(nat_lit 0, (.ofNat (nat_lit 0))), (nat_lit 0, (.ofNat (nat_lit 8)))])],
  [(nat_lit 7, nat_lit 2, [(nat_lit 0, (.ofNat (nat_lit 1)))]), (nat_lit 6, nat_lit 0, [(nat_lit 3, (.ofNat (nat_lit 0))), (nat_lit 1, (.ofNat (nat_lit 0)))]), (nat_lit 4, nat_lit 0, [(nat_lit 0, (.ofNat (nat_lit 0))), (nat_lit 0, (.ofNat (nat_lit 9)))]), (nat_lit 6, nat_lit 0, [(nat_lit 2, (.ofNat (nat_lit 0))), (nat_lit 0, (.ofNat (nat_lit 1)))]), (nat_lit 4, nat_lit 0, [(nat_lit 0, (.ofNat (nat_lit 0))), (nat_lit 0, (.ofNat (nat_lit 8)))])]]
def zEk_isKey : List (List zK) := [[(nat_lit 11, nat_lit 0, [(nat_lit 0, (.ofNat (nat_lit 0)))]), (nat_lit 6, nat_lit 1, [(nat_lit 2, (.ofNat (nat_lit 0))), (nat_lit 0, (.ofNat (nat_lit 1)))]), (nat_lit 4, nat_lit 0, [(nat_lit 0, (.ofNat (nat_lit 0))), (nat_lit 0, (.ofNat (nat_lit 8)))])],
  [(nat_lit 11, nat_lit 0, [(nat_lit 0, (.ofNat (nat_lit 0)))]), (nat_lit 6, nat_lit 1, [(nat_lit 3, (.ofNat (nat_lit 0))), (nat_lit 1, (.ofNat (nat_lit 0)))]), (nat_lit 4, nat_lit 0, [(nat_lit 0, (.ofNat (nat_lit 0))), (nat_lit 0, (.ofNat (nat_lit 9)))]), (nat_lit 6, nat_lit 0, [(nat_lit 2, (.ofNat (nat_lit 0))), (nat_lit 0, (.ofNat (nat_lit 1)))]), (nat_lit 4, nat_lit 0, [(nat_lit 0, (.ofNat (nat_lit 0))), (nat_lit 0, (.ofNat (nat_lit 8)))])],
  [(nat_lit 11, nat_lit 0, [(nat_lit 0, (.ofNat (nat_lit 1)))]), (nat_lit 6, nat_lit 0, [(nat_lit 3, (.ofNat (nat_lit 0))), (nat_lit 1, (.ofNat (nat_lit 0)))]), (nat_lit 4, nat_lit 0, [(nat_lit 0, (.ofNat (nat_lit 0))), (nat_lit 0, (.ofNat (nat_lit 9)))]), (nat_lit 6, nat_lit 0, [(nat_lit 2, (.ofNat (nat_lit 0))), (nat_lit 0, (.ofNat (nat_lit 1)))]), (nat_lit 4, nat_lit 0, [(nat_lit 0, (.ofNat (nat_lit 0))), (nat_lit 0, (.ofNat (nat_lit 8)))])]]
def zFk_isKey : List (List zK) := []
set_option maxHeartbeats 8000000 in
theorem zk_isKey {ro : Nat → List Int32} : zMet pr_P pr_K pr_df ro (sm_X0 1 6) 0 125 tm_k [(.inr (.inr (.inl (nat_lit 0)))), (.inl (nat_lit 1, (.ofNat (nat_lit 0))))] 2 [(nat_lit 0, nat_lit 0, nat_lit 1), (nat_lit 0, nat_lit 3, nat_lit 2), (nat_lit 0, nat_lit 20, nat_lit 3), (nat_lit 0, nat_lit 21, nat_lit 4), (nat_lit 0, nat_lit 22, nat_lit 5), (nat_lit 0, nat_lit 23, nat_lit 6), (nat_lit 0, nat_lit 24, nat_lit 7), (nat_lit 0, nat_lit 25, nat_lit 8), (nat_lit 0, nat_lit 26, nat_lit 9), (nat_lit 0, nat_lit 27, nat_lit 10), (nat_lit 0, nat_lit 28, nat_lit 11), (nat_lit 0, nat_lit 29, nat_lit 12), (nat_lit 0, nat_lit 30, nat_lit 13), (nat_lit 0, nat_lit 31, nat_lit 14), (nat_lit 0, nat_lit 32, nat_lit 15), (nat_lit 0, nat_lit 33, nat_lit 16), (nat_lit 0, nat_lit 34, nat_lit 17), (nat_lit 0, nat_lit 35, nat_lit 18), (nat_lit 0, nat_lit 36, nat_lit 19), (nat_lit 0, nat_lit 37, nat_lit 20), (nat_lit 0, nat_lit 38, nat_lit 21), (nat_lit 0, nat_lit 39, nat_lit 22), (nat_lit 0, nat_lit 40, nat_lit 23), (nat_lit 0, nat_lit 47, nat_lit 24), (nat_lit 0, nat_lit 48, nat_lit 25), (nat_lit 0, nat_lit 50, nat_lit 26), (nat_lit 0, nat_lit 51, nat_lit 27), (nat_lit 0, nat_lit 52, nat_lit 28), (nat_lit 0, nat_lit 53, nat_lit 29), (nat_lit 0, nat_lit 54, nat_lit 30), (nat_lit 0, nat_lit 55, nat_lit 31), (nat_lit 0, nat_lit 56, nat_lit 32), (nat_lit 0, nat_lit 57, nat_lit 33), (nat_lit 0, nat_lit 58, nat_lit 34), (nat_lit 0, nat_lit 59, nat_lit 35), (nat_lit 0, nat_lit 72, nat_lit 36), (nat_lit 0, nat_lit 73, nat_lit 37), (nat_lit 0, nat_lit 76, nat_lit 38), (nat_lit 0, nat_lit 77, nat_lit 39), (nat_lit 0, nat_lit 79, nat_lit 40), (nat_lit 0, nat_lit 81, nat_lit 41), (nat_lit 0, nat_lit 82, nat_lit 42)] [] (fun xs η => sP wl_k zTr zPk_isKey xs η ∧ pPk_isKey xs η) (fun xs η y η' => sQ wl_k zTr zOk_isKey zMk_isKey xs η y η' ∧ pQk_isKey xs η y η') :=
  zmet_alt (zmea_gen (mi := (nat_lit 1, nat_lit 1, nat_lit 8, nat_lit 2, nat_lit 2, tX8_isKey)) (cd := []) (cu := []) (cs := []) (iv := zVk_isKey) (po := [zOk_isKey]) (pr := zPk_isKey) (mods := zMk_isKey) (D7 := zDk_isKey) (D0 := zEk_isKey) (Dm := zFk_isKey) (f0 := 15) pCk_isKey qCk_isKey iCk_isKey pPk_isKey (fun xs η _ y η' => pQk_isKey xs η y η') zX_low pr_mtR rfl (fun _ h => nomatch h) (by decide +kernel) (by decide +kernel) (by decide +kernel)
    (by
      intro xs η hr hl hp hpp
      match xs, hl, hp, hpp with
      | [x1], _, hp, hpp =>
        refine List.forall_mem_cons.mpr ⟨?_, List.forall_mem_cons.mpr ⟨?_, List.forall_mem_cons.mpr ⟨?_, fun _ h => nomatch h⟩⟩⟩
        · show ∀ x2 : Int, x2 = η 0 (Int.toNat 8) → zok 0 x2 → (¬ x2 = 1) → (fun (_ : Nat) (y : Int) (η' : zE) => pQk_isKey [x1] η y η') 0 0 η
          intro x2 e2 r2 c1
          have bx1 : ((-2147483648) : Int) ≤ x1 ∧ x1 ≤ 2147483647 := hp.2.1.1
          have w0_0_8 : (0 : Int) ≤ η 0 8 ∧ η 0 8 ≤ 6 := wf_ok (a := 8) (b := 8) (z := (0, 6)) hp.1 (by decide +kernel) (Nat.le_refl _) (Nat.le_refl _)
          replace e2 : x2 = η 0 8 := e2
          replace r2 : -2147483648 ≤ x2 ∧ x2 ≤ 2147483647 := r2
          have fr1_0 : ∀ j, η 1 j = η 1 j := fun _ => rfl
          have fr2 : ∀ j, η 2 j = η 2 j := fun _ => rfl
          have w0_0_7 : (0 : Int) ≤ η 0 7 ∧ η 0 7 ≤ 700 := wf_ok (a := 7) (b := 7) (z := (0, 700)) hp.1 (by decide +kernel) (Nat.le_refl _) (Nat.le_refl _)
          have f0_7 : η 0 7 = η 0 7 := rfl
          have w0_0_6 : (0 : Int) ≤ η 0 6 ∧ η 0 6 ≤ 700 := wf_ok (a := 6) (b := 6) (z := (0, 700)) hp.1 (by decide +kernel) (Nat.le_refl _) (Nat.le_refl _)
          have f0_6 : η 0 6 = η 0 6 := rfl
          have f0_8 : η 0 8 = η 0 8 := rfl
          have f0_9 : η 0 9 = η 0 9 := rfl
          exact ⟨hpp, fun w => by first | exact absurd rfl w | omega⟩
        · show ∀ x2 : Int, x2 = η 0 (Int.toNat 8) → zok 0 x2 → (x2 = 1) → ∀ x3 : Int, x3 = η 0 (Int.toNat 9) → zok 0 x3 → (¬ x3 = x1) → (fun (_ : Nat) (y : Int) (η' : zE) => pQk_isKey [x1] η y η') 0 0 η
          intro x2 e2 r2 c1 x3 e3 r3 c2
          have bx1 : ((-2147483648) : Int) ≤ x1 ∧ x1 ≤ 2147483647 := hp.2.1.1
          have w0_0_8 : (0 : Int) ≤ η 0 8 ∧ η 0 8 ≤ 6 := wf_ok (a := 8) (b := 8) (z := (0, 6)) hp.1 (by decide +kernel) (Nat.le_refl _) (Nat.le_refl _)
          replace e2 : x2 = η 0 8 := e2
          replace r2 : -2147483648 ≤ x2 ∧ x2 ≤ 2147483647 := r2
          replace e3 : x3 = η 0 9 := e3
          replace r3 : -2147483648 ≤ x3 ∧ x3 ≤ 2147483647 := r3
          have fr1_0 : ∀ j, η 1 j = η 1 j := fun _ => rfl
          have fr2 : ∀ j, η 2 j = η 2 j := fun _ => rfl
          have w0_0_7 : (0 : Int) ≤ η 0 7 ∧ η 0 7 ≤ 700 := wf_ok (a := 7) (b := 7) (z := (0, 700)) hp.1 (by decide +kernel) (Nat.le_refl _) (Nat.le_refl _)
          have f0_7 : η 0 7 = η 0 7 := rfl
          have w0_0_6 : (0 : Int) ≤ η 0 6 ∧ η 0 6 ≤ 700 := wf_ok (a := 6) (b := 6) (z := (0, 700)) hp.1 (by decide +kernel) (Nat.le_refl _) (Nat.le_refl _)
          have f0_6 : η 0 6 = η 0 6 := rfl
          have f0_8 : η 0 8 = η 0 8 := rfl
          have f0_9 : η 0 9 = η 0 9 := rfl
          exact ⟨hpp, fun w => by first | exact absurd rfl w | omega⟩
        · show ∀ x2 : Int, x2 = η 0 (Int.toNat 8) → zok 0 x2 → (x2 = 1) → ∀ x3 : Int, x3 = η 0 (Int.toNat 9) → zok 0 x3 → (x3 = x1) → (fun (_ : Nat) (y : Int) (η' : zE) => pQk_isKey [x1] η y η') 0 1 η
          intro x2 e2 r2 c1 x3 e3 r3 c2
          have bx1 : ((-2147483648) : Int) ≤ x1 ∧ x1 ≤ 2147483647 := hp.2.1.1
          have w0_0_8 : (0 : Int) ≤ η 0 8 ∧ η 0 8 ≤ 6 := wf_ok (a := 8) (b := 8) (z := (0, 6)) hp.1 (by decide +kernel) (Nat.le_refl _) (Nat.le_refl _)
          replace e2 : x2 = η 0 8 := e2
          replace r2 : -2147483648 ≤ x2 ∧ x2 ≤ 2147483647 := r2
          replace e3 : x3 = η 0 9 := e3
          replace r3 : -2147483648 ≤ x3 ∧ x3 ≤ 2147483647 := r3
          have fr1_0 : ∀ j, η 1 j = η 1 j := fun _ => rfl
          have fr2 : ∀ j, η 2 j = η 2 j := fun _ => rfl
          have w0_0_7 : (0 : Int) ≤ η 0 7 ∧ η 0 7 ≤ 700 := wf_ok (a := 7) (b := 7) (z := (0, 700)) hp.1 (by decide +kernel) (Nat.le_refl _) (Nat.le_refl _)
          have f0_7 : η 0 7 = η 0 7 := rfl
          have w0_0_6 : (0 : Int) ≤ η 0 6 ∧ η 0 6 ≤ 700 := wf_ok (a := 6) (b := 6) (z := (0, 700)) hp.1 (by decide +kernel) (Nat.le_refl _) (Nat.le_refl _)
          have f0_6 : η 0 6 = η 0 6 := rfl
          have f0_8 : η 0 8 = η 0 8 := rfl
          have f0_9 : η 0 9 = η 0 9 := rfl
          exact ⟨hpp, fun w => by first | exact absurd rfl w | omega⟩
      )
    (fun _ _ _ _ _ _ _ h => nomatch h)
    (fun _ h => nomatch h))
def zPk_isSign : zPq := ([((.negSucc (nat_lit 2147483647)), (.ofNat (nat_lit 2147483647)))], [])
def zOk_isSign : zPo := (((.ofNat (nat_lit 0)), (.ofNat (nat_lit 1))), [], [])
def zMk_isSign : List zCe := []
def pPk_isSign : List Int → zE → Prop := (fun _ η => G_k η)
def pQk_isSign : List Int → zE → Int → zE → Prop := fun _ η y η' => G_k η' ∧ (¬ y = 0 → η 0 8 = 4)
def pCk_isSign : Nat → List Int → zE → Prop := fun c => match c with
  | _ => fun _ _ => True
def qCk_isSign : Nat → List Int → zE → Int → zE → Prop := fun c => match c with
  | _ => fun _ _ _ _ => True
def iCk_isSign : List Int → zE → Nat → List Int → zE → Prop := fun xs η0 c => match c with
  | _ => fun _ _ => True
def zVk_isSign : List zIv := []
def zDk_isSign : List (List zK) := [[(nat_lit 7, nat_lit 2, [(nat_lit 0, (.ofNat (nat_lit 0)))]), (nat_lit 6, nat_lit 1, [(nat_lit 2, (.ofNat (nat_lit 0))), (nat_lit 0, (.ofNat (nat_lit 4)))]), (nat_lit 4, nat_lit 0, [(nat_lit 0, (.ofNat (nat_lit 0))), (nat_lit 0, (.ofNat (nat_lit 8)))])],
  [(nat_lit 7, nat_lit 2, [(nat_lit 0, (.ofNat (nat_lit 0)))]), (nat_lit 6, nat_lit 1, [(nat_lit 3, (.ofNat (nat_lit 0))), (nat_lit 1, (.ofNat (nat_lit 0)))]), (nat_lit 4, nat_lit 0, [(nat_lit 0, (.ofNat (nat_lit 0))), (nat_lit 0, (.ofNat (nat_lit 9)))]), (nat_lit 6, nat_lit 0, [(nat_lit 2, (.ofNat (nat_lit 0))), (nat_lit 0, (.ofNat (nat_lit 4)))]), (nat_lit 4, nat_lit 0, [(nat_lit 0, (.ofNat (nat_lit 0))), (nat_lit 0, (.ofNat (nat_lit 8)))])],
  [(nat_lit 7, nat_lit 2, [(nat_lit 0, (.ofNat (nat_lit 1)))]), (nat_lit 6, nat_lit 0, [(nat_lit 3, (.ofNat (nat_lit 0))), (nat_lit 1, (.ofNat (nat_lit 0)))]), (nat_lit 4, nat_lit 0, [(nat_lit 0, (.ofNat (nat_lit 0))), (nat_lit 0, (.ofNat (nat_lit 9)))]), (nat_lit 6, nat_lit 0, [(nat_lit 2, (.ofNat (nat_lit 0))), (nat_lit 0, (.ofNat (nat_lit 4)))]), (nat_lit 4, nat_lit 0, [(nat_lit 0, (.ofNat (nat_lit 0))), (nat_lit 0, (.ofNat (nat_lit 8)))])]]
def zEk_isSign : List (List zK) := [[(nat_lit 11, nat_lit 0, [(nat_lit 0, (.ofNat (nat_lit 0)))]), (nat_lit 6, nat_lit 1, [(nat_lit 2, (.ofNat (nat_lit 0))), (nat_lit 0, (.ofNat (nat_lit 4)))]), (nat_lit 4, nat_lit 0, [(nat_lit 0, (.ofNat (nat_lit 0))), (nat_lit 0, (.ofNat (nat_lit 8)))])],
  [(nat_lit 11, nat_lit 0, [(nat_lit 0, (.ofNat (nat_lit 0)))]), (nat_lit 6, nat_lit 1, [(nat_lit 3, (.ofNat (nat_lit 0))), (nat_lit 1, (.ofNat (nat_lit 0)))]), (nat_lit 4, nat_lit 0, [(nat_lit 0, (.ofNat (nat_lit 0))), (nat_lit 0, (.ofNat (nat_lit 9)))]), (nat_lit 6, nat_lit 0, [(nat_lit 2, (.ofNat (nat_lit 0))), (nat_lit 0, (.ofNat (nat_lit 4)))]), (nat_lit 4, nat_lit 0, [(nat_lit 0, (.ofNat (nat_lit 0))), (nat_lit 0, (.ofNat (nat_lit 8)))])],
  [(nat_lit 11, nat_lit 0, [(nat_lit 0, (.ofNat (nat_lit 1)))]), (nat_lit 6, nat_lit 0, [(nat_lit 3, (.ofNat (nat_lit 0))), (nat_lit 1, (.ofNat (nat_lit 0)))]), (nat_lit 4, nat_lit 0, [(nat_lit 0, (.ofNat (nat_lit 0))), (nat_lit 0, (.ofNat (nat_lit 9)))]), (nat_lit 6, nat_lit 0, [(nat_lit 2, (.ofNat (nat_lit 0))), (nat_lit 0, (.ofNat (nat_lit 4)))]), (nat_lit 4, nat_lit 0, [(nat_lit 0, (.ofNat (nat_lit 0))), (nat_lit 0, (.ofNat (nat_lit 8)))])]]
def zFk_isSign : List (List zK) := []
set_option maxHeartbeats 8000000 in
theorem zk_isSign {ro : Nat → List Int32} : zMet pr_P pr_K pr_df ro (sm_X0 1 6) 0 126 tm_k [(.inr (.inr (.inl (nat_lit 0)))), (.inl (nat_lit 1, (.ofNat (nat_lit 0))))] 2 [(nat_lit 0, nat_lit 0, nat_lit 1), (nat_lit 0, nat_lit 3, nat_lit 2), (nat_lit 0, nat_lit 20, nat_lit 3), (nat_lit 0, nat_lit 21, nat_lit 4), (nat_lit 0, nat_lit 22, nat_lit 5), (nat_lit 0, nat_lit 23, nat_lit 6), (nat_lit 0, nat_lit 24, nat_lit 7), (nat_lit 0, nat_lit 25, nat_lit 8), (nat_lit 0, nat_lit 26, nat_lit 9), (nat_lit 0, nat_lit 27, nat_lit 10), (nat_lit 0, nat_lit 28, nat_lit 11), (nat_lit 0, nat_lit 29, nat_lit 12), (nat_lit 0, nat_lit 30, nat_lit 13), (nat_lit 0, nat_lit 31, nat_lit 14), (nat_lit 0, nat_lit 32, nat_lit 15), (nat_lit 0, nat_lit 33, nat_lit 16), (nat_lit 0, nat_lit 34, nat_lit 17), (nat_lit 0, nat_lit 35, nat_lit 18), (nat_lit 0, nat_lit 36, nat_lit 19), (nat_lit 0, nat_lit 37, nat_lit 20), (nat_lit 0, nat_lit 38, nat_lit 21), (nat_lit 0, nat_lit 39, nat_lit 22), (nat_lit 0, nat_lit 40, nat_lit 23), (nat_lit 0, nat_lit 47, nat_lit 24), (nat_lit 0, nat_lit 48, nat_lit 25), (nat_lit 0, nat_lit 50, nat_lit 26), (nat_lit 0, nat_lit 51, nat_lit 27), (nat_lit 0, nat_lit 52, nat_lit 28), (nat_lit 0, nat_lit 53, nat_lit 29), (nat_lit 0, nat_lit 54, nat_lit 30), (nat_lit 0, nat_lit 55, nat_lit 31), (nat_lit 0, nat_lit 56, nat_lit 32), (nat_lit 0, nat_lit 57, nat_lit 33), (nat_lit 0, nat_lit 58, nat_lit 34), (nat_lit 0, nat_lit 59, nat_lit 35), (nat_lit 0, nat_lit 72, nat_lit 36), (nat_lit 0, nat_lit 73, nat_lit 37), (nat_lit 0, nat_lit 76, nat_lit 38), (nat_lit 0, nat_lit 77, nat_lit 39), (nat_lit 0, nat_lit 79, nat_lit 40), (nat_lit 0, nat_lit 81, nat_lit 41), (nat_lit 0, nat_lit 82, nat_lit 42)] [] (fun xs η => sP wl_k zTr zPk_isSign xs η ∧ pPk_isSign xs η) (fun xs η y η' => sQ wl_k zTr zOk_isSign zMk_isSign xs η y η' ∧ pQk_isSign xs η y η') :=
  zmet_alt (zmea_gen (mi := (nat_lit 1, nat_lit 1, nat_lit 8, nat_lit 2, nat_lit 2, tX8_isSign)) (cd := []) (cu := []) (cs := []) (iv := zVk_isSign) (po := [zOk_isSign]) (pr := zPk_isSign) (mods := zMk_isSign) (D7 := zDk_isSign) (D0 := zEk_isSign) (Dm := zFk_isSign) (f0 := 15) pCk_isSign qCk_isSign iCk_isSign pPk_isSign (fun xs η _ y η' => pQk_isSign xs η y η') zX_low pr_mtR rfl (fun _ h => nomatch h) (by decide +kernel) (by decide +kernel) (by decide +kernel)
    (by
      intro xs η hr hl hp hpp
      match xs, hl, hp, hpp with
      | [x1], _, hp, hpp =>
        refine List.forall_mem_cons.mpr ⟨?_, List.forall_mem_cons.mpr ⟨?_, List.forall_mem_cons.mpr ⟨?_, fun _ h => nomatch h⟩⟩⟩
        · show ∀ x2 : Int, x2 = η 0 (Int.toNat 8) → zok 0 x2 → (¬ x2 = 4) → (fun (_ : Nat) (y : Int) (η' : zE) => pQk_isSign [x1] η y η') 0 0 η
          intro x2 e2 r2 c1
          have bx1 : ((-2147483648) : Int) ≤ x1 ∧ x1 ≤ 2147483647 := hp.2.1.1
          have w0_0_8 : (0 : Int) ≤ η 0 8 ∧ η 0 8 ≤ 6 := wf_ok (a := 8) (b := 8) (z := (0, 6)) hp.1 (by decide +kernel) (Nat.le_refl _) (Nat.le_refl _)
          replace e2 : x2 = η 0 8 := e2
          replace r2 : -2147483648 ≤ x2 ∧ x2 ≤ 2147483647 := r2
          have fr1_0 : ∀ j, η 1 j = η 1 j := fun _ => rfl
          have fr2 : ∀ j, η 2 j = η 2 j := fun _ => rfl
          have w0_0_7 : (0 : Int) ≤ η 0 7 ∧ η 0 7 ≤ 700 := wf_ok (a := 7) (b := 7) (z := (0, 700)) hp.1 (by decide +kernel) (Nat.le_refl _) (Nat.le_refl _)
          have f0_7 : η 0 7 = η 0 7 := rfl
          have w0_0_6 : (0 : Int) ≤ η 0 6 ∧ η 0 6 ≤ 700 := wf_ok (a := 6) (b := 6) (z := (0, 700)) hp.1 (by decide +kernel) (Nat.le_refl _) (Nat.le_refl _)
          have f0_6 : η 0 6 = η 0 6 := rfl
          have f0_8 : η 0 8 = η 0 8 := rfl
          have f0_9 : η 0 9 = η 0 9 := rfl
          exact ⟨hpp, fun w => by first | exact absurd rfl w | omega⟩
        · show ∀ x2 : Int, x2 = η 0 (Int.toNat 8) → zok 0 x2 → (x2 = 4) → ∀ x3 : Int, x3 = η 0 (Int.toNat 9) → zok 0 x3 → (¬ x3 = x1) → (fun (_ : Nat) (y : Int) (η' : zE) => pQk_isSign [x1] η y η') 0 0 η
          intro x2 e2 r2 c1 x3 e3 r3 c2
          have bx1 : ((-2147483648) : Int) ≤ x1 ∧ x1 ≤ 2147483647 := hp.2.1.1
          have w0_0_8 : (0 : Int) ≤ η 0 8 ∧ η 0 8 ≤ 6 := wf_ok (a := 8) (b := 8) (z := (0, 6)) hp.1 (by decide +kernel) (Nat.le_refl _) (Nat.le_refl _)
          replace e2 : x2 = η 0 8 := e2
          replace r2 : -2147483648 ≤ x2 ∧ x2 ≤ 2147483647 := r2
          replace e3 : x3 = η 0 9 := e3
          replace r3 : -2147483648 ≤ x3 ∧ x3 ≤ 2147483647 := r3
          have fr1_0 : ∀ j, η 1 j = η 1 j := fun _ => rfl
          have fr2 : ∀ j, η 2 j = η 2 j := fun _ => rfl
          have w0_0_7 : (0 : Int) ≤ η 0 7 ∧ η 0 7 ≤ 700 := wf_ok (a := 7) (b := 7) (z := (0, 700)) hp.1 (by decide +kernel) (Nat.le_refl _) (Nat.le_refl _)
          have f0_7 : η 0 7 = η 0 7 := rfl
          have w0_0_6 : (0 : Int) ≤ η 0 6 ∧ η 0 6 ≤ 700 := wf_ok (a := 6) (b := 6) (z := (0, 700)) hp.1 (by decide +kernel) (Nat.le_refl _) (Nat.le_refl _)
          have f0_6 : η 0 6 = η 0 6 := rfl
          have f0_8 : η 0 8 = η 0 8 := rfl
          have f0_9 : η 0 9 = η 0 9 := rfl
          exact ⟨hpp, fun w => by first | exact absurd rfl w | omega⟩
        · show ∀ x2 : Int, x2 = η 0 (Int.toNat 8) → zok 0 x2 → (x2 = 4) → ∀ x3 : Int, x3 = η 0 (Int.toNat 9) → zok 0 x3 → (x3 = x1) → (fun (_ : Nat) (y : Int) (η' : zE) => pQk_isSign [x1] η y η') 0 1 η
          intro x2 e2 r2 c1 x3 e3 r3 c2
          have bx1 : ((-2147483648) : Int) ≤ x1 ∧ x1 ≤ 2147483647 := hp.2.1.1
          have w0_0_8 : (0 : Int) ≤ η 0 8 ∧ η 0 8 ≤ 6 := wf_ok (a := 8) (b := 8) (z := (0, 6)) hp.1 (by decide +kernel) (Nat.le_refl _) (Nat.le_refl _)
          replace e2 : x2 = η 0 8 := e2
          replace r2 : -2147483648 ≤ x2 ∧ x2 ≤ 2147483647 := r2
          replace e3 : x3 = η 0 9 := e3
          replace r3 : -2147483648 ≤ x3 ∧ x3 ≤ 2147483647 := r3
          have fr1_0 : ∀ j, η 1 j = η 1 j := fun _ => rfl
          have fr2 : ∀ j, η 2 j = η 2 j := fun _ => rfl
          have w0_0_7 : (0 : Int) ≤ η 0 7 ∧ η 0 7 ≤ 700 := wf_ok (a := 7) (b := 7) (z := (0, 700)) hp.1 (by decide +kernel) (Nat.le_refl _) (Nat.le_refl _)
          have f0_7 : η 0 7 = η 0 7 := rfl
          have w0_0_6 : (0 : Int) ≤ η 0 6 ∧ η 0 6 ≤ 700 := wf_ok (a := 6) (b := 6) (z := (0, 700)) hp.1 (by decide +kernel) (Nat.le_refl _) (Nat.le_refl _)
          have f0_6 : η 0 6 = η 0 6 := rfl
          have f0_8 : η 0 8 = η 0 8 := rfl
          have f0_9 : η 0 9 = η 0 9 := rfl
          exact ⟨hpp, fun w => by first | exact absurd rfl w | omega⟩
      )
    (fun _ _ _ _ _ _ _ h => nomatch h)
    (fun _ h => nomatch h))
def zPk_nameMet : zPq := ([], [])
def zOk_nameMet : zPo := (((.negSucc (nat_lit 0)), (.ofNat (nat_lit 6))), [], [])
def zMk_nameMet : List zCe := []
def pPk_nameMet : List Int → zE → Prop := (fun _ η => G_k η)
def pQk_nameMet : List Int → zE → Int → zE → Prop := fun _ η y η' => G_k η' ∧ (0 ≤ y → η 0 8 = 1)
def pCk_nameMet : Nat → List Int → zE → Prop := fun c => match c with
  | _ => fun _ _ => True
def qCk_nameMet : Nat → List Int → zE → Int → zE → Prop := fun c => match c with
  | _ => fun _ _ _ _ => True
def iCk_nameMet : List Int → zE → Nat → List Int → zE → Prop := fun xs η0 c => match c with
  | _ => fun _ _ => True
def zVk_nameMet : List zIv := []
def zDk_nameMet : List (List zK) := []
def zEk_nameMet : List (List zK) := [[(nat_lit 11, nat_lit 0, [(nat_lit 0, (.negSucc (nat_lit 0)))]), (nat_lit 6, nat_lit 1, [(nat_lit 1, (.ofNat (nat_lit 0))), (nat_lit 0, (.ofNat (nat_lit 1)))]), (nat_lit 4, nat_lit 0, [(nat_lit 0, (.ofNat (nat_lit 0))), (nat_lit 0, (.ofNat (nat_lit 8)))])],
  [(nat_lit 11, nat_lit 0, [(nat_lit 0, (.negSucc (nat_lit 0)))]), (nat_lit 6, nat_lit 2, [(nat_lit 2, (.ofNat (nat_lit 0))), (nat_lit 0, (.ofNat (nat_lit 13)))]), (nat_lit 4, nat_lit 0, [(nat_lit 0, (.ofNat (nat_lit 0))), (nat_lit 0, (.ofNat (nat_lit 9)))]), (nat_lit 6, nat_lit 0, [(nat_lit 1, (.ofNat (nat_lit 0))), (nat_lit 0, (.ofNat (nat_lit 1)))]), (nat_lit 4, nat_lit 0, [(nat_lit 0, (.ofNat (nat_lit 0))), (nat_lit 0, (.ofNat (nat_lit 8)))])]]
def zFk_nameMet : List (List zK) := [[(nat_lit 11, nat_lit 0, [(nat_lit 4, (.ofNat (nat_lit 0)))]), (nat_lit 0, nat_lit 2, [(nat_lit 3, (.ofNat (nat_lit 0))), (nat_lit 0, (.ofNat (nat_lit 13)))]), (nat_lit 4, nat_lit 0, [(nat_lit 0, (.ofNat (nat_lit 0))), (nat_lit 0, (.ofNat (nat_lit 9)))]), (nat_lit 6, nat_lit 3, [(nat_lit 2, (.ofNat (nat_lit 0))), (nat_lit 0, (.ofNat (nat_lit 13)))]), (nat_lit 4, nat_lit 0, [(nat_lit 0, (.ofNat (nat_lit 0))), (nat_lit 0, (.ofNat (nat_lit 9)))]), (nat_lit 6, nat_lit 0, [(nat_lit 1, (.ofNat (nat_lit 0))), (nat_lit 0, (.ofNat (nat_lit 1)))]), (nat_lit 4, nat_lit 0, [(nat_lit 0, (.ofNat (nat_lit 0))), (nat_lit 0, (.ofNat (nat_lit 8)))])]]
set_option maxHeartbeats 8000000 in
theorem zk_nameMet {ro : Nat → List Int32} : zMet pr_P pr_K pr_df ro (sm_X0 1 6) 0 146 tm_k [(.inr (.inr (.inl (nat_lit 0))))] 1 [(nat_lit 0, nat_lit 0, nat_lit 1), (nat_lit 0, nat_lit 3, nat_lit 2), (nat_lit 0, nat_lit 20, nat_lit 3), (nat_lit 0, nat_lit 21, nat_lit 4), (nat_lit 0, nat_lit 22, nat_lit 5), (nat_lit 0, nat_lit 23, nat_lit 6), (nat_lit 0, nat_lit 24, nat_lit 7), (nat_lit 0, nat_lit 25, nat_lit 8), (nat_lit 0, nat_lit 26, nat_lit 9), (nat_lit 0, nat_lit 27, nat_lit 10), (nat_lit 0, nat_lit 28, nat_lit 11), (nat_lit 0, nat_lit 29, nat_lit 12), (nat_lit 0, nat_lit 30, nat_lit 13), (nat_lit 0, nat_lit 31, nat_lit 14), (nat_lit 0, nat_lit 32, nat_lit 15), (nat_lit 0, nat_lit 33, nat_lit 16), (nat_lit 0, nat_lit 34, nat_lit 17), (nat_lit 0, nat_lit 35, nat_lit 18), (nat_lit 0, nat_lit 36, nat_lit 19), (nat_lit 0, nat_lit 37, nat_lit 20), (nat_lit 0, nat_lit 38, nat_lit 21), (nat_lit 0, nat_lit 39, nat_lit 22), (nat_lit 0, nat_lit 40, nat_lit 23), (nat_lit 0, nat_lit 47, nat_lit 24), (nat_lit 0, nat_lit 48, nat_lit 25), (nat_lit 0, nat_lit 50, nat_lit 26), (nat_lit 0, nat_lit 51, nat_lit 27), (nat_lit 0, nat_lit 52, nat_lit 28), (nat_lit 0, nat_lit 53, nat_lit 29), (nat_lit 0, nat_lit 54, nat_lit 30), (nat_lit 0, nat_lit 55, nat_lit 31), (nat_lit 0, nat_lit 56, nat_lit 32), (nat_lit 0, nat_lit 57, nat_lit 33), (nat_lit 0, nat_lit 58, nat_lit 34), (nat_lit 0, nat_lit 59, nat_lit 35), (nat_lit 0, nat_lit 72, nat_lit 36), (nat_lit 0, nat_lit 73, nat_lit 37), (nat_lit 0, nat_lit 76, nat_lit 38), (nat_lit 0, nat_lit 77, nat_lit 39), (nat_lit 0, nat_lit 79, nat_lit 40), (nat_lit 0, nat_lit 81, nat_lit 41), (nat_lit 0, nat_lit 82, nat_lit 42)] [] (fun xs η => sP wl_k zTr zPk_nameMet xs η ∧ pPk_nameMet xs η) (fun xs η y η' => sQ wl_k zTr zOk_nameMet zMk_nameMet xs η y η' ∧ pQk_nameMet xs η y η') :=
  zmet_alt (zmea_gen (mi := (nat_lit 0, nat_lit 1, nat_lit 8, nat_lit 1, nat_lit 1, tX8_nameMet)) (cd := []) (cu := []) (cs := []) (iv := zVk_nameMet) (po := [zOk_nameMet]) (pr := zPk_nameMet) (mods := zMk_nameMet) (D7 := zDk_nameMet) (D0 := zEk_nameMet) (Dm := zFk_nameMet) (f0 := 18) pCk_nameMet qCk_nameMet iCk_nameMet pPk_nameMet (fun xs η _ y η' => pQk_nameMet xs η y η') zX_low pr_mtR rfl (fun _ h => nomatch h) (by decide +kernel) (by decide +kernel) (by decide +kernel)
    (by
      intro xs η hr hl hp hpp
      match xs, hl, hp, hpp with
      | [], _, hp, hpp =>
        refine List.forall_mem_cons.mpr ⟨?_, List.forall_mem_cons.mpr ⟨?_, fun _ h => nomatch h⟩⟩
        · show ∀ x1 : Int, x1 = η 0 (Int.toNat 8) → zok 0 x1 → (¬ x1 = 1) → (fun (_ : Nat) (y : Int) (η' : zE) => pQk_nameMet [] η y η') 0 (-1) η
          intro x1 e1 r1 c1
          have w0_0_8 : (0 : Int) ≤ η 0 8 ∧ η 0 8 ≤ 6 := wf_ok (a := 8) (b := 8) (z := (0, 6)) hp.1 (by decide +kernel) (Nat.le_refl _) (Nat.le_refl _)
          replace e1 : x1 = η 0 8 := e1
          replace r1 : -2147483648 ≤ x1 ∧ x1 ≤ 2147483647 := r1
          have fr1_0 : ∀ j, η 1 j = η 1 j := fun _ => rfl
          have fr2 : ∀ j, η 2 j = η 2 j := fun _ => rfl
          have w0_0_7 : (0 : Int) ≤ η 0 7 ∧ η 0 7 ≤ 700 := wf_ok (a := 7) (b := 7) (z := (0, 700)) hp.1 (by decide +kernel) (Nat.le_refl _) (Nat.le_refl _)
          have f0_7 : η 0 7 = η 0 7 := rfl
          have w0_0_6 : (0 : Int) ≤ η 0 6 ∧ η 0 6 ≤ 700 := wf_ok (a := 6) (b := 6) (z := (0, 700)) hp.1 (by decide +kernel) (Nat.le_refl _) (Nat.le_refl _)
          have f0_6 : η 0 6 = η 0 6 := rfl
          have f0_8 : η 0 8 = η 0 8 := rfl
          have f0_9 : η 0 9 = η 0 9 := rfl
          exact ⟨hpp, fun w => by first | exact absurd w (by decide) | omega⟩
        · show ∀ x1 : Int, x1 = η 0 (Int.toNat 8) → zok 0 x1 → (x1 = 1) → ∀ x2 : Int, x2 = η 0 (Int.toNat 9) → zok 0 x2 → (x2 < 13) → (fun (_ : Nat) (y : Int) (η' : zE) => pQk_nameMet [] η y η') 0 (-1) η
          intro x1 e1 r1 c1 x2 e2 r2 c2
          have w0_0_8 : (0 : Int) ≤ η 0 8 ∧ η 0 8 ≤ 6 := wf_ok (a := 8) (b := 8) (z := (0, 6)) hp.1 (by decide +kernel) (Nat.le_refl _) (Nat.le_refl _)
          replace e1 : x1 = η 0 8 := e1
          replace r1 : -2147483648 ≤ x1 ∧ x1 ≤ 2147483647 := r1
          replace e2 : x2 = η 0 9 := e2
          replace r2 : -2147483648 ≤ x2 ∧ x2 ≤ 2147483647 := r2
          have fr1_0 : ∀ j, η 1 j = η 1 j := fun _ => rfl
          have fr2 : ∀ j, η 2 j = η 2 j := fun _ => rfl
          have w0_0_7 : (0 : Int) ≤ η 0 7 ∧ η 0 7 ≤ 700 := wf_ok (a := 7) (b := 7) (z := (0, 700)) hp.1 (by decide +kernel) (Nat.le_refl _) (Nat.le_refl _)
          have f0_7 : η 0 7 = η 0 7 := rfl
          have w0_0_6 : (0 : Int) ≤ η 0 6 ∧ η 0 6 ≤ 700 := wf_ok (a := 6) (b := 6) (z := (0, 700)) hp.1 (by decide +kernel) (Nat.le_refl _) (Nat.le_refl _)
          have f0_6 : η 0 6 = η 0 6 := rfl
          have f0_8 : η 0 8 = η 0 8 := rfl
          have f0_9 : η 0 9 = η 0 9 := rfl
          exact ⟨hpp, fun w => by first | exact absurd w (by decide) | omega⟩
      )
    (by
      intro xs η hr hl hp hpp
      match xs, hl, hp, hpp with
      | [], _, hp, hpp =>
        refine List.forall_mem_cons.mpr ⟨?_, fun _ h => nomatch h⟩
        · show ∀ x1 : Int, x1 = η 0 (Int.toNat 8) → zok 0 x1 → (x1 = 1) → ∀ x2 : Int, x2 = η 0 (Int.toNat 9) → zok 0 x2 → (13 ≤ x2) → ∀ x3 : Int, x3 = η 0 (Int.toNat 9) → zok 0 x3 → ∀ x4 : Int, x4 = zd 0 2 x3 13 → (fun j y η1 => zsQ wl_k zTr [zOk_nameMet] zMk_nameMet [] η j y η1 ∧ pQk_nameMet [] η y η1) 0 x4 η
          intro x1 e1 r1 c1 x2 e2 r2 c2 x3 e3 r3 x4 e4
          replace e4 := zEq_i e4
          have w0_0_8 : (0 : Int) ≤ η 0 8 ∧ η 0 8 ≤ 6 := wf_ok (a := 8) (b := 8) (z := (0, 6)) hp.1 (by decide +kernel) (Nat.le_refl _) (Nat.le_refl _)
          replace e1 : x1 = η 0 8 := e1
          replace r1 : -2147483648 ≤ x1 ∧ x1 ≤ 2147483647 := r1
          replace e2 : x2 = η 0 9 := e2
          replace r2 : -2147483648 ≤ x2 ∧ x2 ≤ 2147483647 := r2
          replace e3 : x3 = η 0 9 := e3
          replace r3 : -2147483648 ≤ x3 ∧ x3 ≤ 2147483647 := r3
          first
          | replace e4 : x4 = x3 - 13 := zd_s2 (zEq_o e4) (by clear e4; exact ⟨by omega, by omega⟩)
          | clear e4
          have fr1_0 : ∀ j, η 1 j = η 1 j := fun _ => rfl
          have fr2 : ∀ j, η 2 j = η 2 j := fun _ => rfl
          have w0_0_7 : (0 : Int) ≤ η 0 7 ∧ η 0 7 ≤ 700 := wf_ok (a := 7) (b := 7) (z := (0, 700)) hp.1 (by decide +kernel) (Nat.le_refl _) (Nat.le_refl _)
          have f0_7 : η 0 7 = η 0 7 := rfl
          have w0_0_6 : (0 : Int) ≤ η 0 6 ∧ η 0 6 ≤ 700 := wf_ok (a := 6) (b := 6) (z := (0, 700)) hp.1 (by decide +kernel) (Nat.le_refl _) (Nat.le_refl _)
          have f0_6 : η 0 6 = η 0 6 := rfl
          have f0_8 : η 0 8 = η 0 8 := rfl
          have f0_9 : η 0 9 = η 0 9 := rfl
          have q : -1 ≤ η 0 9 ∧ η 0 9 ≤ 19 := hpp.2.1.1 (by omega)
          exact ⟨⟨hp.1, ⟨show (-1 : Int) ≤ x4 by omega, show x4 ≤ 6 by omega⟩, (fun f hf => nomatch hf), zFm_rf, fun _ _ w => nomatch w⟩, hpp, fun _ => by omega⟩
      )
    (fun _ h => nomatch h))
def zPk_number : zPq := ([((.negSucc (nat_lit 2147483647)), (.ofNat (nat_lit 2147483647))), ((.negSucc (nat_lit 2147483647)), (.ofNat (nat_lit 2147483647)))], [])
def zOk_number : zPo := (((.ofNat (nat_lit 0)), (.ofNat (nat_lit 1))), [], [])
def zMk_number : List zCe := [(nat_lit 0, nat_lit 8), (nat_lit 0, nat_lit 9), (nat_lit 0, nat_lit 10), (nat_lit 0, nat_lit 11), (nat_lit 0, nat_lit 5), (nat_lit 0, nat_lit 6), (nat_lit 0, nat_lit 12)]
def pPk_number : List Int → zE → Prop := (fun _ η => G_k η)
def pQk_number : List Int → zE → Int → zE → Prop := fun _ η y η' => G_k η' ∧ (¬ y = 0 → 10 * (η' 0 6 - η' 0 7) + η' 0 8 < 10 * (η 0 6 - η 0 7) + η 0 8)
def pCk_number : Nat → List Int → zE → Prop := fun c => match c with
  | 0 => pPk_wrong
  | 1 => pPk_isIn
  | 2 => pPk_token
  | _ => fun _ _ => True
def qCk_number : Nat → List Int → zE → Int → zE → Prop := fun c => match c with
  | 0 => pQk_wrong
  | 1 => pQk_isIn
  | 2 => pQk_token
  | _ => fun _ _ _ _ => True
def iCk_number : List Int → zE → Nat → List Int → zE → Prop := fun xs η0 c => match c with
  | _ => fun _ _ => True
def zVk_number : List zIv := []
def zDk_number : List (List zK) := [[(nat_lit 7, nat_lit 2, [(nat_lit 0, (.ofNat (nat_lit 1)))]), (nat_lit 8, nat_lit 2, []), (nat_lit 5, nat_lit 0, [(nat_lit 0, (.ofNat (nat_lit 0))), (nat_lit 0, (.ofNat (nat_lit 11))), (nat_lit 6, (.ofNat (nat_lit 0)))]), (nat_lit 4, nat_lit 0, [(nat_lit 0, (.ofNat (nat_lit 0))), (nat_lit 0, (.ofNat (nat_lit 9)))]), (nat_lit 6, nat_lit 1, [(nat_lit 5, (.ofNat (nat_lit 0))), (nat_lit 0, (.ofNat (nat_lit 0)))]), (nat_lit 8, nat_lit 1, [(nat_lit 4, (.ofNat (nat_lit 0))), (nat_lit 1, (.ofNat (nat_lit 0))), (nat_lit 2, (.ofNat (nat_lit 0)))]), (nat_lit 4, nat_lit 0, [(nat_lit 0, (.ofNat (nat_lit 0))), (nat_lit 0, (.ofNat (nat_lit 9)))]), (nat_lit 6, nat_lit 0, [(nat_lit 3, (.ofNat (nat_lit 0))), (nat_lit 0, (.ofNat (nat_lit 3)))]), (nat_lit 4, nat_lit 0, [(nat_lit 0, (.ofNat (nat_lit 0))), (nat_lit 0, (.ofNat (nat_lit 8)))])],
  [(nat_lit 7, nat_lit 2, [(nat_lit 6, (.ofNat (nat_lit 0)))]), (nat_lit 8, nat_lit 0, [(nat_lit 0, (.ofNat (nat_lit 2)))]), (nat_lit 6, nat_lit 0, [(nat_lit 5, (.ofNat (nat_lit 0))), (nat_lit 0, (.ofNat (nat_lit 0)))]), (nat_lit 8, nat_lit 1, [(nat_lit 4, (.ofNat (nat_lit 0))), (nat_lit 1, (.ofNat (nat_lit 0))), (nat_lit 2, (.ofNat (nat_lit 0)))]), (nat_lit 4, nat_lit 0, [(nat_lit 0, (.ofNat (nat_lit 0))), (nat_lit 0, (.ofNat (nat_lit 9)))]), (nat_lit 6, nat_lit 0, [(nat_lit 3, (.ofNat (nat_lit 0))), (nat_lit 0, (.ofNat (nat_lit 3)))]), (nat_lit 4, nat_lit 0, [(nat_lit 0, (.ofNat (nat_lit 0))), (nat_lit 0, (.ofNat (nat_lit 8)))])],
  [(nat_lit 7, nat_lit 2, [(nat_lit 4, (.ofNat (nat_lit 0)))]), (nat_lit 8, nat_lit 0, [(nat_lit 0, (.ofNat (nat_lit 1)))]), (nat_lit 6, nat_lit 1, [(nat_lit 3, (.ofNat (nat_lit 0))), (nat_lit 0, (.ofNat (nat_lit 3)))]), (nat_lit 4, nat_lit 0, [(nat_lit 0, (.ofNat (nat_lit 0))), (nat_lit 0, (.ofNat (nat_lit 8)))])]]
def zEk_number : List (List zK) := [[(nat_lit 13, nat_lit 1, [(nat_lit 4, (.ofNat (nat_lit 0))), (nat_lit 1, (.ofNat (nat_lit 0))), (nat_lit 2, (.ofNat (nat_lit 0)))]), (nat_lit 4, nat_lit 0, [(nat_lit 0, (.ofNat (nat_lit 0))), (nat_lit 0, (.ofNat (nat_lit 9)))]), (nat_lit 6, nat_lit 0, [(nat_lit 3, (.ofNat (nat_lit 0))), (nat_lit 0, (.ofNat (nat_lit 3)))]), (nat_lit 4, nat_lit 0, [(nat_lit 0, (.ofNat (nat_lit 0))), (nat_lit 0, (.ofNat (nat_lit 8)))])],
  [(nat_lit 13, nat_lit 2, []), (nat_lit 5, nat_lit 0, [(nat_lit 0, (.ofNat (nat_lit 0))), (nat_lit 0, (.ofNat (nat_lit 11))), (nat_lit 6, (.ofNat (nat_lit 0)))]), (nat_lit 4, nat_lit 0, [(nat_lit 0, (.ofNat (nat_lit 0))), (nat_lit 0, (.ofNat (nat_lit 9)))]), (nat_lit 6, nat_lit 1, [(nat_lit 5, (.ofNat (nat_lit 0))), (nat_lit 0, (.ofNat (nat_lit 0)))]), (nat_lit 8, nat_lit 1, [(nat_lit 4, (.ofNat (nat_lit 0))), (nat_lit 1, (.ofNat (nat_lit 0))), (nat_lit 2, (.ofNat (nat_lit 0)))]), (nat_lit 4, nat_lit 0, [(nat_lit 0, (.ofNat (nat_lit 0))), (nat_lit 0, (.ofNat (nat_lit 9)))]), (nat_lit 6, nat_lit 0, [(nat_lit 3, (.ofNat (nat_lit 0))), (nat_lit 0, (.ofNat (nat_lit 3)))]), (nat_lit 4, nat_lit 0, [(nat_lit 0, (.ofNat (nat_lit 0))), (nat_lit 0, (.ofNat (nat_lit 8)))])],
  [(nat_lit 11, nat_lit 0, [(nat_lit 0, (.ofNat (nat_lit 1)))]), (nat_lit 8, nat_lit 2, []), (nat_lit 5, nat_lit 0, [(nat_lit 0, (.ofNat (nat_lit 0))), (nat_lit 0, (.ofNat (nat_lit 11))), (nat_lit 6, (.ofNat (nat_lit 0)))]), (nat_lit 4, nat_lit 0, [(nat_lit 0, (.ofNat (nat_lit 0))), (nat_lit 0, (.ofNat (nat_lit 9)))]), (nat_lit 6, nat_lit 1, [(nat_lit 5, (.ofNat (nat_lit 0))), (nat_lit 0, (.ofNat (nat_lit 0)))]), (nat_lit 8, nat_lit 1, [(nat_lit 4, (.ofNat (nat_lit 0))), (nat_lit 1, (.ofNat (nat_lit 0))), (nat_lit 2, (.ofNat (nat_lit 0)))]), (nat_lit 4, nat_lit 0, [(nat_lit 0, (.ofNat (nat_lit 0))), (nat_lit 0, (.ofNat (nat_lit 9)))]), (nat_lit 6, nat_lit 0, [(nat_lit 3, (.ofNat (nat_lit 0))), (nat_lit 0, (.ofNat (nat_lit 3)))]), (nat_lit 4, nat_lit 0, [(nat_lit 0, (.ofNat (nat_lit 0))), (nat_lit 0, (.ofNat (nat_lit 8)))])],
  [(nat_lit 13, nat_lit 0, [(nat_lit 0, (.ofNat (nat_lit 2)))]), (nat_lit 6, nat_lit 0, [(nat_lit 5, (.ofNat (nat_lit 0))), (nat_lit 0, (.ofNat (nat_lit 0)))]), (nat_lit 8, nat_lit 1, [(nat_lit 4, (.ofNat (nat_lit 0))), (nat_lit 1, (.ofNat (nat_lit 0))), (nat_lit 2, (.ofNat (nat_lit 0)))]), (nat_lit 4, nat_lit 0, [(nat_lit 0, (.ofNat (nat_lit 0))), (nat_lit 0, (.ofNat (nat_lit 9)))]), (nat_lit 6, nat_lit 0, [(nat_lit 3, (.ofNat (nat_lit 0))), (nat_lit 0, (.ofNat (nat_lit 3)))]), (nat_lit 4, nat_lit 0, [(nat_lit 0, (.ofNat (nat_lit 0))), (nat_lit 0, (.ofNat (nat_lit 8)))])],
  [(nat_lit 11, nat_lit 0, [(nat_lit 6, (.ofNat (nat_lit 0)))]), (nat_lit 8, nat_lit 0, [(nat_lit 0, (.ofNat (nat_lit 2)))]), (nat_lit 6, nat_lit 0, [(nat_lit 5, (.ofNat (nat_lit 0))), (nat_lit 0, (.ofNat (nat_lit 0)))]), (nat_lit 8, nat_lit 1, [(nat_lit 4, (.ofNat (nat_lit 0))), (nat_lit 1, (.ofNat (nat_lit 0))), (nat_lit 2, (.ofNat (nat_lit 0)))]), (nat_lit 4, nat_lit 0, [(nat_lit 0, (.ofNat (nat_lit 0))), (nat_lit 0, (.ofNat (nat_lit 9)))]), (nat_lit 6, nat_lit 0, [(nat_lit 3, (.ofNat (nat_lit 0))), (nat_lit 0, (.ofNat (nat_lit 3)))]), (nat_lit 4, nat_lit 0, [(nat_lit 0, (.ofNat (nat_lit 0))), (nat_lit 0, (.ofNat (nat_lit 8)))])],
  [(nat_lit 13, nat_lit 0, [(nat_lit 0, (.ofNat (nat_lit 1)))]), (nat_lit 6, nat_lit 1, [(nat_lit 3, (.ofNat (nat_lit 0))), (nat_lit 0, (.ofNat (nat_lit 3)))]), (nat_lit 4, nat_lit 0, [(nat_lit 0, (.ofNat (nat_lit 0))), (nat_lit 0, (.ofNat (nat_lit 8)))])],
  [(nat_lit 11, nat_lit 0, [(nat_lit 4, (.ofNat (nat_lit 0)))]), (nat_lit 8, nat_lit 0, [(nat_lit 0, (.ofNat (nat_lit 1)))]), (nat_lit 6, nat_lit 1, [(nat_lit 3, (.ofNat (nat_lit 0))), (nat_lit 0, (.ofNat (nat_lit 3)))]), (nat_lit 4, nat_lit 0, [(nat_lit 0, (.ofNat (nat_lit 0))), (nat_lit 0, (.ofNat (nat_lit 8)))])]]
def zFk_number : List (List zK) := []
set_option maxHeartbeats 8000000 in
theorem zk_number {ro : Nat → List Int32} : zMet pr_P pr_K pr_df ro (sm_X0 1 6) 2 127 tm_k [(.inr (.inr (.inl (nat_lit 0)))), (.inl (nat_lit 1, (.ofNat (nat_lit 0)))), (.inl (nat_lit 2, (.ofNat (nat_lit 0))))] 2 [(nat_lit 0, nat_lit 0, nat_lit 1), (nat_lit 0, nat_lit 3, nat_lit 2), (nat_lit 0, nat_lit 20, nat_lit 3), (nat_lit 0, nat_lit 21, nat_lit 4), (nat_lit 0, nat_lit 22, nat_lit 5), (nat_lit 0, nat_lit 23, nat_lit 6), (nat_lit 0, nat_lit 24, nat_lit 7), (nat_lit 0, nat_lit 25, nat_lit 8), (nat_lit 0, nat_lit 26, nat_lit 9), (nat_lit 0, nat_lit 27, nat_lit 10), (nat_lit 0, nat_lit 28, nat_lit 11), (nat_lit 0, nat_lit 29, nat_lit 12), (nat_lit 0, nat_lit 30, nat_lit 13), (nat_lit 0, nat_lit 31, nat_lit 14), (nat_lit 0, nat_lit 32, nat_lit 15), (nat_lit 0, nat_lit 33, nat_lit 16), (nat_lit 0, nat_lit 34, nat_lit 17), (nat_lit 0, nat_lit 35, nat_lit 18), (nat_lit 0, nat_lit 36, nat_lit 19), (nat_lit 0, nat_lit 37, nat_lit 20), (nat_lit 0, nat_lit 38, nat_lit 21), (nat_lit 0, nat_lit 39, nat_lit 22), (nat_lit 0, nat_lit 40, nat_lit 23), (nat_lit 0, nat_lit 47, nat_lit 24), (nat_lit 0, nat_lit 48, nat_lit 25), (nat_lit 0, nat_lit 50, nat_lit 26), (nat_lit 0, nat_lit 51, nat_lit 27), (nat_lit 0, nat_lit 52, nat_lit 28), (nat_lit 0, nat_lit 53, nat_lit 29), (nat_lit 0, nat_lit 54, nat_lit 30), (nat_lit 0, nat_lit 55, nat_lit 31), (nat_lit 0, nat_lit 56, nat_lit 32), (nat_lit 0, nat_lit 57, nat_lit 33), (nat_lit 0, nat_lit 58, nat_lit 34), (nat_lit 0, nat_lit 59, nat_lit 35), (nat_lit 0, nat_lit 72, nat_lit 36), (nat_lit 0, nat_lit 73, nat_lit 37), (nat_lit 0, nat_lit 76, nat_lit 38), (nat_lit 0, nat_lit 77, nat_lit 39), (nat_lit 0, nat_lit 79, nat_lit 40), (nat_lit 0, nat_lit 81, nat_lit 41), (nat_lit 0, nat_lit 82, nat_lit 42)] [] (fun xs η => sP wl_k zTr zPk_number xs η ∧ pPk_number xs η) (fun xs η y η' => sQ wl_k zTr zOk_number zMk_number xs η y η' ∧ pQk_number xs η y η') :=
  zmet_alt (zmea_gen (mi := (nat_lit 2, nat_lit 1, nat_lit 8, nat_lit 3, nat_lit 2, tX8_number)) (cd := [(nat_lit 118, nat_lit 0, nat_lit 0, [(.inr (.inr (.inl (nat_lit 0)))), (.inl (nat_lit 1, (.ofNat (nat_lit 0))))], nat_lit 2, [(nat_lit 0, nat_lit 0, nat_lit 1), (nat_lit 0, nat_lit 3, nat_lit 2), (nat_lit 0, nat_lit 20, nat_lit 3), (nat_lit 0, nat_lit 21, nat_lit 4), (nat_lit 0, nat_lit 22, nat_lit 5), (nat_lit 0, nat_lit 23, nat_lit 6), (nat_lit 0, nat_lit 24, nat_lit 7), (nat_lit 0, nat_lit 25, nat_lit 8), (nat_lit 0, nat_lit 26, nat_lit 9), (nat_lit 0, nat_lit 27, nat_lit 10), (nat_lit 0, nat_lit 28, nat_lit 11), (nat_lit 0, nat_lit 29, nat_lit 12), (nat_lit 0, nat_lit 30, nat_lit 13), (nat_lit 0, nat_lit 31, nat_lit 14), (nat_lit 0, nat_lit 32, nat_lit 15), (nat_lit 0, nat_lit 33, nat_lit 16), (nat_lit 0, nat_lit 34, nat_lit 17), (nat_lit 0, nat_lit 35, nat_lit 18), (nat_lit 0, nat_lit 36, nat_lit 19), (nat_lit 0, nat_lit 37, nat_lit 20), (nat_lit 0, nat_lit 38, nat_lit 21), (nat_lit 0, nat_lit 39, nat_lit 22), (nat_lit 0, nat_lit 40, nat_lit 23), (nat_lit 0, nat_lit 47, nat_lit 24), (nat_lit 0, nat_lit 48, nat_lit 25), (nat_lit 0, nat_lit 50, nat_lit 26), (nat_lit 0, nat_lit 51, nat_lit 27), (nat_lit 0, nat_lit 52, nat_lit 28), (nat_lit 0, nat_lit 53, nat_lit 29), (nat_lit 0, nat_lit 54, nat_lit 30), (nat_lit 0, nat_lit 55, nat_lit 31), (nat_lit 0, nat_lit 56, nat_lit 32), (nat_lit 0, nat_lit 57, nat_lit 33), (nat_lit 0, nat_lit 58, nat_lit 34), (nat_lit 0, nat_lit 59, nat_lit 35), (nat_lit 0, nat_lit 72, nat_lit 36), (nat_lit 0, nat_lit 73, nat_lit 37), (nat_lit 0, nat_lit 76, nat_lit 38), (nat_lit 0, nat_lit 77, nat_lit 39), (nat_lit 0, nat_lit 79, nat_lit 40), (nat_lit 0, nat_lit 81, nat_lit 41), (nat_lit 0, nat_lit 82, nat_lit 42)], []), (nat_lit 117, nat_lit 1, nat_lit 0, [(.inl (nat_lit 1, (.ofNat (nat_lit 0)))), (.inl (nat_lit 2, (.ofNat (nat_lit 0)))), (.inl (nat_lit 3, (.ofNat (nat_lit 0))))], nat_lit 2, [(nat_lit 0, nat_lit 0, nat_lit 1), (nat_lit 0, nat_lit 3, nat_lit 2), (nat_lit 0, nat_lit 20, nat_lit 3), (nat_lit 0, nat_lit 21, nat_lit 4), (nat_lit 0, nat_lit 22, nat_lit 5), (nat_lit 0, nat_lit 23, nat_lit 6), (nat_lit 0, nat_lit 24, nat_lit 7), (nat_lit 0, nat_lit 25, nat_lit 8), (nat_lit 0, nat_lit 26, nat_lit 9), (nat_lit 0, nat_lit 27, nat_lit 10), (nat_lit 0, nat_lit 28, nat_lit 11), (nat_lit 0, nat_lit 29, nat_lit 12), (nat_lit 0, nat_lit 30, nat_lit 13), (nat_lit 0, nat_lit 31, nat_lit 14), (nat_lit 0, nat_lit 32, nat_lit 15), (nat_lit 0, nat_lit 33, nat_lit 16), (nat_lit 0, nat_lit 34, nat_lit 17), (nat_lit 0, nat_lit 35, nat_lit 18), (nat_lit 0, nat_lit 36, nat_lit 19), (nat_lit 0, nat_lit 37, nat_lit 20), (nat_lit 0, nat_lit 38, nat_lit 21), (nat_lit 0, nat_lit 39, nat_lit 22), (nat_lit 0, nat_lit 40, nat_lit 23), (nat_lit 0, nat_lit 47, nat_lit 24), (nat_lit 0, nat_lit 48, nat_lit 25), (nat_lit 0, nat_lit 50, nat_lit 26), (nat_lit 0, nat_lit 51, nat_lit 27), (nat_lit 0, nat_lit 52, nat_lit 28), (nat_lit 0, nat_lit 53, nat_lit 29), (nat_lit 0, nat_lit 54, nat_lit 30), (nat_lit 0, nat_lit 55, nat_lit 31), (nat_lit 0, nat_lit 56, nat_lit 32), (nat_lit 0, nat_lit 57, nat_lit 33), (nat_lit 0, nat_lit 58, nat_lit 34), (nat_lit 0, nat_lit 59, nat_lit 35), (nat_lit 0, nat_lit 72, nat_lit 36), (nat_lit 0, nat_lit 73, nat_lit 37), (nat_lit 0, nat_lit 76, nat_lit 38), (nat_lit 0, nat_lit 77, nat_lit 39), (nat_lit 0, nat_lit 79, nat_lit 40), (nat_lit 0, nat_lit 81, nat_lit 41), (nat_lit 0, nat_lit 82, nat_lit 42)], []), (nat_lit 122, nat_lit 2, nat_lit 1, [(.inr (.inr (.inl (nat_lit 0))))], nat_lit 0, [(nat_lit 0, nat_lit 0, nat_lit 1), (nat_lit 0, nat_lit 3, nat_lit 2), (nat_lit 0, nat_lit 20, nat_lit 3), (nat_lit 0, nat_lit 21, nat_lit 4), (nat_lit 0, nat_lit 22, nat_lit 5), (nat_lit 0, nat_lit 23, nat_lit 6), (nat_lit 0, nat_lit 24, nat_lit 7), (nat_lit 0, nat_lit 25, nat_lit 8), (nat_lit 0, nat_lit 26, nat_lit 9), (nat_lit 0, nat_lit 27, nat_lit 10), (nat_lit 0, nat_lit 28, nat_lit 11), (nat_lit 0, nat_lit 29, nat_lit 12), (nat_lit 0, nat_lit 30, nat_lit 13), (nat_lit 0, nat_lit 31, nat_lit 14), (nat_lit 0, nat_lit 32, nat_lit 15), (nat_lit 0, nat_lit 33, nat_lit 16), (nat_lit 0, nat_lit 34, nat_lit 17), (nat_lit 0, nat_lit 35, nat_lit 18), (nat_lit 0, nat_lit 36, nat_lit 19), (nat_lit 0, nat_lit 37, nat_lit 20), (nat_lit 0, nat_lit 38, nat_lit 21), (nat_lit 0, nat_lit 39, nat_lit 22), (nat_lit 0, nat_lit 40, nat_lit 23), (nat_lit 0, nat_lit 47, nat_lit 24), (nat_lit 0, nat_lit 48, nat_lit 25), (nat_lit 0, nat_lit 50, nat_lit 26), (nat_lit 0, nat_lit 51, nat_lit 27), (nat_lit 0, nat_lit 52, nat_lit 28), (nat_lit 0, nat_lit 53, nat_lit 29), (nat_lit 0, nat_lit 54, nat_lit 30), (nat_lit 0, nat_lit 55, nat_lit 31), (nat_lit 0, nat_lit 56, nat_lit 32), (nat_lit 0, nat_lit 57, nat_lit 33), (nat_lit 0, nat_lit 58, nat_lit 34), (nat_lit 0, nat_lit 59, nat_lit 35), (nat_lit 0, nat_lit 72, nat_lit 36), (nat_lit 0, nat_lit 73, nat_lit 37), (nat_lit 0, nat_lit 76, nat_lit 38), (nat_lit 0, nat_lit 77, nat_lit 39), (nat_lit 0, nat_lit 79, nat_lit 40), (nat_lit 0, nat_lit 81, nat_lit 41), (nat_lit 0, nat_lit 82, nat_lit 42)], [])]) (cu := []) (cs := [(nat_lit 0, zPk_wrong, zOk_wrong, zMk_wrong), (nat_lit 1, zPk_isIn, zOk_isIn, zMk_isIn), (nat_lit 2, zPk_token, zOk_token, zMk_token)]) (iv := zVk_number) (po := [zOk_number]) (pr := zPk_number) (mods := zMk_number) (D7 := zDk_number) (D0 := zEk_number) (Dm := zFk_number) (f0 := 22) pCk_number qCk_number iCk_number pPk_number (fun xs η _ y η' => pQk_number xs η y η') zX_low pr_mtR rfl (List.forall_mem_cons.mpr ⟨zk_wrong, List.forall_mem_cons.mpr ⟨zk_isIn, List.forall_mem_cons.mpr ⟨zk_token, fun _ h => nomatch h⟩⟩⟩) (by decide +kernel) (by decide +kernel) (by decide +kernel)
    (by
      intro xs η hr hl hp hpp
      match xs, hl, hp, hpp with
      | [x1, x2], _, hp, hpp =>
        refine List.forall_mem_cons.mpr ⟨?_, List.forall_mem_cons.mpr ⟨?_, List.forall_mem_cons.mpr ⟨?_, List.forall_mem_cons.mpr ⟨?_, List.forall_mem_cons.mpr ⟨?_, List.forall_mem_cons.mpr ⟨?_, List.forall_mem_cons.mpr ⟨?_, fun _ h => nomatch h⟩⟩⟩⟩⟩⟩⟩
        · show ∀ x3 : Int, x3 = η 0 (Int.toNat 8) → zok 0 x3 → (x3 = 3) → ∀ x4 : Int, x4 = η 0 (Int.toNat 9) → zok 0 x4 → ((gC2 wl_k [(nat_lit 0, zPk_wrong, zOk_wrong, zMk_wrong), (nat_lit 1, zPk_isIn, zOk_isIn, zMk_isIn), (nat_lit 2, zPk_token, zOk_token, zMk_token)] pCk_number qCk_number) 1).1 [x4, x1, x2] η
          intro x3 e3 r3 c1 x4 e4 r4
          exact hpp
        · show ∀ x3 : Int, x3 = η 0 (Int.toNat 8) → zok 0 x3 → (x3 = 3) → ∀ x4 : Int, x4 = η 0 (Int.toNat 9) → zok 0 x4 → ∀ (x5 : Int) (η1 : zE), ((gC2 wl_k [(nat_lit 0, zPk_wrong, zOk_wrong, zMk_wrong), (nat_lit 1, zPk_isIn, zOk_isIn, zMk_isIn), (nat_lit 2, zPk_token, zOk_token, zMk_token)] pCk_number qCk_number) 1).2 [x4, x1, x2] η x5 η1 → (¬ x5 = 0) → ∀ x6 : Int, x6 = η1 0 (Int.toNat 9) → zok 0 x6 → ∀ η2 : zE, η2 = zup η1 0 (Int.toNat 11) x6 → ((gC2 wl_k [(nat_lit 0, zPk_wrong, zOk_wrong, zMk_wrong), (nat_lit 1, zPk_isIn, zOk_isIn, zMk_isIn), (nat_lit 2, zPk_token, zOk_token, zMk_token)] pCk_number qCk_number) 2).1 [] η2
          intro x3 e3 r3 c1 x4 e4 r4 x5 η1 h5 c2 x6 e6 r6 η2 eη2
          have k5 : sQ wl_k zTr zOk_isIn zMk_isIn [x4, x1, x2] η x5 η1 ∧ pQk_isIn [x4, x1, x2] η x5 η1 := h5
          have g1 : G_k η2 := by rw [eη2]; exact zGk_upc gk_k k5.2 (by decide +kernel)
          exact g1
        · show ∀ x3 : Int, x3 = η 0 (Int.toNat 8) → zok 0 x3 → (x3 = 3) → ∀ x4 : Int, x4 = η 0 (Int.toNat 9) → zok 0 x4 → ∀ (x5 : Int) (η1 : zE), ((gC2 wl_k [(nat_lit 0, zPk_wrong, zOk_wrong, zMk_wrong), (nat_lit 1, zPk_isIn, zOk_isIn, zMk_isIn), (nat_lit 2, zPk_token, zOk_token, zMk_token)] pCk_number qCk_number) 1).2 [x4, x1, x2] η x5 η1 → (¬ x5 = 0) → ∀ x6 : Int, x6 = η1 0 (Int.toNat 9) → zok 0 x6 → ∀ η2 : zE, η2 = zup η1 0 (Int.toNat 11) x6 → ∀ (x7 : Int) (η3 : zE), ((gC2 wl_k [(nat_lit 0, zPk_wrong, zOk_wrong, zMk_wrong), (nat_lit 1, zPk_isIn, zOk_isIn, zMk_isIn), (nat_lit 2, zPk_token, zOk_token, zMk_token)] pCk_number qCk_number) 2).2 [] η2 x7 η3 → (fun (_ : Nat) (y : Int) (η' : zE) => pQk_number [x1, x2] η y η') 0 1 η3
          intro x3 e3 r3 c1 x4 e4 r4 x5 η1 h5 c2 x6 e6 r6 η2 eη2 x7 η3 h7
          have k5 : sQ wl_k zTr zOk_isIn zMk_isIn [x4, x1, x2] η x5 η1 ∧ pQk_isIn [x4, x1, x2] η x5 η1 := h5
          have k7 : sQ wl_k zTr zOk_token zMk_token [] η2 x7 η3 ∧ pQk_token [] η2 x7 η3 := h7
          have bx1 : ((-2147483648) : Int) ≤ x1 ∧ x1 ≤ 2147483647 := hp.2.1.1
          have bx2 : ((-2147483648) : Int) ≤ x2 ∧ x2 ≤ 2147483647 := hp.2.1.2.1
          have w0_0_8 : (0 : Int) ≤ η 0 8 ∧ η 0 8 ≤ 6 := wf_ok (a := 8) (b := 8) (z := (0, 6)) hp.1 (by decide +kernel) (Nat.le_refl _) (Nat.le_refl _)
          replace e3 : x3 = η 0 8 := e3
          replace r3 : -2147483648 ≤ x3 ∧ x3 ≤ 2147483647 := r3
          replace e4 : x4 = η 0 9 := e4
          replace r4 : -2147483648 ≤ x4 ∧ x4 ≤ 2147483647 := r4
          have w0_0_7 : (0 : Int) ≤ η 0 7 ∧ η 0 7 ≤ 700 := wf_ok (a := 7) (b := 7) (z := (0, 700)) hp.1 (by decide +kernel) (Nat.le_refl _) (Nat.le_refl _)
          have c0_0_7 : η 0 7 = η 0 7 := rfl
          have w0_0_6 : (0 : Int) ≤ η 0 6 ∧ η 0 6 ≤ 700 := wf_ok (a := 6) (b := 6) (z := (0, 700)) hp.1 (by decide +kernel) (Nat.le_refl _) (Nat.le_refl _)
          have c0_0_6 : η 0 6 = η 0 6 := rfl
          have c0_0_8 : η 0 8 = η 0 8 := rfl
          have c0_0_9 : η 0 9 = η 0 9 := rfl
          have bx5 : (0 : Int) ≤ x5 ∧ x5 ≤ 1 := k5.1.2.1
          have v4 : η1 0 9 = η 0 9 := (k5.1.2.2.2.1 0 9 (by decide +kernel)).trans rfl
          replace e6 : x6 = η 0 9 := e6.trans v4
          replace r6 : -2147483648 ≤ x6 ∧ x6 ≤ 2147483647 := r6
          have v5 : η1 0 7 = η 0 7 := (k5.1.2.2.2.1 0 7 (by decide +kernel)).trans rfl
          have v6 : η2 0 7 = η 0 7 := by rw [eη2]; exact (zup_ne (fun _ e => absurd e (by decide))).trans v5
          have c2_0_7 : η2 0 7 = η 0 7 := v6
          have v7 : η1 0 6 = η 0 6 := (k5.1.2.2.2.1 0 6 (by decide +kernel)).trans rfl
          have v8 : η2 0 6 = η 0 6 := by rw [eη2]; exact (zup_ne (fun _ e => absurd e (by decide))).trans v7
          have c2_0_6 : η2 0 6 = η 0 6 := v8
          have v9 : η1 0 8 = η 0 8 := (k5.1.2.2.2.1 0 8 (by decide +kernel)).trans rfl
          have v10 : η2 0 8 = η 0 8 := by rw [eη2]; exact (zup_ne (fun _ e => absurd e (by decide))).trans v9
          have c2_0_8 : η2 0 8 = η 0 8 := v10
          have v11 : η2 0 9 = η 0 9 := by rw [eη2]; exact (zup_ne (fun _ e => absurd e (by decide))).trans v4
          have c2_0_9 : η2 0 9 = η 0 9 := v11
          have bx7 : (0 : Int) ≤ x7 ∧ x7 ≤ 0 := k7.1.2.1
          have fr1_0 : ∀ j, η 1 j = η 1 j := fun _ => rfl
          have v12 : ∀ j, η1 1 j = η 1 j := fun j => k5.1.2.2.2.1 1 _ (zinr_not (by decide +kernel))
          have fr1_1 : ∀ j, η1 1 j = η 1 j := v12
          have v13 : ∀ j, η2 1 j = η 1 j := fun j => by rw [eη2]; exact (zup_ne (fun e _ => absurd e (by decide))).trans (v12 j)
          have fr1_2 : ∀ j, η2 1 j = η 1 j := v13
          have v14 : ∀ j, η3 1 j = η 1 j := fun j => (k7.1.2.2.2.1 1 _ (zinr_not (by decide +kernel))).trans (v13 j)
          have fr1_3 : ∀ j, η3 1 j = η 1 j := v14
          have v15 : ∀ j, η1 2 j = η 2 j := fun j => k5.1.2.2.2.1 2 _ (zinr_not (by decide +kernel))
          have v16 : ∀ j, η2 2 j = η 2 j := fun j => by rw [eη2]; exact (zup_ne (fun e _ => absurd e (by decide))).trans (v15 j)
          have v17 : ∀ j, η3 2 j = η 2 j := fun j => (k7.1.2.2.2.1 2 _ (zinr_not (by decide +kernel))).trans (v16 j)
          have fr2 : ∀ j, η3 2 j = η 2 j := v17
          have w3_0_7 : (0 : Int) ≤ η3 0 7 ∧ η3 0 7 ≤ 700 := wf_ok (a := 7) (b := 7) (z := (0, 700)) k7.1.1 (by decide +kernel) (Nat.le_refl _) (Nat.le_refl _)
          have f0_7 : η3 0 7 = η3 0 7 := rfl
          have v19 : η3 0 6 = η 0 6 := (k7.1.2.2.2.1 0 6 (by decide +kernel)).trans v8
          have f0_6 : η3 0 6 = η 0 6 := v19
          have w3_0_8 : (0 : Int) ≤ η3 0 8 ∧ η3 0 8 ≤ 6 := wf_ok (a := 8) (b := 8) (z := (0, 6)) k7.1.1 (by decide +kernel) (Nat.le_refl _) (Nat.le_refl _)
          have f0_8 : η3 0 8 = η3 0 8 := rfl
          have f0_9 : η3 0 9 = η3 0 9 := rfl
          have g2 : G_k η2 := by rw [eη2]; exact zGk_upc gk_k k5.2 (by decide +kernel)
          have qt : ¬ η2 0 8 = 0 → 10 * (η3 0 6 - η3 0 7) + η3 0 8 < 10 * (η2 0 6 - η2 0 7) + η2 0 8 := k7.2.2
          exact ⟨k7.2.1, fun _ => show 10 * (η3 0 6 - η3 0 7) + η3 0 8 < 10 * (η 0 6 - η 0 7) + η 0 8 by omega⟩
        · show ∀ x3 : Int, x3 = η 0 (Int.toNat 8) → zok 0 x3 → (x3 = 3) → ∀ x4 : Int, x4 = η 0 (Int.toNat 9) → zok 0 x4 → ∀ (x5 : Int) (η1 : zE), ((gC2 wl_k [(nat_lit 0, zPk_wrong, zOk_wrong, zMk_wrong), (nat_lit 1, zPk_isIn, zOk_isIn, zMk_isIn), (nat_lit 2, zPk_token, zOk_token, zMk_token)] pCk_number qCk_number) 1).2 [x4, x1, x2] η x5 η1 → (x5 = 0) → ((gC2 wl_k [(nat_lit 0, zPk_wrong, zOk_wrong, zMk_wrong), (nat_lit 1, zPk_isIn, zOk_isIn, zMk_isIn), (nat_lit 2, zPk_token, zOk_token, zMk_token)] pCk_number qCk_number) 0).1 [2] η1
          intro x3 e3 r3 c1 x4 e4 r4 x5 η1 h5 c2
          have k5 : sQ wl_k zTr zOk_isIn zMk_isIn [x4, x1, x2] η x5 η1 ∧ pQk_isIn [x4, x1, x2] η x5 η1 := h5
          exact k5.2
        · show ∀ x3 : Int, x3 = η 0 (Int.toNat 8) → zok 0 x3 → (x3 = 3) → ∀ x4 : Int, x4 = η 0 (Int.toNat 9) → zok 0 x4 → ∀ (x5 : Int) (η1 : zE), ((gC2 wl_k [(nat_lit 0, zPk_wrong, zOk_wrong, zMk_wrong), (nat_lit 1, zPk_isIn, zOk_isIn, zMk_isIn), (nat_lit 2, zPk_token, zOk_token, zMk_token)] pCk_number qCk_number) 1).2 [x4, x1, x2] η x5 η1 → (x5 = 0) → ∀ (x6 : Int) (η2 : zE), ((gC2 wl_k [(nat_lit 0, zPk_wrong, zOk_wrong, zMk_wrong), (nat_lit 1, zPk_isIn, zOk_isIn, zMk_isIn), (nat_lit 2, zPk_token, zOk_token, zMk_token)] pCk_number qCk_number) 0).2 [2] η1 x6 η2 → (fun (_ : Nat) (y : Int) (η' : zE) => pQk_number [x1, x2] η y η') 0 x6 η2
          intro x3 e3 r3 c1 x4 e4 r4 x5 η1 h5 c2 x6 η2 h6
          have k5 : sQ wl_k zTr zOk_isIn zMk_isIn [x4, x1, x2] η x5 η1 ∧ pQk_isIn [x4, x1, x2] η x5 η1 := h5
          have k6 : sQ wl_k zTr zOk_wrong zMk_wrong [2] η1 x6 η2 ∧ pQk_wrong [2] η1 x6 η2 := h6
          have bx1 : ((-2147483648) : Int) ≤ x1 ∧ x1 ≤ 2147483647 := hp.2.1.1
          have bx2 : ((-2147483648) : Int) ≤ x2 ∧ x2 ≤ 2147483647 := hp.2.1.2.1
          have w0_0_8 : (0 : Int) ≤ η 0 8 ∧ η 0 8 ≤ 6 := wf_ok (a := 8) (b := 8) (z := (0, 6)) hp.1 (by decide +kernel) (Nat.le_refl _) (Nat.le_refl _)
          replace e3 : x3 = η 0 8 := e3
          replace r3 : -2147483648 ≤ x3 ∧ x3 ≤ 2147483647 := r3
          replace e4 : x4 = η 0 9 := e4
          replace r4 : -2147483648 ≤ x4 ∧ x4 ≤ 2147483647 := r4
          have w0_0_7 : (0 : Int) ≤ η 0 7 ∧ η 0 7 ≤ 700 := wf_ok (a := 7) (b := 7) (z := (0, 700)) hp.1 (by decide +kernel) (Nat.le_refl _) (Nat.le_refl _)
          have c0_0_7 : η 0 7 = η 0 7 := rfl
          have w0_0_6 : (0 : Int) ≤ η 0 6 ∧ η 0 6 ≤ 700 := wf_ok (a := 6) (b := 6) (z := (0, 700)) hp.1 (by decide +kernel) (Nat.le_refl _) (Nat.le_refl _)
          have c0_0_6 : η 0 6 = η 0 6 := rfl
          have c0_0_8 : η 0 8 = η 0 8 := rfl
          have c0_0_9 : η 0 9 = η 0 9 := rfl
          have bx5 : (0 : Int) ≤ x5 ∧ x5 ≤ 1 := k5.1.2.1
          have v4 : η1 0 7 = η 0 7 := (k5.1.2.2.2.1 0 7 (by decide +kernel)).trans rfl
          have c1_0_7 : η1 0 7 = η 0 7 := v4
          have v5 : η1 0 6 = η 0 6 := (k5.1.2.2.2.1 0 6 (by decide +kernel)).trans rfl
          have c1_0_6 : η1 0 6 = η 0 6 := v5
          have v6 : η1 0 8 = η 0 8 := (k5.1.2.2.2.1 0 8 (by decide +kernel)).trans rfl
          have c1_0_8 : η1 0 8 = η 0 8 := v6
          have v7 : η1 0 9 = η 0 9 := (k5.1.2.2.2.1 0 9 (by decide +kernel)).trans rfl
          have c1_0_9 : η1 0 9 = η 0 9 := v7
          have bx6 : (0 : Int) ≤ x6 ∧ x6 ≤ 0 := k6.1.2.1
          have fr1_0 : ∀ j, η 1 j = η 1 j := fun _ => rfl
          have v8 : ∀ j, η1 1 j = η 1 j := fun j => k5.1.2.2.2.1 1 _ (zinr_not (by decide +kernel))
          have fr1_1 : ∀ j, η1 1 j = η 1 j := v8
          have v9 : ∀ j, η2 1 j = η 1 j := fun j => (k6.1.2.2.2.1 1 _ (zinr_not (by decide +kernel))).trans (v8 j)
          have fr1_2 : ∀ j, η2 1 j = η 1 j := v9
          have v10 : ∀ j, η1 2 j = η 2 j := fun j => k5.1.2.2.2.1 2 _ (zinr_not (by decide +kernel))
          have v11 : ∀ j, η2 2 j = η 2 j := fun j => (k6.1.2.2.2.1 2 _ (zinr_not (by decide +kernel))).trans (v10 j)
          have fr2 : ∀ j, η2 2 j = η 2 j := v11
          have v12 : η2 0 7 = η 0 7 := (k6.1.2.2.2.1 0 7 (by decide +kernel)).trans v4
          have f0_7 : η2 0 7 = η 0 7 := v12
          have v13 : η2 0 6 = η 0 6 := (k6.1.2.2.2.1 0 6 (by decide +kernel)).trans v5
          have f0_6 : η2 0 6 = η 0 6 := v13
          have v14 : η2 0 8 = η 0 8 := (k6.1.2.2.2.1 0 8 (by decide +kernel)).trans v6
          have f0_8 : η2 0 8 = η 0 8 := v14
          have v15 : η2 0 9 = η 0 9 := (k6.1.2.2.2.1 0 9 (by decide +kernel)).trans v7
          have f0_9 : η2 0 9 = η 0 9 := v15
          exact ⟨k6.2, fun w => absurd (show (x6 : Int) = 0 by omega) w⟩
        · show ∀ x3 : Int, x3 = η 0 (Int.toNat 8) → zok 0 x3 → (¬ x3 = 3) → ((gC2 wl_k [(nat_lit 0, zPk_wrong, zOk_wrong, zMk_wrong), (nat_lit 1, zPk_isIn, zOk_isIn, zMk_isIn), (nat_lit 2, zPk_token, zOk_token, zMk_token)] pCk_number qCk_number) 0).1 [1] η
          intro x3 e3 r3 c1
          exact hpp
        · show ∀ x3 : Int, x3 = η 0 (Int.toNat 8) → zok 0 x3 → (¬ x3 = 3) → ∀ (x4 : Int) (η1 : zE), ((gC2 wl_k [(nat_lit 0, zPk_wrong, zOk_wrong, zMk_wrong), (nat_lit 1, zPk_isIn, zOk_isIn, zMk_isIn), (nat_lit 2, zPk_token, zOk_token, zMk_token)] pCk_number qCk_number) 0).2 [1] η x4 η1 → (fun (_ : Nat) (y : Int) (η' : zE) => pQk_number [x1, x2] η y η') 0 x4 η1
          intro x3 e3 r3 c1 x4 η1 h4
          have k4 : sQ wl_k zTr zOk_wrong zMk_wrong [1] η x4 η1 ∧ pQk_wrong [1] η x4 η1 := h4
          have bx1 : ((-2147483648) : Int) ≤ x1 ∧ x1 ≤ 2147483647 := hp.2.1.1
          have bx2 : ((-2147483648) : Int) ≤ x2 ∧ x2 ≤ 2147483647 := hp.2.1.2.1
          have w0_0_8 : (0 : Int) ≤ η 0 8 ∧ η 0 8 ≤ 6 := wf_ok (a := 8) (b := 8) (z := (0, 6)) hp.1 (by decide +kernel) (Nat.le_refl _) (Nat.le_refl _)
          replace e3 : x3 = η 0 8 := e3
          replace r3 : -2147483648 ≤ x3 ∧ x3 ≤ 2147483647 := r3
          have w0_0_7 : (0 : Int) ≤ η 0 7 ∧ η 0 7 ≤ 700 := wf_ok (a := 7) (b := 7) (z := (0, 700)) hp.1 (by decide +kernel) (Nat.le_refl _) (Nat.le_refl _)
          have c0_0_7 : η 0 7 = η 0 7 := rfl
          have w0_0_6 : (0 : Int) ≤ η 0 6 ∧ η 0 6 ≤ 700 := wf_ok (a := 6) (b := 6) (z := (0, 700)) hp.1 (by decide +kernel) (Nat.le_refl _) (Nat.le_refl _)
          have c0_0_6 : η 0 6 = η 0 6 := rfl
          have c0_0_8 : η 0 8 = η 0 8 := rfl
          have c0_0_9 : η 0 9 = η 0 9 := rfl
          have bx4 : (0 : Int) ≤ x4 ∧ x4 ≤ 0 := k4.1.2.1
          have fr1_0 : ∀ j, η 1 j = η 1 j := fun _ => rfl
          have v4 : ∀ j, η1 1 j = η 1 j := fun j => k4.1.2.2.2.1 1 _ (zinr_not (by decide +kernel))
          have fr1_1 : ∀ j, η1 1 j = η 1 j := v4
          have v5 : ∀ j, η1 2 j = η 2 j := fun j => k4.1.2.2.2.1 2 _ (zinr_not (by decide +kernel))
          have fr2 : ∀ j, η1 2 j = η 2 j := v5
          have v6 : η1 0 7 = η 0 7 := (k4.1.2.2.2.1 0 7 (by decide +kernel)).trans rfl
          have f0_7 : η1 0 7 = η 0 7 := v6
          have v7 : η1 0 6 = η 0 6 := (k4.1.2.2.2.1 0 6 (by decide +kernel)).trans rfl
          have f0_6 : η1 0 6 = η 0 6 := v7
          have v8 : η1 0 8 = η 0 8 := (k4.1.2.2.2.1 0 8 (by decide +kernel)).trans rfl
          have f0_8 : η1 0 8 = η 0 8 := v8
          have v9 : η1 0 9 = η 0 9 := (k4.1.2.2.2.1 0 9 (by decide +kernel)).trans rfl
          have f0_9 : η1 0 9 = η 0 9 := v9
          exact ⟨k4.2, fun w => absurd (show (x4 : Int) = 0 by omega) w⟩
      )
    (fun _ _ _ _ _ _ _ h => nomatch h)
    (fun _ h => nomatch h))
