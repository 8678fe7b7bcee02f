def zPke_token : zPq := ([], [])
def zOke_token : zPo := (((.ofNat (nat_lit 0)), (.ofNat (nat_lit 0))), [], [])
def zMke_token : List zCe := [(nat_lit 0, nat_lit 8), (nat_lit 0, nat_lit 9), (nat_lit 0, nat_lit 10), (nat_lit 0, nat_lit 11)]
def pPke_token : List Int → zE → Prop := (fun _ η => G_ke η)
def oQke_token : List Int → zE → Int → zE → Prop := fun _ η _ η' => G_k η' ∧ (¬ η 0 8 = 0 → 10 * (η' 0 6 - η' 0 7) + η' 0 8 < 10 * (η 0 6 - η 0 7) + η 0 8)
def fQke_token : List Int → zE → Int → zE → Prop := fun xs η y η' => η' = (yq_tok η)
def pQke_token : List Int → zE → Int → zE → Prop := fun xs η y η' => oQke_token xs η y η' ∧ fQke_token xs η y η'
def pCke_token : Nat → List Int → zE → Prop := fun c => match c with
  | 0 => pPke_isSmall
  | 1 => pPke_isDigit
  | 2 => pPke_wordAt
  | 3 => pPke_packed
  | 4 => pPke_signToken
  | _ => fun _ _ => True
def qCke_token : Nat → List Int → zE → Int → zE → Prop := fun c => match c with
  | 0 => pQke_isSmall
  | 1 => pQke_isDigit
  | 2 => pQke_wordAt
  | 3 => pQke_packed
  | 4 => pQke_signToken
  | _ => fun _ _ _ _ => True
def iCke_token : List Int → zE → Nat → List Int → zE → Prop := fun xs η0 c => match c with
  | 0 => fun ys η => (G_k η ∧ η0 0 7 ≤ η 0 7 ∧ η 0 8 = η0 0 8) ∧ (yq_zI η0 η)
  | 1 => fun ys η => (G_k η ∧ (η0 0 7 < η 0 7 ∨ (η0 0 7 ≤ η 0 7 ∧ η 0 7 < η 0 6 ∧ 97 ≤ η 1 (Int.toNat (η 0 7)) ∧ η 1 (Int.toNat (η 0 7)) ≤ 122))) ∧ (yq_tW η0 η)
  | 2 => fun ys η => (G_k η ∧ η 0 8 = 3 ∧ (η0 0 7 < η 0 7 ∨ (η0 0 7 ≤ η 0 7 ∧ η 0 7 < η 0 6 ∧ 48 ≤ η 1 (Int.toNat (η 0 7)) ∧ η 1 (Int.toNat (η 0 7)) ≤ 57))) ∧ (yq_tN η0 η)
  | _ => fun _ _ => True
def zVke_token : List zIv := [(nat_lit 0, ([], []), ((.ofNat (nat_lit 3000)), [((.negSucc (nat_lit 0)), nat_lit 1, nat_lit 0, nat_lit 7)])), (nat_lit 1, ([], []), ((.ofNat (nat_lit 2000)), [((.negSucc (nat_lit 0)), nat_lit 1, nat_lit 0, nat_lit 7)])), (nat_lit 2, ([], []), ((.ofNat (nat_lit 2000)), [((.negSucc (nat_lit 0)), nat_lit 1, nat_lit 0, nat_lit 7)]))]
def zUke_token : List zCu := [(nat_lit 0, nat_lit 0, [(nat_lit 0, (.inr (.inr (.inl (nat_lit 0)))))], []), (nat_lit 90, nat_lit 1, [(nat_lit 0, (.inr (.inr (.inl (nat_lit 0)))))], []), (nat_lit 213, nat_lit 2, [(nat_lit 0, (.inr (.inr (.inl (nat_lit 0)))))], [])]
def zDke_token : List (List zK) := []
def zEke_token : List (List zK) := [[(nat_lit 12, nat_lit 0, [])]]
def zFke_token : List (List zK) := []
def zDke_token_0 : List (List zK) := [[(nat_lit 7, nat_lit 0, [(nat_lit 3, (.ofNat (nat_lit 0))), (nat_lit 0, (.ofNat (nat_lit 700)))]), (nat_lit 4, nat_lit 0, [(nat_lit 0, (.ofNat (nat_lit 0))), (nat_lit 0, (.ofNat (nat_lit 7)))]), (nat_lit 6, nat_lit 2, [(nat_lit 1, (.ofNat (nat_lit 0))), (nat_lit 2, (.ofNat (nat_lit 0)))]), (nat_lit 4, nat_lit 0, [(nat_lit 0, (.ofNat (nat_lit 0))), (nat_lit 0, (.ofNat (nat_lit 6)))]), (nat_lit 4, nat_lit 0, [(nat_lit 0, (.ofNat (nat_lit 0))), (nat_lit 0, (.ofNat (nat_lit 7)))])],
  [(nat_lit 7, nat_lit 0, [(nat_lit 5, (.ofNat (nat_lit 0))), (nat_lit 0, (.ofNat (nat_lit 700)))]), (nat_lit 4, nat_lit 0, [(nat_lit 0, (.ofNat (nat_lit 0))), (nat_lit 0, (.ofNat (nat_lit 7)))]), (nat_lit 6, nat_lit 1, [(nat_lit 4, (.ofNat (nat_lit 0))), (nat_lit 0, (.ofNat (nat_lit 10)))]), (nat_lit 4, nat_lit 0, [(nat_lit 1, (.ofNat (nat_lit 0))), (nat_lit 3, (.ofNat (nat_lit 0)))]), (nat_lit 4, nat_lit 0, [(nat_lit 0, (.ofNat (nat_lit 0))), (nat_lit 0, (.ofNat (nat_lit 7)))]), (nat_lit 6, nat_lit 2, [(nat_lit 1, (.ofNat (nat_lit 0))), (nat_lit 2, (.ofNat (nat_lit 0)))]), (nat_lit 4, nat_lit 0, [(nat_lit 0, (.ofNat (nat_lit 0))), (nat_lit 0, (.ofNat (nat_lit 6)))]), (nat_lit 4, nat_lit 0, [(nat_lit 0, (.ofNat (nat_lit 0))), (nat_lit 0, (.ofNat (nat_lit 7)))])],
  [(nat_lit 7, nat_lit 3, []), (nat_lit 6, nat_lit 0, [(nat_lit 8, (.ofNat (nat_lit 0))), (nat_lit 9, (.ofNat (nat_lit 0)))]), (nat_lit 4, nat_lit 0, [(nat_lit 0, (.ofNat (nat_lit 0))), (nat_lit 0, (.ofNat (nat_lit 6)))]), (nat_lit 4, nat_lit 0, [(nat_lit 0, (.ofNat (nat_lit 0))), (nat_lit 0, (.ofNat (nat_lit 7)))]), (nat_lit 5, nat_lit 0, [(nat_lit 0, (.ofNat (nat_lit 0))), (nat_lit 0, (.ofNat (nat_lit 10))), (nat_lit 7, (.ofNat (nat_lit 0)))]), (nat_lit 4, nat_lit 0, [(nat_lit 0, (.ofNat (nat_lit 0))), (nat_lit 0, (.ofNat (nat_lit 7)))]), (nat_lit 6, nat_lit 1, [(nat_lit 6, (.ofNat (nat_lit 0))), (nat_lit 0, (.ofNat (nat_lit 32)))]), (nat_lit 4, nat_lit 0, [(nat_lit 1, (.ofNat (nat_lit 0))), (nat_lit 5, (.ofNat (nat_lit 0)))]), (nat_lit 4, nat_lit 0, [(nat_lit 0, (.ofNat (nat_lit 0))), (nat_lit 0, (.ofNat (nat_lit 7)))]), (nat_lit 6, nat_lit 1, [(nat_lit 4, (.ofNat (nat_lit 0))), (nat_lit 0, (.ofNat (nat_lit 10)))]), (nat_lit 4, nat_lit 0, [(nat_lit 1, (.ofNat (nat_lit 0))), (nat_lit 3, (.ofNat (nat_lit 0)))]), (nat_lit 4, nat_lit 0, [(nat_lit 0, (.ofNat (nat_lit 0))), (nat_lit 0, (.ofNat (nat_lit 7)))]), (nat_lit 6, nat_lit 2, [(nat_lit 1, (.ofNat (nat_lit 0))), (nat_lit 2, (.ofNat (nat_lit 0)))]), (nat_lit 4, nat_lit 0, [(nat_lit 0, (.ofNat (nat_lit 0))), (nat_lit 0, (.ofNat (nat_lit 6)))]), (nat_lit 4, nat_lit 0, [(nat_lit 0, (.ofNat (nat_lit 0))), (nat_lit 0, (.ofNat (nat_lit 7)))])]]
def zEke_token_0 : List (List zK) := [[(nat_lit 13, nat_lit 0, [(nat_lit 6, (.ofNat (nat_lit 0)))]), (nat_lit 4, nat_lit 0, [(nat_lit 0, (.ofNat (nat_lit 0))), (nat_lit 0, (.ofNat (nat_lit 7)))]), (nat_lit 6, nat_lit 1, [(nat_lit 4, (.ofNat (nat_lit 0))), (nat_lit 5, (.ofNat (nat_lit 0)))]), (nat_lit 4, nat_lit 0, [(nat_lit 0, (.ofNat (nat_lit 0))), (nat_lit 0, (.ofNat (nat_lit 6)))]), (nat_lit 4, nat_lit 0, [(nat_lit 0, (.ofNat (nat_lit 0))), (nat_lit 0, (.ofNat (nat_lit 7)))]), (nat_lit 5, nat_lit 0, [(nat_lit 0, (.ofNat (nat_lit 0))), (nat_lit 0, (.ofNat (nat_lit 10))), (nat_lit 3, (.ofNat (nat_lit 0)))]), (nat_lit 4, nat_lit 0, [(nat_lit 0, (.ofNat (nat_lit 0))), (nat_lit 0, (.ofNat (nat_lit 7)))]), (nat_lit 6, nat_lit 3, [(nat_lit 1, (.ofNat (nat_lit 0))), (nat_lit 2, (.ofNat (nat_lit 0)))]), (nat_lit 4, nat_lit 0, [(nat_lit 0, (.ofNat (nat_lit 0))), (nat_lit 0, (.ofNat (nat_lit 6)))]), (nat_lit 4, nat_lit 0, [(nat_lit 0, (.ofNat (nat_lit 0))), (nat_lit 0, (.ofNat (nat_lit 7)))])],
  [(nat_lit 13, nat_lit 1, [(nat_lit 8, (.ofNat (nat_lit 0)))]), (nat_lit 4, nat_lit 0, [(nat_lit 0, (.ofNat (nat_lit 0))), (nat_lit 0, (.ofNat (nat_lit 7)))]), (nat_lit 6, nat_lit 0, [(nat_lit 7, (.ofNat (nat_lit 0))), (nat_lit 0, (.ofNat (nat_lit 0)))]), (nat_lit 8, nat_lit 0, [(nat_lit 6, (.ofNat (nat_lit 0)))]), (nat_lit 4, nat_lit 0, [(nat_lit 0, (.ofNat (nat_lit 0))), (nat_lit 0, (.ofNat (nat_lit 7)))]), (nat_lit 6, nat_lit 1, [(nat_lit 4, (.ofNat (nat_lit 0))), (nat_lit 5, (.ofNat (nat_lit 0)))]), (nat_lit 4, nat_lit 0, [(nat_lit 0, (.ofNat (nat_lit 0))), (nat_lit 0, (.ofNat (nat_lit 6)))]), (nat_lit 4, nat_lit 0, [(nat_lit 0, (.ofNat (nat_lit 0))), (nat_lit 0, (.ofNat (nat_lit 7)))]), (nat_lit 5, nat_lit 0, [(nat_lit 0, (.ofNat (nat_lit 0))), (nat_lit 0, (.ofNat (nat_lit 10))), (nat_lit 3, (.ofNat (nat_lit 0)))]), (nat_lit 4, nat_lit 0, [(nat_lit 0, (.ofNat (nat_lit 0))), (nat_lit 0, (.ofNat (nat_lit 7)))]), (nat_lit 6, nat_lit 3, [(nat_lit 1, (.ofNat (nat_lit 0))), (nat_lit 2, (.ofNat (nat_lit 0)))]), (nat_lit 4, nat_lit 0, [(nat_lit 0, (.ofNat (nat_lit 0))), (nat_lit 0, (.ofNat (nat_lit 6)))]), (nat_lit 4, nat_lit 0, [(nat_lit 0, (.ofNat (nat_lit 0))), (nat_lit 0, (.ofNat (nat_lit 7)))])],
  [(nat_lit 11, nat_lit 0, [(nat_lit 0, (.ofNat (nat_lit 0)))]), (nat_lit 8, nat_lit 4, []), (nat_lit 6, nat_lit 0, [(nat_lit 9, (.ofNat (nat_lit 0))), (nat_lit 0, (.ofNat (nat_lit 0)))]), (nat_lit 8, nat_lit 1, [(nat_lit 8, (.ofNat (nat_lit 0)))]), (nat_lit 4, nat_lit 0, [(nat_lit 0, (.ofNat (nat_lit 0))), (nat_lit 0, (.ofNat (nat_lit 7)))]), (nat_lit 6, nat_lit 0, [(nat_lit 7, (.ofNat (nat_lit 0))), (nat_lit 0, (.ofNat (nat_lit 0)))]), (nat_lit 8, nat_lit 0, [(nat_lit 6, (.ofNat (nat_lit 0)))]), (nat_lit 4, nat_lit 0, [(nat_lit 0, (.ofNat (nat_lit 0))), (nat_lit 0, (.ofNat (nat_lit 7)))]), (nat_lit 6, nat_lit 1, [(nat_lit 4, (.ofNat (nat_lit 0))), (nat_lit 5, (.ofNat (nat_lit 0)))]), (nat_lit 4, nat_lit 0, [(nat_lit 0, (.ofNat (nat_lit 0))), (nat_lit 0, (.ofNat (nat_lit 6)))]), (nat_lit 4, nat_lit 0, [(nat_lit 0, (.ofNat (nat_lit 0))), (nat_lit 0, (.ofNat (nat_lit 7)))]), (nat_lit 5, nat_lit 0, [(nat_lit 0, (.ofNat (nat_lit 0))), (nat_lit 0, (.ofNat (nat_lit 10))), (nat_lit 3, (.ofNat (nat_lit 0)))]), (nat_lit 4, nat_lit 0, [(nat_lit 0, (.ofNat (nat_lit 0))), (nat_lit 0, (.ofNat (nat_lit 7)))]), (nat_lit 6, nat_lit 3, [(nat_lit 1, (.ofNat (nat_lit 0))), (nat_lit 2, (.ofNat (nat_lit 0)))]), (nat_lit 4, nat_lit 0, [(nat_lit 0, (.ofNat (nat_lit 0))), (nat_lit 0, (.ofNat (nat_lit 6)))]), (nat_lit 4, nat_lit 0, [(nat_lit 0, (.ofNat (nat_lit 0))), (nat_lit 0, (.ofNat (nat_lit 7)))])],
  [(nat_lit 10, nat_lit 2, []), (nat_lit 5, nat_lit 0, [(nat_lit 0, (.ofNat (nat_lit 0))), (nat_lit 0, (.ofNat (nat_lit 9))), (nat_lit 0, (.ofNat (nat_lit 0)))]), (nat_lit 5, nat_lit 0, [(nat_lit 0, (.ofNat (nat_lit 0))), (nat_lit 0, (.ofNat (nat_lit 8))), (nat_lit 0, (.ofNat (nat_lit 3)))]), (nat_lit 6, nat_lit 1, [(nat_lit 9, (.ofNat (nat_lit 0))), (nat_lit 0, (.ofNat (nat_lit 0)))]), (nat_lit 8, nat_lit 1, [(nat_lit 8, (.ofNat (nat_lit 0)))]), (nat_lit 4, nat_lit 0, [(nat_lit 0, (.ofNat (nat_lit 0))), (nat_lit 0, (.ofNat (nat_lit 7)))]), (nat_lit 6, nat_lit 0, [(nat_lit 7, (.ofNat (nat_lit 0))), (nat_lit 0, (.ofNat (nat_lit 0)))]), (nat_lit 8, nat_lit 0, [(nat_lit 6, (.ofNat (nat_lit 0)))]), (nat_lit 4, nat_lit 0, [(nat_lit 0, (.ofNat (nat_lit 0))), (nat_lit 0, (.ofNat (nat_lit 7)))]), (nat_lit 6, nat_lit 1, [(nat_lit 4, (.ofNat (nat_lit 0))), (nat_lit 5, (.ofNat (nat_lit 0)))]), (nat_lit 4, nat_lit 0, [(nat_lit 0, (.ofNat (nat_lit 0))), (nat_lit 0, (.ofNat (nat_lit 6)))]), (nat_lit 4, nat_lit 0, [(nat_lit 0, (.ofNat (nat_lit 0))), (nat_lit 0, (.ofNat (nat_lit 7)))]), (nat_lit 5, nat_lit 0, [(nat_lit 0, (.ofNat (nat_lit 0))), (nat_lit 0, (.ofNat (nat_lit 10))), (nat_lit 3, (.ofNat (nat_lit 0)))]), (nat_lit 4, nat_lit 0, [(nat_lit 0, (.ofNat (nat_lit 0))), (nat_lit 0, (.ofNat (nat_lit 7)))]), (nat_lit 6, nat_lit 3, [(nat_lit 1, (.ofNat (nat_lit 0))), (nat_lit 2, (.ofNat (nat_lit 0)))]), (nat_lit 4, nat_lit 0, [(nat_lit 0, (.ofNat (nat_lit 0))), (nat_lit 0, (.ofNat (nat_lit 6)))]), (nat_lit 4, nat_lit 0, [(nat_lit 0, (.ofNat (nat_lit 0))), (nat_lit 0, (.ofNat (nat_lit 7)))])],
  [(nat_lit 10, nat_lit 1, []), (nat_lit 6, nat_lit 1, [(nat_lit 7, (.ofNat (nat_lit 0))), (nat_lit 0, (.ofNat (nat_lit 0)))]), (nat_lit 8, nat_lit 0, [(nat_lit 6, (.ofNat (nat_lit 0)))]), (nat_lit 4, nat_lit 0, [(nat_lit 0, (.ofNat (nat_lit 0))), (nat_lit 0, (.ofNat (nat_lit 7)))]), (nat_lit 6, nat_lit 1, [(nat_lit 4, (.ofNat (nat_lit 0))), (nat_lit 5, (.ofNat (nat_lit 0)))]), (nat_lit 4, nat_lit 0, [(nat_lit 0, (.ofNat (nat_lit 0))), (nat_lit 0, (.ofNat (nat_lit 6)))]), (nat_lit 4, nat_lit 0, [(nat_lit 0, (.ofNat (nat_lit 0))), (nat_lit 0, (.ofNat (nat_lit 7)))]), (nat_lit 5, nat_lit 0, [(nat_lit 0, (.ofNat (nat_lit 0))), (nat_lit 0, (.ofNat (nat_lit 10))), (nat_lit 3, (.ofNat (nat_lit 0)))]), (nat_lit 4, nat_lit 0, [(nat_lit 0, (.ofNat (nat_lit 0))), (nat_lit 0, (.ofNat (nat_lit 7)))]), (nat_lit 6, nat_lit 3, [(nat_lit 1, (.ofNat (nat_lit 0))), (nat_lit 2, (.ofNat (nat_lit 0)))]), (nat_lit 4, nat_lit 0, [(nat_lit 0, (.ofNat (nat_lit 0))), (nat_lit 0, (.ofNat (nat_lit 6)))]), (nat_lit 4, nat_lit 0, [(nat_lit 0, (.ofNat (nat_lit 0))), (nat_lit 0, (.ofNat (nat_lit 7)))])],
  [(nat_lit 11, nat_lit 0, [(nat_lit 0, (.ofNat (nat_lit 0)))]), (nat_lit 5, nat_lit 0, [(nat_lit 0, (.ofNat (nat_lit 0))), (nat_lit 0, (.ofNat (nat_lit 8))), (nat_lit 0, (.ofNat (nat_lit 0)))]), (nat_lit 6, nat_lit 0, [(nat_lit 4, (.ofNat (nat_lit 0))), (nat_lit 5, (.ofNat (nat_lit 0)))]), (nat_lit 4, nat_lit 0, [(nat_lit 0, (.ofNat (nat_lit 0))), (nat_lit 0, (.ofNat (nat_lit 6)))]), (nat_lit 4, nat_lit 0, [(nat_lit 0, (.ofNat (nat_lit 0))), (nat_lit 0, (.ofNat (nat_lit 7)))]), (nat_lit 5, nat_lit 0, [(nat_lit 0, (.ofNat (nat_lit 0))), (nat_lit 0, (.ofNat (nat_lit 10))), (nat_lit 3, (.ofNat (nat_lit 0)))]), (nat_lit 4, nat_lit 0, [(nat_lit 0, (.ofNat (nat_lit 0))), (nat_lit 0, (.ofNat (nat_lit 7)))]), (nat_lit 6, nat_lit 3, [(nat_lit 1, (.ofNat (nat_lit 0))), (nat_lit 2, (.ofNat (nat_lit 0)))]), (nat_lit 4, nat_lit 0, [(nat_lit 0, (.ofNat (nat_lit 0))), (nat_lit 0, (.ofNat (nat_lit 6)))]), (nat_lit 4, nat_lit 0, [(nat_lit 0, (.ofNat (nat_lit 0))), (nat_lit 0, (.ofNat (nat_lit 7)))])],
  [(nat_lit 10, nat_lit 0, []), (nat_lit 5, nat_lit 0, [(nat_lit 0, (.ofNat (nat_lit 0))), (nat_lit 0, (.ofNat (nat_lit 7))), (nat_lit 6, (.ofNat (nat_lit 0)))]), (nat_lit 0, nat_lit 1, [(nat_lit 5, (.ofNat (nat_lit 0))), (nat_lit 0, (.ofNat (nat_lit 1)))]), (nat_lit 4, nat_lit 0, [(nat_lit 0, (.ofNat (nat_lit 0))), (nat_lit 0, (.ofNat (nat_lit 7)))]), (nat_lit 6, nat_lit 0, [(nat_lit 4, (.ofNat (nat_lit 0))), (nat_lit 0, (.ofNat (nat_lit 10)))]), (nat_lit 4, nat_lit 0, [(nat_lit 1, (.ofNat (nat_lit 0))), (nat_lit 3, (.ofNat (nat_lit 0)))]), (nat_lit 4, nat_lit 0, [(nat_lit 0, (.ofNat (nat_lit 0))), (nat_lit 0, (.ofNat (nat_lit 7)))]), (nat_lit 6, nat_lit 2, [(nat_lit 1, (.ofNat (nat_lit 0))), (nat_lit 2, (.ofNat (nat_lit 0)))]), (nat_lit 4, nat_lit 0, [(nat_lit 0, (.ofNat (nat_lit 0))), (nat_lit 0, (.ofNat (nat_lit 6)))]), (nat_lit 4, nat_lit 0, [(nat_lit 0, (.ofNat (nat_lit 0))), (nat_lit 0, (.ofNat (nat_lit 7)))])],
  [(nat_lit 13, nat_lit 0, [(nat_lit 10, (.ofNat (nat_lit 0)))]), (nat_lit 4, nat_lit 0, [(nat_lit 0, (.ofNat (nat_lit 0))), (nat_lit 0, (.ofNat (nat_lit 7)))]), (nat_lit 6, nat_lit 1, [(nat_lit 8, (.ofNat (nat_lit 0))), (nat_lit 9, (.ofNat (nat_lit 0)))]), (nat_lit 4, nat_lit 0, [(nat_lit 0, (.ofNat (nat_lit 0))), (nat_lit 0, (.ofNat (nat_lit 6)))]), (nat_lit 4, nat_lit 0, [(nat_lit 0, (.ofNat (nat_lit 0))), (nat_lit 0, (.ofNat (nat_lit 7)))]), (nat_lit 5, nat_lit 0, [(nat_lit 0, (.ofNat (nat_lit 0))), (nat_lit 0, (.ofNat (nat_lit 10))), (nat_lit 7, (.ofNat (nat_lit 0)))]), (nat_lit 4, nat_lit 0, [(nat_lit 0, (.ofNat (nat_lit 0))), (nat_lit 0, (.ofNat (nat_lit 7)))]), (nat_lit 6, nat_lit 1, [(nat_lit 6, (.ofNat (nat_lit 0))), (nat_lit 0, (.ofNat (nat_lit 32)))]), (nat_lit 4, nat_lit 0, [(nat_lit 1, (.ofNat (nat_lit 0))), (nat_lit 5, (.ofNat (nat_lit 0)))]), (nat_lit 4, nat_lit 0, [(nat_lit 0, (.ofNat (nat_lit 0))), (nat_lit 0, (.ofNat (nat_lit 7)))]), (nat_lit 6, nat_lit 1, [(nat_lit 4, (.ofNat (nat_lit 0))), (nat_lit 0, (.ofNat (nat_lit 10)))]), (nat_lit 4, nat_lit 0, [(nat_lit 1, (.ofNat (nat_lit 0))), (nat_lit 3, (.ofNat (nat_lit 0)))]), (nat_lit 4, nat_lit 0, [(nat_lit 0, (.ofNat (nat_lit 0))), (nat_lit 0, (.ofNat (nat_lit 7)))]), (nat_lit 6, nat_lit 2, [(nat_lit 1, (.ofNat (nat_lit 0))), (nat_lit 2, (.ofNat (nat_lit 0)))]), (nat_lit 4, nat_lit 0, [(nat_lit 0, (.ofNat (nat_lit 0))), (nat_lit 0, (.ofNat (nat_lit 6)))]), (nat_lit 4, nat_lit 0, [(nat_lit 0, (.ofNat (nat_lit 0))), (nat_lit 0, (.ofNat (nat_lit 7)))])],
  [(nat_lit 13, nat_lit 1, [(nat_lit 12, (.ofNat (nat_lit 0)))]), (nat_lit 4, nat_lit 0, [(nat_lit 0, (.ofNat (nat_lit 0))), (nat_lit 0, (.ofNat (nat_lit 7)))]), (nat_lit 6, nat_lit 0, [(nat_lit 11, (.ofNat (nat_lit 0))), (nat_lit 0, (.ofNat (nat_lit 0)))]), (nat_lit 8, nat_lit 0, [(nat_lit 10, (.ofNat (nat_lit 0)))]), (nat_lit 4, nat_lit 0, [(nat_lit 0, (.ofNat (nat_lit 0))), (nat_lit 0, (.ofNat (nat_lit 7)))]), (nat_lit 6, nat_lit 1, [(nat_lit 8, (.ofNat (nat_lit 0))), (nat_lit 9, (.ofNat (nat_lit 0)))]), (nat_lit 4, nat_lit 0, [(nat_lit 0, (.ofNat (nat_lit 0))), (nat_lit 0, (.ofNat (nat_lit 6)))]), (nat_lit 4, nat_lit 0, [(nat_lit 0, (.ofNat (nat_lit 0))), (nat_lit 0, (.ofNat (nat_lit 7)))]), (nat_lit 5, nat_lit 0, [(nat_lit 0, (.ofNat (nat_lit 0))), (nat_lit 0, (.ofNat (nat_lit 10))), (nat_lit 7, (.ofNat (nat_lit 0)))]), (nat_lit 4, nat_lit 0, [(nat_lit 0, (.ofNat (nat_lit 0))), (nat_lit 0, (.ofNat (nat_lit 7)))]), (nat_lit 6, nat_lit 1, [(nat_lit 6, (.ofNat (nat_lit 0))), (nat_lit 0, (.ofNat (nat_lit 32)))]), (nat_lit 4, nat_lit 0, [(nat_lit 1, (.ofNat (nat_lit 0))), (nat_lit 5, (.ofNat (nat_lit 0)))]), (nat_lit 4, nat_lit 0, [(nat_lit 0, (.ofNat (nat_lit 0))), (nat_lit 0, (.ofNat (nat_lit 7)))]), (nat_lit 6, nat_lit 1, [(nat_lit 4, (.ofNat (nat_lit 0))), (nat_lit 0, (.ofNat (nat_lit 10)))]), (nat_lit 4, nat_lit 0, [(nat_lit 1, (.ofNat (nat_lit 0))), (nat_lit 3, (.ofNat (nat_lit 0)))]), (nat_lit 4, nat_lit 0, [(nat_lit 0, (.ofNat (nat_lit 0))), (nat_lit 0, (.ofNat (nat_lit 7)))]), (nat_lit 6, nat_lit 2, [(nat_lit 1, (.ofNat (nat_lit 0))), (nat_lit 2, (.ofNat (nat_lit 0)))]), (nat_lit 4, nat_lit 0, [(nat_lit 0, (.ofNat (nat_lit 0))), (nat_lit 0, (.ofNat (nat_lit 6)))]), (nat_lit 4, nat_lit 0, [(nat_lit 0, (.ofNat (nat_lit 0))), (nat_lit 0, (.ofNat (nat_lit 7)))])],
  [(nat_lit 13, nat_lit 4, []), (nat_lit 6, nat_lit 0, [(nat_lit 13, (.ofNat (nat_lit 0))), (nat_lit 0, (.ofNat (nat_lit 0)))]), (nat_lit 8, nat_lit 1, [(nat_lit 12, (.ofNat (nat_lit 0)))]), (nat_lit 4, nat_lit 0, [(nat_lit 0, (.ofNat (nat_lit 0))), (nat_lit 0, (.ofNat (nat_lit 7)))]), (nat_lit 6, nat_lit 0, [(nat_lit 11, (.ofNat (nat_lit 0))), (nat_lit 0, (.ofNat (nat_lit 0)))]), (nat_lit 8, nat_lit 0, [(nat_lit 10, (.ofNat (nat_lit 0)))]), (nat_lit 4, nat_lit 0, [(nat_lit 0, (.ofNat (nat_lit 0))), (nat_lit 0, (.ofNat (nat_lit 7)))]), (nat_lit 6, nat_lit 1, [(nat_lit 8, (.ofNat (nat_lit 0))), (nat_lit 9, (.ofNat (nat_lit 0)))]), (nat_lit 4, nat_lit 0, [(nat_lit 0, (.ofNat (nat_lit 0))), (nat_lit 0, (.ofNat (nat_lit 6)))]), (nat_lit 4, nat_lit 0, [(nat_lit 0, (.ofNat (nat_lit 0))), (nat_lit 0, (.ofNat (nat_lit 7)))]), (nat_lit 5, nat_lit 0, [(nat_lit 0, (.ofNat (nat_lit 0))), (nat_lit 0, (.ofNat (nat_lit 10))), (nat_lit 7, (.ofNat (nat_lit 0)))]), (nat_lit 4, nat_lit 0, [(nat_lit 0, (.ofNat (nat_lit 0))), (nat_lit 0, (.ofNat (nat_lit 7)))]), (nat_lit 6, nat_lit 1, [(nat_lit 6, (.ofNat (nat_lit 0))), (nat_lit 0, (.ofNat (nat_lit 32)))]), (nat_lit 4, nat_lit 0, [(nat_lit 1, (.ofNat (nat_lit 0))), (nat_lit 5, (.ofNat (nat_lit 0)))]), (nat_lit 4, nat_lit 0, [(nat_lit 0, (.ofNat (nat_lit 0))), (nat_lit 0, (.ofNat (nat_lit 7)))]), (nat_lit 6, nat_lit 1, [(nat_lit 4, (.ofNat (nat_lit 0))), (nat_lit 0, (.ofNat (nat_lit 10)))]), (nat_lit 4, nat_lit 0, [(nat_lit 1, (.ofNat (nat_lit 0))), (nat_lit 3, (.ofNat (nat_lit 0)))]), (nat_lit 4, nat_lit 0, [(nat_lit 0, (.ofNat (nat_lit 0))), (nat_lit 0, (.ofNat (nat_lit 7)))]), (nat_lit 6, nat_lit 2, [(nat_lit 1, (.ofNat (nat_lit 0))), (nat_lit 2, (.ofNat (nat_lit 0)))]), (nat_lit 4, nat_lit 0, [(nat_lit 0, (.ofNat (nat_lit 0))), (nat_lit 0, (.ofNat (nat_lit 6)))]), (nat_lit 4, nat_lit 0, [(nat_lit 0, (.ofNat (nat_lit 0))), (nat_lit 0, (.ofNat (nat_lit 7)))])],
  [(nat_lit 11, nat_lit 0, [(nat_lit 0, (.ofNat (nat_lit 0)))]), (nat_lit 8, nat_lit 4, []), (nat_lit 6, nat_lit 0, [(nat_lit 13, (.ofNat (nat_lit 0))), (nat_lit 0, (.ofNat (nat_lit 0)))]), (nat_lit 8, nat_lit 1, [(nat_lit 12, (.ofNat (nat_lit 0)))]), (nat_lit 4, nat_lit 0, [(nat_lit 0, (.ofNat (nat_lit 0))), (nat_lit 0, (.ofNat (nat_lit 7)))]), (nat_lit 6, nat_lit 0, [(nat_lit 11, (.ofNat (nat_lit 0))), (nat_lit 0, (.ofNat (nat_lit 0)))]), (nat_lit 8, nat_lit 0, [(nat_lit 10, (.ofNat (nat_lit 0)))]), (nat_lit 4, nat_lit 0, [(nat_lit 0, (.ofNat (nat_lit 0))), (nat_lit 0, (.ofNat (nat_lit 7)))]), (nat_lit 6, nat_lit 1, [(nat_lit 8, (.ofNat (nat_lit 0))), (nat_lit 9, (.ofNat (nat_lit 0)))]), (nat_lit 4, nat_lit 0, [(nat_lit 0, (.ofNat (nat_lit 0))), (nat_lit 0, (.ofNat (nat_lit 6)))]), (nat_lit 4, nat_lit 0, [(nat_lit 0, (.ofNat (nat_lit 0))), (nat_lit 0, (.ofNat (nat_lit 7)))]), (nat_lit 5, nat_lit 0, [(nat_lit 0, (.ofNat (nat_lit 0))), (nat_lit 0, (.ofNat (nat_lit 10))), (nat_lit 7, (.ofNat (nat_lit 0)))]), (nat_lit 4, nat_lit 0, [(nat_lit 0, (.ofNat (nat_lit 0))), (nat_lit 0, (.ofNat (nat_lit 7)))]), (nat_lit 6, nat_lit 1, [(nat_lit 6, (.ofNat (nat_lit 0))), (nat_lit 0, (.ofNat (nat_lit 32)))]), (nat_lit 4, nat_lit 0, [(nat_lit 1, (.ofNat (nat_lit 0))), (nat_lit 5, (.ofNat (nat_lit 0)))]), (nat_lit 4, nat_lit 0, [(nat_lit 0, (.ofNat (nat_lit 0))), (nat_lit 0, (.ofNat (nat_lit 7)))]), (nat_lit 6, nat_lit 1, [(nat_lit 4, (.ofNat (nat_lit 0))), (nat_lit 0, (.ofNat (nat_lit 10)))]), (nat_lit 4, nat_lit 0, [(nat_lit 1, (.ofNat (nat_lit 0))), (nat_lit 3, (.ofNat (nat_lit 0)))]), (nat_lit 4, nat_lit 0, [(nat_lit 0, (.ofNat (nat_lit 0))), (nat_lit 0, (.ofNat (nat_lit 7)))]), (nat_lit 6, nat_lit 2, [(nat_lit 1, (.ofNat (nat_lit 0))), (nat_lit 2, (.ofNat (nat_lit 0)))]), (nat_lit 4, nat_lit 0, [(nat_lit 0, (.ofNat (nat_lit 0))), (nat_lit 0, (.ofNat (nat_lit 6)))]), (nat_lit 4, nat_lit 0, [(nat_lit 0, (.ofNat (nat_lit 0))), (nat_lit 0, (.ofNat (nat_lit 7)))])],
  [(nat_lit 10, nat_lit 2, []), (nat_lit 5, nat_lit 0, [(nat_lit 0, (.ofNat (nat_lit 0))), (nat_lit 0, (.ofNat (nat_lit 9))), (nat_lit 0, (.ofNat (nat_lit 0)))]), (nat_lit 5, nat_lit 0, [(nat_lit 0, (.ofNat (nat_lit 0))), (nat_lit 0, (.ofNat (nat_lit 8))), (nat_lit 0, (.ofNat (nat_lit 3)))]), (nat_lit 6, nat_lit 1, [(nat_lit 13, (.ofNat (nat_lit 0))), (nat_lit 0, (.ofNat (nat_lit 0)))]), (nat_lit 8, nat_lit 1, [(nat_lit 12, (.ofNat (nat_lit 0)))]), (nat_lit 4, nat_lit 0, [(nat_lit 0, (.ofNat (nat_lit 0))), (nat_lit 0, (.ofNat (nat_lit 7)))]), (nat_lit 6, nat_lit 0, [(nat_lit 11, (.ofNat (nat_lit 0))), (nat_lit 0, (.ofNat (nat_lit 0)))]), (nat_lit 8, nat_lit 0, [(nat_lit 10, (.ofNat (nat_lit 0)))]), (nat_lit 4, nat_lit 0, [(nat_lit 0, (.ofNat (nat_lit 0))), (nat_lit 0, (.ofNat (nat_lit 7)))]), (nat_lit 6, nat_lit 1, [(nat_lit 8, (.ofNat (nat_lit 0))), (nat_lit 9, (.ofNat (nat_lit 0)))]), (nat_lit 4, nat_lit 0, [(nat_lit 0, (.ofNat (nat_lit 0))), (nat_lit 0, (.ofNat (nat_lit 6)))]), (nat_lit 4, nat_lit 0, [(nat_lit 0, (.ofNat (nat_lit 0))), (nat_lit 0, (.ofNat (nat_lit 7)))]), (nat_lit 5, nat_lit 0, [(nat_lit 0, (.ofNat (nat_lit 0))), (nat_lit 0, (.ofNat (nat_lit 10))), (nat_lit 7, (.ofNat (nat_lit 0)))]), (nat_lit 4, nat_lit 0, [(nat_lit 0, (.ofNat (nat_lit 0))), (nat_lit 0, (.ofNat (nat_lit 7)))]), (nat_lit 6, nat_lit 1, [(nat_lit 6, (.ofNat (nat_lit 0))), (nat_lit 0, (.ofNat (nat_lit 32)))]), (nat_lit 4, nat_lit 0, [(nat_lit 1, (.ofNat (nat_lit 0))), (nat_lit 5, (.ofNat (nat_lit 0)))]), (nat_lit 4, nat_lit 0, [(nat_lit 0, (.ofNat (nat_lit 0))), (nat_lit 0, (.ofNat (nat_lit 7)))]), (nat_lit 6, nat_lit 1, [(nat_lit 4, (.ofNat (nat_lit 0))), (nat_lit 0, (.ofNat (nat_lit 10)))]), (nat_lit 4, nat_lit 0, [(nat_lit 1, (.ofNat (nat_lit 0))), (nat_lit 3, (.ofNat (nat_lit 0)))]), (nat_lit 4, nat_lit 0, [(nat_lit 0, (.ofNat (nat_lit 0))), (nat_lit 0, (.ofNat (nat_lit 7)))]), (nat_lit 6, nat_lit 2, [(nat_lit 1, (.ofNat (nat_lit 0))), (nat_lit 2, (.ofNat (nat_lit 0)))]), (nat_lit 4, nat_lit 0, [(nat_lit 0, (.ofNat (nat_lit 0))), (nat_lit 0, (.ofNat (nat_lit 6)))]), (nat_lit 4, nat_lit 0, [(nat_lit 0, (.ofNat (nat_lit 0))), (nat_lit 0, (.ofNat (nat_lit 7)))])],
  [(nat_lit 10, nat_lit 1, []), (nat_lit 6, nat_lit 1, [(nat_lit 11, (.ofNat (nat_lit 0))), (nat_lit 0, (.ofNat (nat_lit 0)))]), (nat_lit 8, nat_lit 0, [(nat_lit 10, (.ofNat (nat_lit 0)))]), (nat_lit 4, nat_lit 0, [(nat_lit 0, (.ofNat (nat_lit 0))), (nat_lit 0, (.ofNat (nat_lit 7)))]), (nat_lit 6, nat_lit 1, [(nat_lit 8, (.ofNat (nat_lit 0))), (nat_lit 9, (.ofNat (nat_lit 0)))]), (nat_lit 4, nat_lit 0, [(nat_lit 0, (.ofNat (nat_lit 0))), (nat_lit 0, (.ofNat (nat_lit 6)))]), (nat_lit 4, nat_lit 0, [(nat_lit 0, (.ofNat (nat_lit 0))), (nat_lit 0, (.ofNat (nat_lit 7)))]), (nat_lit 5, nat_lit 0, [(nat_lit 0, (.ofNat (nat_lit 0))), (nat_lit 0, (.ofNat (nat_lit 10))), (nat_lit 7, (.ofNat (nat_lit 0)))]), (nat_lit 4, nat_lit 0, [(nat_lit 0, (.ofNat (nat_lit 0))), (nat_lit 0, (.ofNat (nat_lit 7)))]), (nat_lit 6, nat_lit 1, [(nat_lit 6, (.ofNat (nat_lit 0))), (nat_lit 0, (.ofNat (nat_lit 32)))]), (nat_lit 4, nat_lit 0, [(nat_lit 1, (.ofNat (nat_lit 0))), (nat_lit 5, (.ofNat (nat_lit 0)))]), (nat_lit 4, nat_lit 0, [(nat_lit 0, (.ofNat (nat_lit 0))), (nat_lit 0, (.ofNat (nat_lit 7)))]), (nat_lit 6, nat_lit 1, [(nat_lit 4, (.ofNat (nat_lit 0))), (nat_lit 0, (.ofNat (nat_lit 10)))]), (nat_lit 4, nat_lit 0, [(nat_lit 1, (.ofNat (nat_lit 0))), (nat_lit 3, (.ofNat (nat_lit 0)))]), (nat_lit 4, nat_lit 0, [(nat_lit 0, (.ofNat (nat_lit 0))), (nat_lit 0, (.ofNat (nat_lit 7)))]), (nat_lit 6, nat_lit 2, [(nat_lit 1, (.ofNat (nat_lit 0))), (nat_lit 2, (.ofNat (nat_lit 0)))]), (nat_lit 4, nat_lit 0, [(nat_lit 0, (.ofNat (nat_lit 0))), (nat_lit 0, (.ofNat (nat_lit 6)))]), (nat_lit 4, nat_lit 0, [(nat_lit 0, (.ofNat (nat_lit 0))), (nat_lit 0, (.ofNat (nat_lit 7)))])],
  [(nat_lit 10, nat_lit 0, []), (nat_lit 5, nat_lit 0, [(nat_lit 0, (.ofNat (nat_lit 0))), (nat_lit 0, (.ofNat (nat_lit 7))), (nat_lit 8, (.ofNat (nat_lit 0)))]), (nat_lit 0, nat_lit 1, [(nat_lit 7, (.ofNat (nat_lit 0))), (nat_lit 0, (.ofNat (nat_lit 1)))]), (nat_lit 4, nat_lit 0, [(nat_lit 0, (.ofNat (nat_lit 0))), (nat_lit 0, (.ofNat (nat_lit 7)))]), (nat_lit 6, nat_lit 0, [(nat_lit 6, (.ofNat (nat_lit 0))), (nat_lit 0, (.ofNat (nat_lit 32)))]), (nat_lit 4, nat_lit 0, [(nat_lit 1, (.ofNat (nat_lit 0))), (nat_lit 5, (.ofNat (nat_lit 0)))]), (nat_lit 4, nat_lit 0, [(nat_lit 0, (.ofNat (nat_lit 0))), (nat_lit 0, (.ofNat (nat_lit 7)))]), (nat_lit 6, nat_lit 1, [(nat_lit 4, (.ofNat (nat_lit 0))), (nat_lit 0, (.ofNat (nat_lit 10)))]), (nat_lit 4, nat_lit 0, [(nat_lit 1, (.ofNat (nat_lit 0))), (nat_lit 3, (.ofNat (nat_lit 0)))]), (nat_lit 4, nat_lit 0, [(nat_lit 0, (.ofNat (nat_lit 0))), (nat_lit 0, (.ofNat (nat_lit 7)))]), (nat_lit 6, nat_lit 2, [(nat_lit 1, (.ofNat (nat_lit 0))), (nat_lit 2, (.ofNat (nat_lit 0)))]), (nat_lit 4, nat_lit 0, [(nat_lit 0, (.ofNat (nat_lit 0))), (nat_lit 0, (.ofNat (nat_lit 6)))]), (nat_lit 4, nat_lit 0, [(nat_lit 0, (.ofNat (nat_lit 0))), (nat_lit 0, (.ofNat (nat_lit 7)))])]]
def zFke_token_0 : List (List zK) := [[(nat_lit 13, nat_lit 4, []), (nat_lit 6, nat_lit 0, [(nat_lit 9, (.ofNat (nat_lit 0))), (nat_lit 0, (.ofNat (nat_lit 0)))]), (nat_lit 8, nat_lit 1, [(nat_lit 8, (.ofNat (nat_lit 0)))]), (nat_lit 4, nat_lit 0, [(nat_lit 0, (.ofNat (nat_lit 0))), (nat_lit 0, (.ofNat (nat_lit 7)))]), (nat_lit 6, nat_lit 0, [(nat_lit 7, (.ofNat (nat_lit 0))), (nat_lit 0, (.ofNat (nat_lit 0)))]), (nat_lit 8, nat_lit 0, [(nat_lit 6, (.ofNat (nat_lit 0)))]), (nat_lit 4, nat_lit 0, [(nat_lit 0, (.ofNat (nat_lit 0))), (nat_lit 0, (.ofNat (nat_lit 7)))]), (nat_lit 6, nat_lit 1, [(nat_lit 4, (.ofNat (nat_lit 0))), (nat_lit 5, (.ofNat (nat_lit 0)))]), (nat_lit 4, nat_lit 0, [(nat_lit 0, (.ofNat (nat_lit 0))), (nat_lit 0, (.ofNat (nat_lit 6)))]), (nat_lit 4, nat_lit 0, [(nat_lit 0, (.ofNat (nat_lit 0))), (nat_lit 0, (.ofNat (nat_lit 7)))]), (nat_lit 5, nat_lit 0, [(nat_lit 0, (.ofNat (nat_lit 0))), (nat_lit 0, (.ofNat (nat_lit 10))), (nat_lit 3, (.ofNat (nat_lit 0)))]), (nat_lit 4, nat_lit 0, [(nat_lit 0, (.ofNat (nat_lit 0))), (nat_lit 0, (.ofNat (nat_lit 7)))]), (nat_lit 6, nat_lit 3, [(nat_lit 1, (.ofNat (nat_lit 0))), (nat_lit 2, (.ofNat (nat_lit 0)))]), (nat_lit 4, nat_lit 0, [(nat_lit 0, (.ofNat (nat_lit 0))), (nat_lit 0, (.ofNat (nat_lit 6)))]), (nat_lit 4, nat_lit 0, [(nat_lit 0, (.ofNat (nat_lit 0))), (nat_lit 0, (.ofNat (nat_lit 7)))])]]
def zDke_token_1 : List (List zK) := [[(nat_lit 7, nat_lit 3, []), (nat_lit 6, nat_lit 1, [(nat_lit 10, (.ofNat (nat_lit 0))), (nat_lit 0, (.ofNat (nat_lit 2)))]), (nat_lit 4, nat_lit 0, [(nat_lit 0, (.ofNat (nat_lit 0))), (nat_lit 0, (.ofNat (nat_lit 8)))]), (nat_lit 5, nat_lit 0, [(nat_lit 0, (.ofNat (nat_lit 0))), (nat_lit 0, (.ofNat (nat_lit 8))), (nat_lit 0, (.ofNat (nat_lit 2)))]), (nat_lit 6, nat_lit 5, [(nat_lit 9, (.ofNat (nat_lit 0))), (nat_lit 0, (.ofNat (nat_lit 6)))]), (nat_lit 0, nat_lit 2, [(nat_lit 7, (.ofNat (nat_lit 0))), (nat_lit 8, (.ofNat (nat_lit 0)))]), (nat_lit 4, nat_lit 0, [(nat_lit 0, (.ofNat (nat_lit 0))), (nat_lit 0, (.ofNat (nat_lit 10)))]), (nat_lit 4, nat_lit 0, [(nat_lit 0, (.ofNat (nat_lit 0))), (nat_lit 0, (.ofNat (nat_lit 7)))]), (nat_lit 6, nat_lit 2, [(nat_lit 6, (.ofNat (nat_lit 0))), (nat_lit 0, (.ofNat (nat_lit 0)))]), (nat_lit 4, nat_lit 0, [(nat_lit 0, (.ofNat (nat_lit 0))), (nat_lit 0, (.ofNat (nat_lit 9)))]), (nat_lit 5, nat_lit 0, [(nat_lit 0, (.ofNat (nat_lit 0))), (nat_lit 0, (.ofNat (nat_lit 9))), (nat_lit 5, (.ofNat (nat_lit 0)))]), (nat_lit 8, nat_lit 2, [(nat_lit 3, (.ofNat (nat_lit 0))), (nat_lit 4, (.ofNat (nat_lit 0)))]), (nat_lit 4, nat_lit 0, [(nat_lit 0, (.ofNat (nat_lit 0))), (nat_lit 0, (.ofNat (nat_lit 7)))]), (nat_lit 4, nat_lit 0, [(nat_lit 0, (.ofNat (nat_lit 0))), (nat_lit 0, (.ofNat (nat_lit 10)))]), (nat_lit 6, nat_lit 0, [(nat_lit 2, (.ofNat (nat_lit 0))), (nat_lit 0, (.ofNat (nat_lit 0)))]), (nat_lit 8, nat_lit 0, [(nat_lit 1, (.ofNat (nat_lit 0)))]), (nat_lit 4, nat_lit 0, [(nat_lit 0, (.ofNat (nat_lit 0))), (nat_lit 0, (.ofNat (nat_lit 7)))])],
  [(nat_lit 7, nat_lit 3, []), (nat_lit 6, nat_lit 0, [(nat_lit 10, (.ofNat (nat_lit 0))), (nat_lit 0, (.ofNat (nat_lit 2)))]), (nat_lit 4, nat_lit 0, [(nat_lit 0, (.ofNat (nat_lit 0))), (nat_lit 0, (.ofNat (nat_lit 8)))]), (nat_lit 5, nat_lit 0, [(nat_lit 0, (.ofNat (nat_lit 0))), (nat_lit 0, (.ofNat (nat_lit 8))), (nat_lit 0, (.ofNat (nat_lit 6)))]), (nat_lit 6, nat_lit 4, [(nat_lit 9, (.ofNat (nat_lit 0))), (nat_lit 0, (.ofNat (nat_lit 6)))]), (nat_lit 0, nat_lit 2, [(nat_lit 7, (.ofNat (nat_lit 0))), (nat_lit 8, (.ofNat (nat_lit 0)))]), (nat_lit 4, nat_lit 0, [(nat_lit 0, (.ofNat (nat_lit 0))), (nat_lit 0, (.ofNat (nat_lit 10)))]), (nat_lit 4, nat_lit 0, [(nat_lit 0, (.ofNat (nat_lit 0))), (nat_lit 0, (.ofNat (nat_lit 7)))]), (nat_lit 6, nat_lit 2, [(nat_lit 6, (.ofNat (nat_lit 0))), (nat_lit 0, (.ofNat (nat_lit 0)))]), (nat_lit 4, nat_lit 0, [(nat_lit 0, (.ofNat (nat_lit 0))), (nat_lit 0, (.ofNat (nat_lit 9)))]), (nat_lit 5, nat_lit 0, [(nat_lit 0, (.ofNat (nat_lit 0))), (nat_lit 0, (.ofNat (nat_lit 9))), (nat_lit 5, (.ofNat (nat_lit 0)))]), (nat_lit 8, nat_lit 2, [(nat_lit 3, (.ofNat (nat_lit 0))), (nat_lit 4, (.ofNat (nat_lit 0)))]), (nat_lit 4, nat_lit 0, [(nat_lit 0, (.ofNat (nat_lit 0))), (nat_lit 0, (.ofNat (nat_lit 7)))]), (nat_lit 4, nat_lit 0, [(nat_lit 0, (.ofNat (nat_lit 0))), (nat_lit 0, (.ofNat (nat_lit 10)))]), (nat_lit 6, nat_lit 0, [(nat_lit 2, (.ofNat (nat_lit 0))), (nat_lit 0, (.ofNat (nat_lit 0)))]), (nat_lit 8, nat_lit 0, [(nat_lit 1, (.ofNat (nat_lit 0)))]), (nat_lit 4, nat_lit 0, [(nat_lit 0, (.ofNat (nat_lit 0))), (nat_lit 0, (.ofNat (nat_lit 7)))])],
  [(nat_lit 7, nat_lit 3, []), (nat_lit 6, nat_lit 0, [(nat_lit 7, (.ofNat (nat_lit 0))), (nat_lit 0, (.ofNat (nat_lit 2)))]), (nat_lit 4, nat_lit 0, [(nat_lit 0, (.ofNat (nat_lit 0))), (nat_lit 0, (.ofNat (nat_lit 8)))]), (nat_lit 5, nat_lit 0, [(nat_lit 0, (.ofNat (nat_lit 0))), (nat_lit 0, (.ofNat (nat_lit 8))), (nat_lit 0, (.ofNat (nat_lit 1)))]), (nat_lit 6, nat_lit 3, [(nat_lit 6, (.ofNat (nat_lit 0))), (nat_lit 0, (.ofNat (nat_lit 0)))]), (nat_lit 4, nat_lit 0, [(nat_lit 0, (.ofNat (nat_lit 0))), (nat_lit 0, (.ofNat (nat_lit 9)))]), (nat_lit 5, nat_lit 0, [(nat_lit 0, (.ofNat (nat_lit 0))), (nat_lit 0, (.ofNat (nat_lit 9))), (nat_lit 5, (.ofNat (nat_lit 0)))]), (nat_lit 8, nat_lit 2, [(nat_lit 3, (.ofNat (nat_lit 0))), (nat_lit 4, (.ofNat (nat_lit 0)))]), (nat_lit 4, nat_lit 0, [(nat_lit 0, (.ofNat (nat_lit 0))), (nat_lit 0, (.ofNat (nat_lit 7)))]), (nat_lit 4, nat_lit 0, [(nat_lit 0, (.ofNat (nat_lit 0))), (nat_lit 0, (.ofNat (nat_lit 10)))]), (nat_lit 6, nat_lit 0, [(nat_lit 2, (.ofNat (nat_lit 0))), (nat_lit 0, (.ofNat (nat_lit 0)))]), (nat_lit 8, nat_lit 0, [(nat_lit 1, (.ofNat (nat_lit 0)))]), (nat_lit 4, nat_lit 0, [(nat_lit 0, (.ofNat (nat_lit 0))), (nat_lit 0, (.ofNat (nat_lit 7)))])]]
def zEke_token_1 : List (List zK) := [[(nat_lit 13, nat_lit 0, [(nat_lit 1, (.ofNat (nat_lit 0)))]), (nat_lit 4, nat_lit 0, [(nat_lit 0, (.ofNat (nat_lit 0))), (nat_lit 0, (.ofNat (nat_lit 7)))])],
  [(nat_lit 13, nat_lit 2, [(nat_lit 3, (.ofNat (nat_lit 0))), (nat_lit 4, (.ofNat (nat_lit 0)))]), (nat_lit 4, nat_lit 0, [(nat_lit 0, (.ofNat (nat_lit 0))), (nat_lit 0, (.ofNat (nat_lit 7)))]), (nat_lit 4, nat_lit 0, [(nat_lit 0, (.ofNat (nat_lit 0))), (nat_lit 0, (.ofNat (nat_lit 10)))]), (nat_lit 6, nat_lit 0, [(nat_lit 2, (.ofNat (nat_lit 0))), (nat_lit 0, (.ofNat (nat_lit 0)))]), (nat_lit 8, nat_lit 0, [(nat_lit 1, (.ofNat (nat_lit 0)))]), (nat_lit 4, nat_lit 0, [(nat_lit 0, (.ofNat (nat_lit 0))), (nat_lit 0, (.ofNat (nat_lit 7)))])],
  [(nat_lit 13, nat_lit 3, [(nat_lit 11, (.ofNat (nat_lit 0))), (nat_lit 12, (.ofNat (nat_lit 0)))]), (nat_lit 4, nat_lit 0, [(nat_lit 0, (.ofNat (nat_lit 0))), (nat_lit 0, (.ofNat (nat_lit 7)))]), (nat_lit 4, nat_lit 0, [(nat_lit 0, (.ofNat (nat_lit 0))), (nat_lit 0, (.ofNat (nat_lit 10)))]), (nat_lit 6, nat_lit 0, [(nat_lit 10, (.ofNat (nat_lit 0))), (nat_lit 0, (.ofNat (nat_lit 2)))]), (nat_lit 4, nat_lit 0, [(nat_lit 0, (.ofNat (nat_lit 0))), (nat_lit 0, (.ofNat (nat_lit 8)))]), (nat_lit 5, nat_lit 0, [(nat_lit 0, (.ofNat (nat_lit 0))), (nat_lit 0, (.ofNat (nat_lit 8))), (nat_lit 0, (.ofNat (nat_lit 2)))]), (nat_lit 6, nat_lit 5, [(nat_lit 9, (.ofNat (nat_lit 0))), (nat_lit 0, (.ofNat (nat_lit 6)))]), (nat_lit 0, nat_lit 2, [(nat_lit 7, (.ofNat (nat_lit 0))), (nat_lit 8, (.ofNat (nat_lit 0)))]), (nat_lit 4, nat_lit 0, [(nat_lit 0, (.ofNat (nat_lit 0))), (nat_lit 0, (.ofNat (nat_lit 10)))]), (nat_lit 4, nat_lit 0, [(nat_lit 0, (.ofNat (nat_lit 0))), (nat_lit 0, (.ofNat (nat_lit 7)))]), (nat_lit 6, nat_lit 2, [(nat_lit 6, (.ofNat (nat_lit 0))), (nat_lit 0, (.ofNat (nat_lit 0)))]), (nat_lit 4, nat_lit 0, [(nat_lit 0, (.ofNat (nat_lit 0))), (nat_lit 0, (.ofNat (nat_lit 9)))]), (nat_lit 5, nat_lit 0, [(nat_lit 0, (.ofNat (nat_lit 0))), (nat_lit 0, (.ofNat (nat_lit 9))), (nat_lit 5, (.ofNat (nat_lit 0)))]), (nat_lit 8, nat_lit 2, [(nat_lit 3, (.ofNat (nat_lit 0))), (nat_lit 4, (.ofNat (nat_lit 0)))]), (nat_lit 4, nat_lit 0, [(nat_lit 0, (.ofNat (nat_lit 0))), (nat_lit 0, (.ofNat (nat_lit 7)))]), (nat_lit 4, nat_lit 0, [(nat_lit 0, (.ofNat (nat_lit 0))), (nat_lit 0, (.ofNat (nat_lit 10)))]), (nat_lit 6, nat_lit 0, [(nat_lit 2, (.ofNat (nat_lit 0))), (nat_lit 0, (.ofNat (nat_lit 0)))]), (nat_lit 8, nat_lit 0, [(nat_lit 1, (.ofNat (nat_lit 0)))]), (nat_lit 4, nat_lit 0, [(nat_lit 0, (.ofNat (nat_lit 0))), (nat_lit 0, (.ofNat (nat_lit 7)))])],
  [(nat_lit 11, nat_lit 0, [(nat_lit 0, (.ofNat (nat_lit 0)))]), (nat_lit 5, nat_lit 0, [(nat_lit 0, (.ofNat (nat_lit 0))), (nat_lit 0, (.ofNat (nat_lit 9))), (nat_lit 13, (.ofNat (nat_lit 0)))]), (nat_lit 8, nat_lit 3, [(nat_lit 11, (.ofNat (nat_lit 0))), (nat_lit 12, (.ofNat (nat_lit 0)))]), (nat_lit 4, nat_lit 0, [(nat_lit 0, (.ofNat (nat_lit 0))), (nat_lit 0, (.ofNat (nat_lit 7)))]), (nat_lit 4, nat_lit 0, [(nat_lit 0, (.ofNat (nat_lit 0))), (nat_lit 0, (.ofNat (nat_lit 10)))]), (nat_lit 6, nat_lit 0, [(nat_lit 10, (.ofNat (nat_lit 0))), (nat_lit 0, (.ofNat (nat_lit 2)))]), (nat_lit 4, nat_lit 0, [(nat_lit 0, (.ofNat (nat_lit 0))), (nat_lit 0, (.ofNat (nat_lit 8)))]), (nat_lit 5, nat_lit 0, [(nat_lit 0, (.ofNat (nat_lit 0))), (nat_lit 0, (.ofNat (nat_lit 8))), (nat_lit 0, (.ofNat (nat_lit 2)))]), (nat_lit 6, nat_lit 5, [(nat_lit 9, (.ofNat (nat_lit 0))), (nat_lit 0, (.ofNat (nat_lit 6)))]), (nat_lit 0, nat_lit 2, [(nat_lit 7, (.ofNat (nat_lit 0))), (nat_lit 8, (.ofNat (nat_lit 0)))]), (nat_lit 4, nat_lit 0, [(nat_lit 0, (.ofNat (nat_lit 0))), (nat_lit 0, (.ofNat (nat_lit 10)))]), (nat_lit 4, nat_lit 0, [(nat_lit 0, (.ofNat (nat_lit 0))), (nat_lit 0, (.ofNat (nat_lit 7)))]), (nat_lit 6, nat_lit 2, [(nat_lit 6, (.ofNat (nat_lit 0))), (nat_lit 0, (.ofNat (nat_lit 0)))]), (nat_lit 4, nat_lit 0, [(nat_lit 0, (.ofNat (nat_lit 0))), (nat_lit 0, (.ofNat (nat_lit 9)))]), (nat_lit 5, nat_lit 0, [(nat_lit 0, (.ofNat (nat_lit 0))), (nat_lit 0, (.ofNat (nat_lit 9))), (nat_lit 5, (.ofNat (nat_lit 0)))]), (nat_lit 8, nat_lit 2, [(nat_lit 3, (.ofNat (nat_lit 0))), (nat_lit 4, (.ofNat (nat_lit 0)))]), (nat_lit 4, nat_lit 0, [(nat_lit 0, (.ofNat (nat_lit 0))), (nat_lit 0, (.ofNat (nat_lit 7)))]), (nat_lit 4, nat_lit 0, [(nat_lit 0, (.ofNat (nat_lit 0))), (nat_lit 0, (.ofNat (nat_lit 10)))]), (nat_lit 6, nat_lit 0, [(nat_lit 2, (.ofNat (nat_lit 0))), (nat_lit 0, (.ofNat (nat_lit 0)))]), (nat_lit 8, nat_lit 0, [(nat_lit 1, (.ofNat (nat_lit 0)))]), (nat_lit 4, nat_lit 0, [(nat_lit 0, (.ofNat (nat_lit 0))), (nat_lit 0, (.ofNat (nat_lit 7)))])],
  [(nat_lit 11, nat_lit 0, [(nat_lit 0, (.ofNat (nat_lit 0)))]), (nat_lit 6, nat_lit 1, [(nat_lit 10, (.ofNat (nat_lit 0))), (nat_lit 0, (.ofNat (nat_lit 2)))]), (nat_lit 4, nat_lit 0, [(nat_lit 0, (.ofNat (nat_lit 0))), (nat_lit 0, (.ofNat (nat_lit 8)))]), (nat_lit 5, nat_lit 0, [(nat_lit 0, (.ofNat (nat_lit 0))), (nat_lit 0, (.ofNat (nat_lit 8))), (nat_lit 0, (.ofNat (nat_lit 6)))]), (nat_lit 6, nat_lit 4, [(nat_lit 9, (.ofNat (nat_lit 0))), (nat_lit 0, (.ofNat (nat_lit 6)))]), (nat_lit 0, nat_lit 2, [(nat_lit 7, (.ofNat (nat_lit 0))), (nat_lit 8, (.ofNat (nat_lit 0)))]), (nat_lit 4, nat_lit 0, [(nat_lit 0, (.ofNat (nat_lit 0))), (nat_lit 0, (.ofNat (nat_lit 10)))]), (nat_lit 4, nat_lit 0, [(nat_lit 0, (.ofNat (nat_lit 0))), (nat_lit 0, (.ofNat (nat_lit 7)))]), (nat_lit 6, nat_lit 2, [(nat_lit 6, (.ofNat (nat_lit 0))), (nat_lit 0, (.ofNat (nat_lit 0)))]), (nat_lit 4, nat_lit 0, [(nat_lit 0, (.ofNat (nat_lit 0))), (nat_lit 0, (.ofNat (nat_lit 9)))]), (nat_lit 5, nat_lit 0, [(nat_lit 0, (.ofNat (nat_lit 0))), (nat_lit 0, (.ofNat (nat_lit 9))), (nat_lit 5, (.ofNat (nat_lit 0)))]), (nat_lit 8, nat_lit 2, [(nat_lit 3, (.ofNat (nat_lit 0))), (nat_lit 4, (.ofNat (nat_lit 0)))]), (nat_lit 4, nat_lit 0, [(nat_lit 0, (.ofNat (nat_lit 0))), (nat_lit 0, (.ofNat (nat_lit 7)))]), (nat_lit 4, nat_lit 0, [(nat_lit 0, (.ofNat (nat_lit 0))), (nat_lit 0, (.ofNat (nat_lit 10)))]), (nat_lit 6, nat_lit 0, [(nat_lit 2, (.ofNat (nat_lit 0))), (nat_lit 0, (.ofNat (nat_lit 0)))]), (nat_lit 8, nat_lit 0, [(nat_lit 1, (.ofNat (nat_lit 0)))]), (nat_lit 4, nat_lit 0, [(nat_lit 0, (.ofNat (nat_lit 0))), (nat_lit 0, (.ofNat (nat_lit 7)))])],
  [(nat_lit 11, nat_lit 0, [(nat_lit 0, (.ofNat (nat_lit 0)))]), (nat_lit 6, nat_lit 1, [(nat_lit 7, (.ofNat (nat_lit 0))), (nat_lit 0, (.ofNat (nat_lit 2)))]), (nat_lit 4, nat_lit 0, [(nat_lit 0, (.ofNat (nat_lit 0))), (nat_lit 0, (.ofNat (nat_lit 8)))]), (nat_lit 5, nat_lit 0, [(nat_lit 0, (.ofNat (nat_lit 0))), (nat_lit 0, (.ofNat (nat_lit 8))), (nat_lit 0, (.ofNat (nat_lit 1)))]), (nat_lit 6, nat_lit 3, [(nat_lit 6, (.ofNat (nat_lit 0))), (nat_lit 0, (.ofNat (nat_lit 0)))]), (nat_lit 4, nat_lit 0, [(nat_lit 0, (.ofNat (nat_lit 0))), (nat_lit 0, (.ofNat (nat_lit 9)))]), (nat_lit 5, nat_lit 0, [(nat_lit 0, (.ofNat (nat_lit 0))), (nat_lit 0, (.ofNat (nat_lit 9))), (nat_lit 5, (.ofNat (nat_lit 0)))]), (nat_lit 8, nat_lit 2, [(nat_lit 3, (.ofNat (nat_lit 0))), (nat_lit 4, (.ofNat (nat_lit 0)))]), (nat_lit 4, nat_lit 0, [(nat_lit 0, (.ofNat (nat_lit 0))), (nat_lit 0, (.ofNat (nat_lit 7)))]), (nat_lit 4, nat_lit 0, [(nat_lit 0, (.ofNat (nat_lit 0))), (nat_lit 0, (.ofNat (nat_lit 10)))]), (nat_lit 6, nat_lit 0, [(nat_lit 2, (.ofNat (nat_lit 0))), (nat_lit 0, (.ofNat (nat_lit 0)))]), (nat_lit 8, nat_lit 0, [(nat_lit 1, (.ofNat (nat_lit 0)))]), (nat_lit 4, nat_lit 0, [(nat_lit 0, (.ofNat (nat_lit 0))), (nat_lit 0, (.ofNat (nat_lit 7)))])],
  [(nat_lit 10, nat_lit 1, []), (nat_lit 5, nat_lit 0, [(nat_lit 0, (.ofNat (nat_lit 0))), (nat_lit 0, (.ofNat (nat_lit 7))), (nat_lit 4, (.ofNat (nat_lit 0)))]), (nat_lit 0, nat_lit 1, [(nat_lit 3, (.ofNat (nat_lit 0))), (nat_lit 0, (.ofNat (nat_lit 1)))]), (nat_lit 4, nat_lit 0, [(nat_lit 0, (.ofNat (nat_lit 0))), (nat_lit 0, (.ofNat (nat_lit 7)))]), (nat_lit 6, nat_lit 1, [(nat_lit 2, (.ofNat (nat_lit 0))), (nat_lit 0, (.ofNat (nat_lit 0)))]), (nat_lit 8, nat_lit 0, [(nat_lit 1, (.ofNat (nat_lit 0)))]), (nat_lit 4, nat_lit 0, [(nat_lit 0, (.ofNat (nat_lit 0))), (nat_lit 0, (.ofNat (nat_lit 7)))])]]
def zFke_token_1 : List (List zK) := []
def zDke_token_2 : List (List zK) := [[(nat_lit 7, nat_lit 0, [(nat_lit 6, (.ofNat (nat_lit 0))), (nat_lit 0, (.ofNat (nat_lit 700)))]), (nat_lit 4, nat_lit 0, [(nat_lit 0, (.ofNat (nat_lit 0))), (nat_lit 0, (.ofNat (nat_lit 7)))]), (nat_lit 0, nat_lit 3, [(nat_lit 0, (.ofNat (nat_lit 10))), (nat_lit 4, (.ofNat (nat_lit 0)))]), (nat_lit 4, nat_lit 0, [(nat_lit 0, (.ofNat (nat_lit 0))), (nat_lit 0, (.ofNat (nat_lit 9)))]), (nat_lit 6, nat_lit 5, [(nat_lit 3, (.ofNat (nat_lit 0))), (nat_lit 0, (.ofNat (nat_lit 99999)))]), (nat_lit 4, nat_lit 0, [(nat_lit 0, (.ofNat (nat_lit 0))), (nat_lit 0, (.ofNat (nat_lit 9)))]), (nat_lit 6, nat_lit 1, [(nat_lit 2, (.ofNat (nat_lit 0))), (nat_lit 0, (.ofNat (nat_lit 0)))]), (nat_lit 8, nat_lit 1, [(nat_lit 1, (.ofNat (nat_lit 0)))]), (nat_lit 4, nat_lit 0, [(nat_lit 0, (.ofNat (nat_lit 0))), (nat_lit 0, (.ofNat (nat_lit 7)))])]]
def zEke_token_2 : List (List zK) := [[(nat_lit 13, nat_lit 1, [(nat_lit 1, (.ofNat (nat_lit 0)))]), (nat_lit 4, nat_lit 0, [(nat_lit 0, (.ofNat (nat_lit 0))), (nat_lit 0, (.ofNat (nat_lit 7)))])],
  [(nat_lit 11, nat_lit 0, [(nat_lit 0, (.ofNat (nat_lit 0)))]), (nat_lit 6, nat_lit 0, [(nat_lit 2, (.ofNat (nat_lit 0))), (nat_lit 0, (.ofNat (nat_lit 0)))]), (nat_lit 8, nat_lit 1, [(nat_lit 1, (.ofNat (nat_lit 0)))]), (nat_lit 4, nat_lit 0, [(nat_lit 0, (.ofNat (nat_lit 0))), (nat_lit 0, (.ofNat (nat_lit 7)))])],
  [(nat_lit 10, nat_lit 2, []), (nat_lit 5, nat_lit 0, [(nat_lit 0, (.ofNat (nat_lit 0))), (nat_lit 0, (.ofNat (nat_lit 7))), (nat_lit 11, (.ofNat (nat_lit 0)))]), (nat_lit 0, nat_lit 1, [(nat_lit 10, (.ofNat (nat_lit 0))), (nat_lit 0, (.ofNat (nat_lit 1)))]), (nat_lit 4, nat_lit 0, [(nat_lit 0, (.ofNat (nat_lit 0))), (nat_lit 0, (.ofNat (nat_lit 7)))]), (nat_lit 5, nat_lit 0, [(nat_lit 0, (.ofNat (nat_lit 0))), (nat_lit 0, (.ofNat (nat_lit 9))), (nat_lit 9, (.ofNat (nat_lit 0)))]), (nat_lit 0, nat_lit 2, [(nat_lit 8, (.ofNat (nat_lit 0))), (nat_lit 0, (.ofNat (nat_lit 48)))]), (nat_lit 0, nat_lit 1, [(nat_lit 5, (.ofNat (nat_lit 0))), (nat_lit 7, (.ofNat (nat_lit 0)))]), (nat_lit 4, nat_lit 0, [(nat_lit 1, (.ofNat (nat_lit 0))), (nat_lit 6, (.ofNat (nat_lit 0)))]), (nat_lit 4, nat_lit 0, [(nat_lit 0, (.ofNat (nat_lit 0))), (nat_lit 0, (.ofNat (nat_lit 7)))]), (nat_lit 0, nat_lit 3, [(nat_lit 0, (.ofNat (nat_lit 10))), (nat_lit 4, (.ofNat (nat_lit 0)))]), (nat_lit 4, nat_lit 0, [(nat_lit 0, (.ofNat (nat_lit 0))), (nat_lit 0, (.ofNat (nat_lit 9)))]), (nat_lit 6, nat_lit 5, [(nat_lit 3, (.ofNat (nat_lit 0))), (nat_lit 0, (.ofNat (nat_lit 99999)))]), (nat_lit 4, nat_lit 0, [(nat_lit 0, (.ofNat (nat_lit 0))), (nat_lit 0, (.ofNat (nat_lit 9)))]), (nat_lit 6, nat_lit 1, [(nat_lit 2, (.ofNat (nat_lit 0))), (nat_lit 0, (.ofNat (nat_lit 0)))]), (nat_lit 8, nat_lit 1, [(nat_lit 1, (.ofNat (nat_lit 0)))]), (nat_lit 4, nat_lit 0, [(nat_lit 0, (.ofNat (nat_lit 0))), (nat_lit 0, (.ofNat (nat_lit 7)))])],
  [(nat_lit 10, nat_lit 2, []), (nat_lit 5, nat_lit 0, [(nat_lit 0, (.ofNat (nat_lit 0))), (nat_lit 0, (.ofNat (nat_lit 7))), (nat_lit 6, (.ofNat (nat_lit 0)))]), (nat_lit 0, nat_lit 1, [(nat_lit 5, (.ofNat (nat_lit 0))), (nat_lit 0, (.ofNat (nat_lit 1)))]), (nat_lit 4, nat_lit 0, [(nat_lit 0, (.ofNat (nat_lit 0))), (nat_lit 0, (.ofNat (nat_lit 7)))]), (nat_lit 5, nat_lit 0, [(nat_lit 0, (.ofNat (nat_lit 0))), (nat_lit 0, (.ofNat (nat_lit 9))), (nat_lit 4, (.ofNat (nat_lit 0)))]), (nat_lit 4, nat_lit 0, [(nat_lit 0, (.ofNat (nat_lit 0))), (nat_lit 0, (.ofNat (nat_lit 9)))]), (nat_lit 6, nat_lit 4, [(nat_lit 3, (.ofNat (nat_lit 0))), (nat_lit 0, (.ofNat (nat_lit 99999)))]), (nat_lit 4, nat_lit 0, [(nat_lit 0, (.ofNat (nat_lit 0))), (nat_lit 0, (.ofNat (nat_lit 9)))]), (nat_lit 6, nat_lit 1, [(nat_lit 2, (.ofNat (nat_lit 0))), (nat_lit 0, (.ofNat (nat_lit 0)))]), (nat_lit 8, nat_lit 1, [(nat_lit 1, (.ofNat (nat_lit 0)))]), (nat_lit 4, nat_lit 0, [(nat_lit 0, (.ofNat (nat_lit 0))), (nat_lit 0, (.ofNat (nat_lit 7)))])]]
def zFke_token_2 : List (List zK) := []
set_option maxHeartbeats 8000000 in
theorem zke_token_o0 {ro : Nat → List Int32} (η : zE) (hp : sP wl_ke zTr zPke_token [] η) (hpp : pPke_token [] η) : (iCke_token [] η) 0 [] η := by
  refine yj_a ?_ ?_
  · exact ⟨hpp, Int.le_refl _, rfl⟩
  · have b7 : (0 : Int) ≤ η 0 7 ∧ η 0 7 ≤ 700 := wf_ok (a := 7) (b := 7) (z := (0, 700)) hp.1 (by decide +kernel) (Nat.le_refl _) (Nat.le_refl _)
    exact qzI_0 b7.1
set_option maxHeartbeats 8000000 in
theorem zke_token_o1 {ro : Nat → List Int32} (xs : List Int) (η0 : zE) (hp : sP wl_ke zTr zPke_token xs η0) (hpp : pPke_token xs η0) (η : zE) (hI : zsI wl_ke zTr zVke_token zMke_token η0 0 [] η) (hig : iCke_token xs η0 0 [] η) : ∀ x1 : Int, x1 = η 0 (Int.toNat 7) → zok 0 x1 → ∀ x2 : Int, x2 = η 0 (Int.toNat 6) → zok 0 x2 → (x2 ≤ x1) → ∀ x3 : Int, x3 = η 0 (Int.toNat 7) → zok 0 x3 → ∀ η1 : zE, η1 = zup η 0 (Int.toNat 10) x3 → ∀ x4 : Int, x4 = η1 0 (Int.toNat 7) → zok 0 x4 → ∀ x5 : Int, x5 = η1 0 (Int.toNat 6) → zok 0 x5 → (¬ x4 = x5) → ∀ x6 : Int, x6 = η1 0 (Int.toNat 7) → zok 0 x6 → ((gC2 wl_ke [(nat_lit 0, zPke_isSmall, zOke_isSmall, zMke_isSmall), (nat_lit 1, zPke_isDigit, zOke_isDigit, zMke_isDigit), (nat_lit 2, zPke_wordAt, zOke_wordAt, zMke_wordAt), (nat_lit 3, zPke_packed, zOke_packed, zMke_packed), (nat_lit 4, zPke_signToken, zOke_signToken, zMke_signToken)] pCke_token qCke_token) 0).1 [x6] η1 := by
  have fig := hig.2
  have hig := hig.1
  intro x1 e1 r1 x2 e2 r2 c1 x3 e3 r3 η1 eη1 x4 e4 r4 x5 e5 r5 c2 x6 e6 r6
  have w0_0_7 : (0 : Int) ≤ η 0 7 ∧ η 0 7 ≤ 700 := wf_ok (a := 7) (b := 7) (z := (0, 700)) hI.1.1 (by decide +kernel) (Nat.le_refl _) (Nat.le_refl _)
  replace e1 : x1 = η 0 7 := e1
  replace r1 : -2147483648 ≤ x1 ∧ x1 ≤ 2147483647 := r1
  have w0_0_6 : (0 : Int) ≤ η 0 6 ∧ η 0 6 ≤ 700 := wf_ok (a := 6) (b := 6) (z := (0, 700)) hI.1.1 (by decide +kernel) (Nat.le_refl _) (Nat.le_refl _)
  replace e2 : x2 = η 0 6 := e2
  replace r2 : -2147483648 ≤ x2 ∧ x2 ≤ 2147483647 := r2
  replace e3 : x3 = η 0 7 := e3
  replace r3 : -2147483648 ≤ x3 ∧ x3 ≤ 2147483647 := r3
  have v2 : zEq (η1 0 7) (η 0 7) := by rw [eη1]; exact (zup_ne (fun _ e => absurd e (by decide))).trans rfl
  replace e4 : x4 = η 0 7 := e4.trans v2
  replace r4 : -2147483648 ≤ x4 ∧ x4 ≤ 2147483647 := r4
  have v3 : zEq (η1 0 6) (η 0 6) := by rw [eη1]; exact (zup_ne (fun _ e => absurd e (by decide))).trans rfl
  replace e5 : x5 = η 0 6 := e5.trans v3
  replace r5 : -2147483648 ≤ x5 ∧ x5 ≤ 2147483647 := r5
  replace e6 : x6 = η 0 7 := e6.trans v2
  replace r6 : -2147483648 ≤ x6 ∧ x6 ≤ 2147483647 := r6
  have fr1_0 : ∀ j, η 1 j = η 1 j := fun _ => rfl
  have v4 : ∀ j, η1 1 j = η 1 j := fun j => by rw [eη1]; exact zup_ne (fun e _ => absurd e (by decide))
  have fr1_1 : ∀ j, η1 1 j = η 1 j := v4
  have v5 : ∀ j, η1 2 j = η 2 j := fun j => by rw [eη1]; exact zup_ne (fun e _ => absurd e (by decide))
  have fr2 : ∀ j, η1 2 j = η 2 j := v5
  have f0_7 : η1 0 7 = η 0 7 := v2
  have f0_6 : η1 0 6 = η 0 6 := v3
  have w0_0_8 : (0 : Int) ≤ η 0 8 ∧ η 0 8 ≤ 6 := wf_ok (a := 8) (b := 8) (z := (0, 6)) hI.1.1 (by decide +kernel) (Nat.le_refl _) (Nat.le_refl _)
  have v7 : zEq (η1 0 8) (η 0 8) := by rw [eη1]; exact (zup_ne (fun _ e => absurd e (by decide))).trans rfl
  have f0_8 : η1 0 8 = η 0 8 := v7
  have v9 : zEq (η1 0 9) (η 0 9) := by rw [eη1]; exact (zup_ne (fun _ e => absurd e (by decide))).trans rfl
  have f0_9 : η1 0 9 = η 0 9 := v9
  have g : G_k η := hig.1
  have hh : η 0 7 ≤ η 0 6 := g.1
  have hs : η 0 6 = η0 0 6 := hI.2 0 6 (by decide +kernel)
  have hk0 : (0 : Int) ≤ η0 0 8 ∧ η0 0 8 ≤ 6 := wf_ok (a := 8) (b := 8) (z := (0, 6)) hp.1 (by decide +kernel) (Nat.le_refl _) (Nat.le_refl _)
  have hn : η0 0 7 ≤ η 0 7 := hig.2.1
  have hk : η 0 8 = η0 0 8 := hig.2.2
  have hG : G_k η1 := by
    first
    | (exfalso; omega)
    | exact gk_v f0_7 f0_6 f0_8 f0_9 fr2 g.2.2 (by omega) (k_o (by decide) (by decide))
    | exact gk_v f0_7 f0_6 f0_8 f0_9 fr2 g.2.2 (by omega) (k_o (fun w => by omega) (fun w => by omega))
    | exact gk_v f0_7 f0_6 f0_8 f0_9 fr2 g.2.2 (by omega) ⟨fun _ => ⟨by omega, by omega⟩, fun h => absurd h (by decide)⟩
    | exact gk_v f0_7 f0_6 f0_8 f0_9 fr2 g.2.2 (by omega) g.2.1
  exact hG
set_option maxHeartbeats 8000000 in
theorem zke_token_o2 {ro : Nat → List Int32} (xs : List Int) (η0 : zE) (hp : sP wl_ke zTr zPke_token xs η0) (hpp : pPke_token xs η0) (η : zE) (hI : zsI wl_ke zTr zVke_token zMke_token η0 0 [] η) (hig : iCke_token xs η0 0 [] η) : ∀ x1 : Int, x1 = η 0 (Int.toNat 7) → zok 0 x1 → ∀ x2 : Int, x2 = η 0 (Int.toNat 6) → zok 0 x2 → (x2 ≤ x1) → ∀ x3 : Int, x3 = η 0 (Int.toNat 7) → zok 0 x3 → ∀ η1 : zE, η1 = zup η 0 (Int.toNat 10) x3 → ∀ x4 : Int, x4 = η1 0 (Int.toNat 7) → zok 0 x4 → ∀ x5 : Int, x5 = η1 0 (Int.toNat 6) → zok 0 x5 → (¬ x4 = x5) → ∀ x6 : Int, x6 = η1 0 (Int.toNat 7) → zok 0 x6 → ∀ (x7 : Int) (η2 : zE), ((gC2 wl_ke [(nat_lit 0, zPke_isSmall, zOke_isSmall, zMke_isSmall), (nat_lit 1, zPke_isDigit, zOke_isDigit, zMke_isDigit), (nat_lit 2, zPke_wordAt, zOke_wordAt, zMke_wordAt), (nat_lit 3, zPke_packed, zOke_packed, zMke_packed), (nat_lit 4, zPke_signToken, zOke_signToken, zMke_signToken)] pCke_token qCke_token) 0).2 [x6] η1 x7 η2 → (x7 = 0) → ∀ x8 : Int, x8 = η2 0 (Int.toNat 7) → zok 0 x8 → ((gC2 wl_ke [(nat_lit 0, zPke_isSmall, zOke_isSmall, zMke_isSmall), (nat_lit 1, zPke_isDigit, zOke_isDigit, zMke_isDigit), (nat_lit 2, zPke_wordAt, zOke_wordAt, zMke_wordAt), (nat_lit 3, zPke_packed, zOke_packed, zMke_packed), (nat_lit 4, zPke_signToken, zOke_signToken, zMke_signToken)] pCke_token qCke_token) 1).1 [x8] η2 := by
  have fig := hig.2
  have hig := hig.1
  intro x1 e1 r1 x2 e2 r2 c1 x3 e3 r3 η1 eη1 x4 e4 r4 x5 e5 r5 c2 x6 e6 r6 x7 η2 h7 c3 x8 e8 r8
  have y7 : fQke_isSmall [x6] η1 x7 η2 := h7.2.2
  have k7 : sQ wl_ke zTr zOke_isSmall zMke_isSmall [x6] η1 x7 η2 ∧ oQke_isSmall [x6] η1 x7 η2 := ⟨h7.1, h7.2.1⟩
  have w0_0_7 : (0 : Int) ≤ η 0 7 ∧ η 0 7 ≤ 700 := wf_ok (a := 7) (b := 7) (z := (0, 700)) hI.1.1 (by decide +kernel) (Nat.le_refl _) (Nat.le_refl _)
  replace e1 : x1 = η 0 7 := e1
  replace r1 : -2147483648 ≤ x1 ∧ x1 ≤ 2147483647 := r1
  have w0_0_6 : (0 : Int) ≤ η 0 6 ∧ η 0 6 ≤ 700 := wf_ok (a := 6) (b := 6) (z := (0, 700)) hI.1.1 (by decide +kernel) (Nat.le_refl _) (Nat.le_refl _)
  replace e2 : x2 = η 0 6 := e2
  replace r2 : -2147483648 ≤ x2 ∧ x2 ≤ 2147483647 := r2
  replace e3 : x3 = η 0 7 := e3
  replace r3 : -2147483648 ≤ x3 ∧ x3 ≤ 2147483647 := r3
  have v2 : zEq (η1 0 7) (η 0 7) := by rw [eη1]; exact (zup_ne (fun _ e => absurd e (by decide))).trans rfl
  replace e4 : x4 = η 0 7 := e4.trans v2
  replace r4 : -2147483648 ≤ x4 ∧ x4 ≤ 2147483647 := r4
  have v3 : zEq (η1 0 6) (η 0 6) := by rw [eη1]; exact (zup_ne (fun _ e => absurd e (by decide))).trans rfl
  replace e5 : x5 = η 0 6 := e5.trans v3
  replace r5 : -2147483648 ≤ x5 ∧ x5 ≤ 2147483647 := r5
  replace e6 : x6 = η 0 7 := e6.trans v2
  replace r6 : -2147483648 ≤ x6 ∧ x6 ≤ 2147483647 := r6
  have c1_0_7 : η1 0 7 = η 0 7 := v2
  have c1_0_6 : η1 0 6 = η 0 6 := v3
  have w0_0_8 : (0 : Int) ≤ η 0 8 ∧ η 0 8 ≤ 6 := wf_ok (a := 8) (b := 8) (z := (0, 6)) hI.1.1 (by decide +kernel) (Nat.le_refl _) (Nat.le_refl _)
  have v5 : zEq (η1 0 8) (η 0 8) := by rw [eη1]; exact (zup_ne (fun _ e => absurd e (by decide))).trans rfl
  have c1_0_8 : η1 0 8 = η 0 8 := v5
  have v7 : zEq (η1 0 9) (η 0 9) := by rw [eη1]; exact (zup_ne (fun _ e => absurd e (by decide))).trans rfl
  have c1_0_9 : η1 0 9 = η 0 9 := v7
  have bx7 : (0 : Int) ≤ x7 ∧ x7 ≤ 1 := k7.1.2.1
  have v8 : zEq (η2 0 7) (η 0 7) := (k7.1.2.2.2.1 0 7 (by decide +kernel)).trans v2
  replace e8 : x8 = η 0 7 := e8.trans v8
  replace r8 : -2147483648 ≤ x8 ∧ x8 ≤ 2147483647 := r8
  have fr1_0 : ∀ j, η 1 j = η 1 j := fun _ => rfl
  have v9 : ∀ j, η1 1 j = η 1 j := fun j => by rw [eη1]; exact zup_ne (fun e _ => absurd e (by decide))
  have fr1_1 : ∀ j, η1 1 j = η 1 j := v9
  have v10 : ∀ j, η2 1 j = η 1 j := fun j => (k7.1.2.2.2.1 1 _ (zinr_not (by decide +kernel))).trans (v9 j)
  have fr1_2 : ∀ j, η2 1 j = η 1 j := v10
  have v11 : ∀ j, η1 2 j = η 2 j := fun j => by rw [eη1]; exact zup_ne (fun e _ => absurd e (by decide))
  have v12 : ∀ j, η2 2 j = η 2 j := fun j => (k7.1.2.2.2.1 2 _ (zinr_not (by decide +kernel))).trans (v11 j)
  have fr2 : ∀ j, η2 2 j = η 2 j := v12
  have f0_7 : η2 0 7 = η 0 7 := v8
  have v13 : zEq (η2 0 6) (η 0 6) := (k7.1.2.2.2.1 0 6 (by decide +kernel)).trans v3
  have f0_6 : η2 0 6 = η 0 6 := v13
  have v14 : zEq (η2 0 8) (η 0 8) := (k7.1.2.2.2.1 0 8 (by decide +kernel)).trans v5
  have f0_8 : η2 0 8 = η 0 8 := v14
  have v15 : zEq (η2 0 9) (η 0 9) := (k7.1.2.2.2.1 0 9 (by decide +kernel)).trans v7
  have f0_9 : η2 0 9 = η 0 9 := v15
  have g : G_k η := hig.1
  have hh : η 0 7 ≤ η 0 6 := g.1
  have hs : η 0 6 = η0 0 6 := hI.2 0 6 (by decide +kernel)
  have hk0 : (0 : Int) ≤ η0 0 8 ∧ η0 0 8 ≤ 6 := wf_ok (a := 8) (b := 8) (z := (0, 6)) hp.1 (by decide +kernel) (Nat.le_refl _) (Nat.le_refl _)
  have hn : η0 0 7 ≤ η 0 7 := hig.2.1
  have hk : η 0 8 = η0 0 8 := hig.2.2
  have hG : G_k η2 := by
    first
    | (exfalso; omega)
    | exact gk_v f0_7 f0_6 f0_8 f0_9 fr2 g.2.2 (by omega) (k_o (by decide) (by decide))
    | exact gk_v f0_7 f0_6 f0_8 f0_9 fr2 g.2.2 (by omega) (k_o (fun w => by omega) (fun w => by omega))
    | exact gk_v f0_7 f0_6 f0_8 f0_9 fr2 g.2.2 (by omega) ⟨fun _ => ⟨by omega, by omega⟩, fun h => absurd h (by decide)⟩
    | exact gk_v f0_7 f0_6 f0_8 f0_9 fr2 g.2.2 (by omega) g.2.1
  exact hG
set_option maxHeartbeats 8000000 in
theorem zke_token_o3 {ro : Nat → List Int32} (xs : List Int) (η0 : zE) (hp : sP wl_ke zTr zPke_token xs η0) (hpp : pPke_token xs η0) (η : zE) (hI : zsI wl_ke zTr zVke_token zMke_token η0 0 [] η) (hig : iCke_token xs η0 0 [] η) : ∀ x1 : Int, x1 = η 0 (Int.toNat 7) → zok 0 x1 → ∀ x2 : Int, x2 = η 0 (Int.toNat 6) → zok 0 x2 → (x2 ≤ x1) → ∀ x3 : Int, x3 = η 0 (Int.toNat 7) → zok 0 x3 → ∀ η1 : zE, η1 = zup η 0 (Int.toNat 10) x3 → ∀ x4 : Int, x4 = η1 0 (Int.toNat 7) → zok 0 x4 → ∀ x5 : Int, x5 = η1 0 (Int.toNat 6) → zok 0 x5 → (¬ x4 = x5) → ∀ x6 : Int, x6 = η1 0 (Int.toNat 7) → zok 0 x6 → ∀ (x7 : Int) (η2 : zE), ((gC2 wl_ke [(nat_lit 0, zPke_isSmall, zOke_isSmall, zMke_isSmall), (nat_lit 1, zPke_isDigit, zOke_isDigit, zMke_isDigit), (nat_lit 2, zPke_wordAt, zOke_wordAt, zMke_wordAt), (nat_lit 3, zPke_packed, zOke_packed, zMke_packed), (nat_lit 4, zPke_signToken, zOke_signToken, zMke_signToken)] pCke_token qCke_token) 0).2 [x6] η1 x7 η2 → (x7 = 0) → ∀ x8 : Int, x8 = η2 0 (Int.toNat 7) → zok 0 x8 → ∀ (x9 : Int) (η3 : zE), ((gC2 wl_ke [(nat_lit 0, zPke_isSmall, zOke_isSmall, zMke_isSmall), (nat_lit 1, zPke_isDigit, zOke_isDigit, zMke_isDigit), (nat_lit 2, zPke_wordAt, zOke_wordAt, zMke_wordAt), (nat_lit 3, zPke_packed, zOke_packed, zMke_packed), (nat_lit 4, zPke_signToken, zOke_signToken, zMke_signToken)] pCke_token qCke_token) 1).2 [x8] η2 x9 η3 → (x9 = 0) → ∀ (x10 : Int) (η4 : zE), ((gC2 wl_ke [(nat_lit 0, zPke_isSmall, zOke_isSmall, zMke_isSmall), (nat_lit 1, zPke_isDigit, zOke_isDigit, zMke_isDigit), (nat_lit 2, zPke_wordAt, zOke_wordAt, zMke_wordAt), (nat_lit 3, zPke_packed, zOke_packed, zMke_packed), (nat_lit 4, zPke_signToken, zOke_signToken, zMke_signToken)] pCke_token qCke_token) 4).2 [] η3 x10 η4 → (fun (_ : Nat) (y : Int) (η' : zE) => pQke_token xs η0 y η') 0 0 η4 := by
  have fig := hig.2
  have hig := hig.1
  intro x1 e1 r1 x2 e2 r2 c1 x3 e3 r3 η1 eη1 x4 e4 r4 x5 e5 r5 c2 x6 e6 r6 x7 η2 h7 c3 x8 e8 r8 x9 η3 h9 c4 x10 η4 h10
  have y7 : fQke_isSmall [x6] η1 x7 η2 := h7.2.2
  have k7 : sQ wl_ke zTr zOke_isSmall zMke_isSmall [x6] η1 x7 η2 ∧ oQke_isSmall [x6] η1 x7 η2 := ⟨h7.1, h7.2.1⟩
  have y9 : fQke_isDigit [x8] η2 x9 η3 := h9.2.2
  have k9 : sQ wl_ke zTr zOke_isDigit zMke_isDigit [x8] η2 x9 η3 ∧ oQke_isDigit [x8] η2 x9 η3 := ⟨h9.1, h9.2.1⟩
  have y10 : fQke_signToken [] η3 x10 η4 := h10.2.2
  have k10 : sQ wl_ke zTr zOke_signToken zMke_signToken [] η3 x10 η4 ∧ oQke_signToken [] η3 x10 η4 := ⟨h10.1, h10.2.1⟩
  refine yj_a ?_ ?_
  · have y7 : fQke_isSmall [x6] η1 x7 η2 := h7.2.2
    have k7 : sQ wl_ke zTr zOke_isSmall zMke_isSmall [x6] η1 x7 η2 ∧ oQke_isSmall [x6] η1 x7 η2 := ⟨h7.1, h7.2.1⟩
    have y9 : fQke_isDigit [x8] η2 x9 η3 := h9.2.2
    have k9 : sQ wl_ke zTr zOke_isDigit zMke_isDigit [x8] η2 x9 η3 ∧ oQke_isDigit [x8] η2 x9 η3 := ⟨h9.1, h9.2.1⟩
    have y10 : fQke_signToken [] η3 x10 η4 := h10.2.2
    have k10 : sQ wl_ke zTr zOke_signToken zMke_signToken [] η3 x10 η4 ∧ oQke_signToken [] η3 x10 η4 := ⟨h10.1, h10.2.1⟩
    have w0_0_7 : (0 : Int) ≤ η 0 7 ∧ η 0 7 ≤ 700 := wf_ok (a := 7) (b := 7) (z := (0, 700)) hI.1.1 (by decide +kernel) (Nat.le_refl _) (Nat.le_refl _)
    replace e1 : x1 = η 0 7 := e1
    replace r1 : -2147483648 ≤ x1 ∧ x1 ≤ 2147483647 := r1
    have w0_0_6 : (0 : Int) ≤ η 0 6 ∧ η 0 6 ≤ 700 := wf_ok (a := 6) (b := 6) (z := (0, 700)) hI.1.1 (by decide +kernel) (Nat.le_refl _) (Nat.le_refl _)
    replace e2 : x2 = η 0 6 := e2
    replace r2 : -2147483648 ≤ x2 ∧ x2 ≤ 2147483647 := r2
    replace e3 : x3 = η 0 7 := e3
    replace r3 : -2147483648 ≤ x3 ∧ x3 ≤ 2147483647 := r3
    have v2 : zEq (η1 0 7) (η 0 7) := by rw [eη1]; exact (zup_ne (fun _ e => absurd e (by decide))).trans rfl
    replace e4 : x4 = η 0 7 := e4.trans v2
    replace r4 : -2147483648 ≤ x4 ∧ x4 ≤ 2147483647 := r4
    have v3 : zEq (η1 0 6) (η 0 6) := by rw [eη1]; exact (zup_ne (fun _ e => absurd e (by decide))).trans rfl
    replace e5 : x5 = η 0 6 := e5.trans v3
    replace r5 : -2147483648 ≤ x5 ∧ x5 ≤ 2147483647 := r5
    replace e6 : x6 = η 0 7 := e6.trans v2
    replace r6 : -2147483648 ≤ x6 ∧ x6 ≤ 2147483647 := r6
    have c1_0_7 : η1 0 7 = η 0 7 := v2
    have c1_0_6 : η1 0 6 = η 0 6 := v3
    have w0_0_8 : (0 : Int) ≤ η 0 8 ∧ η 0 8 ≤ 6 := wf_ok (a := 8) (b := 8) (z := (0, 6)) hI.1.1 (by decide +kernel) (Nat.le_refl _) (Nat.le_refl _)
    have v5 : zEq (η1 0 8) (η 0 8) := by rw [eη1]; exact (zup_ne (fun _ e => absurd e (by decide))).trans rfl
    have c1_0_8 : η1 0 8 = η 0 8 := v5
    have v7 : zEq (η1 0 9) (η 0 9) := by rw [eη1]; exact (zup_ne (fun _ e => absurd e (by decide))).trans rfl
    have c1_0_9 : η1 0 9 = η 0 9 := v7
    have bx7 : (0 : Int) ≤ x7 ∧ x7 ≤ 1 := k7.1.2.1
    have v8 : zEq (η2 0 7) (η 0 7) := (k7.1.2.2.2.1 0 7 (by decide +kernel)).trans v2
    replace e8 : x8 = η 0 7 := e8.trans v8
    replace r8 : -2147483648 ≤ x8 ∧ x8 ≤ 2147483647 := r8
    have c2_0_7 : η2 0 7 = η 0 7 := v8
    have v9 : zEq (η2 0 6) (η 0 6) := (k7.1.2.2.2.1 0 6 (by decide +kernel)).trans v3
    have c2_0_6 : η2 0 6 = η 0 6 := v9
    have v10 : zEq (η2 0 8) (η 0 8) := (k7.1.2.2.2.1 0 8 (by decide +kernel)).trans v5
    have c2_0_8 : η2 0 8 = η 0 8 := v10
    have v11 : zEq (η2 0 9) (η 0 9) := (k7.1.2.2.2.1 0 9 (by decide +kernel)).trans v7
    have c2_0_9 : η2 0 9 = η 0 9 := v11
    have bx9 : (0 : Int) ≤ x9 ∧ x9 ≤ 1 := k9.1.2.1
    have v12 : zEq (η3 0 7) (η 0 7) := (k9.1.2.2.2.1 0 7 (by decide +kernel)).trans v8
    have c3_0_7 : η3 0 7 = η 0 7 := v12
    have v13 : zEq (η3 0 6) (η 0 6) := (k9.1.2.2.2.1 0 6 (by decide +kernel)).trans v9
    have c3_0_6 : η3 0 6 = η 0 6 := v13
    have v14 : zEq (η3 0 8) (η 0 8) := (k9.1.2.2.2.1 0 8 (by decide +kernel)).trans v10
    have c3_0_8 : η3 0 8 = η 0 8 := v14
    have v15 : zEq (η3 0 9) (η 0 9) := (k9.1.2.2.2.1 0 9 (by decide +kernel)).trans v11
    have c3_0_9 : η3 0 9 = η 0 9 := v15
    have bx10 : (0 : Int) ≤ x10 ∧ x10 ≤ 0 := k10.1.2.1
    have fr1_0 : ∀ j, η 1 j = η 1 j := fun _ => rfl
    have v16 : ∀ j, η1 1 j = η 1 j := fun j => by rw [eη1]; exact zup_ne (fun e _ => absurd e (by decide))
    have fr1_1 : ∀ j, η1 1 j = η 1 j := v16
    have v17 : ∀ j, η2 1 j = η 1 j := fun j => (k7.1.2.2.2.1 1 _ (zinr_not (by decide +kernel))).trans (v16 j)
    have fr1_2 : ∀ j, η2 1 j = η 1 j := v17
    have v18 : ∀ j, η3 1 j = η 1 j := fun j => (k9.1.2.2.2.1 1 _ (zinr_not (by decide +kernel))).trans (v17 j)
    have fr1_3 : ∀ j, η3 1 j = η 1 j := v18
    have v19 : ∀ j, η4 1 j = η 1 j := fun j => (k10.1.2.2.2.1 1 _ (zinr_not (by decide +kernel))).trans (v18 j)
    have fr1_4 : ∀ j, η4 1 j = η 1 j := v19
    have v20 : ∀ j, η1 2 j = η 2 j := fun j => by rw [eη1]; exact zup_ne (fun e _ => absurd e (by decide))
    have v21 : ∀ j, η2 2 j = η 2 j := fun j => (k7.1.2.2.2.1 2 _ (zinr_not (by decide +kernel))).trans (v20 j)
    have v22 : ∀ j, η3 2 j = η 2 j := fun j => (k9.1.2.2.2.1 2 _ (zinr_not (by decide +kernel))).trans (v21 j)
    have v23 : ∀ j, η4 2 j = η 2 j := fun j => (k10.1.2.2.2.1 2 _ (zinr_not (by decide +kernel))).trans (v22 j)
    have fr2 : ∀ j, η4 2 j = η 2 j := v23
    have w4_0_7 : (0 : Int) ≤ η4 0 7 ∧ η4 0 7 ≤ 700 := wf_ok (a := 7) (b := 7) (z := (0, 700)) k10.1.1 (by decide +kernel) (Nat.le_refl _) (Nat.le_refl _)
    have f0_7 : η4 0 7 = η4 0 7 := rfl
    have v25 : zEq (η4 0 6) (η 0 6) := (k10.1.2.2.2.1 0 6 (by decide +kernel)).trans v13
    have f0_6 : η4 0 6 = η 0 6 := v25
    have w4_0_8 : (0 : Int) ≤ η4 0 8 ∧ η4 0 8 ≤ 6 := wf_ok (a := 8) (b := 8) (z := (0, 6)) k10.1.1 (by decide +kernel) (Nat.le_refl _) (Nat.le_refl _)
    have f0_8 : η4 0 8 = η4 0 8 := rfl
    have f0_9 : η4 0 9 = η4 0 9 := rfl
    have g : G_k η := hig.1
    have hh : η 0 7 ≤ η 0 6 := g.1
    have hs : η 0 6 = η0 0 6 := hI.2 0 6 (by decide +kernel)
    have hk0 : (0 : Int) ≤ η0 0 8 ∧ η0 0 8 ≤ 6 := wf_ok (a := 8) (b := 8) (z := (0, 6)) hp.1 (by decide +kernel) (Nat.le_refl _) (Nat.le_refl _)
    have hn : η0 0 7 ≤ η 0 7 := hig.2.1
    have hk : η 0 8 = η0 0 8 := hig.2.2
    have q10 : η3 0 7 < η4 0 7 := k10.2.2
    have hG : G_k η4 := by first | (exfalso; omega) | exact k10.2.1
    refine ⟨hG, fun w => ?_⟩
    have w : ¬ η0 0 8 = 0 := w
    show 10 * (η4 0 6 - η4 0 7) + η4 0 8 < 10 * (η0 0 6 - η0 0 7) + η0 0 8
    omega
  · have b7 : (0 : Int) ≤ η 0 7 ∧ η 0 7 ≤ 700 := wf_ok (a := 7) (b := 7) (z := (0, 700)) hI.1.1 (by decide +kernel) (Nat.le_refl _) (Nat.le_refl _)
    have b6 : (0 : Int) ≤ η 0 6 ∧ η 0 6 ≤ 700 := wf_ok (a := 6) (b := 6) (z := (0, 700)) hI.1.1 (by decide +kernel) (Nat.le_refl _) (Nat.le_refl _)
    have hn : η 0 7 ≤ η 0 6 := hig.1.1
    have fig : yq_zI η0 η := fig
    have z1 : x1 = η 0 7 := e1
    have z2 : x2 = η 0 6 := e2
    have z3 : x3 = η 0 7 := e3
    have z4 : x4 = η 0 7 := e4.trans (by rw [eη1]; rfl)
    have z5 : x5 = η 0 6 := e5.trans (by rw [eη1]; rfl)
    exact absurd (show x4 = x5 by omega) c2
set_option maxHeartbeats 8000000 in
theorem zke_token_o4 {ro : Nat → List Int32} (xs : List Int) (η0 : zE) (hp : sP wl_ke zTr zPke_token xs η0) (hpp : pPke_token xs η0) (η : zE) (hI : zsI wl_ke zTr zVke_token zMke_token η0 0 [] η) (hig : iCke_token xs η0 0 [] η) : ∀ x1 : Int, x1 = η 0 (Int.toNat 7) → zok 0 x1 → ∀ x2 : Int, x2 = η 0 (Int.toNat 6) → zok 0 x2 → (x2 ≤ x1) → ∀ x3 : Int, x3 = η 0 (Int.toNat 7) → zok 0 x3 → ∀ η1 : zE, η1 = zup η 0 (Int.toNat 10) x3 → ∀ x4 : Int, x4 = η1 0 (Int.toNat 7) → zok 0 x4 → ∀ x5 : Int, x5 = η1 0 (Int.toNat 6) → zok 0 x5 → (¬ x4 = x5) → ∀ x6 : Int, x6 = η1 0 (Int.toNat 7) → zok 0 x6 → ∀ (x7 : Int) (η2 : zE), ((gC2 wl_ke [(nat_lit 0, zPke_isSmall, zOke_isSmall, zMke_isSmall), (nat_lit 1, zPke_isDigit, zOke_isDigit, zMke_isDigit), (nat_lit 2, zPke_wordAt, zOke_wordAt, zMke_wordAt), (nat_lit 3, zPke_packed, zOke_packed, zMke_packed), (nat_lit 4, zPke_signToken, zOke_signToken, zMke_signToken)] pCke_token qCke_token) 0).2 [x6] η1 x7 η2 → (x7 = 0) → ∀ x8 : Int, x8 = η2 0 (Int.toNat 7) → zok 0 x8 → ∀ (x9 : Int) (η3 : zE), ((gC2 wl_ke [(nat_lit 0, zPke_isSmall, zOke_isSmall, zMke_isSmall), (nat_lit 1, zPke_isDigit, zOke_isDigit, zMke_isDigit), (nat_lit 2, zPke_wordAt, zOke_wordAt, zMke_wordAt), (nat_lit 3, zPke_packed, zOke_packed, zMke_packed), (nat_lit 4, zPke_signToken, zOke_signToken, zMke_signToken)] pCke_token qCke_token) 1).2 [x8] η2 x9 η3 → (¬ x9 = 0) → ∀ η4 : zE, η4 = zup η3 0 (Int.toNat 8) 3 → ∀ η5 : zE, η5 = zup η4 0 (Int.toNat 9) 0 → (iCke_token xs η0) 2 [] η5 ∧ (fun (_ : Nat) (_ : List Int) (_ : zE) => (0 : Nat)) 2 [] η5 < 1 := by
  have fig := hig.2
  have hig := hig.1
  intro x1 e1 r1 x2 e2 r2 c1 x3 e3 r3 η1 eη1 x4 e4 r4 x5 e5 r5 c2 x6 e6 r6 x7 η2 h7 c3 x8 e8 r8 x9 η3 h9 c4 η4 eη4 η5 eη5
  have y7 : fQke_isSmall [x6] η1 x7 η2 := h7.2.2
  have k7 : sQ wl_ke zTr zOke_isSmall zMke_isSmall [x6] η1 x7 η2 ∧ oQke_isSmall [x6] η1 x7 η2 := ⟨h7.1, h7.2.1⟩
  have y9 : fQke_isDigit [x8] η2 x9 η3 := h9.2.2
  have k9 : sQ wl_ke zTr zOke_isDigit zMke_isDigit [x8] η2 x9 η3 ∧ oQke_isDigit [x8] η2 x9 η3 := ⟨h9.1, h9.2.1⟩
  refine yj_c ?_ ?_
  · have y7 : fQke_isSmall [x6] η1 x7 η2 := h7.2.2
    have k7 : sQ wl_ke zTr zOke_isSmall zMke_isSmall [x6] η1 x7 η2 ∧ oQke_isSmall [x6] η1 x7 η2 := ⟨h7.1, h7.2.1⟩
    have y9 : fQke_isDigit [x8] η2 x9 η3 := h9.2.2
    have k9 : sQ wl_ke zTr zOke_isDigit zMke_isDigit [x8] η2 x9 η3 ∧ oQke_isDigit [x8] η2 x9 η3 := ⟨h9.1, h9.2.1⟩
    have w0_0_7 : (0 : Int) ≤ η 0 7 ∧ η 0 7 ≤ 700 := wf_ok (a := 7) (b := 7) (z := (0, 700)) hI.1.1 (by decide +kernel) (Nat.le_refl _) (Nat.le_refl _)
    replace e1 : x1 = η 0 7 := e1
    replace r1 : -2147483648 ≤ x1 ∧ x1 ≤ 2147483647 := r1
    have w0_0_6 : (0 : Int) ≤ η 0 6 ∧ η 0 6 ≤ 700 := wf_ok (a := 6) (b := 6) (z := (0, 700)) hI.1.1 (by decide +kernel) (Nat.le_refl _) (Nat.le_refl _)
    replace e2 : x2 = η 0 6 := e2
    replace r2 : -2147483648 ≤ x2 ∧ x2 ≤ 2147483647 := r2
    replace e3 : x3 = η 0 7 := e3
    replace r3 : -2147483648 ≤ x3 ∧ x3 ≤ 2147483647 := r3
    have v2 : zEq (η1 0 7) (η 0 7) := by rw [eη1]; exact (zup_ne (fun _ e => absurd e (by decide))).trans rfl
    replace e4 : x4 = η 0 7 := e4.trans v2
    replace r4 : -2147483648 ≤ x4 ∧ x4 ≤ 2147483647 := r4
    have v3 : zEq (η1 0 6) (η 0 6) := by rw [eη1]; exact (zup_ne (fun _ e => absurd e (by decide))).trans rfl
    replace e5 : x5 = η 0 6 := e5.trans v3
    replace r5 : -2147483648 ≤ x5 ∧ x5 ≤ 2147483647 := r5
    replace e6 : x6 = η 0 7 := e6.trans v2
    replace r6 : -2147483648 ≤ x6 ∧ x6 ≤ 2147483647 := r6
    have c1_0_7 : η1 0 7 = η 0 7 := v2
    have c1_0_6 : η1 0 6 = η 0 6 := v3
    have w0_0_8 : (0 : Int) ≤ η 0 8 ∧ η 0 8 ≤ 6 := wf_ok (a := 8) (b := 8) (z := (0, 6)) hI.1.1 (by decide +kernel) (Nat.le_refl _) (Nat.le_refl _)
    have v5 : zEq (η1 0 8) (η 0 8) := by rw [eη1]; exact (zup_ne (fun _ e => absurd e (by decide))).trans rfl
    have c1_0_8 : η1 0 8 = η 0 8 := v5
    have v7 : zEq (η1 0 9) (η 0 9) := by rw [eη1]; exact (zup_ne (fun _ e => absurd e (by decide))).trans rfl
    have c1_0_9 : η1 0 9 = η 0 9 := v7
    have bx7 : (0 : Int) ≤ x7 ∧ x7 ≤ 1 := k7.1.2.1
    have v8 : zEq (η2 0 7) (η 0 7) := (k7.1.2.2.2.1 0 7 (by decide +kernel)).trans v2
    replace e8 : x8 = η 0 7 := e8.trans v8
    replace r8 : -2147483648 ≤ x8 ∧ x8 ≤ 2147483647 := r8
    have c2_0_7 : η2 0 7 = η 0 7 := v8
    have v9 : zEq (η2 0 6) (η 0 6) := (k7.1.2.2.2.1 0 6 (by decide +kernel)).trans v3
    have c2_0_6 : η2 0 6 = η 0 6 := v9
    have v10 : zEq (η2 0 8) (η 0 8) := (k7.1.2.2.2.1 0 8 (by decide +kernel)).trans v5
    have c2_0_8 : η2 0 8 = η 0 8 := v10
    have v11 : zEq (η2 0 9) (η 0 9) := (k7.1.2.2.2.1 0 9 (by decide +kernel)).trans v7
    have c2_0_9 : η2 0 9 = η 0 9 := v11
    have bx9 : (0 : Int) ≤ x9 ∧ x9 ≤ 1 := k9.1.2.1
    have v12 : zEq (η3 0 8) (η 0 8) := (k9.1.2.2.2.1 0 8 (by decide +kernel)).trans v10
    have c3_0_8 : η3 0 8 = η 0 8 := v12
    have v13 : zEq (η3 0 9) (η 0 9) := (k9.1.2.2.2.1 0 9 (by decide +kernel)).trans v11
    have v14 : zEq (η4 0 9) (η 0 9) := by rw [eη4]; exact (zup_ne (fun _ e => absurd e (by decide))).trans v13
    have c4_0_9 : η4 0 9 = η 0 9 := v14
    have fr1_0 : ∀ j, η 1 j = η 1 j := fun _ => rfl
    have v15 : ∀ j, η1 1 j = η 1 j := fun j => by rw [eη1]; exact zup_ne (fun e _ => absurd e (by decide))
    have fr1_1 : ∀ j, η1 1 j = η 1 j := v15
    have v16 : ∀ j, η2 1 j = η 1 j := fun j => (k7.1.2.2.2.1 1 _ (zinr_not (by decide +kernel))).trans (v15 j)
    have fr1_2 : ∀ j, η2 1 j = η 1 j := v16
    have v17 : ∀ j, η3 1 j = η 1 j := fun j => (k9.1.2.2.2.1 1 _ (zinr_not (by decide +kernel))).trans (v16 j)
    have fr1_3 : ∀ j, η3 1 j = η 1 j := v17
    have v18 : ∀ j, η4 1 j = η 1 j := fun j => by rw [eη4]; exact (zup_ne (fun e _ => absurd e (by decide))).trans (v17 j)
    have fr1_4 : ∀ j, η4 1 j = η 1 j := v18
    have v19 : ∀ j, η5 1 j = η 1 j := fun j => by rw [eη5]; exact (zup_ne (fun e _ => absurd e (by decide))).trans (v18 j)
    have fr1_5 : ∀ j, η5 1 j = η 1 j := v19
    have v20 : ∀ j, η1 2 j = η 2 j := fun j => by rw [eη1]; exact zup_ne (fun e _ => absurd e (by decide))
    have v21 : ∀ j, η2 2 j = η 2 j := fun j => (k7.1.2.2.2.1 2 _ (zinr_not (by decide +kernel))).trans (v20 j)
    have v22 : ∀ j, η3 2 j = η 2 j := fun j => (k9.1.2.2.2.1 2 _ (zinr_not (by decide +kernel))).trans (v21 j)
    have v23 : ∀ j, η4 2 j = η 2 j := fun j => by rw [eη4]; exact (zup_ne (fun e _ => absurd e (by decide))).trans (v22 j)
    have v24 : ∀ j, η5 2 j = η 2 j := fun j => by rw [eη5]; exact (zup_ne (fun e _ => absurd e (by decide))).trans (v23 j)
    have fr2 : ∀ j, η5 2 j = η 2 j := v24
    have v25 : zEq (η3 0 7) (η 0 7) := (k9.1.2.2.2.1 0 7 (by decide +kernel)).trans v8
    have v26 : zEq (η4 0 7) (η 0 7) := by rw [eη4]; exact (zup_ne (fun _ e => absurd e (by decide))).trans v25
    have v27 : zEq (η5 0 7) (η 0 7) := by rw [eη5]; exact (zup_ne (fun _ e => absurd e (by decide))).trans v26
    have f0_7 : η5 0 7 = η 0 7 := v27
    have v28 : zEq (η3 0 6) (η 0 6) := (k9.1.2.2.2.1 0 6 (by decide +kernel)).trans v9
    have v29 : zEq (η4 0 6) (η 0 6) := by rw [eη4]; exact (zup_ne (fun _ e => absurd e (by decide))).trans v28
    have v30 : zEq (η5 0 6) (η 0 6) := by rw [eη5]; exact (zup_ne (fun _ e => absurd e (by decide))).trans v29
    have f0_6 : η5 0 6 = η 0 6 := v30
    have v31 : zEq (η4 0 8) (3) := by rw [eη4]; exact zup_eq
    have v32 : zEq (η5 0 8) (3) := by rw [eη5]; exact (zup_ne (fun _ e => absurd e (by decide))).trans v31
    have f0_8 : η5 0 8 = 3 := v32
    have v33 : zEq (η5 0 9) (0) := by rw [eη5]; exact zup_eq
    have f0_9 : η5 0 9 = 0 := v33
    have g : G_k η := hig.1
    have hh : η 0 7 ≤ η 0 6 := g.1
    have hs : η 0 6 = η0 0 6 := hI.2 0 6 (by decide +kernel)
    have hk0 : (0 : Int) ≤ η0 0 8 ∧ η0 0 8 ≤ 6 := wf_ok (a := 8) (b := 8) (z := (0, 6)) hp.1 (by decide +kernel) (Nat.le_refl _) (Nat.le_refl _)
    have hn : η0 0 7 ≤ η 0 7 := hig.2.1
    have hk : η 0 8 = η0 0 8 := hig.2.2
    have q9 : x8 < η2 0 6 ∧ 48 ≤ η2 1 (Int.toNat x8) ∧ η2 1 (Int.toNat x8) ≤ 57 := k9.2.2.2.1 c4
    rw [fr1_2] at q9
    have p9 := q9.1
    rw [show x8 = η 0 7 by omega] at q9
    have hG : G_k η5 := by
      first
      | (exfalso; omega)
      | exact gk_v f0_7 f0_6 f0_8 f0_9 fr2 g.2.2 (by omega) (k_o (by decide) (by decide))
      | exact gk_v f0_7 f0_6 f0_8 f0_9 fr2 g.2.2 (by omega) (k_o (fun w => by omega) (fun w => by omega))
      | exact gk_v f0_7 f0_6 f0_8 f0_9 fr2 g.2.2 (by omega) ⟨fun _ => ⟨by omega, by omega⟩, fun h => absurd h (by decide)⟩
      | exact gk_v f0_7 f0_6 f0_8 f0_9 fr2 g.2.2 (by omega) g.2.1
    first
    | (exfalso; omega)
    | exact ⟨⟨hG, show η5 0 8 = 3 by omega, Or.inr ⟨show η0 0 7 ≤ η5 0 7 by omega, show η5 0 7 < η5 0 6 by omega, by rw [fr1_5, show η5 0 7 = η 0 7 by omega]; exact q9.2.1, by rw [fr1_5, show η5 0 7 = η 0 7 by omega]; exact q9.2.2⟩⟩, Nat.zero_lt_one⟩
  · have b7 : (0 : Int) ≤ η 0 7 ∧ η 0 7 ≤ 700 := wf_ok (a := 7) (b := 7) (z := (0, 700)) hI.1.1 (by decide +kernel) (Nat.le_refl _) (Nat.le_refl _)
    have b6 : (0 : Int) ≤ η 0 6 ∧ η 0 6 ≤ 700 := wf_ok (a := 6) (b := 6) (z := (0, 700)) hI.1.1 (by decide +kernel) (Nat.le_refl _) (Nat.le_refl _)
    have hn : η 0 7 ≤ η 0 6 := hig.1.1
    have fig : yq_zI η0 η := fig
    have z1 : x1 = η 0 7 := e1
    have z2 : x2 = η 0 6 := e2
    have z3 : x3 = η 0 7 := e3
    have z4 : x4 = η 0 7 := e4.trans (by rw [eη1]; rfl)
    have z5 : x5 = η 0 6 := e5.trans (by rw [eη1]; rfl)
    exact absurd (show x4 = x5 by omega) c2
set_option maxHeartbeats 8000000 in
theorem zke_token_o5 {ro : Nat → List Int32} (xs : List Int) (η0 : zE) (hp : sP wl_ke zTr zPke_token xs η0) (hpp : pPke_token xs η0) (η : zE) (hI : zsI wl_ke zTr zVke_token zMke_token η0 0 [] η) (hig : iCke_token xs η0 0 [] η) : ∀ x1 : Int, x1 = η 0 (Int.toNat 7) → zok 0 x1 → ∀ x2 : Int, x2 = η 0 (Int.toNat 6) → zok 0 x2 → (x2 ≤ x1) → ∀ x3 : Int, x3 = η 0 (Int.toNat 7) → zok 0 x3 → ∀ η1 : zE, η1 = zup η 0 (Int.toNat 10) x3 → ∀ x4 : Int, x4 = η1 0 (Int.toNat 7) → zok 0 x4 → ∀ x5 : Int, x5 = η1 0 (Int.toNat 6) → zok 0 x5 → (¬ x4 = x5) → ∀ x6 : Int, x6 = η1 0 (Int.toNat 7) → zok 0 x6 → ∀ (x7 : Int) (η2 : zE), ((gC2 wl_ke [(nat_lit 0, zPke_isSmall, zOke_isSmall, zMke_isSmall), (nat_lit 1, zPke_isDigit, zOke_isDigit, zMke_isDigit), (nat_lit 2, zPke_wordAt, zOke_wordAt, zMke_wordAt), (nat_lit 3, zPke_packed, zOke_packed, zMke_packed), (nat_lit 4, zPke_signToken, zOke_signToken, zMke_signToken)] pCke_token qCke_token) 0).2 [x6] η1 x7 η2 → (¬ x7 = 0) → (iCke_token xs η0) 1 [] η2 ∧ (fun (_ : Nat) (_ : List Int) (_ : zE) => (0 : Nat)) 1 [] η2 < 1 := by
  have fig := hig.2
  have hig := hig.1
  intro x1 e1 r1 x2 e2 r2 c1 x3 e3 r3 η1 eη1 x4 e4 r4 x5 e5 r5 c2 x6 e6 r6 x7 η2 h7 c3
  have y7 : fQke_isSmall [x6] η1 x7 η2 := h7.2.2
  have k7 : sQ wl_ke zTr zOke_isSmall zMke_isSmall [x6] η1 x7 η2 ∧ oQke_isSmall [x6] η1 x7 η2 := ⟨h7.1, h7.2.1⟩
  refine yj_c ?_ ?_
  · have y7 : fQke_isSmall [x6] η1 x7 η2 := h7.2.2
    have k7 : sQ wl_ke zTr zOke_isSmall zMke_isSmall [x6] η1 x7 η2 ∧ oQke_isSmall [x6] η1 x7 η2 := ⟨h7.1, h7.2.1⟩
    have w0_0_7 : (0 : Int) ≤ η 0 7 ∧ η 0 7 ≤ 700 := wf_ok (a := 7) (b := 7) (z := (0, 700)) hI.1.1 (by decide +kernel) (Nat.le_refl _) (Nat.le_refl _)
    replace e1 : x1 = η 0 7 := e1
    replace r1 : -2147483648 ≤ x1 ∧ x1 ≤ 2147483647 := r1
    have w0_0_6 : (0 : Int) ≤ η 0 6 ∧ η 0 6 ≤ 700 := wf_ok (a := 6) (b := 6) (z := (0, 700)) hI.1.1 (by decide +kernel) (Nat.le_refl _) (Nat.le_refl _)
    replace e2 : x2 = η 0 6 := e2
    replace r2 : -2147483648 ≤ x2 ∧ x2 ≤ 2147483647 := r2
    replace e3 : x3 = η 0 7 := e3
    replace r3 : -2147483648 ≤ x3 ∧ x3 ≤ 2147483647 := r3
    have v2 : zEq (η1 0 7) (η 0 7) := by rw [eη1]; exact (zup_ne (fun _ e => absurd e (by decide))).trans rfl
    replace e4 : x4 = η 0 7 := e4.trans v2
    replace r4 : -2147483648 ≤ x4 ∧ x4 ≤ 2147483647 := r4
    have v3 : zEq (η1 0 6) (η 0 6) := by rw [eη1]; exact (zup_ne (fun _ e => absurd e (by decide))).trans rfl
    replace e5 : x5 = η 0 6 := e5.trans v3
    replace r5 : -2147483648 ≤ x5 ∧ x5 ≤ 2147483647 := r5
    replace e6 : x6 = η 0 7 := e6.trans v2
    replace r6 : -2147483648 ≤ x6 ∧ x6 ≤ 2147483647 := r6
    have c1_0_7 : η1 0 7 = η 0 7 := v2
    have c1_0_6 : η1 0 6 = η 0 6 := v3
    have w0_0_8 : (0 : Int) ≤ η 0 8 ∧ η 0 8 ≤ 6 := wf_ok (a := 8) (b := 8) (z := (0, 6)) hI.1.1 (by decide +kernel) (Nat.le_refl _) (Nat.le_refl _)
    have v5 : zEq (η1 0 8) (η 0 8) := by rw [eη1]; exact (zup_ne (fun _ e => absurd e (by decide))).trans rfl
    have c1_0_8 : η1 0 8 = η 0 8 := v5
    have v7 : zEq (η1 0 9) (η 0 9) := by rw [eη1]; exact (zup_ne (fun _ e => absurd e (by decide))).trans rfl
    have c1_0_9 : η1 0 9 = η 0 9 := v7
    have bx7 : (0 : Int) ≤ x7 ∧ x7 ≤ 1 := k7.1.2.1
    have fr1_0 : ∀ j, η 1 j = η 1 j := fun _ => rfl
    have v8 : ∀ j, η1 1 j = η 1 j := fun j => by rw [eη1]; exact zup_ne (fun e _ => absurd e (by decide))
    have fr1_1 : ∀ j, η1 1 j = η 1 j := v8
    have v9 : ∀ j, η2 1 j = η 1 j := fun j => (k7.1.2.2.2.1 1 _ (zinr_not (by decide +kernel))).trans (v8 j)
    have fr1_2 : ∀ j, η2 1 j = η 1 j := v9
    have v10 : ∀ j, η1 2 j = η 2 j := fun j => by rw [eη1]; exact zup_ne (fun e _ => absurd e (by decide))
    have v11 : ∀ j, η2 2 j = η 2 j := fun j => (k7.1.2.2.2.1 2 _ (zinr_not (by decide +kernel))).trans (v10 j)
    have fr2 : ∀ j, η2 2 j = η 2 j := v11
    have v12 : zEq (η2 0 7) (η 0 7) := (k7.1.2.2.2.1 0 7 (by decide +kernel)).trans v2
    have f0_7 : η2 0 7 = η 0 7 := v12
    have v13 : zEq (η2 0 6) (η 0 6) := (k7.1.2.2.2.1 0 6 (by decide +kernel)).trans v3
    have f0_6 : η2 0 6 = η 0 6 := v13
    have v14 : zEq (η2 0 8) (η 0 8) := (k7.1.2.2.2.1 0 8 (by decide +kernel)).trans v5
    have f0_8 : η2 0 8 = η 0 8 := v14
    have v15 : zEq (η2 0 9) (η 0 9) := (k7.1.2.2.2.1 0 9 (by decide +kernel)).trans v7
    have f0_9 : η2 0 9 = η 0 9 := v15
    have g : G_k η := hig.1
    have hh : η 0 7 ≤ η 0 6 := g.1
    have hs : η 0 6 = η0 0 6 := hI.2 0 6 (by decide +kernel)
    have hk0 : (0 : Int) ≤ η0 0 8 ∧ η0 0 8 ≤ 6 := wf_ok (a := 8) (b := 8) (z := (0, 6)) hp.1 (by decide +kernel) (Nat.le_refl _) (Nat.le_refl _)
    have hn : η0 0 7 ≤ η 0 7 := hig.2.1
    have hk : η 0 8 = η0 0 8 := hig.2.2
    have q7 : x6 < η1 0 6 ∧ 97 ≤ η1 1 (Int.toNat x6) ∧ η1 1 (Int.toNat x6) ≤ 122 := k7.2.2.2.1 c3
    rw [fr1_1] at q7
    have p7 := q7.1
    rw [show x6 = η 0 7 by omega] at q7
    have hG : G_k η2 := by
      first
      | (exfalso; omega)
      | exact gk_v f0_7 f0_6 f0_8 f0_9 fr2 g.2.2 (by omega) (k_o (by decide) (by decide))
      | exact gk_v f0_7 f0_6 f0_8 f0_9 fr2 g.2.2 (by omega) (k_o (fun w => by omega) (fun w => by omega))
      | exact gk_v f0_7 f0_6 f0_8 f0_9 fr2 g.2.2 (by omega) ⟨fun _ => ⟨by omega, by omega⟩, fun h => absurd h (by decide)⟩
      | exact gk_v f0_7 f0_6 f0_8 f0_9 fr2 g.2.2 (by omega) g.2.1
    first
    | (exfalso; omega)
    | exact ⟨⟨hG, Or.inr ⟨show η0 0 7 ≤ η2 0 7 by omega, show η2 0 7 < η2 0 6 by omega, by rw [fr1_2, show η2 0 7 = η 0 7 by omega]; exact q7.2.1, by rw [fr1_2, show η2 0 7 = η 0 7 by omega]; exact q7.2.2⟩⟩, Nat.zero_lt_one⟩
  · have b7 : (0 : Int) ≤ η 0 7 ∧ η 0 7 ≤ 700 := wf_ok (a := 7) (b := 7) (z := (0, 700)) hI.1.1 (by decide +kernel) (Nat.le_refl _) (Nat.le_refl _)
    have b6 : (0 : Int) ≤ η 0 6 ∧ η 0 6 ≤ 700 := wf_ok (a := 6) (b := 6) (z := (0, 700)) hI.1.1 (by decide +kernel) (Nat.le_refl _) (Nat.le_refl _)
    have hn : η 0 7 ≤ η 0 6 := hig.1.1
    have fig : yq_zI η0 η := fig
    have z1 : x1 = η 0 7 := e1
    have z2 : x2 = η 0 6 := e2
    have z3 : x3 = η 0 7 := e3
    have z4 : x4 = η 0 7 := e4.trans (by rw [eη1]; rfl)
    have z5 : x5 = η 0 6 := e5.trans (by rw [eη1]; rfl)
    exact absurd (show x4 = x5 by omega) c2
set_option maxHeartbeats 8000000 in
theorem zke_token_o6 {ro : Nat → List Int32} (xs : List Int) (η0 : zE) (hp : sP wl_ke zTr zPke_token xs η0) (hpp : pPke_token xs η0) (η : zE) (hI : zsI wl_ke zTr zVke_token zMke_token η0 0 [] η) (hig : iCke_token xs η0 0 [] η) : ∀ x1 : Int, x1 = η 0 (Int.toNat 7) → zok 0 x1 → ∀ x2 : Int, x2 = η 0 (Int.toNat 6) → zok 0 x2 → (x2 ≤ x1) → ∀ x3 : Int, x3 = η 0 (Int.toNat 7) → zok 0 x3 → ∀ η1 : zE, η1 = zup η 0 (Int.toNat 10) x3 → ∀ x4 : Int, x4 = η1 0 (Int.toNat 7) → zok 0 x4 → ∀ x5 : Int, x5 = η1 0 (Int.toNat 6) → zok 0 x5 → (x4 = x5) → ∀ η2 : zE, η2 = zup η1 0 (Int.toNat 8) 0 → (fun (_ : Nat) (y : Int) (η' : zE) => pQke_token xs η0 y η') 0 0 η2 := by
  have fig := hig.2
  have hig := hig.1
  intro x1 e1 r1 x2 e2 r2 c1 x3 e3 r3 η1 eη1 x4 e4 r4 x5 e5 r5 c2 η2 eη2
  refine yj_a ?_ ?_
  · have w0_0_7 : (0 : Int) ≤ η 0 7 ∧ η 0 7 ≤ 700 := wf_ok (a := 7) (b := 7) (z := (0, 700)) hI.1.1 (by decide +kernel) (Nat.le_refl _) (Nat.le_refl _)
    replace e1 : x1 = η 0 7 := e1
    replace r1 : -2147483648 ≤ x1 ∧ x1 ≤ 2147483647 := r1
    have w0_0_6 : (0 : Int) ≤ η 0 6 ∧ η 0 6 ≤ 700 := wf_ok (a := 6) (b := 6) (z := (0, 700)) hI.1.1 (by decide +kernel) (Nat.le_refl _) (Nat.le_refl _)
    replace e2 : x2 = η 0 6 := e2
    replace r2 : -2147483648 ≤ x2 ∧ x2 ≤ 2147483647 := r2
    replace e3 : x3 = η 0 7 := e3
    replace r3 : -2147483648 ≤ x3 ∧ x3 ≤ 2147483647 := r3
    have v2 : zEq (η1 0 7) (η 0 7) := by rw [eη1]; exact (zup_ne (fun _ e => absurd e (by decide))).trans rfl
    replace e4 : x4 = η 0 7 := e4.trans v2
    replace r4 : -2147483648 ≤ x4 ∧ x4 ≤ 2147483647 := r4
    have v3 : zEq (η1 0 6) (η 0 6) := by rw [eη1]; exact (zup_ne (fun _ e => absurd e (by decide))).trans rfl
    replace e5 : x5 = η 0 6 := e5.trans v3
    replace r5 : -2147483648 ≤ x5 ∧ x5 ≤ 2147483647 := r5
    have w0_0_8 : (0 : Int) ≤ η 0 8 ∧ η 0 8 ≤ 6 := wf_ok (a := 8) (b := 8) (z := (0, 6)) hI.1.1 (by decide +kernel) (Nat.le_refl _) (Nat.le_refl _)
    have v5 : zEq (η1 0 8) (η 0 8) := by rw [eη1]; exact (zup_ne (fun _ e => absurd e (by decide))).trans rfl
    have c1_0_8 : η1 0 8 = η 0 8 := v5
    have fr1_0 : ∀ j, η 1 j = η 1 j := fun _ => rfl
    have v6 : ∀ j, η1 1 j = η 1 j := fun j => by rw [eη1]; exact zup_ne (fun e _ => absurd e (by decide))
    have fr1_1 : ∀ j, η1 1 j = η 1 j := v6
    have v7 : ∀ j, η2 1 j = η 1 j := fun j => by rw [eη2]; exact (zup_ne (fun e _ => absurd e (by decide))).trans (v6 j)
    have fr1_2 : ∀ j, η2 1 j = η 1 j := v7
    have v8 : ∀ j, η1 2 j = η 2 j := fun j => by rw [eη1]; exact zup_ne (fun e _ => absurd e (by decide))
    have v9 : ∀ j, η2 2 j = η 2 j := fun j => by rw [eη2]; exact (zup_ne (fun e _ => absurd e (by decide))).trans (v8 j)
    have fr2 : ∀ j, η2 2 j = η 2 j := v9
    have v10 : zEq (η2 0 7) (η 0 7) := by rw [eη2]; exact (zup_ne (fun _ e => absurd e (by decide))).trans v2
    have f0_7 : η2 0 7 = η 0 7 := v10
    have v11 : zEq (η2 0 6) (η 0 6) := by rw [eη2]; exact (zup_ne (fun _ e => absurd e (by decide))).trans v3
    have f0_6 : η2 0 6 = η 0 6 := v11
    have v12 : zEq (η2 0 8) (0) := by rw [eη2]; exact zup_eq
    have f0_8 : η2 0 8 = 0 := v12
    have v14 : zEq (η1 0 9) (η 0 9) := by rw [eη1]; exact (zup_ne (fun _ e => absurd e (by decide))).trans rfl
    have v15 : zEq (η2 0 9) (η 0 9) := by rw [eη2]; exact (zup_ne (fun _ e => absurd e (by decide))).trans v14
    have f0_9 : η2 0 9 = η 0 9 := v15
    have g : G_k η := hig.1
    have hh : η 0 7 ≤ η 0 6 := g.1
    have hs : η 0 6 = η0 0 6 := hI.2 0 6 (by decide +kernel)
    have hk0 : (0 : Int) ≤ η0 0 8 ∧ η0 0 8 ≤ 6 := wf_ok (a := 8) (b := 8) (z := (0, 6)) hp.1 (by decide +kernel) (Nat.le_refl _) (Nat.le_refl _)
    have hn : η0 0 7 ≤ η 0 7 := hig.2.1
    have hk : η 0 8 = η0 0 8 := hig.2.2
    have hG : G_k η2 := by
      first
      | (exfalso; omega)
      | exact gk_v f0_7 f0_6 f0_8 f0_9 fr2 g.2.2 (by omega) (k_o (by decide) (by decide))
      | exact gk_v f0_7 f0_6 f0_8 f0_9 fr2 g.2.2 (by omega) (k_o (fun w => by omega) (fun w => by omega))
      | exact gk_v f0_7 f0_6 f0_8 f0_9 fr2 g.2.2 (by omega) ⟨fun _ => ⟨by omega, by omega⟩, fun h => absurd h (by decide)⟩
      | exact gk_v f0_7 f0_6 f0_8 f0_9 fr2 g.2.2 (by omega) g.2.1
    refine ⟨hG, fun w => ?_⟩
    have w : ¬ η0 0 8 = 0 := w
    show 10 * (η2 0 6 - η2 0 7) + η2 0 8 < 10 * (η0 0 6 - η0 0 7) + η0 0 8
    omega
  · have b7 : (0 : Int) ≤ η 0 7 ∧ η 0 7 ≤ 700 := wf_ok (a := 7) (b := 7) (z := (0, 700)) hI.1.1 (by decide +kernel) (Nat.le_refl _) (Nat.le_refl _)
    have b6 : (0 : Int) ≤ η 0 6 ∧ η 0 6 ≤ 700 := wf_ok (a := 6) (b := 6) (z := (0, 700)) hI.1.1 (by decide +kernel) (Nat.le_refl _) (Nat.le_refl _)
    have hn : η 0 7 ≤ η 0 6 := hig.1.1
    have fig : yq_zI η0 η := fig
    have z1 : x1 = η 0 7 := e1
    have z2 : x2 = η 0 6 := e2
    have z3 : x3 = η 0 7 := e3
    have z4 : x4 = η 0 7 := e4.trans (by rw [eη1]; rfl)
    have z5 : x5 = η 0 6 := e5.trans (by rw [eη1]; rfl)
    show η2 = yq_tok η0
    rw [eη2, eη1, z3]
    exact qtok_of fig b7.1 (Or.inl (by omega)) (qtok_e b7.1 (by omega))
set_option maxHeartbeats 8000000 in
theorem zke_token_o7 {ro : Nat → List Int32} (xs : List Int) (η0 : zE) (hp : sP wl_ke zTr zPke_token xs η0) (hpp : pPke_token xs η0) (η : zE) (hI : zsI wl_ke zTr zVke_token zMke_token η0 0 [] η) (hig : iCke_token xs η0 0 [] η) : ∀ x1 : Int, x1 = η 0 (Int.toNat 7) → zok 0 x1 → ∀ x2 : Int, x2 = η 0 (Int.toNat 6) → zok 0 x2 → (x1 < x2) → ∀ x3 : Int, x3 = η 0 (Int.toNat 7) → zok 0 x3 → ∀ x4 : Int, x4 = η 1 (Int.toNat x3) → zok 0 x4 → (x4 = 10) → ∀ x5 : Int, x5 = η 0 (Int.toNat 7) → zok 0 x5 → ∀ x6 : Int, x6 = zd 0 1 x5 1 → ∀ η1 : zE, η1 = zup η 0 (Int.toNat 7) x6 → (iCke_token xs η0) 0 [] η1 ∧ (fun (_ : Nat) (_ : List Int) (_ : zE) => (0 : Nat)) 0 [] η1 < 1 := by
  have fig := hig.2
  have hig := hig.1
  intro x1 e1 r1 x2 e2 r2 c1 x3 e3 r3 x4 e4 r4 c2 x5 e5 r5 x6 e6 η1 eη1
  refine yj_c ?_ ?_
  · replace e6 := zEq_i e6
    have w0_0_7 : (0 : Int) ≤ η 0 7 ∧ η 0 7 ≤ 700 := wf_ok (a := 7) (b := 7) (z := (0, 700)) hI.1.1 (by decide +kernel) (Nat.le_refl _) (Nat.le_refl _)
    replace e1 : x1 = η 0 7 := e1
    replace r1 : -2147483648 ≤ x1 ∧ x1 ≤ 2147483647 := r1
    have w0_0_6 : (0 : Int) ≤ η 0 6 ∧ η 0 6 ≤ 700 := wf_ok (a := 6) (b := 6) (z := (0, 700)) hI.1.1 (by decide +kernel) (Nat.le_refl _) (Nat.le_refl _)
    replace e2 : x2 = η 0 6 := e2
    replace r2 : -2147483648 ≤ x2 ∧ x2 ≤ 2147483647 := r2
    replace e3 : x3 = η 0 7 := e3
    replace r3 : -2147483648 ≤ x3 ∧ x3 ≤ 2147483647 := r3
    replace e4 : x4 = η 1 (Int.toNat x3) := e4
    replace r4 : -2147483648 ≤ x4 ∧ x4 ≤ 2147483647 := r4
    replace e5 : x5 = η 0 7 := e5
    replace r5 : -2147483648 ≤ x5 ∧ x5 ≤ 2147483647 := r5
    first
    | replace e6 : x6 = x5 + 1 := zd_a2 (zEq_o e6) (by clear e6; exact ⟨by omega, by omega⟩)
    | clear e6
    have c0_0_7 : η 0 7 = η 0 7 := rfl
    have fr1_0 : ∀ j, η 1 j = η 1 j := fun _ => rfl
    have v3 : ∀ j, η1 1 j = η 1 j := fun j => by rw [eη1]; exact zup_ne (fun e _ => absurd e (by decide))
    have fr1_1 : ∀ j, η1 1 j = η 1 j := v3
    have v4 : ∀ j, η1 2 j = η 2 j := fun j => by rw [eη1]; exact zup_ne (fun e _ => absurd e (by decide))
    have fr2 : ∀ j, η1 2 j = η 2 j := v4
    have v5 : zEq (η1 0 7) (x6) := by rw [eη1]; exact zup_eq
    have f0_7 : η1 0 7 = x6 := v5
    have v6 : zEq (η1 0 6) (η 0 6) := by rw [eη1]; exact (zup_ne (fun _ e => absurd e (by decide))).trans rfl
    have f0_6 : η1 0 6 = η 0 6 := v6
    have w0_0_8 : (0 : Int) ≤ η 0 8 ∧ η 0 8 ≤ 6 := wf_ok (a := 8) (b := 8) (z := (0, 6)) hI.1.1 (by decide +kernel) (Nat.le_refl _) (Nat.le_refl _)
    have v8 : zEq (η1 0 8) (η 0 8) := by rw [eη1]; exact (zup_ne (fun _ e => absurd e (by decide))).trans rfl
    have f0_8 : η1 0 8 = η 0 8 := v8
    have v10 : zEq (η1 0 9) (η 0 9) := by rw [eη1]; exact (zup_ne (fun _ e => absurd e (by decide))).trans rfl
    have f0_9 : η1 0 9 = η 0 9 := v10
    have g : G_k η := hig.1
    have hh : η 0 7 ≤ η 0 6 := g.1
    have hs : η 0 6 = η0 0 6 := hI.2 0 6 (by decide +kernel)
    have hk0 : (0 : Int) ≤ η0 0 8 ∧ η0 0 8 ≤ 6 := wf_ok (a := 8) (b := 8) (z := (0, 6)) hp.1 (by decide +kernel) (Nat.le_refl _) (Nat.le_refl _)
    have hn : η0 0 7 ≤ η 0 7 := hig.2.1
    have hk : η 0 8 = η0 0 8 := hig.2.2
    have hG : G_k η1 := by
      first
      | (exfalso; omega)
      | exact gk_v f0_7 f0_6 f0_8 f0_9 fr2 g.2.2 (by omega) (k_o (by decide) (by decide))
      | exact gk_v f0_7 f0_6 f0_8 f0_9 fr2 g.2.2 (by omega) (k_o (fun w => by omega) (fun w => by omega))
      | exact gk_v f0_7 f0_6 f0_8 f0_9 fr2 g.2.2 (by omega) ⟨fun _ => ⟨by omega, by omega⟩, fun h => absurd h (by decide)⟩
      | exact gk_v f0_7 f0_6 f0_8 f0_9 fr2 g.2.2 (by omega) g.2.1
    exact ⟨⟨hG, show η0 0 7 ≤ η1 0 7 by omega, show η1 0 8 = η0 0 8 by omega⟩, Nat.zero_lt_one⟩
  · have b7 : (0 : Int) ≤ η 0 7 ∧ η 0 7 ≤ 700 := wf_ok (a := 7) (b := 7) (z := (0, 700)) hI.1.1 (by decide +kernel) (Nat.le_refl _) (Nat.le_refl _)
    have b6 : (0 : Int) ≤ η 0 6 ∧ η 0 6 ≤ 700 := wf_ok (a := 6) (b := 6) (z := (0, 700)) hI.1.1 (by decide +kernel) (Nat.le_refl _) (Nat.le_refl _)
    have hn : η 0 7 ≤ η 0 6 := hig.1.1
    have fig : yq_zI η0 η := fig
    have z1 : x1 = η 0 7 := e1
    have z2 : x2 = η 0 6 := e2
    have z3 : x3 = η 0 7 := e3
    have z4 : x4 = η 1 (η 0 7).toNat := by rw [← z3]; exact e4
    have z5 : x5 = η 0 7 := e5
    rw [zd_a ⟨by omega, by omega⟩] at e6
    show yq_zI η0 η1
    rw [eη1, e6, z5]
    exact qzI_s fig b7.1 (by omega) (yb_10 (Or.inl (by rw [← z4]; exact c2)))
set_option maxHeartbeats 8000000 in
theorem zke_token_o8 {ro : Nat → List Int32} (xs : List Int) (η0 : zE) (hp : sP wl_ke zTr zPke_token xs η0) (hpp : pPke_token xs η0) (η : zE) (hI : zsI wl_ke zTr zVke_token zMke_token η0 0 [] η) (hig : iCke_token xs η0 0 [] η) : ∀ x1 : Int, x1 = η 0 (Int.toNat 7) → zok 0 x1 → ∀ x2 : Int, x2 = η 0 (Int.toNat 6) → zok 0 x2 → (x1 < x2) → ∀ x3 : Int, x3 = η 0 (Int.toNat 7) → zok 0 x3 → ∀ x4 : Int, x4 = η 1 (Int.toNat x3) → zok 0 x4 → (¬ x4 = 10) → ∀ x5 : Int, x5 = η 0 (Int.toNat 7) → zok 0 x5 → ∀ x6 : Int, x6 = η 1 (Int.toNat x5) → zok 0 x6 → (¬ x6 = 32) → ∀ x7 : Int, x7 = η 0 (Int.toNat 7) → zok 0 x7 → ∀ η1 : zE, η1 = zup η 0 (Int.toNat 10) x7 → ∀ x8 : Int, x8 = η1 0 (Int.toNat 7) → zok 0 x8 → ∀ x9 : Int, x9 = η1 0 (Int.toNat 6) → zok 0 x9 → (¬ x8 = x9) → ∀ x10 : Int, x10 = η1 0 (Int.toNat 7) → zok 0 x10 → ((gC2 wl_ke [(nat_lit 0, zPke_isSmall, zOke_isSmall, zMke_isSmall), (nat_lit 1, zPke_isDigit, zOke_isDigit, zMke_isDigit), (nat_lit 2, zPke_wordAt, zOke_wordAt, zMke_wordAt), (nat_lit 3, zPke_packed, zOke_packed, zMke_packed), (nat_lit 4, zPke_signToken, zOke_signToken, zMke_signToken)] pCke_token qCke_token) 0).1 [x10] η1 := by
  have fig := hig.2
  have hig := hig.1
  intro x1 e1 r1 x2 e2 r2 c1 x3 e3 r3 x4 e4 r4 c2 x5 e5 r5 x6 e6 r6 c3 x7 e7 r7 η1 eη1 x8 e8 r8 x9 e9 r9 c4 x10 e10 r10
  have w0_0_7 : (0 : Int) ≤ η 0 7 ∧ η 0 7 ≤ 700 := wf_ok (a := 7) (b := 7) (z := (0, 700)) hI.1.1 (by decide +kernel) (Nat.le_refl _) (Nat.le_refl _)
  replace e1 : x1 = η 0 7 := e1
  replace r1 : -2147483648 ≤ x1 ∧ x1 ≤ 2147483647 := r1
  have w0_0_6 : (0 : Int) ≤ η 0 6 ∧ η 0 6 ≤ 700 := wf_ok (a := 6) (b := 6) (z := (0, 700)) hI.1.1 (by decide +kernel) (Nat.le_refl _) (Nat.le_refl _)
  replace e2 : x2 = η 0 6 := e2
  replace r2 : -2147483648 ≤ x2 ∧ x2 ≤ 2147483647 := r2
  replace e3 : x3 = η 0 7 := e3
  replace r3 : -2147483648 ≤ x3 ∧ x3 ≤ 2147483647 := r3
  replace e4 : x4 = η 1 (Int.toNat x3) := e4
  replace r4 : -2147483648 ≤ x4 ∧ x4 ≤ 2147483647 := r4
  replace e5 : x5 = η 0 7 := e5
  replace r5 : -2147483648 ≤ x5 ∧ x5 ≤ 2147483647 := r5
  replace e6 : x6 = η 1 (Int.toNat x5) := e6
  replace r6 : -2147483648 ≤ x6 ∧ x6 ≤ 2147483647 := r6
  replace e7 : x7 = η 0 7 := e7
  replace r7 : -2147483648 ≤ x7 ∧ x7 ≤ 2147483647 := r7
  have v4 : zEq (η1 0 7) (η 0 7) := by rw [eη1]; exact (zup_ne (fun _ e => absurd e (by decide))).trans rfl
  replace e8 : x8 = η 0 7 := e8.trans v4
  replace r8 : -2147483648 ≤ x8 ∧ x8 ≤ 2147483647 := r8
  have v5 : zEq (η1 0 6) (η 0 6) := by rw [eη1]; exact (zup_ne (fun _ e => absurd e (by decide))).trans rfl
  replace e9 : x9 = η 0 6 := e9.trans v5
  replace r9 : -2147483648 ≤ x9 ∧ x9 ≤ 2147483647 := r9
  replace e10 : x10 = η 0 7 := e10.trans v4
  replace r10 : -2147483648 ≤ x10 ∧ x10 ≤ 2147483647 := r10
  have fr1_0 : ∀ j, η 1 j = η 1 j := fun _ => rfl
  have v6 : ∀ j, η1 1 j = η 1 j := fun j => by rw [eη1]; exact zup_ne (fun e _ => absurd e (by decide))
  have fr1_1 : ∀ j, η1 1 j = η 1 j := v6
  have v7 : ∀ j, η1 2 j = η 2 j := fun j => by rw [eη1]; exact zup_ne (fun e _ => absurd e (by decide))
  have fr2 : ∀ j, η1 2 j = η 2 j := v7
  have f0_7 : η1 0 7 = η 0 7 := v4
  have f0_6 : η1 0 6 = η 0 6 := v5
  have w0_0_8 : (0 : Int) ≤ η 0 8 ∧ η 0 8 ≤ 6 := wf_ok (a := 8) (b := 8) (z := (0, 6)) hI.1.1 (by decide +kernel) (Nat.le_refl _) (Nat.le_refl _)
  have v9 : zEq (η1 0 8) (η 0 8) := by rw [eη1]; exact (zup_ne (fun _ e => absurd e (by decide))).trans rfl
  have f0_8 : η1 0 8 = η 0 8 := v9
  have v11 : zEq (η1 0 9) (η 0 9) := by rw [eη1]; exact (zup_ne (fun _ e => absurd e (by decide))).trans rfl
  have f0_9 : η1 0 9 = η 0 9 := v11
  have g : G_k η := hig.1
  have hh : η 0 7 ≤ η 0 6 := g.1
  have hs : η 0 6 = η0 0 6 := hI.2 0 6 (by decide +kernel)
  have hk0 : (0 : Int) ≤ η0 0 8 ∧ η0 0 8 ≤ 6 := wf_ok (a := 8) (b := 8) (z := (0, 6)) hp.1 (by decide +kernel) (Nat.le_refl _) (Nat.le_refl _)
  have hn : η0 0 7 ≤ η 0 7 := hig.2.1
  have hk : η 0 8 = η0 0 8 := hig.2.2
  have hG : G_k η1 := by
    first
    | (exfalso; omega)
    | exact gk_v f0_7 f0_6 f0_8 f0_9 fr2 g.2.2 (by omega) (k_o (by decide) (by decide))
    | exact gk_v f0_7 f0_6 f0_8 f0_9 fr2 g.2.2 (by omega) (k_o (fun w => by omega) (fun w => by omega))
    | exact gk_v f0_7 f0_6 f0_8 f0_9 fr2 g.2.2 (by omega) ⟨fun _ => ⟨by omega, by omega⟩, fun h => absurd h (by decide)⟩
    | exact gk_v f0_7 f0_6 f0_8 f0_9 fr2 g.2.2 (by omega) g.2.1
  exact hG
set_option maxHeartbeats 8000000 in
theorem zke_token_o9 {ro : Nat → List Int32} (xs : List Int) (η0 : zE) (hp : sP wl_ke zTr zPke_token xs η0) (hpp : pPke_token xs η0) (η : zE) (hI : zsI wl_ke zTr zVke_token zMke_token η0 0 [] η) (hig : iCke_token xs η0 0 [] η) : ∀ x1 : Int, x1 = η 0 (Int.toNat 7) → zok 0 x1 → ∀ x2 : Int, x2 = η 0 (Int.toNat 6) → zok 0 x2 → (x1 < x2) → ∀ x3 : Int, x3 = η 0 (Int.toNat 7) → zok 0 x3 → ∀ x4 : Int, x4 = η 1 (Int.toNat x3) → zok 0 x4 → (¬ x4 = 10) → ∀ x5 : Int, x5 = η 0 (Int.toNat 7) → zok 0 x5 → ∀ x6 : Int, x6 = η 1 (Int.toNat x5) → zok 0 x6 → (¬ x6 = 32) → ∀ x7 : Int, x7 = η 0 (Int.toNat 7) → zok 0 x7 → ∀ η1 : zE, η1 = zup η 0 (Int.toNat 10) x7 → ∀ x8 : Int, x8 = η1 0 (Int.toNat 7) → zok 0 x8 → ∀ x9 : Int, x9 = η1 0 (Int.toNat 6) → zok 0 x9 → (¬ x8 = x9) → ∀ x10 : Int, x10 = η1 0 (Int.toNat 7) → zok 0 x10 → ∀ (x11 : Int) (η2 : zE), ((gC2 wl_ke [(nat_lit 0, zPke_isSmall, zOke_isSmall, zMke_isSmall), (nat_lit 1, zPke_isDigit, zOke_isDigit, zMke_isDigit), (nat_lit 2, zPke_wordAt, zOke_wordAt, zMke_wordAt), (nat_lit 3, zPke_packed, zOke_packed, zMke_packed), (nat_lit 4, zPke_signToken, zOke_signToken, zMke_signToken)] pCke_token qCke_token) 0).2 [x10] η1 x11 η2 → (x11 = 0) → ∀ x12 : Int, x12 = η2 0 (Int.toNat 7) → zok 0 x12 → ((gC2 wl_ke [(nat_lit 0, zPke_isSmall, zOke_isSmall, zMke_isSmall), (nat_lit 1, zPke_isDigit, zOke_isDigit, zMke_isDigit), (nat_lit 2, zPke_wordAt, zOke_wordAt, zMke_wordAt), (nat_lit 3, zPke_packed, zOke_packed, zMke_packed), (nat_lit 4, zPke_signToken, zOke_signToken, zMke_signToken)] pCke_token qCke_token) 1).1 [x12] η2 := by
  have fig := hig.2
  have hig := hig.1
  intro x1 e1 r1 x2 e2 r2 c1 x3 e3 r3 x4 e4 r4 c2 x5 e5 r5 x6 e6 r6 c3 x7 e7 r7 η1 eη1 x8 e8 r8 x9 e9 r9 c4 x10 e10 r10 x11 η2 h11 c5 x12 e12 r12
  have y11 : fQke_isSmall [x10] η1 x11 η2 := h11.2.2
  have k11 : sQ wl_ke zTr zOke_isSmall zMke_isSmall [x10] η1 x11 η2 ∧ oQke_isSmall [x10] η1 x11 η2 := ⟨h11.1, h11.2.1⟩
  have w0_0_7 : (0 : Int) ≤ η 0 7 ∧ η 0 7 ≤ 700 := wf_ok (a := 7) (b := 7) (z := (0, 700)) hI.1.1 (by decide +kernel) (Nat.le_refl _) (Nat.le_refl _)
  replace e1 : x1 = η 0 7 := e1
  replace r1 : -2147483648 ≤ x1 ∧ x1 ≤ 2147483647 := r1
  have w0_0_6 : (0 : Int) ≤ η 0 6 ∧ η 0 6 ≤ 700 := wf_ok (a := 6) (b := 6) (z := (0, 700)) hI.1.1 (by decide +kernel) (Nat.le_refl _) (Nat.le_refl _)
  replace e2 : x2 = η 0 6 := e2
  replace r2 : -2147483648 ≤ x2 ∧ x2 ≤ 2147483647 := r2
  replace e3 : x3 = η 0 7 := e3
  replace r3 : -2147483648 ≤ x3 ∧ x3 ≤ 2147483647 := r3
  replace e4 : x4 = η 1 (Int.toNat x3) := e4
  replace r4 : -2147483648 ≤ x4 ∧ x4 ≤ 2147483647 := r4
  replace e5 : x5 = η 0 7 := e5
  replace r5 : -2147483648 ≤ x5 ∧ x5 ≤ 2147483647 := r5
  replace e6 : x6 = η 1 (Int.toNat x5) := e6
  replace r6 : -2147483648 ≤ x6 ∧ x6 ≤ 2147483647 := r6
  replace e7 : x7 = η 0 7 := e7
  replace r7 : -2147483648 ≤ x7 ∧ x7 ≤ 2147483647 := r7
  have v4 : zEq (η1 0 7) (η 0 7) := by rw [eη1]; exact (zup_ne (fun _ e => absurd e (by decide))).trans rfl
  replace e8 : x8 = η 0 7 := e8.trans v4
  replace r8 : -2147483648 ≤ x8 ∧ x8 ≤ 2147483647 := r8
  have v5 : zEq (η1 0 6) (η 0 6) := by rw [eη1]; exact (zup_ne (fun _ e => absurd e (by decide))).trans rfl
  replace e9 : x9 = η 0 6 := e9.trans v5
  replace r9 : -2147483648 ≤ x9 ∧ x9 ≤ 2147483647 := r9
  replace e10 : x10 = η 0 7 := e10.trans v4
  replace r10 : -2147483648 ≤ x10 ∧ x10 ≤ 2147483647 := r10
  have c1_0_7 : η1 0 7 = η 0 7 := v4
  have c1_0_6 : η1 0 6 = η 0 6 := v5
  have w0_0_8 : (0 : Int) ≤ η 0 8 ∧ η 0 8 ≤ 6 := wf_ok (a := 8) (b := 8) (z := (0, 6)) hI.1.1 (by decide +kernel) (Nat.le_refl _) (Nat.le_refl _)
  have v7 : zEq (η1 0 8) (η 0 8) := by rw [eη1]; exact (zup_ne (fun _ e => absurd e (by decide))).trans rfl
  have c1_0_8 : η1 0 8 = η 0 8 := v7
  have v9 : zEq (η1 0 9) (η 0 9) := by rw [eη1]; exact (zup_ne (fun _ e => absurd e (by decide))).trans rfl
  have c1_0_9 : η1 0 9 = η 0 9 := v9
  have bx11 : (0 : Int) ≤ x11 ∧ x11 ≤ 1 := k11.1.2.1
  have v10 : zEq (η2 0 7) (η 0 7) := (k11.1.2.2.2.1 0 7 (by decide +kernel)).trans v4
  replace e12 : x12 = η 0 7 := e12.trans v10
  replace r12 : -2147483648 ≤ x12 ∧ x12 ≤ 2147483647 := r12
  have fr1_0 : ∀ j, η 1 j = η 1 j := fun _ => rfl
  have v11 : ∀ j, η1 1 j = η 1 j := fun j => by rw [eη1]; exact zup_ne (fun e _ => absurd e (by decide))
  have fr1_1 : ∀ j, η1 1 j = η 1 j := v11
  have v12 : ∀ j, η2 1 j = η 1 j := fun j => (k11.1.2.2.2.1 1 _ (zinr_not (by decide +kernel))).trans (v11 j)
  have fr1_2 : ∀ j, η2 1 j = η 1 j := v12
  have v13 : ∀ j, η1 2 j = η 2 j := fun j => by rw [eη1]; exact zup_ne (fun e _ => absurd e (by decide))
  have v14 : ∀ j, η2 2 j = η 2 j := fun j => (k11.1.2.2.2.1 2 _ (zinr_not (by decide +kernel))).trans (v13 j)
  have fr2 : ∀ j, η2 2 j = η 2 j := v14
  have f0_7 : η2 0 7 = η 0 7 := v10
  have v15 : zEq (η2 0 6) (η 0 6) := (k11.1.2.2.2.1 0 6 (by decide +kernel)).trans v5
  have f0_6 : η2 0 6 = η 0 6 := v15
  have v16 : zEq (η2 0 8) (η 0 8) := (k11.1.2.2.2.1 0 8 (by decide +kernel)).trans v7
  have f0_8 : η2 0 8 = η 0 8 := v16
  have v17 : zEq (η2 0 9) (η 0 9) := (k11.1.2.2.2.1 0 9 (by decide +kernel)).trans v9
  have f0_9 : η2 0 9 = η 0 9 := v17
  have g : G_k η := hig.1
  have hh : η 0 7 ≤ η 0 6 := g.1
  have hs : η 0 6 = η0 0 6 := hI.2 0 6 (by decide +kernel)
  have hk0 : (0 : Int) ≤ η0 0 8 ∧ η0 0 8 ≤ 6 := wf_ok (a := 8) (b := 8) (z := (0, 6)) hp.1 (by decide +kernel) (Nat.le_refl _) (Nat.le_refl _)
  have hn : η0 0 7 ≤ η 0 7 := hig.2.1
  have hk : η 0 8 = η0 0 8 := hig.2.2
  have hG : G_k η2 := by
    first
    | (exfalso; omega)
    | exact gk_v f0_7 f0_6 f0_8 f0_9 fr2 g.2.2 (by omega) (k_o (by decide) (by decide))
    | exact gk_v f0_7 f0_6 f0_8 f0_9 fr2 g.2.2 (by omega) (k_o (fun w => by omega) (fun w => by omega))
    | exact gk_v f0_7 f0_6 f0_8 f0_9 fr2 g.2.2 (by omega) ⟨fun _ => ⟨by omega, by omega⟩, fun h => absurd h (by decide)⟩
    | exact gk_v f0_7 f0_6 f0_8 f0_9 fr2 g.2.2 (by omega) g.2.1
  exact hG
set_option maxHeartbeats 8000000 in
theorem zke_token_o10 {ro : Nat → List Int32} (xs : List Int) (η0 : zE) (hp : sP wl_ke zTr zPke_token xs η0) (hpp : pPke_token xs η0) (η : zE) (hI : zsI wl_ke zTr zVke_token zMke_token η0 0 [] η) (hig : iCke_token xs η0 0 [] η) : ∀ x1 : Int, x1 = η 0 (Int.toNat 7) → zok 0 x1 → ∀ x2 : Int, x2 = η 0 (Int.toNat 6) → zok 0 x2 → (x1 < x2) → ∀ x3 : Int, x3 = η 0 (Int.toNat 7) → zok 0 x3 → ∀ x4 : Int, x4 = η 1 (Int.toNat x3) → zok 0 x4 → (¬ x4 = 10) → ∀ x5 : Int, x5 = η 0 (Int.toNat 7) → zok 0 x5 → ∀ x6 : Int, x6 = η 1 (Int.toNat x5) → zok 0 x6 → (¬ x6 = 32) → ∀ x7 : Int, x7 = η 0 (Int.toNat 7) → zok 0 x7 → ∀ η1 : zE, η1 = zup η 0 (Int.toNat 10) x7 → ∀ x8 : Int, x8 = η1 0 (Int.toNat 7) → zok 0 x8 → ∀ x9 : Int, x9 = η1 0 (Int.toNat 6) → zok 0 x9 → (¬ x8 = x9) → ∀ x10 : Int, x10 = η1 0 (Int.toNat 7) → zok 0 x10 → ∀ (x11 : Int) (η2 : zE), ((gC2 wl_ke [(nat_lit 0, zPke_isSmall, zOke_isSmall, zMke_isSmall), (nat_lit 1, zPke_isDigit, zOke_isDigit, zMke_isDigit), (nat_lit 2, zPke_wordAt, zOke_wordAt, zMke_wordAt), (nat_lit 3, zPke_packed, zOke_packed, zMke_packed), (nat_lit 4, zPke_signToken, zOke_signToken, zMke_signToken)] pCke_token qCke_token) 0).2 [x10] η1 x11 η2 → (x11 = 0) → ∀ x12 : Int, x12 = η2 0 (Int.toNat 7) → zok 0 x12 → ∀ (x13 : Int) (η3 : zE), ((gC2 wl_ke [(nat_lit 0, zPke_isSmall, zOke_isSmall, zMke_isSmall), (nat_lit 1, zPke_isDigit, zOke_isDigit, zMke_isDigit), (nat_lit 2, zPke_wordAt, zOke_wordAt, zMke_wordAt), (nat_lit 3, zPke_packed, zOke_packed, zMke_packed), (nat_lit 4, zPke_signToken, zOke_signToken, zMke_signToken)] pCke_token qCke_token) 1).2 [x12] η2 x13 η3 → (x13 = 0) → ((gC2 wl_ke [(nat_lit 0, zPke_isSmall, zOke_isSmall, zMke_isSmall), (nat_lit 1, zPke_isDigit, zOke_isDigit, zMke_isDigit), (nat_lit 2, zPke_wordAt, zOke_wordAt, zMke_wordAt), (nat_lit 3, zPke_packed, zOke_packed, zMke_packed), (nat_lit 4, zPke_signToken, zOke_signToken, zMke_signToken)] pCke_token qCke_token) 4).1 [] η3 := by
  have fig := hig.2
  have hig := hig.1
  intro x1 e1 r1 x2 e2 r2 c1 x3 e3 r3 x4 e4 r4 c2 x5 e5 r5 x6 e6 r6 c3 x7 e7 r7 η1 eη1 x8 e8 r8 x9 e9 r9 c4 x10 e10 r10 x11 η2 h11 c5 x12 e12 r12 x13 η3 h13 c6
  have y11 : fQke_isSmall [x10] η1 x11 η2 := h11.2.2
  have k11 : sQ wl_ke zTr zOke_isSmall zMke_isSmall [x10] η1 x11 η2 ∧ oQke_isSmall [x10] η1 x11 η2 := ⟨h11.1, h11.2.1⟩
  have y13 : fQke_isDigit [x12] η2 x13 η3 := h13.2.2
  have k13 : sQ wl_ke zTr zOke_isDigit zMke_isDigit [x12] η2 x13 η3 ∧ oQke_isDigit [x12] η2 x13 η3 := ⟨h13.1, h13.2.1⟩
  have w0_0_7 : (0 : Int) ≤ η 0 7 ∧ η 0 7 ≤ 700 := wf_ok (a := 7) (b := 7) (z := (0, 700)) hI.1.1 (by decide +kernel) (Nat.le_refl _) (Nat.le_refl _)
  replace e1 : x1 = η 0 7 := e1
  replace r1 : -2147483648 ≤ x1 ∧ x1 ≤ 2147483647 := r1
  have w0_0_6 : (0 : Int) ≤ η 0 6 ∧ η 0 6 ≤ 700 := wf_ok (a := 6) (b := 6) (z := (0, 700)) hI.1.1 (by decide +kernel) (Nat.le_refl _) (Nat.le_refl _)
  replace e2 : x2 = η 0 6 := e2
  replace r2 : -2147483648 ≤ x2 ∧ x2 ≤ 2147483647 := r2
  replace e3 : x3 = η 0 7 := e3
  replace r3 : -2147483648 ≤ x3 ∧ x3 ≤ 2147483647 := r3
  replace e4 : x4 = η 1 (Int.toNat x3) := e4
  replace r4 : -2147483648 ≤ x4 ∧ x4 ≤ 2147483647 := r4
  replace e5 : x5 = η 0 7 := e5
  replace r5 : -2147483648 ≤ x5 ∧ x5 ≤ 2147483647 := r5
  replace e6 : x6 = η 1 (Int.toNat x5) := e6
  replace r6 : -2147483648 ≤ x6 ∧ x6 ≤ 2147483647 := r6
  replace e7 : x7 = η 0 7 := e7
  replace r7 : -2147483648 ≤ x7 ∧ x7 ≤ 2147483647 := r7
  have v4 : zEq (η1 0 7) (η 0 7) := by rw [eη1]; exact (zup_ne (fun _ e => absurd e (by decide))).trans rfl
  replace e8 : x8 = η 0 7 := e8.trans v4
  replace r8 : -2147483648 ≤ x8 ∧ x8 ≤ 2147483647 := r8
  have v5 : zEq (η1 0 6) (η 0 6) := by rw [eη1]; exact (zup_ne (fun _ e => absurd e (by decide))).trans rfl
  replace e9 : x9 = η 0 6 := e9.trans v5
  replace r9 : -2147483648 ≤ x9 ∧ x9 ≤ 2147483647 := r9
  replace e10 : x10 = η 0 7 := e10.trans v4
  replace r10 : -2147483648 ≤ x10 ∧ x10 ≤ 2147483647 := r10
  have c1_0_7 : η1 0 7 = η 0 7 := v4
  have c1_0_6 : η1 0 6 = η 0 6 := v5
  have w0_0_8 : (0 : Int) ≤ η 0 8 ∧ η 0 8 ≤ 6 := wf_ok (a := 8) (b := 8) (z := (0, 6)) hI.1.1 (by decide +kernel) (Nat.le_refl _) (Nat.le_refl _)
  have v7 : zEq (η1 0 8) (η 0 8) := by rw [eη1]; exact (zup_ne (fun _ e => absurd e (by decide))).trans rfl
  have c1_0_8 : η1 0 8 = η 0 8 := v7
  have v9 : zEq (η1 0 9) (η 0 9) := by rw [eη1]; exact (zup_ne (fun _ e => absurd e (by decide))).trans rfl
  have c1_0_9 : η1 0 9 = η 0 9 := v9
  have bx11 : (0 : Int) ≤ x11 ∧ x11 ≤ 1 := k11.1.2.1
  have v10 : zEq (η2 0 7) (η 0 7) := (k11.1.2.2.2.1 0 7 (by decide +kernel)).trans v4
  replace e12 : x12 = η 0 7 := e12.trans v10
  replace r12 : -2147483648 ≤ x12 ∧ x12 ≤ 2147483647 := r12
  have c2_0_7 : η2 0 7 = η 0 7 := v10
  have v11 : zEq (η2 0 6) (η 0 6) := (k11.1.2.2.2.1 0 6 (by decide +kernel)).trans v5
  have c2_0_6 : η2 0 6 = η 0 6 := v11
  have v12 : zEq (η2 0 8) (η 0 8) := (k11.1.2.2.2.1 0 8 (by decide +kernel)).trans v7
  have c2_0_8 : η2 0 8 = η 0 8 := v12
  have v13 : zEq (η2 0 9) (η 0 9) := (k11.1.2.2.2.1 0 9 (by decide +kernel)).trans v9
  have c2_0_9 : η2 0 9 = η 0 9 := v13
  have bx13 : (0 : Int) ≤ x13 ∧ x13 ≤ 1 := k13.1.2.1
  have fr1_0 : ∀ j, η 1 j = η 1 j := fun _ => rfl
  have v14 : ∀ j, η1 1 j = η 1 j := fun j => by rw [eη1]; exact zup_ne (fun e _ => absurd e (by decide))
  have fr1_1 : ∀ j, η1 1 j = η 1 j := v14
  have v15 : ∀ j, η2 1 j = η 1 j := fun j => (k11.1.2.2.2.1 1 _ (zinr_not (by decide +kernel))).trans (v14 j)
  have fr1_2 : ∀ j, η2 1 j = η 1 j := v15
  have v16 : ∀ j, η3 1 j = η 1 j := fun j => (k13.1.2.2.2.1 1 _ (zinr_not (by decide +kernel))).trans (v15 j)
  have fr1_3 : ∀ j, η3 1 j = η 1 j := v16
  have v17 : ∀ j, η1 2 j = η 2 j := fun j => by rw [eη1]; exact zup_ne (fun e _ => absurd e (by decide))
  have v18 : ∀ j, η2 2 j = η 2 j := fun j => (k11.1.2.2.2.1 2 _ (zinr_not (by decide +kernel))).trans (v17 j)
  have v19 : ∀ j, η3 2 j = η 2 j := fun j => (k13.1.2.2.2.1 2 _ (zinr_not (by decide +kernel))).trans (v18 j)
  have fr2 : ∀ j, η3 2 j = η 2 j := v19
  have v20 : zEq (η3 0 7) (η 0 7) := (k13.1.2.2.2.1 0 7 (by decide +kernel)).trans v10
  have f0_7 : η3 0 7 = η 0 7 := v20
  have v21 : zEq (η3 0 6) (η 0 6) := (k13.1.2.2.2.1 0 6 (by decide +kernel)).trans v11
  have f0_6 : η3 0 6 = η 0 6 := v21
  have v22 : zEq (η3 0 8) (η 0 8) := (k13.1.2.2.2.1 0 8 (by decide +kernel)).trans v12
  have f0_8 : η3 0 8 = η 0 8 := v22
  have v23 : zEq (η3 0 9) (η 0 9) := (k13.1.2.2.2.1 0 9 (by decide +kernel)).trans v13
  have f0_9 : η3 0 9 = η 0 9 := v23
  have g : G_k η := hig.1
  have hh : η 0 7 ≤ η 0 6 := g.1
  have hs : η 0 6 = η0 0 6 := hI.2 0 6 (by decide +kernel)
  have hk0 : (0 : Int) ≤ η0 0 8 ∧ η0 0 8 ≤ 6 := wf_ok (a := 8) (b := 8) (z := (0, 6)) hp.1 (by decide +kernel) (Nat.le_refl _) (Nat.le_refl _)
  have hn : η0 0 7 ≤ η 0 7 := hig.2.1
  have hk : η 0 8 = η0 0 8 := hig.2.2
  first
  | (exfalso; omega)
  | exact ⟨show η3 0 7 < η3 0 6 by omega, fun j hj => by rw [fr2]; exact g.2.2 j hj⟩
set_option maxHeartbeats 8000000 in
theorem zke_token_o11 {ro : Nat → List Int32} (xs : List Int) (η0 : zE) (hp : sP wl_ke zTr zPke_token xs η0) (hpp : pPke_token xs η0) (η : zE) (hI : zsI wl_ke zTr zVke_token zMke_token η0 0 [] η) (hig : iCke_token xs η0 0 [] η) : ∀ x1 : Int, x1 = η 0 (Int.toNat 7) → zok 0 x1 → ∀ x2 : Int, x2 = η 0 (Int.toNat 6) → zok 0 x2 → (x1 < x2) → ∀ x3 : Int, x3 = η 0 (Int.toNat 7) → zok 0 x3 → ∀ x4 : Int, x4 = η 1 (Int.toNat x3) → zok 0 x4 → (¬ x4 = 10) → ∀ x5 : Int, x5 = η 0 (Int.toNat 7) → zok 0 x5 → ∀ x6 : Int, x6 = η 1 (Int.toNat x5) → zok 0 x6 → (¬ x6 = 32) → ∀ x7 : Int, x7 = η 0 (Int.toNat 7) → zok 0 x7 → ∀ η1 : zE, η1 = zup η 0 (Int.toNat 10) x7 → ∀ x8 : Int, x8 = η1 0 (Int.toNat 7) → zok 0 x8 → ∀ x9 : Int, x9 = η1 0 (Int.toNat 6) → zok 0 x9 → (¬ x8 = x9) → ∀ x10 : Int, x10 = η1 0 (Int.toNat 7) → zok 0 x10 → ∀ (x11 : Int) (η2 : zE), ((gC2 wl_ke [(nat_lit 0, zPke_isSmall, zOke_isSmall, zMke_isSmall), (nat_lit 1, zPke_isDigit, zOke_isDigit, zMke_isDigit), (nat_lit 2, zPke_wordAt, zOke_wordAt, zMke_wordAt), (nat_lit 3, zPke_packed, zOke_packed, zMke_packed), (nat_lit 4, zPke_signToken, zOke_signToken, zMke_signToken)] pCke_token qCke_token) 0).2 [x10] η1 x11 η2 → (x11 = 0) → ∀ x12 : Int, x12 = η2 0 (Int.toNat 7) → zok 0 x12 → ∀ (x13 : Int) (η3 : zE), ((gC2 wl_ke [(nat_lit 0, zPke_isSmall, zOke_isSmall, zMke_isSmall), (nat_lit 1, zPke_isDigit, zOke_isDigit, zMke_isDigit), (nat_lit 2, zPke_wordAt, zOke_wordAt, zMke_wordAt), (nat_lit 3, zPke_packed, zOke_packed, zMke_packed), (nat_lit 4, zPke_signToken, zOke_signToken, zMke_signToken)] pCke_token qCke_token) 1).2 [x12] η2 x13 η3 → (x13 = 0) → ∀ (x14 : Int) (η4 : zE), ((gC2 wl_ke [(nat_lit 0, zPke_isSmall, zOke_isSmall, zMke_isSmall), (nat_lit 1, zPke_isDigit, zOke_isDigit, zMke_isDigit), (nat_lit 2, zPke_wordAt, zOke_wordAt, zMke_wordAt), (nat_lit 3, zPke_packed, zOke_packed, zMke_packed), (nat_lit 4, zPke_signToken, zOke_signToken, zMke_signToken)] pCke_token qCke_token) 4).2 [] η3 x14 η4 → (fun (_ : Nat) (y : Int) (η' : zE) => pQke_token xs η0 y η') 0 0 η4 := by
  have fig := hig.2
  have hig := hig.1
  intro x1 e1 r1 x2 e2 r2 c1 x3 e3 r3 x4 e4 r4 c2 x5 e5 r5 x6 e6 r6 c3 x7 e7 r7 η1 eη1 x8 e8 r8 x9 e9 r9 c4 x10 e10 r10 x11 η2 h11 c5 x12 e12 r12 x13 η3 h13 c6 x14 η4 h14
  have y11 : fQke_isSmall [x10] η1 x11 η2 := h11.2.2
  have k11 : sQ wl_ke zTr zOke_isSmall zMke_isSmall [x10] η1 x11 η2 ∧ oQke_isSmall [x10] η1 x11 η2 := ⟨h11.1, h11.2.1⟩
  have y13 : fQke_isDigit [x12] η2 x13 η3 := h13.2.2
  have k13 : sQ wl_ke zTr zOke_isDigit zMke_isDigit [x12] η2 x13 η3 ∧ oQke_isDigit [x12] η2 x13 η3 := ⟨h13.1, h13.2.1⟩
  have y14 : fQke_signToken [] η3 x14 η4 := h14.2.2
  have k14 : sQ wl_ke zTr zOke_signToken zMke_signToken [] η3 x14 η4 ∧ oQke_signToken [] η3 x14 η4 := ⟨h14.1, h14.2.1⟩
  refine yj_a ?_ ?_
  · have y11 : fQke_isSmall [x10] η1 x11 η2 := h11.2.2
    have k11 : sQ wl_ke zTr zOke_isSmall zMke_isSmall [x10] η1 x11 η2 ∧ oQke_isSmall [x10] η1 x11 η2 := ⟨h11.1, h11.2.1⟩
    have y13 : fQke_isDigit [x12] η2 x13 η3 := h13.2.2
    have k13 : sQ wl_ke zTr zOke_isDigit zMke_isDigit [x12] η2 x13 η3 ∧ oQke_isDigit [x12] η2 x13 η3 := ⟨h13.1, h13.2.1⟩
    have y14 : fQke_signToken [] η3 x14 η4 := h14.2.2
    have k14 : sQ wl_ke zTr zOke_signToken zMke_signToken [] η3 x14 η4 ∧ oQke_signToken [] η3 x14 η4 := ⟨h14.1, h14.2.1⟩
    have w0_0_7 : (0 : Int) ≤ η 0 7 ∧ η 0 7 ≤ 700 := wf_ok (a := 7) (b := 7) (z := (0, 700)) hI.1.1 (by decide +kernel) (Nat.le_refl _) (Nat.le_refl _)
    replace e1 : x1 = η 0 7 := e1
    replace r1 : -2147483648 ≤ x1 ∧ x1 ≤ 2147483647 := r1
    have w0_0_6 : (0 : Int) ≤ η 0 6 ∧ η 0 6 ≤ 700 := wf_ok (a := 6) (b := 6) (z := (0, 700)) hI.1.1 (by decide +kernel) (Nat.le_refl _) (Nat.le_refl _)
    replace e2 : x2 = η 0 6 := e2
    replace r2 : -2147483648 ≤ x2 ∧ x2 ≤ 2147483647 := r2
    replace e3 : x3 = η 0 7 := e3
    replace r3 : -2147483648 ≤ x3 ∧ x3 ≤ 2147483647 := r3
    replace e4 : x4 = η 1 (Int.toNat x3) := e4
    replace r4 : -2147483648 ≤ x4 ∧ x4 ≤ 2147483647 := r4
    replace e5 : x5 = η 0 7 := e5
    replace r5 : -2147483648 ≤ x5 ∧ x5 ≤ 2147483647 := r5
    replace e6 : x6 = η 1 (Int.toNat x5) := e6
    replace r6 : -2147483648 ≤ x6 ∧ x6 ≤ 2147483647 := r6
    replace e7 : x7 = η 0 7 := e7
    replace r7 : -2147483648 ≤ x7 ∧ x7 ≤ 2147483647 := r7
    have v4 : zEq (η1 0 7) (η 0 7) := by rw [eη1]; exact (zup_ne (fun _ e => absurd e (by decide))).trans rfl
    replace e8 : x8 = η 0 7 := e8.trans v4
    replace r8 : -2147483648 ≤ x8 ∧ x8 ≤ 2147483647 := r8
    have v5 : zEq (η1 0 6) (η 0 6) := by rw [eη1]; exact (zup_ne (fun _ e => absurd e (by decide))).trans rfl
    replace e9 : x9 = η 0 6 := e9.trans v5
    replace r9 : -2147483648 ≤ x9 ∧ x9 ≤ 2147483647 := r9
    replace e10 : x10 = η 0 7 := e10.trans v4
    replace r10 : -2147483648 ≤ x10 ∧ x10 ≤ 2147483647 := r10
    have c1_0_7 : η1 0 7 = η 0 7 := v4
    have c1_0_6 : η1 0 6 = η 0 6 := v5
    have w0_0_8 : (0 : Int) ≤ η 0 8 ∧ η 0 8 ≤ 6 := wf_ok (a := 8) (b := 8) (z := (0, 6)) hI.1.1 (by decide +kernel) (Nat.le_refl _) (Nat.le_refl _)
    have v7 : zEq (η1 0 8) (η 0 8) := by rw [eη1]; exact (zup_ne (fun _ e => absurd e (by decide))).trans rfl
    have c1_0_8 : η1 0 8 = η 0 8 := v7
    have v9 : zEq (η1 0 9) (η 0 9) := by rw [eη1]; exact (zup_ne (fun _ e => absurd e (by decide))).trans rfl
    have c1_0_9 : η1 0 9 = η 0 9 := v9
    have bx11 : (0 : Int) ≤ x11 ∧ x11 ≤ 1 := k11.1.2.1
    have v10 : zEq (η2 0 7) (η 0 7) := (k11.1.2.2.2.1 0 7 (by decide +kernel)).trans v4
    replace e12 : x12 = η 0 7 := e12.trans v10
    replace r12 : -2147483648 ≤ x12 ∧ x12 ≤ 2147483647 := r12
    have c2_0_7 : η2 0 7 = η 0 7 := v10
    have v11 : zEq (η2 0 6) (η 0 6) := (k11.1.2.2.2.1 0 6 (by decide +kernel)).trans v5
    have c2_0_6 : η2 0 6 = η 0 6 := v11
    have v12 : zEq (η2 0 8) (η 0 8) := (k11.1.2.2.2.1 0 8 (by decide +kernel)).trans v7
    have c2_0_8 : η2 0 8 = η 0 8 := v12
    have v13 : zEq (η2 0 9) (η 0 9) := (k11.1.2.2.2.1 0 9 (by decide +kernel)).trans v9
    have c2_0_9 : η2 0 9 = η 0 9 := v13
    have bx13 : (0 : Int) ≤ x13 ∧ x13 ≤ 1 := k13.1.2.1
    have v14 : zEq (η3 0 7) (η 0 7) := (k13.1.2.2.2.1 0 7 (by decide +kernel)).trans v10
    have c3_0_7 : η3 0 7 = η 0 7 := v14
    have v15 : zEq (η3 0 6) (η 0 6) := (k13.1.2.2.2.1 0 6 (by decide +kernel)).trans v11
    have c3_0_6 : η3 0 6 = η 0 6 := v15
    have v16 : zEq (η3 0 8) (η 0 8) := (k13.1.2.2.2.1 0 8 (by decide +kernel)).trans v12
    have c3_0_8 : η3 0 8 = η 0 8 := v16
    have v17 : zEq (η3 0 9) (η 0 9) := (k13.1.2.2.2.1 0 9 (by decide +kernel)).trans v13
    have c3_0_9 : η3 0 9 = η 0 9 := v17
    have bx14 : (0 : Int) ≤ x14 ∧ x14 ≤ 0 := k14.1.2.1
    have fr1_0 : ∀ j, η 1 j = η 1 j := fun _ => rfl
    have v18 : ∀ j, η1 1 j = η 1 j := fun j => by rw [eη1]; exact zup_ne (fun e _ => absurd e (by decide))
    have fr1_1 : ∀ j, η1 1 j = η 1 j := v18
    have v19 : ∀ j, η2 1 j = η 1 j := fun j => (k11.1.2.2.2.1 1 _ (zinr_not (by decide +kernel))).trans (v18 j)
    have fr1_2 : ∀ j, η2 1 j = η 1 j := v19
    have v20 : ∀ j, η3 1 j = η 1 j := fun j => (k13.1.2.2.2.1 1 _ (zinr_not (by decide +kernel))).trans (v19 j)
    have fr1_3 : ∀ j, η3 1 j = η 1 j := v20
    have v21 : ∀ j, η4 1 j = η 1 j := fun j => (k14.1.2.2.2.1 1 _ (zinr_not (by decide +kernel))).trans (v20 j)
    have fr1_4 : ∀ j, η4 1 j = η 1 j := v21
    have v22 : ∀ j, η1 2 j = η 2 j := fun j => by rw [eη1]; exact zup_ne (fun e _ => absurd e (by decide))
    have v23 : ∀ j, η2 2 j = η 2 j := fun j => (k11.1.2.2.2.1 2 _ (zinr_not (by decide +kernel))).trans (v22 j)
    have v24 : ∀ j, η3 2 j = η 2 j := fun j => (k13.1.2.2.2.1 2 _ (zinr_not (by decide +kernel))).trans (v23 j)
    have v25 : ∀ j, η4 2 j = η 2 j := fun j => (k14.1.2.2.2.1 2 _ (zinr_not (by decide +kernel))).trans (v24 j)
    have fr2 : ∀ j, η4 2 j = η 2 j := v25
    have w4_0_7 : (0 : Int) ≤ η4 0 7 ∧ η4 0 7 ≤ 700 := wf_ok (a := 7) (b := 7) (z := (0, 700)) k14.1.1 (by decide +kernel) (Nat.le_refl _) (Nat.le_refl _)
    have f0_7 : η4 0 7 = η4 0 7 := rfl
    have v27 : zEq (η4 0 6) (η 0 6) := (k14.1.2.2.2.1 0 6 (by decide +kernel)).trans v15
    have f0_6 : η4 0 6 = η 0 6 := v27
    have w4_0_8 : (0 : Int) ≤ η4 0 8 ∧ η4 0 8 ≤ 6 := wf_ok (a := 8) (b := 8) (z := (0, 6)) k14.1.1 (by decide +kernel) (Nat.le_refl _) (Nat.le_refl _)
    have f0_8 : η4 0 8 = η4 0 8 := rfl
    have f0_9 : η4 0 9 = η4 0 9 := rfl
    have g : G_k η := hig.1
    have hh : η 0 7 ≤ η 0 6 := g.1
    have hs : η 0 6 = η0 0 6 := hI.2 0 6 (by decide +kernel)
    have hk0 : (0 : Int) ≤ η0 0 8 ∧ η0 0 8 ≤ 6 := wf_ok (a := 8) (b := 8) (z := (0, 6)) hp.1 (by decide +kernel) (Nat.le_refl _) (Nat.le_refl _)
    have hn : η0 0 7 ≤ η 0 7 := hig.2.1
    have hk : η 0 8 = η0 0 8 := hig.2.2
    have q14 : η3 0 7 < η4 0 7 := k14.2.2
    have hG : G_k η4 := by first | (exfalso; omega) | exact k14.2.1
    refine ⟨hG, fun w => ?_⟩
    have w : ¬ η0 0 8 = 0 := w
    show 10 * (η4 0 6 - η4 0 7) + η4 0 8 < 10 * (η0 0 6 - η0 0 7) + η0 0 8
    omega
  · have b7 : (0 : Int) ≤ η 0 7 ∧ η 0 7 ≤ 700 := wf_ok (a := 7) (b := 7) (z := (0, 700)) hI.1.1 (by decide +kernel) (Nat.le_refl _) (Nat.le_refl _)
    have b6 : (0 : Int) ≤ η 0 6 ∧ η 0 6 ≤ 700 := wf_ok (a := 6) (b := 6) (z := (0, 700)) hI.1.1 (by decide +kernel) (Nat.le_refl _) (Nat.le_refl _)
    have hn : η 0 7 ≤ η 0 6 := hig.1.1
    have fig : yq_zI η0 η := fig
    have z1 : x1 = η 0 7 := e1
    have z2 : x2 = η 0 6 := e2
    have z3 : x3 = η 0 7 := e3
    have z4 : x4 = η 1 (η 0 7).toNat := by rw [← z3]; exact e4
    have z5 : x5 = η 0 7 := e5
    have z6 : x6 = η 1 (η 0 7).toNat := by rw [← z5]; exact e6
    have z7 : x7 = η 0 7 := e7
    rw [z7] at eη1
    have S0 : yq_S0 η0 η := ⟨fig, b7.1, by omega, yb_n (by rw [← z4]; exact c2) (by rw [← z6]; exact c3), ⟨by omega, by omega⟩⟩
    have z10 : x10 = η 0 7 := e10.trans (by rw [eη1]; rfl)
    have w2 : η2 = η1 := y11.2
    have q := k11.2.2.2.2 c5
    rw [show [x10].getD 0 0 = η 0 7 from z10, eη1] at q
    have ql : yp_le (η 1 (η 0 7).toNat) = false := l_no (fun w => q ⟨show η 0 7 < η 0 6 by omega, w.1, w.2⟩)
    have z12 : x12 = η 0 7 := e12.trans (by rw [w2, eη1]; rfl)
    have w3 : η3 = η2 := y13.2
    have p := k13.2.2.2.2 c6
    rw [show [x12].getD 0 0 = η 0 7 from z12, w2, eη1] at p
    have qd : yp_di (η 1 (η 0 7).toNat) = false := d_no (fun w => p ⟨show η 0 7 < η 0 6 by omega, w.1, w.2⟩)
    have w4 : η4 = yq_snS η3 := y14
    show η4 = yq_tok η0
    rw [w4, w3, w2, eη1]
    exact tS_of S0 (qs_E b7.1 (by omega) ql qd S0.2.2.2.2)
set_option maxHeartbeats 8000000 in
theorem zke_token_o12 {ro : Nat → List Int32} (xs : List Int) (η0 : zE) (hp : sP wl_ke zTr zPke_token xs η0) (hpp : pPke_token xs η0) (η : zE) (hI : zsI wl_ke zTr zVke_token zMke_token η0 0 [] η) (hig : iCke_token xs η0 0 [] η) : ∀ x1 : Int, x1 = η 0 (Int.toNat 7) → zok 0 x1 → ∀ x2 : Int, x2 = η 0 (Int.toNat 6) → zok 0 x2 → (x1 < x2) → ∀ x3 : Int, x3 = η 0 (Int.toNat 7) → zok 0 x3 → ∀ x4 : Int, x4 = η 1 (Int.toNat x3) → zok 0 x4 → (¬ x4 = 10) → ∀ x5 : Int, x5 = η 0 (Int.toNat 7) → zok 0 x5 → ∀ x6 : Int, x6 = η 1 (Int.toNat x5) → zok 0 x6 → (¬ x6 = 32) → ∀ x7 : Int, x7 = η 0 (Int.toNat 7) → zok 0 x7 → ∀ η1 : zE, η1 = zup η 0 (Int.toNat 10) x7 → ∀ x8 : Int, x8 = η1 0 (Int.toNat 7) → zok 0 x8 → ∀ x9 : Int, x9 = η1 0 (Int.toNat 6) → zok 0 x9 → (¬ x8 = x9) → ∀ x10 : Int, x10 = η1 0 (Int.toNat 7) → zok 0 x10 → ∀ (x11 : Int) (η2 : zE), ((gC2 wl_ke [(nat_lit 0, zPke_isSmall, zOke_isSmall, zMke_isSmall), (nat_lit 1, zPke_isDigit, zOke_isDigit, zMke_isDigit), (nat_lit 2, zPke_wordAt, zOke_wordAt, zMke_wordAt), (nat_lit 3, zPke_packed, zOke_packed, zMke_packed), (nat_lit 4, zPke_signToken, zOke_signToken, zMke_signToken)] pCke_token qCke_token) 0).2 [x10] η1 x11 η2 → (x11 = 0) → ∀ x12 : Int, x12 = η2 0 (Int.toNat 7) → zok 0 x12 → ∀ (x13 : Int) (η3 : zE), ((gC2 wl_ke [(nat_lit 0, zPke_isSmall, zOke_isSmall, zMke_isSmall), (nat_lit 1, zPke_isDigit, zOke_isDigit, zMke_isDigit), (nat_lit 2, zPke_wordAt, zOke_wordAt, zMke_wordAt), (nat_lit 3, zPke_packed, zOke_packed, zMke_packed), (nat_lit 4, zPke_signToken, zOke_signToken, zMke_signToken)] pCke_token qCke_token) 1).2 [x12] η2 x13 η3 → (¬ x13 = 0) → ∀ η4 : zE, η4 = zup η3 0 (Int.toNat 8) 3 → ∀ η5 : zE, η5 = zup η4 0 (Int.toNat 9) 0 → (iCke_token xs η0) 2 [] η5 ∧ (fun (_ : Nat) (_ : List Int) (_ : zE) => (0 : Nat)) 2 [] η5 < 1 := by
  have fig := hig.2
  have hig := hig.1
  intro x1 e1 r1 x2 e2 r2 c1 x3 e3 r3 x4 e4 r4 c2 x5 e5 r5 x6 e6 r6 c3 x7 e7 r7 η1 eη1 x8 e8 r8 x9 e9 r9 c4 x10 e10 r10 x11 η2 h11 c5 x12 e12 r12 x13 η3 h13 c6 η4 eη4 η5 eη5
  have y11 : fQke_isSmall [x10] η1 x11 η2 := h11.2.2
  have k11 : sQ wl_ke zTr zOke_isSmall zMke_isSmall [x10] η1 x11 η2 ∧ oQke_isSmall [x10] η1 x11 η2 := ⟨h11.1, h11.2.1⟩
  have y13 : fQke_isDigit [x12] η2 x13 η3 := h13.2.2
  have k13 : sQ wl_ke zTr zOke_isDigit zMke_isDigit [x12] η2 x13 η3 ∧ oQke_isDigit [x12] η2 x13 η3 := ⟨h13.1, h13.2.1⟩
  refine yj_c ?_ ?_
  · have y11 : fQke_isSmall [x10] η1 x11 η2 := h11.2.2
    have k11 : sQ wl_ke zTr zOke_isSmall zMke_isSmall [x10] η1 x11 η2 ∧ oQke_isSmall [x10] η1 x11 η2 := ⟨h11.1, h11.2.1⟩
    have y13 : fQke_isDigit [x12] η2 x13 η3 := h13.2.2
    have k13 : sQ wl_ke zTr zOke_isDigit zMke_isDigit [x12] η2 x13 η3 ∧ oQke_isDigit [x12] η2 x13 η3 := ⟨h13.1, h13.2.1⟩
    have w0_0_7 : (0 : Int) ≤ η 0 7 ∧ η 0 7 ≤ 700 := wf_ok (a := 7) (b := 7) (z := (0, 700)) hI.1.1 (by decide +kernel) (Nat.le_refl _) (Nat.le_refl _)
    replace e1 : x1 = η 0 7 := e1
    replace r1 : -2147483648 ≤ x1 ∧ x1 ≤ 2147483647 := r1
    have w0_0_6 : (0 : Int) ≤ η 0 6 ∧ η 0 6 ≤ 700 := wf_ok (a := 6) (b := 6) (z := (0, 700)) hI.1.1 (by decide +kernel) (Nat.le_refl _) (Nat.le_refl _)
    replace e2 : x2 = η 0 6 := e2
    replace r2 : -2147483648 ≤ x2 ∧ x2 ≤ 2147483647 := r2
    replace e3 : x3 = η 0 7 := e3
    replace r3 : -2147483648 ≤ x3 ∧ x3 ≤ 2147483647 := r3
    replace e4 : x4 = η 1 (Int.toNat x3) := e4
    replace r4 : -2147483648 ≤ x4 ∧ x4 ≤ 2147483647 := r4
    replace e5 : x5 = η 0 7 := e5
    replace r5 : -2147483648 ≤ x5 ∧ x5 ≤ 2147483647 := r5
    replace e6 : x6 = η 1 (Int.toNat x5) := e6
    replace r6 : -2147483648 ≤ x6 ∧ x6 ≤ 2147483647 := r6
    replace e7 : x7 = η 0 7 := e7
    replace r7 : -2147483648 ≤ x7 ∧ x7 ≤ 2147483647 := r7
    have v4 : zEq (η1 0 7) (η 0 7) := by rw [eη1]; exact (zup_ne (fun _ e => absurd e (by decide))).trans rfl
    replace e8 : x8 = η 0 7 := e8.trans v4
    replace r8 : -2147483648 ≤ x8 ∧ x8 ≤ 2147483647 := r8
    have v5 : zEq (η1 0 6) (η 0 6) := by rw [eη1]; exact (zup_ne (fun _ e => absurd e (by decide))).trans rfl
    replace e9 : x9 = η 0 6 := e9.trans v5
    replace r9 : -2147483648 ≤ x9 ∧ x9 ≤ 2147483647 := r9
    replace e10 : x10 = η 0 7 := e10.trans v4
    replace r10 : -2147483648 ≤ x10 ∧ x10 ≤ 2147483647 := r10
    have c1_0_7 : η1 0 7 = η 0 7 := v4
    have c1_0_6 : η1 0 6 = η 0 6 := v5
    have w0_0_8 : (0 : Int) ≤ η 0 8 ∧ η 0 8 ≤ 6 := wf_ok (a := 8) (b := 8) (z := (0, 6)) hI.1.1 (by decide +kernel) (Nat.le_refl _) (Nat.le_refl _)
    have v7 : zEq (η1 0 8) (η 0 8) := by rw [eη1]; exact (zup_ne (fun _ e => absurd e (by decide))).trans rfl
    have c1_0_8 : η1 0 8 = η 0 8 := v7
    have v9 : zEq (η1 0 9) (η 0 9) := by rw [eη1]; exact (zup_ne (fun _ e => absurd e (by decide))).trans rfl
    have c1_0_9 : η1 0 9 = η 0 9 := v9
    have bx11 : (0 : Int) ≤ x11 ∧ x11 ≤ 1 := k11.1.2.1
    have v10 : zEq (η2 0 7) (η 0 7) := (k11.1.2.2.2.1 0 7 (by decide +kernel)).trans v4
    replace e12 : x12 = η 0 7 := e12.trans v10
    replace r12 : -2147483648 ≤ x12 ∧ x12 ≤ 2147483647 := r12
    have c2_0_7 : η2 0 7 = η 0 7 := v10
    have v11 : zEq (η2 0 6) (η 0 6) := (k11.1.2.2.2.1 0 6 (by decide +kernel)).trans v5
    have c2_0_6 : η2 0 6 = η 0 6 := v11
    have v12 : zEq (η2 0 8) (η 0 8) := (k11.1.2.2.2.1 0 8 (by decide +kernel)).trans v7
    have c2_0_8 : η2 0 8 = η 0 8 := v12
    have v13 : zEq (η2 0 9) (η 0 9) := (k11.1.2.2.2.1 0 9 (by decide +kernel)).trans v9
    have c2_0_9 : η2 0 9 = η 0 9 := v13
    have bx13 : (0 : Int) ≤ x13 ∧ x13 ≤ 1 := k13.1.2.1
    have v14 : zEq (η3 0 8) (η 0 8) := (k13.1.2.2.2.1 0 8 (by decide +kernel)).trans v12
    have c3_0_8 : η3 0 8 = η 0 8 := v14
    have v15 : zEq (η3 0 9) (η 0 9) := (k13.1.2.2.2.1 0 9 (by decide +kernel)).trans v13
    have v16 : zEq (η4 0 9) (η 0 9) := by rw [eη4]; exact (zup_ne (fun _ e => absurd e (by decide))).trans v15
    have c4_0_9 : η4 0 9 = η 0 9 := v16
    have fr1_0 : ∀ j, η 1 j = η 1 j := fun _ => rfl
    have v17 : ∀ j, η1 1 j = η 1 j := fun j => by rw [eη1]; exact zup_ne (fun e _ => absurd e (by decide))
    have fr1_1 : ∀ j, η1 1 j = η 1 j := v17
    have v18 : ∀ j, η2 1 j = η 1 j := fun j => (k11.1.2.2.2.1 1 _ (zinr_not (by decide +kernel))).trans (v17 j)
    have fr1_2 : ∀ j, η2 1 j = η 1 j := v18
    have v19 : ∀ j, η3 1 j = η 1 j := fun j => (k13.1.2.2.2.1 1 _ (zinr_not (by decide +kernel))).trans (v18 j)
    have fr1_3 : ∀ j, η3 1 j = η 1 j := v19
    have v20 : ∀ j, η4 1 j = η 1 j := fun j => by rw [eη4]; exact (zup_ne (fun e _ => absurd e (by decide))).trans (v19 j)
    have fr1_4 : ∀ j, η4 1 j = η 1 j := v20
    have v21 : ∀ j, η5 1 j = η 1 j := fun j => by rw [eη5]; exact (zup_ne (fun e _ => absurd e (by decide))).trans (v20 j)
    have fr1_5 : ∀ j, η5 1 j = η 1 j := v21
    have v22 : ∀ j, η1 2 j = η 2 j := fun j => by rw [eη1]; exact zup_ne (fun e _ => absurd e (by decide))
    have v23 : ∀ j, η2 2 j = η 2 j := fun j => (k11.1.2.2.2.1 2 _ (zinr_not (by decide +kernel))).trans (v22 j)
    have v24 : ∀ j, η3 2 j = η 2 j := fun j => (k13.1.2.2.2.1 2 _ (zinr_not (by decide +kernel))).trans (v23 j)
    have v25 : ∀ j, η4 2 j = η 2 j := fun j => by rw [eη4]; exact (zup_ne (fun e _ => absurd e (by decide))).trans (v24 j)
    have v26 : ∀ j, η5 2 j = η 2 j := fun j => by rw [eη5]; exact (zup_ne (fun e _ => absurd e (by decide))).trans (v25 j)
    have fr2 : ∀ j, η5 2 j = η 2 j := v26
    have v27 : zEq (η3 0 7) (η 0 7) := (k13.1.2.2.2.1 0 7 (by decide +kernel)).trans v10
    have v28 : zEq (η4 0 7) (η 0 7) := by rw [eη4]; exact (zup_ne (fun _ e => absurd e (by decide))).trans v27
    have v29 : zEq (η5 0 7) (η 0 7) := by rw [eη5]; exact (zup_ne (fun _ e => absurd e (by decide))).trans v28
    have f0_7 : η5 0 7 = η 0 7 := v29
    have v30 : zEq (η3 0 6) (η 0 6) := (k13.1.2.2.2.1 0 6 (by decide +kernel)).trans v11
    have v31 : zEq (η4 0 6) (η 0 6) := by rw [eη4]; exact (zup_ne (fun _ e => absurd e (by decide))).trans v30
    have v32 : zEq (η5 0 6) (η 0 6) := by rw [eη5]; exact (zup_ne (fun _ e => absurd e (by decide))).trans v31
    have f0_6 : η5 0 6 = η 0 6 := v32
    have v33 : zEq (η4 0 8) (3) := by rw [eη4]; exact zup_eq
    have v34 : zEq (η5 0 8) (3) := by rw [eη5]; exact (zup_ne (fun _ e => absurd e (by decide))).trans v33
    have f0_8 : η5 0 8 = 3 := v34
    have v35 : zEq (η5 0 9) (0) := by rw [eη5]; exact zup_eq
    have f0_9 : η5 0 9 = 0 := v35
    have g : G_k η := hig.1
    have hh : η 0 7 ≤ η 0 6 := g.1
    have hs : η 0 6 = η0 0 6 := hI.2 0 6 (by decide +kernel)
    have hk0 : (0 : Int) ≤ η0 0 8 ∧ η0 0 8 ≤ 6 := wf_ok (a := 8) (b := 8) (z := (0, 6)) hp.1 (by decide +kernel) (Nat.le_refl _) (Nat.le_refl _)
    have hn : η0 0 7 ≤ η 0 7 := hig.2.1
    have hk : η 0 8 = η0 0 8 := hig.2.2
    have q13 : x12 < η2 0 6 ∧ 48 ≤ η2 1 (Int.toNat x12) ∧ η2 1 (Int.toNat x12) ≤ 57 := k13.2.2.2.1 c6
    rw [fr1_2] at q13
    have p13 := q13.1
    rw [show x12 = η 0 7 by omega] at q13
    have hG : G_k η5 := by
      first
      | (exfalso; omega)
      | exact gk_v f0_7 f0_6 f0_8 f0_9 fr2 g.2.2 (by omega) (k_o (by decide) (by decide))
      | exact gk_v f0_7 f0_6 f0_8 f0_9 fr2 g.2.2 (by omega) (k_o (fun w => by omega) (fun w => by omega))
      | exact gk_v f0_7 f0_6 f0_8 f0_9 fr2 g.2.2 (by omega) ⟨fun _ => ⟨by omega, by omega⟩, fun h => absurd h (by decide)⟩
      | exact gk_v f0_7 f0_6 f0_8 f0_9 fr2 g.2.2 (by omega) g.2.1
    first
    | (exfalso; omega)
    | exact ⟨⟨hG, show η5 0 8 = 3 by omega, Or.inr ⟨show η0 0 7 ≤ η5 0 7 by omega, show η5 0 7 < η5 0 6 by omega, by rw [fr1_5, show η5 0 7 = η 0 7 by omega]; exact q13.2.1, by rw [fr1_5, show η5 0 7 = η 0 7 by omega]; exact q13.2.2⟩⟩, Nat.zero_lt_one⟩
  · have b7 : (0 : Int) ≤ η 0 7 ∧ η 0 7 ≤ 700 := wf_ok (a := 7) (b := 7) (z := (0, 700)) hI.1.1 (by decide +kernel) (Nat.le_refl _) (Nat.le_refl _)
    have b6 : (0 : Int) ≤ η 0 6 ∧ η 0 6 ≤ 700 := wf_ok (a := 6) (b := 6) (z := (0, 700)) hI.1.1 (by decide +kernel) (Nat.le_refl _) (Nat.le_refl _)
    have hn : η 0 7 ≤ η 0 6 := hig.1.1
    have fig : yq_zI η0 η := fig
    have z1 : x1 = η 0 7 := e1
    have z2 : x2 = η 0 6 := e2
    have z3 : x3 = η 0 7 := e3
    have z4 : x4 = η 1 (η 0 7).toNat := by rw [← z3]; exact e4
    have z5 : x5 = η 0 7 := e5
    have z6 : x6 = η 1 (η 0 7).toNat := by rw [← z5]; exact e6
    have z7 : x7 = η 0 7 := e7
    rw [z7] at eη1
    have S0 : yq_S0 η0 η := ⟨fig, b7.1, by omega, yb_n (by rw [← z4]; exact c2) (by rw [← z6]; exact c3), ⟨by omega, by omega⟩⟩
    have z10 : x10 = η 0 7 := e10.trans (by rw [eη1]; rfl)
    have w2 : η2 = η1 := y11.2
    have q := k11.2.2.2.2 c5
    rw [show [x10].getD 0 0 = η 0 7 from z10, eη1] at q
    have ql : yp_le (η 1 (η 0 7).toNat) = false := l_no (fun w => q ⟨show η 0 7 < η 0 6 by omega, w.1, w.2⟩)
    have z12 : x12 = η 0 7 := e12.trans (by rw [w2, eη1]; rfl)
    have w3 : η3 = η2 := y13.2
    have p := k13.2.2.2.1 c6
    rw [show [x12].getD 0 0 = η 0 7 from z12, w2, eη1] at p
    exact tN_0 S0 ql (yd_y p.2.1 p.2.2) (by rw [eη5, eη4, w3, w2, eη1]; rfl)
set_option maxHeartbeats 8000000 in
theorem zke_token_o13 {ro : Nat → List Int32} (xs : List Int) (η0 : zE) (hp : sP wl_ke zTr zPke_token xs η0) (hpp : pPke_token xs η0) (η : zE) (hI : zsI wl_ke zTr zVke_token zMke_token η0 0 [] η) (hig : iCke_token xs η0 0 [] η) : ∀ x1 : Int, x1 = η 0 (Int.toNat 7) → zok 0 x1 → ∀ x2 : Int, x2 = η 0 (Int.toNat 6) → zok 0 x2 → (x1 < x2) → ∀ x3 : Int, x3 = η 0 (Int.toNat 7) → zok 0 x3 → ∀ x4 : Int, x4 = η 1 (Int.toNat x3) → zok 0 x4 → (¬ x4 = 10) → ∀ x5 : Int, x5 = η 0 (Int.toNat 7) → zok 0 x5 → ∀ x6 : Int, x6 = η 1 (Int.toNat x5) → zok 0 x6 → (¬ x6 = 32) → ∀ x7 : Int, x7 = η 0 (Int.toNat 7) → zok 0 x7 → ∀ η1 : zE, η1 = zup η 0 (Int.toNat 10) x7 → ∀ x8 : Int, x8 = η1 0 (Int.toNat 7) → zok 0 x8 → ∀ x9 : Int, x9 = η1 0 (Int.toNat 6) → zok 0 x9 → (¬ x8 = x9) → ∀ x10 : Int, x10 = η1 0 (Int.toNat 7) → zok 0 x10 → ∀ (x11 : Int) (η2 : zE), ((gC2 wl_ke [(nat_lit 0, zPke_isSmall, zOke_isSmall, zMke_isSmall), (nat_lit 1, zPke_isDigit, zOke_isDigit, zMke_isDigit), (nat_lit 2, zPke_wordAt, zOke_wordAt, zMke_wordAt), (nat_lit 3, zPke_packed, zOke_packed, zMke_packed), (nat_lit 4, zPke_signToken, zOke_signToken, zMke_signToken)] pCke_token qCke_token) 0).2 [x10] η1 x11 η2 → (¬ x11 = 0) → (iCke_token xs η0) 1 [] η2 ∧ (fun (_ : Nat) (_ : List Int) (_ : zE) => (0 : Nat)) 1 [] η2 < 1 := by
  have fig := hig.2
  have hig := hig.1
  intro x1 e1 r1 x2 e2 r2 c1 x3 e3 r3 x4 e4 r4 c2 x5 e5 r5 x6 e6 r6 c3 x7 e7 r7 η1 eη1 x8 e8 r8 x9 e9 r9 c4 x10 e10 r10 x11 η2 h11 c5
  have y11 : fQke_isSmall [x10] η1 x11 η2 := h11.2.2
  have k11 : sQ wl_ke zTr zOke_isSmall zMke_isSmall [x10] η1 x11 η2 ∧ oQke_isSmall [x10] η1 x11 η2 := ⟨h11.1, h11.2.1⟩
  refine yj_c ?_ ?_
  · have y11 : fQke_isSmall [x10] η1 x11 η2 := h11.2.2
    have k11 : sQ wl_ke zTr zOke_isSmall zMke_isSmall [x10] η1 x11 η2 ∧ oQke_isSmall [x10] η1 x11 η2 := ⟨h11.1, h11.2.1⟩
    have w0_0_7 : (0 : Int) ≤ η 0 7 ∧ η 0 7 ≤ 700 := wf_ok (a := 7) (b := 7) (z := (0, 700)) hI.1.1 (by decide +kernel) (Nat.le_refl _) (Nat.le_refl _)
    replace e1 : x1 = η 0 7 := e1
    replace r1 : -2147483648 ≤ x1 ∧ x1 ≤ 2147483647 := r1
    have w0_0_6 : (0 : Int) ≤ η 0 6 ∧ η 0 6 ≤ 700 := wf_ok (a := 6) (b := 6) (z := (0, 700)) hI.1.1 (by decide +kernel) (Nat.le_refl _) (Nat.le_refl _)
    replace e2 : x2 = η 0 6 := e2
    replace r2 : -2147483648 ≤ x2 ∧ x2 ≤ 2147483647 := r2
    replace e3 : x3 = η 0 7 := e3
    replace r3 : -2147483648 ≤ x3 ∧ x3 ≤ 2147483647 := r3
    replace e4 : x4 = η 1 (Int.toNat x3) := e4
    replace r4 : -2147483648 ≤ x4 ∧ x4 ≤ 2147483647 := r4
    replace e5 : x5 = η 0 7 := e5
    replace r5 : -2147483648 ≤ x5 ∧ x5 ≤ 2147483647 := r5
    replace e6 : x6 = η 1 (Int.toNat x5) := e6
    replace r6 : -2147483648 ≤ x6 ∧ x6 ≤ 2147483647 := r6
    replace e7 : x7 = η 0 7 := e7
    replace r7 : -2147483648 ≤ x7 ∧ x7 ≤ 2147483647 := r7
    have v4 : zEq (η1 0 7) (η 0 7) := by rw [eη1]; exact (zup_ne (fun _ e => absurd e (by decide))).trans rfl
    replace e8 : x8 = η 0 7 := e8.trans v4
    replace r8 : -2147483648 ≤ x8 ∧ x8 ≤ 2147483647 := r8
    have v5 : zEq (η1 0 6) (η 0 6) := by rw [eη1]; exact (zup_ne (fun _ e => absurd e (by decide))).trans rfl
    replace e9 : x9 = η 0 6 := e9.trans v5
    replace r9 : -2147483648 ≤ x9 ∧ x9 ≤ 2147483647 := r9
    replace e10 : x10 = η 0 7 := e10.trans v4
    replace r10 : -2147483648 ≤ x10 ∧ x10 ≤ 2147483647 := r10
    have c1_0_7 : η1 0 7 = η 0 7 := v4
    have c1_0_6 : η1 0 6 = η 0 6 := v5
    have w0_0_8 : (0 : Int) ≤ η 0 8 ∧ η 0 8 ≤ 6 := wf_ok (a := 8) (b := 8) (z := (0, 6)) hI.1.1 (by decide +kernel) (Nat.le_refl _) (Nat.le_refl _)
    have v7 : zEq (η1 0 8) (η 0 8) := by rw [eη1]; exact (zup_ne (fun _ e => absurd e (by decide))).trans rfl
    have c1_0_8 : η1 0 8 = η 0 8 := v7
    have v9 : zEq (η1 0 9) (η 0 9) := by rw [eη1]; exact (zup_ne (fun _ e => absurd e (by decide))).trans rfl
    have c1_0_9 : η1 0 9 = η 0 9 := v9
    have bx11 : (0 : Int) ≤ x11 ∧ x11 ≤ 1 := k11.1.2.1
    have fr1_0 : ∀ j, η 1 j = η 1 j := fun _ => rfl
    have v10 : ∀ j, η1 1 j = η 1 j := fun j => by rw [eη1]; exact zup_ne (fun e _ => absurd e (by decide))
    have fr1_1 : ∀ j, η1 1 j = η 1 j := v10
    have v11 : ∀ j, η2 1 j = η 1 j := fun j => (k11.1.2.2.2.1 1 _ (zinr_not (by decide +kernel))).trans (v10 j)
    have fr1_2 : ∀ j, η2 1 j = η 1 j := v11
    have v12 : ∀ j, η1 2 j = η 2 j := fun j => by rw [eη1]; exact zup_ne (fun e _ => absurd e (by decide))
    have v13 : ∀ j, η2 2 j = η 2 j := fun j => (k11.1.2.2.2.1 2 _ (zinr_not (by decide +kernel))).trans (v12 j)
    have fr2 : ∀ j, η2 2 j = η 2 j := v13
    have v14 : zEq (η2 0 7) (η 0 7) := (k11.1.2.2.2.1 0 7 (by decide +kernel)).trans v4
    have f0_7 : η2 0 7 = η 0 7 := v14
    have v15 : zEq (η2 0 6) (η 0 6) := (k11.1.2.2.2.1 0 6 (by decide +kernel)).trans v5
    have f0_6 : η2 0 6 = η 0 6 := v15
    have v16 : zEq (η2 0 8) (η 0 8) := (k11.1.2.2.2.1 0 8 (by decide +kernel)).trans v7
    have f0_8 : η2 0 8 = η 0 8 := v16
    have v17 : zEq (η2 0 9) (η 0 9) := (k11.1.2.2.2.1 0 9 (by decide +kernel)).trans v9
    have f0_9 : η2 0 9 = η 0 9 := v17
    have g : G_k η := hig.1
    have hh : η 0 7 ≤ η 0 6 := g.1
    have hs : η 0 6 = η0 0 6 := hI.2 0 6 (by decide +kernel)
    have hk0 : (0 : Int) ≤ η0 0 8 ∧ η0 0 8 ≤ 6 := wf_ok (a := 8) (b := 8) (z := (0, 6)) hp.1 (by decide +kernel) (Nat.le_refl _) (Nat.le_refl _)
    have hn : η0 0 7 ≤ η 0 7 := hig.2.1
    have hk : η 0 8 = η0 0 8 := hig.2.2
    have q11 : x10 < η1 0 6 ∧ 97 ≤ η1 1 (Int.toNat x10) ∧ η1 1 (Int.toNat x10) ≤ 122 := k11.2.2.2.1 c5
    rw [fr1_1] at q11
    have p11 := q11.1
    rw [show x10 = η 0 7 by omega] at q11
    have hG : G_k η2 := by
      first
      | (exfalso; omega)
      | exact gk_v f0_7 f0_6 f0_8 f0_9 fr2 g.2.2 (by omega) (k_o (by decide) (by decide))
      | exact gk_v f0_7 f0_6 f0_8 f0_9 fr2 g.2.2 (by omega) (k_o (fun w => by omega) (fun w => by omega))
      | exact gk_v f0_7 f0_6 f0_8 f0_9 fr2 g.2.2 (by omega) ⟨fun _ => ⟨by omega, by omega⟩, fun h => absurd h (by decide)⟩
      | exact gk_v f0_7 f0_6 f0_8 f0_9 fr2 g.2.2 (by omega) g.2.1
    first
    | (exfalso; omega)
    | exact ⟨⟨hG, Or.inr ⟨show η0 0 7 ≤ η2 0 7 by omega, show η2 0 7 < η2 0 6 by omega, by rw [fr1_2, show η2 0 7 = η 0 7 by omega]; exact q11.2.1, by rw [fr1_2, show η2 0 7 = η 0 7 by omega]; exact q11.2.2⟩⟩, Nat.zero_lt_one⟩
  · have b7 : (0 : Int) ≤ η 0 7 ∧ η 0 7 ≤ 700 := wf_ok (a := 7) (b := 7) (z := (0, 700)) hI.1.1 (by decide +kernel) (Nat.le_refl _) (Nat.le_refl _)
    have b6 : (0 : Int) ≤ η 0 6 ∧ η 0 6 ≤ 700 := wf_ok (a := 6) (b := 6) (z := (0, 700)) hI.1.1 (by decide +kernel) (Nat.le_refl _) (Nat.le_refl _)
    have hn : η 0 7 ≤ η 0 6 := hig.1.1
    have fig : yq_zI η0 η := fig
    have z1 : x1 = η 0 7 := e1
    have z2 : x2 = η 0 6 := e2
    have z3 : x3 = η 0 7 := e3
    have z4 : x4 = η 1 (η 0 7).toNat := by rw [← z3]; exact e4
    have z5 : x5 = η 0 7 := e5
    have z6 : x6 = η 1 (η 0 7).toNat := by rw [← z5]; exact e6
    have z7 : x7 = η 0 7 := e7
    rw [z7] at eη1
    have S0 : yq_S0 η0 η := ⟨fig, b7.1, by omega, yb_n (by rw [← z4]; exact c2) (by rw [← z6]; exact c3), ⟨by omega, by omega⟩⟩
    have z10 : x10 = η 0 7 := e10.trans (by rw [eη1]; rfl)
    have w2 : η2 = η1 := y11.2
    have q := k11.2.2.2.1 c5
    rw [show [x10].getD 0 0 = η 0 7 from z10, eη1] at q
    exact tW_0 S0 (yl_y q.2.1 q.2.2) (w2.trans eη1)
set_option maxHeartbeats 8000000 in
theorem zke_token_o14 {ro : Nat → List Int32} (xs : List Int) (η0 : zE) (hp : sP wl_ke zTr zPke_token xs η0) (hpp : pPke_token xs η0) (η : zE) (hI : zsI wl_ke zTr zVke_token zMke_token η0 0 [] η) (hig : iCke_token xs η0 0 [] η) : ∀ x1 : Int, x1 = η 0 (Int.toNat 7) → zok 0 x1 → ∀ x2 : Int, x2 = η 0 (Int.toNat 6) → zok 0 x2 → (x1 < x2) → ∀ x3 : Int, x3 = η 0 (Int.toNat 7) → zok 0 x3 → ∀ x4 : Int, x4 = η 1 (Int.toNat x3) → zok 0 x4 → (¬ x4 = 10) → ∀ x5 : Int, x5 = η 0 (Int.toNat 7) → zok 0 x5 → ∀ x6 : Int, x6 = η 1 (Int.toNat x5) → zok 0 x6 → (x6 = 32) → ∀ x7 : Int, x7 = η 0 (Int.toNat 7) → zok 0 x7 → ∀ x8 : Int, x8 = zd 0 1 x7 1 → ∀ η1 : zE, η1 = zup η 0 (Int.toNat 7) x8 → (iCke_token xs η0) 0 [] η1 ∧ (fun (_ : Nat) (_ : List Int) (_ : zE) => (0 : Nat)) 0 [] η1 < 1 := by
  have fig := hig.2
  have hig := hig.1
  intro x1 e1 r1 x2 e2 r2 c1 x3 e3 r3 x4 e4 r4 c2 x5 e5 r5 x6 e6 r6 c3 x7 e7 r7 x8 e8 η1 eη1
  refine yj_c ?_ ?_
  · replace e8 := zEq_i e8
    have w0_0_7 : (0 : Int) ≤ η 0 7 ∧ η 0 7 ≤ 700 := wf_ok (a := 7) (b := 7) (z := (0, 700)) hI.1.1 (by decide +kernel) (Nat.le_refl _) (Nat.le_refl _)
    replace e1 : x1 = η 0 7 := e1
    replace r1 : -2147483648 ≤ x1 ∧ x1 ≤ 2147483647 := r1
    have w0_0_6 : (0 : Int) ≤ η 0 6 ∧ η 0 6 ≤ 700 := wf_ok (a := 6) (b := 6) (z := (0, 700)) hI.1.1 (by decide +kernel) (Nat.le_refl _) (Nat.le_refl _)
    replace e2 : x2 = η 0 6 := e2
    replace r2 : -2147483648 ≤ x2 ∧ x2 ≤ 2147483647 := r2
    replace e3 : x3 = η 0 7 := e3
    replace r3 : -2147483648 ≤ x3 ∧ x3 ≤ 2147483647 := r3
    replace e4 : x4 = η 1 (Int.toNat x3) := e4
    replace r4 : -2147483648 ≤ x4 ∧ x4 ≤ 2147483647 := r4
    replace e5 : x5 = η 0 7 := e5
    replace r5 : -2147483648 ≤ x5 ∧ x5 ≤ 2147483647 := r5
    replace e6 : x6 = η 1 (Int.toNat x5) := e6
    replace r6 : -2147483648 ≤ x6 ∧ x6 ≤ 2147483647 := r6
    replace e7 : x7 = η 0 7 := e7
    replace r7 : -2147483648 ≤ x7 ∧ x7 ≤ 2147483647 := r7
    first
    | replace e8 : x8 = x7 + 1 := zd_a2 (zEq_o e8) (by clear e8; exact ⟨by omega, by omega⟩)
    | clear e8
    have c0_0_7 : η 0 7 = η 0 7 := rfl
    have fr1_0 : ∀ j, η 1 j = η 1 j := fun _ => rfl
    have v4 : ∀ j, η1 1 j = η 1 j := fun j => by rw [eη1]; exact zup_ne (fun e _ => absurd e (by decide))
    have fr1_1 : ∀ j, η1 1 j = η 1 j := v4
    have v5 : ∀ j, η1 2 j = η 2 j := fun j => by rw [eη1]; exact zup_ne (fun e _ => absurd e (by decide))
    have fr2 : ∀ j, η1 2 j = η 2 j := v5
    have v6 : zEq (η1 0 7) (x8) := by rw [eη1]; exact zup_eq
    have f0_7 : η1 0 7 = x8 := v6
    have v7 : zEq (η1 0 6) (η 0 6) := by rw [eη1]; exact (zup_ne (fun _ e => absurd e (by decide))).trans rfl
    have f0_6 : η1 0 6 = η 0 6 := v7
    have w0_0_8 : (0 : Int) ≤ η 0 8 ∧ η 0 8 ≤ 6 := wf_ok (a := 8) (b := 8) (z := (0, 6)) hI.1.1 (by decide +kernel) (Nat.le_refl _) (Nat.le_refl _)
    have v9 : zEq (η1 0 8) (η 0 8) := by rw [eη1]; exact (zup_ne (fun _ e => absurd e (by decide))).trans rfl
    have f0_8 : η1 0 8 = η 0 8 := v9
    have v11 : zEq (η1 0 9) (η 0 9) := by rw [eη1]; exact (zup_ne (fun _ e => absurd e (by decide))).trans rfl
    have f0_9 : η1 0 9 = η 0 9 := v11
    have g : G_k η := hig.1
    have hh : η 0 7 ≤ η 0 6 := g.1
    have hs : η 0 6 = η0 0 6 := hI.2 0 6 (by decide +kernel)
    have hk0 : (0 : Int) ≤ η0 0 8 ∧ η0 0 8 ≤ 6 := wf_ok (a := 8) (b := 8) (z := (0, 6)) hp.1 (by decide +kernel) (Nat.le_refl _) (Nat.le_refl _)
    have hn : η0 0 7 ≤ η 0 7 := hig.2.1
    have hk : η 0 8 = η0 0 8 := hig.2.2
    have hG : G_k η1 := by
      first
      | (exfalso; omega)
      | exact gk_v f0_7 f0_6 f0_8 f0_9 fr2 g.2.2 (by omega) (k_o (by decide) (by decide))
      | exact gk_v f0_7 f0_6 f0_8 f0_9 fr2 g.2.2 (by omega) (k_o (fun w => by omega) (fun w => by omega))
      | exact gk_v f0_7 f0_6 f0_8 f0_9 fr2 g.2.2 (by omega) ⟨fun _ => ⟨by omega, by omega⟩, fun h => absurd h (by decide)⟩
      | exact gk_v f0_7 f0_6 f0_8 f0_9 fr2 g.2.2 (by omega) g.2.1
    exact ⟨⟨hG, show η0 0 7 ≤ η1 0 7 by omega, show η1 0 8 = η0 0 8 by omega⟩, Nat.zero_lt_one⟩
  · have b7 : (0 : Int) ≤ η 0 7 ∧ η 0 7 ≤ 700 := wf_ok (a := 7) (b := 7) (z := (0, 700)) hI.1.1 (by decide +kernel) (Nat.le_refl _) (Nat.le_refl _)
    have b6 : (0 : Int) ≤ η 0 6 ∧ η 0 6 ≤ 700 := wf_ok (a := 6) (b := 6) (z := (0, 700)) hI.1.1 (by decide +kernel) (Nat.le_refl _) (Nat.le_refl _)
    have hn : η 0 7 ≤ η 0 6 := hig.1.1
    have fig : yq_zI η0 η := fig
    have z1 : x1 = η 0 7 := e1
    have z2 : x2 = η 0 6 := e2
    have z3 : x3 = η 0 7 := e3
    have z4 : x4 = η 1 (η 0 7).toNat := by rw [← z3]; exact e4
    have z5 : x5 = η 0 7 := e5
    have z6 : x6 = η 1 (η 0 7).toNat := by rw [← z5]; exact e6
    have z7 : x7 = η 0 7 := e7
    rw [zd_a ⟨by omega, by omega⟩] at e8
    show yq_zI η0 η1
    rw [eη1, e8, z7]
    exact qzI_s fig b7.1 (by omega) (yb_10 (Or.inr (by rw [← z6]; exact c3)))
set_option maxHeartbeats 8000000 in
theorem zke_token_o15 {ro : Nat → List Int32} (xs : List Int) (η0 : zE) (hp : sP wl_ke zTr zPke_token xs η0) (hpp : pPke_token xs η0) (η : zE) (hI : zsI wl_ke zTr zVke_token zMke_token η0 0 [] η) (hig : iCke_token xs η0 0 [] η) : ∀ x1 : Int, x1 = η 0 (Int.toNat 7) → zok 0 x1 → ∀ x2 : Int, x2 = η 0 (Int.toNat 6) → zok 0 x2 → (x2 ≤ x1) → ∀ x3 : Int, x3 = η 0 (Int.toNat 7) → zok 0 x3 → ∀ η1 : zE, η1 = zup η 0 (Int.toNat 10) x3 → ∀ x4 : Int, x4 = η1 0 (Int.toNat 7) → zok 0 x4 → ∀ x5 : Int, x5 = η1 0 (Int.toNat 6) → zok 0 x5 → (¬ x4 = x5) → ∀ x6 : Int, x6 = η1 0 (Int.toNat 7) → zok 0 x6 → ∀ (x7 : Int) (η2 : zE), ((gC wl_ke [(nat_lit 0, zPke_isSmall, zOke_isSmall, zMke_isSmall), (nat_lit 1, zPke_isDigit, zOke_isDigit, zMke_isDigit), (nat_lit 2, zPke_wordAt, zOke_wordAt, zMke_wordAt), (nat_lit 3, zPke_packed, zOke_packed, zMke_packed), (nat_lit 4, zPke_signToken, zOke_signToken, zMke_signToken)] pCke_token qCke_token) 0).2 [x6] η1 x7 η2 → (x7 = 0) → ∀ x8 : Int, x8 = η2 0 (Int.toNat 7) → zok 0 x8 → ∀ (x9 : Int) (η3 : zE), ((gC wl_ke [(nat_lit 0, zPke_isSmall, zOke_isSmall, zMke_isSmall), (nat_lit 1, zPke_isDigit, zOke_isDigit, zMke_isDigit), (nat_lit 2, zPke_wordAt, zOke_wordAt, zMke_wordAt), (nat_lit 3, zPke_packed, zOke_packed, zMke_packed), (nat_lit 4, zPke_signToken, zOke_signToken, zMke_signToken)] pCke_token qCke_token) 1).2 [x8] η2 x9 η3 → (x9 = 0) → ((gC wl_ke [(nat_lit 0, zPke_isSmall, zOke_isSmall, zMke_isSmall), (nat_lit 1, zPke_isDigit, zOke_isDigit, zMke_isDigit), (nat_lit 2, zPke_wordAt, zOke_wordAt, zMke_wordAt), (nat_lit 3, zPke_packed, zOke_packed, zMke_packed), (nat_lit 4, zPke_signToken, zOke_signToken, zMke_signToken)] pCke_token qCke_token) 4).1 [] η3 := by
  have fig := hig.2
  have hig := hig.1
  intro x1 e1 r1 x2 e2 r2 c1 x3 e3 r3 η1 eη1 x4 e4 r4 x5 e5 r5 c2 x6 e6 r6 x7 η2 h7 c3 x8 e8 r8 x9 η3 h9 c4
  have y7 : fQke_isSmall [x6] η1 x7 η2 := h7.2.2
  have k7 : sQ wl_ke zTr zOke_isSmall zMke_isSmall [x6] η1 x7 η2 ∧ oQke_isSmall [x6] η1 x7 η2 := ⟨h7.1, h7.2.1⟩
  have y9 : fQke_isDigit [x8] η2 x9 η3 := h9.2.2
  have k9 : sQ wl_ke zTr zOke_isDigit zMke_isDigit [x8] η2 x9 η3 ∧ oQke_isDigit [x8] η2 x9 η3 := ⟨h9.1, h9.2.1⟩
  have w0_0_7 : (0 : Int) ≤ η 0 7 ∧ η 0 7 ≤ 700 := wf_ok (a := 7) (b := 7) (z := (0, 700)) hI.1.1 (by decide +kernel) (Nat.le_refl _) (Nat.le_refl _)
  replace e1 : x1 = η 0 7 := e1
  replace r1 : -2147483648 ≤ x1 ∧ x1 ≤ 2147483647 := r1
  have w0_0_6 : (0 : Int) ≤ η 0 6 ∧ η 0 6 ≤ 700 := wf_ok (a := 6) (b := 6) (z := (0, 700)) hI.1.1 (by decide +kernel) (Nat.le_refl _) (Nat.le_refl _)
  replace e2 : x2 = η 0 6 := e2
  replace r2 : -2147483648 ≤ x2 ∧ x2 ≤ 2147483647 := r2
  replace e3 : x3 = η 0 7 := e3
  replace r3 : -2147483648 ≤ x3 ∧ x3 ≤ 2147483647 := r3
  have v2 : zEq (η1 0 7) (η 0 7) := by rw [eη1]; exact (zup_ne (fun _ e => absurd e (by decide))).trans rfl
  replace e4 : x4 = η 0 7 := e4.trans v2
  replace r4 : -2147483648 ≤ x4 ∧ x4 ≤ 2147483647 := r4
  have v3 : zEq (η1 0 6) (η 0 6) := by rw [eη1]; exact (zup_ne (fun _ e => absurd e (by decide))).trans rfl
  replace e5 : x5 = η 0 6 := e5.trans v3
  replace r5 : -2147483648 ≤ x5 ∧ x5 ≤ 2147483647 := r5
  replace e6 : x6 = η 0 7 := e6.trans v2
  replace r6 : -2147483648 ≤ x6 ∧ x6 ≤ 2147483647 := r6
  have c1_0_7 : η1 0 7 = η 0 7 := v2
  have c1_0_6 : η1 0 6 = η 0 6 := v3
  have w0_0_8 : (0 : Int) ≤ η 0 8 ∧ η 0 8 ≤ 6 := wf_ok (a := 8) (b := 8) (z := (0, 6)) hI.1.1 (by decide +kernel) (Nat.le_refl _) (Nat.le_refl _)
  have v5 : zEq (η1 0 8) (η 0 8) := by rw [eη1]; exact (zup_ne (fun _ e => absurd e (by decide))).trans rfl
  have c1_0_8 : η1 0 8 = η 0 8 := v5
  have v7 : zEq (η1 0 9) (η 0 9) := by rw [eη1]; exact (zup_ne (fun _ e => absurd e (by decide))).trans rfl
  have c1_0_9 : η1 0 9 = η 0 9 := v7
  have bx7 : (0 : Int) ≤ x7 ∧ x7 ≤ 1 := k7.1.2.1
  have v8 : zEq (η2 0 7) (η 0 7) := (k7.1.2.2.2.1 0 7 (by decide +kernel)).trans v2
  replace e8 : x8 = η 0 7 := e8.trans v8
  replace r8 : -2147483648 ≤ x8 ∧ x8 ≤ 2147483647 := r8
  have c2_0_7 : η2 0 7 = η 0 7 := v8
  have v9 : zEq (η2 0 6) (η 0 6) := (k7.1.2.2.2.1 0 6 (by decide +kernel)).trans v3
  have c2_0_6 : η2 0 6 = η 0 6 := v9
  have v10 : zEq (η2 0 8) (η 0 8) := (k7.1.2.2.2.1 0 8 (by decide +kernel)).trans v5
  have c2_0_8 : η2 0 8 = η 0 8 := v10
  have v11 : zEq (η2 0 9) (η 0 9) := (k7.1.2.2.2.1 0 9 (by decide +kernel)).trans v7
  have c2_0_9 : η2 0 9 = η 0 9 := v11
  have bx9 : (0 : Int) ≤ x9 ∧ x9 ≤ 1 := k9.1.2.1
  have fr1_0 : ∀ j, η 1 j = η 1 j := fun _ => rfl
  have v12 : ∀ j, η1 1 j = η 1 j := fun j => by rw [eη1]; exact zup_ne (fun e _ => absurd e (by decide))
  have fr1_1 : ∀ j, η1 1 j = η 1 j := v12
  have v13 : ∀ j, η2 1 j = η 1 j := fun j => (k7.1.2.2.2.1 1 _ (zinr_not (by decide +kernel))).trans (v12 j)
  have fr1_2 : ∀ j, η2 1 j = η 1 j := v13
  have v14 : ∀ j, η3 1 j = η 1 j := fun j => (k9.1.2.2.2.1 1 _ (zinr_not (by decide +kernel))).trans (v13 j)
  have fr1_3 : ∀ j, η3 1 j = η 1 j := v14
  have v15 : ∀ j, η1 2 j = η 2 j := fun j => by rw [eη1]; exact zup_ne (fun e _ => absurd e (by decide))
  have v16 : ∀ j, η2 2 j = η 2 j := fun j => (k7.1.2.2.2.1 2 _ (zinr_not (by decide +kernel))).trans (v15 j)
  have v17 : ∀ j, η3 2 j = η 2 j := fun j => (k9.1.2.2.2.1 2 _ (zinr_not (by decide +kernel))).trans (v16 j)
  have fr2 : ∀ j, η3 2 j = η 2 j := v17
  have v18 : zEq (η3 0 7) (η 0 7) := (k9.1.2.2.2.1 0 7 (by decide +kernel)).trans v8
  have f0_7 : η3 0 7 = η 0 7 := v18
  have v19 : zEq (η3 0 6) (η 0 6) := (k9.1.2.2.2.1 0 6 (by decide +kernel)).trans v9
  have f0_6 : η3 0 6 = η 0 6 := v19
  have v20 : zEq (η3 0 8) (η 0 8) := (k9.1.2.2.2.1 0 8 (by decide +kernel)).trans v10
  have f0_8 : η3 0 8 = η 0 8 := v20
  have v21 : zEq (η3 0 9) (η 0 9) := (k9.1.2.2.2.1 0 9 (by decide +kernel)).trans v11
  have f0_9 : η3 0 9 = η 0 9 := v21
  have hh : η 0 7 ≤ η 0 6 := hig.1.1
  exfalso; omega
set_option maxHeartbeats 8000000 in
theorem zke_token_o16 {ro : Nat → List Int32} (xs : List Int) (η0 : zE) (hp : sP wl_ke zTr zPke_token xs η0) (hpp : pPke_token xs η0) (η : zE) (hI : zsI wl_ke zTr zVke_token zMke_token η0 1 [] η) (hig : iCke_token xs η0 1 [] η) : ∀ x1 : Int, x1 = η 0 (Int.toNat 7) → zok 0 x1 → ((gC2 wl_ke [(nat_lit 0, zPke_isSmall, zOke_isSmall, zMke_isSmall), (nat_lit 1, zPke_isDigit, zOke_isDigit, zMke_isDigit), (nat_lit 2, zPke_wordAt, zOke_wordAt, zMke_wordAt), (nat_lit 3, zPke_packed, zOke_packed, zMke_packed), (nat_lit 4, zPke_signToken, zOke_signToken, zMke_signToken)] pCke_token qCke_token) 0).1 [x1] η := by
  have fig := hig.2
  have hig := hig.1
  intro x1 e1 r1
  have w0_0_7 : (0 : Int) ≤ η 0 7 ∧ η 0 7 ≤ 700 := wf_ok (a := 7) (b := 7) (z := (0, 700)) hI.1.1 (by decide +kernel) (Nat.le_refl _) (Nat.le_refl _)
  replace e1 : x1 = η 0 7 := e1
  replace r1 : -2147483648 ≤ x1 ∧ x1 ≤ 2147483647 := r1
  have fr1_0 : ∀ j, η 1 j = η 1 j := fun _ => rfl
  have fr2 : ∀ j, η 2 j = η 2 j := fun _ => rfl
  have f0_7 : η 0 7 = η 0 7 := rfl
  have w0_0_6 : (0 : Int) ≤ η 0 6 ∧ η 0 6 ≤ 700 := wf_ok (a := 6) (b := 6) (z := (0, 700)) hI.1.1 (by decide +kernel) (Nat.le_refl _) (Nat.le_refl _)
  have f0_6 : η 0 6 = η 0 6 := rfl
  have w0_0_8 : (0 : Int) ≤ η 0 8 ∧ η 0 8 ≤ 6 := wf_ok (a := 8) (b := 8) (z := (0, 6)) hI.1.1 (by decide +kernel) (Nat.le_refl _) (Nat.le_refl _)
  have f0_8 : η 0 8 = η 0 8 := rfl
  have f0_9 : η 0 9 = η 0 9 := rfl
  have g : G_k η := hig.1
  have hh : η 0 7 ≤ η 0 6 := g.1
  have hs : η 0 6 = η0 0 6 := hI.2 0 6 (by decide +kernel)
  have hk0 : (0 : Int) ≤ η0 0 8 ∧ η0 0 8 ≤ 6 := wf_ok (a := 8) (b := 8) (z := (0, 6)) hp.1 (by decide +kernel) (Nat.le_refl _) (Nat.le_refl _)
  have hd : (η0 0 7 < η 0 7 ∨ (η0 0 7 ≤ η 0 7 ∧ η 0 7 < η 0 6 ∧ 97 ≤ η 1 (Int.toNat (η 0 7)) ∧ η 1 (Int.toNat (η 0 7)) ≤ 122)) := hig.2
  have hn : η0 0 7 ≤ η 0 7 := by rcases hd with h | h <;> omega
  have hG : G_k η := by
    first
    | (exfalso; omega)
    | exact gk_v f0_7 f0_6 f0_8 f0_9 fr2 g.2.2 (by omega) (k_o (by decide) (by decide))
    | exact gk_v f0_7 f0_6 f0_8 f0_9 fr2 g.2.2 (by omega) (k_o (fun w => by omega) (fun w => by omega))
    | exact gk_v f0_7 f0_6 f0_8 f0_9 fr2 g.2.2 (by omega) ⟨fun _ => ⟨by omega, by omega⟩, fun h => absurd h (by decide)⟩
    | exact gk_v f0_7 f0_6 f0_8 f0_9 fr2 g.2.2 (by omega) g.2.1
  exact hG
set_option maxHeartbeats 8000000 in
theorem zke_token_o17 {ro : Nat → List Int32} (xs : List Int) (η0 : zE) (hp : sP wl_ke zTr zPke_token xs η0) (hpp : pPke_token xs η0) (η : zE) (hI : zsI wl_ke zTr zVke_token zMke_token η0 1 [] η) (hig : iCke_token xs η0 1 [] η) : ∀ x1 : Int, x1 = η 0 (Int.toNat 7) → zok 0 x1 → ∀ (x2 : Int) (η1 : zE), ((gC2 wl_ke [(nat_lit 0, zPke_isSmall, zOke_isSmall, zMke_isSmall), (nat_lit 1, zPke_isDigit, zOke_isDigit, zMke_isDigit), (nat_lit 2, zPke_wordAt, zOke_wordAt, zMke_wordAt), (nat_lit 3, zPke_packed, zOke_packed, zMke_packed), (nat_lit 4, zPke_signToken, zOke_signToken, zMke_signToken)] pCke_token qCke_token) 0).2 [x1] η x2 η1 → (x2 = 0) → ∀ x3 : Int, x3 = η1 0 (Int.toNat 10) → zok 0 x3 → ∀ x4 : Int, x4 = η1 0 (Int.toNat 7) → zok 0 x4 → ((gC2 wl_ke [(nat_lit 0, zPke_isSmall, zOke_isSmall, zMke_isSmall), (nat_lit 1, zPke_isDigit, zOke_isDigit, zMke_isDigit), (nat_lit 2, zPke_wordAt, zOke_wordAt, zMke_wordAt), (nat_lit 3, zPke_packed, zOke_packed, zMke_packed), (nat_lit 4, zPke_signToken, zOke_signToken, zMke_signToken)] pCke_token qCke_token) 2).1 [x3, x4] η1 := by
  have fig := hig.2
  have hig := hig.1
  intro x1 e1 r1 x2 η1 h2 c1 x3 e3 r3 x4 e4 r4
  have y2 : fQke_isSmall [x1] η x2 η1 := h2.2.2
  have k2 : sQ wl_ke zTr zOke_isSmall zMke_isSmall [x1] η x2 η1 ∧ oQke_isSmall [x1] η x2 η1 := ⟨h2.1, h2.2.1⟩
  have w0_0_7 : (0 : Int) ≤ η 0 7 ∧ η 0 7 ≤ 700 := wf_ok (a := 7) (b := 7) (z := (0, 700)) hI.1.1 (by decide +kernel) (Nat.le_refl _) (Nat.le_refl _)
  replace e1 : x1 = η 0 7 := e1
  replace r1 : -2147483648 ≤ x1 ∧ x1 ≤ 2147483647 := r1
  have c0_0_7 : η 0 7 = η 0 7 := rfl
  have w0_0_6 : (0 : Int) ≤ η 0 6 ∧ η 0 6 ≤ 700 := wf_ok (a := 6) (b := 6) (z := (0, 700)) hI.1.1 (by decide +kernel) (Nat.le_refl _) (Nat.le_refl _)
  have c0_0_6 : η 0 6 = η 0 6 := rfl
  have w0_0_8 : (0 : Int) ≤ η 0 8 ∧ η 0 8 ≤ 6 := wf_ok (a := 8) (b := 8) (z := (0, 6)) hI.1.1 (by decide +kernel) (Nat.le_refl _) (Nat.le_refl _)
  have c0_0_8 : η 0 8 = η 0 8 := rfl
  have c0_0_9 : η 0 9 = η 0 9 := rfl
  have bx2 : (0 : Int) ≤ x2 ∧ x2 ≤ 1 := k2.1.2.1
  have w0_0_10 : (0 : Int) ≤ η 0 10 ∧ η 0 10 ≤ 700 := wf_ok (a := 10) (b := 10) (z := (0, 700)) hI.1.1 (by decide +kernel) (Nat.le_refl _) (Nat.le_refl _)
  have v5 : zEq (η1 0 10) (η 0 10) := (k2.1.2.2.2.1 0 10 (by decide +kernel)).trans rfl
  replace e3 : x3 = η 0 10 := e3.trans v5
  replace r3 : -2147483648 ≤ x3 ∧ x3 ≤ 2147483647 := r3
  have v6 : zEq (η1 0 7) (η 0 7) := (k2.1.2.2.2.1 0 7 (by decide +kernel)).trans rfl
  replace e4 : x4 = η 0 7 := e4.trans v6
  replace r4 : -2147483648 ≤ x4 ∧ x4 ≤ 2147483647 := r4
  have fr1_0 : ∀ j, η 1 j = η 1 j := fun _ => rfl
  have v7 : ∀ j, η1 1 j = η 1 j := fun j => k2.1.2.2.2.1 1 _ (zinr_not (by decide +kernel))
  have fr1_1 : ∀ j, η1 1 j = η 1 j := v7
  have v8 : ∀ j, η1 2 j = η 2 j := fun j => k2.1.2.2.2.1 2 _ (zinr_not (by decide +kernel))
  have fr2 : ∀ j, η1 2 j = η 2 j := v8
  have f0_7 : η1 0 7 = η 0 7 := v6
  have v9 : zEq (η1 0 6) (η 0 6) := (k2.1.2.2.2.1 0 6 (by decide +kernel)).trans rfl
  have f0_6 : η1 0 6 = η 0 6 := v9
  have v10 : zEq (η1 0 8) (η 0 8) := (k2.1.2.2.2.1 0 8 (by decide +kernel)).trans rfl
  have f0_8 : η1 0 8 = η 0 8 := v10
  have v11 : zEq (η1 0 9) (η 0 9) := (k2.1.2.2.2.1 0 9 (by decide +kernel)).trans rfl
  have f0_9 : η1 0 9 = η 0 9 := v11
  have g : G_k η := hig.1
  have hh : η 0 7 ≤ η 0 6 := g.1
  have hs : η 0 6 = η0 0 6 := hI.2 0 6 (by decide +kernel)
  have hk0 : (0 : Int) ≤ η0 0 8 ∧ η0 0 8 ≤ 6 := wf_ok (a := 8) (b := 8) (z := (0, 6)) hp.1 (by decide +kernel) (Nat.le_refl _) (Nat.le_refl _)
  have hd : (η0 0 7 < η 0 7 ∨ (η0 0 7 ≤ η 0 7 ∧ η 0 7 < η 0 6 ∧ 97 ≤ η 1 (Int.toNat (η 0 7)) ∧ η 1 (Int.toNat (η 0 7)) ≤ 122)) := hig.2
  have hn : η0 0 7 ≤ η 0 7 := by rcases hd with h | h <;> omega
  have p0 : η0 0 7 < η 0 7 := by
    rcases hd with h | h
    · exact h
    · exact absurd (show x1 < η 0 6 ∧ 97 ≤ η 1 (Int.toNat x1) ∧ η 1 (Int.toNat x1) ≤ 122 by rw [show x1 = η 0 7 by omega]; exact h.2) (k2.2.2.2.2 c1)
  have hG : G_k η1 := by
    first
    | (exfalso; omega)
    | exact gk_v f0_7 f0_6 f0_8 f0_9 fr2 g.2.2 (by omega) (k_o (by decide) (by decide))
    | exact gk_v f0_7 f0_6 f0_8 f0_9 fr2 g.2.2 (by omega) (k_o (fun w => by omega) (fun w => by omega))
    | exact gk_v f0_7 f0_6 f0_8 f0_9 fr2 g.2.2 (by omega) ⟨fun _ => ⟨by omega, by omega⟩, fun h => absurd h (by decide)⟩
    | exact gk_v f0_7 f0_6 f0_8 f0_9 fr2 g.2.2 (by omega) g.2.1
  exact hG
set_option maxHeartbeats 8000000 in
theorem zke_token_o18 {ro : Nat → List Int32} (xs : List Int) (η0 : zE) (hp : sP wl_ke zTr zPke_token xs η0) (hpp : pPke_token xs η0) (η : zE) (hI : zsI wl_ke zTr zVke_token zMke_token η0 1 [] η) (hig : iCke_token xs η0 1 [] η) : ∀ x1 : Int, x1 = η 0 (Int.toNat 7) → zok 0 x1 → ∀ (x2 : Int) (η1 : zE), ((gC2 wl_ke [(nat_lit 0, zPke_isSmall, zOke_isSmall, zMke_isSmall), (nat_lit 1, zPke_isDigit, zOke_isDigit, zMke_isDigit), (nat_lit 2, zPke_wordAt, zOke_wordAt, zMke_wordAt), (nat_lit 3, zPke_packed, zOke_packed, zMke_packed), (nat_lit 4, zPke_signToken, zOke_signToken, zMke_signToken)] pCke_token qCke_token) 0).2 [x1] η x2 η1 → (x2 = 0) → ∀ x3 : Int, x3 = η1 0 (Int.toNat 10) → zok 0 x3 → ∀ x4 : Int, x4 = η1 0 (Int.toNat 7) → zok 0 x4 → ∀ (x5 : Int) (η2 : zE), ((gC2 wl_ke [(nat_lit 0, zPke_isSmall, zOke_isSmall, zMke_isSmall), (nat_lit 1, zPke_isDigit, zOke_isDigit, zMke_isDigit), (nat_lit 2, zPke_wordAt, zOke_wordAt, zMke_wordAt), (nat_lit 3, zPke_packed, zOke_packed, zMke_packed), (nat_lit 4, zPke_signToken, zOke_signToken, zMke_signToken)] pCke_token qCke_token) 2).2 [x3, x4] η1 x5 η2 → ∀ η3 : zE, η3 = zup η2 0 (Int.toNat 9) x5 → ∀ x6 : Int, x6 = η3 0 (Int.toNat 9) → zok 0 x6 → (x6 < 0) → ∀ x7 : Int, x7 = η3 0 (Int.toNat 7) → zok 0 x7 → ∀ x8 : Int, x8 = η3 0 (Int.toNat 10) → zok 0 x8 → ∀ x9 : Int, x9 = zd 0 2 x7 x8 → (x9 ≤ 6) → ∀ η4 : zE, η4 = zup η3 0 (Int.toNat 8) 2 → ∀ x10 : Int, x10 = η4 0 (Int.toNat 8) → zok 0 x10 → (x10 = 2) → ∀ x11 : Int, x11 = η4 0 (Int.toNat 10) → zok 0 x11 → ∀ x12 : Int, x12 = η4 0 (Int.toNat 7) → zok 0 x12 → ((gC2 wl_ke [(nat_lit 0, zPke_isSmall, zOke_isSmall, zMke_isSmall), (nat_lit 1, zPke_isDigit, zOke_isDigit, zMke_isDigit), (nat_lit 2, zPke_wordAt, zOke_wordAt, zMke_wordAt), (nat_lit 3, zPke_packed, zOke_packed, zMke_packed), (nat_lit 4, zPke_signToken, zOke_signToken, zMke_signToken)] pCke_token qCke_token) 3).1 [x11, x12] η4 := by
  have fig := hig.2
  have hig := hig.1
  intro x1 e1 r1 x2 η1 h2 c1 x3 e3 r3 x4 e4 r4 x5 η2 h5 η3 eη3 x6 e6 r6 c2 x7 e7 r7 x8 e8 r8 x9 e9 c3 η4 eη4 x10 e10 r10 c4 x11 e11 r11 x12 e12 r12
  replace e9 := zEq_i e9
  have y2 : fQke_isSmall [x1] η x2 η1 := h2.2.2
  have k2 : sQ wl_ke zTr zOke_isSmall zMke_isSmall [x1] η x2 η1 ∧ oQke_isSmall [x1] η x2 η1 := ⟨h2.1, h2.2.1⟩
  have y5 : fQke_wordAt [x3, x4] η1 x5 η2 := h5.2.2
  have k5 : sQ wl_ke zTr zOke_wordAt zMke_wordAt [x3, x4] η1 x5 η2 ∧ oQke_wordAt [x3, x4] η1 x5 η2 := ⟨h5.1, h5.2.1⟩
  have w0_0_7 : (0 : Int) ≤ η 0 7 ∧ η 0 7 ≤ 700 := wf_ok (a := 7) (b := 7) (z := (0, 700)) hI.1.1 (by decide +kernel) (Nat.le_refl _) (Nat.le_refl _)
  replace e1 : x1 = η 0 7 := e1
  replace r1 : -2147483648 ≤ x1 ∧ x1 ≤ 2147483647 := r1
  have c0_0_7 : η 0 7 = η 0 7 := rfl
  have w0_0_6 : (0 : Int) ≤ η 0 6 ∧ η 0 6 ≤ 700 := wf_ok (a := 6) (b := 6) (z := (0, 700)) hI.1.1 (by decide +kernel) (Nat.le_refl _) (Nat.le_refl _)
  have c0_0_6 : η 0 6 = η 0 6 := rfl
  have w0_0_8 : (0 : Int) ≤ η 0 8 ∧ η 0 8 ≤ 6 := wf_ok (a := 8) (b := 8) (z := (0, 6)) hI.1.1 (by decide +kernel) (Nat.le_refl _) (Nat.le_refl _)
  have c0_0_8 : η 0 8 = η 0 8 := rfl
  have c0_0_9 : η 0 9 = η 0 9 := rfl
  have bx2 : (0 : Int) ≤ x2 ∧ x2 ≤ 1 := k2.1.2.1
  have w0_0_10 : (0 : Int) ≤ η 0 10 ∧ η 0 10 ≤ 700 := wf_ok (a := 10) (b := 10) (z := (0, 700)) hI.1.1 (by decide +kernel) (Nat.le_refl _) (Nat.le_refl _)
  have v5 : zEq (η1 0 10) (η 0 10) := (k2.1.2.2.2.1 0 10 (by decide +kernel)).trans rfl
  replace e3 : x3 = η 0 10 := e3.trans v5
  replace r3 : -2147483648 ≤ x3 ∧ x3 ≤ 2147483647 := r3
  have v6 : zEq (η1 0 7) (η 0 7) := (k2.1.2.2.2.1 0 7 (by decide +kernel)).trans rfl
  replace e4 : x4 = η 0 7 := e4.trans v6
  replace r4 : -2147483648 ≤ x4 ∧ x4 ≤ 2147483647 := r4
  have c1_0_7 : η1 0 7 = η 0 7 := v6
  have v7 : zEq (η1 0 6) (η 0 6) := (k2.1.2.2.2.1 0 6 (by decide +kernel)).trans rfl
  have c1_0_6 : η1 0 6 = η 0 6 := v7
  have v8 : zEq (η1 0 8) (η 0 8) := (k2.1.2.2.2.1 0 8 (by decide +kernel)).trans rfl
  have c1_0_8 : η1 0 8 = η 0 8 := v8
  have v9 : zEq (η1 0 9) (η 0 9) := (k2.1.2.2.2.1 0 9 (by decide +kernel)).trans rfl
  have c1_0_9 : η1 0 9 = η 0 9 := v9
  have bx5 : ((-1) : Int) ≤ x5 ∧ x5 ≤ 20 := k5.1.2.1
  have v10 : zEq (η2 0 9) (η 0 9) := (k5.1.2.2.2.1 0 9 (by decide +kernel)).trans v9
  have c2_0_9 : η2 0 9 = η 0 9 := v10
  have v11 : zEq (η3 0 9) (x5) := by rw [eη3]; exact zup_eq
  replace e6 : x6 = x5 := e6.trans v11
  replace r6 : -2147483648 ≤ x6 ∧ x6 ≤ 2147483647 := r6
  have v12 : zEq (η2 0 7) (η 0 7) := (k5.1.2.2.2.1 0 7 (by decide +kernel)).trans v6
  have v13 : zEq (η3 0 7) (η 0 7) := by rw [eη3]; exact (zup_ne (fun _ e => absurd e (by decide))).trans v12
  replace e7 : x7 = η 0 7 := e7.trans v13
  replace r7 : -2147483648 ≤ x7 ∧ x7 ≤ 2147483647 := r7
  have v14 : zEq (η2 0 10) (η 0 10) := (k5.1.2.2.2.1 0 10 (by decide +kernel)).trans v5
  have v15 : zEq (η3 0 10) (η 0 10) := by rw [eη3]; exact (zup_ne (fun _ e => absurd e (by decide))).trans v14
  replace e8 : x8 = η 0 10 := e8.trans v15
  replace r8 : -2147483648 ≤ x8 ∧ x8 ≤ 2147483647 := r8
  first
  | replace e9 : x9 = x7 - x8 := zd_s2 (zEq_o e9) (by clear e9; exact ⟨by omega, by omega⟩)
  | clear e9
  have v16 : zEq (η2 0 8) (η 0 8) := (k5.1.2.2.2.1 0 8 (by decide +kernel)).trans v8
  have v17 : zEq (η3 0 8) (η 0 8) := by rw [eη3]; exact (zup_ne (fun _ e => absurd e (by decide))).trans v16
  have c3_0_8 : η3 0 8 = η 0 8 := v17
  have v18 : zEq (η4 0 8) (2) := by rw [eη4]; exact zup_eq
  replace e10 : x10 = 2 := e10.trans v18
  replace r10 : -2147483648 ≤ x10 ∧ x10 ≤ 2147483647 := r10
  have v19 : zEq (η4 0 10) (η 0 10) := by rw [eη4]; exact (zup_ne (fun _ e => absurd e (by decide))).trans v15
  replace e11 : x11 = η 0 10 := e11.trans v19
  replace r11 : -2147483648 ≤ x11 ∧ x11 ≤ 2147483647 := r11
  have v20 : zEq (η4 0 7) (η 0 7) := by rw [eη4]; exact (zup_ne (fun _ e => absurd e (by decide))).trans v13
  replace e12 : x12 = η 0 7 := e12.trans v20
  replace r12 : -2147483648 ≤ x12 ∧ x12 ≤ 2147483647 := r12
  have fr1_0 : ∀ j, η 1 j = η 1 j := fun _ => rfl
  have v21 : ∀ j, η1 1 j = η 1 j := fun j => k2.1.2.2.2.1 1 _ (zinr_not (by decide +kernel))
  have fr1_1 : ∀ j, η1 1 j = η 1 j := v21
  have v22 : ∀ j, η2 1 j = η 1 j := fun j => (k5.1.2.2.2.1 1 _ (zinr_not (by decide +kernel))).trans (v21 j)
  have fr1_2 : ∀ j, η2 1 j = η 1 j := v22
  have v23 : ∀ j, η3 1 j = η 1 j := fun j => by rw [eη3]; exact (zup_ne (fun e _ => absurd e (by decide))).trans (v22 j)
  have fr1_3 : ∀ j, η3 1 j = η 1 j := v23
  have v24 : ∀ j, η4 1 j = η 1 j := fun j => by rw [eη4]; exact (zup_ne (fun e _ => absurd e (by decide))).trans (v23 j)
  have fr1_4 : ∀ j, η4 1 j = η 1 j := v24
  have v25 : ∀ j, η1 2 j = η 2 j := fun j => k2.1.2.2.2.1 2 _ (zinr_not (by decide +kernel))
  have v26 : ∀ j, η2 2 j = η 2 j := fun j => (k5.1.2.2.2.1 2 _ (zinr_not (by decide +kernel))).trans (v25 j)
  have v27 : ∀ j, η3 2 j = η 2 j := fun j => by rw [eη3]; exact (zup_ne (fun e _ => absurd e (by decide))).trans (v26 j)
  have v28 : ∀ j, η4 2 j = η 2 j := fun j => by rw [eη4]; exact (zup_ne (fun e _ => absurd e (by decide))).trans (v27 j)
  have fr2 : ∀ j, η4 2 j = η 2 j := v28
  have f0_7 : η4 0 7 = η 0 7 := v20
  have v29 : zEq (η2 0 6) (η 0 6) := (k5.1.2.2.2.1 0 6 (by decide +kernel)).trans v7
  have v30 : zEq (η3 0 6) (η 0 6) := by rw [eη3]; exact (zup_ne (fun _ e => absurd e (by decide))).trans v29
  have v31 : zEq (η4 0 6) (η 0 6) := by rw [eη4]; exact (zup_ne (fun _ e => absurd e (by decide))).trans v30
  have f0_6 : η4 0 6 = η 0 6 := v31
  have f0_8 : η4 0 8 = 2 := v18
  have v32 : zEq (η4 0 9) (x5) := by rw [eη4]; exact (zup_ne (fun _ e => absurd e (by decide))).trans v11
  have f0_9 : η4 0 9 = x5 := v32
  have g : G_k η := hig.1
  have hh : η 0 7 ≤ η 0 6 := g.1
  have hs : η 0 6 = η0 0 6 := hI.2 0 6 (by decide +kernel)
  have hk0 : (0 : Int) ≤ η0 0 8 ∧ η0 0 8 ≤ 6 := wf_ok (a := 8) (b := 8) (z := (0, 6)) hp.1 (by decide +kernel) (Nat.le_refl _) (Nat.le_refl _)
  have hd : (η0 0 7 < η 0 7 ∨ (η0 0 7 ≤ η 0 7 ∧ η 0 7 < η 0 6 ∧ 97 ≤ η 1 (Int.toNat (η 0 7)) ∧ η 1 (Int.toNat (η 0 7)) ≤ 122)) := hig.2
  have hn : η0 0 7 ≤ η 0 7 := by rcases hd with h | h <;> omega
  have p0 : η0 0 7 < η 0 7 := by
    rcases hd with h | h
    · exact h
    · exact absurd (show x1 < η 0 6 ∧ 97 ≤ η 1 (Int.toNat x1) ∧ η 1 (Int.toNat x1) ≤ 122 by rw [show x1 = η 0 7 by omega]; exact h.2) (k2.2.2.2.2 c1)
  have q5 : x5 ≤ 19 := k5.2.2
  have hG : G_k η4 := by
    first
    | (exfalso; omega)
    | exact gk_v f0_7 f0_6 f0_8 f0_9 fr2 g.2.2 (by omega) (k_o (by decide) (by decide))
    | exact gk_v f0_7 f0_6 f0_8 f0_9 fr2 g.2.2 (by omega) (k_o (fun w => by omega) (fun w => by omega))
    | exact gk_v f0_7 f0_6 f0_8 f0_9 fr2 g.2.2 (by omega) ⟨fun _ => ⟨by omega, by omega⟩, fun h => absurd h (by decide)⟩
    | exact gk_v f0_7 f0_6 f0_8 f0_9 fr2 g.2.2 (by omega) g.2.1
  exact hG
set_option maxHeartbeats 8000000 in
theorem zke_token_o19 {ro : Nat → List Int32} (xs : List Int) (η0 : zE) (hp : sP wl_ke zTr zPke_token xs η0) (hpp : pPke_token xs η0) (η : zE) (hI : zsI wl_ke zTr zVke_token zMke_token η0 1 [] η) (hig : iCke_token xs η0 1 [] η) : ∀ x1 : Int, x1 = η 0 (Int.toNat 7) → zok 0 x1 → ∀ (x2 : Int) (η1 : zE), ((gC2 wl_ke [(nat_lit 0, zPke_isSmall, zOke_isSmall, zMke_isSmall), (nat_lit 1, zPke_isDigit, zOke_isDigit, zMke_isDigit), (nat_lit 2, zPke_wordAt, zOke_wordAt, zMke_wordAt), (nat_lit 3, zPke_packed, zOke_packed, zMke_packed), (nat_lit 4, zPke_signToken, zOke_signToken, zMke_signToken)] pCke_token qCke_token) 0).2 [x1] η x2 η1 → (x2 = 0) → ∀ x3 : Int, x3 = η1 0 (Int.toNat 10) → zok 0 x3 → ∀ x4 : Int, x4 = η1 0 (Int.toNat 7) → zok 0 x4 → ∀ (x5 : Int) (η2 : zE), ((gC2 wl_ke [(nat_lit 0, zPke_isSmall, zOke_isSmall, zMke_isSmall), (nat_lit 1, zPke_isDigit, zOke_isDigit, zMke_isDigit), (nat_lit 2, zPke_wordAt, zOke_wordAt, zMke_wordAt), (nat_lit 3, zPke_packed, zOke_packed, zMke_packed), (nat_lit 4, zPke_signToken, zOke_signToken, zMke_signToken)] pCke_token qCke_token) 2).2 [x3, x4] η1 x5 η2 → ∀ η3 : zE, η3 = zup η2 0 (Int.toNat 9) x5 → ∀ x6 : Int, x6 = η3 0 (Int.toNat 9) → zok 0 x6 → (x6 < 0) → ∀ x7 : Int, x7 = η3 0 (Int.toNat 7) → zok 0 x7 → ∀ x8 : Int, x8 = η3 0 (Int.toNat 10) → zok 0 x8 → ∀ x9 : Int, x9 = zd 0 2 x7 x8 → (x9 ≤ 6) → ∀ η4 : zE, η4 = zup η3 0 (Int.toNat 8) 2 → ∀ x10 : Int, x10 = η4 0 (Int.toNat 8) → zok 0 x10 → (x10 = 2) → ∀ x11 : Int, x11 = η4 0 (Int.toNat 10) → zok 0 x11 → ∀ x12 : Int, x12 = η4 0 (Int.toNat 7) → zok 0 x12 → ∀ (x13 : Int) (η5 : zE), ((gC2 wl_ke [(nat_lit 0, zPke_isSmall, zOke_isSmall, zMke_isSmall), (nat_lit 1, zPke_isDigit, zOke_isDigit, zMke_isDigit), (nat_lit 2, zPke_wordAt, zOke_wordAt, zMke_wordAt), (nat_lit 3, zPke_packed, zOke_packed, zMke_packed), (nat_lit 4, zPke_signToken, zOke_signToken, zMke_signToken)] pCke_token qCke_token) 3).2 [x11, x12] η4 x13 η5 → ∀ η6 : zE, η6 = zup η5 0 (Int.toNat 9) x13 → (fun (_ : Nat) (y : Int) (η' : zE) => pQke_token xs η0 y η') 0 0 η6 := by
  have fig := hig.2
  have hig := hig.1
  intro x1 e1 r1 x2 η1 h2 c1 x3 e3 r3 x4 e4 r4 x5 η2 h5 η3 eη3 x6 e6 r6 c2 x7 e7 r7 x8 e8 r8 x9 e9 c3 η4 eη4 x10 e10 r10 c4 x11 e11 r11 x12 e12 r12 x13 η5 h13 η6 eη6
  have y2 : fQke_isSmall [x1] η x2 η1 := h2.2.2
  have k2 : sQ wl_ke zTr zOke_isSmall zMke_isSmall [x1] η x2 η1 ∧ oQke_isSmall [x1] η x2 η1 := ⟨h2.1, h2.2.1⟩
  have y5 : fQke_wordAt [x3, x4] η1 x5 η2 := h5.2.2
  have k5 : sQ wl_ke zTr zOke_wordAt zMke_wordAt [x3, x4] η1 x5 η2 ∧ oQke_wordAt [x3, x4] η1 x5 η2 := ⟨h5.1, h5.2.1⟩
  have y13 : fQke_packed [x11, x12] η4 x13 η5 := h13.2.2
  have k13 : sQ wl_ke zTr zOke_packed zMke_packed [x11, x12] η4 x13 η5 ∧ oQke_packed [x11, x12] η4 x13 η5 := ⟨h13.1, h13.2.1⟩
  refine yj_a ?_ ?_
  · replace e9 := zEq_i e9
    have y2 : fQke_isSmall [x1] η x2 η1 := h2.2.2
    have k2 : sQ wl_ke zTr zOke_isSmall zMke_isSmall [x1] η x2 η1 ∧ oQke_isSmall [x1] η x2 η1 := ⟨h2.1, h2.2.1⟩
    have y5 : fQke_wordAt [x3, x4] η1 x5 η2 := h5.2.2
    have k5 : sQ wl_ke zTr zOke_wordAt zMke_wordAt [x3, x4] η1 x5 η2 ∧ oQke_wordAt [x3, x4] η1 x5 η2 := ⟨h5.1, h5.2.1⟩
    have y13 : fQke_packed [x11, x12] η4 x13 η5 := h13.2.2
    have k13 : sQ wl_ke zTr zOke_packed zMke_packed [x11, x12] η4 x13 η5 ∧ oQke_packed [x11, x12] η4 x13 η5 := ⟨h13.1, h13.2.1⟩
    have w0_0_7 : (0 : Int) ≤ η 0 7 ∧ η 0 7 ≤ 700 := wf_ok (a := 7) (b := 7) (z := (0, 700)) hI.1.1 (by decide +kernel) (Nat.le_refl _) (Nat.le_refl _)
    replace e1 : x1 = η 0 7 := e1
    replace r1 : -2147483648 ≤ x1 ∧ x1 ≤ 2147483647 := r1
    have c0_0_7 : η 0 7 = η 0 7 := rfl
    have w0_0_6 : (0 : Int) ≤ η 0 6 ∧ η 0 6 ≤ 700 := wf_ok (a := 6) (b := 6) (z := (0, 700)) hI.1.1 (by decide +kernel) (Nat.le_refl _) (Nat.le_refl _)
    have c0_0_6 : η 0 6 = η 0 6 := rfl
    have w0_0_8 : (0 : Int) ≤ η 0 8 ∧ η 0 8 ≤ 6 := wf_ok (a := 8) (b := 8) (z := (0, 6)) hI.1.1 (by decide +kernel) (Nat.le_refl _) (Nat.le_refl _)
    have c0_0_8 : η 0 8 = η 0 8 := rfl
    have c0_0_9 : η 0 9 = η 0 9 := rfl
    have bx2 : (0 : Int) ≤ x2 ∧ x2 ≤ 1 := k2.1.2.1
    have w0_0_10 : (0 : Int) ≤ η 0 10 ∧ η 0 10 ≤ 700 := wf_ok (a := 10) (b := 10) (z := (0, 700)) hI.1.1 (by decide +kernel) (Nat.le_refl _) (Nat.le_refl _)
    have v5 : zEq (η1 0 10) (η 0 10) := (k2.1.2.2.2.1 0 10 (by decide +kernel)).trans rfl
    replace e3 : x3 = η 0 10 := e3.trans v5
    replace r3 : -2147483648 ≤ x3 ∧ x3 ≤ 2147483647 := r3
    have v6 : zEq (η1 0 7) (η 0 7) := (k2.1.2.2.2.1 0 7 (by decide +kernel)).trans rfl
    replace e4 : x4 = η 0 7 := e4.trans v6
    replace r4 : -2147483648 ≤ x4 ∧ x4 ≤ 2147483647 := r4
    have c1_0_7 : η1 0 7 = η 0 7 := v6
    have v7 : zEq (η1 0 6) (η 0 6) := (k2.1.2.2.2.1 0 6 (by decide +kernel)).trans rfl
    have c1_0_6 : η1 0 6 = η 0 6 := v7
    have v8 : zEq (η1 0 8) (η 0 8) := (k2.1.2.2.2.1 0 8 (by decide +kernel)).trans rfl
    have c1_0_8 : η1 0 8 = η 0 8 := v8
    have v9 : zEq (η1 0 9) (η 0 9) := (k2.1.2.2.2.1 0 9 (by decide +kernel)).trans rfl
    have c1_0_9 : η1 0 9 = η 0 9 := v9
    have bx5 : ((-1) : Int) ≤ x5 ∧ x5 ≤ 20 := k5.1.2.1
    have v10 : zEq (η2 0 9) (η 0 9) := (k5.1.2.2.2.1 0 9 (by decide +kernel)).trans v9
    have c2_0_9 : η2 0 9 = η 0 9 := v10
    have v11 : zEq (η3 0 9) (x5) := by rw [eη3]; exact zup_eq
    replace e6 : x6 = x5 := e6.trans v11
    replace r6 : -2147483648 ≤ x6 ∧ x6 ≤ 2147483647 := r6
    have v12 : zEq (η2 0 7) (η 0 7) := (k5.1.2.2.2.1 0 7 (by decide +kernel)).trans v6
    have v13 : zEq (η3 0 7) (η 0 7) := by rw [eη3]; exact (zup_ne (fun _ e => absurd e (by decide))).trans v12
    replace e7 : x7 = η 0 7 := e7.trans v13
    replace r7 : -2147483648 ≤ x7 ∧ x7 ≤ 2147483647 := r7
    have v14 : zEq (η2 0 10) (η 0 10) := (k5.1.2.2.2.1 0 10 (by decide +kernel)).trans v5
    have v15 : zEq (η3 0 10) (η 0 10) := by rw [eη3]; exact (zup_ne (fun _ e => absurd e (by decide))).trans v14
    replace e8 : x8 = η 0 10 := e8.trans v15
    replace r8 : -2147483648 ≤ x8 ∧ x8 ≤ 2147483647 := r8
    first
    | replace e9 : x9 = x7 - x8 := zd_s2 (zEq_o e9) (by clear e9; exact ⟨by omega, by omega⟩)
    | clear e9
    have v16 : zEq (η2 0 8) (η 0 8) := (k5.1.2.2.2.1 0 8 (by decide +kernel)).trans v8
    have v17 : zEq (η3 0 8) (η 0 8) := by rw [eη3]; exact (zup_ne (fun _ e => absurd e (by decide))).trans v16
    have c3_0_8 : η3 0 8 = η 0 8 := v17
    have v18 : zEq (η4 0 8) (2) := by rw [eη4]; exact zup_eq
    replace e10 : x10 = 2 := e10.trans v18
    replace r10 : -2147483648 ≤ x10 ∧ x10 ≤ 2147483647 := r10
    have v19 : zEq (η4 0 10) (η 0 10) := by rw [eη4]; exact (zup_ne (fun _ e => absurd e (by decide))).trans v15
    replace e11 : x11 = η 0 10 := e11.trans v19
    replace r11 : -2147483648 ≤ x11 ∧ x11 ≤ 2147483647 := r11
    have v20 : zEq (η4 0 7) (η 0 7) := by rw [eη4]; exact (zup_ne (fun _ e => absurd e (by decide))).trans v13
    replace e12 : x12 = η 0 7 := e12.trans v20
    replace r12 : -2147483648 ≤ x12 ∧ x12 ≤ 2147483647 := r12
    have c4_0_7 : η4 0 7 = η 0 7 := v20
    have v21 : zEq (η2 0 6) (η 0 6) := (k5.1.2.2.2.1 0 6 (by decide +kernel)).trans v7
    have v22 : zEq (η3 0 6) (η 0 6) := by rw [eη3]; exact (zup_ne (fun _ e => absurd e (by decide))).trans v21
    have v23 : zEq (η4 0 6) (η 0 6) := by rw [eη4]; exact (zup_ne (fun _ e => absurd e (by decide))).trans v22
    have c4_0_6 : η4 0 6 = η 0 6 := v23
    have c4_0_8 : η4 0 8 = 2 := v18
    have v24 : zEq (η4 0 9) (x5) := by rw [eη4]; exact (zup_ne (fun _ e => absurd e (by decide))).trans v11
    have c4_0_9 : η4 0 9 = x5 := v24
    have bx13 : ((-2147483648) : Int) ≤ x13 ∧ x13 ≤ 2147483647 := k13.1.2.1
    have v25 : zEq (η5 0 9) (x5) := (k13.1.2.2.2.1 0 9 (by decide +kernel)).trans v24
    have c5_0_9 : η5 0 9 = x5 := v25
    have fr1_0 : ∀ j, η 1 j = η 1 j := fun _ => rfl
    have v26 : ∀ j, η1 1 j = η 1 j := fun j => k2.1.2.2.2.1 1 _ (zinr_not (by decide +kernel))
    have fr1_1 : ∀ j, η1 1 j = η 1 j := v26
    have v27 : ∀ j, η2 1 j = η 1 j := fun j => (k5.1.2.2.2.1 1 _ (zinr_not (by decide +kernel))).trans (v26 j)
    have fr1_2 : ∀ j, η2 1 j = η 1 j := v27
    have v28 : ∀ j, η3 1 j = η 1 j := fun j => by rw [eη3]; exact (zup_ne (fun e _ => absurd e (by decide))).trans (v27 j)
    have fr1_3 : ∀ j, η3 1 j = η 1 j := v28
    have v29 : ∀ j, η4 1 j = η 1 j := fun j => by rw [eη4]; exact (zup_ne (fun e _ => absurd e (by decide))).trans (v28 j)
    have fr1_4 : ∀ j, η4 1 j = η 1 j := v29
    have v30 : ∀ j, η5 1 j = η 1 j := fun j => (k13.1.2.2.2.1 1 _ (zinr_not (by decide +kernel))).trans (v29 j)
    have fr1_5 : ∀ j, η5 1 j = η 1 j := v30
    have v31 : ∀ j, η6 1 j = η 1 j := fun j => by rw [eη6]; exact (zup_ne (fun e _ => absurd e (by decide))).trans (v30 j)
    have fr1_6 : ∀ j, η6 1 j = η 1 j := v31
    have v32 : ∀ j, η1 2 j = η 2 j := fun j => k2.1.2.2.2.1 2 _ (zinr_not (by decide +kernel))
    have v33 : ∀ j, η2 2 j = η 2 j := fun j => (k5.1.2.2.2.1 2 _ (zinr_not (by decide +kernel))).trans (v32 j)
    have v34 : ∀ j, η3 2 j = η 2 j := fun j => by rw [eη3]; exact (zup_ne (fun e _ => absurd e (by decide))).trans (v33 j)
    have v35 : ∀ j, η4 2 j = η 2 j := fun j => by rw [eη4]; exact (zup_ne (fun e _ => absurd e (by decide))).trans (v34 j)
    have v36 : ∀ j, η5 2 j = η 2 j := fun j => (k13.1.2.2.2.1 2 _ (zinr_not (by decide +kernel))).trans (v35 j)
    have v37 : ∀ j, η6 2 j = η 2 j := fun j => by rw [eη6]; exact (zup_ne (fun e _ => absurd e (by decide))).trans (v36 j)
    have fr2 : ∀ j, η6 2 j = η 2 j := v37
    have v38 : zEq (η5 0 7) (η 0 7) := (k13.1.2.2.2.1 0 7 (by decide +kernel)).trans v20
    have v39 : zEq (η6 0 7) (η 0 7) := by rw [eη6]; exact (zup_ne (fun _ e => absurd e (by decide))).trans v38
    have f0_7 : η6 0 7 = η 0 7 := v39
    have v40 : zEq (η5 0 6) (η 0 6) := (k13.1.2.2.2.1 0 6 (by decide +kernel)).trans v23
    have v41 : zEq (η6 0 6) (η 0 6) := by rw [eη6]; exact (zup_ne (fun _ e => absurd e (by decide))).trans v40
    have f0_6 : η6 0 6 = η 0 6 := v41
    have v42 : zEq (η5 0 8) (2) := (k13.1.2.2.2.1 0 8 (by decide +kernel)).trans v18
    have v43 : zEq (η6 0 8) (2) := by rw [eη6]; exact (zup_ne (fun _ e => absurd e (by decide))).trans v42
    have f0_8 : η6 0 8 = 2 := v43
    have v44 : zEq (η6 0 9) (x13) := by rw [eη6]; exact zup_eq
    have f0_9 : η6 0 9 = x13 := v44
    have g : G_k η := hig.1
    have hh : η 0 7 ≤ η 0 6 := g.1
    have hs : η 0 6 = η0 0 6 := hI.2 0 6 (by decide +kernel)
    have hk0 : (0 : Int) ≤ η0 0 8 ∧ η0 0 8 ≤ 6 := wf_ok (a := 8) (b := 8) (z := (0, 6)) hp.1 (by decide +kernel) (Nat.le_refl _) (Nat.le_refl _)
    have hd : (η0 0 7 < η 0 7 ∨ (η0 0 7 ≤ η 0 7 ∧ η 0 7 < η 0 6 ∧ 97 ≤ η 1 (Int.toNat (η 0 7)) ∧ η 1 (Int.toNat (η 0 7)) ≤ 122)) := hig.2
    have hn : η0 0 7 ≤ η 0 7 := by rcases hd with h | h <;> omega
    have p0 : η0 0 7 < η 0 7 := by
      rcases hd with h | h
      · exact h
      · exact absurd (show x1 < η 0 6 ∧ 97 ≤ η 1 (Int.toNat x1) ∧ η 1 (Int.toNat x1) ≤ 122 by rw [show x1 = η 0 7 by omega]; exact h.2) (k2.2.2.2.2 c1)
    have q5 : x5 ≤ 19 := k5.2.2
    have hG : G_k η6 := by
      first
      | (exfalso; omega)
      | exact gk_v f0_7 f0_6 f0_8 f0_9 fr2 g.2.2 (by omega) (k_o (by decide) (by decide))
      | exact gk_v f0_7 f0_6 f0_8 f0_9 fr2 g.2.2 (by omega) (k_o (fun w => by omega) (fun w => by omega))
      | exact gk_v f0_7 f0_6 f0_8 f0_9 fr2 g.2.2 (by omega) ⟨fun _ => ⟨by omega, by omega⟩, fun h => absurd h (by decide)⟩
      | exact gk_v f0_7 f0_6 f0_8 f0_9 fr2 g.2.2 (by omega) g.2.1
    refine ⟨hG, fun w => ?_⟩
    have w : ¬ η0 0 8 = 0 := w
    show 10 * (η6 0 6 - η6 0 7) + η6 0 8 < 10 * (η0 0 6 - η0 0 7) + η0 0 8
    omega
  · have b7 : (0 : Int) ≤ η 0 7 ∧ η 0 7 ≤ 700 := wf_ok (a := 7) (b := 7) (z := (0, 700)) hI.1.1 (by decide +kernel) (Nat.le_refl _) (Nat.le_refl _)
    have b6 : (0 : Int) ≤ η 0 6 ∧ η 0 6 ≤ 700 := wf_ok (a := 6) (b := 6) (z := (0, 700)) hI.1.1 (by decide +kernel) (Nat.le_refl _) (Nat.le_refl _)
    have hn : η 0 7 ≤ η 0 6 := hig.1.1
    have z1 : x1 = η 0 7 := e1
    have w1 : η1 = η := y2.2
    obtain ⟨S, S0, SL⟩ : yq_tW η0 η := fig
    have q := k2.2.2.2.2 c1
    rw [show [x1].getD 0 0 = η 0 7 from z1] at q
    have hc : η 0 6 ≤ η 0 7 ∨ (η 0 7 < η 0 6 ∧ yp_le (η 1 (η 0 7).toNat) = false) := by
      by_cases w : η 0 7 < η 0 6
      · exact Or.inr ⟨w, l_no (fun v => q ⟨w, v.1, v.2⟩)⟩
      · exact Or.inl (by omega)
    have z3 : x3 = η 0 10 := e3.trans (by rw [w1]; rfl)
    have z4 : x4 = η 0 7 := e4.trans (by rw [w1]; rfl)
    have w2 : η2 = η1 := y5.2
    have hw : x5 = yq_wa (η 1) (η 0 10).toNat (η 0 7 - η 0 10).toNat 20 := by
      have v : x5 = yq_wa (η1 1) x3.toNat (x4 - x3).toNat 20 := y5.1
      rw [v, w1, z3, z4]
    have z6 : x6 = x5 := e6.trans (by rw [eη3]; rfl)
    have eη3 : η3 = zup η 0 9 x5 := by rw [eη3, w2, w1]; rfl
    have z7 : x7 = η 0 7 := e7.trans (by rw [eη3]; rfl)
    have z8 : x8 = η 0 10 := e8.trans (by rw [eη3]; rfl)
    have b10 : (0 : Int) ≤ η 0 10 ∧ η 0 10 ≤ 700 := wf_ok (a := 10) (b := 10) (z := (0, 700)) hI.1.1 (by decide +kernel) (Nat.le_refl _) (Nat.le_refl _)
    rw [zd_s ⟨by omega, by omega⟩] at e9
    have z11 : x11 = η 0 10 := e11.trans (by rw [eη4, eη3]; rfl)
    have z12 : x12 = η 0 7 := e12.trans (by rw [eη4, eη3]; rfl)
    have hp2 : yq_let (η 1) (η 0 10).toNat (η 0 7 - η 0 10).toNat → x13 = yq_pk (η 1) (η 0 10).toNat (η 0 7 - η 0 10).toNat 6 ∧ η5 = η4 := by
      have v : yq_let (η4 1) x11.toNat (x12 - x11).toNat → x13 = yq_pk (η4 1) x11.toNat (x12 - x11).toNat 6 ∧ η5 = η4 := y13
      rw [z11, z12] at v
      rw [eη4, eη3] at v ⊢
      exact v
    have gl := (qwL_e SL b7.1 hc).2.2.2.2.1
    have gl : yq_let (η 1) (η 0 10).toNat (η 0 7 - η 0 10).toNat := by
      have u := qwL_e SL b7.1 hc
      have t10 : η 0 10 = S 0 7 := by rw [u.2.2.1]; rfl
      rw [u.2.2.2.1, t10]
      have r0 := S0.2.1
      have m : (η 0 7 - S 0 7).toNat = yq_at η - yq_at S := by unfold yq_at; omega
      rw [m]
      exact gl
    refine tS_of S0 (qw_E (w := x5) S0.2.1 SL b7.1 hc hw (fun w => (hp2 w).1) ?_)
    rw [if_neg (show ¬ 0 ≤ x5 by omega), if_neg (by omega), eη6, (hp2 gl).2, eη4, eη3]
    rfl
set_option maxHeartbeats 8000000 in
theorem zke_token_o20 {ro : Nat → List Int32} (xs : List Int) (η0 : zE) (hp : sP wl_ke zTr zPke_token xs η0) (hpp : pPke_token xs η0) (η : zE) (hI : zsI wl_ke zTr zVke_token zMke_token η0 1 [] η) (hig : iCke_token xs η0 1 [] η) : ∀ x1 : Int, x1 = η 0 (Int.toNat 7) → zok 0 x1 → ∀ (x2 : Int) (η1 : zE), ((gC2 wl_ke [(nat_lit 0, zPke_isSmall, zOke_isSmall, zMke_isSmall), (nat_lit 1, zPke_isDigit, zOke_isDigit, zMke_isDigit), (nat_lit 2, zPke_wordAt, zOke_wordAt, zMke_wordAt), (nat_lit 3, zPke_packed, zOke_packed, zMke_packed), (nat_lit 4, zPke_signToken, zOke_signToken, zMke_signToken)] pCke_token qCke_token) 0).2 [x1] η x2 η1 → (x2 = 0) → ∀ x3 : Int, x3 = η1 0 (Int.toNat 10) → zok 0 x3 → ∀ x4 : Int, x4 = η1 0 (Int.toNat 7) → zok 0 x4 → ∀ (x5 : Int) (η2 : zE), ((gC2 wl_ke [(nat_lit 0, zPke_isSmall, zOke_isSmall, zMke_isSmall), (nat_lit 1, zPke_isDigit, zOke_isDigit, zMke_isDigit), (nat_lit 2, zPke_wordAt, zOke_wordAt, zMke_wordAt), (nat_lit 3, zPke_packed, zOke_packed, zMke_packed), (nat_lit 4, zPke_signToken, zOke_signToken, zMke_signToken)] pCke_token qCke_token) 2).2 [x3, x4] η1 x5 η2 → ∀ η3 : zE, η3 = zup η2 0 (Int.toNat 9) x5 → ∀ x6 : Int, x6 = η3 0 (Int.toNat 9) → zok 0 x6 → (x6 < 0) → ∀ x7 : Int, x7 = η3 0 (Int.toNat 7) → zok 0 x7 → ∀ x8 : Int, x8 = η3 0 (Int.toNat 10) → zok 0 x8 → ∀ x9 : Int, x9 = zd 0 2 x7 x8 → (6 < x9) → ∀ η4 : zE, η4 = zup η3 0 (Int.toNat 8) 6 → ∀ x10 : Int, x10 = η4 0 (Int.toNat 8) → zok 0 x10 → (¬ x10 = 2) → (fun (_ : Nat) (y : Int) (η' : zE) => pQke_token xs η0 y η') 0 0 η4 := by
  have fig := hig.2
  have hig := hig.1
  intro x1 e1 r1 x2 η1 h2 c1 x3 e3 r3 x4 e4 r4 x5 η2 h5 η3 eη3 x6 e6 r6 c2 x7 e7 r7 x8 e8 r8 x9 e9 c3 η4 eη4 x10 e10 r10 c4
  have y2 : fQke_isSmall [x1] η x2 η1 := h2.2.2
  have k2 : sQ wl_ke zTr zOke_isSmall zMke_isSmall [x1] η x2 η1 ∧ oQke_isSmall [x1] η x2 η1 := ⟨h2.1, h2.2.1⟩
  have y5 : fQke_wordAt [x3, x4] η1 x5 η2 := h5.2.2
  have k5 : sQ wl_ke zTr zOke_wordAt zMke_wordAt [x3, x4] η1 x5 η2 ∧ oQke_wordAt [x3, x4] η1 x5 η2 := ⟨h5.1, h5.2.1⟩
  refine yj_a ?_ ?_
  · replace e9 := zEq_i e9
    have y2 : fQke_isSmall [x1] η x2 η1 := h2.2.2
    have k2 : sQ wl_ke zTr zOke_isSmall zMke_isSmall [x1] η x2 η1 ∧ oQke_isSmall [x1] η x2 η1 := ⟨h2.1, h2.2.1⟩
    have y5 : fQke_wordAt [x3, x4] η1 x5 η2 := h5.2.2
    have k5 : sQ wl_ke zTr zOke_wordAt zMke_wordAt [x3, x4] η1 x5 η2 ∧ oQke_wordAt [x3, x4] η1 x5 η2 := ⟨h5.1, h5.2.1⟩
    have w0_0_7 : (0 : Int) ≤ η 0 7 ∧ η 0 7 ≤ 700 := wf_ok (a := 7) (b := 7) (z := (0, 700)) hI.1.1 (by decide +kernel) (Nat.le_refl _) (Nat.le_refl _)
    replace e1 : x1 = η 0 7 := e1
    replace r1 : -2147483648 ≤ x1 ∧ x1 ≤ 2147483647 := r1
    have c0_0_7 : η 0 7 = η 0 7 := rfl
    have w0_0_6 : (0 : Int) ≤ η 0 6 ∧ η 0 6 ≤ 700 := wf_ok (a := 6) (b := 6) (z := (0, 700)) hI.1.1 (by decide +kernel) (Nat.le_refl _) (Nat.le_refl _)
    have c0_0_6 : η 0 6 = η 0 6 := rfl
    have w0_0_8 : (0 : Int) ≤ η 0 8 ∧ η 0 8 ≤ 6 := wf_ok (a := 8) (b := 8) (z := (0, 6)) hI.1.1 (by decide +kernel) (Nat.le_refl _) (Nat.le_refl _)
    have c0_0_8 : η 0 8 = η 0 8 := rfl
    have c0_0_9 : η 0 9 = η 0 9 := rfl
    have bx2 : (0 : Int) ≤ x2 ∧ x2 ≤ 1 := k2.1.2.1
    have w0_0_10 : (0 : Int) ≤ η 0 10 ∧ η 0 10 ≤ 700 := wf_ok (a := 10) (b := 10) (z := (0, 700)) hI.1.1 (by decide +kernel) (Nat.le_refl _) (Nat.le_refl _)
    have v5 : zEq (η1 0 10) (η 0 10) := (k2.1.2.2.2.1 0 10 (by decide +kernel)).trans rfl
    replace e3 : x3 = η 0 10 := e3.trans v5
    replace r3 : -2147483648 ≤ x3 ∧ x3 ≤ 2147483647 := r3
    have v6 : zEq (η1 0 7) (η 0 7) := (k2.1.2.2.2.1 0 7 (by decide +kernel)).trans rfl
    replace e4 : x4 = η 0 7 := e4.trans v6
    replace r4 : -2147483648 ≤ x4 ∧ x4 ≤ 2147483647 := r4
    have c1_0_7 : η1 0 7 = η 0 7 := v6
    have v7 : zEq (η1 0 6) (η 0 6) := (k2.1.2.2.2.1 0 6 (by decide +kernel)).trans rfl
    have c1_0_6 : η1 0 6 = η 0 6 := v7
    have v8 : zEq (η1 0 8) (η 0 8) := (k2.1.2.2.2.1 0 8 (by decide +kernel)).trans rfl
    have c1_0_8 : η1 0 8 = η 0 8 := v8
    have v9 : zEq (η1 0 9) (η 0 9) := (k2.1.2.2.2.1 0 9 (by decide +kernel)).trans rfl
    have c1_0_9 : η1 0 9 = η 0 9 := v9
    have bx5 : ((-1) : Int) ≤ x5 ∧ x5 ≤ 20 := k5.1.2.1
    have v10 : zEq (η2 0 9) (η 0 9) := (k5.1.2.2.2.1 0 9 (by decide +kernel)).trans v9
    have c2_0_9 : η2 0 9 = η 0 9 := v10
    have v11 : zEq (η3 0 9) (x5) := by rw [eη3]; exact zup_eq
    replace e6 : x6 = x5 := e6.trans v11
    replace r6 : -2147483648 ≤ x6 ∧ x6 ≤ 2147483647 := r6
    have v12 : zEq (η2 0 7) (η 0 7) := (k5.1.2.2.2.1 0 7 (by decide +kernel)).trans v6
    have v13 : zEq (η3 0 7) (η 0 7) := by rw [eη3]; exact (zup_ne (fun _ e => absurd e (by decide))).trans v12
    replace e7 : x7 = η 0 7 := e7.trans v13
    replace r7 : -2147483648 ≤ x7 ∧ x7 ≤ 2147483647 := r7
    have v14 : zEq (η2 0 10) (η 0 10) := (k5.1.2.2.2.1 0 10 (by decide +kernel)).trans v5
    have v15 : zEq (η3 0 10) (η 0 10) := by rw [eη3]; exact (zup_ne (fun _ e => absurd e (by decide))).trans v14
    replace e8 : x8 = η 0 10 := e8.trans v15
    replace r8 : -2147483648 ≤ x8 ∧ x8 ≤ 2147483647 := r8
    first
    | replace e9 : x9 = x7 - x8 := zd_s2 (zEq_o e9) (by clear e9; exact ⟨by omega, by omega⟩)
    | clear e9
    have v16 : zEq (η2 0 8) (η 0 8) := (k5.1.2.2.2.1 0 8 (by decide +kernel)).trans v8
    have v17 : zEq (η3 0 8) (η 0 8) := by rw [eη3]; exact (zup_ne (fun _ e => absurd e (by decide))).trans v16
    have c3_0_8 : η3 0 8 = η 0 8 := v17
    have v18 : zEq (η4 0 8) (6) := by rw [eη4]; exact zup_eq
    replace e10 : x10 = 6 := e10.trans v18
    replace r10 : -2147483648 ≤ x10 ∧ x10 ≤ 2147483647 := r10
    have fr1_0 : ∀ j, η 1 j = η 1 j := fun _ => rfl
    have v19 : ∀ j, η1 1 j = η 1 j := fun j => k2.1.2.2.2.1 1 _ (zinr_not (by decide +kernel))
    have fr1_1 : ∀ j, η1 1 j = η 1 j := v19
    have v20 : ∀ j, η2 1 j = η 1 j := fun j => (k5.1.2.2.2.1 1 _ (zinr_not (by decide +kernel))).trans (v19 j)
    have fr1_2 : ∀ j, η2 1 j = η 1 j := v20
    have v21 : ∀ j, η3 1 j = η 1 j := fun j => by rw [eη3]; exact (zup_ne (fun e _ => absurd e (by decide))).trans (v20 j)
    have fr1_3 : ∀ j, η3 1 j = η 1 j := v21
    have v22 : ∀ j, η4 1 j = η 1 j := fun j => by rw [eη4]; exact (zup_ne (fun e _ => absurd e (by decide))).trans (v21 j)
    have fr1_4 : ∀ j, η4 1 j = η 1 j := v22
    have v23 : ∀ j, η1 2 j = η 2 j := fun j => k2.1.2.2.2.1 2 _ (zinr_not (by decide +kernel))
    have v24 : ∀ j, η2 2 j = η 2 j := fun j => (k5.1.2.2.2.1 2 _ (zinr_not (by decide +kernel))).trans (v23 j)
    have v25 : ∀ j, η3 2 j = η 2 j := fun j => by rw [eη3]; exact (zup_ne (fun e _ => absurd e (by decide))).trans (v24 j)
    have v26 : ∀ j, η4 2 j = η 2 j := fun j => by rw [eη4]; exact (zup_ne (fun e _ => absurd e (by decide))).trans (v25 j)
    have fr2 : ∀ j, η4 2 j = η 2 j := v26
    have v27 : zEq (η4 0 7) (η 0 7) := by rw [eη4]; exact (zup_ne (fun _ e => absurd e (by decide))).trans v13
    have f0_7 : η4 0 7 = η 0 7 := v27
    have v28 : zEq (η2 0 6) (η 0 6) := (k5.1.2.2.2.1 0 6 (by decide +kernel)).trans v7
    have v29 : zEq (η3 0 6) (η 0 6) := by rw [eη3]; exact (zup_ne (fun _ e => absurd e (by decide))).trans v28
    have v30 : zEq (η4 0 6) (η 0 6) := by rw [eη4]; exact (zup_ne (fun _ e => absurd e (by decide))).trans v29
    have f0_6 : η4 0 6 = η 0 6 := v30
    have f0_8 : η4 0 8 = 6 := v18
    have v31 : zEq (η4 0 9) (x5) := by rw [eη4]; exact (zup_ne (fun _ e => absurd e (by decide))).trans v11
    have f0_9 : η4 0 9 = x5 := v31
    have g : G_k η := hig.1
    have hh : η 0 7 ≤ η 0 6 := g.1
    have hs : η 0 6 = η0 0 6 := hI.2 0 6 (by decide +kernel)
    have hk0 : (0 : Int) ≤ η0 0 8 ∧ η0 0 8 ≤ 6 := wf_ok (a := 8) (b := 8) (z := (0, 6)) hp.1 (by decide +kernel) (Nat.le_refl _) (Nat.le_refl _)
    have hd : (η0 0 7 < η 0 7 ∨ (η0 0 7 ≤ η 0 7 ∧ η 0 7 < η 0 6 ∧ 97 ≤ η 1 (Int.toNat (η 0 7)) ∧ η 1 (Int.toNat (η 0 7)) ≤ 122)) := hig.2
    have hn : η0 0 7 ≤ η 0 7 := by rcases hd with h | h <;> omega
    have p0 : η0 0 7 < η 0 7 := by
      rcases hd with h | h
      · exact h
      · exact absurd (show x1 < η 0 6 ∧ 97 ≤ η 1 (Int.toNat x1) ∧ η 1 (Int.toNat x1) ≤ 122 by rw [show x1 = η 0 7 by omega]; exact h.2) (k2.2.2.2.2 c1)
    have q5 : x5 ≤ 19 := k5.2.2
    have hG : G_k η4 := by
      first
      | (exfalso; omega)
      | exact gk_v f0_7 f0_6 f0_8 f0_9 fr2 g.2.2 (by omega) (k_o (by decide) (by decide))
      | exact gk_v f0_7 f0_6 f0_8 f0_9 fr2 g.2.2 (by omega) (k_o (fun w => by omega) (fun w => by omega))
      | exact gk_v f0_7 f0_6 f0_8 f0_9 fr2 g.2.2 (by omega) ⟨fun _ => ⟨by omega, by omega⟩, fun h => absurd h (by decide)⟩
      | exact gk_v f0_7 f0_6 f0_8 f0_9 fr2 g.2.2 (by omega) g.2.1
    refine ⟨hG, fun w => ?_⟩
    have w : ¬ η0 0 8 = 0 := w
    show 10 * (η4 0 6 - η4 0 7) + η4 0 8 < 10 * (η0 0 6 - η0 0 7) + η0 0 8
    omega
  · have b7 : (0 : Int) ≤ η 0 7 ∧ η 0 7 ≤ 700 := wf_ok (a := 7) (b := 7) (z := (0, 700)) hI.1.1 (by decide +kernel) (Nat.le_refl _) (Nat.le_refl _)
    have b6 : (0 : Int) ≤ η 0 6 ∧ η 0 6 ≤ 700 := wf_ok (a := 6) (b := 6) (z := (0, 700)) hI.1.1 (by decide +kernel) (Nat.le_refl _) (Nat.le_refl _)
    have hn : η 0 7 ≤ η 0 6 := hig.1.1
    have z1 : x1 = η 0 7 := e1
    have w1 : η1 = η := y2.2
    obtain ⟨S, S0, SL⟩ : yq_tW η0 η := fig
    have q := k2.2.2.2.2 c1
    rw [show [x1].getD 0 0 = η 0 7 from z1] at q
    have hc : η 0 6 ≤ η 0 7 ∨ (η 0 7 < η 0 6 ∧ yp_le (η 1 (η 0 7).toNat) = false) := by
      by_cases w : η 0 7 < η 0 6
      · exact Or.inr ⟨w, l_no (fun v => q ⟨w, v.1, v.2⟩)⟩
      · exact Or.inl (by omega)
    have z3 : x3 = η 0 10 := e3.trans (by rw [w1]; rfl)
    have z4 : x4 = η 0 7 := e4.trans (by rw [w1]; rfl)
    have w2 : η2 = η1 := y5.2
    have hw : x5 = yq_wa (η 1) (η 0 10).toNat (η 0 7 - η 0 10).toNat 20 := by
      have v : x5 = yq_wa (η1 1) x3.toNat (x4 - x3).toNat 20 := y5.1
      rw [v, w1, z3, z4]
    have z6 : x6 = x5 := e6.trans (by rw [eη3]; rfl)
    have eη3 : η3 = zup η 0 9 x5 := by rw [eη3, w2, w1]; rfl
    have z7 : x7 = η 0 7 := e7.trans (by rw [eη3]; rfl)
    have z8 : x8 = η 0 10 := e8.trans (by rw [eη3]; rfl)
    have b10 : (0 : Int) ≤ η 0 10 ∧ η 0 10 ≤ 700 := wf_ok (a := 10) (b := 10) (z := (0, 700)) hI.1.1 (by decide +kernel) (Nat.le_refl _) (Nat.le_refl _)
    rw [zd_s ⟨by omega, by omega⟩] at e9
    refine tS_of S0 (qw_E (w := x5) (p := yq_pk (η 1) (η 0 10).toNat (η 0 7 - η 0 10).toNat 6) S0.2.1 SL b7.1 hc hw (fun _ => rfl) ?_)
    rw [if_neg (show ¬ 0 ≤ x5 by omega), if_pos (by omega), eη4, eη3]
    rfl
set_option maxHeartbeats 8000000 in
theorem zke_token_o21 {ro : Nat → List Int32} (xs : List Int) (η0 : zE) (hp : sP wl_ke zTr zPke_token xs η0) (hpp : pPke_token xs η0) (η : zE) (hI : zsI wl_ke zTr zVke_token zMke_token η0 1 [] η) (hig : iCke_token xs η0 1 [] η) : ∀ x1 : Int, x1 = η 0 (Int.toNat 7) → zok 0 x1 → ∀ (x2 : Int) (η1 : zE), ((gC2 wl_ke [(nat_lit 0, zPke_isSmall, zOke_isSmall, zMke_isSmall), (nat_lit 1, zPke_isDigit, zOke_isDigit, zMke_isDigit), (nat_lit 2, zPke_wordAt, zOke_wordAt, zMke_wordAt), (nat_lit 3, zPke_packed, zOke_packed, zMke_packed), (nat_lit 4, zPke_signToken, zOke_signToken, zMke_signToken)] pCke_token qCke_token) 0).2 [x1] η x2 η1 → (x2 = 0) → ∀ x3 : Int, x3 = η1 0 (Int.toNat 10) → zok 0 x3 → ∀ x4 : Int, x4 = η1 0 (Int.toNat 7) → zok 0 x4 → ∀ (x5 : Int) (η2 : zE), ((gC2 wl_ke [(nat_lit 0, zPke_isSmall, zOke_isSmall, zMke_isSmall), (nat_lit 1, zPke_isDigit, zOke_isDigit, zMke_isDigit), (nat_lit 2, zPke_wordAt, zOke_wordAt, zMke_wordAt), (nat_lit 3, zPke_packed, zOke_packed, zMke_packed), (nat_lit 4, zPke_signToken, zOke_signToken, zMke_signToken)] pCke_token qCke_token) 2).2 [x3, x4] η1 x5 η2 → ∀ η3 : zE, η3 = zup η2 0 (Int.toNat 9) x5 → ∀ x6 : Int, x6 = η3 0 (Int.toNat 9) → zok 0 x6 → (0 ≤ x6) → ∀ η4 : zE, η4 = zup η3 0 (Int.toNat 8) 1 → ∀ x7 : Int, x7 = η4 0 (Int.toNat 8) → zok 0 x7 → (¬ x7 = 2) → (fun (_ : Nat) (y : Int) (η' : zE) => pQke_token xs η0 y η') 0 0 η4 := by
  have fig := hig.2
  have hig := hig.1
  intro x1 e1 r1 x2 η1 h2 c1 x3 e3 r3 x4 e4 r4 x5 η2 h5 η3 eη3 x6 e6 r6 c2 η4 eη4 x7 e7 r7 c3
  have y2 : fQke_isSmall [x1] η x2 η1 := h2.2.2
  have k2 : sQ wl_ke zTr zOke_isSmall zMke_isSmall [x1] η x2 η1 ∧ oQke_isSmall [x1] η x2 η1 := ⟨h2.1, h2.2.1⟩
  have y5 : fQke_wordAt [x3, x4] η1 x5 η2 := h5.2.2
  have k5 : sQ wl_ke zTr zOke_wordAt zMke_wordAt [x3, x4] η1 x5 η2 ∧ oQke_wordAt [x3, x4] η1 x5 η2 := ⟨h5.1, h5.2.1⟩
  refine yj_a ?_ ?_
  · have y2 : fQke_isSmall [x1] η x2 η1 := h2.2.2
    have k2 : sQ wl_ke zTr zOke_isSmall zMke_isSmall [x1] η x2 η1 ∧ oQke_isSmall [x1] η x2 η1 := ⟨h2.1, h2.2.1⟩
    have y5 : fQke_wordAt [x3, x4] η1 x5 η2 := h5.2.2
    have k5 : sQ wl_ke zTr zOke_wordAt zMke_wordAt [x3, x4] η1 x5 η2 ∧ oQke_wordAt [x3, x4] η1 x5 η2 := ⟨h5.1, h5.2.1⟩
    have w0_0_7 : (0 : Int) ≤ η 0 7 ∧ η 0 7 ≤ 700 := wf_ok (a := 7) (b := 7) (z := (0, 700)) hI.1.1 (by decide +kernel) (Nat.le_refl _) (Nat.le_refl _)
    replace e1 : x1 = η 0 7 := e1
    replace r1 : -2147483648 ≤ x1 ∧ x1 ≤ 2147483647 := r1
    have c0_0_7 : η 0 7 = η 0 7 := rfl
    have w0_0_6 : (0 : Int) ≤ η 0 6 ∧ η 0 6 ≤ 700 := wf_ok (a := 6) (b := 6) (z := (0, 700)) hI.1.1 (by decide +kernel) (Nat.le_refl _) (Nat.le_refl _)
    have c0_0_6 : η 0 6 = η 0 6 := rfl
    have w0_0_8 : (0 : Int) ≤ η 0 8 ∧ η 0 8 ≤ 6 := wf_ok (a := 8) (b := 8) (z := (0, 6)) hI.1.1 (by decide +kernel) (Nat.le_refl _) (Nat.le_refl _)
    have c0_0_8 : η 0 8 = η 0 8 := rfl
    have c0_0_9 : η 0 9 = η 0 9 := rfl
    have bx2 : (0 : Int) ≤ x2 ∧ x2 ≤ 1 := k2.1.2.1
    have w0_0_10 : (0 : Int) ≤ η 0 10 ∧ η 0 10 ≤ 700 := wf_ok (a := 10) (b := 10) (z := (0, 700)) hI.1.1 (by decide +kernel) (Nat.le_refl _) (Nat.le_refl _)
    have v5 : zEq (η1 0 10) (η 0 10) := (k2.1.2.2.2.1 0 10 (by decide +kernel)).trans rfl
    replace e3 : x3 = η 0 10 := e3.trans v5
    replace r3 : -2147483648 ≤ x3 ∧ x3 ≤ 2147483647 := r3
    have v6 : zEq (η1 0 7) (η 0 7) := (k2.1.2.2.2.1 0 7 (by decide +kernel)).trans rfl
    replace e4 : x4 = η 0 7 := e4.trans v6
    replace r4 : -2147483648 ≤ x4 ∧ x4 ≤ 2147483647 := r4
    have c1_0_7 : η1 0 7 = η 0 7 := v6
    have v7 : zEq (η1 0 6) (η 0 6) := (k2.1.2.2.2.1 0 6 (by decide +kernel)).trans rfl
    have c1_0_6 : η1 0 6 = η 0 6 := v7
    have v8 : zEq (η1 0 8) (η 0 8) := (k2.1.2.2.2.1 0 8 (by decide +kernel)).trans rfl
    have c1_0_8 : η1 0 8 = η 0 8 := v8
    have v9 : zEq (η1 0 9) (η 0 9) := (k2.1.2.2.2.1 0 9 (by decide +kernel)).trans rfl
    have c1_0_9 : η1 0 9 = η 0 9 := v9
    have bx5 : ((-1) : Int) ≤ x5 ∧ x5 ≤ 20 := k5.1.2.1
    have v10 : zEq (η2 0 9) (η 0 9) := (k5.1.2.2.2.1 0 9 (by decide +kernel)).trans v9
    have c2_0_9 : η2 0 9 = η 0 9 := v10
    have v11 : zEq (η3 0 9) (x5) := by rw [eη3]; exact zup_eq
    replace e6 : x6 = x5 := e6.trans v11
    replace r6 : -2147483648 ≤ x6 ∧ x6 ≤ 2147483647 := r6
    have v12 : zEq (η2 0 8) (η 0 8) := (k5.1.2.2.2.1 0 8 (by decide +kernel)).trans v8
    have v13 : zEq (η3 0 8) (η 0 8) := by rw [eη3]; exact (zup_ne (fun _ e => absurd e (by decide))).trans v12
    have c3_0_8 : η3 0 8 = η 0 8 := v13
    have v14 : zEq (η4 0 8) (1) := by rw [eη4]; exact zup_eq
    replace e7 : x7 = 1 := e7.trans v14
    replace r7 : -2147483648 ≤ x7 ∧ x7 ≤ 2147483647 := r7
    have fr1_0 : ∀ j, η 1 j = η 1 j := fun _ => rfl
    have v15 : ∀ j, η1 1 j = η 1 j := fun j => k2.1.2.2.2.1 1 _ (zinr_not (by decide +kernel))
    have fr1_1 : ∀ j, η1 1 j = η 1 j := v15
    have v16 : ∀ j, η2 1 j = η 1 j := fun j => (k5.1.2.2.2.1 1 _ (zinr_not (by decide +kernel))).trans (v15 j)
    have fr1_2 : ∀ j, η2 1 j = η 1 j := v16
    have v17 : ∀ j, η3 1 j = η 1 j := fun j => by rw [eη3]; exact (zup_ne (fun e _ => absurd e (by decide))).trans (v16 j)
    have fr1_3 : ∀ j, η3 1 j = η 1 j := v17
    have v18 : ∀ j, η4 1 j = η 1 j := fun j => by rw [eη4]; exact (zup_ne (fun e _ => absurd e (by decide))).trans (v17 j)
    have fr1_4 : ∀ j, η4 1 j = η 1 j := v18
    have v19 : ∀ j, η1 2 j = η 2 j := fun j => k2.1.2.2.2.1 2 _ (zinr_not (by decide +kernel))
    have v20 : ∀ j, η2 2 j = η 2 j := fun j => (k5.1.2.2.2.1 2 _ (zinr_not (by decide +kernel))).trans (v19 j)
    have v21 : ∀ j, η3 2 j = η 2 j := fun j => by rw [eη3]; exact (zup_ne (fun e _ => absurd e (by decide))).trans (v20 j)
    have v22 : ∀ j, η4 2 j = η 2 j := fun j => by rw [eη4]; exact (zup_ne (fun e _ => absurd e (by decide))).trans (v21 j)
    have fr2 : ∀ j, η4 2 j = η 2 j := v22
    have v23 : zEq (η2 0 7) (η 0 7) := (k5.1.2.2.2.1 0 7 (by decide +kernel)).trans v6
    have v24 : zEq (η3 0 7) (η 0 7) := by rw [eη3]; exact (zup_ne (fun _ e => absurd e (by decide))).trans v23
    have v25 : zEq (η4 0 7) (η 0 7) := by rw [eη4]; exact (zup_ne (fun _ e => absurd e (by decide))).trans v24
    have f0_7 : η4 0 7 = η 0 7 := v25
    have v26 : zEq (η2 0 6) (η 0 6) := (k5.1.2.2.2.1 0 6 (by decide +kernel)).trans v7
    have v27 : zEq (η3 0 6) (η 0 6) := by rw [eη3]; exact (zup_ne (fun _ e => absurd e (by decide))).trans v26
    have v28 : zEq (η4 0 6) (η 0 6) := by rw [eη4]; exact (zup_ne (fun _ e => absurd e (by decide))).trans v27
    have f0_6 : η4 0 6 = η 0 6 := v28
    have f0_8 : η4 0 8 = 1 := v14
    have v29 : zEq (η4 0 9) (x5) := by rw [eη4]; exact (zup_ne (fun _ e => absurd e (by decide))).trans v11
    have f0_9 : η4 0 9 = x5 := v29
    have g : G_k η := hig.1
    have hh : η 0 7 ≤ η 0 6 := g.1
    have hs : η 0 6 = η0 0 6 := hI.2 0 6 (by decide +kernel)
    have hk0 : (0 : Int) ≤ η0 0 8 ∧ η0 0 8 ≤ 6 := wf_ok (a := 8) (b := 8) (z := (0, 6)) hp.1 (by decide +kernel) (Nat.le_refl _) (Nat.le_refl _)
    have hd : (η0 0 7 < η 0 7 ∨ (η0 0 7 ≤ η 0 7 ∧ η 0 7 < η 0 6 ∧ 97 ≤ η 1 (Int.toNat (η 0 7)) ∧ η 1 (Int.toNat (η 0 7)) ≤ 122)) := hig.2
    have hn : η0 0 7 ≤ η 0 7 := by rcases hd with h | h <;> omega
    have p0 : η0 0 7 < η 0 7 := by
      rcases hd with h | h
      · exact h
      · exact absurd (show x1 < η 0 6 ∧ 97 ≤ η 1 (Int.toNat x1) ∧ η 1 (Int.toNat x1) ≤ 122 by rw [show x1 = η 0 7 by omega]; exact h.2) (k2.2.2.2.2 c1)
    have q5 : x5 ≤ 19 := k5.2.2
    have hG : G_k η4 := by
      first
      | (exfalso; omega)
      | exact gk_v f0_7 f0_6 f0_8 f0_9 fr2 g.2.2 (by omega) (k_o (by decide) (by decide))
      | exact gk_v f0_7 f0_6 f0_8 f0_9 fr2 g.2.2 (by omega) (k_o (fun w => by omega) (fun w => by omega))
      | exact gk_v f0_7 f0_6 f0_8 f0_9 fr2 g.2.2 (by omega) ⟨fun _ => ⟨by omega, by omega⟩, fun h => absurd h (by decide)⟩
      | exact gk_v f0_7 f0_6 f0_8 f0_9 fr2 g.2.2 (by omega) g.2.1
    refine ⟨hG, fun w => ?_⟩
    have w : ¬ η0 0 8 = 0 := w
    show 10 * (η4 0 6 - η4 0 7) + η4 0 8 < 10 * (η0 0 6 - η0 0 7) + η0 0 8
    omega
  · have b7 : (0 : Int) ≤ η 0 7 ∧ η 0 7 ≤ 700 := wf_ok (a := 7) (b := 7) (z := (0, 700)) hI.1.1 (by decide +kernel) (Nat.le_refl _) (Nat.le_refl _)
    have b6 : (0 : Int) ≤ η 0 6 ∧ η 0 6 ≤ 700 := wf_ok (a := 6) (b := 6) (z := (0, 700)) hI.1.1 (by decide +kernel) (Nat.le_refl _) (Nat.le_refl _)
    have hn : η 0 7 ≤ η 0 6 := hig.1.1
    have z1 : x1 = η 0 7 := e1
    have w1 : η1 = η := y2.2
    obtain ⟨S, S0, SL⟩ : yq_tW η0 η := fig
    have q := k2.2.2.2.2 c1
    rw [show [x1].getD 0 0 = η 0 7 from z1] at q
    have hc : η 0 6 ≤ η 0 7 ∨ (η 0 7 < η 0 6 ∧ yp_le (η 1 (η 0 7).toNat) = false) := by
      by_cases w : η 0 7 < η 0 6
      · exact Or.inr ⟨w, l_no (fun v => q ⟨w, v.1, v.2⟩)⟩
      · exact Or.inl (by omega)
    have z3 : x3 = η 0 10 := e3.trans (by rw [w1]; rfl)
    have z4 : x4 = η 0 7 := e4.trans (by rw [w1]; rfl)
    have w2 : η2 = η1 := y5.2
    have hw : x5 = yq_wa (η 1) (η 0 10).toNat (η 0 7 - η 0 10).toNat 20 := by
      have v : x5 = yq_wa (η1 1) x3.toNat (x4 - x3).toNat 20 := y5.1
      rw [v, w1, z3, z4]
    have z6 : x6 = x5 := e6.trans (by rw [eη3]; rfl)
    have eη3 : η3 = zup η 0 9 x5 := by rw [eη3, w2, w1]; rfl
    refine tS_of S0 (qw_E (w := x5) (p := yq_pk (η 1) (η 0 10).toNat (η 0 7 - η 0 10).toNat 6) S0.2.1 SL b7.1 hc hw (fun _ => rfl) ?_)
    rw [if_pos (show 0 ≤ x5 by omega), eη4, eη3]
    rfl
set_option maxHeartbeats 8000000 in
theorem zke_token_o22 {ro : Nat → List Int32} (xs : List Int) (η0 : zE) (hp : sP wl_ke zTr zPke_token xs η0) (hpp : pPke_token xs η0) (η : zE) (hI : zsI wl_ke zTr zVke_token zMke_token η0 1 [] η) (hig : iCke_token xs η0 1 [] η) : ∀ x1 : Int, x1 = η 0 (Int.toNat 7) → zok 0 x1 → ∀ (x2 : Int) (η1 : zE), ((gC2 wl_ke [(nat_lit 0, zPke_isSmall, zOke_isSmall, zMke_isSmall), (nat_lit 1, zPke_isDigit, zOke_isDigit, zMke_isDigit), (nat_lit 2, zPke_wordAt, zOke_wordAt, zMke_wordAt), (nat_lit 3, zPke_packed, zOke_packed, zMke_packed), (nat_lit 4, zPke_signToken, zOke_signToken, zMke_signToken)] pCke_token qCke_token) 0).2 [x1] η x2 η1 → (¬ x2 = 0) → ∀ x3 : Int, x3 = η1 0 (Int.toNat 7) → zok 0 x3 → ∀ x4 : Int, x4 = zd 0 1 x3 1 → ∀ η2 : zE, η2 = zup η1 0 (Int.toNat 7) x4 → (iCke_token xs η0) 1 [] η2 ∧ (fun (_ : Nat) (_ : List Int) (_ : zE) => (0 : Nat)) 1 [] η2 < 1 := by
  have fig := hig.2
  have hig := hig.1
  intro x1 e1 r1 x2 η1 h2 c1 x3 e3 r3 x4 e4 η2 eη2
  have y2 : fQke_isSmall [x1] η x2 η1 := h2.2.2
  have k2 : sQ wl_ke zTr zOke_isSmall zMke_isSmall [x1] η x2 η1 ∧ oQke_isSmall [x1] η x2 η1 := ⟨h2.1, h2.2.1⟩
  refine yj_c ?_ ?_
  · replace e4 := zEq_i e4
    have y2 : fQke_isSmall [x1] η x2 η1 := h2.2.2
    have k2 : sQ wl_ke zTr zOke_isSmall zMke_isSmall [x1] η x2 η1 ∧ oQke_isSmall [x1] η x2 η1 := ⟨h2.1, h2.2.1⟩
    have w0_0_7 : (0 : Int) ≤ η 0 7 ∧ η 0 7 ≤ 700 := wf_ok (a := 7) (b := 7) (z := (0, 700)) hI.1.1 (by decide +kernel) (Nat.le_refl _) (Nat.le_refl _)
    replace e1 : x1 = η 0 7 := e1
    replace r1 : -2147483648 ≤ x1 ∧ x1 ≤ 2147483647 := r1
    have c0_0_7 : η 0 7 = η 0 7 := rfl
    have w0_0_6 : (0 : Int) ≤ η 0 6 ∧ η 0 6 ≤ 700 := wf_ok (a := 6) (b := 6) (z := (0, 700)) hI.1.1 (by decide +kernel) (Nat.le_refl _) (Nat.le_refl _)
    have c0_0_6 : η 0 6 = η 0 6 := rfl
    have w0_0_8 : (0 : Int) ≤ η 0 8 ∧ η 0 8 ≤ 6 := wf_ok (a := 8) (b := 8) (z := (0, 6)) hI.1.1 (by decide +kernel) (Nat.le_refl _) (Nat.le_refl _)
    have c0_0_8 : η 0 8 = η 0 8 := rfl
    have c0_0_9 : η 0 9 = η 0 9 := rfl
    have bx2 : (0 : Int) ≤ x2 ∧ x2 ≤ 1 := k2.1.2.1
    have v4 : zEq (η1 0 7) (η 0 7) := (k2.1.2.2.2.1 0 7 (by decide +kernel)).trans rfl
    replace e3 : x3 = η 0 7 := e3.trans v4
    replace r3 : -2147483648 ≤ x3 ∧ x3 ≤ 2147483647 := r3
    first
    | replace e4 : x4 = x3 + 1 := zd_a2 (zEq_o e4) (by clear e4; exact ⟨by omega, by omega⟩)
    | clear e4
    have c1_0_7 : η1 0 7 = η 0 7 := v4
    have fr1_0 : ∀ j, η 1 j = η 1 j := fun _ => rfl
    have v5 : ∀ j, η1 1 j = η 1 j := fun j => k2.1.2.2.2.1 1 _ (zinr_not (by decide +kernel))
    have fr1_1 : ∀ j, η1 1 j = η 1 j := v5
    have v6 : ∀ j, η2 1 j = η 1 j := fun j => by rw [eη2]; exact (zup_ne (fun e _ => absurd e (by decide))).trans (v5 j)
    have fr1_2 : ∀ j, η2 1 j = η 1 j := v6
    have v7 : ∀ j, η1 2 j = η 2 j := fun j => k2.1.2.2.2.1 2 _ (zinr_not (by decide +kernel))
    have v8 : ∀ j, η2 2 j = η 2 j := fun j => by rw [eη2]; exact (zup_ne (fun e _ => absurd e (by decide))).trans (v7 j)
    have fr2 : ∀ j, η2 2 j = η 2 j := v8
    have v9 : zEq (η2 0 7) (x4) := by rw [eη2]; exact zup_eq
    have f0_7 : η2 0 7 = x4 := v9
    have v10 : zEq (η1 0 6) (η 0 6) := (k2.1.2.2.2.1 0 6 (by decide +kernel)).trans rfl
    have v11 : zEq (η2 0 6) (η 0 6) := by rw [eη2]; exact (zup_ne (fun _ e => absurd e (by decide))).trans v10
    have f0_6 : η2 0 6 = η 0 6 := v11
    have v12 : zEq (η1 0 8) (η 0 8) := (k2.1.2.2.2.1 0 8 (by decide +kernel)).trans rfl
    have v13 : zEq (η2 0 8) (η 0 8) := by rw [eη2]; exact (zup_ne (fun _ e => absurd e (by decide))).trans v12
    have f0_8 : η2 0 8 = η 0 8 := v13
    have v14 : zEq (η1 0 9) (η 0 9) := (k2.1.2.2.2.1 0 9 (by decide +kernel)).trans rfl
    have v15 : zEq (η2 0 9) (η 0 9) := by rw [eη2]; exact (zup_ne (fun _ e => absurd e (by decide))).trans v14
    have f0_9 : η2 0 9 = η 0 9 := v15
    have g : G_k η := hig.1
    have hh : η 0 7 ≤ η 0 6 := g.1
    have hs : η 0 6 = η0 0 6 := hI.2 0 6 (by decide +kernel)
    have hk0 : (0 : Int) ≤ η0 0 8 ∧ η0 0 8 ≤ 6 := wf_ok (a := 8) (b := 8) (z := (0, 6)) hp.1 (by decide +kernel) (Nat.le_refl _) (Nat.le_refl _)
    have hd : (η0 0 7 < η 0 7 ∨ (η0 0 7 ≤ η 0 7 ∧ η 0 7 < η 0 6 ∧ 97 ≤ η 1 (Int.toNat (η 0 7)) ∧ η 1 (Int.toNat (η 0 7)) ≤ 122)) := hig.2
    have hn : η0 0 7 ≤ η 0 7 := by rcases hd with h | h <;> omega
    have q2 : x1 < η 0 6 ∧ 97 ≤ η 1 (Int.toNat x1) ∧ η 1 (Int.toNat x1) ≤ 122 := k2.2.2.2.1 c1
    rw [fr1_0] at q2
    have p2 := q2.1
    rw [show x1 = η 0 7 by omega] at q2
    have hG : G_k η2 := by
      first
      | (exfalso; omega)
      | exact gk_v f0_7 f0_6 f0_8 f0_9 fr2 g.2.2 (by omega) (k_o (by decide) (by decide))
      | exact gk_v f0_7 f0_6 f0_8 f0_9 fr2 g.2.2 (by omega) (k_o (fun w => by omega) (fun w => by omega))
      | exact gk_v f0_7 f0_6 f0_8 f0_9 fr2 g.2.2 (by omega) ⟨fun _ => ⟨by omega, by omega⟩, fun h => absurd h (by decide)⟩
      | exact gk_v f0_7 f0_6 f0_8 f0_9 fr2 g.2.2 (by omega) g.2.1
    first
    | (exfalso; omega)
    | exact ⟨⟨hG, Or.inl (show η0 0 7 < η2 0 7 by omega)⟩, Nat.zero_lt_one⟩
  · have b7 : (0 : Int) ≤ η 0 7 ∧ η 0 7 ≤ 700 := wf_ok (a := 7) (b := 7) (z := (0, 700)) hI.1.1 (by decide +kernel) (Nat.le_refl _) (Nat.le_refl _)
    have b6 : (0 : Int) ≤ η 0 6 ∧ η 0 6 ≤ 700 := wf_ok (a := 6) (b := 6) (z := (0, 700)) hI.1.1 (by decide +kernel) (Nat.le_refl _) (Nat.le_refl _)
    have hn : η 0 7 ≤ η 0 6 := hig.1.1
    have z1 : x1 = η 0 7 := e1
    have w1 : η1 = η := y2.2
    obtain ⟨S, S0, SL⟩ : yq_tW η0 η := fig
    have q := k2.2.2.2.1 c1
    rw [show [x1].getD 0 0 = η 0 7 from z1] at q
    have z3 : x3 = η 0 7 := e3.trans (by rw [w1]; rfl)
    rw [zd_a ⟨by omega, by omega⟩] at e4
    show yq_tW η0 η2
    rw [eη2, e4, z3, w1]
    exact ⟨S, S0, qwL_s SL b7.1 q.1 q.2.1 q.2.2⟩
set_option maxHeartbeats 8000000 in
theorem zke_token_o23 {ro : Nat → List Int32} (xs : List Int) (η0 : zE) (hp : sP wl_ke zTr zPke_token xs η0) (hpp : pPke_token xs η0) (η : zE) (hI : zsI wl_ke zTr zVke_token zMke_token η0 2 [] η) (hig : iCke_token xs η0 2 [] η) : ∀ x1 : Int, x1 = η 0 (Int.toNat 7) → zok 0 x1 → ((gC2 wl_ke [(nat_lit 0, zPke_isSmall, zOke_isSmall, zMke_isSmall), (nat_lit 1, zPke_isDigit, zOke_isDigit, zMke_isDigit), (nat_lit 2, zPke_wordAt, zOke_wordAt, zMke_wordAt), (nat_lit 3, zPke_packed, zOke_packed, zMke_packed), (nat_lit 4, zPke_signToken, zOke_signToken, zMke_signToken)] pCke_token qCke_token) 1).1 [x1] η := by
  have fig := hig.2
  have hig := hig.1
  intro x1 e1 r1
  have w0_0_7 : (0 : Int) ≤ η 0 7 ∧ η 0 7 ≤ 700 := wf_ok (a := 7) (b := 7) (z := (0, 700)) hI.1.1 (by decide +kernel) (Nat.le_refl _) (Nat.le_refl _)
  replace e1 : x1 = η 0 7 := e1
  replace r1 : -2147483648 ≤ x1 ∧ x1 ≤ 2147483647 := r1
  have fr1_0 : ∀ j, η 1 j = η 1 j := fun _ => rfl
  have fr2 : ∀ j, η 2 j = η 2 j := fun _ => rfl
  have f0_7 : η 0 7 = η 0 7 := rfl
  have w0_0_6 : (0 : Int) ≤ η 0 6 ∧ η 0 6 ≤ 700 := wf_ok (a := 6) (b := 6) (z := (0, 700)) hI.1.1 (by decide +kernel) (Nat.le_refl _) (Nat.le_refl _)
  have f0_6 : η 0 6 = η 0 6 := rfl
  have w0_0_8 : (0 : Int) ≤ η 0 8 ∧ η 0 8 ≤ 6 := wf_ok (a := 8) (b := 8) (z := (0, 6)) hI.1.1 (by decide +kernel) (Nat.le_refl _) (Nat.le_refl _)
  have f0_8 : η 0 8 = η 0 8 := rfl
  have f0_9 : η 0 9 = η 0 9 := rfl
  have g : G_k η := hig.1
  have hh : η 0 7 ≤ η 0 6 := g.1
  have hs : η 0 6 = η0 0 6 := hI.2 0 6 (by decide +kernel)
  have hk0 : (0 : Int) ≤ η0 0 8 ∧ η0 0 8 ≤ 6 := wf_ok (a := 8) (b := 8) (z := (0, 6)) hp.1 (by decide +kernel) (Nat.le_refl _) (Nat.le_refl _)
  have h3 : η 0 8 = 3 := hig.2.1
  have hd : (η0 0 7 < η 0 7 ∨ (η0 0 7 ≤ η 0 7 ∧ η 0 7 < η 0 6 ∧ 48 ≤ η 1 (Int.toNat (η 0 7)) ∧ η 1 (Int.toNat (η 0 7)) ≤ 57)) := hig.2.2
  have hn : η0 0 7 ≤ η 0 7 := by rcases hd with h | h <;> omega
  have hG : G_k η := by
    first
    | (exfalso; omega)
    | exact gk_v f0_7 f0_6 f0_8 f0_9 fr2 g.2.2 (by omega) (k_o (by decide) (by decide))
    | exact gk_v f0_7 f0_6 f0_8 f0_9 fr2 g.2.2 (by omega) (k_o (fun w => by omega) (fun w => by omega))
    | exact gk_v f0_7 f0_6 f0_8 f0_9 fr2 g.2.2 (by omega) ⟨fun _ => ⟨by omega, by omega⟩, fun h => absurd h (by decide)⟩
    | exact gk_v f0_7 f0_6 f0_8 f0_9 fr2 g.2.2 (by omega) g.2.1
  exact hG
set_option maxHeartbeats 8000000 in
theorem zke_token_o24 {ro : Nat → List Int32} (xs : List Int) (η0 : zE) (hp : sP wl_ke zTr zPke_token xs η0) (hpp : pPke_token xs η0) (η : zE) (hI : zsI wl_ke zTr zVke_token zMke_token η0 2 [] η) (hig : iCke_token xs η0 2 [] η) : ∀ x1 : Int, x1 = η 0 (Int.toNat 7) → zok 0 x1 → ∀ (x2 : Int) (η1 : zE), ((gC2 wl_ke [(nat_lit 0, zPke_isSmall, zOke_isSmall, zMke_isSmall), (nat_lit 1, zPke_isDigit, zOke_isDigit, zMke_isDigit), (nat_lit 2, zPke_wordAt, zOke_wordAt, zMke_wordAt), (nat_lit 3, zPke_packed, zOke_packed, zMke_packed), (nat_lit 4, zPke_signToken, zOke_signToken, zMke_signToken)] pCke_token qCke_token) 1).2 [x1] η x2 η1 → (x2 = 0) → (fun (_ : Nat) (y : Int) (η' : zE) => pQke_token xs η0 y η') 0 0 η1 := by
  have fig := hig.2
  have hig := hig.1
  intro x1 e1 r1 x2 η1 h2 c1
  have y2 : fQke_isDigit [x1] η x2 η1 := h2.2.2
  have k2 : sQ wl_ke zTr zOke_isDigit zMke_isDigit [x1] η x2 η1 ∧ oQke_isDigit [x1] η x2 η1 := ⟨h2.1, h2.2.1⟩
  refine yj_a ?_ ?_
  · have y2 : fQke_isDigit [x1] η x2 η1 := h2.2.2
    have k2 : sQ wl_ke zTr zOke_isDigit zMke_isDigit [x1] η x2 η1 ∧ oQke_isDigit [x1] η x2 η1 := ⟨h2.1, h2.2.1⟩
    have w0_0_7 : (0 : Int) ≤ η 0 7 ∧ η 0 7 ≤ 700 := wf_ok (a := 7) (b := 7) (z := (0, 700)) hI.1.1 (by decide +kernel) (Nat.le_refl _) (Nat.le_refl _)
    replace e1 : x1 = η 0 7 := e1
    replace r1 : -2147483648 ≤ x1 ∧ x1 ≤ 2147483647 := r1
    have c0_0_7 : η 0 7 = η 0 7 := rfl
    have w0_0_6 : (0 : Int) ≤ η 0 6 ∧ η 0 6 ≤ 700 := wf_ok (a := 6) (b := 6) (z := (0, 700)) hI.1.1 (by decide +kernel) (Nat.le_refl _) (Nat.le_refl _)
    have c0_0_6 : η 0 6 = η 0 6 := rfl
    have w0_0_8 : (0 : Int) ≤ η 0 8 ∧ η 0 8 ≤ 6 := wf_ok (a := 8) (b := 8) (z := (0, 6)) hI.1.1 (by decide +kernel) (Nat.le_refl _) (Nat.le_refl _)
    have c0_0_8 : η 0 8 = η 0 8 := rfl
    have c0_0_9 : η 0 9 = η 0 9 := rfl
    have bx2 : (0 : Int) ≤ x2 ∧ x2 ≤ 1 := k2.1.2.1
    have fr1_0 : ∀ j, η 1 j = η 1 j := fun _ => rfl
    have v4 : ∀ j, η1 1 j = η 1 j := fun j => k2.1.2.2.2.1 1 _ (zinr_not (by decide +kernel))
    have fr1_1 : ∀ j, η1 1 j = η 1 j := v4
    have v5 : ∀ j, η1 2 j = η 2 j := fun j => k2.1.2.2.2.1 2 _ (zinr_not (by decide +kernel))
    have fr2 : ∀ j, η1 2 j = η 2 j := v5
    have v6 : zEq (η1 0 7) (η 0 7) := (k2.1.2.2.2.1 0 7 (by decide +kernel)).trans rfl
    have f0_7 : η1 0 7 = η 0 7 := v6
    have v7 : zEq (η1 0 6) (η 0 6) := (k2.1.2.2.2.1 0 6 (by decide +kernel)).trans rfl
    have f0_6 : η1 0 6 = η 0 6 := v7
    have v8 : zEq (η1 0 8) (η 0 8) := (k2.1.2.2.2.1 0 8 (by decide +kernel)).trans rfl
    have f0_8 : η1 0 8 = η 0 8 := v8
    have v9 : zEq (η1 0 9) (η 0 9) := (k2.1.2.2.2.1 0 9 (by decide +kernel)).trans rfl
    have f0_9 : η1 0 9 = η 0 9 := v9
    have g : G_k η := hig.1
    have hh : η 0 7 ≤ η 0 6 := g.1
    have hs : η 0 6 = η0 0 6 := hI.2 0 6 (by decide +kernel)
    have hk0 : (0 : Int) ≤ η0 0 8 ∧ η0 0 8 ≤ 6 := wf_ok (a := 8) (b := 8) (z := (0, 6)) hp.1 (by decide +kernel) (Nat.le_refl _) (Nat.le_refl _)
    have h3 : η 0 8 = 3 := hig.2.1
    have hd : (η0 0 7 < η 0 7 ∨ (η0 0 7 ≤ η 0 7 ∧ η 0 7 < η 0 6 ∧ 48 ≤ η 1 (Int.toNat (η 0 7)) ∧ η 1 (Int.toNat (η 0 7)) ≤ 57)) := hig.2.2
    have hn : η0 0 7 ≤ η 0 7 := by rcases hd with h | h <;> omega
    have p0 : η0 0 7 < η 0 7 := by
      rcases hd with h | h
      · exact h
      · exact absurd (show x1 < η 0 6 ∧ 48 ≤ η 1 (Int.toNat x1) ∧ η 1 (Int.toNat x1) ≤ 57 by rw [show x1 = η 0 7 by omega]; exact h.2) (k2.2.2.2.2 c1)
    have hG : G_k η1 := by
      first
      | (exfalso; omega)
      | exact gk_v f0_7 f0_6 f0_8 f0_9 fr2 g.2.2 (by omega) (k_o (by decide) (by decide))
      | exact gk_v f0_7 f0_6 f0_8 f0_9 fr2 g.2.2 (by omega) (k_o (fun w => by omega) (fun w => by omega))
      | exact gk_v f0_7 f0_6 f0_8 f0_9 fr2 g.2.2 (by omega) ⟨fun _ => ⟨by omega, by omega⟩, fun h => absurd h (by decide)⟩
      | exact gk_v f0_7 f0_6 f0_8 f0_9 fr2 g.2.2 (by omega) g.2.1
    refine ⟨hG, fun w => ?_⟩
    have w : ¬ η0 0 8 = 0 := w
    show 10 * (η1 0 6 - η1 0 7) + η1 0 8 < 10 * (η0 0 6 - η0 0 7) + η0 0 8
    omega
  · have b7 : (0 : Int) ≤ η 0 7 ∧ η 0 7 ≤ 700 := wf_ok (a := 7) (b := 7) (z := (0, 700)) hI.1.1 (by decide +kernel) (Nat.le_refl _) (Nat.le_refl _)
    have b6 : (0 : Int) ≤ η 0 6 ∧ η 0 6 ≤ 700 := wf_ok (a := 6) (b := 6) (z := (0, 700)) hI.1.1 (by decide +kernel) (Nat.le_refl _) (Nat.le_refl _)
    have hn : η 0 7 ≤ η 0 6 := hig.1.1
    have z1 : x1 = η 0 7 := e1
    have w1 : η1 = η := y2.2
    obtain ⟨S, S0, SL⟩ : yq_tN η0 η := fig
    have b9 := qnL_b SL
    have q := k2.2.2.2.2 c1
    rw [show [x1].getD 0 0 = η 0 7 from z1] at q
    show η1 = yq_tok η0
    rw [w1]
    refine tS_of S0 (qnL_e S0.2.1 SL b7.1 ?_)
    by_cases w : η 0 7 < η 0 6
    · exact Or.inr ⟨w, d_no (fun v => q ⟨w, v.1, v.2⟩)⟩
    · exact Or.inl (by omega)
set_option maxHeartbeats 8000000 in
theorem zke_token_o25 {ro : Nat → List Int32} (xs : List Int) (η0 : zE) (hp : sP wl_ke zTr zPke_token xs η0) (hpp : pPke_token xs η0) (η : zE) (hI : zsI wl_ke zTr zVke_token zMke_token η0 2 [] η) (hig : iCke_token xs η0 2 [] η) : ∀ x1 : Int, x1 = η 0 (Int.toNat 7) → zok 0 x1 → ∀ (x2 : Int) (η1 : zE), ((gC2 wl_ke [(nat_lit 0, zPke_isSmall, zOke_isSmall, zMke_isSmall), (nat_lit 1, zPke_isDigit, zOke_isDigit, zMke_isDigit), (nat_lit 2, zPke_wordAt, zOke_wordAt, zMke_wordAt), (nat_lit 3, zPke_packed, zOke_packed, zMke_packed), (nat_lit 4, zPke_signToken, zOke_signToken, zMke_signToken)] pCke_token qCke_token) 1).2 [x1] η x2 η1 → (¬ x2 = 0) → ∀ x3 : Int, x3 = η1 0 (Int.toNat 9) → zok 0 x3 → (x3 ≤ 99999) → ∀ x4 : Int, x4 = η1 0 (Int.toNat 9) → zok 0 x4 → ∀ x5 : Int, x5 = zd 0 3 10 x4 → ∀ x6 : Int, x6 = η1 0 (Int.toNat 7) → zok 0 x6 → ∀ x7 : Int, x7 = η1 1 (Int.toNat x6) → zok 0 x7 → ∀ x8 : Int, x8 = zd 0 1 x5 x7 → ∀ x9 : Int, x9 = zd 0 2 x8 48 → ∀ η2 : zE, η2 = zup η1 0 (Int.toNat 9) x9 → ∀ x10 : Int, x10 = η2 0 (Int.toNat 7) → zok 0 x10 → ∀ x11 : Int, x11 = zd 0 1 x10 1 → ∀ η3 : zE, η3 = zup η2 0 (Int.toNat 7) x11 → (iCke_token xs η0) 2 [] η3 ∧ (fun (_ : Nat) (_ : List Int) (_ : zE) => (0 : Nat)) 2 [] η3 < 1 := by
  have fig := hig.2
  have hig := hig.1
  intro x1 e1 r1 x2 η1 h2 c1 x3 e3 r3 c2 x4 e4 r4 x5 e5 x6 e6 r6 x7 e7 r7 x8 e8 x9 e9 η2 eη2 x10 e10 r10 x11 e11 η3 eη3
  have y2 : fQke_isDigit [x1] η x2 η1 := h2.2.2
  have k2 : sQ wl_ke zTr zOke_isDigit zMke_isDigit [x1] η x2 η1 ∧ oQke_isDigit [x1] η x2 η1 := ⟨h2.1, h2.2.1⟩
  refine yj_c ?_ ?_
  · replace e5 := zEq_i e5
    replace e8 := zEq_i e8
    replace e9 := zEq_i e9
    replace e11 := zEq_i e11
    have y2 : fQke_isDigit [x1] η x2 η1 := h2.2.2
    have k2 : sQ wl_ke zTr zOke_isDigit zMke_isDigit [x1] η x2 η1 ∧ oQke_isDigit [x1] η x2 η1 := ⟨h2.1, h2.2.1⟩
    have w0_0_7 : (0 : Int) ≤ η 0 7 ∧ η 0 7 ≤ 700 := wf_ok (a := 7) (b := 7) (z := (0, 700)) hI.1.1 (by decide +kernel) (Nat.le_refl _) (Nat.le_refl _)
    replace e1 : x1 = η 0 7 := e1
    replace r1 : -2147483648 ≤ x1 ∧ x1 ≤ 2147483647 := r1
    have c0_0_7 : η 0 7 = η 0 7 := rfl
    have w0_0_6 : (0 : Int) ≤ η 0 6 ∧ η 0 6 ≤ 700 := wf_ok (a := 6) (b := 6) (z := (0, 700)) hI.1.1 (by decide +kernel) (Nat.le_refl _) (Nat.le_refl _)
    have c0_0_6 : η 0 6 = η 0 6 := rfl
    have w0_0_8 : (0 : Int) ≤ η 0 8 ∧ η 0 8 ≤ 6 := wf_ok (a := 8) (b := 8) (z := (0, 6)) hI.1.1 (by decide +kernel) (Nat.le_refl _) (Nat.le_refl _)
    have c0_0_8 : η 0 8 = η 0 8 := rfl
    have c0_0_9 : η 0 9 = η 0 9 := rfl
    have bx2 : (0 : Int) ≤ x2 ∧ x2 ≤ 1 := k2.1.2.1
    have v4 : zEq (η1 0 9) (η 0 9) := (k2.1.2.2.2.1 0 9 (by decide +kernel)).trans rfl
    replace e3 : x3 = η 0 9 := e3.trans v4
    replace r3 : -2147483648 ≤ x3 ∧ x3 ≤ 2147483647 := r3
    replace e4 : x4 = η 0 9 := e4.trans v4
    replace r4 : -2147483648 ≤ x4 ∧ x4 ≤ 2147483647 := r4
    clear e5
    have v5 : zEq (η1 0 7) (η 0 7) := (k2.1.2.2.2.1 0 7 (by decide +kernel)).trans rfl
    replace e6 : x6 = η 0 7 := e6.trans v5
    replace r6 : -2147483648 ≤ x6 ∧ x6 ≤ 2147483647 := r6
    have v7 : zEq (η1 1 (Int.toNat x6)) (η 1 (Int.toNat x6)) := (k2.1.2.2.2.1 1 _ (zinr_not (by decide +kernel))).trans rfl
    replace e7 : x7 = η 1 (Int.toNat x6) := e7.trans v7
    replace r7 : -2147483648 ≤ x7 ∧ x7 ≤ 2147483647 := r7
    first
    | replace e8 : x8 = x5 + x7 := zd_a2 (zEq_o e8) (by clear e8; exact ⟨by omega, by omega⟩)
    | clear e8
    first
    | replace e9 : x9 = x8 - 48 := zd_s2 (zEq_o e9) (by clear e9; exact ⟨by omega, by omega⟩)
    | clear e9
    have c1_0_9 : η1 0 9 = η 0 9 := v4
    have v8 : zEq (η2 0 7) (η 0 7) := by rw [eη2]; exact (zup_ne (fun _ e => absurd e (by decide))).trans v5
    replace e10 : x10 = η 0 7 := e10.trans v8
    replace r10 : -2147483648 ≤ x10 ∧ x10 ≤ 2147483647 := r10
    first
    | replace e11 : x11 = x10 + 1 := zd_a2 (zEq_o e11) (by clear e11; exact ⟨by omega, by omega⟩)
    | clear e11
    have c2_0_7 : η2 0 7 = η 0 7 := v8
    have fr1_0 : ∀ j, η 1 j = η 1 j := fun _ => rfl
    have v9 : ∀ j, η1 1 j = η 1 j := fun j => k2.1.2.2.2.1 1 _ (zinr_not (by decide +kernel))
    have fr1_1 : ∀ j, η1 1 j = η 1 j := v9
    have v10 : ∀ j, η2 1 j = η 1 j := fun j => by rw [eη2]; exact (zup_ne (fun e _ => absurd e (by decide))).trans (v9 j)
    have fr1_2 : ∀ j, η2 1 j = η 1 j := v10
    have v11 : ∀ j, η3 1 j = η 1 j := fun j => by rw [eη3]; exact (zup_ne (fun e _ => absurd e (by decide))).trans (v10 j)
    have fr1_3 : ∀ j, η3 1 j = η 1 j := v11
    have v12 : ∀ j, η1 2 j = η 2 j := fun j => k2.1.2.2.2.1 2 _ (zinr_not (by decide +kernel))
    have v13 : ∀ j, η2 2 j = η 2 j := fun j => by rw [eη2]; exact (zup_ne (fun e _ => absurd e (by decide))).trans (v12 j)
    have v14 : ∀ j, η3 2 j = η 2 j := fun j => by rw [eη3]; exact (zup_ne (fun e _ => absurd e (by decide))).trans (v13 j)
    have fr2 : ∀ j, η3 2 j = η 2 j := v14
    have v15 : zEq (η3 0 7) (x11) := by rw [eη3]; exact zup_eq
    have f0_7 : η3 0 7 = x11 := v15
    have v16 : zEq (η1 0 6) (η 0 6) := (k2.1.2.2.2.1 0 6 (by decide +kernel)).trans rfl
    have v17 : zEq (η2 0 6) (η 0 6) := by rw [eη2]; exact (zup_ne (fun _ e => absurd e (by decide))).trans v16
    have v18 : zEq (η3 0 6) (η 0 6) := by rw [eη3]; exact (zup_ne (fun _ e => absurd e (by decide))).trans v17
    have f0_6 : η3 0 6 = η 0 6 := v18
    have v19 : zEq (η1 0 8) (η 0 8) := (k2.1.2.2.2.1 0 8 (by decide +kernel)).trans rfl
    have v20 : zEq (η2 0 8) (η 0 8) := by rw [eη2]; exact (zup_ne (fun _ e => absurd e (by decide))).trans v19
    have v21 : zEq (η3 0 8) (η 0 8) := by rw [eη3]; exact (zup_ne (fun _ e => absurd e (by decide))).trans v20
    have f0_8 : η3 0 8 = η 0 8 := v21
    have v22 : zEq (η2 0 9) (x9) := by rw [eη2]; exact zup_eq
    have v23 : zEq (η3 0 9) (x9) := by rw [eη3]; exact (zup_ne (fun _ e => absurd e (by decide))).trans v22
    have f0_9 : η3 0 9 = x9 := v23
    have g : G_k η := hig.1
    have hh : η 0 7 ≤ η 0 6 := g.1
    have hs : η 0 6 = η0 0 6 := hI.2 0 6 (by decide +kernel)
    have hk0 : (0 : Int) ≤ η0 0 8 ∧ η0 0 8 ≤ 6 := wf_ok (a := 8) (b := 8) (z := (0, 6)) hp.1 (by decide +kernel) (Nat.le_refl _) (Nat.le_refl _)
    have h3 : η 0 8 = 3 := hig.2.1
    have hd : (η0 0 7 < η 0 7 ∨ (η0 0 7 ≤ η 0 7 ∧ η 0 7 < η 0 6 ∧ 48 ≤ η 1 (Int.toNat (η 0 7)) ∧ η 1 (Int.toNat (η 0 7)) ≤ 57)) := hig.2.2
    have hn : η0 0 7 ≤ η 0 7 := by rcases hd with h | h <;> omega
    have q2 : x1 < η 0 6 ∧ 48 ≤ η 1 (Int.toNat x1) ∧ η 1 (Int.toNat x1) ≤ 57 := k2.2.2.2.1 c1
    rw [fr1_0] at q2
    have p2 := q2.1
    rw [show x1 = η 0 7 by omega] at q2
    have hG : G_k η3 := by
      first
      | (exfalso; omega)
      | exact gk_v f0_7 f0_6 f0_8 f0_9 fr2 g.2.2 (by omega) (k_o (by decide) (by decide))
      | exact gk_v f0_7 f0_6 f0_8 f0_9 fr2 g.2.2 (by omega) (k_o (fun w => by omega) (fun w => by omega))
      | exact gk_v f0_7 f0_6 f0_8 f0_9 fr2 g.2.2 (by omega) ⟨fun _ => ⟨by omega, by omega⟩, fun h => absurd h (by decide)⟩
      | exact gk_v f0_7 f0_6 f0_8 f0_9 fr2 g.2.2 (by omega) g.2.1
    first
    | (exfalso; omega)
    | exact ⟨⟨hG, show η3 0 8 = 3 by rw [f0_8]; exact hig.2.1, Or.inl (show η0 0 7 < η3 0 7 by omega)⟩, Nat.zero_lt_one⟩
  · have b7 : (0 : Int) ≤ η 0 7 ∧ η 0 7 ≤ 700 := wf_ok (a := 7) (b := 7) (z := (0, 700)) hI.1.1 (by decide +kernel) (Nat.le_refl _) (Nat.le_refl _)
    have b6 : (0 : Int) ≤ η 0 6 ∧ η 0 6 ≤ 700 := wf_ok (a := 6) (b := 6) (z := (0, 700)) hI.1.1 (by decide +kernel) (Nat.le_refl _) (Nat.le_refl _)
    have hn : η 0 7 ≤ η 0 6 := hig.1.1
    have z1 : x1 = η 0 7 := e1
    have w1 : η1 = η := y2.2
    obtain ⟨S, S0, SL⟩ : yq_tN η0 η := fig
    have b9 := qnL_b SL
    have q := k2.2.2.2.1 c1
    rw [show [x1].getD 0 0 = η 0 7 from z1] at q
    have z3 : x3 = η 0 9 := e3.trans (by rw [w1]; rfl)
    have z4 : x4 = η 0 9 := e4.trans (by rw [w1]; rfl)
    have z6 : x6 = η 0 7 := e6.trans (by rw [w1]; rfl)
    have z7 : x7 = η 1 (η 0 7).toNat := by
      have v : x7 = η1 1 x6.toNat := e7
      rw [v, w1, z6]
    have z10 : x10 = η 0 7 := e10.trans (by rw [eη2, w1]; rfl)
    have q2 := q.2.1
    have q3 := q.2.2
    rw [zd_m ⟨by omega, by omega⟩] at e5
    rw [zd_a ⟨by omega, by omega⟩] at e8
    rw [zd_s ⟨by omega, by omega⟩] at e9
    rw [zd_a ⟨by omega, by omega⟩] at e11
    exact ⟨S, S0, qnL_s (v := x9) SL b7.1 q.1 q.2.1 q.2.2 (by rw [if_neg (by omega)]; omega) (by rw [eη3, e11, z10, eη2, w1]; rfl)⟩
set_option maxHeartbeats 8000000 in
theorem zke_token_o26 {ro : Nat → List Int32} (xs : List Int) (η0 : zE) (hp : sP wl_ke zTr zPke_token xs η0) (hpp : pPke_token xs η0) (η : zE) (hI : zsI wl_ke zTr zVke_token zMke_token η0 2 [] η) (hig : iCke_token xs η0 2 [] η) : ∀ x1 : Int, x1 = η 0 (Int.toNat 7) → zok 0 x1 → ∀ (x2 : Int) (η1 : zE), ((gC2 wl_ke [(nat_lit 0, zPke_isSmall, zOke_isSmall, zMke_isSmall), (nat_lit 1, zPke_isDigit, zOke_isDigit, zMke_isDigit), (nat_lit 2, zPke_wordAt, zOke_wordAt, zMke_wordAt), (nat_lit 3, zPke_packed, zOke_packed, zMke_packed), (nat_lit 4, zPke_signToken, zOke_signToken, zMke_signToken)] pCke_token qCke_token) 1).2 [x1] η x2 η1 → (¬ x2 = 0) → ∀ x3 : Int, x3 = η1 0 (Int.toNat 9) → zok 0 x3 → (99999 < x3) → ∀ x4 : Int, x4 = η1 0 (Int.toNat 9) → zok 0 x4 → ∀ η2 : zE, η2 = zup η1 0 (Int.toNat 9) x4 → ∀ x5 : Int, x5 = η2 0 (Int.toNat 7) → zok 0 x5 → ∀ x6 : Int, x6 = zd 0 1 x5 1 → ∀ η3 : zE, η3 = zup η2 0 (Int.toNat 7) x6 → (iCke_token xs η0) 2 [] η3 ∧ (fun (_ : Nat) (_ : List Int) (_ : zE) => (0 : Nat)) 2 [] η3 < 1 := by
  have fig := hig.2
  have hig := hig.1
  intro x1 e1 r1 x2 η1 h2 c1 x3 e3 r3 c2 x4 e4 r4 η2 eη2 x5 e5 r5 x6 e6 η3 eη3
  have y2 : fQke_isDigit [x1] η x2 η1 := h2.2.2
  have k2 : sQ wl_ke zTr zOke_isDigit zMke_isDigit [x1] η x2 η1 ∧ oQke_isDigit [x1] η x2 η1 := ⟨h2.1, h2.2.1⟩
  refine yj_c ?_ ?_
  · replace e6 := zEq_i e6
    have y2 : fQke_isDigit [x1] η x2 η1 := h2.2.2
    have k2 : sQ wl_ke zTr zOke_isDigit zMke_isDigit [x1] η x2 η1 ∧ oQke_isDigit [x1] η x2 η1 := ⟨h2.1, h2.2.1⟩
    have w0_0_7 : (0 : Int) ≤ η 0 7 ∧ η 0 7 ≤ 700 := wf_ok (a := 7) (b := 7) (z := (0, 700)) hI.1.1 (by decide +kernel) (Nat.le_refl _) (Nat.le_refl _)
    replace e1 : x1 = η 0 7 := e1
    replace r1 : -2147483648 ≤ x1 ∧ x1 ≤ 2147483647 := r1
    have c0_0_7 : η 0 7 = η 0 7 := rfl
    have w0_0_6 : (0 : Int) ≤ η 0 6 ∧ η 0 6 ≤ 700 := wf_ok (a := 6) (b := 6) (z := (0, 700)) hI.1.1 (by decide +kernel) (Nat.le_refl _) (Nat.le_refl _)
    have c0_0_6 : η 0 6 = η 0 6 := rfl
    have w0_0_8 : (0 : Int) ≤ η 0 8 ∧ η 0 8 ≤ 6 := wf_ok (a := 8) (b := 8) (z := (0, 6)) hI.1.1 (by decide +kernel) (Nat.le_refl _) (Nat.le_refl _)
    have c0_0_8 : η 0 8 = η 0 8 := rfl
    have c0_0_9 : η 0 9 = η 0 9 := rfl
    have bx2 : (0 : Int) ≤ x2 ∧ x2 ≤ 1 := k2.1.2.1
    have v4 : zEq (η1 0 9) (η 0 9) := (k2.1.2.2.2.1 0 9 (by decide +kernel)).trans rfl
    replace e3 : x3 = η 0 9 := e3.trans v4
    replace r3 : -2147483648 ≤ x3 ∧ x3 ≤ 2147483647 := r3
    replace e4 : x4 = η 0 9 := e4.trans v4
    replace r4 : -2147483648 ≤ x4 ∧ x4 ≤ 2147483647 := r4
    have c1_0_9 : η1 0 9 = η 0 9 := v4
    have v5 : zEq (η1 0 7) (η 0 7) := (k2.1.2.2.2.1 0 7 (by decide +kernel)).trans rfl
    have v6 : zEq (η2 0 7) (η 0 7) := by rw [eη2]; exact (zup_ne (fun _ e => absurd e (by decide))).trans v5
    replace e5 : x5 = η 0 7 := e5.trans v6
    replace r5 : -2147483648 ≤ x5 ∧ x5 ≤ 2147483647 := r5
    first
    | replace e6 : x6 = x5 + 1 := zd_a2 (zEq_o e6) (by clear e6; exact ⟨by omega, by omega⟩)
    | clear e6
    have c2_0_7 : η2 0 7 = η 0 7 := v6
    have fr1_0 : ∀ j, η 1 j = η 1 j := fun _ => rfl
    have v7 : ∀ j, η1 1 j = η 1 j := fun j => k2.1.2.2.2.1 1 _ (zinr_not (by decide +kernel))
    have fr1_1 : ∀ j, η1 1 j = η 1 j := v7
    have v8 : ∀ j, η2 1 j = η 1 j := fun j => by rw [eη2]; exact (zup_ne (fun e _ => absurd e (by decide))).trans (v7 j)
    have fr1_2 : ∀ j, η2 1 j = η 1 j := v8
    have v9 : ∀ j, η3 1 j = η 1 j := fun j => by rw [eη3]; exact (zup_ne (fun e _ => absurd e (by decide))).trans (v8 j)
    have fr1_3 : ∀ j, η3 1 j = η 1 j := v9
    have v10 : ∀ j, η1 2 j = η 2 j := fun j => k2.1.2.2.2.1 2 _ (zinr_not (by decide +kernel))
    have v11 : ∀ j, η2 2 j = η 2 j := fun j => by rw [eη2]; exact (zup_ne (fun e _ => absurd e (by decide))).trans (v10 j)
    have v12 : ∀ j, η3 2 j = η 2 j := fun j => by rw [eη3]; exact (zup_ne (fun e _ => absurd e (by decide))).trans (v11 j)
    have fr2 : ∀ j, η3 2 j = η 2 j := v12
    have v13 : zEq (η3 0 7) (x6) := by rw [eη3]; exact zup_eq
    have f0_7 : η3 0 7 = x6 := v13
    have v14 : zEq (η1 0 6) (η 0 6) := (k2.1.2.2.2.1 0 6 (by decide +kernel)).trans rfl
    have v15 : zEq (η2 0 6) (η 0 6) := by rw [eη2]; exact (zup_ne (fun _ e => absurd e (by decide))).trans v14
    have v16 : zEq (η3 0 6) (η 0 6) := by rw [eη3]; exact (zup_ne (fun _ e => absurd e (by decide))).trans v15
    have f0_6 : η3 0 6 = η 0 6 := v16
    have v17 : zEq (η1 0 8) (η 0 8) := (k2.1.2.2.2.1 0 8 (by decide +kernel)).trans rfl
    have v18 : zEq (η2 0 8) (η 0 8) := by rw [eη2]; exact (zup_ne (fun _ e => absurd e (by decide))).trans v17
    have v19 : zEq (η3 0 8) (η 0 8) := by rw [eη3]; exact (zup_ne (fun _ e => absurd e (by decide))).trans v18
    have f0_8 : η3 0 8 = η 0 8 := v19
    have v20 : zEq (η2 0 9) (x4) := by rw [eη2]; exact zup_eq
    have v21 : zEq (η3 0 9) (x4) := by rw [eη3]; exact (zup_ne (fun _ e => absurd e (by decide))).trans v20
    have f0_9 : η3 0 9 = x4 := v21
    have g : G_k η := hig.1
    have hh : η 0 7 ≤ η 0 6 := g.1
    have hs : η 0 6 = η0 0 6 := hI.2 0 6 (by decide +kernel)
    have hk0 : (0 : Int) ≤ η0 0 8 ∧ η0 0 8 ≤ 6 := wf_ok (a := 8) (b := 8) (z := (0, 6)) hp.1 (by decide +kernel) (Nat.le_refl _) (Nat.le_refl _)
    have h3 : η 0 8 = 3 := hig.2.1
    have hd : (η0 0 7 < η 0 7 ∨ (η0 0 7 ≤ η 0 7 ∧ η 0 7 < η 0 6 ∧ 48 ≤ η 1 (Int.toNat (η 0 7)) ∧ η 1 (Int.toNat (η 0 7)) ≤ 57)) := hig.2.2
    have hn : η0 0 7 ≤ η 0 7 := by rcases hd with h | h <;> omega
    have q2 : x1 < η 0 6 ∧ 48 ≤ η 1 (Int.toNat x1) ∧ η 1 (Int.toNat x1) ≤ 57 := k2.2.2.2.1 c1
    rw [fr1_0] at q2
    have p2 := q2.1
    rw [show x1 = η 0 7 by omega] at q2
    have hG : G_k η3 := by
      first
      | (exfalso; omega)
      | exact gk_v f0_7 f0_6 f0_8 f0_9 fr2 g.2.2 (by omega) (k_o (by decide) (by decide))
      | exact gk_v f0_7 f0_6 f0_8 f0_9 fr2 g.2.2 (by omega) (k_o (fun w => by omega) (fun w => by omega))
      | exact gk_v f0_7 f0_6 f0_8 f0_9 fr2 g.2.2 (by omega) ⟨fun _ => ⟨by omega, by omega⟩, fun h => absurd h (by decide)⟩
      | exact gk_v f0_7 f0_6 f0_8 f0_9 fr2 g.2.2 (by omega) g.2.1
    first
    | (exfalso; omega)
    | exact ⟨⟨hG, show η3 0 8 = 3 by rw [f0_8]; exact hig.2.1, Or.inl (show η0 0 7 < η3 0 7 by omega)⟩, Nat.zero_lt_one⟩
  · have b7 : (0 : Int) ≤ η 0 7 ∧ η 0 7 ≤ 700 := wf_ok (a := 7) (b := 7) (z := (0, 700)) hI.1.1 (by decide +kernel) (Nat.le_refl _) (Nat.le_refl _)
    have b6 : (0 : Int) ≤ η 0 6 ∧ η 0 6 ≤ 700 := wf_ok (a := 6) (b := 6) (z := (0, 700)) hI.1.1 (by decide +kernel) (Nat.le_refl _) (Nat.le_refl _)
    have hn : η 0 7 ≤ η 0 6 := hig.1.1
    have z1 : x1 = η 0 7 := e1
    have w1 : η1 = η := y2.2
    obtain ⟨S, S0, SL⟩ : yq_tN η0 η := fig
    have b9 := qnL_b SL
    have q := k2.2.2.2.1 c1
    rw [show [x1].getD 0 0 = η 0 7 from z1] at q
    have z3 : x3 = η 0 9 := e3.trans (by rw [w1]; rfl)
    have z4 : x4 = η 0 9 := e4.trans (by rw [w1]; rfl)
    have z5 : x5 = η 0 7 := e5.trans (by rw [eη2, w1]; rfl)
    rw [zd_a ⟨by omega, by omega⟩] at e6
    exact ⟨S, S0, qnL_s (v := η 0 9) SL b7.1 q.1 q.2.1 q.2.2 (if_pos (by omega)).symm (by rw [eη3, e6, z5, eη2, w1, z4]; rfl)⟩
set_option maxHeartbeats 8000000 in
theorem zke_token {ro : Nat → List Int32} : zMet pr_P pr_K pr_df ro (sm_X0 1 6) 1 122 tm_ke [(.inr (.inr (.inl (nat_lit 0))))] 0 [(nat_lit 0, nat_lit 0, nat_lit 1), (nat_lit 0, nat_lit 3, nat_lit 2), (nat_lit 0, nat_lit 20, nat_lit 3), (nat_lit 0, nat_lit 21, nat_lit 4), (nat_lit 0, nat_lit 22, nat_lit 5), (nat_lit 0, nat_lit 23, nat_lit 6), (nat_lit 0, nat_lit 24, nat_lit 7), (nat_lit 0, nat_lit 25, nat_lit 8), (nat_lit 0, nat_lit 26, nat_lit 9), (nat_lit 0, nat_lit 27, nat_lit 10), (nat_lit 0, nat_lit 28, nat_lit 11), (nat_lit 0, nat_lit 29, nat_lit 12), (nat_lit 0, nat_lit 30, nat_lit 13), (nat_lit 0, nat_lit 31, nat_lit 14), (nat_lit 0, nat_lit 32, nat_lit 15), (nat_lit 0, nat_lit 33, nat_lit 16), (nat_lit 0, nat_lit 34, nat_lit 17), (nat_lit 0, nat_lit 35, nat_lit 18), (nat_lit 0, nat_lit 36, nat_lit 19), (nat_lit 0, nat_lit 37, nat_lit 20), (nat_lit 0, nat_lit 38, nat_lit 21), (nat_lit 0, nat_lit 39, nat_lit 22), (nat_lit 0, nat_lit 40, nat_lit 23), (nat_lit 0, nat_lit 47, nat_lit 24), (nat_lit 0, nat_lit 48, nat_lit 25), (nat_lit 0, nat_lit 50, nat_lit 26), (nat_lit 0, nat_lit 51, nat_lit 27), (nat_lit 0, nat_lit 52, nat_lit 28), (nat_lit 0, nat_lit 53, nat_lit 29), (nat_lit 0, nat_lit 54, nat_lit 30), (nat_lit 0, nat_lit 55, nat_lit 31), (nat_lit 0, nat_lit 56, nat_lit 32), (nat_lit 0, nat_lit 57, nat_lit 33), (nat_lit 0, nat_lit 58, nat_lit 34), (nat_lit 0, nat_lit 59, nat_lit 35), (nat_lit 0, nat_lit 72, nat_lit 36), (nat_lit 0, nat_lit 73, nat_lit 37), (nat_lit 0, nat_lit 76, nat_lit 38), (nat_lit 0, nat_lit 77, nat_lit 39), (nat_lit 0, nat_lit 79, nat_lit 40), (nat_lit 0, nat_lit 81, nat_lit 41), (nat_lit 0, nat_lit 82, nat_lit 42)] [] (fun xs η => sP wl_ke zTr zPke_token xs η ∧ pPke_token xs η) (fun xs η y η' => sQ wl_ke zTr zOke_token zMke_token xs η y η' ∧ pQke_token xs η y η') :=
  zmet_alt (zmea_gen (mi := (nat_lit 0, nat_lit 1, nat_lit 8, nat_lit 1, nat_lit 0, tX8_token)) (cd := [(nat_lit 120, nat_lit 0, nat_lit 0, [(.inr (.inr (.inl (nat_lit 0)))), (.inl (nat_lit 1, (.ofNat (nat_lit 0))))], nat_lit 2, [(nat_lit 0, nat_lit 0, nat_lit 1), (nat_lit 0, nat_lit 3, nat_lit 2), (nat_lit 0, nat_lit 20, nat_lit 3), (nat_lit 0, nat_lit 21, nat_lit 4), (nat_lit 0, nat_lit 22, nat_lit 5), (nat_lit 0, nat_lit 23, nat_lit 6), (nat_lit 0, nat_lit 24, nat_lit 7), (nat_lit 0, nat_lit 25, nat_lit 8), (nat_lit 0, nat_lit 26, nat_lit 9), (nat_lit 0, nat_lit 27, nat_lit 10), (nat_lit 0, nat_lit 28, nat_lit 11), (nat_lit 0, nat_lit 29, nat_lit 12), (nat_lit 0, nat_lit 30, nat_lit 13), (nat_lit 0, nat_lit 31, nat_lit 14), (nat_lit 0, nat_lit 32, nat_lit 15), (nat_lit 0, nat_lit 33, nat_lit 16), (nat_lit 0, nat_lit 34, nat_lit 17), (nat_lit 0, nat_lit 35, nat_lit 18), (nat_lit 0, nat_lit 36, nat_lit 19), (nat_lit 0, nat_lit 37, nat_lit 20), (nat_lit 0, nat_lit 38, nat_lit 21), (nat_lit 0, nat_lit 39, nat_lit 22), (nat_lit 0, nat_lit 40, nat_lit 23), (nat_lit 0, nat_lit 47, nat_lit 24), (nat_lit 0, nat_lit 48, nat_lit 25), (nat_lit 0, nat_lit 50, nat_lit 26), (nat_lit 0, nat_lit 51, nat_lit 27), (nat_lit 0, nat_lit 52, nat_lit 28), (nat_lit 0, nat_lit 53, nat_lit 29), (nat_lit 0, nat_lit 54, nat_lit 30), (nat_lit 0, nat_lit 55, nat_lit 31), (nat_lit 0, nat_lit 56, nat_lit 32), (nat_lit 0, nat_lit 57, nat_lit 33), (nat_lit 0, nat_lit 58, nat_lit 34), (nat_lit 0, nat_lit 59, nat_lit 35), (nat_lit 0, nat_lit 72, nat_lit 36), (nat_lit 0, nat_lit 73, nat_lit 37), (nat_lit 0, nat_lit 76, nat_lit 38), (nat_lit 0, nat_lit 77, nat_lit 39), (nat_lit 0, nat_lit 79, nat_lit 40), (nat_lit 0, nat_lit 81, nat_lit 41), (nat_lit 0, nat_lit 82, nat_lit 42)], []), (nat_lit 121, nat_lit 1, nat_lit 0, [(.inr (.inr (.inl (nat_lit 0)))), (.inl (nat_lit 1, (.ofNat (nat_lit 0))))], nat_lit 2, [(nat_lit 0, nat_lit 0, nat_lit 1), (nat_lit 0, nat_lit 3, nat_lit 2), (nat_lit 0, nat_lit 20, nat_lit 3), (nat_lit 0, nat_lit 21, nat_lit 4), (nat_lit 0, nat_lit 22, nat_lit 5), (nat_lit 0, nat_lit 23, nat_lit 6), (nat_lit 0, nat_lit 24, nat_lit 7), (nat_lit 0, nat_lit 25, nat_lit 8), (nat_lit 0, nat_lit 26, nat_lit 9), (nat_lit 0, nat_lit 27, nat_lit 10), (nat_lit 0, nat_lit 28, nat_lit 11), (nat_lit 0, nat_lit 29, nat_lit 12), (nat_lit 0, nat_lit 30, nat_lit 13), (nat_lit 0, nat_lit 31, nat_lit 14), (nat_lit 0, nat_lit 32, nat_lit 15), (nat_lit 0, nat_lit 33, nat_lit 16), (nat_lit 0, nat_lit 34, nat_lit 17), (nat_lit 0, nat_lit 35, nat_lit 18), (nat_lit 0, nat_lit 36, nat_lit 19), (nat_lit 0, nat_lit 37, nat_lit 20), (nat_lit 0, nat_lit 38, nat_lit 21), (nat_lit 0, nat_lit 39, nat_lit 22), (nat_lit 0, nat_lit 40, nat_lit 23), (nat_lit 0, nat_lit 47, nat_lit 24), (nat_lit 0, nat_lit 48, nat_lit 25), (nat_lit 0, nat_lit 50, nat_lit 26), (nat_lit 0, nat_lit 51, nat_lit 27), (nat_lit 0, nat_lit 52, nat_lit 28), (nat_lit 0, nat_lit 53, nat_lit 29), (nat_lit 0, nat_lit 54, nat_lit 30), (nat_lit 0, nat_lit 55, nat_lit 31), (nat_lit 0, nat_lit 56, nat_lit 32), (nat_lit 0, nat_lit 57, nat_lit 33), (nat_lit 0, nat_lit 58, nat_lit 34), (nat_lit 0, nat_lit 59, nat_lit 35), (nat_lit 0, nat_lit 72, nat_lit 36), (nat_lit 0, nat_lit 73, nat_lit 37), (nat_lit 0, nat_lit 76, nat_lit 38), (nat_lit 0, nat_lit 77, nat_lit 39), (nat_lit 0, nat_lit 79, nat_lit 40), (nat_lit 0, nat_lit 81, nat_lit 41), (nat_lit 0, nat_lit 82, nat_lit 42)], []), (nat_lit 119, nat_lit 2, nat_lit 0, [(.inr (.inr (.inl (nat_lit 0)))), (.inl (nat_lit 1, (.ofNat (nat_lit 0)))), (.inl (nat_lit 2, (.ofNat (nat_lit 0))))], nat_lit 1, [(nat_lit 0, nat_lit 0, nat_lit 1), (nat_lit 0, nat_lit 3, nat_lit 2), (nat_lit 0, nat_lit 20, nat_lit 3), (nat_lit 0, nat_lit 21, nat_lit 4), (nat_lit 0, nat_lit 22, nat_lit 5), (nat_lit 0, nat_lit 23, nat_lit 6), (nat_lit 0, nat_lit 24, nat_lit 7), (nat_lit 0, nat_lit 25, nat_lit 8), (nat_lit 0, nat_lit 26, nat_lit 9), (nat_lit 0, nat_lit 27, nat_lit 10), (nat_lit 0, nat_lit 28, nat_lit 11), (nat_lit 0, nat_lit 29, nat_lit 12), (nat_lit 0, nat_lit 30, nat_lit 13), (nat_lit 0, nat_lit 31, nat_lit 14), (nat_lit 0, nat_lit 32, nat_lit 15), (nat_lit 0, nat_lit 33, nat_lit 16), (nat_lit 0, nat_lit 34, nat_lit 17), (nat_lit 0, nat_lit 35, nat_lit 18), (nat_lit 0, nat_lit 36, nat_lit 19), (nat_lit 0, nat_lit 37, nat_lit 20), (nat_lit 0, nat_lit 38, nat_lit 21), (nat_lit 0, nat_lit 39, nat_lit 22), (nat_lit 0, nat_lit 40, nat_lit 23), (nat_lit 0, nat_lit 47, nat_lit 24), (nat_lit 0, nat_lit 48, nat_lit 25), (nat_lit 0, nat_lit 50, nat_lit 26), (nat_lit 0, nat_lit 51, nat_lit 27), (nat_lit 0, nat_lit 52, nat_lit 28), (nat_lit 0, nat_lit 53, nat_lit 29), (nat_lit 0, nat_lit 54, nat_lit 30), (nat_lit 0, nat_lit 55, nat_lit 31), (nat_lit 0, nat_lit 56, nat_lit 32), (nat_lit 0, nat_lit 57, nat_lit 33), (nat_lit 0, nat_lit 58, nat_lit 34), (nat_lit 0, nat_lit 59, nat_lit 35), (nat_lit 0, nat_lit 72, nat_lit 36), (nat_lit 0, nat_lit 73, nat_lit 37), (nat_lit 0, nat_lit 76, nat_lit 38), (nat_lit 0, nat_lit 77, nat_lit 39), (nat_lit 0, nat_lit 79, nat_lit 40), (nat_lit 0, nat_lit 81, nat_lit 41), (nat_lit 0, nat_lit 82, nat_lit 42)], []), (nat_lit 124, nat_lit 3, nat_lit 0, [(.inr (.inr (.inl (nat_lit 0)))), (.inl (nat_lit 1, (.ofNat (nat_lit 0)))), (.inl (nat_lit 2, (.ofNat (nat_lit 0))))], nat_lit 1, [(nat_lit 0, nat_lit 0, nat_lit 1), (nat_lit 0, nat_lit 3, nat_lit 2), (nat_lit 0, nat_lit 20, nat_lit 3), (nat_lit 0, nat_lit 21, nat_lit 4), (nat_lit 0, nat_lit 22, nat_lit 5), (nat_lit 0, nat_lit 23, nat_lit 6), (nat_lit 0, nat_lit 24, nat_lit 7), (nat_lit 0, nat_lit 25, nat_lit 8), (nat_lit 0, nat_lit 26, nat_lit 9), (nat_lit 0, nat_lit 27, nat_lit 10), (nat_lit 0, nat_lit 28, nat_lit 11), (nat_lit 0, nat_lit 29, nat_lit 12), (nat_lit 0, nat_lit 30, nat_lit 13), (nat_lit 0, nat_lit 31, nat_lit 14), (nat_lit 0, nat_lit 32, nat_lit 15), (nat_lit 0, nat_lit 33, nat_lit 16), (nat_lit 0, nat_lit 34, nat_lit 17), (nat_lit 0, nat_lit 35, nat_lit 18), (nat_lit 0, nat_lit 36, nat_lit 19), (nat_lit 0, nat_lit 37, nat_lit 20), (nat_lit 0, nat_lit 38, nat_lit 21), (nat_lit 0, nat_lit 39, nat_lit 22), (nat_lit 0, nat_lit 40, nat_lit 23), (nat_lit 0, nat_lit 47, nat_lit 24), (nat_lit 0, nat_lit 48, nat_lit 25), (nat_lit 0, nat_lit 50, nat_lit 26), (nat_lit 0, nat_lit 51, nat_lit 27), (nat_lit 0, nat_lit 52, nat_lit 28), (nat_lit 0, nat_lit 53, nat_lit 29), (nat_lit 0, nat_lit 54, nat_lit 30), (nat_lit 0, nat_lit 55, nat_lit 31), (nat_lit 0, nat_lit 56, nat_lit 32), (nat_lit 0, nat_lit 57, nat_lit 33), (nat_lit 0, nat_lit 58, nat_lit 34), (nat_lit 0, nat_lit 59, nat_lit 35), (nat_lit 0, nat_lit 72, nat_lit 36), (nat_lit 0, nat_lit 73, nat_lit 37), (nat_lit 0, nat_lit 76, nat_lit 38), (nat_lit 0, nat_lit 77, nat_lit 39), (nat_lit 0, nat_lit 79, nat_lit 40), (nat_lit 0, nat_lit 81, nat_lit 41), (nat_lit 0, nat_lit 82, nat_lit 42)], []), (nat_lit 123, nat_lit 4, nat_lit 0, [(.inr (.inr (.inl (nat_lit 0))))], nat_lit 0, [(nat_lit 0, nat_lit 0, nat_lit 1), (nat_lit 0, nat_lit 3, nat_lit 2), (nat_lit 0, nat_lit 20, nat_lit 3), (nat_lit 0, nat_lit 21, nat_lit 4), (nat_lit 0, nat_lit 22, nat_lit 5), (nat_lit 0, nat_lit 23, nat_lit 6), (nat_lit 0, nat_lit 24, nat_lit 7), (nat_lit 0, nat_lit 25, nat_lit 8), (nat_lit 0, nat_lit 26, nat_lit 9), (nat_lit 0, nat_lit 27, nat_lit 10), (nat_lit 0, nat_lit 28, nat_lit 11), (nat_lit 0, nat_lit 29, nat_lit 12), (nat_lit 0, nat_lit 30, nat_lit 13), (nat_lit 0, nat_lit 31, nat_lit 14), (nat_lit 0, nat_lit 32, nat_lit 15), (nat_lit 0, nat_lit 33, nat_lit 16), (nat_lit 0, nat_lit 34, nat_lit 17), (nat_lit 0, nat_lit 35, nat_lit 18), (nat_lit 0, nat_lit 36, nat_lit 19), (nat_lit 0, nat_lit 37, nat_lit 20), (nat_lit 0, nat_lit 38, nat_lit 21), (nat_lit 0, nat_lit 39, nat_lit 22), (nat_lit 0, nat_lit 40, nat_lit 23), (nat_lit 0, nat_lit 47, nat_lit 24), (nat_lit 0, nat_lit 48, nat_lit 25), (nat_lit 0, nat_lit 50, nat_lit 26), (nat_lit 0, nat_lit 51, nat_lit 27), (nat_lit 0, nat_lit 52, nat_lit 28), (nat_lit 0, nat_lit 53, nat_lit 29), (nat_lit 0, nat_lit 54, nat_lit 30), (nat_lit 0, nat_lit 55, nat_lit 31), (nat_lit 0, nat_lit 56, nat_lit 32), (nat_lit 0, nat_lit 57, nat_lit 33), (nat_lit 0, nat_lit 58, nat_lit 34), (nat_lit 0, nat_lit 59, nat_lit 35), (nat_lit 0, nat_lit 72, nat_lit 36), (nat_lit 0, nat_lit 73, nat_lit 37), (nat_lit 0, nat_lit 76, nat_lit 38), (nat_lit 0, nat_lit 77, nat_lit 39), (nat_lit 0, nat_lit 79, nat_lit 40), (nat_lit 0, nat_lit 81, nat_lit 41), (nat_lit 0, nat_lit 82, nat_lit 42)], [])]) (cu := zUke_token) (cs := [(nat_lit 0, zPke_isSmall, zOke_isSmall, zMke_isSmall), (nat_lit 1, zPke_isDigit, zOke_isDigit, zMke_isDigit), (nat_lit 2, zPke_wordAt, zOke_wordAt, zMke_wordAt), (nat_lit 3, zPke_packed, zOke_packed, zMke_packed), (nat_lit 4, zPke_signToken, zOke_signToken, zMke_signToken)]) (iv := zVke_token) (po := [zOke_token]) (pr := zPke_token) (mods := zMke_token) (D7 := zDke_token) (D0 := zEke_token) (Dm := zFke_token) (f0 := 5) pCke_token qCke_token iCke_token pPke_token (fun xs η _ y η' => pQke_token xs η y η') zX_low pr_mtR rfl (List.forall_mem_cons.mpr ⟨zke_isSmall, List.forall_mem_cons.mpr ⟨zke_isDigit, List.forall_mem_cons.mpr ⟨zke_wordAt, List.forall_mem_cons.mpr ⟨zke_packed, List.forall_mem_cons.mpr ⟨zke_signToken, fun _ h => nomatch h⟩⟩⟩⟩⟩) (by decide +kernel) (by decide +kernel) (by decide +kernel)
    (by
      intro xs η hr hl hp hpp
      match xs, hl, hp, hpp with
      | [], _, hp, hpp =>
        refine List.forall_mem_cons.mpr ⟨?_, fun _ h => nomatch h⟩
        · refine zden_L (n := 1) (ρ := [0]) rfl ?_
          exact zke_token_o0 (ro := ro)  η hp hpp
      )
    (fun _ _ _ _ _ _ _ h => nomatch h)
    (List.forall_mem_cons.mpr ⟨⟨zDke_token_0, zEke_token_0, zFke_token_0, 49, by decide +kernel, (by
      intro xs η0 hlx hp hpp ys η hr hl hI hig
      match ys, hl, hI, hig with
      | [], _, hI, hig =>
        refine ⟨?_, ?_⟩
        · refine List.forall_mem_cons.mpr ⟨?_, List.forall_mem_cons.mpr ⟨?_, List.forall_mem_cons.mpr ⟨?_, List.forall_mem_cons.mpr ⟨?_, List.forall_mem_cons.mpr ⟨?_, List.forall_mem_cons.mpr ⟨?_, List.forall_mem_cons.mpr ⟨?_, List.forall_mem_cons.mpr ⟨?_, List.forall_mem_cons.mpr ⟨?_, List.forall_mem_cons.mpr ⟨?_, List.forall_mem_cons.mpr ⟨?_, List.forall_mem_cons.mpr ⟨?_, List.forall_mem_cons.mpr ⟨?_, List.forall_mem_cons.mpr ⟨?_, fun _ h => nomatch h⟩⟩⟩⟩⟩⟩⟩⟩⟩⟩⟩⟩⟩⟩
          · refine zden_L (n := 1) (ρ := [0]) rfl ?_
            exact zke_token_o1 (ro := ro) xs η0 hp hpp  η hI hig
          · refine zden_L (n := 1) (ρ := [0]) rfl ?_
            exact zke_token_o2 (ro := ro) xs η0 hp hpp  η hI hig
          · refine zden_L (n := 1) (ρ := [0]) rfl ?_
            exact zke_token_o3 (ro := ro) xs η0 hp hpp  η hI hig
          · refine zden_L (n := 1) (ρ := [0]) rfl ?_
            exact zke_token_o4 (ro := ro) xs η0 hp hpp  η hI hig
          · refine zden_L (n := 1) (ρ := [0]) rfl ?_
            exact zke_token_o5 (ro := ro) xs η0 hp hpp  η hI hig
          · refine zden_L (n := 1) (ρ := [0]) rfl ?_
            exact zke_token_o6 (ro := ro) xs η0 hp hpp  η hI hig
          · refine zden_L (n := 1) (ρ := [0]) rfl ?_
            exact zke_token_o7 (ro := ro) xs η0 hp hpp  η hI hig
          · refine zden_L (n := 1) (ρ := [0]) rfl ?_
            exact zke_token_o8 (ro := ro) xs η0 hp hpp  η hI hig
          · refine zden_L (n := 1) (ρ := [0]) rfl ?_
            exact zke_token_o9 (ro := ro) xs η0 hp hpp  η hI hig
          · refine zden_L (n := 1) (ρ := [0]) rfl ?_
            exact zke_token_o10 (ro := ro) xs η0 hp hpp  η hI hig
          · refine zden_L (n := 1) (ρ := [0]) rfl ?_
            exact zke_token_o11 (ro := ro) xs η0 hp hpp  η hI hig
          · refine zden_L (n := 1) (ρ := [0]) rfl ?_
            exact zke_token_o12 (ro := ro) xs η0 hp hpp  η hI hig
          · refine zden_L (n := 1) (ρ := [0]) rfl ?_
            exact zke_token_o13 (ro := ro) xs η0 hp hpp  η hI hig
          · refine zden_L (n := 1) (ρ := [0]) rfl ?_
            exact zke_token_o14 (ro := ro) xs η0 hp hpp  η hI hig
        · refine List.forall_mem_cons.mpr ⟨?_, fun _ h => nomatch h⟩
          · refine zden_L (n := 1) (ρ := [0]) rfl ?_
            exact zke_token_o15 (ro := ro) xs η0 hp hpp  η hI hig
      )⟩, (List.forall_mem_cons.mpr ⟨⟨zDke_token_1, zEke_token_1, zFke_token_1, 44, by decide +kernel, (by
      intro xs η0 hlx hp hpp ys η hr hl hI hig
      match ys, hl, hI, hig with
      | [], _, hI, hig =>
        refine ⟨?_, ?_⟩
        · refine List.forall_mem_cons.mpr ⟨?_, List.forall_mem_cons.mpr ⟨?_, List.forall_mem_cons.mpr ⟨?_, List.forall_mem_cons.mpr ⟨?_, List.forall_mem_cons.mpr ⟨?_, List.forall_mem_cons.mpr ⟨?_, List.forall_mem_cons.mpr ⟨?_, fun _ h => nomatch h⟩⟩⟩⟩⟩⟩⟩
          · refine zden_L (n := 1) (ρ := [0]) rfl ?_
            exact zke_token_o16 (ro := ro) xs η0 hp hpp  η hI hig
          · refine zden_L (n := 1) (ρ := [0]) rfl ?_
            exact zke_token_o17 (ro := ro) xs η0 hp hpp  η hI hig
          · refine zden_L (n := 1) (ρ := [0]) rfl ?_
            exact zke_token_o18 (ro := ro) xs η0 hp hpp  η hI hig
          · refine zden_L (n := 1) (ρ := [0]) rfl ?_
            exact zke_token_o19 (ro := ro) xs η0 hp hpp  η hI hig
          · refine zden_L (n := 1) (ρ := [0]) rfl ?_
            exact zke_token_o20 (ro := ro) xs η0 hp hpp  η hI hig
          · refine zden_L (n := 1) (ρ := [0]) rfl ?_
            exact zke_token_o21 (ro := ro) xs η0 hp hpp  η hI hig
          · refine zden_L (n := 1) (ρ := [0]) rfl ?_
            exact zke_token_o22 (ro := ro) xs η0 hp hpp  η hI hig
        · exact fun _ h => nomatch h
      )⟩, (List.forall_mem_cons.mpr ⟨⟨zDke_token_2, zEke_token_2, zFke_token_2, 35, by decide +kernel, (by
      intro xs η0 hlx hp hpp ys η hr hl hI hig
      match ys, hl, hI, hig with
      | [], _, hI, hig =>
        refine ⟨?_, ?_⟩
        · refine List.forall_mem_cons.mpr ⟨?_, List.forall_mem_cons.mpr ⟨?_, List.forall_mem_cons.mpr ⟨?_, List.forall_mem_cons.mpr ⟨?_, fun _ h => nomatch h⟩⟩⟩⟩
          · refine zden_L (n := 1) (ρ := [0]) rfl ?_
            exact zke_token_o23 (ro := ro) xs η0 hp hpp  η hI hig
          · refine zden_L (n := 1) (ρ := [0]) rfl ?_
            exact zke_token_o24 (ro := ro) xs η0 hp hpp  η hI hig
          · refine zden_L (n := 1) (ρ := [0]) rfl ?_
            exact zke_token_o25 (ro := ro) xs η0 hp hpp  η hI hig
          · refine zden_L (n := 1) (ρ := [0]) rfl ?_
            exact zke_token_o26 (ro := ro) xs η0 hp hpp  η hI hig
        · exact fun _ h => nomatch h
      )⟩, (fun _ h => nomatch h)⟩)⟩)⟩))
