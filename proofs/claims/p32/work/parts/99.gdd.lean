/-- what is kept of a text -/
def kp_n (η η' : zE) : Prop := η' 0 12 = η 0 16 ∧ η' 0 13 = η 0 17 ∧ η' 0 14 = η 0 18 ∧ η' 0 15 = η 0 19 ∧ (∀ j, j < 4 → η' 4 j = η 4 (4 + j)) ∧ (∀ j, j < 4 → η' 7 j = η 7 (4 + j)) ∧ (∀ j, j < 4 → η' 8 j = η 8 (4 + j)) ∧ (∀ j, j < 4 → η' 9 j = η 9 (4 + j)) ∧ (∀ j, j < 4 → η' 10 j = η 10 (4 + j)) ∧ (∀ j, j < 4 → η' 11 j = η 11 (4 + j)) ∧ (∀ j, j < 4 → η' 12 j = η 12 (4 + j)) ∧ (∀ j, j < 4 → η' 13 j = η 13 (4 + j)) ∧ (∀ j, j < 4 → η' 14 j = η 14 (4 + j)) ∧ (∀ j, j < 4 → η' 15 j = η 15 (4 + j)) ∧ (∀ j, j < 12 → η' 5 j = η 5 (12 + j)) ∧ (∀ j, j < 12 → η' 6 j = η 6 (12 + j)) ∧ (∀ j, j < 3 → η' 17 j = η 17 (3 + j)) ∧ (∀ j, j < 3 → η' 18 j = η 18 (3 + j)) ∧ (∀ j, j < 64 → η' 19 j = η 19 (64 + j)) ∧ (∀ j, j < 64 → η' 20 j = η 20 (64 + j)) ∧ (∀ j, j < 64 → η' 21 j = η 21 (64 + j)) ∧ ∀ j, j < 3 → η' 16 j = η 16 (3 + j)
def yq_u (n : Int) (η : zE) (y : Int) (η' : zE) : Prop := ((n < 0 ∨ η 0 1 < n) → y = -2 ∧ η' = zup η 0 2 0) ∧ (0 ≤ n → n ≤ η 0 1 → y = (yq_R n η).1 ∧ η' 0 4 = (yq_R n η).2 0 4 ∧ η' 0 5 = (yq_R n η).2 0 5 ∧ (0 ≤ y → kp_n (yq_R n η).2 η' ∧ η' 0 74 = 0) ∧ (y < 0 → η' = (yq_R n η).2 ∧ η' 0 74 = η 0 74))
def zPne_plain : zPq := ([], [])
def zOne_plain : zPo := (((.ofNat (nat_lit 0)), (.ofNat (nat_lit 0))), [], [])
def zMne_plain : List zCe := [(nat_lit 0, nat_lit 17), (nat_lit 0, nat_lit 18), (nat_lit 0, nat_lit 19), (nat_lit 0, nat_lit 20), (nat_lit 0, nat_lit 45), (nat_lit 3, nat_lit 0), (nat_lit 4, nat_lit 0), (nat_lit 16, nat_lit 4), (nat_lit 16, nat_lit 5), (nat_lit 16, nat_lit 6)]
def pPne_plain : List Int → zE → Prop := fun _ η => G_k η ∧ T_l η ∧ PL_n 3 η
def oQne_plain : List Int → zE → Int → zE → Prop := fun _ _ _ η' => G_n η'
def fQne_plain : List Int → zE → Int → zE → Prop := fun xs η y η' => η' = (yq_pln η)
def pQne_plain : List Int → zE → Int → zE → Prop := fun xs η y η' => oQne_plain xs η y η' ∧ fQne_plain xs η y η'
def pCne_plain : Nat → List Int → zE → Prop := fun c => match c with
  | _ => fun _ _ => True
def qCne_plain : Nat → List Int → zE → Int → zE → Prop := fun c => match c with
  | _ => fun _ _ _ _ => True
def iCne_plain : List Int → zE → Nat → List Int → zE → Prop := fun xs η0 c => match c with
  | _ => fun _ _ => True
def zVne_plain : List zIv := []
def zDne_plain : List (List zK) := [[(nat_lit 7, nat_lit 3, []), (nat_lit 6, nat_lit 3, [(nat_lit 0, (.ofNat (nat_lit 0))), (nat_lit 0, (.ofNat (nat_lit 3)))]), (nat_lit 5, nat_lit 0, [(nat_lit 0, (.ofNat (nat_lit 0))), (nat_lit 0, (.ofNat (nat_lit 44))), (nat_lit 0, (.ofNat (nat_lit 0)))]), (nat_lit 5, nat_lit 0, [(nat_lit 0, (.ofNat (nat_lit 0))), (nat_lit 0, (.ofNat (nat_lit 19))), (nat_lit 0, (.ofNat (nat_lit 0)))]), (nat_lit 5, nat_lit 0, [(nat_lit 0, (.ofNat (nat_lit 0))), (nat_lit 0, (.ofNat (nat_lit 18))), (nat_lit 0, (.ofNat (nat_lit 0)))]), (nat_lit 5, nat_lit 0, [(nat_lit 0, (.ofNat (nat_lit 0))), (nat_lit 0, (.ofNat (nat_lit 17))), (nat_lit 0, (.ofNat (nat_lit 0)))]), (nat_lit 5, nat_lit 0, [(nat_lit 0, (.ofNat (nat_lit 0))), (nat_lit 0, (.ofNat (nat_lit 16))), (nat_lit 0, (.ofNat (nat_lit 0)))])],
  [(nat_lit 7, nat_lit 0, [(nat_lit 0, (.ofNat (nat_lit 0))), (nat_lit 0, (.ofNat (nat_lit 3)))]), (nat_lit 6, nat_lit 2, [(nat_lit 0, (.ofNat (nat_lit 0))), (nat_lit 0, (.ofNat (nat_lit 3)))]), (nat_lit 5, nat_lit 0, [(nat_lit 0, (.ofNat (nat_lit 0))), (nat_lit 0, (.ofNat (nat_lit 44))), (nat_lit 0, (.ofNat (nat_lit 0)))]), (nat_lit 5, nat_lit 0, [(nat_lit 0, (.ofNat (nat_lit 0))), (nat_lit 0, (.ofNat (nat_lit 19))), (nat_lit 0, (.ofNat (nat_lit 0)))]), (nat_lit 5, nat_lit 0, [(nat_lit 0, (.ofNat (nat_lit 0))), (nat_lit 0, (.ofNat (nat_lit 18))), (nat_lit 0, (.ofNat (nat_lit 0)))]), (nat_lit 5, nat_lit 0, [(nat_lit 0, (.ofNat (nat_lit 0))), (nat_lit 0, (.ofNat (nat_lit 17))), (nat_lit 0, (.ofNat (nat_lit 0)))]), (nat_lit 5, nat_lit 0, [(nat_lit 0, (.ofNat (nat_lit 0))), (nat_lit 0, (.ofNat (nat_lit 16))), (nat_lit 0, (.ofNat (nat_lit 0)))])],
  [(nat_lit 7, nat_lit 2, [(nat_lit 0, (.ofNat (nat_lit 0)))]), (nat_lit 6, nat_lit 2, [(nat_lit 0, (.ofNat (nat_lit 0))), (nat_lit 0, (.ofNat (nat_lit 3)))]), (nat_lit 5, nat_lit 0, [(nat_lit 0, (.ofNat (nat_lit 0))), (nat_lit 0, (.ofNat (nat_lit 44))), (nat_lit 0, (.ofNat (nat_lit 0)))]), (nat_lit 5, nat_lit 0, [(nat_lit 0, (.ofNat (nat_lit 0))), (nat_lit 0, (.ofNat (nat_lit 19))), (nat_lit 0, (.ofNat (nat_lit 0)))]), (nat_lit 5, nat_lit 0, [(nat_lit 0, (.ofNat (nat_lit 0))), (nat_lit 0, (.ofNat (nat_lit 18))), (nat_lit 0, (.ofNat (nat_lit 0)))]), (nat_lit 5, nat_lit 0, [(nat_lit 0, (.ofNat (nat_lit 0))), (nat_lit 0, (.ofNat (nat_lit 17))), (nat_lit 0, (.ofNat (nat_lit 0)))]), (nat_lit 5, nat_lit 0, [(nat_lit 0, (.ofNat (nat_lit 0))), (nat_lit 0, (.ofNat (nat_lit 16))), (nat_lit 0, (.ofNat (nat_lit 0)))])],
  [(nat_lit 7, nat_lit 0, [(nat_lit 1, (.ofNat (nat_lit 0))), (nat_lit 0, (.ofNat (nat_lit 6)))]), (nat_lit 0, nat_lit 1, [(nat_lit 0, (.ofNat (nat_lit 3))), (nat_lit 0, (.ofNat (nat_lit 0)))]), (nat_lit 5, nat_lit 1, [(nat_lit 3, (.ofNat (nat_lit 0))), (nat_lit 0, (.ofNat (nat_lit 0))), (nat_lit 0, (.ofNat (nat_lit 0)))]), (nat_lit 6, nat_lit 2, [(nat_lit 0, (.ofNat (nat_lit 0))), (nat_lit 0, (.ofNat (nat_lit 3)))]), (nat_lit 5, nat_lit 0, [(nat_lit 0, (.ofNat (nat_lit 0))), (nat_lit 0, (.ofNat (nat_lit 44))), (nat_lit 0, (.ofNat (nat_lit 0)))]), (nat_lit 5, nat_lit 0, [(nat_lit 0, (.ofNat (nat_lit 0))), (nat_lit 0, (.ofNat (nat_lit 19))), (nat_lit 0, (.ofNat (nat_lit 0)))]), (nat_lit 5, nat_lit 0, [(nat_lit 0, (.ofNat (nat_lit 0))), (nat_lit 0, (.ofNat (nat_lit 18))), (nat_lit 0, (.ofNat (nat_lit 0)))]), (nat_lit 5, nat_lit 0, [(nat_lit 0, (.ofNat (nat_lit 0))), (nat_lit 0, (.ofNat (nat_lit 17))), (nat_lit 0, (.ofNat (nat_lit 0)))]), (nat_lit 5, nat_lit 0, [(nat_lit 0, (.ofNat (nat_lit 0))), (nat_lit 0, (.ofNat (nat_lit 16))), (nat_lit 0, (.ofNat (nat_lit 0)))])],
  [(nat_lit 7, nat_lit 2, [(nat_lit 0, (.ofNat (nat_lit 0)))]), (nat_lit 0, nat_lit 1, [(nat_lit 0, (.ofNat (nat_lit 3))), (nat_lit 0, (.ofNat (nat_lit 0)))]), (nat_lit 5, nat_lit 1, [(nat_lit 3, (.ofNat (nat_lit 0))), (nat_lit 0, (.ofNat (nat_lit 0))), (nat_lit 0, (.ofNat (nat_lit 0)))]), (nat_lit 6, nat_lit 2, [(nat_lit 0, (.ofNat (nat_lit 0))), (nat_lit 0, (.ofNat (nat_lit 3)))]), (nat_lit 5, nat_lit 0, [(nat_lit 0, (.ofNat (nat_lit 0))), (nat_lit 0, (.ofNat (nat_lit 44))), (nat_lit 0, (.ofNat (nat_lit 0)))]), (nat_lit 5, nat_lit 0, [(nat_lit 0, (.ofNat (nat_lit 0))), (nat_lit 0, (.ofNat (nat_lit 19))), (nat_lit 0, (.ofNat (nat_lit 0)))]), (nat_lit 5, nat_lit 0, [(nat_lit 0, (.ofNat (nat_lit 0))), (nat_lit 0, (.ofNat (nat_lit 18))), (nat_lit 0, (.ofNat (nat_lit 0)))]), (nat_lit 5, nat_lit 0, [(nat_lit 0, (.ofNat (nat_lit 0))), (nat_lit 0, (.ofNat (nat_lit 17))), (nat_lit 0, (.ofNat (nat_lit 0)))]), (nat_lit 5, nat_lit 0, [(nat_lit 0, (.ofNat (nat_lit 0))), (nat_lit 0, (.ofNat (nat_lit 16))), (nat_lit 0, (.ofNat (nat_lit 0)))])],
  [(nat_lit 7, nat_lit 3, []), (nat_lit 6, nat_lit 3, [(nat_lit 2, (.ofNat (nat_lit 0))), (nat_lit 0, (.ofNat (nat_lit 3)))]), (nat_lit 0, nat_lit 1, [(nat_lit 0, (.ofNat (nat_lit 0))), (nat_lit 0, (.ofNat (nat_lit 1)))]), (nat_lit 5, nat_lit 1, [(nat_lit 16, (.ofNat (nat_lit 0))), (nat_lit 1, (.ofNat (nat_lit 0))), (nat_lit 0, (.ofNat (nat_lit 0)))]), (nat_lit 0, nat_lit 1, [(nat_lit 0, (.ofNat (nat_lit 3))), (nat_lit 0, (.ofNat (nat_lit 0)))]), (nat_lit 5, nat_lit 1, [(nat_lit 3, (.ofNat (nat_lit 0))), (nat_lit 0, (.ofNat (nat_lit 0))), (nat_lit 0, (.ofNat (nat_lit 0)))]), (nat_lit 6, nat_lit 2, [(nat_lit 0, (.ofNat (nat_lit 0))), (nat_lit 0, (.ofNat (nat_lit 3)))]), (nat_lit 5, nat_lit 0, [(nat_lit 0, (.ofNat (nat_lit 0))), (nat_lit 0, (.ofNat (nat_lit 44))), (nat_lit 0, (.ofNat (nat_lit 0)))]), (nat_lit 5, nat_lit 0, [(nat_lit 0, (.ofNat (nat_lit 0))), (nat_lit 0, (.ofNat (nat_lit 19))), (nat_lit 0, (.ofNat (nat_lit 0)))]), (nat_lit 5, nat_lit 0, [(nat_lit 0, (.ofNat (nat_lit 0))), (nat_lit 0, (.ofNat (nat_lit 18))), (nat_lit 0, (.ofNat (nat_lit 0)))]), (nat_lit 5, nat_lit 0, [(nat_lit 0, (.ofNat (nat_lit 0))), (nat_lit 0, (.ofNat (nat_lit 17))), (nat_lit 0, (.ofNat (nat_lit 0)))]), (nat_lit 5, nat_lit 0, [(nat_lit 0, (.ofNat (nat_lit 0))), (nat_lit 0, (.ofNat (nat_lit 16))), (nat_lit 0, (.ofNat (nat_lit 0)))])],
  [(nat_lit 7, nat_lit 0, [(nat_lit 2, (.ofNat (nat_lit 0))), (nat_lit 0, (.ofNat (nat_lit 3)))]), (nat_lit 6, nat_lit 2, [(nat_lit 2, (.ofNat (nat_lit 0))), (nat_lit 0, (.ofNat (nat_lit 3)))]), (nat_lit 0, nat_lit 1, [(nat_lit 0, (.ofNat (nat_lit 0))), (nat_lit 0, (.ofNat (nat_lit 1)))]), (nat_lit 5, nat_lit 1, [(nat_lit 16, (.ofNat (nat_lit 0))), (nat_lit 1, (.ofNat (nat_lit 0))), (nat_lit 0, (.ofNat (nat_lit 0)))]), (nat_lit 0, nat_lit 1, [(nat_lit 0, (.ofNat (nat_lit 3))), (nat_lit 0, (.ofNat (nat_lit 0)))]), (nat_lit 5, nat_lit 1, [(nat_lit 3, (.ofNat (nat_lit 0))), (nat_lit 0, (.ofNat (nat_lit 0))), (nat_lit 0, (.ofNat (nat_lit 0)))]), (nat_lit 6, nat_lit 2, [(nat_lit 0, (.ofNat (nat_lit 0))), (nat_lit 0, (.ofNat (nat_lit 3)))]), (nat_lit 5, nat_lit 0, [(nat_lit 0, (.ofNat (nat_lit 0))), (nat_lit 0, (.ofNat (nat_lit 44))), (nat_lit 0, (.ofNat (nat_lit 0)))]), (nat_lit 5, nat_lit 0, [(nat_lit 0, (.ofNat (nat_lit 0))), (nat_lit 0, (.ofNat (nat_lit 19))), (nat_lit 0, (.ofNat (nat_lit 0)))]), (nat_lit 5, nat_lit 0, [(nat_lit 0, (.ofNat (nat_lit 0))), (nat_lit 0, (.ofNat (nat_lit 18))), (nat_lit 0, (.ofNat (nat_lit 0)))]), (nat_lit 5, nat_lit 0, [(nat_lit 0, (.ofNat (nat_lit 0))), (nat_lit 0, (.ofNat (nat_lit 17))), (nat_lit 0, (.ofNat (nat_lit 0)))]), (nat_lit 5, nat_lit 0, [(nat_lit 0, (.ofNat (nat_lit 0))), (nat_lit 0, (.ofNat (nat_lit 16))), (nat_lit 0, (.ofNat (nat_lit 0)))])],
  [(nat_lit 7, nat_lit 2, [(nat_lit 0, (.ofNat (nat_lit 0)))]), (nat_lit 6, nat_lit 2, [(nat_lit 2, (.ofNat (nat_lit 0))), (nat_lit 0, (.ofNat (nat_lit 3)))]), (nat_lit 0, nat_lit 1, [(nat_lit 0, (.ofNat (nat_lit 0))), (nat_lit 0, (.ofNat (nat_lit 1)))]), (nat_lit 5, nat_lit 1, [(nat_lit 16, (.ofNat (nat_lit 0))), (nat_lit 1, (.ofNat (nat_lit 0))), (nat_lit 0, (.ofNat (nat_lit 0)))]), (nat_lit 0, nat_lit 1, [(nat_lit 0, (.ofNat (nat_lit 3))), (nat_lit 0, (.ofNat (nat_lit 0)))]), (nat_lit 5, nat_lit 1, [(nat_lit 3, (.ofNat (nat_lit 0))), (nat_lit 0, (.ofNat (nat_lit 0))), (nat_lit 0, (.ofNat (nat_lit 0)))]), (nat_lit 6, nat_lit 2, [(nat_lit 0, (.ofNat (nat_lit 0))), (nat_lit 0, (.ofNat (nat_lit 3)))]), (nat_lit 5, nat_lit 0, [(nat_lit 0, (.ofNat (nat_lit 0))), (nat_lit 0, (.ofNat (nat_lit 44))), (nat_lit 0, (.ofNat (nat_lit 0)))]), (nat_lit 5, nat_lit 0, [(nat_lit 0, (.ofNat (nat_lit 0))), (nat_lit 0, (.ofNat (nat_lit 19))), (nat_lit 0, (.ofNat (nat_lit 0)))]), (nat_lit 5, nat_lit 0, [(nat_lit 0, (.ofNat (nat_lit 0))), (nat_lit 0, (.ofNat (nat_lit 18))), (nat_lit 0, (.ofNat (nat_lit 0)))]), (nat_lit 5, nat_lit 0, [(nat_lit 0, (.ofNat (nat_lit 0))), (nat_lit 0, (.ofNat (nat_lit 17))), (nat_lit 0, (.ofNat (nat_lit 0)))]), (nat_lit 5, nat_lit 0, [(nat_lit 0, (.ofNat (nat_lit 0))), (nat_lit 0, (.ofNat (nat_lit 16))), (nat_lit 0, (.ofNat (nat_lit 0)))])],
  [(nat_lit 7, nat_lit 0, [(nat_lit 3, (.ofNat (nat_lit 0))), (nat_lit 0, (.ofNat (nat_lit 6)))]), (nat_lit 0, nat_lit 1, [(nat_lit 0, (.ofNat (nat_lit 3))), (nat_lit 2, (.ofNat (nat_lit 0)))]), (nat_lit 5, nat_lit 1, [(nat_lit 3, (.ofNat (nat_lit 0))), (nat_lit 2, (.ofNat (nat_lit 0))), (nat_lit 0, (.ofNat (nat_lit 0)))]), (nat_lit 6, nat_lit 2, [(nat_lit 2, (.ofNat (nat_lit 0))), (nat_lit 0, (.ofNat (nat_lit 3)))]), (nat_lit 0, nat_lit 1, [(nat_lit 0, (.ofNat (nat_lit 0))), (nat_lit 0, (.ofNat (nat_lit 1)))]), (nat_lit 5, nat_lit 1, [(nat_lit 16, (.ofNat (nat_lit 0))), (nat_lit 1, (.ofNat (nat_lit 0))), (nat_lit 0, (.ofNat (nat_lit 0)))]), (nat_lit 0, nat_lit 1, [(nat_lit 0, (.ofNat (nat_lit 3))), (nat_lit 0, (.ofNat (nat_lit 0)))]), (nat_lit 5, nat_lit 1, [(nat_lit 3, (.ofNat (nat_lit 0))), (nat_lit 0, (.ofNat (nat_lit 0))), (nat_lit 0, (.ofNat (nat_lit 0)))]), (nat_lit 6, nat_lit 2, [(nat_lit 0, (.ofNat (nat_lit 0))), (nat_lit 0, (.ofNat (nat_lit 3)))]), (nat_lit 5, nat_lit 0, [(nat_lit 0, (.ofNat (nat_lit 0))), (nat_lit 0, (.ofNat (nat_lit 44))), (nat_lit 0, (.ofNat (nat_lit 0)))]), (nat_lit 5, nat_lit 0, [(nat_lit 0, (.ofNat (nat_lit 0))), (nat_lit 0, (.ofNat (nat_lit 19))), (nat_lit 0, (.ofNat (nat_lit 0)))]), (nat_lit 5, nat_lit 0, [(nat_lit 0, (.ofNat (nat_lit 0))), (nat_lit 0, (.ofNat (nat_lit 18))), (nat_lit 0, (.ofNat (nat_lit 0)))]), (nat_lit 5, nat_lit 0, [(nat_lit 0, (.ofNat (nat_lit 0))), (nat_lit 0, (.ofNat (nat_lit 17))), (nat_lit 0, (.ofNat (nat_lit 0)))]), (nat_lit 5, nat_lit 0, [(nat_lit 0, (.ofNat (nat_lit 0))), (nat_lit 0, (.ofNat (nat_lit 16))), (nat_lit 0, (.ofNat (nat_lit 0)))])],
  [(nat_lit 7, nat_lit 2, [(nat_lit 0, (.ofNat (nat_lit 0)))]), (nat_lit 0, nat_lit 1, [(nat_lit 0, (.ofNat (nat_lit 3))), (nat_lit 2, (.ofNat (nat_lit 0)))]), (nat_lit 5, nat_lit 1, [(nat_lit 3, (.ofNat (nat_lit 0))), (nat_lit 2, (.ofNat (nat_lit 0))), (nat_lit 0, (.ofNat (nat_lit 0)))]), (nat_lit 6, nat_lit 2, [(nat_lit 2, (.ofNat (nat_lit 0))), (nat_lit 0, (.ofNat (nat_lit 3)))]), (nat_lit 0, nat_lit 1, [(nat_lit 0, (.ofNat (nat_lit 0))), (nat_lit 0, (.ofNat (nat_lit 1)))]), (nat_lit 5, nat_lit 1, [(nat_lit 16, (.ofNat (nat_lit 0))), (nat_lit 1, (.ofNat (nat_lit 0))), (nat_lit 0, (.ofNat (nat_lit 0)))]), (nat_lit 0, nat_lit 1, [(nat_lit 0, (.ofNat (nat_lit 3))), (nat_lit 0, (.ofNat (nat_lit 0)))]), (nat_lit 5, nat_lit 1, [(nat_lit 3, (.ofNat (nat_lit 0))), (nat_lit 0, (.ofNat (nat_lit 0))), (nat_lit 0, (.ofNat (nat_lit 0)))]), (nat_lit 6, nat_lit 2, [(nat_lit 0, (.ofNat (nat_lit 0))), (nat_lit 0, (.ofNat (nat_lit 3)))]), (nat_lit 5, nat_lit 0, [(nat_lit 0, (.ofNat (nat_lit 0))), (nat_lit 0, (.ofNat (nat_lit 44))), (nat_lit 0, (.ofNat (nat_lit 0)))]), (nat_lit 5, nat_lit 0, [(nat_lit 0, (.ofNat (nat_lit 0))), (nat_lit 0, (.ofNat (nat_lit 19))), (nat_lit 0, (.ofNat (nat_lit 0)))]), (nat_lit 5, nat_lit 0, [(nat_lit 0, (.ofNat (nat_lit 0))), (nat_lit 0, (.ofNat (nat_lit 18))), (nat_lit 0, (.ofNat (nat_lit 0)))]), (nat_lit 5, nat_lit 0, [(nat_lit 0, (.ofNat (nat_lit 0))), (nat_lit 0, (.ofNat (nat_lit 17))), (nat_lit 0, (.ofNat (nat_lit 0)))]), (nat_lit 5, nat_lit 0, [(nat_lit 0, (.ofNat (nat_lit 0))), (nat_lit 0, (.ofNat (nat_lit 16))), (nat_lit 0, (.ofNat (nat_lit 0)))])],
  [(nat_lit 7, nat_lit 3, []), (nat_lit 6, nat_lit 3, [(nat_lit 4, (.ofNat (nat_lit 0))), (nat_lit 0, (.ofNat (nat_lit 3)))]), (nat_lit 0, nat_lit 1, [(nat_lit 2, (.ofNat (nat_lit 0))), (nat_lit 0, (.ofNat (nat_lit 1)))]), (nat_lit 5, nat_lit 1, [(nat_lit 16, (.ofNat (nat_lit 0))), (nat_lit 3, (.ofNat (nat_lit 0))), (nat_lit 0, (.ofNat (nat_lit 0)))]), (nat_lit 0, nat_lit 1, [(nat_lit 0, (.ofNat (nat_lit 3))), (nat_lit 2, (.ofNat (nat_lit 0)))]), (nat_lit 5, nat_lit 1, [(nat_lit 3, (.ofNat (nat_lit 0))), (nat_lit 2, (.ofNat (nat_lit 0))), (nat_lit 0, (.ofNat (nat_lit 0)))]), (nat_lit 6, nat_lit 2, [(nat_lit 2, (.ofNat (nat_lit 0))), (nat_lit 0, (.ofNat (nat_lit 3)))]), (nat_lit 0, nat_lit 1, [(nat_lit 0, (.ofNat (nat_lit 0))), (nat_lit 0, (.ofNat (nat_lit 1)))]), (nat_lit 5, nat_lit 1, [(nat_lit 16, (.ofNat (nat_lit 0))), (nat_lit 1, (.ofNat (nat_lit 0))), (nat_lit 0, (.ofNat (nat_lit 0)))]), (nat_lit 0, nat_lit 1, [(nat_lit 0, (.ofNat (nat_lit 3))), (nat_lit 0, (.ofNat (nat_lit 0)))]), (nat_lit 5, nat_lit 1, [(nat_lit 3, (.ofNat (nat_lit 0))), (nat_lit 0, (.ofNat (nat_lit 0))), (nat_lit 0, (.ofNat (nat_lit 0)))]), (nat_lit 6, nat_lit 2, [(nat_lit 0, (.ofNat (nat_lit 0))), (nat_lit 0, (.ofNat (nat_lit 3)))]), (nat_lit 5, nat_lit 0, [(nat_lit 0, (.ofNat (nat_lit 0))), (nat_lit 0, (.ofNat (nat_lit 44))), (nat_lit 0, (.ofNat (nat_lit 0)))]), (nat_lit 5, nat_lit 0, [(nat_lit 0, (.ofNat (nat_lit 0))), (nat_lit 0, (.ofNat (nat_lit 19))), (nat_lit 0, (.ofNat (nat_lit 0)))]), (nat_lit 5, nat_lit 0, [(nat_lit 0, (.ofNat (nat_lit 0))), (nat_lit 0, (.ofNat (nat_lit 18))), (nat_lit 0, (.ofNat (nat_lit 0)))]), (nat_lit 5, nat_lit 0, [(nat_lit 0, (.ofNat (nat_lit 0))), (nat_lit 0, (.ofNat (nat_lit 17))), (nat_lit 0, (.ofNat (nat_lit 0)))]), (nat_lit 5, nat_lit 0, [(nat_lit 0, (.ofNat (nat_lit 0))), (nat_lit 0, (.ofNat (nat_lit 16))), (nat_lit 0, (.ofNat (nat_lit 0)))])],
  [(nat_lit 7, nat_lit 0, [(nat_lit 4, (.ofNat (nat_lit 0))), (nat_lit 0, (.ofNat (nat_lit 3)))]), (nat_lit 6, nat_lit 2, [(nat_lit 4, (.ofNat (nat_lit 0))), (nat_lit 0, (.ofNat (nat_lit 3)))]), (nat_lit 0, nat_lit 1, [(nat_lit 2, (.ofNat (nat_lit 0))), (nat_lit 0, (.ofNat (nat_lit 1)))]), (nat_lit 5, nat_lit 1, [(nat_lit 16, (.ofNat (nat_lit 0))), (nat_lit 3, (.ofNat (nat_lit 0))), (nat_lit 0, (.ofNat (nat_lit 0)))]), (nat_lit 0, nat_lit 1, [(nat_lit 0, (.ofNat (nat_lit 3))), (nat_lit 2, (.ofNat (nat_lit 0)))]), (nat_lit 5, nat_lit 1, [(nat_lit 3, (.ofNat (nat_lit 0))), (nat_lit 2, (.ofNat (nat_lit 0))), (nat_lit 0, (.ofNat (nat_lit 0)))]), (nat_lit 6, nat_lit 2, [(nat_lit 2, (.ofNat (nat_lit 0))), (nat_lit 0, (.ofNat (nat_lit 3)))]), (nat_lit 0, nat_lit 1, [(nat_lit 0, (.ofNat (nat_lit 0))), (nat_lit 0, (.ofNat (nat_lit 1)))]), (nat_lit 5, nat_lit 1, [(nat_lit 16, (.ofNat (nat_lit 0))), (nat_lit 1, (.ofNat (nat_lit 0))), (nat_lit 0, (.ofNat (nat_lit 0)))]), (nat_lit 0, nat_lit 1, [(nat_lit 0, (.ofNat (nat_lit 3))), (nat_lit 0, (.ofNat (nat_lit 0)))]), (nat_lit 5, nat_lit 1, [(nat_lit 3, (.ofNat (nat_lit 0))), (nat_lit 0, (.ofNat (nat_lit 0))), (nat_lit 0, (.ofNat (nat_lit 0)))]), (nat_lit 6, nat_lit 2, [(nat_lit 0, (.ofNat (nat_lit 0))), (nat_lit 0, (.ofNat (nat_lit 3)))]), (nat_lit 5, nat_lit 0, [(nat_lit 0, (.ofNat (nat_lit 0))), (nat_lit 0, (.ofNat (nat_lit 44))), (nat_lit 0, (.ofNat (nat_lit 0)))]), (nat_lit 5, nat_lit 0, [(nat_lit 0, (.ofNat (nat_lit 0))), (nat_lit 0, (.ofNat (nat_lit 19))), (nat_lit 0, (.ofNat (nat_lit 0)))]), (nat_lit 5, nat_lit 0, [(nat_lit 0, (.ofNat (nat_lit 0))), (nat_lit 0, (.ofNat (nat_lit 18))), (nat_lit 0, (.ofNat (nat_lit 0)))]), (nat_lit 5, nat_lit 0, [(nat_lit 0, (.ofNat (nat_lit 0))), (nat_lit 0, (.ofNat (nat_lit 17))), (nat_lit 0, (.ofNat (nat_lit 0)))]), (nat_lit 5, nat_lit 0, [(nat_lit 0, (.ofNat (nat_lit 0))), (nat_lit 0, (.ofNat (nat_lit 16))), (nat_lit 0, (.ofNat (nat_lit 0)))])],
  [(nat_lit 7, nat_lit 2, [(nat_lit 0, (.ofNat (nat_lit 0)))]), (nat_lit 6, nat_lit 2, [(nat_lit 4, (.ofNat (nat_lit 0))), (nat_lit 0, (.ofNat (nat_lit 3)))]), (nat_lit 0, nat_lit 1, [(nat_lit 2, (.ofNat (nat_lit 0))), (nat_lit 0, (.ofNat (nat_lit 1)))]), (nat_lit 5, nat_lit 1, [(nat_lit 16, (.ofNat (nat_lit 0))), (nat_lit 3, (.ofNat (nat_lit 0))), (nat_lit 0, (.ofNat (nat_lit 0)))]), (nat_lit 0, nat_lit 1, [(nat_lit 0, (.ofNat (nat_lit 3))), (nat_lit 2, (.ofNat (nat_lit 0)))]), (nat_lit 5, nat_lit 1, [(nat_lit 3, (.ofNat (nat_lit 0))), (nat_lit 2, (.ofNat (nat_lit 0))), (nat_lit 0, (.ofNat (nat_lit 0)))]), (nat_lit 6, nat_lit 2, [(nat_lit 2, (.ofNat (nat_lit 0))), (nat_lit 0, (.ofNat (nat_lit 3)))]), (nat_lit 0, nat_lit 1, [(nat_lit 0, (.ofNat (nat_lit 0))), (nat_lit 0, (.ofNat (nat_lit 1)))]), (nat_lit 5, nat_lit 1, [(nat_lit 16, (.ofNat (nat_lit 0))), (nat_lit 1, (.ofNat (nat_lit 0))), (nat_lit 0, (.ofNat (nat_lit 0)))]), (nat_lit 0, nat_lit 1, [(nat_lit 0, (.ofNat (nat_lit 3))), (nat_lit 0, (.ofNat (nat_lit 0)))]), (nat_lit 5, nat_lit 1, [(nat_lit 3, (.ofNat (nat_lit 0))), (nat_lit 0, (.ofNat (nat_lit 0))), (nat_lit 0, (.ofNat (nat_lit 0)))]), (nat_lit 6, nat_lit 2, [(nat_lit 0, (.ofNat (nat_lit 0))), (nat_lit 0, (.ofNat (nat_lit 3)))]), (nat_lit 5, nat_lit 0, [(nat_lit 0, (.ofNat (nat_lit 0))), (nat_lit 0, (.ofNat (nat_lit 44))), (nat_lit 0, (.ofNat (nat_lit 0)))]), (nat_lit 5, nat_lit 0, [(nat_lit 0, (.ofNat (nat_lit 0))), (nat_lit 0, (.ofNat (nat_lit 19))), (nat_lit 0, (.ofNat (nat_lit 0)))]), (nat_lit 5, nat_lit 0, [(nat_lit 0, (.ofNat (nat_lit 0))), (nat_lit 0, (.ofNat (nat_lit 18))), (nat_lit 0, (.ofNat (nat_lit 0)))]), (nat_lit 5, nat_lit 0, [(nat_lit 0, (.ofNat (nat_lit 0))), (nat_lit 0, (.ofNat (nat_lit 17))), (nat_lit 0, (.ofNat (nat_lit 0)))]), (nat_lit 5, nat_lit 0, [(nat_lit 0, (.ofNat (nat_lit 0))), (nat_lit 0, (.ofNat (nat_lit 16))), (nat_lit 0, (.ofNat (nat_lit 0)))])],
  [(nat_lit 7, nat_lit 0, [(nat_lit 5, (.ofNat (nat_lit 0))), (nat_lit 0, (.ofNat (nat_lit 6)))]), (nat_lit 0, nat_lit 1, [(nat_lit 0, (.ofNat (nat_lit 3))), (nat_lit 4, (.ofNat (nat_lit 0)))]), (nat_lit 5, nat_lit 1, [(nat_lit 3, (.ofNat (nat_lit 0))), (nat_lit 4, (.ofNat (nat_lit 0))), (nat_lit 0, (.ofNat (nat_lit 0)))]), (nat_lit 6, nat_lit 2, [(nat_lit 4, (.ofNat (nat_lit 0))), (nat_lit 0, (.ofNat (nat_lit 3)))]), (nat_lit 0, nat_lit 1, [(nat_lit 2, (.ofNat (nat_lit 0))), (nat_lit 0, (.ofNat (nat_lit 1)))]), (nat_lit 5, nat_lit 1, [(nat_lit 16, (.ofNat (nat_lit 0))), (nat_lit 3, (.ofNat (nat_lit 0))), (nat_lit 0, (.ofNat (nat_lit 0)))]), (nat_lit 0, nat_lit 1, [(nat_lit 0, (.ofNat (nat_lit 3))), (nat_lit 2, (.ofNat (nat_lit 0)))]), (nat_lit 5, nat_lit 1, [(nat_lit 3, (.ofNat (nat_lit 0))), (nat_lit 2, (.ofNat (nat_lit 0))), (nat_lit 0, (.ofNat (nat_lit 0)))]), (nat_lit 6, nat_lit 2, [(nat_lit 2, (.ofNat (nat_lit 0))), (nat_lit 0, (.ofNat (nat_lit 3)))]), (nat_lit 0, nat_lit 1, [(nat_lit 0, (.ofNat (nat_lit 0))), (nat_lit 0, (.ofNat (nat_lit 1)))]), (nat_lit 5, nat_lit 1, [(nat_lit 16, (.ofNat (nat_lit 0))), (nat_lit 1, (.ofNat (nat_lit 0))), (nat_lit 0, (.ofNat (nat_lit 0)))]), (nat_lit 0, nat_lit 1, [(nat_lit 0, (.ofNat (nat_lit 3))), (nat_lit 0, (.ofNat (nat_lit 0)))]), (nat_lit 5, nat_lit 1, [(nat_lit 3, (.ofNat (nat_lit 0))), (nat_lit 0, (.ofNat (nat_lit 0))), (nat_lit 0, (.ofNat (nat_lit 0)))]), (nat_lit 6, nat_lit 2, [(nat_lit 0, (.ofNat (nat_lit 0))), (nat_lit 0, (.ofNat (nat_lit 3)))]), (nat_lit 5, nat_lit 0, [(nat_lit 0, (.ofNat (nat_lit 0))), (nat_lit 0, (.ofNat (nat_lit 44))), (nat_lit 0, (.ofNat (nat_lit 0)))]), (nat_lit 5, nat_lit 0, [(nat_lit 0, (.ofNat (nat_lit 0))), (nat_lit 0, (.ofNat (nat_lit 19))), (nat_lit 0, (.ofNat (nat_lit 0)))]), (nat_lit 5, nat_lit 0, [(nat_lit 0, (.ofNat (nat_lit 0))), (nat_lit 0, (.ofNat (nat_lit 18))), (nat_lit 0, (.ofNat (nat_lit 0)))]), (nat_lit 5, nat_lit 0, [(nat_lit 0, (.ofNat (nat_lit 0))), (nat_lit 0, (.ofNat (nat_lit 17))), (nat_lit 0, (.ofNat (nat_lit 0)))]), (nat_lit 5, nat_lit 0, [(nat_lit 0, (.ofNat (nat_lit 0))), (nat_lit 0, (.ofNat (nat_lit 16))), (nat_lit 0, (.ofNat (nat_lit 0)))])],
  [(nat_lit 7, nat_lit 2, [(nat_lit 0, (.ofNat (nat_lit 0)))]), (nat_lit 0, nat_lit 1, [(nat_lit 0, (.ofNat (nat_lit 3))), (nat_lit 4, (.ofNat (nat_lit 0)))]), (nat_lit 5, nat_lit 1, [(nat_lit 3, (.ofNat (nat_lit 0))), (nat_lit 4, (.ofNat (nat_lit 0))), (nat_lit 0, (.ofNat (nat_lit 0)))]), (nat_lit 6, nat_lit 2, [(nat_lit 4, (.ofNat (nat_lit 0))), (nat_lit 0, (.ofNat (nat_lit 3)))]), (nat_lit 0, nat_lit 1, [(nat_lit 2, (.ofNat (nat_lit 0))), (nat_lit 0, (.ofNat (nat_lit 1)))]), (nat_lit 5, nat_lit 1, [(nat_lit 16, (.ofNat (nat_lit 0))), (nat_lit 3, (.ofNat (nat_lit 0))), (nat_lit 0, (.ofNat (nat_lit 0)))]), (nat_lit 0, nat_lit 1, [(nat_lit 0, (.ofNat (nat_lit 3))), (nat_lit 2, (.ofNat (nat_lit 0)))]), (nat_lit 5, nat_lit 1, [(nat_lit 3, (.ofNat (nat_lit 0))), (nat_lit 2, (.ofNat (nat_lit 0))), (nat_lit 0, (.ofNat (nat_lit 0)))]), (nat_lit 6, nat_lit 2, [(nat_lit 2, (.ofNat (nat_lit 0))), (nat_lit 0, (.ofNat (nat_lit 3)))]), (nat_lit 0, nat_lit 1, [(nat_lit 0, (.ofNat (nat_lit 0))), (nat_lit 0, (.ofNat (nat_lit 1)))]), (nat_lit 5, nat_lit 1, [(nat_lit 16, (.ofNat (nat_lit 0))), (nat_lit 1, (.ofNat (nat_lit 0))), (nat_lit 0, (.ofNat (nat_lit 0)))]), (nat_lit 0, nat_lit 1, [(nat_lit 0, (.ofNat (nat_lit 3))), (nat_lit 0, (.ofNat (nat_lit 0)))]), (nat_lit 5, nat_lit 1, [(nat_lit 3, (.ofNat (nat_lit 0))), (nat_lit 0, (.ofNat (nat_lit 0))), (nat_lit 0, (.ofNat (nat_lit 0)))]), (nat_lit 6, nat_lit 2, [(nat_lit 0, (.ofNat (nat_lit 0))), (nat_lit 0, (.ofNat (nat_lit 3)))]), (nat_lit 5, nat_lit 0, [(nat_lit 0, (.ofNat (nat_lit 0))), (nat_lit 0, (.ofNat (nat_lit 44))), (nat_lit 0, (.ofNat (nat_lit 0)))]), (nat_lit 5, nat_lit 0, [(nat_lit 0, (.ofNat (nat_lit 0))), (nat_lit 0, (.ofNat (nat_lit 19))), (nat_lit 0, (.ofNat (nat_lit 0)))]), (nat_lit 5, nat_lit 0, [(nat_lit 0, (.ofNat (nat_lit 0))), (nat_lit 0, (.ofNat (nat_lit 18))), (nat_lit 0, (.ofNat (nat_lit 0)))]), (nat_lit 5, nat_lit 0, [(nat_lit 0, (.ofNat (nat_lit 0))), (nat_lit 0, (.ofNat (nat_lit 17))), (nat_lit 0, (.ofNat (nat_lit 0)))]), (nat_lit 5, nat_lit 0, [(nat_lit 0, (.ofNat (nat_lit 0))), (nat_lit 0, (.ofNat (nat_lit 16))), (nat_lit 0, (.ofNat (nat_lit 0)))])],
  [(nat_lit 7, nat_lit 3, []), (nat_lit 6, nat_lit 3, [(nat_lit 0, (.ofNat (nat_lit 4))), (nat_lit 0, (.ofNat (nat_lit 8)))]), (nat_lit 6, nat_lit 3, [(nat_lit 6, (.ofNat (nat_lit 0))), (nat_lit 0, (.ofNat (nat_lit 3)))]), (nat_lit 0, nat_lit 1, [(nat_lit 4, (.ofNat (nat_lit 0))), (nat_lit 0, (.ofNat (nat_lit 1)))]), (nat_lit 5, nat_lit 1, [(nat_lit 16, (.ofNat (nat_lit 0))), (nat_lit 5, (.ofNat (nat_lit 0))), (nat_lit 0, (.ofNat (nat_lit 0)))]), (nat_lit 0, nat_lit 1, [(nat_lit 0, (.ofNat (nat_lit 3))), (nat_lit 4, (.ofNat (nat_lit 0)))]), (nat_lit 5, nat_lit 1, [(nat_lit 3, (.ofNat (nat_lit 0))), (nat_lit 4, (.ofNat (nat_lit 0))), (nat_lit 0, (.ofNat (nat_lit 0)))]), (nat_lit 6, nat_lit 2, [(nat_lit 4, (.ofNat (nat_lit 0))), (nat_lit 0, (.ofNat (nat_lit 3)))]), (nat_lit 0, nat_lit 1, [(nat_lit 2, (.ofNat (nat_lit 0))), (nat_lit 0, (.ofNat (nat_lit 1)))]), (nat_lit 5, nat_lit 1, [(nat_lit 16, (.ofNat (nat_lit 0))), (nat_lit 3, (.ofNat (nat_lit 0))), (nat_lit 0, (.ofNat (nat_lit 0)))]), (nat_lit 0, nat_lit 1, [(nat_lit 0, (.ofNat (nat_lit 3))), (nat_lit 2, (.ofNat (nat_lit 0)))]), (nat_lit 5, nat_lit 1, [(nat_lit 3, (.ofNat (nat_lit 0))), (nat_lit 2, (.ofNat (nat_lit 0))), (nat_lit 0, (.ofNat (nat_lit 0)))]), (nat_lit 6, nat_lit 2, [(nat_lit 2, (.ofNat (nat_lit 0))), (nat_lit 0, (.ofNat (nat_lit 3)))]), (nat_lit 0, nat_lit 1, [(nat_lit 0, (.ofNat (nat_lit 0))), (nat_lit 0, (.ofNat (nat_lit 1)))]), (nat_lit 5, nat_lit 1, [(nat_lit 16, (.ofNat (nat_lit 0))), (nat_lit 1, (.ofNat (nat_lit 0))), (nat_lit 0, (.ofNat (nat_lit 0)))]), (nat_lit 0, nat_lit 1, [(nat_lit 0, (.ofNat (nat_lit 3))), (nat_lit 0, (.ofNat (nat_lit 0)))]), (nat_lit 5, nat_lit 1, [(nat_lit 3, (.ofNat (nat_lit 0))), (nat_lit 0, (.ofNat (nat_lit 0))), (nat_lit 0, (.ofNat (nat_lit 0)))]), (nat_lit 6, nat_lit 2, [(nat_lit 0, (.ofNat (nat_lit 0))), (nat_lit 0, (.ofNat (nat_lit 3)))]), (nat_lit 5, nat_lit 0, [(nat_lit 0, (.ofNat (nat_lit 0))), (nat_lit 0, (.ofNat (nat_lit 44))), (nat_lit 0, (.ofNat (nat_lit 0)))]), (nat_lit 5, nat_lit 0, [(nat_lit 0, (.ofNat (nat_lit 0))), (nat_lit 0, (.ofNat (nat_lit 19))), (nat_lit 0, (.ofNat (nat_lit 0)))]), (nat_lit 5, nat_lit 0, [(nat_lit 0, (.ofNat (nat_lit 0))), (nat_lit 0, (.ofNat (nat_lit 18))), (nat_lit 0, (.ofNat (nat_lit 0)))]), (nat_lit 5, nat_lit 0, [(nat_lit 0, (.ofNat (nat_lit 0))), (nat_lit 0, (.ofNat (nat_lit 17))), (nat_lit 0, (.ofNat (nat_lit 0)))]), (nat_lit 5, nat_lit 0, [(nat_lit 0, (.ofNat (nat_lit 0))), (nat_lit 0, (.ofNat (nat_lit 16))), (nat_lit 0, (.ofNat (nat_lit 0)))])],
  [(nat_lit 7, nat_lit 3, []), (nat_lit 6, nat_lit 1, [(nat_lit 0, (.ofNat (nat_lit 4))), (nat_lit 0, (.ofNat (nat_lit 4)))]), (nat_lit 6, nat_lit 2, [(nat_lit 0, (.ofNat (nat_lit 4))), (nat_lit 0, (.ofNat (nat_lit 8)))]), (nat_lit 6, nat_lit 3, [(nat_lit 6, (.ofNat (nat_lit 0))), (nat_lit 0, (.ofNat (nat_lit 3)))]), (nat_lit 0, nat_lit 1, [(nat_lit 4, (.ofNat (nat_lit 0))), (nat_lit 0, (.ofNat (nat_lit 1)))]), (nat_lit 5, nat_lit 1, [(nat_lit 16, (.ofNat (nat_lit 0))), (nat_lit 5, (.ofNat (nat_lit 0))), (nat_lit 0, (.ofNat (nat_lit 0)))]), (nat_lit 0, nat_lit 1, [(nat_lit 0, (.ofNat (nat_lit 3))), (nat_lit 4, (.ofNat (nat_lit 0)))]), (nat_lit 5, nat_lit 1, [(nat_lit 3, (.ofNat (nat_lit 0))), (nat_lit 4, (.ofNat (nat_lit 0))), (nat_lit 0, (.ofNat (nat_lit 0)))]), (nat_lit 6, nat_lit 2, [(nat_lit 4, (.ofNat (nat_lit 0))), (nat_lit 0, (.ofNat (nat_lit 3)))]), (nat_lit 0, nat_lit 1, [(nat_lit 2, (.ofNat (nat_lit 0))), (nat_lit 0, (.ofNat (nat_lit 1)))]), (nat_lit 5, nat_lit 1, [(nat_lit 16, (.ofNat (nat_lit 0))), (nat_lit 3, (.ofNat (nat_lit 0))), (nat_lit 0, (.ofNat (nat_lit 0)))]), (nat_lit 0, nat_lit 1, [(nat_lit 0, (.ofNat (nat_lit 3))), (nat_lit 2, (.ofNat (nat_lit 0)))]), (nat_lit 5, nat_lit 1, [(nat_lit 3, (.ofNat (nat_lit 0))), (nat_lit 2, (.ofNat (nat_lit 0))), (nat_lit 0, (.ofNat (nat_lit 0)))]), (nat_lit 6, nat_lit 2, [(nat_lit 2, (.ofNat (nat_lit 0))), (nat_lit 0, (.ofNat (nat_lit 3)))]), (nat_lit 0, nat_lit 1, [(nat_lit 0, (.ofNat (nat_lit 0))), (nat_lit 0, (.ofNat (nat_lit 1)))]), (nat_lit 5, nat_lit 1, [(nat_lit 16, (.ofNat (nat_lit 0))), (nat_lit 1, (.ofNat (nat_lit 0))), (nat_lit 0, (.ofNat (nat_lit 0)))]), (nat_lit 0, nat_lit 1, [(nat_lit 0, (.ofNat (nat_lit 3))), (nat_lit 0, (.ofNat (nat_lit 0)))]), (nat_lit 5, nat_lit 1, [(nat_lit 3, (.ofNat (nat_lit 0))), (nat_lit 0, (.ofNat (nat_lit 0))), (nat_lit 0, (.ofNat (nat_lit 0)))]), (nat_lit 6, nat_lit 2, [(nat_lit 0, (.ofNat (nat_lit 0))), (nat_lit 0, (.ofNat (nat_lit 3)))]), (nat_lit 5, nat_lit 0, [(nat_lit 0, (.ofNat (nat_lit 0))), (nat_lit 0, (.ofNat (nat_lit 44))), (nat_lit 0, (.ofNat (nat_lit 0)))]), (nat_lit 5, nat_lit 0, [(nat_lit 0, (.ofNat (nat_lit 0))), (nat_lit 0, (.ofNat (nat_lit 19))), (nat_lit 0, (.ofNat (nat_lit 0)))]), (nat_lit 5, nat_lit 0, [(nat_lit 0, (.ofNat (nat_lit 0))), (nat_lit 0, (.ofNat (nat_lit 18))), (nat_lit 0, (.ofNat (nat_lit 0)))]), (nat_lit 5, nat_lit 0, [(nat_lit 0, (.ofNat (nat_lit 0))), (nat_lit 0, (.ofNat (nat_lit 17))), (nat_lit 0, (.ofNat (nat_lit 0)))]), (nat_lit 5, nat_lit 0, [(nat_lit 0, (.ofNat (nat_lit 0))), (nat_lit 0, (.ofNat (nat_lit 16))), (nat_lit 0, (.ofNat (nat_lit 0)))])],
  [(nat_lit 7, nat_lit 0, [(nat_lit 0, (.ofNat (nat_lit 4))), (nat_lit 0, (.ofNat (nat_lit 8)))]), (nat_lit 6, nat_lit 0, [(nat_lit 0, (.ofNat (nat_lit 4))), (nat_lit 0, (.ofNat (nat_lit 4)))]), (nat_lit 6, nat_lit 2, [(nat_lit 0, (.ofNat (nat_lit 4))), (nat_lit 0, (.ofNat (nat_lit 8)))]), (nat_lit 6, nat_lit 3, [(nat_lit 6, (.ofNat (nat_lit 0))), (nat_lit 0, (.ofNat (nat_lit 3)))]), (nat_lit 0, nat_lit 1, [(nat_lit 4, (.ofNat (nat_lit 0))), (nat_lit 0, (.ofNat (nat_lit 1)))]), (nat_lit 5, nat_lit 1, [(nat_lit 16, (.ofNat (nat_lit 0))), (nat_lit 5, (.ofNat (nat_lit 0))), (nat_lit 0, (.ofNat (nat_lit 0)))]), (nat_lit 0, nat_lit 1, [(nat_lit 0, (.ofNat (nat_lit 3))), (nat_lit 4, (.ofNat (nat_lit 0)))]), (nat_lit 5, nat_lit 1, [(nat_lit 3, (.ofNat (nat_lit 0))), (nat_lit 4, (.ofNat (nat_lit 0))), (nat_lit 0, (.ofNat (nat_lit 0)))]), (nat_lit 6, nat_lit 2, [(nat_lit 4, (.ofNat (nat_lit 0))), (nat_lit 0, (.ofNat (nat_lit 3)))]), (nat_lit 0, nat_lit 1, [(nat_lit 2, (.ofNat (nat_lit 0))), (nat_lit 0, (.ofNat (nat_lit 1)))]), (nat_lit 5, nat_lit 1, [(nat_lit 16, (.ofNat (nat_lit 0))), (nat_lit 3, (.ofNat (nat_lit 0))), (nat_lit 0, (.ofNat (nat_lit 0)))]), (nat_lit 0, nat_lit 1, [(nat_lit 0, (.ofNat (nat_lit 3))), (nat_lit 2, (.ofNat (nat_lit 0)))]), (nat_lit 5, nat_lit 1, [(nat_lit 3, (.ofNat (nat_lit 0))), (nat_lit 2, (.ofNat (nat_lit 0))), (nat_lit 0, (.ofNat (nat_lit 0)))]), (nat_lit 6, nat_lit 2, [(nat_lit 2, (.ofNat (nat_lit 0))), (nat_lit 0, (.ofNat (nat_lit 3)))]), (nat_lit 0, nat_lit 1, [(nat_lit 0, (.ofNat (nat_lit 0))), (nat_lit 0, (.ofNat (nat_lit 1)))]), (nat_lit 5, nat_lit 1, [(nat_lit 16, (.ofNat (nat_lit 0))), (nat_lit 1, (.ofNat (nat_lit 0))), (nat_lit 0, (.ofNat (nat_lit 0)))]), (nat_lit 0, nat_lit 1, [(nat_lit 0, (.ofNat (nat_lit 3))), (nat_lit 0, (.ofNat (nat_lit 0)))]), (nat_lit 5, nat_lit 1, [(nat_lit 3, (.ofNat (nat_lit 0))), (nat_lit 0, (.ofNat (nat_lit 0))), (nat_lit 0, (.ofNat (nat_lit 0)))]), (nat_lit 6, nat_lit 2, [(nat_lit 0, (.ofNat (nat_lit 0))), (nat_lit 0, (.ofNat (nat_lit 3)))]), (nat_lit 5, nat_lit 0, [(nat_lit 0, (.ofNat (nat_lit 0))), (nat_lit 0, (.ofNat (nat_lit 44))), (nat_lit 0, (.ofNat (nat_lit 0)))]), (nat_lit 5, nat_lit 0, [(nat_lit 0, (.ofNat (nat_lit 0))), (nat_lit 0, (.ofNat (nat_lit 19))), (nat_lit 0, (.ofNat (nat_lit 0)))]), (nat_lit 5, nat_lit 0, [(nat_lit 0, (.ofNat (nat_lit 0))), (nat_lit 0, (.ofNat (nat_lit 18))), (nat_lit 0, (.ofNat (nat_lit 0)))]), (nat_lit 5, nat_lit 0, [(nat_lit 0, (.ofNat (nat_lit 0))), (nat_lit 0, (.ofNat (nat_lit 17))), (nat_lit 0, (.ofNat (nat_lit 0)))]), (nat_lit 5, nat_lit 0, [(nat_lit 0, (.ofNat (nat_lit 0))), (nat_lit 0, (.ofNat (nat_lit 16))), (nat_lit 0, (.ofNat (nat_lit 0)))])],
  [(nat_lit 7, nat_lit 3, []), (nat_lit 6, nat_lit 3, [(nat_lit 7, (.ofNat (nat_lit 0))), (nat_lit 0, (.ofNat (nat_lit 8)))]), (nat_lit 0, nat_lit 1, [(nat_lit 0, (.ofNat (nat_lit 4))), (nat_lit 0, (.ofNat (nat_lit 1)))]), (nat_lit 5, nat_lit 0, [(nat_lit 4, (.ofNat (nat_lit 0))), (nat_lit 0, (.ofNat (nat_lit 4))), (nat_lit 0, (.ofNat (nat_lit 3)))]), (nat_lit 6, nat_lit 0, [(nat_lit 0, (.ofNat (nat_lit 4))), (nat_lit 0, (.ofNat (nat_lit 4)))]), (nat_lit 6, nat_lit 2, [(nat_lit 0, (.ofNat (nat_lit 4))), (nat_lit 0, (.ofNat (nat_lit 8)))]), (nat_lit 6, nat_lit 3, [(nat_lit 6, (.ofNat (nat_lit 0))), (nat_lit 0, (.ofNat (nat_lit 3)))]), (nat_lit 0, nat_lit 1, [(nat_lit 4, (.ofNat (nat_lit 0))), (nat_lit 0, (.ofNat (nat_lit 1)))]), (nat_lit 5, nat_lit 1, [(nat_lit 16, (.ofNat (nat_lit 0))), (nat_lit 5, (.ofNat (nat_lit 0))), (nat_lit 0, (.ofNat (nat_lit 0)))]), (nat_lit 0, nat_lit 1, [(nat_lit 0, (.ofNat (nat_lit 3))), (nat_lit 4, (.ofNat (nat_lit 0)))]), (nat_lit 5, nat_lit 1, [(nat_lit 3, (.ofNat (nat_lit 0))), (nat_lit 4, (.ofNat (nat_lit 0))), (nat_lit 0, (.ofNat (nat_lit 0)))]), (nat_lit 6, nat_lit 2, [(nat_lit 4, (.ofNat (nat_lit 0))), (nat_lit 0, (.ofNat (nat_lit 3)))]), (nat_lit 0, nat_lit 1, [(nat_lit 2, (.ofNat (nat_lit 0))), (nat_lit 0, (.ofNat (nat_lit 1)))]), (nat_lit 5, nat_lit 1, [(nat_lit 16, (.ofNat (nat_lit 0))), (nat_lit 3, (.ofNat (nat_lit 0))), (nat_lit 0, (.ofNat (nat_lit 0)))]), (nat_lit 0, nat_lit 1, [(nat_lit 0, (.ofNat (nat_lit 3))), (nat_lit 2, (.ofNat (nat_lit 0)))]), (nat_lit 5, nat_lit 1, [(nat_lit 3, (.ofNat (nat_lit 0))), (nat_lit 2, (.ofNat (nat_lit 0))), (nat_lit 0, (.ofNat (nat_lit 0)))]), (nat_lit 6, nat_lit 2, [(nat_lit 2, (.ofNat (nat_lit 0))), (nat_lit 0, (.ofNat (nat_lit 3)))]), (nat_lit 0, nat_lit 1, [(nat_lit 0, (.ofNat (nat_lit 0))), (nat_lit 0, (.ofNat (nat_lit 1)))]), (nat_lit 5, nat_lit 1, [(nat_lit 16, (.ofNat (nat_lit 0))), (nat_lit 1, (.ofNat (nat_lit 0))), (nat_lit 0, (.ofNat (nat_lit 0)))]), (nat_lit 0, nat_lit 1, [(nat_lit 0, (.ofNat (nat_lit 3))), (nat_lit 0, (.ofNat (nat_lit 0)))]), (nat_lit 5, nat_lit 1, [(nat_lit 3, (.ofNat (nat_lit 0))), (nat_lit 0, (.ofNat (nat_lit 0))), (nat_lit 0, (.ofNat (nat_lit 0)))]), (nat_lit 6, nat_lit 2, [(nat_lit 0, (.ofNat (nat_lit 0))), (nat_lit 0, (.ofNat (nat_lit 3)))]), (nat_lit 5, nat_lit 0, [(nat_lit 0, (.ofNat (nat_lit 0))), (nat_lit 0, (.ofNat (nat_lit 44))), (nat_lit 0, (.ofNat (nat_lit 0)))]), (nat_lit 5, nat_lit 0, [(nat_lit 0, (.ofNat (nat_lit 0))), (nat_lit 0, (.ofNat (nat_lit 19))), (nat_lit 0, (.ofNat (nat_lit 0)))]), (nat_lit 5, nat_lit 0, [(nat_lit 0, (.ofNat (nat_lit 0))), (nat_lit 0, (.ofNat (nat_lit 18))), (nat_lit 0, (.ofNat (nat_lit 0)))]), (nat_lit 5, nat_lit 0, [(nat_lit 0, (.ofNat (nat_lit 0))), (nat_lit 0, (.ofNat (nat_lit 17))), (nat_lit 0, (.ofNat (nat_lit 0)))]), (nat_lit 5, nat_lit 0, [(nat_lit 0, (.ofNat (nat_lit 0))), (nat_lit 0, (.ofNat (nat_lit 16))), (nat_lit 0, (.ofNat (nat_lit 0)))])],
  [(nat_lit 7, nat_lit 0, [(nat_lit 7, (.ofNat (nat_lit 0))), (nat_lit 0, (.ofNat (nat_lit 8)))]), (nat_lit 6, nat_lit 1, [(nat_lit 7, (.ofNat (nat_lit 0))), (nat_lit 0, (.ofNat (nat_lit 4)))]), (nat_lit 6, nat_lit 2, [(nat_lit 7, (.ofNat (nat_lit 0))), (nat_lit 0, (.ofNat (nat_lit 8)))]), (nat_lit 0, nat_lit 1, [(nat_lit 0, (.ofNat (nat_lit 4))), (nat_lit 0, (.ofNat (nat_lit 1)))]), (nat_lit 5, nat_lit 0, [(nat_lit 4, (.ofNat (nat_lit 0))), (nat_lit 0, (.ofNat (nat_lit 4))), (nat_lit 0, (.ofNat (nat_lit 3)))]), (nat_lit 6, nat_lit 0, [(nat_lit 0, (.ofNat (nat_lit 4))), (nat_lit 0, (.ofNat (nat_lit 4)))]), (nat_lit 6, nat_lit 2, [(nat_lit 0, (.ofNat (nat_lit 4))), (nat_lit 0, (.ofNat (nat_lit 8)))]), (nat_lit 6, nat_lit 3, [(nat_lit 6, (.ofNat (nat_lit 0))), (nat_lit 0, (.ofNat (nat_lit 3)))]), (nat_lit 0, nat_lit 1, [(nat_lit 4, (.ofNat (nat_lit 0))), (nat_lit 0, (.ofNat (nat_lit 1)))]), (nat_lit 5, nat_lit 1, [(nat_lit 16, (.ofNat (nat_lit 0))), (nat_lit 5, (.ofNat (nat_lit 0))), (nat_lit 0, (.ofNat (nat_lit 0)))]), (nat_lit 0, nat_lit 1, [(nat_lit 0, (.ofNat (nat_lit 3))), (nat_lit 4, (.ofNat (nat_lit 0)))]), (nat_lit 5, nat_lit 1, [(nat_lit 3, (.ofNat (nat_lit 0))), (nat_lit 4, (.ofNat (nat_lit 0))), (nat_lit 0, (.ofNat (nat_lit 0)))]), (nat_lit 6, nat_lit 2, [(nat_lit 4, (.ofNat (nat_lit 0))), (nat_lit 0, (.ofNat (nat_lit 3)))]), (nat_lit 0, nat_lit 1, [(nat_lit 2, (.ofNat (nat_lit 0))), (nat_lit 0, (.ofNat (nat_lit 1)))]), (nat_lit 5, nat_lit 1, [(nat_lit 16, (.ofNat (nat_lit 0))), (nat_lit 3, (.ofNat (nat_lit 0))), (nat_lit 0, (.ofNat (nat_lit 0)))]), (nat_lit 0, nat_lit 1, [(nat_lit 0, (.ofNat (nat_lit 3))), (nat_lit 2, (.ofNat (nat_lit 0)))]), (nat_lit 5, nat_lit 1, [(nat_lit 3, (.ofNat (nat_lit 0))), (nat_lit 2, (.ofNat (nat_lit 0))), (nat_lit 0, (.ofNat (nat_lit 0)))]), (nat_lit 6, nat_lit 2, [(nat_lit 2, (.ofNat (nat_lit 0))), (nat_lit 0, (.ofNat (nat_lit 3)))]), (nat_lit 0, nat_lit 1, [(nat_lit 0, (.ofNat (nat_lit 0))), (nat_lit 0, (.ofNat (nat_lit 1)))]), (nat_lit 5, nat_lit 1, [(nat_lit 16, (.ofNat (nat_lit 0))), (nat_lit 1, (.ofNat (nat_lit 0))), (nat_lit 0, (.ofNat (nat_lit 0)))]), (nat_lit 0, nat_lit 1, [(nat_lit 0, (.ofNat (nat_lit 3))), (nat_lit 0, (.ofNat (nat_lit 0)))]), (nat_lit 5, nat_lit 1, [(nat_lit 3, (.ofNat (nat_lit 0))), (nat_lit 0, (.ofNat (nat_lit 0))), (nat_lit 0, (.ofNat (nat_lit 0)))]), (nat_lit 6, nat_lit 2, [(nat_lit 0, (.ofNat (nat_lit 0))), (nat_lit 0, (.ofNat (nat_lit 3)))]), (nat_lit 5, nat_lit 0, [(nat_lit 0, (.ofNat (nat_lit 0))), (nat_lit 0, (.ofNat (nat_lit 44))), (nat_lit 0, (.ofNat (nat_lit 0)))]), (nat_lit 5, nat_lit 0, [(nat_lit 0, (.ofNat (nat_lit 0))), (nat_lit 0, (.ofNat (nat_lit 19))), (nat_lit 0, (.ofNat (nat_lit 0)))]), (nat_lit 5, nat_lit 0, [(nat_lit 0, (.ofNat (nat_lit 0))), (nat_lit 0, (.ofNat (nat_lit 18))), (nat_lit 0, (.ofNat (nat_lit 0)))]), (nat_lit 5, nat_lit 0, [(nat_lit 0, (.ofNat (nat_lit 0))), (nat_lit 0, (.ofNat (nat_lit 17))), (nat_lit 0, (.ofNat (nat_lit 0)))]), (nat_lit 5, nat_lit 0, [(nat_lit 0, (.ofNat (nat_lit 0))), (nat_lit 0, (.ofNat (nat_lit 16))), (nat_lit 0, (.ofNat (nat_lit 0)))])],
  [(nat_lit 7, nat_lit 3, []), (nat_lit 6, nat_lit 3, [(nat_lit 8, (.ofNat (nat_lit 0))), (nat_lit 0, (.ofNat (nat_lit 8)))]), (nat_lit 0, nat_lit 1, [(nat_lit 7, (.ofNat (nat_lit 0))), (nat_lit 0, (.ofNat (nat_lit 1)))]), (nat_lit 5, nat_lit 0, [(nat_lit 4, (.ofNat (nat_lit 0))), (nat_lit 7, (.ofNat (nat_lit 0))), (nat_lit 0, (.ofNat (nat_lit 0)))]), (nat_lit 6, nat_lit 1, [(nat_lit 7, (.ofNat (nat_lit 0))), (nat_lit 0, (.ofNat (nat_lit 4)))]), (nat_lit 6, nat_lit 2, [(nat_lit 7, (.ofNat (nat_lit 0))), (nat_lit 0, (.ofNat (nat_lit 8)))]), (nat_lit 0, nat_lit 1, [(nat_lit 0, (.ofNat (nat_lit 4))), (nat_lit 0, (.ofNat (nat_lit 1)))]), (nat_lit 5, nat_lit 0, [(nat_lit 4, (.ofNat (nat_lit 0))), (nat_lit 0, (.ofNat (nat_lit 4))), (nat_lit 0, (.ofNat (nat_lit 3)))]), (nat_lit 6, nat_lit 0, [(nat_lit 0, (.ofNat (nat_lit 4))), (nat_lit 0, (.ofNat (nat_lit 4)))]), (nat_lit 6, nat_lit 2, [(nat_lit 0, (.ofNat (nat_lit 4))), (nat_lit 0, (.ofNat (nat_lit 8)))]), (nat_lit 6, nat_lit 3, [(nat_lit 6, (.ofNat (nat_lit 0))), (nat_lit 0, (.ofNat (nat_lit 3)))]), (nat_lit 0, nat_lit 1, [(nat_lit 4, (.ofNat (nat_lit 0))), (nat_lit 0, (.ofNat (nat_lit 1)))]), (nat_lit 5, nat_lit 1, [(nat_lit 16, (.ofNat (nat_lit 0))), (nat_lit 5, (.ofNat (nat_lit 0))), (nat_lit 0, (.ofNat (nat_lit 0)))]), (nat_lit 0, nat_lit 1, [(nat_lit 0, (.ofNat (nat_lit 3))), (nat_lit 4, (.ofNat (nat_lit 0)))]), (nat_lit 5, nat_lit 1, [(nat_lit 3, (.ofNat (nat_lit 0))), (nat_lit 4, (.ofNat (nat_lit 0))), (nat_lit 0, (.ofNat (nat_lit 0)))]), (nat_lit 6, nat_lit 2, [(nat_lit 4, (.ofNat (nat_lit 0))), (nat_lit 0, (.ofNat (nat_lit 3)))]), (nat_lit 0, nat_lit 1, [(nat_lit 2, (.ofNat (nat_lit 0))), (nat_lit 0, (.ofNat (nat_lit 1)))]), (nat_lit 5, nat_lit 1, [(nat_lit 16, (.ofNat (nat_lit 0))), (nat_lit 3, (.ofNat (nat_lit 0))), (nat_lit 0, (.ofNat (nat_lit 0)))]), (nat_lit 0, nat_lit 1, [(nat_lit 0, (.ofNat (nat_lit 3))), (nat_lit 2, (.ofNat (nat_lit 0)))]), (nat_lit 5, nat_lit 1, [(nat_lit 3, (.ofNat (nat_lit 0))), (nat_lit 2, (.ofNat (nat_lit 0))), (nat_lit 0, (.ofNat (nat_lit 0)))]), (nat_lit 6, nat_lit 2, [(nat_lit 2, (.ofNat (nat_lit 0))), (nat_lit 0, (.ofNat (nat_lit 3)))]), (nat_lit 0, nat_lit 1, [(nat_lit 0, (.ofNat (nat_lit 0))), (nat_lit 0, (.ofNat (nat_lit 1)))]), (nat_lit 5, nat_lit 1, [(nat_lit 16, (.ofNat (nat_lit 0))), (nat_lit 1, (.ofNat (nat_lit 0))), (nat_lit 0, (.ofNat (nat_lit 0)))]), (nat_lit 0, nat_lit 1, [(nat_lit 0, (.ofNat (nat_lit 3))), (nat_lit 0, (.ofNat (nat_lit 0)))]), (nat_lit 5, nat_lit 1, [(nat_lit 3, (.ofNat (nat_lit 0))), (nat_lit 0, (.ofNat (nat_lit 0))), (nat_lit 0, (.ofNat (nat_lit 0)))]), (nat_lit 6, nat_lit 2, [(nat_lit 0, (.ofNat (nat_lit 0))), (nat_lit 0, (.ofNat (nat_lit 3)))]), (nat_lit 5, nat_lit 0, [(nat_lit 0, (.ofNat (nat_lit 0))), (nat_lit 0, (.ofNat (nat_lit 44))), (nat_lit 0, (.ofNat (nat_lit 0)))]), (nat_lit 5, nat_lit 0, [(nat_lit 0, (.ofNat (nat_lit 0))), (nat_lit 0, (.ofNat (nat_lit 19))), (nat_lit 0, (.ofNat (nat_lit 0)))]), (nat_lit 5, nat_lit 0, [(nat_lit 0, (.ofNat (nat_lit 0))), (nat_lit 0, (.ofNat (nat_lit 18))), (nat_lit 0, (.ofNat (nat_lit 0)))]), (nat_lit 5, nat_lit 0, [(nat_lit 0, (.ofNat (nat_lit 0))), (nat_lit 0, (.ofNat (nat_lit 17))), (nat_lit 0, (.ofNat (nat_lit 0)))]), (nat_lit 5, nat_lit 0, [(nat_lit 0, (.ofNat (nat_lit 0))), (nat_lit 0, (.ofNat (nat_lit 16))), (nat_lit 0, (.ofNat (nat_lit 0)))])],
  [(nat_lit 7, nat_lit 0, [(nat_lit 8, (.ofNat (nat_lit 0))), (nat_lit 0, (.ofNat (nat_lit 8)))]), (nat_lit 6, nat_lit 1, [(nat_lit 8, (.ofNat (nat_lit 0))), (nat_lit 0, (.ofNat (nat_lit 4)))]), (nat_lit 6, nat_lit 2, [(nat_lit 8, (.ofNat (nat_lit 0))), (nat_lit 0, (.ofNat (nat_lit 8)))]), (nat_lit 0, nat_lit 1, [(nat_lit 7, (.ofNat (nat_lit 0))), (nat_lit 0, (.ofNat (nat_lit 1)))]), (nat_lit 5, nat_lit 0, [(nat_lit 4, (.ofNat (nat_lit 0))), (nat_lit 7, (.ofNat (nat_lit 0))), (nat_lit 0, (.ofNat (nat_lit 0)))]), (nat_lit 6, nat_lit 1, [(nat_lit 7, (.ofNat (nat_lit 0))), (nat_lit 0, (.ofNat (nat_lit 4)))]), (nat_lit 6, nat_lit 2, [(nat_lit 7, (.ofNat (nat_lit 0))), (nat_lit 0, (.ofNat (nat_lit 8)))]), (nat_lit 0, nat_lit 1, [(nat_lit 0, (.ofNat (nat_lit 4))), (nat_lit 0, (.ofNat (nat_lit 1)))]), (nat_lit 5, nat_lit 0, [(nat_lit 4, (.ofNat (nat_lit 0))), (nat_lit 0, (.ofNat (nat_lit 4))), (nat_lit 0, (.ofNat (nat_lit 3)))]), (nat_lit 6, nat_lit 0, [(nat_lit 0, (.ofNat (nat_lit 4))), (nat_lit 0, (.ofNat (nat_lit 4)))]), (nat_lit 6, nat_lit 2, [(nat_lit 0, (.ofNat (nat_lit 4))), (nat_lit 0, (.ofNat (nat_lit 8)))]), (nat_lit 6, nat_lit 3, [(nat_lit 6, (.ofNat (nat_lit 0))), (nat_lit 0, (.ofNat (nat_lit 3)))]), (nat_lit 0, nat_lit 1, [(nat_lit 4, (.ofNat (nat_lit 0))), (nat_lit 0, (.ofNat (nat_lit 1)))]), (nat_lit 5, nat_lit 1, [(nat_lit 16, (.ofNat (nat_lit 0))), (nat_lit 5, (.ofNat (nat_lit 0))), (nat_lit 0, (.ofNat (nat_lit 0)))]), (nat_lit 0, nat_lit 1, [(nat_lit 0, (.ofNat (nat_lit 3))), (nat_lit 4, (.ofNat (nat_lit 0)))]), (nat_lit 5, nat_lit 1, [(nat_lit 3, (.ofNat (nat_lit 0))), (nat_lit 4, (.ofNat (nat_lit 0))), (nat_lit 0, (.ofNat (nat_lit 0)))]), (nat_lit 6, nat_lit 2, [(nat_lit 4, (.ofNat (nat_lit 0))), (nat_lit 0, (.ofNat (nat_lit 3)))]), (nat_lit 0, nat_lit 1, [(nat_lit 2, (.ofNat (nat_lit 0))), (nat_lit 0, (.ofNat (nat_lit 1)))]), (nat_lit 5, nat_lit 1, [(nat_lit 16, (.ofNat (nat_lit 0))), (nat_lit 3, (.ofNat (nat_lit 0))), (nat_lit 0, (.ofNat (nat_lit 0)))]), (nat_lit 0, nat_lit 1, [(nat_lit 0, (.ofNat (nat_lit 3))), (nat_lit 2, (.ofNat (nat_lit 0)))]), (nat_lit 5, nat_lit 1, [(nat_lit 3, (.ofNat (nat_lit 0))), (nat_lit 2, (.ofNat (nat_lit 0))), (nat_lit 0, (.ofNat (nat_lit 0)))]), (nat_lit 6, nat_lit 2, [(nat_lit 2, (.ofNat (nat_lit 0))), (nat_lit 0, (.ofNat (nat_lit 3)))]), (nat_lit 0, nat_lit 1, [(nat_lit 0, (.ofNat (nat_lit 0))), (nat_lit 0, (.ofNat (nat_lit 1)))]), (nat_lit 5, nat_lit 1, [(nat_lit 16, (.ofNat (nat_lit 0))), (nat_lit 1, (.ofNat (nat_lit 0))), (nat_lit 0, (.ofNat (nat_lit 0)))]), (nat_lit 0, nat_lit 1, [(nat_lit 0, (.ofNat (nat_lit 3))), (nat_lit 0, (.ofNat (nat_lit 0)))]), (nat_lit 5, nat_lit 1, [(nat_lit 3, (.ofNat (nat_lit 0))), (nat_lit 0, (.ofNat (nat_lit 0))), (nat_lit 0, (.ofNat (nat_lit 0)))]), (nat_lit 6, nat_lit 2, [(nat_lit 0, (.ofNat (nat_lit 0))), (nat_lit 0, (.ofNat (nat_lit 3)))]), (nat_lit 5, nat_lit 0, [(nat_lit 0, (.ofNat (nat_lit 0))), (nat_lit 0, (.ofNat (nat_lit 44))), (nat_lit 0, (.ofNat (nat_lit 0)))]), (nat_lit 5, nat_lit 0, [(nat_lit 0, (.ofNat (nat_lit 0))), (nat_lit 0, (.ofNat (nat_lit 19))), (nat_lit 0, (.ofNat (nat_lit 0)))]), (nat_lit 5, nat_lit 0, [(nat_lit 0, (.ofNat (nat_lit 0))), (nat_lit 0, (.ofNat (nat_lit 18))), (nat_lit 0, (.ofNat (nat_lit 0)))]), (nat_lit 5, nat_lit 0, [(nat_lit 0, (.ofNat (nat_lit 0))), (nat_lit 0, (.ofNat (nat_lit 17))), (nat_lit 0, (.ofNat (nat_lit 0)))]), (nat_lit 5, nat_lit 0, [(nat_lit 0, (.ofNat (nat_lit 0))), (nat_lit 0, (.ofNat (nat_lit 16))), (nat_lit 0, (.ofNat (nat_lit 0)))])],
  [(nat_lit 7, nat_lit 3, []), (nat_lit 6, nat_lit 3, [(nat_lit 9, (.ofNat (nat_lit 0))), (nat_lit 0, (.ofNat (nat_lit 8)))]), (nat_lit 0, nat_lit 1, [(nat_lit 8, (.ofNat (nat_lit 0))), (nat_lit 0, (.ofNat (nat_lit 1)))]), (nat_lit 5, nat_lit 0, [(nat_lit 4, (.ofNat (nat_lit 0))), (nat_lit 8, (.ofNat (nat_lit 0))), (nat_lit 0, (.ofNat (nat_lit 0)))]), (nat_lit 6, nat_lit 1, [(nat_lit 8, (.ofNat (nat_lit 0))), (nat_lit 0, (.ofNat (nat_lit 4)))]), (nat_lit 6, nat_lit 2, [(nat_lit 8, (.ofNat (nat_lit 0))), (nat_lit 0, (.ofNat (nat_lit 8)))]), (nat_lit 0, nat_lit 1, [(nat_lit 7, (.ofNat (nat_lit 0))), (nat_lit 0, (.ofNat (nat_lit 1)))]), (nat_lit 5, nat_lit 0, [(nat_lit 4, (.ofNat (nat_lit 0))), (nat_lit 7, (.ofNat (nat_lit 0))), (nat_lit 0, (.ofNat (nat_lit 0)))]), (nat_lit 6, nat_lit 1, [(nat_lit 7, (.ofNat (nat_lit 0))), (nat_lit 0, (.ofNat (nat_lit 4)))]), (nat_lit 6, nat_lit 2, [(nat_lit 7, (.ofNat (nat_lit 0))), (nat_lit 0, (.ofNat (nat_lit 8)))]), (nat_lit 0, nat_lit 1, [(nat_lit 0, (.ofNat (nat_lit 4))), (nat_lit 0, (.ofNat (nat_lit 1)))]), (nat_lit 5, nat_lit 0, [(nat_lit 4, (.ofNat (nat_lit 0))), (nat_lit 0, (.ofNat (nat_lit 4))), (nat_lit 0, (.ofNat (nat_lit 3)))]), (nat_lit 6, nat_lit 0, [(nat_lit 0, (.ofNat (nat_lit 4))), (nat_lit 0, (.ofNat (nat_lit 4)))]), (nat_lit 6, nat_lit 2, [(nat_lit 0, (.ofNat (nat_lit 4))), (nat_lit 0, (.ofNat (nat_lit 8)))]), (nat_lit 6, nat_lit 3, [(nat_lit 6, (.ofNat (nat_lit 0))), (nat_lit 0, (.ofNat (nat_lit 3)))]), (nat_lit 0, nat_lit 1, [(nat_lit 4, (.ofNat (nat_lit 0))), (nat_lit 0, (.ofNat (nat_lit 1)))]), (nat_lit 5, nat_lit 1, [(nat_lit 16, (.ofNat (nat_lit 0))), (nat_lit 5, (.ofNat (nat_lit 0))), (nat_lit 0, (.ofNat (nat_lit 0)))]), (nat_lit 0, nat_lit 1, [(nat_lit 0, (.ofNat (nat_lit 3))), (nat_lit 4, (.ofNat (nat_lit 0)))]), (nat_lit 5, nat_lit 1, [(nat_lit 3, (.ofNat (nat_lit 0))), (nat_lit 4, (.ofNat (nat_lit 0))), (nat_lit 0, (.ofNat (nat_lit 0)))]), (nat_lit 6, nat_lit 2, [(nat_lit 4, (.ofNat (nat_lit 0))), (nat_lit 0, (.ofNat (nat_lit 3)))]), (nat_lit 0, nat_lit 1, [(nat_lit 2, (.ofNat (nat_lit 0))), (nat_lit 0, (.ofNat (nat_lit 1)))]), (nat_lit 5, nat_lit 1, [(nat_lit 16, (.ofNat (nat_lit 0))), (nat_lit 3, (.ofNat (nat_lit 0))), (nat_lit 0, (.ofNat (nat_lit 0)))]), (nat_lit 0, nat_lit 1, [(nat_lit 0, (.ofNat (nat_lit 3))), (nat_lit 2, (.ofNat (nat_lit 0)))]), (nat_lit 5, nat_lit 1, [(nat_lit 3, (.ofNat (nat_lit 0))), (nat_lit 2, (.ofNat (nat_lit 0))), (nat_lit 0, (.ofNat (nat_lit 0)))]), (nat_lit 6, nat_lit 2, [(nat_lit 2, (.ofNat (nat_lit 0))), (nat_lit 0, (.ofNat (nat_lit 3)))]), (nat_lit 0, nat_lit 1, [(nat_lit 0, (.ofNat (nat_lit 0))), (nat_lit 0, (.ofNat (nat_lit 1)))]), (nat_lit 5, nat_lit 1, [(nat_lit 16, (.ofNat (nat_lit 0))), (nat_lit 1, (.ofNat (nat_lit 0))), (nat_lit 0, (.ofNat (nat_lit 0)))]), (nat_lit 0, nat_lit 1, [(nat_lit 0, (.ofNat (nat_lit 3))), (nat_lit 0, (.ofNat (nat_lit 0)))]), (nat_lit 5, nat_lit 1, [(nat_lit 3, (.ofNat (nat_lit 0))), (nat_lit 0, (.ofNat (nat_lit 0))), (nat_lit 0, (.ofNat (nat_lit 0)))]), (nat_lit 6, nat_lit 2, [(nat_lit 0, (.ofNat (nat_lit 0))), (nat_lit 0, (.ofNat (nat_lit 3)))]), (nat_lit 5, nat_lit 0, [(nat_lit 0, (.ofNat (nat_lit 0))), (nat_lit 0, (.ofNat (nat_lit 44))), (nat_lit 0, (.ofNat (nat_lit 0)))]), (nat_lit 5, nat_lit 0, [(nat_lit 0, (.ofNat (nat_lit 0))), (nat_lit 0, (.ofNat (nat_lit 19))), (nat_lit 0, (.ofNat (nat_lit 0)))]), (nat_lit 5, nat_lit 0, [(nat_lit 0, (.ofNat (nat_lit 0))), (nat_lit 0, (.ofNat (nat_lit 18))), (nat_lit 0, (.ofNat (nat_lit 0)))]), (nat_lit 5, nat_lit 0, [(nat_lit 0, (.ofNat (nat_lit 0))), (nat_lit 0, (.ofNat (nat_lit 17))), (nat_lit 0, (.ofNat (nat_lit 0)))]), (nat_lit 5, nat_lit 0, [(nat_lit 0, (.ofNat (nat_lit 0))), (nat_lit 0, (.ofNat (nat_lit 16))), (nat_lit 0, (.ofNat (nat_lit 0)))])],
  [(nat_lit 7, nat_lit 0, [(nat_lit 9, (.ofNat (nat_lit 0))), (nat_lit 0, (.ofNat (nat_lit 8)))]), (nat_lit 6, nat_lit 1, [(nat_lit 9, (.ofNat (nat_lit 0))), (nat_lit 0, (.ofNat (nat_lit 4)))]), (nat_lit 6, nat_lit 2, [(nat_lit 9, (.ofNat (nat_lit 0))), (nat_lit 0, (.ofNat (nat_lit 8)))]), (nat_lit 0, nat_lit 1, [(nat_lit 8, (.ofNat (nat_lit 0))), (nat_lit 0, (.ofNat (nat_lit 1)))]), (nat_lit 5, nat_lit 0, [(nat_lit 4, (.ofNat (nat_lit 0))), (nat_lit 8, (.ofNat (nat_lit 0))), (nat_lit 0, (.ofNat (nat_lit 0)))]), (nat_lit 6, nat_lit 1, [(nat_lit 8, (.ofNat (nat_lit 0))), (nat_lit 0, (.ofNat (nat_lit 4)))]), (nat_lit 6, nat_lit 2, [(nat_lit 8, (.ofNat (nat_lit 0))), (nat_lit 0, (.ofNat (nat_lit 8)))]), (nat_lit 0, nat_lit 1, [(nat_lit 7, (.ofNat (nat_lit 0))), (nat_lit 0, (.ofNat (nat_lit 1)))]), (nat_lit 5, nat_lit 0, [(nat_lit 4, (.ofNat (nat_lit 0))), (nat_lit 7, (.ofNat (nat_lit 0))), (nat_lit 0, (.ofNat (nat_lit 0)))]), (nat_lit 6, nat_lit 1, [(nat_lit 7, (.ofNat (nat_lit 0))), (nat_lit 0, (.ofNat (nat_lit 4)))]), (nat_lit 6, nat_lit 2, [(nat_lit 7, (.ofNat (nat_lit 0))), (nat_lit 0, (.ofNat (nat_lit 8)))]), (nat_lit 0, nat_lit 1, [(nat_lit 0, (.ofNat (nat_lit 4))), (nat_lit 0, (.ofNat (nat_lit 1)))]), (nat_lit 5, nat_lit 0, [(nat_lit 4, (.ofNat (nat_lit 0))), (nat_lit 0, (.ofNat (nat_lit 4))), (nat_lit 0, (.ofNat (nat_lit 3)))]), (nat_lit 6, nat_lit 0, [(nat_lit 0, (.ofNat (nat_lit 4))), (nat_lit 0, (.ofNat (nat_lit 4)))]), (nat_lit 6, nat_lit 2, [(nat_lit 0, (.ofNat (nat_lit 4))), (nat_lit 0, (.ofNat (nat_lit 8)))]), (nat_lit 6, nat_lit 3, [(nat_lit 6, (.ofNat (nat_lit 0))), (nat_lit 0, (.ofNat (nat_lit 3)))]), (nat_lit 0, nat_lit 1, [(nat_lit 4, (.ofNat (nat_lit 0))), (nat_lit 0, (.ofNat (nat_lit 1)))]), (nat_lit 5, nat_lit 1, [(nat_lit 16, (.ofNat (nat_lit 0))), (nat_lit 5, (.ofNat (nat_lit 0))), (nat_lit 0, (.ofNat (nat_lit 0)))]), (nat_lit 0, nat_lit 1, [(nat_lit 0, (.ofNat (nat_lit 3))), (nat_lit 4, (.ofNat (nat_lit 0)))]), (nat_lit 5, nat_lit 1, [(nat_lit 3, (.ofNat (nat_lit 0))), (nat_lit 4, (.ofNat (nat_lit 0))), (nat_lit 0, (.ofNat (nat_lit 0)))]), (nat_lit 6, nat_lit 2, [(nat_lit 4, (.ofNat (nat_lit 0))), (nat_lit 0, (.ofNat (nat_lit 3)))]), (nat_lit 0, nat_lit 1, [(nat_lit 2, (.ofNat (nat_lit 0))), (nat_lit 0, (.ofNat (nat_lit 1)))]), (nat_lit 5, nat_lit 1, [(nat_lit 16, (.ofNat (nat_lit 0))), (nat_lit 3, (.ofNat (nat_lit 0))), (nat_lit 0, (.ofNat (nat_lit 0)))]), (nat_lit 0, nat_lit 1, [(nat_lit 0, (.ofNat (nat_lit 3))), (nat_lit 2, (.ofNat (nat_lit 0)))]), (nat_lit 5, nat_lit 1, [(nat_lit 3, (.ofNat (nat_lit 0))), (nat_lit 2, (.ofNat (nat_lit 0))), (nat_lit 0, (.ofNat (nat_lit 0)))]), (nat_lit 6, nat_lit 2, [(nat_lit 2, (.ofNat (nat_lit 0))), (nat_lit 0, (.ofNat (nat_lit 3)))]), (nat_lit 0, nat_lit 1, [(nat_lit 0, (.ofNat (nat_lit 0))), (nat_lit 0, (.ofNat (nat_lit 1)))]), (nat_lit 5, nat_lit 1, [(nat_lit 16, (.ofNat (nat_lit 0))), (nat_lit 1, (.ofNat (nat_lit 0))), (nat_lit 0, (.ofNat (nat_lit 0)))]), (nat_lit 0, nat_lit 1, [(nat_lit 0, (.ofNat (nat_lit 3))), (nat_lit 0, (.ofNat (nat_lit 0)))]), (nat_lit 5, nat_lit 1, [(nat_lit 3, (.ofNat (nat_lit 0))), (nat_lit 0, (.ofNat (nat_lit 0))), (nat_lit 0, (.ofNat (nat_lit 0)))]), (nat_lit 6, nat_lit 2, [(nat_lit 0, (.ofNat (nat_lit 0))), (nat_lit 0, (.ofNat (nat_lit 3)))]), (nat_lit 5, nat_lit 0, [(nat_lit 0, (.ofNat (nat_lit 0))), (nat_lit 0, (.ofNat (nat_lit 44))), (nat_lit 0, (.ofNat (nat_lit 0)))]), (nat_lit 5, nat_lit 0, [(nat_lit 0, (.ofNat (nat_lit 0))), (nat_lit 0, (.ofNat (nat_lit 19))), (nat_lit 0, (.ofNat (nat_lit 0)))]), (nat_lit 5, nat_lit 0, [(nat_lit 0, (.ofNat (nat_lit 0))), (nat_lit 0, (.ofNat (nat_lit 18))), (nat_lit 0, (.ofNat (nat_lit 0)))]), (nat_lit 5, nat_lit 0, [(nat_lit 0, (.ofNat (nat_lit 0))), (nat_lit 0, (.ofNat (nat_lit 17))), (nat_lit 0, (.ofNat (nat_lit 0)))]), (nat_lit 5, nat_lit 0, [(nat_lit 0, (.ofNat (nat_lit 0))), (nat_lit 0, (.ofNat (nat_lit 16))), (nat_lit 0, (.ofNat (nat_lit 0)))])],
  [(nat_lit 7, nat_lit 3, []), (nat_lit 6, nat_lit 2, [(nat_lit 10, (.ofNat (nat_lit 0))), (nat_lit 0, (.ofNat (nat_lit 8)))]), (nat_lit 0, nat_lit 1, [(nat_lit 9, (.ofNat (nat_lit 0))), (nat_lit 0, (.ofNat (nat_lit 1)))]), (nat_lit 5, nat_lit 0, [(nat_lit 4, (.ofNat (nat_lit 0))), (nat_lit 9, (.ofNat (nat_lit 0))), (nat_lit 0, (.ofNat (nat_lit 0)))]), (nat_lit 6, nat_lit 1, [(nat_lit 9, (.ofNat (nat_lit 0))), (nat_lit 0, (.ofNat (nat_lit 4)))]), (nat_lit 6, nat_lit 2, [(nat_lit 9, (.ofNat (nat_lit 0))), (nat_lit 0, (.ofNat (nat_lit 8)))]), (nat_lit 0, nat_lit 1, [(nat_lit 8, (.ofNat (nat_lit 0))), (nat_lit 0, (.ofNat (nat_lit 1)))]), (nat_lit 5, nat_lit 0, [(nat_lit 4, (.ofNat (nat_lit 0))), (nat_lit 8, (.ofNat (nat_lit 0))), (nat_lit 0, (.ofNat (nat_lit 0)))]), (nat_lit 6, nat_lit 1, [(nat_lit 8, (.ofNat (nat_lit 0))), (nat_lit 0, (.ofNat (nat_lit 4)))]), (nat_lit 6, nat_lit 2, [(nat_lit 8, (.ofNat (nat_lit 0))), (nat_lit 0, (.ofNat (nat_lit 8)))]), (nat_lit 0, nat_lit 1, [(nat_lit 7, (.ofNat (nat_lit 0))), (nat_lit 0, (.ofNat (nat_lit 1)))]), (nat_lit 5, nat_lit 0, [(nat_lit 4, (.ofNat (nat_lit 0))), (nat_lit 7, (.ofNat (nat_lit 0))), (nat_lit 0, (.ofNat (nat_lit 0)))]), (nat_lit 6, nat_lit 1, [(nat_lit 7, (.ofNat (nat_lit 0))), (nat_lit 0, (.ofNat (nat_lit 4)))]), (nat_lit 6, nat_lit 2, [(nat_lit 7, (.ofNat (nat_lit 0))), (nat_lit 0, (.ofNat (nat_lit 8)))]), (nat_lit 0, nat_lit 1, [(nat_lit 0, (.ofNat (nat_lit 4))), (nat_lit 0, (.ofNat (nat_lit 1)))]), (nat_lit 5, nat_lit 0, [(nat_lit 4, (.ofNat (nat_lit 0))), (nat_lit 0, (.ofNat (nat_lit 4))), (nat_lit 0, (.ofNat (nat_lit 3)))]), (nat_lit 6, nat_lit 0, [(nat_lit 0, (.ofNat (nat_lit 4))), (nat_lit 0, (.ofNat (nat_lit 4)))]), (nat_lit 6, nat_lit 2, [(nat_lit 0, (.ofNat (nat_lit 4))), (nat_lit 0, (.ofNat (nat_lit 8)))]), (nat_lit 6, nat_lit 3, [(nat_lit 6, (.ofNat (nat_lit 0))), (nat_lit 0, (.ofNat (nat_lit 3)))]), (nat_lit 0, nat_lit 1, [(nat_lit 4, (.ofNat (nat_lit 0))), (nat_lit 0, (.ofNat (nat_lit 1)))]), (nat_lit 5, nat_lit 1, [(nat_lit 16, (.ofNat (nat_lit 0))), (nat_lit 5, (.ofNat (nat_lit 0))), (nat_lit 0, (.ofNat (nat_lit 0)))]), (nat_lit 0, nat_lit 1, [(nat_lit 0, (.ofNat (nat_lit 3))), (nat_lit 4, (.ofNat (nat_lit 0)))]), (nat_lit 5, nat_lit 1, [(nat_lit 3, (.ofNat (nat_lit 0))), (nat_lit 4, (.ofNat (nat_lit 0))), (nat_lit 0, (.ofNat (nat_lit 0)))]), (nat_lit 6, nat_lit 2, [(nat_lit 4, (.ofNat (nat_lit 0))), (nat_lit 0, (.ofNat (nat_lit 3)))]), (nat_lit 0, nat_lit 1, [(nat_lit 2, (.ofNat (nat_lit 0))), (nat_lit 0, (.ofNat (nat_lit 1)))]), (nat_lit 5, nat_lit 1, [(nat_lit 16, (.ofNat (nat_lit 0))), (nat_lit 3, (.ofNat (nat_lit 0))), (nat_lit 0, (.ofNat (nat_lit 0)))]), (nat_lit 0, nat_lit 1, [(nat_lit 0, (.ofNat (nat_lit 3))), (nat_lit 2, (.ofNat (nat_lit 0)))]), (nat_lit 5, nat_lit 1, [(nat_lit 3, (.ofNat (nat_lit 0))), (nat_lit 2, (.ofNat (nat_lit 0))), (nat_lit 0, (.ofNat (nat_lit 0)))]), (nat_lit 6, nat_lit 2, [(nat_lit 2, (.ofNat (nat_lit 0))), (nat_lit 0, (.ofNat (nat_lit 3)))]), (nat_lit 0, nat_lit 1, [(nat_lit 0, (.ofNat (nat_lit 0))), (nat_lit 0, (.ofNat (nat_lit 1)))]), (nat_lit 5, nat_lit 1, [(nat_lit 16, (.ofNat (nat_lit 0))), (nat_lit 1, (.ofNat (nat_lit 0))), (nat_lit 0, (.ofNat (nat_lit 0)))]), (nat_lit 0, nat_lit 1, [(nat_lit 0, (.ofNat (nat_lit 3))), (nat_lit 0, (.ofNat (nat_lit 0)))]), (nat_lit 5, nat_lit 1, [(nat_lit 3, (.ofNat (nat_lit 0))), (nat_lit 0, (.ofNat (nat_lit 0))), (nat_lit 0, (.ofNat (nat_lit 0)))]), (nat_lit 6, nat_lit 2, [(nat_lit 0, (.ofNat (nat_lit 0))), (nat_lit 0, (.ofNat (nat_lit 3)))]), (nat_lit 5, nat_lit 0, [(nat_lit 0, (.ofNat (nat_lit 0))), (nat_lit 0, (.ofNat (nat_lit 44))), (nat_lit 0, (.ofNat (nat_lit 0)))]), (nat_lit 5, nat_lit 0, [(nat_lit 0, (.ofNat (nat_lit 0))), (nat_lit 0, (.ofNat (nat_lit 19))), (nat_lit 0, (.ofNat (nat_lit 0)))]), (nat_lit 5, nat_lit 0, [(nat_lit 0, (.ofNat (nat_lit 0))), (nat_lit 0, (.ofNat (nat_lit 18))), (nat_lit 0, (.ofNat (nat_lit 0)))]), (nat_lit 5, nat_lit 0, [(nat_lit 0, (.ofNat (nat_lit 0))), (nat_lit 0, (.ofNat (nat_lit 17))), (nat_lit 0, (.ofNat (nat_lit 0)))]), (nat_lit 5, nat_lit 0, [(nat_lit 0, (.ofNat (nat_lit 0))), (nat_lit 0, (.ofNat (nat_lit 16))), (nat_lit 0, (.ofNat (nat_lit 0)))])],
  [(nat_lit 7, nat_lit 3, []), (nat_lit 6, nat_lit 0, [(nat_lit 9, (.ofNat (nat_lit 0))), (nat_lit 0, (.ofNat (nat_lit 4)))]), (nat_lit 6, nat_lit 2, [(nat_lit 9, (.ofNat (nat_lit 0))), (nat_lit 0, (.ofNat (nat_lit 8)))]), (nat_lit 0, nat_lit 1, [(nat_lit 8, (.ofNat (nat_lit 0))), (nat_lit 0, (.ofNat (nat_lit 1)))]), (nat_lit 5, nat_lit 0, [(nat_lit 4, (.ofNat (nat_lit 0))), (nat_lit 8, (.ofNat (nat_lit 0))), (nat_lit 0, (.ofNat (nat_lit 0)))]), (nat_lit 6, nat_lit 1, [(nat_lit 8, (.ofNat (nat_lit 0))), (nat_lit 0, (.ofNat (nat_lit 4)))]), (nat_lit 6, nat_lit 2, [(nat_lit 8, (.ofNat (nat_lit 0))), (nat_lit 0, (.ofNat (nat_lit 8)))]), (nat_lit 0, nat_lit 1, [(nat_lit 7, (.ofNat (nat_lit 0))), (nat_lit 0, (.ofNat (nat_lit 1)))]), (nat_lit 5, nat_lit 0, [(nat_lit 4, (.ofNat (nat_lit 0))), (nat_lit 7, (.ofNat (nat_lit 0))), (nat_lit 0, (.ofNat (nat_lit 0)))]), (nat_lit 6, nat_lit 1, [(nat_lit 7, (.ofNat (nat_lit 0))), (nat_lit 0, (.ofNat (nat_lit 4)))]), (nat_lit 6, nat_lit 2, [(nat_lit 7, (.ofNat (nat_lit 0))), (nat_lit 0, (.ofNat (nat_lit 8)))]), (nat_lit 0, nat_lit 1, [(nat_lit 0, (.ofNat (nat_lit 4))), (nat_lit 0, (.ofNat (nat_lit 1)))]), (nat_lit 5, nat_lit 0, [(nat_lit 4, (.ofNat (nat_lit 0))), (nat_lit 0, (.ofNat (nat_lit 4))), (nat_lit 0, (.ofNat (nat_lit 3)))]), (nat_lit 6, nat_lit 0, [(nat_lit 0, (.ofNat (nat_lit 4))), (nat_lit 0, (.ofNat (nat_lit 4)))]), (nat_lit 6, nat_lit 2, [(nat_lit 0, (.ofNat (nat_lit 4))), (nat_lit 0, (.ofNat (nat_lit 8)))]), (nat_lit 6, nat_lit 3, [(nat_lit 6, (.ofNat (nat_lit 0))), (nat_lit 0, (.ofNat (nat_lit 3)))]), (nat_lit 0, nat_lit 1, [(nat_lit 4, (.ofNat (nat_lit 0))), (nat_lit 0, (.ofNat (nat_lit 1)))]), (nat_lit 5, nat_lit 1, [(nat_lit 16, (.ofNat (nat_lit 0))), (nat_lit 5, (.ofNat (nat_lit 0))), (nat_lit 0, (.ofNat (nat_lit 0)))]), (nat_lit 0, nat_lit 1, [(nat_lit 0, (.ofNat (nat_lit 3))), (nat_lit 4, (.ofNat (nat_lit 0)))]), (nat_lit 5, nat_lit 1, [(nat_lit 3, (.ofNat (nat_lit 0))), (nat_lit 4, (.ofNat (nat_lit 0))), (nat_lit 0, (.ofNat (nat_lit 0)))]), (nat_lit 6, nat_lit 2, [(nat_lit 4, (.ofNat (nat_lit 0))), (nat_lit 0, (.ofNat (nat_lit 3)))]), (nat_lit 0, nat_lit 1, [(nat_lit 2, (.ofNat (nat_lit 0))), (nat_lit 0, (.ofNat (nat_lit 1)))]), (nat_lit 5, nat_lit 1, [(nat_lit 16, (.ofNat (nat_lit 0))), (nat_lit 3, (.ofNat (nat_lit 0))), (nat_lit 0, (.ofNat (nat_lit 0)))]), (nat_lit 0, nat_lit 1, [(nat_lit 0, (.ofNat (nat_lit 3))), (nat_lit 2, (.ofNat (nat_lit 0)))]), (nat_lit 5, nat_lit 1, [(nat_lit 3, (.ofNat (nat_lit 0))), (nat_lit 2, (.ofNat (nat_lit 0))), (nat_lit 0, (.ofNat (nat_lit 0)))]), (nat_lit 6, nat_lit 2, [(nat_lit 2, (.ofNat (nat_lit 0))), (nat_lit 0, (.ofNat (nat_lit 3)))]), (nat_lit 0, nat_lit 1, [(nat_lit 0, (.ofNat (nat_lit 0))), (nat_lit 0, (.ofNat (nat_lit 1)))]), (nat_lit 5, nat_lit 1, [(nat_lit 16, (.ofNat (nat_lit 0))), (nat_lit 1, (.ofNat (nat_lit 0))), (nat_lit 0, (.ofNat (nat_lit 0)))]), (nat_lit 0, nat_lit 1, [(nat_lit 0, (.ofNat (nat_lit 3))), (nat_lit 0, (.ofNat (nat_lit 0)))]), (nat_lit 5, nat_lit 1, [(nat_lit 3, (.ofNat (nat_lit 0))), (nat_lit 0, (.ofNat (nat_lit 0))), (nat_lit 0, (.ofNat (nat_lit 0)))]), (nat_lit 6, nat_lit 2, [(nat_lit 0, (.ofNat (nat_lit 0))), (nat_lit 0, (.ofNat (nat_lit 3)))]), (nat_lit 5, nat_lit 0, [(nat_lit 0, (.ofNat (nat_lit 0))), (nat_lit 0, (.ofNat (nat_lit 44))), (nat_lit 0, (.ofNat (nat_lit 0)))]), (nat_lit 5, nat_lit 0, [(nat_lit 0, (.ofNat (nat_lit 0))), (nat_lit 0, (.ofNat (nat_lit 19))), (nat_lit 0, (.ofNat (nat_lit 0)))]), (nat_lit 5, nat_lit 0, [(nat_lit 0, (.ofNat (nat_lit 0))), (nat_lit 0, (.ofNat (nat_lit 18))), (nat_lit 0, (.ofNat (nat_lit 0)))]), (nat_lit 5, nat_lit 0, [(nat_lit 0, (.ofNat (nat_lit 0))), (nat_lit 0, (.ofNat (nat_lit 17))), (nat_lit 0, (.ofNat (nat_lit 0)))]), (nat_lit 5, nat_lit 0, [(nat_lit 0, (.ofNat (nat_lit 0))), (nat_lit 0, (.ofNat (nat_lit 16))), (nat_lit 0, (.ofNat (nat_lit 0)))])],
  [(nat_lit 7, nat_lit 3, []), (nat_lit 6, nat_lit 0, [(nat_lit 8, (.ofNat (nat_lit 0))), (nat_lit 0, (.ofNat (nat_lit 4)))]), (nat_lit 6, nat_lit 2, [(nat_lit 8, (.ofNat (nat_lit 0))), (nat_lit 0, (.ofNat (nat_lit 8)))]), (nat_lit 0, nat_lit 1, [(nat_lit 7, (.ofNat (nat_lit 0))), (nat_lit 0, (.ofNat (nat_lit 1)))]), (nat_lit 5, nat_lit 0, [(nat_lit 4, (.ofNat (nat_lit 0))), (nat_lit 7, (.ofNat (nat_lit 0))), (nat_lit 0, (.ofNat (nat_lit 0)))]), (nat_lit 6, nat_lit 1, [(nat_lit 7, (.ofNat (nat_lit 0))), (nat_lit 0, (.ofNat (nat_lit 4)))]), (nat_lit 6, nat_lit 2, [(nat_lit 7, (.ofNat (nat_lit 0))), (nat_lit 0, (.ofNat (nat_lit 8)))]), (nat_lit 0, nat_lit 1, [(nat_lit 0, (.ofNat (nat_lit 4))), (nat_lit 0, (.ofNat (nat_lit 1)))]), (nat_lit 5, nat_lit 0, [(nat_lit 4, (.ofNat (nat_lit 0))), (nat_lit 0, (.ofNat (nat_lit 4))), (nat_lit 0, (.ofNat (nat_lit 3)))]), (nat_lit 6, nat_lit 0, [(nat_lit 0, (.ofNat (nat_lit 4))), (nat_lit 0, (.ofNat (nat_lit 4)))]), (nat_lit 6, nat_lit 2, [(nat_lit 0, (.ofNat (nat_lit 4))), (nat_lit 0, (.ofNat (nat_lit 8)))]), (nat_lit 6, nat_lit 3, [(nat_lit 6, (.ofNat (nat_lit 0))), (nat_lit 0, (.ofNat (nat_lit 3)))]), (nat_lit 0, nat_lit 1, [(nat_lit 4, (.ofNat (nat_lit 0))), (nat_lit 0, (.ofNat (nat_lit 1)))]), (nat_lit 5, nat_lit 1, [(nat_lit 16, (.ofNat (nat_lit 0))), (nat_lit 5, (.ofNat (nat_lit 0))), (nat_lit 0, (.ofNat (nat_lit 0)))]), (nat_lit 0, nat_lit 1, [(nat_lit 0, (.ofNat (nat_lit 3))), (nat_lit 4, (.ofNat (nat_lit 0)))]), (nat_lit 5, nat_lit 1, [(nat_lit 3, (.ofNat (nat_lit 0))), (nat_lit 4, (.ofNat (nat_lit 0))), (nat_lit 0, (.ofNat (nat_lit 0)))]), (nat_lit 6, nat_lit 2, [(nat_lit 4, (.ofNat (nat_lit 0))), (nat_lit 0, (.ofNat (nat_lit 3)))]), (nat_lit 0, nat_lit 1, [(nat_lit 2, (.ofNat (nat_lit 0))), (nat_lit 0, (.ofNat (nat_lit 1)))]), (nat_lit 5, nat_lit 1, [(nat_lit 16, (.ofNat (nat_lit 0))), (nat_lit 3, (.ofNat (nat_lit 0))), (nat_lit 0, (.ofNat (nat_lit 0)))]), (nat_lit 0, nat_lit 1, [(nat_lit 0, (.ofNat (nat_lit 3))), (nat_lit 2, (.ofNat (nat_lit 0)))]), (nat_lit 5, nat_lit 1, [(nat_lit 3, (.ofNat (nat_lit 0))), (nat_lit 2, (.ofNat (nat_lit 0))), (nat_lit 0, (.ofNat (nat_lit 0)))]), (nat_lit 6, nat_lit 2, [(nat_lit 2, (.ofNat (nat_lit 0))), (nat_lit 0, (.ofNat (nat_lit 3)))]), (nat_lit 0, nat_lit 1, [(nat_lit 0, (.ofNat (nat_lit 0))), (nat_lit 0, (.ofNat (nat_lit 1)))]), (nat_lit 5, nat_lit 1, [(nat_lit 16, (.ofNat (nat_lit 0))), (nat_lit 1, (.ofNat (nat_lit 0))), (nat_lit 0, (.ofNat (nat_lit 0)))]), (nat_lit 0, nat_lit 1, [(nat_lit 0, (.ofNat (nat_lit 3))), (nat_lit 0, (.ofNat (nat_lit 0)))]), (nat_lit 5, nat_lit 1, [(nat_lit 3, (.ofNat (nat_lit 0))), (nat_lit 0, (.ofNat (nat_lit 0))), (nat_lit 0, (.ofNat (nat_lit 0)))]), (nat_lit 6, nat_lit 2, [(nat_lit 0, (.ofNat (nat_lit 0))), (nat_lit 0, (.ofNat (nat_lit 3)))]), (nat_lit 5, nat_lit 0, [(nat_lit 0, (.ofNat (nat_lit 0))), (nat_lit 0, (.ofNat (nat_lit 44))), (nat_lit 0, (.ofNat (nat_lit 0)))]), (nat_lit 5, nat_lit 0, [(nat_lit 0, (.ofNat (nat_lit 0))), (nat_lit 0, (.ofNat (nat_lit 19))), (nat_lit 0, (.ofNat (nat_lit 0)))]), (nat_lit 5, nat_lit 0, [(nat_lit 0, (.ofNat (nat_lit 0))), (nat_lit 0, (.ofNat (nat_lit 18))), (nat_lit 0, (.ofNat (nat_lit 0)))]), (nat_lit 5, nat_lit 0, [(nat_lit 0, (.ofNat (nat_lit 0))), (nat_lit 0, (.ofNat (nat_lit 17))), (nat_lit 0, (.ofNat (nat_lit 0)))]), (nat_lit 5, nat_lit 0, [(nat_lit 0, (.ofNat (nat_lit 0))), (nat_lit 0, (.ofNat (nat_lit 16))), (nat_lit 0, (.ofNat (nat_lit 0)))])],
  [(nat_lit 7, nat_lit 3, []), (nat_lit 6, nat_lit 0, [(nat_lit 7, (.ofNat (nat_lit 0))), (nat_lit 0, (.ofNat (nat_lit 4)))]), (nat_lit 6, nat_lit 2, [(nat_lit 7, (.ofNat (nat_lit 0))), (nat_lit 0, (.ofNat (nat_lit 8)))]), (nat_lit 0, nat_lit 1, [(nat_lit 0, (.ofNat (nat_lit 4))), (nat_lit 0, (.ofNat (nat_lit 1)))]), (nat_lit 5, nat_lit 0, [(nat_lit 4, (.ofNat (nat_lit 0))), (nat_lit 0, (.ofNat (nat_lit 4))), (nat_lit 0, (.ofNat (nat_lit 3)))]), (nat_lit 6, nat_lit 0, [(nat_lit 0, (.ofNat (nat_lit 4))), (nat_lit 0, (.ofNat (nat_lit 4)))]), (nat_lit 6, nat_lit 2, [(nat_lit 0, (.ofNat (nat_lit 4))), (nat_lit 0, (.ofNat (nat_lit 8)))]), (nat_lit 6, nat_lit 3, [(nat_lit 6, (.ofNat (nat_lit 0))), (nat_lit 0, (.ofNat (nat_lit 3)))]), (nat_lit 0, nat_lit 1, [(nat_lit 4, (.ofNat (nat_lit 0))), (nat_lit 0, (.ofNat (nat_lit 1)))]), (nat_lit 5, nat_lit 1, [(nat_lit 16, (.ofNat (nat_lit 0))), (nat_lit 5, (.ofNat (nat_lit 0))), (nat_lit 0, (.ofNat (nat_lit 0)))]), (nat_lit 0, nat_lit 1, [(nat_lit 0, (.ofNat (nat_lit 3))), (nat_lit 4, (.ofNat (nat_lit 0)))]), (nat_lit 5, nat_lit 1, [(nat_lit 3, (.ofNat (nat_lit 0))), (nat_lit 4, (.ofNat (nat_lit 0))), (nat_lit 0, (.ofNat (nat_lit 0)))]), (nat_lit 6, nat_lit 2, [(nat_lit 4, (.ofNat (nat_lit 0))), (nat_lit 0, (.ofNat (nat_lit 3)))]), (nat_lit 0, nat_lit 1, [(nat_lit 2, (.ofNat (nat_lit 0))), (nat_lit 0, (.ofNat (nat_lit 1)))]), (nat_lit 5, nat_lit 1, [(nat_lit 16, (.ofNat (nat_lit 0))), (nat_lit 3, (.ofNat (nat_lit 0))), (nat_lit 0, (.ofNat (nat_lit 0)))]), (nat_lit 0, nat_lit 1, [(nat_lit 0, (.ofNat (nat_lit 3))), (nat_lit 2, (.ofNat (nat_lit 0)))]), (nat_lit 5, nat_lit 1, [(nat_lit 3, (.ofNat (nat_lit 0))), (nat_lit 2, (.ofNat (nat_lit 0))), (nat_lit 0, (.ofNat (nat_lit 0)))]), (nat_lit 6, nat_lit 2, [(nat_lit 2, (.ofNat (nat_lit 0))), (nat_lit 0, (.ofNat (nat_lit 3)))]), (nat_lit 0, nat_lit 1, [(nat_lit 0, (.ofNat (nat_lit 0))), (nat_lit 0, (.ofNat (nat_lit 1)))]), (nat_lit 5, nat_lit 1, [(nat_lit 16, (.ofNat (nat_lit 0))), (nat_lit 1, (.ofNat (nat_lit 0))), (nat_lit 0, (.ofNat (nat_lit 0)))]), (nat_lit 0, nat_lit 1, [(nat_lit 0, (.ofNat (nat_lit 3))), (nat_lit 0, (.ofNat (nat_lit 0)))]), (nat_lit 5, nat_lit 1, [(nat_lit 3, (.ofNat (nat_lit 0))), (nat_lit 0, (.ofNat (nat_lit 0))), (nat_lit 0, (.ofNat (nat_lit 0)))]), (nat_lit 6, nat_lit 2, [(nat_lit 0, (.ofNat (nat_lit 0))), (nat_lit 0, (.ofNat (nat_lit 3)))]), (nat_lit 5, nat_lit 0, [(nat_lit 0, (.ofNat (nat_lit 0))), (nat_lit 0, (.ofNat (nat_lit 44))), (nat_lit 0, (.ofNat (nat_lit 0)))]), (nat_lit 5, nat_lit 0, [(nat_lit 0, (.ofNat (nat_lit 0))), (nat_lit 0, (.ofNat (nat_lit 19))), (nat_lit 0, (.ofNat (nat_lit 0)))]), (nat_lit 5, nat_lit 0, [(nat_lit 0, (.ofNat (nat_lit 0))), (nat_lit 0, (.ofNat (nat_lit 18))), (nat_lit 0, (.ofNat (nat_lit 0)))]), (nat_lit 5, nat_lit 0, [(nat_lit 0, (.ofNat (nat_lit 0))), (nat_lit 0, (.ofNat (nat_lit 17))), (nat_lit 0, (.ofNat (nat_lit 0)))]), (nat_lit 5, nat_lit 0, [(nat_lit 0, (.ofNat (nat_lit 0))), (nat_lit 0, (.ofNat (nat_lit 16))), (nat_lit 0, (.ofNat (nat_lit 0)))])],
  [(nat_lit 7, nat_lit 3, []), (nat_lit 6, nat_lit 2, [(nat_lit 6, (.ofNat (nat_lit 0))), (nat_lit 0, (.ofNat (nat_lit 3)))]), (nat_lit 0, nat_lit 1, [(nat_lit 4, (.ofNat (nat_lit 0))), (nat_lit 0, (.ofNat (nat_lit 1)))]), (nat_lit 5, nat_lit 1, [(nat_lit 16, (.ofNat (nat_lit 0))), (nat_lit 5, (.ofNat (nat_lit 0))), (nat_lit 0, (.ofNat (nat_lit 0)))]), (nat_lit 0, nat_lit 1, [(nat_lit 0, (.ofNat (nat_lit 3))), (nat_lit 4, (.ofNat (nat_lit 0)))]), (nat_lit 5, nat_lit 1, [(nat_lit 3, (.ofNat (nat_lit 0))), (nat_lit 4, (.ofNat (nat_lit 0))), (nat_lit 0, (.ofNat (nat_lit 0)))]), (nat_lit 6, nat_lit 2, [(nat_lit 4, (.ofNat (nat_lit 0))), (nat_lit 0, (.ofNat (nat_lit 3)))]), (nat_lit 0, nat_lit 1, [(nat_lit 2, (.ofNat (nat_lit 0))), (nat_lit 0, (.ofNat (nat_lit 1)))]), (nat_lit 5, nat_lit 1, [(nat_lit 16, (.ofNat (nat_lit 0))), (nat_lit 3, (.ofNat (nat_lit 0))), (nat_lit 0, (.ofNat (nat_lit 0)))]), (nat_lit 0, nat_lit 1, [(nat_lit 0, (.ofNat (nat_lit 3))), (nat_lit 2, (.ofNat (nat_lit 0)))]), (nat_lit 5, nat_lit 1, [(nat_lit 3, (.ofNat (nat_lit 0))), (nat_lit 2, (.ofNat (nat_lit 0))), (nat_lit 0, (.ofNat (nat_lit 0)))]), (nat_lit 6, nat_lit 2, [(nat_lit 2, (.ofNat (nat_lit 0))), (nat_lit 0, (.ofNat (nat_lit 3)))]), (nat_lit 0, nat_lit 1, [(nat_lit 0, (.ofNat (nat_lit 0))), (nat_lit 0, (.ofNat (nat_lit 1)))]), (nat_lit 5, nat_lit 1, [(nat_lit 16, (.ofNat (nat_lit 0))), (nat_lit 1, (.ofNat (nat_lit 0))), (nat_lit 0, (.ofNat (nat_lit 0)))]), (nat_lit 0, nat_lit 1, [(nat_lit 0, (.ofNat (nat_lit 3))), (nat_lit 0, (.ofNat (nat_lit 0)))]), (nat_lit 5, nat_lit 1, [(nat_lit 3, (.ofNat (nat_lit 0))), (nat_lit 0, (.ofNat (nat_lit 0))), (nat_lit 0, (.ofNat (nat_lit 0)))]), (nat_lit 6, nat_lit 2, [(nat_lit 0, (.ofNat (nat_lit 0))), (nat_lit 0, (.ofNat (nat_lit 3)))]), (nat_lit 5, nat_lit 0, [(nat_lit 0, (.ofNat (nat_lit 0))), (nat_lit 0, (.ofNat (nat_lit 44))), (nat_lit 0, (.ofNat (nat_lit 0)))]), (nat_lit 5, nat_lit 0, [(nat_lit 0, (.ofNat (nat_lit 0))), (nat_lit 0, (.ofNat (nat_lit 19))), (nat_lit 0, (.ofNat (nat_lit 0)))]), (nat_lit 5, nat_lit 0, [(nat_lit 0, (.ofNat (nat_lit 0))), (nat_lit 0, (.ofNat (nat_lit 18))), (nat_lit 0, (.ofNat (nat_lit 0)))]), (nat_lit 5, nat_lit 0, [(nat_lit 0, (.ofNat (nat_lit 0))), (nat_lit 0, (.ofNat (nat_lit 17))), (nat_lit 0, (.ofNat (nat_lit 0)))]), (nat_lit 5, nat_lit 0, [(nat_lit 0, (.ofNat (nat_lit 0))), (nat_lit 0, (.ofNat (nat_lit 16))), (nat_lit 0, (.ofNat (nat_lit 0)))])]]
def zEne_plain : List (List zK) := [[(nat_lit 11, nat_lit 0, [(nat_lit 0, (.ofNat (nat_lit 0)))]), (nat_lit 6, nat_lit 3, [(nat_lit 10, (.ofNat (nat_lit 0))), (nat_lit 0, (.ofNat (nat_lit 8)))]), (nat_lit 0, nat_lit 1, [(nat_lit 9, (.ofNat (nat_lit 0))), (nat_lit 0, (.ofNat (nat_lit 1)))]), (nat_lit 5, nat_lit 0, [(nat_lit 4, (.ofNat (nat_lit 0))), (nat_lit 9, (.ofNat (nat_lit 0))), (nat_lit 0, (.ofNat (nat_lit 0)))]), (nat_lit 6, nat_lit 1, [(nat_lit 9, (.ofNat (nat_lit 0))), (nat_lit 0, (.ofNat (nat_lit 4)))]), (nat_lit 6, nat_lit 2, [(nat_lit 9, (.ofNat (nat_lit 0))), (nat_lit 0, (.ofNat (nat_lit 8)))]), (nat_lit 0, nat_lit 1, [(nat_lit 8, (.ofNat (nat_lit 0))), (nat_lit 0, (.ofNat (nat_lit 1)))]), (nat_lit 5, nat_lit 0, [(nat_lit 4, (.ofNat (nat_lit 0))), (nat_lit 8, (.ofNat (nat_lit 0))), (nat_lit 0, (.ofNat (nat_lit 0)))]), (nat_lit 6, nat_lit 1, [(nat_lit 8, (.ofNat (nat_lit 0))), (nat_lit 0, (.ofNat (nat_lit 4)))]), (nat_lit 6, nat_lit 2, [(nat_lit 8, (.ofNat (nat_lit 0))), (nat_lit 0, (.ofNat (nat_lit 8)))]), (nat_lit 0, nat_lit 1, [(nat_lit 7, (.ofNat (nat_lit 0))), (nat_lit 0, (.ofNat (nat_lit 1)))]), (nat_lit 5, nat_lit 0, [(nat_lit 4, (.ofNat (nat_lit 0))), (nat_lit 7, (.ofNat (nat_lit 0))), (nat_lit 0, (.ofNat (nat_lit 0)))]), (nat_lit 6, nat_lit 1, [(nat_lit 7, (.ofNat (nat_lit 0))), (nat_lit 0, (.ofNat (nat_lit 4)))]), (nat_lit 6, nat_lit 2, [(nat_lit 7, (.ofNat (nat_lit 0))), (nat_lit 0, (.ofNat (nat_lit 8)))]), (nat_lit 0, nat_lit 1, [(nat_lit 0, (.ofNat (nat_lit 4))), (nat_lit 0, (.ofNat (nat_lit 1)))]), (nat_lit 5, nat_lit 0, [(nat_lit 4, (.ofNat (nat_lit 0))), (nat_lit 0, (.ofNat (nat_lit 4))), (nat_lit 0, (.ofNat (nat_lit 3)))]), (nat_lit 6, nat_lit 0, [(nat_lit 0, (.ofNat (nat_lit 4))), (nat_lit 0, (.ofNat (nat_lit 4)))]), (nat_lit 6, nat_lit 2, [(nat_lit 0, (.ofNat (nat_lit 4))), (nat_lit 0, (.ofNat (nat_lit 8)))]), (nat_lit 6, nat_lit 3, [(nat_lit 6, (.ofNat (nat_lit 0))), (nat_lit 0, (.ofNat (nat_lit 3)))]), (nat_lit 0, nat_lit 1, [(nat_lit 4, (.ofNat (nat_lit 0))), (nat_lit 0, (.ofNat (nat_lit 1)))]), (nat_lit 5, nat_lit 1, [(nat_lit 16, (.ofNat (nat_lit 0))), (nat_lit 5, (.ofNat (nat_lit 0))), (nat_lit 0, (.ofNat (nat_lit 0)))]), (nat_lit 0, nat_lit 1, [(nat_lit 0, (.ofNat (nat_lit 3))), (nat_lit 4, (.ofNat (nat_lit 0)))]), (nat_lit 5, nat_lit 1, [(nat_lit 3, (.ofNat (nat_lit 0))), (nat_lit 4, (.ofNat (nat_lit 0))), (nat_lit 0, (.ofNat (nat_lit 0)))]), (nat_lit 6, nat_lit 2, [(nat_lit 4, (.ofNat (nat_lit 0))), (nat_lit 0, (.ofNat (nat_lit 3)))]), (nat_lit 0, nat_lit 1, [(nat_lit 2, (.ofNat (nat_lit 0))), (nat_lit 0, (.ofNat (nat_lit 1)))]), (nat_lit 5, nat_lit 1, [(nat_lit 16, (.ofNat (nat_lit 0))), (nat_lit 3, (.ofNat (nat_lit 0))), (nat_lit 0, (.ofNat (nat_lit 0)))]), (nat_lit 0, nat_lit 1, [(nat_lit 0, (.ofNat (nat_lit 3))), (nat_lit 2, (.ofNat (nat_lit 0)))]), (nat_lit 5, nat_lit 1, [(nat_lit 3, (.ofNat (nat_lit 0))), (nat_lit 2, (.ofNat (nat_lit 0))), (nat_lit 0, (.ofNat (nat_lit 0)))]), (nat_lit 6, nat_lit 2, [(nat_lit 2, (.ofNat (nat_lit 0))), (nat_lit 0, (.ofNat (nat_lit 3)))]), (nat_lit 0, nat_lit 1, [(nat_lit 0, (.ofNat (nat_lit 0))), (nat_lit 0, (.ofNat (nat_lit 1)))]), (nat_lit 5, nat_lit 1, [(nat_lit 16, (.ofNat (nat_lit 0))), (nat_lit 1, (.ofNat (nat_lit 0))), (nat_lit 0, (.ofNat (nat_lit 0)))]), (nat_lit 0, nat_lit 1, [(nat_lit 0, (.ofNat (nat_lit 3))), (nat_lit 0, (.ofNat (nat_lit 0)))]), (nat_lit 5, nat_lit 1, [(nat_lit 3, (.ofNat (nat_lit 0))), (nat_lit 0, (.ofNat (nat_lit 0))), (nat_lit 0, (.ofNat (nat_lit 0)))]), (nat_lit 6, nat_lit 2, [(nat_lit 0, (.ofNat (nat_lit 0))), (nat_lit 0, (.ofNat (nat_lit 3)))]), (nat_lit 5, nat_lit 0, [(nat_lit 0, (.ofNat (nat_lit 0))), (nat_lit 0, (.ofNat (nat_lit 44))), (nat_lit 0, (.ofNat (nat_lit 0)))]), (nat_lit 5, nat_lit 0, [(nat_lit 0, (.ofNat (nat_lit 0))), (nat_lit 0, (.ofNat (nat_lit 19))), (nat_lit 0, (.ofNat (nat_lit 0)))]), (nat_lit 5, nat_lit 0, [(nat_lit 0, (.ofNat (nat_lit 0))), (nat_lit 0, (.ofNat (nat_lit 18))), (nat_lit 0, (.ofNat (nat_lit 0)))]), (nat_lit 5, nat_lit 0, [(nat_lit 0, (.ofNat (nat_lit 0))), (nat_lit 0, (.ofNat (nat_lit 17))), (nat_lit 0, (.ofNat (nat_lit 0)))]), (nat_lit 5, nat_lit 0, [(nat_lit 0, (.ofNat (nat_lit 0))), (nat_lit 0, (.ofNat (nat_lit 16))), (nat_lit 0, (.ofNat (nat_lit 0)))])]]
def zFne_plain : List (List zK) := []
set_option maxHeartbeats 8000000 in
theorem zne_plain_o0 {ro : Nat → List Int32} (η : zE) (hp : sP wl_ne zTr zPne_plain [] η) (hpp : pPne_plain [] η) : ∀ η1 : zE, η1 = zup η 0 (Int.toNat 16) 0 → ∀ η2 : zE, η2 = zup η1 0 (Int.toNat 17) 0 → ∀ η3 : zE, η3 = zup η2 0 (Int.toNat 18) 0 → ∀ η4 : zE, η4 = zup η3 0 (Int.toNat 19) 0 → ∀ η5 : zE, η5 = zup η4 0 (Int.toNat 44) 0 → ((0 : Int) < (3 : Int)) → ∀ η6 : zE, η6 = zup η5 3 (Int.toNat 0) 0 → ∀ x1 : Int, x1 = zd 0 1 3 0 → ∀ η7 : zE, η7 = zup η6 16 (Int.toNat x1) 0 → ∀ x2 : Int, x2 = zd 0 1 0 1 → (x2 < 3) → ∀ η8 : zE, η8 = zup η7 3 (Int.toNat x2) 0 → ∀ x3 : Int, x3 = zd 0 1 3 x2 → ∀ η9 : zE, η9 = zup η8 16 (Int.toNat x3) 0 → ∀ x4 : Int, x4 = zd 0 1 x2 1 → (x4 < 3) → ∀ η10 : zE, η10 = zup η9 3 (Int.toNat x4) 0 → ∀ x5 : Int, x5 = zd 0 1 3 x4 → ∀ η11 : zE, η11 = zup η10 16 (Int.toNat x5) 0 → ∀ x6 : Int, x6 = zd 0 1 x4 1 → (3 ≤ x6) → ((4 : Int) < (8 : Int)) → ((4 : Int) = (4 : Int)) → ∀ η12 : zE, η12 = zup η11 4 (Int.toNat 4) 3 → ∀ x7 : Int, x7 = zd 0 1 4 1 → (x7 < 8) → (¬ x7 = 4) → ∀ η13 : zE, η13 = zup η12 4 (Int.toNat x7) 0 → ∀ x8 : Int, x8 = zd 0 1 x7 1 → (x8 < 8) → (¬ x8 = 4) → ∀ η14 : zE, η14 = zup η13 4 (Int.toNat x8) 0 → ∀ x9 : Int, x9 = zd 0 1 x8 1 → (x9 < 8) → (¬ x9 = 4) → ∀ η15 : zE, η15 = zup η14 4 (Int.toNat x9) 0 → ∀ x10 : Int, x10 = zd 0 1 x9 1 → (8 ≤ x10) → (fun (_ : Nat) (y : Int) (η' : zE) => pQne_plain [] η y η') 0 0 η15 := by
  intro η1 eη1 η2 eη2 η3 eη3 η4 eη4 η5 eη5 c1 η6 eη6 x1 e1 η7 eη7 x2 e2 c2 η8 eη8 x3 e3 η9 eη9 x4 e4 c3 η10 eη10 x5 e5 η11 eη11 x6 e6 c4 c5 c6 η12 eη12 x7 e7 c7 c8 η13 eη13 x8 e8 c9 c10 η14 eη14 x9 e9 c11 c12 η15 eη15 x10 e10 c13
  refine yj_a ?_ ?_
  · replace e1 := zEq_i e1
    replace e2 := zEq_i e2
    replace e3 := zEq_i e3
    replace e4 := zEq_i e4
    replace e5 := zEq_i e5
    replace e6 := zEq_i e6
    replace e7 := zEq_i e7
    replace e8 := zEq_i e8
    replace e9 := zEq_i e9
    replace e10 := zEq_i e10
    have w0_0_19 : (0 : Int) ≤ η 0 19 ∧ η 0 19 ≤ 64 := wf_ok (a := 19) (b := 19) (z := (0, 64)) hp.1 (by decide +kernel) (Nat.le_refl _) (Nat.le_refl _)
    have v1 : zEq (η1 0 19) (η 0 19) := by rw [eη1]; exact (zup_ne (fun _ e => absurd e (by decide))).trans rfl
    have v2 : zEq (η2 0 19) (η 0 19) := by rw [eη2]; exact (zup_ne (fun _ e => absurd e (by decide))).trans v1
    have v3 : zEq (η3 0 19) (η 0 19) := by rw [eη3]; exact (zup_ne (fun _ e => absurd e (by decide))).trans v2
    have c3_0_19 : η3 0 19 = η 0 19 := v3
    have w0_0_44 : (0 : Int) ≤ η 0 44 ∧ η 0 44 ≤ 64 := wf_ok (a := 44) (b := 44) (z := (0, 64)) hp.1 (by decide +kernel) (Nat.le_refl _) (Nat.le_refl _)
    have v5 : zEq (η1 0 44) (η 0 44) := by rw [eη1]; exact (zup_ne (fun _ e => absurd e (by decide))).trans rfl
    have v6 : zEq (η2 0 44) (η 0 44) := by rw [eη2]; exact (zup_ne (fun _ e => absurd e (by decide))).trans v5
    have v7 : zEq (η3 0 44) (η 0 44) := by rw [eη3]; exact (zup_ne (fun _ e => absurd e (by decide))).trans v6
    have v8 : zEq (η4 0 44) (η 0 44) := by rw [eη4]; exact (zup_ne (fun _ e => absurd e (by decide))).trans v7
    have c4_0_44 : η4 0 44 = η 0 44 := v8
    first
    | replace e1 : x1 = 3 + 0 := zd_a2 (zEq_o e1) (by clear e1; exact ⟨by omega, by omega⟩)
    | clear e1
    have z1 : x1 = 3 := by omega
    rw [z1] at eη7
    have v10 : zEq (η1 16 3) (η 16 3) := by rw [eη1]; exact (zup_ne (fun e _ => absurd e (by decide))).trans rfl
    have v11 : zEq (η2 16 3) (η 16 3) := by rw [eη2]; exact (zup_ne (fun e _ => absurd e (by decide))).trans v10
    have v12 : zEq (η3 16 3) (η 16 3) := by rw [eη3]; exact (zup_ne (fun e _ => absurd e (by decide))).trans v11
    have v13 : zEq (η4 16 3) (η 16 3) := by rw [eη4]; exact (zup_ne (fun e _ => absurd e (by decide))).trans v12
    have v14 : zEq (η5 16 3) (η 16 3) := by rw [eη5]; exact (zup_ne (fun e _ => absurd e (by decide))).trans v13
    have v15 : zEq (η6 16 3) (η 16 3) := by rw [eη6]; exact (zup_ne (fun e _ => absurd e (by decide))).trans v14
    have c6_16_3 : η6 16 3 = η 16 3 := v15
    first
    | replace e2 : x2 = 0 + 1 := zd_a2 (zEq_o e2) (by clear e2; exact ⟨by omega, by omega⟩)
    | clear e2
    have z2 : x2 = 1 := by omega
    rw [z2] at eη8
    first
    | replace e3 : x3 = 3 + x2 := zd_a2 (zEq_o e3) (by clear e3; exact ⟨by omega, by omega⟩)
    | clear e3
    have z3 : x3 = 4 := by omega
    rw [z3] at eη9
    have v17 : zEq (η1 16 4) (η 16 4) := by rw [eη1]; exact (zup_ne (fun e _ => absurd e (by decide))).trans rfl
    have v18 : zEq (η2 16 4) (η 16 4) := by rw [eη2]; exact (zup_ne (fun e _ => absurd e (by decide))).trans v17
    have v19 : zEq (η3 16 4) (η 16 4) := by rw [eη3]; exact (zup_ne (fun e _ => absurd e (by decide))).trans v18
    have v20 : zEq (η4 16 4) (η 16 4) := by rw [eη4]; exact (zup_ne (fun e _ => absurd e (by decide))).trans v19
    have v21 : zEq (η5 16 4) (η 16 4) := by rw [eη5]; exact (zup_ne (fun e _ => absurd e (by decide))).trans v20
    have v22 : zEq (η6 16 4) (η 16 4) := by rw [eη6]; exact (zup_ne (fun e _ => absurd e (by decide))).trans v21
    have v23 : zEq (η7 16 4) (η 16 4) := by rw [eη7]; exact (zup_ne (fun _ e => absurd e (by decide))).trans v22
    have v24 : zEq (η8 16 4) (η 16 4) := by rw [eη8]; exact (zup_ne (fun e _ => absurd e (by decide))).trans v23
    have c8_16_4 : η8 16 4 = η 16 4 := v24
    first
    | replace e4 : x4 = x2 + 1 := zd_a2 (zEq_o e4) (by clear e4; exact ⟨by omega, by omega⟩)
    | clear e4
    have z4 : x4 = 2 := by omega
    rw [z4] at eη10
    first
    | replace e5 : x5 = 3 + x4 := zd_a2 (zEq_o e5) (by clear e5; exact ⟨by omega, by omega⟩)
    | clear e5
    have z5 : x5 = 5 := by omega
    rw [z5] at eη11
    have v26 : zEq (η1 16 5) (η 16 5) := by rw [eη1]; exact (zup_ne (fun e _ => absurd e (by decide))).trans rfl
    have v27 : zEq (η2 16 5) (η 16 5) := by rw [eη2]; exact (zup_ne (fun e _ => absurd e (by decide))).trans v26
    have v28 : zEq (η3 16 5) (η 16 5) := by rw [eη3]; exact (zup_ne (fun e _ => absurd e (by decide))).trans v27
    have v29 : zEq (η4 16 5) (η 16 5) := by rw [eη4]; exact (zup_ne (fun e _ => absurd e (by decide))).trans v28
    have v30 : zEq (η5 16 5) (η 16 5) := by rw [eη5]; exact (zup_ne (fun e _ => absurd e (by decide))).trans v29
    have v31 : zEq (η6 16 5) (η 16 5) := by rw [eη6]; exact (zup_ne (fun e _ => absurd e (by decide))).trans v30
    have v32 : zEq (η7 16 5) (η 16 5) := by rw [eη7]; exact (zup_ne (fun _ e => absurd e (by decide))).trans v31
    have v33 : zEq (η8 16 5) (η 16 5) := by rw [eη8]; exact (zup_ne (fun e _ => absurd e (by decide))).trans v32
    have v34 : zEq (η9 16 5) (η 16 5) := by rw [eη9]; exact (zup_ne (fun _ e => absurd e (by decide))).trans v33
    have v35 : zEq (η10 16 5) (η 16 5) := by rw [eη10]; exact (zup_ne (fun e _ => absurd e (by decide))).trans v34
    have c10_16_5 : η10 16 5 = η 16 5 := v35
    first
    | replace e6 : x6 = x4 + 1 := zd_a2 (zEq_o e6) (by clear e6; exact ⟨by omega, by omega⟩)
    | clear e6
    have z6 : x6 = 3 := by omega
    first
    | replace e7 : x7 = 4 + 1 := zd_a2 (zEq_o e7) (by clear e7; exact ⟨by omega, by omega⟩)
    | clear e7
    have z7 : x7 = 5 := by omega
    rw [z7] at eη13
    first
    | replace e8 : x8 = x7 + 1 := zd_a2 (zEq_o e8) (by clear e8; exact ⟨by omega, by omega⟩)
    | clear e8
    have z8 : x8 = 6 := by omega
    rw [z8] at eη14
    first
    | replace e9 : x9 = x8 + 1 := zd_a2 (zEq_o e9) (by clear e9; exact ⟨by omega, by omega⟩)
    | clear e9
    have z9 : x9 = 7 := by omega
    rw [z9] at eη15
    first
    | replace e10 : x10 = x9 + 1 := zd_a2 (zEq_o e10) (by clear e10; exact ⟨by omega, by omega⟩)
    | clear e10
    have z10 : x10 = 8 := by omega
    have fm1 : zFm zMne_plain η η1 := by rw [eη1]; exact zFm_up zFm_rf rfl
    have fm2 : zFm zMne_plain η η2 := by rw [eη2]; exact zFm_up fm1 rfl
    have fm3 : zFm zMne_plain η η3 := by rw [eη3]; exact zFm_up fm2 rfl
    have fm4 : zFm zMne_plain η η4 := by rw [eη4]; exact zFm_up fm3 rfl
    have fm5 : zFm zMne_plain η η5 := by rw [eη5]; exact zFm_up fm4 rfl
    have fm6 : zFm zMne_plain η η6 := by rw [eη6]; exact zFm_up fm5 rfl
    have fm7 : zFm zMne_plain η η7 := by rw [eη7]; exact zFm_up fm6 rfl
    have fm8 : zFm zMne_plain η η8 := by rw [eη8]; exact zFm_up fm7 rfl
    have fm9 : zFm zMne_plain η η9 := by rw [eη9]; exact zFm_up fm8 rfl
    have fm10 : zFm zMne_plain η η10 := by rw [eη10]; exact zFm_up fm9 rfl
    have fm11 : zFm zMne_plain η η11 := by rw [eη11]; exact zFm_up fm10 rfl
    have fm12 : zFm zMne_plain η η12 := by rw [eη12]; exact zFm_up fm11 rfl
    have fm13 : zFm zMne_plain η η13 := by rw [eη13]; exact zFm_up fm12 rfl
    have fm14 : zFm zMne_plain η η14 := by rw [eη14]; exact zFm_up fm13 rfl
    have fm15 : zFm zMne_plain η η15 := by rw [eη15]; exact zFm_up fm14 rfl
    have fmE : zFm zMne_plain η η15 := fm15
    have v36 : ∀ j, η1 18 j = η 18 j := fun j => by rw [eη1]; exact zup_ne (fun e _ => absurd e (by decide))
    have v37 : ∀ j, η2 18 j = η 18 j := fun j => by rw [eη2]; exact (zup_ne (fun e _ => absurd e (by decide))).trans (v36 j)
    have v38 : ∀ j, η3 18 j = η 18 j := fun j => by rw [eη3]; exact (zup_ne (fun e _ => absurd e (by decide))).trans (v37 j)
    have v39 : ∀ j, η4 18 j = η 18 j := fun j => by rw [eη4]; exact (zup_ne (fun e _ => absurd e (by decide))).trans (v38 j)
    have v40 : ∀ j, η5 18 j = η 18 j := fun j => by rw [eη5]; exact (zup_ne (fun e _ => absurd e (by decide))).trans (v39 j)
    have v41 : ∀ j, η6 18 j = η 18 j := fun j => by rw [eη6]; exact (zup_ne (fun e _ => absurd e (by decide))).trans (v40 j)
    have v42 : ∀ j, η7 18 j = η 18 j := fun j => by rw [eη7]; exact (zup_ne (fun e _ => absurd e (by decide))).trans (v41 j)
    have v43 : ∀ j, η8 18 j = η 18 j := fun j => by rw [eη8]; exact (zup_ne (fun e _ => absurd e (by decide))).trans (v42 j)
    have v44 : ∀ j, η9 18 j = η 18 j := fun j => by rw [eη9]; exact (zup_ne (fun e _ => absurd e (by decide))).trans (v43 j)
    have v45 : ∀ j, η10 18 j = η 18 j := fun j => by rw [eη10]; exact (zup_ne (fun e _ => absurd e (by decide))).trans (v44 j)
    have v46 : ∀ j, η11 18 j = η 18 j := fun j => by rw [eη11]; exact (zup_ne (fun e _ => absurd e (by decide))).trans (v45 j)
    have v47 : ∀ j, η12 18 j = η 18 j := fun j => by rw [eη12]; exact (zup_ne (fun e _ => absurd e (by decide))).trans (v46 j)
    have v48 : ∀ j, η13 18 j = η 18 j := fun j => by rw [eη13]; exact (zup_ne (fun e _ => absurd e (by decide))).trans (v47 j)
    have v49 : ∀ j, η14 18 j = η 18 j := fun j => by rw [eη14]; exact (zup_ne (fun e _ => absurd e (by decide))).trans (v48 j)
    have v50 : ∀ j, η15 18 j = η 18 j := fun j => by rw [eη15]; exact (zup_ne (fun e _ => absurd e (by decide))).trans (v49 j)
    have fr18 : ∀ j, η15 18 j = η 18 j := v50
    have v51 : zEq (η4 0 19) (0) := by rw [eη4]; exact zup_eq
    have v52 : zEq (η5 0 19) (0) := by rw [eη5]; exact (zup_ne (fun _ e => absurd e (by decide))).trans v51
    have v53 : zEq (η6 0 19) (0) := by rw [eη6]; exact (zup_ne (fun e _ => absurd e (by decide))).trans v52
    have v54 : zEq (η7 0 19) (0) := by rw [eη7]; exact (zup_ne (fun e _ => absurd e (by decide))).trans v53
    have v55 : zEq (η8 0 19) (0) := by rw [eη8]; exact (zup_ne (fun e _ => absurd e (by decide))).trans v54
    have v56 : zEq (η9 0 19) (0) := by rw [eη9]; exact (zup_ne (fun e _ => absurd e (by decide))).trans v55
    have v57 : zEq (η10 0 19) (0) := by rw [eη10]; exact (zup_ne (fun e _ => absurd e (by decide))).trans v56
    have v58 : zEq (η11 0 19) (0) := by rw [eη11]; exact (zup_ne (fun e _ => absurd e (by decide))).trans v57
    have v59 : zEq (η12 0 19) (0) := by rw [eη12]; exact (zup_ne (fun e _ => absurd e (by decide))).trans v58
    have v60 : zEq (η13 0 19) (0) := by rw [eη13]; exact (zup_ne (fun e _ => absurd e (by decide))).trans v59
    have v61 : zEq (η14 0 19) (0) := by rw [eη14]; exact (zup_ne (fun e _ => absurd e (by decide))).trans v60
    have v62 : zEq (η15 0 19) (0) := by rw [eη15]; exact (zup_ne (fun e _ => absurd e (by decide))).trans v61
    have f0_19 : η15 0 19 = 0 := v62
    have v63 : zEq (η5 0 44) (0) := by rw [eη5]; exact zup_eq
    have v64 : zEq (η6 0 44) (0) := by rw [eη6]; exact (zup_ne (fun e _ => absurd e (by decide))).trans v63
    have v65 : zEq (η7 0 44) (0) := by rw [eη7]; exact (zup_ne (fun e _ => absurd e (by decide))).trans v64
    have v66 : zEq (η8 0 44) (0) := by rw [eη8]; exact (zup_ne (fun e _ => absurd e (by decide))).trans v65
    have v67 : zEq (η9 0 44) (0) := by rw [eη9]; exact (zup_ne (fun e _ => absurd e (by decide))).trans v66
    have v68 : zEq (η10 0 44) (0) := by rw [eη10]; exact (zup_ne (fun e _ => absurd e (by decide))).trans v67
    have v69 : zEq (η11 0 44) (0) := by rw [eη11]; exact (zup_ne (fun e _ => absurd e (by decide))).trans v68
    have v70 : zEq (η12 0 44) (0) := by rw [eη12]; exact (zup_ne (fun e _ => absurd e (by decide))).trans v69
    have v71 : zEq (η13 0 44) (0) := by rw [eη13]; exact (zup_ne (fun e _ => absurd e (by decide))).trans v70
    have v72 : zEq (η14 0 44) (0) := by rw [eη14]; exact (zup_ne (fun e _ => absurd e (by decide))).trans v71
    have v73 : zEq (η15 0 44) (0) := by rw [eη15]; exact (zup_ne (fun e _ => absurd e (by decide))).trans v72
    have f0_44 : η15 0 44 = 0 := v73
    have v75 : zEq (η1 16 0) (η 16 0) := by rw [eη1]; exact (zup_ne (fun e _ => absurd e (by decide))).trans rfl
    have v76 : zEq (η2 16 0) (η 16 0) := by rw [eη2]; exact (zup_ne (fun e _ => absurd e (by decide))).trans v75
    have v77 : zEq (η3 16 0) (η 16 0) := by rw [eη3]; exact (zup_ne (fun e _ => absurd e (by decide))).trans v76
    have v78 : zEq (η4 16 0) (η 16 0) := by rw [eη4]; exact (zup_ne (fun e _ => absurd e (by decide))).trans v77
    have v79 : zEq (η5 16 0) (η 16 0) := by rw [eη5]; exact (zup_ne (fun e _ => absurd e (by decide))).trans v78
    have v80 : zEq (η6 16 0) (η 16 0) := by rw [eη6]; exact (zup_ne (fun e _ => absurd e (by decide))).trans v79
    have v81 : zEq (η7 16 0) (η 16 0) := by rw [eη7]; exact (zup_ne (fun _ e => absurd e (by decide))).trans v80
    have v82 : zEq (η8 16 0) (η 16 0) := by rw [eη8]; exact (zup_ne (fun e _ => absurd e (by decide))).trans v81
    have v83 : zEq (η9 16 0) (η 16 0) := by rw [eη9]; exact (zup_ne (fun _ e => absurd e (by decide))).trans v82
    have v84 : zEq (η10 16 0) (η 16 0) := by rw [eη10]; exact (zup_ne (fun e _ => absurd e (by decide))).trans v83
    have v85 : zEq (η11 16 0) (η 16 0) := by rw [eη11]; exact (zup_ne (fun _ e => absurd e (by decide))).trans v84
    have v86 : zEq (η12 16 0) (η 16 0) := by rw [eη12]; exact (zup_ne (fun e _ => absurd e (by decide))).trans v85
    have v87 : zEq (η13 16 0) (η 16 0) := by rw [eη13]; exact (zup_ne (fun e _ => absurd e (by decide))).trans v86
    have v88 : zEq (η14 16 0) (η 16 0) := by rw [eη14]; exact (zup_ne (fun e _ => absurd e (by decide))).trans v87
    have v89 : zEq (η15 16 0) (η 16 0) := by rw [eη15]; exact (zup_ne (fun e _ => absurd e (by decide))).trans v88
    have f16_0 : η15 16 0 = η 16 0 := v89
    have v91 : zEq (η1 16 1) (η 16 1) := by rw [eη1]; exact (zup_ne (fun e _ => absurd e (by decide))).trans rfl
    have v92 : zEq (η2 16 1) (η 16 1) := by rw [eη2]; exact (zup_ne (fun e _ => absurd e (by decide))).trans v91
    have v93 : zEq (η3 16 1) (η 16 1) := by rw [eη3]; exact (zup_ne (fun e _ => absurd e (by decide))).trans v92
    have v94 : zEq (η4 16 1) (η 16 1) := by rw [eη4]; exact (zup_ne (fun e _ => absurd e (by decide))).trans v93
    have v95 : zEq (η5 16 1) (η 16 1) := by rw [eη5]; exact (zup_ne (fun e _ => absurd e (by decide))).trans v94
    have v96 : zEq (η6 16 1) (η 16 1) := by rw [eη6]; exact (zup_ne (fun e _ => absurd e (by decide))).trans v95
    have v97 : zEq (η7 16 1) (η 16 1) := by rw [eη7]; exact (zup_ne (fun _ e => absurd e (by decide))).trans v96
    have v98 : zEq (η8 16 1) (η 16 1) := by rw [eη8]; exact (zup_ne (fun e _ => absurd e (by decide))).trans v97
    have v99 : zEq (η9 16 1) (η 16 1) := by rw [eη9]; exact (zup_ne (fun _ e => absurd e (by decide))).trans v98
    have v100 : zEq (η10 16 1) (η 16 1) := by rw [eη10]; exact (zup_ne (fun e _ => absurd e (by decide))).trans v99
    have v101 : zEq (η11 16 1) (η 16 1) := by rw [eη11]; exact (zup_ne (fun _ e => absurd e (by decide))).trans v100
    have v102 : zEq (η12 16 1) (η 16 1) := by rw [eη12]; exact (zup_ne (fun e _ => absurd e (by decide))).trans v101
    have v103 : zEq (η13 16 1) (η 16 1) := by rw [eη13]; exact (zup_ne (fun e _ => absurd e (by decide))).trans v102
    have v104 : zEq (η14 16 1) (η 16 1) := by rw [eη14]; exact (zup_ne (fun e _ => absurd e (by decide))).trans v103
    have v105 : zEq (η15 16 1) (η 16 1) := by rw [eη15]; exact (zup_ne (fun e _ => absurd e (by decide))).trans v104
    have f16_1 : η15 16 1 = η 16 1 := v105
    have v107 : zEq (η1 16 2) (η 16 2) := by rw [eη1]; exact (zup_ne (fun e _ => absurd e (by decide))).trans rfl
    have v108 : zEq (η2 16 2) (η 16 2) := by rw [eη2]; exact (zup_ne (fun e _ => absurd e (by decide))).trans v107
    have v109 : zEq (η3 16 2) (η 16 2) := by rw [eη3]; exact (zup_ne (fun e _ => absurd e (by decide))).trans v108
    have v110 : zEq (η4 16 2) (η 16 2) := by rw [eη4]; exact (zup_ne (fun e _ => absurd e (by decide))).trans v109
    have v111 : zEq (η5 16 2) (η 16 2) := by rw [eη5]; exact (zup_ne (fun e _ => absurd e (by decide))).trans v110
    have v112 : zEq (η6 16 2) (η 16 2) := by rw [eη6]; exact (zup_ne (fun e _ => absurd e (by decide))).trans v111
    have v113 : zEq (η7 16 2) (η 16 2) := by rw [eη7]; exact (zup_ne (fun _ e => absurd e (by decide))).trans v112
    have v114 : zEq (η8 16 2) (η 16 2) := by rw [eη8]; exact (zup_ne (fun e _ => absurd e (by decide))).trans v113
    have v115 : zEq (η9 16 2) (η 16 2) := by rw [eη9]; exact (zup_ne (fun _ e => absurd e (by decide))).trans v114
    have v116 : zEq (η10 16 2) (η 16 2) := by rw [eη10]; exact (zup_ne (fun e _ => absurd e (by decide))).trans v115
    have v117 : zEq (η11 16 2) (η 16 2) := by rw [eη11]; exact (zup_ne (fun _ e => absurd e (by decide))).trans v116
    have v118 : zEq (η12 16 2) (η 16 2) := by rw [eη12]; exact (zup_ne (fun e _ => absurd e (by decide))).trans v117
    have v119 : zEq (η13 16 2) (η 16 2) := by rw [eη13]; exact (zup_ne (fun e _ => absurd e (by decide))).trans v118
    have v120 : zEq (η14 16 2) (η 16 2) := by rw [eη14]; exact (zup_ne (fun e _ => absurd e (by decide))).trans v119
    have v121 : zEq (η15 16 2) (η 16 2) := by rw [eη15]; exact (zup_ne (fun e _ => absurd e (by decide))).trans v120
    have f16_2 : η15 16 2 = η 16 2 := v121
    have v122 : zEq (η7 16 3) (0) := by rw [eη7]; exact zup_eq
    have v123 : zEq (η8 16 3) (0) := by rw [eη8]; exact (zup_ne (fun e _ => absurd e (by decide))).trans v122
    have v124 : zEq (η9 16 3) (0) := by rw [eη9]; exact (zup_ne (fun _ e => absurd e (by decide))).trans v123
    have v125 : zEq (η10 16 3) (0) := by rw [eη10]; exact (zup_ne (fun e _ => absurd e (by decide))).trans v124
    have v126 : zEq (η11 16 3) (0) := by rw [eη11]; exact (zup_ne (fun _ e => absurd e (by decide))).trans v125
    have v127 : zEq (η12 16 3) (0) := by rw [eη12]; exact (zup_ne (fun e _ => absurd e (by decide))).trans v126
    have v128 : zEq (η13 16 3) (0) := by rw [eη13]; exact (zup_ne (fun e _ => absurd e (by decide))).trans v127
    have v129 : zEq (η14 16 3) (0) := by rw [eη14]; exact (zup_ne (fun e _ => absurd e (by decide))).trans v128
    have v130 : zEq (η15 16 3) (0) := by rw [eη15]; exact (zup_ne (fun e _ => absurd e (by decide))).trans v129
    have f16_3 : η15 16 3 = 0 := v130
    have v131 : zEq (η9 16 4) (0) := by rw [eη9]; exact zup_eq
    have v132 : zEq (η10 16 4) (0) := by rw [eη10]; exact (zup_ne (fun e _ => absurd e (by decide))).trans v131
    have v133 : zEq (η11 16 4) (0) := by rw [eη11]; exact (zup_ne (fun _ e => absurd e (by decide))).trans v132
    have v134 : zEq (η12 16 4) (0) := by rw [eη12]; exact (zup_ne (fun e _ => absurd e (by decide))).trans v133
    have v135 : zEq (η13 16 4) (0) := by rw [eη13]; exact (zup_ne (fun e _ => absurd e (by decide))).trans v134
    have v136 : zEq (η14 16 4) (0) := by rw [eη14]; exact (zup_ne (fun e _ => absurd e (by decide))).trans v135
    have v137 : zEq (η15 16 4) (0) := by rw [eη15]; exact (zup_ne (fun e _ => absurd e (by decide))).trans v136
    have f16_4 : η15 16 4 = 0 := v137
    have v138 : zEq (η11 16 5) (0) := by rw [eη11]; exact zup_eq
    have v139 : zEq (η12 16 5) (0) := by rw [eη12]; exact (zup_ne (fun e _ => absurd e (by decide))).trans v138
    have v140 : zEq (η13 16 5) (0) := by rw [eη13]; exact (zup_ne (fun e _ => absurd e (by decide))).trans v139
    have v141 : zEq (η14 16 5) (0) := by rw [eη14]; exact (zup_ne (fun e _ => absurd e (by decide))).trans v140
    have v142 : zEq (η15 16 5) (0) := by rw [eη15]; exact (zup_ne (fun e _ => absurd e (by decide))).trans v141
    have f16_5 : η15 16 5 = 0 := v142
    refine ⟨⟨⟨zGk_fm2 gk_k hpp.1 fmE (by decide +kernel), zGk_fm2 tk_l hpp.2.1 fmE (by decide +kernel)⟩, show η15 0 19 = η15 0 44 by apply Int.le_antisymm <;> omega⟩, fun k hk w => ?_⟩
    rw [fr18]
    match k, hk, w with
    | 0, _, w => exact hpp.2.2 0 (by decide) (f16_0.symm.trans w)
    | 1, _, w => exact hpp.2.2 1 (by decide) (f16_1.symm.trans w)
    | 2, _, w => exact hpp.2.2 2 (by decide) (f16_2.symm.trans w)
    | 3, _, w => exact absurd (f16_3.symm.trans w) (by decide)
    | 4, _, w => exact absurd (f16_4.symm.trans w) (by decide)
    | 5, _, w => exact absurd (f16_5.symm.trans w) (by decide)
  · have eη1 : η1 = zup η 0 16 0 := eη1
    have eη2 : η2 = zup η1 0 17 0 := eη2
    have eη3 : η3 = zup η2 0 18 0 := eη3
    have eη4 : η4 = zup η3 0 19 0 := eη4
    have eη5 : η5 = zup η4 0 44 0 := eη5
    have eη6 : η6 = zup η5 3 0 0 := eη6
    have eη7 : η7 = zup η6 16 (Int.toNat x1) 0 := eη7
    have eη8 : η8 = zup η7 3 (Int.toNat x2) 0 := eη8
    have eη9 : η9 = zup η8 16 (Int.toNat x3) 0 := eη9
    have eη10 : η10 = zup η9 3 (Int.toNat x4) 0 := eη10
    have eη11 : η11 = zup η10 16 (Int.toNat x5) 0 := eη11
    have eη12 : η12 = zup η11 4 4 3 := eη12
    have eη13 : η13 = zup η12 4 (Int.toNat x7) 0 := eη13
    have eη14 : η14 = zup η13 4 (Int.toNat x8) 0 := eη14
    have eη15 : η15 = zup η14 4 (Int.toNat x9) 0 := eη15
    show η15 = (yq_pln η)
    subst eη1
    subst eη2
    subst eη3
    subst eη4
    subst eη5
    subst eη6
    subst e1
    subst eη7
    subst e2
    subst eη8
    subst e3
    subst eη9
    subst e4
    subst eη10
    subst e5
    subst eη11
    subst e6
    subst eη12
    subst e7
    subst eη13
    subst e8
    subst eη14
    subst e9
    subst eη15
    subst e10
    rfl
set_option maxHeartbeats 8000000 in
theorem zne_plain {ro : Nat → List Int32} : zMet pr_P pr_K pr_df ro (sm_X0 1 6) 0 128 tm_ne [(.inr (.inr (.inl (nat_lit 0))))] 0 [(nat_lit 0, nat_lit 0, nat_lit 1), (nat_lit 0, nat_lit 3, nat_lit 2), (nat_lit 0, nat_lit 20, nat_lit 3), (nat_lit 0, nat_lit 21, nat_lit 4), (nat_lit 0, nat_lit 22, nat_lit 5), (nat_lit 0, nat_lit 23, nat_lit 6), (nat_lit 0, nat_lit 24, nat_lit 7), (nat_lit 0, nat_lit 25, nat_lit 8), (nat_lit 0, nat_lit 26, nat_lit 9), (nat_lit 0, nat_lit 27, nat_lit 10), (nat_lit 0, nat_lit 28, nat_lit 11), (nat_lit 0, nat_lit 29, nat_lit 12), (nat_lit 0, nat_lit 30, nat_lit 13), (nat_lit 0, nat_lit 31, nat_lit 14), (nat_lit 0, nat_lit 32, nat_lit 15), (nat_lit 0, nat_lit 33, nat_lit 16), (nat_lit 0, nat_lit 34, nat_lit 17), (nat_lit 0, nat_lit 35, nat_lit 18), (nat_lit 0, nat_lit 36, nat_lit 19), (nat_lit 0, nat_lit 37, nat_lit 20), (nat_lit 0, nat_lit 38, nat_lit 21), (nat_lit 0, nat_lit 39, nat_lit 22), (nat_lit 0, nat_lit 40, nat_lit 23), (nat_lit 0, nat_lit 47, nat_lit 24), (nat_lit 0, nat_lit 48, nat_lit 25), (nat_lit 0, nat_lit 50, nat_lit 26), (nat_lit 0, nat_lit 51, nat_lit 27), (nat_lit 0, nat_lit 52, nat_lit 28), (nat_lit 0, nat_lit 53, nat_lit 29), (nat_lit 0, nat_lit 54, nat_lit 30), (nat_lit 0, nat_lit 55, nat_lit 31), (nat_lit 0, nat_lit 56, nat_lit 32), (nat_lit 0, nat_lit 57, nat_lit 33), (nat_lit 0, nat_lit 58, nat_lit 34), (nat_lit 0, nat_lit 59, nat_lit 35), (nat_lit 0, nat_lit 72, nat_lit 36), (nat_lit 0, nat_lit 73, nat_lit 37), (nat_lit 0, nat_lit 76, nat_lit 38), (nat_lit 0, nat_lit 77, nat_lit 39), (nat_lit 0, nat_lit 79, nat_lit 40), (nat_lit 0, nat_lit 81, nat_lit 41), (nat_lit 0, nat_lit 82, nat_lit 42)] [] (fun xs η => sP wl_ne zTr zPne_plain xs η ∧ pPne_plain xs η) (fun xs η y η' => sQ wl_ne zTr zOne_plain zMne_plain xs η y η' ∧ pQne_plain xs η y η') :=
  zmet_alt (zmea_gen (mi := (nat_lit 0, nat_lit 1, nat_lit 8, nat_lit 2, nat_lit 0, tX8_plain)) (cd := []) (cu := []) (cs := []) (iv := zVne_plain) (po := [zOne_plain]) (pr := zPne_plain) (mods := zMne_plain) (D7 := zDne_plain) (D0 := zEne_plain) (Dm := zFne_plain) (f0 := 134) pCne_plain qCne_plain iCne_plain pPne_plain (fun xs η _ y η' => pQne_plain xs η y η') zX_low pr_mtR rfl (fun _ h => nomatch h) (by decide +kernel) (by decide +kernel) (by decide +kernel)
    (by
      intro xs η hr hl hp hpp
      match xs, hl, hp, hpp with
      | [], _, hp, hpp =>
        refine List.forall_mem_cons.mpr ⟨?_, fun _ h => nomatch h⟩
        · refine zden_L (n := 1) (ρ := [0]) rfl ?_
          exact zne_plain_o0 (ro := ro)  η hp hpp
      )
    (fun _ _ _ _ _ _ _ h => nomatch h)
    (fun _ h => nomatch h))
def zPne_copies_4 : zPq := ([], [])
def zOne_copies_4 : zPo := (((.ofNat (nat_lit 0)), (.ofNat (nat_lit 0))), [], [])
def zMne_copies_4 : List zCe := [(nat_lit 4, nat_lit 0)]
def pPne_copies_4 : List Int → zE → Prop := fun _ _ => True
def pQne_copies_4 : List Int → zE → Int → zE → Prop := fun _ η _ η' => (∀ j : Nat, j < 4 → η' 4 j = η 4 (4 + j)) ∧ (∀ j : Nat, 4 ≤ j → η' 4 j = η 4 j)
def pCne_copies_4 : Nat → List Int → zE → Prop := fun c => match c with
  | _ => fun _ _ => True
def qCne_copies_4 : Nat → List Int → zE → Int → zE → Prop := fun c => match c with
  | _ => fun _ _ _ _ => True
def iCne_copies_4 : List Int → zE → Nat → List Int → zE → Prop := fun xs η0 c => match c with
  | 0 => fun ys η => ((∀ j : Nat, (j : Int) < ys.getD 1 0 → η 4 j = η0 4 (4 + j)) ∧ (∀ j : Nat, ys.getD 1 0 ≤ (j : Int) → η 4 j = η0 4 j))
  | _ => fun _ _ => True
def zVne_copies_4 : List zIv := [(nat_lit 0, ([((.ofNat (nat_lit 4)), (.ofNat (nat_lit 4))), ((.ofNat (nat_lit 0)), (.ofNat (nat_lit 4)))], []), ((.ofNat (nat_lit 4)), [((.negSucc (nat_lit 0)), nat_lit 0, nat_lit 1, nat_lit 0)]))]
def zUne_copies_4 : List zCu := [(nat_lit 2, nat_lit 0, [(nat_lit 0, (.inr (.inr (.inl (nat_lit 4))))), (nat_lit 1, (.inl (nat_lit 1, (.ofNat (nat_lit 0))))), (nat_lit 2, (.inl (nat_lit 2, (.ofNat (nat_lit 0)))))], [])]
def zDne_copies_4 : List (List zK) := []
def zEne_copies_4 : List (List zK) := [[(nat_lit 12, nat_lit 0, [(nat_lit 0, (.ofNat (nat_lit 4))), (nat_lit 0, (.ofNat (nat_lit 0)))])]]
def zFne_copies_4 : List (List zK) := []
def zDne_copies_4_0 : List (List zK) := [[(nat_lit 7, nat_lit 0, [(nat_lit 3, (.ofNat (nat_lit 0))), (nat_lit 0, (.ofNat (nat_lit 8)))]), (nat_lit 0, nat_lit 1, [(nat_lit 1, (.ofNat (nat_lit 0))), (nat_lit 2, (.ofNat (nat_lit 0)))]), (nat_lit 6, nat_lit 2, [(nat_lit 2, (.ofNat (nat_lit 0))), (nat_lit 1, (.ofNat (nat_lit 0)))])],
  [(nat_lit 7, nat_lit 0, [(nat_lit 2, (.ofNat (nat_lit 0))), (nat_lit 0, (.ofNat (nat_lit 8)))]), (nat_lit 4, nat_lit 0, [(nat_lit 4, (.ofNat (nat_lit 0))), (nat_lit 3, (.ofNat (nat_lit 0)))]), (nat_lit 0, nat_lit 1, [(nat_lit 1, (.ofNat (nat_lit 0))), (nat_lit 2, (.ofNat (nat_lit 0)))]), (nat_lit 6, nat_lit 2, [(nat_lit 2, (.ofNat (nat_lit 0))), (nat_lit 1, (.ofNat (nat_lit 0)))])]]
def zEne_copies_4_0 : List (List zK) := [[(nat_lit 11, nat_lit 0, [(nat_lit 0, (.ofNat (nat_lit 0)))]), (nat_lit 6, nat_lit 3, [(nat_lit 2, (.ofNat (nat_lit 0))), (nat_lit 1, (.ofNat (nat_lit 0)))])],
  [(nat_lit 10, nat_lit 0, [(nat_lit 1, (.ofNat (nat_lit 0))), (nat_lit 5, (.ofNat (nat_lit 0)))]), (nat_lit 0, nat_lit 1, [(nat_lit 2, (.ofNat (nat_lit 0))), (nat_lit 0, (.ofNat (nat_lit 1)))]), (nat_lit 5, nat_lit 0, [(nat_lit 4, (.ofNat (nat_lit 0))), (nat_lit 2, (.ofNat (nat_lit 0))), (nat_lit 4, (.ofNat (nat_lit 0)))]), (nat_lit 4, nat_lit 0, [(nat_lit 4, (.ofNat (nat_lit 0))), (nat_lit 3, (.ofNat (nat_lit 0)))]), (nat_lit 0, nat_lit 1, [(nat_lit 1, (.ofNat (nat_lit 0))), (nat_lit 2, (.ofNat (nat_lit 0)))]), (nat_lit 6, nat_lit 2, [(nat_lit 2, (.ofNat (nat_lit 0))), (nat_lit 1, (.ofNat (nat_lit 0)))])]]
def zFne_copies_4_0 : List (List zK) := []
set_option maxHeartbeats 8000000 in
theorem zne_copies_4_o0 {ro : Nat → List Int32} (xs : List Int) (η0 : zE) (hp : sP wl_ne zTr zPne_copies_4 xs η0) (hpp : pPne_copies_4 xs η0) (x1 x2 : Int) (η : zE) (hI : zsI wl_ne zTr zVne_copies_4 zMne_copies_4 η0 0 [x1, x2] η) (hig : iCne_copies_4 xs η0 0 [x1, x2] η) : (x1 ≤ x2) → (fun (_ : Nat) (y : Int) (η' : zE) => pQne_copies_4 xs η0 y η') 0 0 η := by
  intro c1
  have bx1 : (4 : Int) ≤ x1 ∧ x1 ≤ 4 := hI.1.2.1.1
  have bx2 : (0 : Int) ≤ x2 ∧ x2 ≤ 4 := hI.1.2.1.2.1
  have bn : x1 = 4 := by omega
  have u1 : ∀ j : Nat, (j : Int) < x2 → η 4 j = η0 4 (4 + j) := hig.1
  have u2 : ∀ j : Nat, x2 ≤ (j : Int) → η 4 j = η0 4 j := hig.2
  exact ⟨fun j hj => u1 j (by omega), fun j hj => u2 j (by omega)⟩
set_option maxHeartbeats 8000000 in
theorem zne_copies_4_o1 {ro : Nat → List Int32} (xs : List Int) (η0 : zE) (hp : sP wl_ne zTr zPne_copies_4 xs η0) (hpp : pPne_copies_4 xs η0) (x1 x2 : Int) (η : zE) (hI : zsI wl_ne zTr zVne_copies_4 zMne_copies_4 η0 0 [x1, x2] η) (hig : iCne_copies_4 xs η0 0 [x1, x2] η) : (x2 < x1) → ∀ x3 : Int, x3 = zd 0 1 x1 x2 → ∀ x4 : Int, x4 = η 4 (Int.toNat x3) → zok 0 x4 → ∀ η1 : zE, η1 = zup η 4 (Int.toNat x2) x4 → ∀ x5 : Int, x5 = zd 0 1 x2 1 → (iCne_copies_4 xs η0) 0 [x1, x5] η1 ∧ (fun (_ : Nat) (_ : List Int) (_ : zE) => (0 : Nat)) 0 [x1, x5] η1 < 1 := by
  intro c1 x3 e3 x4 e4 r4 η1 eη1 x5 e5
  replace e3 := zEq_i e3
  replace e5 := zEq_i e5
  have bx1 : (4 : Int) ≤ x1 ∧ x1 ≤ 4 := hI.1.2.1.1
  have bx2 : (0 : Int) ≤ x2 ∧ x2 ≤ 4 := hI.1.2.1.2.1
  first
  | replace e3 : x3 = x1 + x2 := zd_a2 (zEq_o e3) (by clear e3; exact ⟨by omega, by omega⟩)
  | clear e3
  replace e4 : x4 = η 4 (Int.toNat x3) := e4
  replace r4 : -2147483648 ≤ x4 ∧ x4 ≤ 2147483647 := r4
  first
  | replace e5 : x5 = x2 + 1 := zd_a2 (zEq_o e5) (by clear e5; exact ⟨by omega, by omega⟩)
  | clear e5
  have bn : x1 = 4 := by omega
  have u1 : ∀ j : Nat, (j : Int) < x2 → η 4 j = η0 4 (4 + j) := hig.1
  have u2 : ∀ j : Nat, x2 ≤ (j : Int) → η 4 j = η0 4 j := hig.2
  refine ⟨⟨fun j hj => ?_, fun j hj => ?_⟩, Nat.zero_lt_one⟩
  · have hj : (j : Int) < x5 := hj
    by_cases q : j = Int.toNat x2
    · rw [eη1, q, zup_eq, e4, show Int.toNat x3 = 4 + Int.toNat x2 by omega]
      exact u2 _ (by omega)
    · rw [eη1, zup_ne (fun _ e => q e)]
      exact u1 j (by omega)
  · have hj : x5 ≤ (j : Int) := hj
    rw [eη1, zup_ne (fun _ e => by omega)]
    exact u2 j (by omega)
set_option maxHeartbeats 8000000 in
theorem zne_copies_4 {ro : Nat → List Int32} : zMet pr_P pr_K pr_df ro (sm_X0 1 6) 0 129 tm_ne [(.inr (.inr (.inl (nat_lit 4)))), (.inl (nat_lit 0, (.ofNat (nat_lit 4))))] 0 [] [] (fun xs η => sP wl_ne zTr zPne_copies_4 xs η ∧ pPne_copies_4 xs η) (fun xs η y η' => sQ wl_ne zTr zOne_copies_4 zMne_copies_4 xs η y η' ∧ pQne_copies_4 xs η y η') :=
  zmet_alt (zmea_gen (mi := (nat_lit 2, nat_lit 0, nat_lit 8, nat_lit 3, nat_lit 0, tX8_copies)) (cd := []) (cu := zUne_copies_4) (cs := []) (iv := zVne_copies_4) (po := [zOne_copies_4]) (pr := zPne_copies_4) (mods := zMne_copies_4) (D7 := zDne_copies_4) (D0 := zEne_copies_4) (Dm := zFne_copies_4) (f0 := 7) pCne_copies_4 qCne_copies_4 iCne_copies_4 pPne_copies_4 (fun xs η _ y η' => pQne_copies_4 xs η y η') zX_low pr_mtR rfl (fun _ h => nomatch h) (by decide +kernel) (by decide +kernel) (by decide +kernel)
    (by
      intro xs η hr hl hp hpp
      match xs, hl, hp, hpp with
      | [], _, hp, hpp =>
        refine List.forall_mem_cons.mpr ⟨?_, fun _ h => nomatch h⟩
        · refine zden_L (n := 1) (ρ := [0]) rfl ?_
          show (iCne_copies_4 [] η) 0 [4, 0] η
          exact ⟨fun j hj => absurd (show (j : Int) < 0 from hj) (by omega), fun j _ => rfl⟩
      )
    (fun _ _ _ _ _ _ _ h => nomatch h)
    (List.forall_mem_cons.mpr ⟨⟨zDne_copies_4_0, zEne_copies_4_0, zFne_copies_4_0, 18, by decide +kernel, (by
      intro xs η0 hlx hp hpp ys η hr hl hI hig
      match ys, hl, hI, hig with
      | [x1, x2], _, hI, hig =>
        refine ⟨?_, ?_⟩
        · refine List.forall_mem_cons.mpr ⟨?_, List.forall_mem_cons.mpr ⟨?_, fun _ h => nomatch h⟩⟩
          · refine zden_L (n := 3) (ρ := [x2, x1, 0]) rfl ?_
            exact zne_copies_4_o0 (ro := ro) xs η0 hp hpp x1 x2 η hI hig
          · refine zden_L (n := 3) (ρ := [x2, x1, 0]) rfl ?_
            exact zne_copies_4_o1 (ro := ro) xs η0 hp hpp x1 x2 η hI hig
        · exact fun _ h => nomatch h
      )⟩, (fun _ h => nomatch h)⟩))
def zPne_copies_7 : zPq := ([], [])
def zOne_copies_7 : zPo := (((.ofNat (nat_lit 0)), (.ofNat (nat_lit 0))), [], [])
def zMne_copies_7 : List zCe := [(nat_lit 7, nat_lit 0)]
def pPne_copies_7 : List Int → zE → Prop := fun _ _ => True
def pQne_copies_7 : List Int → zE → Int → zE → Prop := fun _ η _ η' => (∀ j : Nat, j < 4 → η' 7 j = η 7 (4 + j)) ∧ (∀ j : Nat, 4 ≤ j → η' 7 j = η 7 j)
def pCne_copies_7 : Nat → List Int → zE → Prop := fun c => match c with
  | _ => fun _ _ => True
def qCne_copies_7 : Nat → List Int → zE → Int → zE → Prop := fun c => match c with
  | _ => fun _ _ _ _ => True
def iCne_copies_7 : List Int → zE → Nat → List Int → zE → Prop := fun xs η0 c => match c with
  | 0 => fun ys η => ((∀ j : Nat, (j : Int) < ys.getD 1 0 → η 7 j = η0 7 (4 + j)) ∧ (∀ j : Nat, ys.getD 1 0 ≤ (j : Int) → η 7 j = η0 7 j))
  | _ => fun _ _ => True
def zVne_copies_7 : List zIv := [(nat_lit 0, ([((.ofNat (nat_lit 4)), (.ofNat (nat_lit 4))), ((.ofNat (nat_lit 0)), (.ofNat (nat_lit 4)))], []), ((.ofNat (nat_lit 4)), [((.negSucc (nat_lit 0)), nat_lit 0, nat_lit 1, nat_lit 0)]))]
def zUne_copies_7 : List zCu := [(nat_lit 2, nat_lit 0, [(nat_lit 0, (.inr (.inr (.inl (nat_lit 7))))), (nat_lit 1, (.inl (nat_lit 1, (.ofNat (nat_lit 0))))), (nat_lit 2, (.inl (nat_lit 2, (.ofNat (nat_lit 0)))))], [])]
def zDne_copies_7 : List (List zK) := []
def zEne_copies_7 : List (List zK) := [[(nat_lit 12, nat_lit 0, [(nat_lit 0, (.ofNat (nat_lit 4))), (nat_lit 0, (.ofNat (nat_lit 0)))])]]
def zFne_copies_7 : List (List zK) := []
def zDne_copies_7_0 : List (List zK) := [[(nat_lit 7, nat_lit 0, [(nat_lit 3, (.ofNat (nat_lit 0))), (nat_lit 0, (.ofNat (nat_lit 8)))]), (nat_lit 0, nat_lit 1, [(nat_lit 1, (.ofNat (nat_lit 0))), (nat_lit 2, (.ofNat (nat_lit 0)))]), (nat_lit 6, nat_lit 2, [(nat_lit 2, (.ofNat (nat_lit 0))), (nat_lit 1, (.ofNat (nat_lit 0)))])],
  [(nat_lit 7, nat_lit 0, [(nat_lit 2, (.ofNat (nat_lit 0))), (nat_lit 0, (.ofNat (nat_lit 8)))]), (nat_lit 4, nat_lit 0, [(nat_lit 7, (.ofNat (nat_lit 0))), (nat_lit 3, (.ofNat (nat_lit 0)))]), (nat_lit 0, nat_lit 1, [(nat_lit 1, (.ofNat (nat_lit 0))), (nat_lit 2, (.ofNat (nat_lit 0)))]), (nat_lit 6, nat_lit 2, [(nat_lit 2, (.ofNat (nat_lit 0))), (nat_lit 1, (.ofNat (nat_lit 0)))])]]
def zEne_copies_7_0 : List (List zK) := [[(nat_lit 11, nat_lit 0, [(nat_lit 0, (.ofNat (nat_lit 0)))]), (nat_lit 6, nat_lit 3, [(nat_lit 2, (.ofNat (nat_lit 0))), (nat_lit 1, (.ofNat (nat_lit 0)))])],
  [(nat_lit 10, nat_lit 0, [(nat_lit 1, (.ofNat (nat_lit 0))), (nat_lit 5, (.ofNat (nat_lit 0)))]), (nat_lit 0, nat_lit 1, [(nat_lit 2, (.ofNat (nat_lit 0))), (nat_lit 0, (.ofNat (nat_lit 1)))]), (nat_lit 5, nat_lit 0, [(nat_lit 7, (.ofNat (nat_lit 0))), (nat_lit 2, (.ofNat (nat_lit 0))), (nat_lit 4, (.ofNat (nat_lit 0)))]), (nat_lit 4, nat_lit 0, [(nat_lit 7, (.ofNat (nat_lit 0))), (nat_lit 3, (.ofNat (nat_lit 0)))]), (nat_lit 0, nat_lit 1, [(nat_lit 1, (.ofNat (nat_lit 0))), (nat_lit 2, (.ofNat (nat_lit 0)))]), (nat_lit 6, nat_lit 2, [(nat_lit 2, (.ofNat (nat_lit 0))), (nat_lit 1, (.ofNat (nat_lit 0)))])]]
def zFne_copies_7_0 : List (List zK) := []
set_option maxHeartbeats 8000000 in
theorem zne_copies_7_o0 {ro : Nat → List Int32} (xs : List Int) (η0 : zE) (hp : sP wl_ne zTr zPne_copies_7 xs η0) (hpp : pPne_copies_7 xs η0) (x1 x2 : Int) (η : zE) (hI : zsI wl_ne zTr zVne_copies_7 zMne_copies_7 η0 0 [x1, x2] η) (hig : iCne_copies_7 xs η0 0 [x1, x2] η) : (x1 ≤ x2) → (fun (_ : Nat) (y : Int) (η' : zE) => pQne_copies_7 xs η0 y η') 0 0 η := by
  intro c1
  have bx1 : (4 : Int) ≤ x1 ∧ x1 ≤ 4 := hI.1.2.1.1
  have bx2 : (0 : Int) ≤ x2 ∧ x2 ≤ 4 := hI.1.2.1.2.1
  have bn : x1 = 4 := by omega
  have u1 : ∀ j : Nat, (j : Int) < x2 → η 7 j = η0 7 (4 + j) := hig.1
  have u2 : ∀ j : Nat, x2 ≤ (j : Int) → η 7 j = η0 7 j := hig.2
  exact ⟨fun j hj => u1 j (by omega), fun j hj => u2 j (by omega)⟩
set_option maxHeartbeats 8000000 in
theorem zne_copies_7_o1 {ro : Nat → List Int32} (xs : List Int) (η0 : zE) (hp : sP wl_ne zTr zPne_copies_7 xs η0) (hpp : pPne_copies_7 xs η0) (x1 x2 : Int) (η : zE) (hI : zsI wl_ne zTr zVne_copies_7 zMne_copies_7 η0 0 [x1, x2] η) (hig : iCne_copies_7 xs η0 0 [x1, x2] η) : (x2 < x1) → ∀ x3 : Int, x3 = zd 0 1 x1 x2 → ∀ x4 : Int, x4 = η 7 (Int.toNat x3) → zok 0 x4 → ∀ η1 : zE, η1 = zup η 7 (Int.toNat x2) x4 → ∀ x5 : Int, x5 = zd 0 1 x2 1 → (iCne_copies_7 xs η0) 0 [x1, x5] η1 ∧ (fun (_ : Nat) (_ : List Int) (_ : zE) => (0 : Nat)) 0 [x1, x5] η1 < 1 := by
  intro c1 x3 e3 x4 e4 r4 η1 eη1 x5 e5
  replace e3 := zEq_i e3
  replace e5 := zEq_i e5
  have bx1 : (4 : Int) ≤ x1 ∧ x1 ≤ 4 := hI.1.2.1.1
  have bx2 : (0 : Int) ≤ x2 ∧ x2 ≤ 4 := hI.1.2.1.2.1
  first
  | replace e3 : x3 = x1 + x2 := zd_a2 (zEq_o e3) (by clear e3; exact ⟨by omega, by omega⟩)
  | clear e3
  replace e4 : x4 = η 7 (Int.toNat x3) := e4
  replace r4 : -2147483648 ≤ x4 ∧ x4 ≤ 2147483647 := r4
  first
  | replace e5 : x5 = x2 + 1 := zd_a2 (zEq_o e5) (by clear e5; exact ⟨by omega, by omega⟩)
  | clear e5
  have bn : x1 = 4 := by omega
  have u1 : ∀ j : Nat, (j : Int) < x2 → η 7 j = η0 7 (4 + j) := hig.1
  have u2 : ∀ j : Nat, x2 ≤ (j : Int) → η 7 j = η0 7 j := hig.2
  refine ⟨⟨fun j hj => ?_, fun j hj => ?_⟩, Nat.zero_lt_one⟩
  · have hj : (j : Int) < x5 := hj
    by_cases q : j = Int.toNat x2
    · rw [eη1, q, zup_eq, e4, show Int.toNat x3 = 4 + Int.toNat x2 by omega]
      exact u2 _ (by omega)
    · rw [eη1, zup_ne (fun _ e => q e)]
      exact u1 j (by omega)
  · have hj : x5 ≤ (j : Int) := hj
    rw [eη1, zup_ne (fun _ e => by omega)]
    exact u2 j (by omega)
set_option maxHeartbeats 8000000 in
theorem zne_copies_7 {ro : Nat → List Int32} : zMet pr_P pr_K pr_df ro (sm_X0 1 6) 0 129 tm_ne [(.inr (.inr (.inl (nat_lit 7)))), (.inl (nat_lit 0, (.ofNat (nat_lit 4))))] 0 [] [] (fun xs η => sP wl_ne zTr zPne_copies_7 xs η ∧ pPne_copies_7 xs η) (fun xs η y η' => sQ wl_ne zTr zOne_copies_7 zMne_copies_7 xs η y η' ∧ pQne_copies_7 xs η y η') :=
  zmet_alt (zmea_gen (mi := (nat_lit 2, nat_lit 0, nat_lit 8, nat_lit 3, nat_lit 0, tX8_copies)) (cd := []) (cu := zUne_copies_7) (cs := []) (iv := zVne_copies_7) (po := [zOne_copies_7]) (pr := zPne_copies_7) (mods := zMne_copies_7) (D7 := zDne_copies_7) (D0 := zEne_copies_7) (Dm := zFne_copies_7) (f0 := 7) pCne_copies_7 qCne_copies_7 iCne_copies_7 pPne_copies_7 (fun xs η _ y η' => pQne_copies_7 xs η y η') zX_low pr_mtR rfl (fun _ h => nomatch h) (by decide +kernel) (by decide +kernel) (by decide +kernel)
    (by
      intro xs η hr hl hp hpp
      match xs, hl, hp, hpp with
      | [], _, hp, hpp =>
        refine List.forall_mem_cons.mpr ⟨?_, fun _ h => nomatch h⟩
        · refine zden_L (n := 1) (ρ := [0]) rfl ?_
          show (iCne_copies_7 [] η) 0 [4, 0] η
          exact ⟨fun j hj => absurd (show (j : Int) < 0 from hj) (by omega), fun j _ => rfl⟩
      )
    (fun _ _ _ _ _ _ _ h => nomatch h)
    (List.forall_mem_cons.mpr ⟨⟨zDne_copies_7_0, zEne_copies_7_0, zFne_copies_7_0, 18, by decide +kernel, (by
      intro xs η0 hlx hp hpp ys η hr hl hI hig
      match ys, hl, hI, hig with
      | [x1, x2], _, hI, hig =>
        refine ⟨?_, ?_⟩
        · refine List.forall_mem_cons.mpr ⟨?_, List.forall_mem_cons.mpr ⟨?_, fun _ h => nomatch h⟩⟩
          · refine zden_L (n := 3) (ρ := [x2, x1, 0]) rfl ?_
            exact zne_copies_7_o0 (ro := ro) xs η0 hp hpp x1 x2 η hI hig
          · refine zden_L (n := 3) (ρ := [x2, x1, 0]) rfl ?_
            exact zne_copies_7_o1 (ro := ro) xs η0 hp hpp x1 x2 η hI hig
        · exact fun _ h => nomatch h
      )⟩, (fun _ h => nomatch h)⟩))
def zPne_copies_8 : zPq := ([], [])
def zOne_copies_8 : zPo := (((.ofNat (nat_lit 0)), (.ofNat (nat_lit 0))), [], [])
def zMne_copies_8 : List zCe := [(nat_lit 8, nat_lit 0)]
def pPne_copies_8 : List Int → zE → Prop := fun _ _ => True
def pQne_copies_8 : List Int → zE → Int → zE → Prop := fun _ η _ η' => (∀ j : Nat, j < 4 → η' 8 j = η 8 (4 + j)) ∧ (∀ j : Nat, 4 ≤ j → η' 8 j = η 8 j)
def pCne_copies_8 : Nat → List Int → zE → Prop := fun c => match c with
  | _ => fun _ _ => True
def qCne_copies_8 : Nat → List Int → zE → Int → zE → Prop := fun c => match c with
  | _ => fun _ _ _ _ => True
def iCne_copies_8 : List Int → zE → Nat → List Int → zE → Prop := fun xs η0 c => match c with
  | 0 => fun ys η => ((∀ j : Nat, (j : Int) < ys.getD 1 0 → η 8 j = η0 8 (4 + j)) ∧ (∀ j : Nat, ys.getD 1 0 ≤ (j : Int) → η 8 j = η0 8 j))
  | _ => fun _ _ => True
def zVne_copies_8 : List zIv := [(nat_lit 0, ([((.ofNat (nat_lit 4)), (.ofNat (nat_lit 4))), ((.ofNat (nat_lit 0)), (.ofNat (nat_lit 4)))], []), ((.ofNat (nat_lit 4)), [((.negSucc (nat_lit 0)), nat_lit 0, nat_lit 1, nat_lit 0)]))]
def zUne_copies_8 : List zCu := [(nat_lit 2, nat_lit 0, [(nat_lit 0, (.inr (.inr (.inl (nat_lit 8))))), (nat_lit 1, (.inl (nat_lit 1, (.ofNat (nat_lit 0))))), (nat_lit 2, (.inl (nat_lit 2, (.ofNat (nat_lit 0)))))], [])]
def zDne_copies_8 : List (List zK) := []
def zEne_copies_8 : List (List zK) := [[(nat_lit 12, nat_lit 0, [(nat_lit 0, (.ofNat (nat_lit 4))), (nat_lit 0, (.ofNat (nat_lit 0)))])]]
def zFne_copies_8 : List (List zK) := []
def zDne_copies_8_0 : List (List zK) := [[(nat_lit 7, nat_lit 0, [(nat_lit 3, (.ofNat (nat_lit 0))), (nat_lit 0, (.ofNat (nat_lit 8)))]), (nat_lit 0, nat_lit 1, [(nat_lit 1, (.ofNat (nat_lit 0))), (nat_lit 2, (.ofNat (nat_lit 0)))]), (nat_lit 6, nat_lit 2, [(nat_lit 2, (.ofNat (nat_lit 0))), (nat_lit 1, (.ofNat (nat_lit 0)))])],
  [(nat_lit 7, nat_lit 0, [(nat_lit 2, (.ofNat (nat_lit 0))), (nat_lit 0, (.ofNat (nat_lit 8)))]), (nat_lit 4, nat_lit 0, [(nat_lit 8, (.ofNat (nat_lit 0))), (nat_lit 3, (.ofNat (nat_lit 0)))]), (nat_lit 0, nat_lit 1, [(nat_lit 1, (.ofNat (nat_lit 0))), (nat_lit 2, (.ofNat (nat_lit 0)))]), (nat_lit 6, nat_lit 2, [(nat_lit 2, (.ofNat (nat_lit 0))), (nat_lit 1, (.ofNat (nat_lit 0)))])]]
def zEne_copies_8_0 : List (List zK) := [[(nat_lit 11, nat_lit 0, [(nat_lit 0, (.ofNat (nat_lit 0)))]), (nat_lit 6, nat_lit 3, [(nat_lit 2, (.ofNat (nat_lit 0))), (nat_lit 1, (.ofNat (nat_lit 0)))])],
  [(nat_lit 10, nat_lit 0, [(nat_lit 1, (.ofNat (nat_lit 0))), (nat_lit 5, (.ofNat (nat_lit 0)))]), (nat_lit 0, nat_lit 1, [(nat_lit 2, (.ofNat (nat_lit 0))), (nat_lit 0, (.ofNat (nat_lit 1)))]), (nat_lit 5, nat_lit 0, [(nat_lit 8, (.ofNat (nat_lit 0))), (nat_lit 2, (.ofNat (nat_lit 0))), (nat_lit 4, (.ofNat (nat_lit 0)))]), (nat_lit 4, nat_lit 0, [(nat_lit 8, (.ofNat (nat_lit 0))), (nat_lit 3, (.ofNat (nat_lit 0)))]), (nat_lit 0, nat_lit 1, [(nat_lit 1, (.ofNat (nat_lit 0))), (nat_lit 2, (.ofNat (nat_lit 0)))]), (nat_lit 6, nat_lit 2, [(nat_lit 2, (.ofNat (nat_lit 0))), (nat_lit 1, (.ofNat (nat_lit 0)))])]]
def zFne_copies_8_0 : List (List zK) := []
set_option maxHeartbeats 8000000 in
theorem zne_copies_8_o0 {ro : Nat → List Int32} (xs : List Int) (η0 : zE) (hp : sP wl_ne zTr zPne_copies_8 xs η0) (hpp : pPne_copies_8 xs η0) (x1 x2 : Int) (η : zE) (hI : zsI wl_ne zTr zVne_copies_8 zMne_copies_8 η0 0 [x1, x2] η) (hig : iCne_copies_8 xs η0 0 [x1, x2] η) : (x1 ≤ x2) → (fun (_ : Nat) (y : Int) (η' : zE) => pQne_copies_8 xs η0 y η') 0 0 η := by
  intro c1
  have bx1 : (4 : Int) ≤ x1 ∧ x1 ≤ 4 := hI.1.2.1.1
  have bx2 : (0 : Int) ≤ x2 ∧ x2 ≤ 4 := hI.1.2.1.2.1
  have bn : x1 = 4 := by omega
  have u1 : ∀ j : Nat, (j : Int) < x2 → η 8 j = η0 8 (4 + j) := hig.1
  have u2 : ∀ j : Nat, x2 ≤ (j : Int) → η 8 j = η0 8 j := hig.2
  exact ⟨fun j hj => u1 j (by omega), fun j hj => u2 j (by omega)⟩
set_option maxHeartbeats 8000000 in
theorem zne_copies_8_o1 {ro : Nat → List Int32} (xs : List Int) (η0 : zE) (hp : sP wl_ne zTr zPne_copies_8 xs η0) (hpp : pPne_copies_8 xs η0) (x1 x2 : Int) (η : zE) (hI : zsI wl_ne zTr zVne_copies_8 zMne_copies_8 η0 0 [x1, x2] η) (hig : iCne_copies_8 xs η0 0 [x1, x2] η) : (x2 < x1) → ∀ x3 : Int, x3 = zd 0 1 x1 x2 → ∀ x4 : Int, x4 = η 8 (Int.toNat x3) → zok 0 x4 → ∀ η1 : zE, η1 = zup η 8 (Int.toNat x2) x4 → ∀ x5 : Int, x5 = zd 0 1 x2 1 → (iCne_copies_8 xs η0) 0 [x1, x5] η1 ∧ (fun (_ : Nat) (_ : List Int) (_ : zE) => (0 : Nat)) 0 [x1, x5] η1 < 1 := by
  intro c1 x3 e3 x4 e4 r4 η1 eη1 x5 e5
  replace e3 := zEq_i e3
  replace e5 := zEq_i e5
  have bx1 : (4 : Int) ≤ x1 ∧ x1 ≤ 4 := hI.1.2.1.1
  have bx2 : (0 : Int) ≤ x2 ∧ x2 ≤ 4 := hI.1.2.1.2.1
  first
  | replace e3 : x3 = x1 + x2 := zd_a2 (zEq_o e3) (by clear e3; exact ⟨by omega, by omega⟩)
  | clear e3
  replace e4 : x4 = η 8 (Int.toNat x3) := e4
  replace r4 : -2147483648 ≤ x4 ∧ x4 ≤ 2147483647 := r4
  first
  | replace e5 : x5 = x2 + 1 := zd_a2 (zEq_o e5) (by clear e5; exact ⟨by omega, by omega⟩)
  | clear e5
  have bn : x1 = 4 := by omega
  have u1 : ∀ j : Nat, (j : Int) < x2 → η 8 j = η0 8 (4 + j) := hig.1
  have u2 : ∀ j : Nat, x2 ≤ (j : Int) → η 8 j = η0 8 j := hig.2
  refine ⟨⟨fun j hj => ?_, fun j hj => ?_⟩, Nat.zero_lt_one⟩
  · have hj : (j : Int) < x5 := hj
    by_cases q : j = Int.toNat x2
    · rw [eη1, q, zup_eq, e4, show Int.toNat x3 = 4 + Int.toNat x2 by omega]
      exact u2 _ (by omega)
    · rw [eη1, zup_ne (fun _ e => q e)]
      exact u1 j (by omega)
  · have hj : x5 ≤ (j : Int) := hj
    rw [eη1, zup_ne (fun _ e => by omega)]
    exact u2 j (by omega)
set_option maxHeartbeats 8000000 in
theorem zne_copies_8 {ro : Nat → List Int32} : zMet pr_P pr_K pr_df ro (sm_X0 1 6) 0 129 tm_ne [(.inr (.inr (.inl (nat_lit 8)))), (.inl (nat_lit 0, (.ofNat (nat_lit 4))))] 0 [] [] (fun xs η => sP wl_ne zTr zPne_copies_8 xs η ∧ pPne_copies_8 xs η) (fun xs η y η' => sQ wl_ne zTr zOne_copies_8 zMne_copies_8 xs η y η' ∧ pQne_copies_8 xs η y η') :=
  zmet_alt (zmea_gen (mi := (nat_lit 2, nat_lit 0, nat_lit 8, nat_lit 3, nat_lit 0, tX8_copies)) (cd := []) (cu := zUne_copies_8) (cs := []) (iv := zVne_copies_8) (po := [zOne_copies_8]) (pr := zPne_copies_8) (mods := zMne_copies_8) (D7 := zDne_copies_8) (D0 := zEne_copies_8) (Dm := zFne_copies_8) (f0 := 7) pCne_copies_8 qCne_copies_8 iCne_copies_8 pPne_copies_8 (fun xs η _ y η' => pQne_copies_8 xs η y η') zX_low pr_mtR rfl (fun _ h => nomatch h) (by decide +kernel) (by decide +kernel) (by decide +kernel)
    (by
      intro xs η hr hl hp hpp
      match xs, hl, hp, hpp with
      | [], _, hp, hpp =>
        refine List.forall_mem_cons.mpr ⟨?_, fun _ h => nomatch h⟩
        · refine zden_L (n := 1) (ρ := [0]) rfl ?_
          show (iCne_copies_8 [] η) 0 [4, 0] η
          exact ⟨fun j hj => absurd (show (j : Int) < 0 from hj) (by omega), fun j _ => rfl⟩
      )
    (fun _ _ _ _ _ _ _ h => nomatch h)
    (List.forall_mem_cons.mpr ⟨⟨zDne_copies_8_0, zEne_copies_8_0, zFne_copies_8_0, 18, by decide +kernel, (by
      intro xs η0 hlx hp hpp ys η hr hl hI hig
      match ys, hl, hI, hig with
      | [x1, x2], _, hI, hig =>
        refine ⟨?_, ?_⟩
        · refine List.forall_mem_cons.mpr ⟨?_, List.forall_mem_cons.mpr ⟨?_, fun _ h => nomatch h⟩⟩
          · refine zden_L (n := 3) (ρ := [x2, x1, 0]) rfl ?_
            exact zne_copies_8_o0 (ro := ro) xs η0 hp hpp x1 x2 η hI hig
          · refine zden_L (n := 3) (ρ := [x2, x1, 0]) rfl ?_
            exact zne_copies_8_o1 (ro := ro) xs η0 hp hpp x1 x2 η hI hig
        · exact fun _ h => nomatch h
      )⟩, (fun _ h => nomatch h)⟩))
def zPne_copies_9 : zPq := ([], [])
def zOne_copies_9 : zPo := (((.ofNat (nat_lit 0)), (.ofNat (nat_lit 0))), [], [])
def zMne_copies_9 : List zCe := [(nat_lit 9, nat_lit 0)]
def pPne_copies_9 : List Int → zE → Prop := fun _ _ => True
def pQne_copies_9 : List Int → zE → Int → zE → Prop := fun _ η _ η' => (∀ j : Nat, j < 4 → η' 9 j = η 9 (4 + j)) ∧ (∀ j : Nat, 4 ≤ j → η' 9 j = η 9 j)
def pCne_copies_9 : Nat → List Int → zE → Prop := fun c => match c with
  | _ => fun _ _ => True
def qCne_copies_9 : Nat → List Int → zE → Int → zE → Prop := fun c => match c with
  | _ => fun _ _ _ _ => True
def iCne_copies_9 : List Int → zE → Nat → List Int → zE → Prop := fun xs η0 c => match c with
  | 0 => fun ys η => ((∀ j : Nat, (j : Int) < ys.getD 1 0 → η 9 j = η0 9 (4 + j)) ∧ (∀ j : Nat, ys.getD 1 0 ≤ (j : Int) → η 9 j = η0 9 j))
  | _ => fun _ _ => True
def zVne_copies_9 : List zIv := [(nat_lit 0, ([((.ofNat (nat_lit 4)), (.ofNat (nat_lit 4))), ((.ofNat (nat_lit 0)), (.ofNat (nat_lit 4)))], []), ((.ofNat (nat_lit 4)), [((.negSucc (nat_lit 0)), nat_lit 0, nat_lit 1, nat_lit 0)]))]
def zUne_copies_9 : List zCu := [(nat_lit 2, nat_lit 0, [(nat_lit 0, (.inr (.inr (.inl (nat_lit 9))))), (nat_lit 1, (.inl (nat_lit 1, (.ofNat (nat_lit 0))))), (nat_lit 2, (.inl (nat_lit 2, (.ofNat (nat_lit 0)))))], [])]
def zDne_copies_9 : List (List zK) := []
def zEne_copies_9 : List (List zK) := [[(nat_lit 12, nat_lit 0, [(nat_lit 0, (.ofNat (nat_lit 4))), (nat_lit 0, (.ofNat (nat_lit 0)))])]]
def zFne_copies_9 : List (List zK) := []
def zDne_copies_9_0 : List (List zK) := [[(nat_lit 7, nat_lit 0, [(nat_lit 3, (.ofNat (nat_lit 0))), (nat_lit 0, (.ofNat (nat_lit 8)))]), (nat_lit 0, nat_lit 1, [(nat_lit 1, (.ofNat (nat_lit 0))), (nat_lit 2, (.ofNat (nat_lit 0)))]), (nat_lit 6, nat_lit 2, [(nat_lit 2, (.ofNat (nat_lit 0))), (nat_lit 1, (.ofNat (nat_lit 0)))])],
  [(nat_lit 7, nat_lit 0, [(nat_lit 2, (.ofNat (nat_lit 0))), (nat_lit 0, (.ofNat (nat_lit 8)))]), (nat_lit 4, nat_lit 0, [(nat_lit 9, (.ofNat (nat_lit 0))), (nat_lit 3, (.ofNat (nat_lit 0)))]), (nat_lit 0, nat_lit 1, [(nat_lit 1, (.ofNat (nat_lit 0))), (nat_lit 2, (.ofNat (nat_lit 0)))]), (nat_lit 6, nat_lit 2, [(nat_lit 2, (.ofNat (nat_lit 0))), (nat_lit 1, (.ofNat (nat_lit 0)))])]]
def zEne_copies_9_0 : List (List zK) := [[(nat_lit 11, nat_lit 0, [(nat_lit 0, (.ofNat (nat_lit 0)))]), (nat_lit 6, nat_lit 3, [(nat_lit 2, (.ofNat (nat_lit 0))), (nat_lit 1, (.ofNat (nat_lit 0)))])],
  [(nat_lit 10, nat_lit 0, [(nat_lit 1, (.ofNat (nat_lit 0))), (nat_lit 5, (.ofNat (nat_lit 0)))]), (nat_lit 0, nat_lit 1, [(nat_lit 2, (.ofNat (nat_lit 0))), (nat_lit 0, (.ofNat (nat_lit 1)))]), (nat_lit 5, nat_lit 0, [(nat_lit 9, (.ofNat (nat_lit 0))), (nat_lit 2, (.ofNat (nat_lit 0))), (nat_lit 4, (.ofNat (nat_lit 0)))]), (nat_lit 4, nat_lit 0, [(nat_lit 9, (.ofNat (nat_lit 0))), (nat_lit 3, (.ofNat (nat_lit 0)))]), (nat_lit 0, nat_lit 1, [(nat_lit 1, (.ofNat (nat_lit 0))), (nat_lit 2, (.ofNat (nat_lit 0)))]), (nat_lit 6, nat_lit 2, [(nat_lit 2, (.ofNat (nat_lit 0))), (nat_lit 1, (.ofNat (nat_lit 0)))])]]
def zFne_copies_9_0 : List (List zK) := []
set_option maxHeartbeats 8000000 in
theorem zne_copies_9_o0 {ro : Nat → List Int32} (xs : List Int) (η0 : zE) (hp : sP wl_ne zTr zPne_copies_9 xs η0) (hpp : pPne_copies_9 xs η0) (x1 x2 : Int) (η : zE) (hI : zsI wl_ne zTr zVne_copies_9 zMne_copies_9 η0 0 [x1, x2] η) (hig : iCne_copies_9 xs η0 0 [x1, x2] η) : (x1 ≤ x2) → (fun (_ : Nat) (y : Int) (η' : zE) => pQne_copies_9 xs η0 y η') 0 0 η := by
  intro c1
  have bx1 : (4 : Int) ≤ x1 ∧ x1 ≤ 4 := hI.1.2.1.1
  have bx2 : (0 : Int) ≤ x2 ∧ x2 ≤ 4 := hI.1.2.1.2.1
  have bn : x1 = 4 := by omega
  have u1 : ∀ j : Nat, (j : Int) < x2 → η 9 j = η0 9 (4 + j) := hig.1
  have u2 : ∀ j : Nat, x2 ≤ (j : Int) → η 9 j = η0 9 j := hig.2
  exact ⟨fun j hj => u1 j (by omega), fun j hj => u2 j (by omega)⟩
set_option maxHeartbeats 8000000 in
theorem zne_copies_9_o1 {ro : Nat → List Int32} (xs : List Int) (η0 : zE) (hp : sP wl_ne zTr zPne_copies_9 xs η0) (hpp : pPne_copies_9 xs η0) (x1 x2 : Int) (η : zE) (hI : zsI wl_ne zTr zVne_copies_9 zMne_copies_9 η0 0 [x1, x2] η) (hig : iCne_copies_9 xs η0 0 [x1, x2] η) : (x2 < x1) → ∀ x3 : Int, x3 = zd 0 1 x1 x2 → ∀ x4 : Int, x4 = η 9 (Int.toNat x3) → zok 0 x4 → ∀ η1 : zE, η1 = zup η 9 (Int.toNat x2) x4 → ∀ x5 : Int, x5 = zd 0 1 x2 1 → (iCne_copies_9 xs η0) 0 [x1, x5] η1 ∧ (fun (_ : Nat) (_ : List Int) (_ : zE) => (0 : Nat)) 0 [x1, x5] η1 < 1 := by
  intro c1 x3 e3 x4 e4 r4 η1 eη1 x5 e5
  replace e3 := zEq_i e3
  replace e5 := zEq_i e5
  have bx1 : (4 : Int) ≤ x1 ∧ x1 ≤ 4 := hI.1.2.1.1
  have bx2 : (0 : Int) ≤ x2 ∧ x2 ≤ 4 := hI.1.2.1.2.1
  first
  | replace e3 : x3 = x1 + x2 := zd_a2 (zEq_o e3) (by clear e3; exact ⟨by omega, by omega⟩)
  | clear e3
  replace e4 : x4 = η 9 (Int.toNat x3) := e4
  replace r4 : -2147483648 ≤ x4 ∧ x4 ≤ 2147483647 := r4
  first
  | replace e5 : x5 = x2 + 1 := zd_a2 (zEq_o e5) (by clear e5; exact ⟨by omega, by omega⟩)
  | clear e5
  have bn : x1 = 4 := by omega
  have u1 : ∀ j : Nat, (j : Int) < x2 → η 9 j = η0 9 (4 + j) := hig.1
  have u2 : ∀ j : Nat, x2 ≤ (j : Int) → η 9 j = η0 9 j := hig.2
  refine ⟨⟨fun j hj => ?_, fun j hj => ?_⟩, Nat.zero_lt_one⟩
  · have hj : (j : Int) < x5 := hj
    by_cases q : j = Int.toNat x2
    · rw [eη1, q, zup_eq, e4, show Int.toNat x3 = 4 + Int.toNat x2 by omega]
      exact u2 _ (by omega)
    · rw [eη1, zup_ne (fun _ e => q e)]
      exact u1 j (by omega)
  · have hj : x5 ≤ (j : Int) := hj
    rw [eη1, zup_ne (fun _ e => by omega)]
    exact u2 j (by omega)
set_option maxHeartbeats 8000000 in
theorem zne_copies_9 {ro : Nat → List Int32} : zMet pr_P pr_K pr_df ro (sm_X0 1 6) 0 129 tm_ne [(.inr (.inr (.inl (nat_lit 9)))), (.inl (nat_lit 0, (.ofNat (nat_lit 4))))] 0 [] [] (fun xs η => sP wl_ne zTr zPne_copies_9 xs η ∧ pPne_copies_9 xs η) (fun xs η y η' => sQ wl_ne zTr zOne_copies_9 zMne_copies_9 xs η y η' ∧ pQne_copies_9 xs η y η') :=
  zmet_alt (zmea_gen (mi := (nat_lit 2, nat_lit 0, nat_lit 8, nat_lit 3, nat_lit 0, tX8_copies)) (cd := []) (cu := zUne_copies_9) (cs := []) (iv := zVne_copies_9) (po := [zOne_copies_9]) (pr := zPne_copies_9) (mods := zMne_copies_9) (D7 := zDne_copies_9) (D0 := zEne_copies_9) (Dm := zFne_copies_9) (f0 := 7) pCne_copies_9 qCne_copies_9 iCne_copies_9 pPne_copies_9 (fun xs η _ y η' => pQne_copies_9 xs η y η') zX_low pr_mtR rfl (fun _ h => nomatch h) (by decide +kernel) (by decide +kernel) (by decide +kernel)
    (by
      intro xs η hr hl hp hpp
      match xs, hl, hp, hpp with
      | [], _, hp, hpp =>
        refine List.forall_mem_cons.mpr ⟨?_, fun _ h => nomatch h⟩
        · refine zden_L (n := 1) (ρ := [0]) rfl ?_
          show (iCne_copies_9 [] η) 0 [4, 0] η
          exact ⟨fun j hj => absurd (show (j : Int) < 0 from hj) (by omega), fun j _ => rfl⟩
      )
    (fun _ _ _ _ _ _ _ h => nomatch h)
    (List.forall_mem_cons.mpr ⟨⟨zDne_copies_9_0, zEne_copies_9_0, zFne_copies_9_0, 18, by decide +kernel, (by
      intro xs η0 hlx hp hpp ys η hr hl hI hig
      match ys, hl, hI, hig with
      | [x1, x2], _, hI, hig =>
        refine ⟨?_, ?_⟩
        · refine List.forall_mem_cons.mpr ⟨?_, List.forall_mem_cons.mpr ⟨?_, fun _ h => nomatch h⟩⟩
          · refine zden_L (n := 3) (ρ := [x2, x1, 0]) rfl ?_
            exact zne_copies_9_o0 (ro := ro) xs η0 hp hpp x1 x2 η hI hig
          · refine zden_L (n := 3) (ρ := [x2, x1, 0]) rfl ?_
            exact zne_copies_9_o1 (ro := ro) xs η0 hp hpp x1 x2 η hI hig
        · exact fun _ h => nomatch h
      )⟩, (fun _ h => nomatch h)⟩))
def zPne_copies_10 : zPq := ([], [])
def zOne_copies_10 : zPo := (((.ofNat (nat_lit 0)), (.ofNat (nat_lit 0))), [], [])
def zMne_copies_10 : List zCe := [(nat_lit 10, nat_lit 0)]
def pPne_copies_10 : List Int → zE → Prop := fun _ _ => True
def pQne_copies_10 : List Int → zE → Int → zE → Prop := fun _ η _ η' => (∀ j : Nat, j < 4 → η' 10 j = η 10 (4 + j)) ∧ (∀ j : Nat, 4 ≤ j → η' 10 j = η 10 j)
def pCne_copies_10 : Nat → List Int → zE → Prop := fun c => match c with
  | _ => fun _ _ => True
def qCne_copies_10 : Nat → List Int → zE → Int → zE → Prop := fun c => match c with
  | _ => fun _ _ _ _ => True
def iCne_copies_10 : List Int → zE → Nat → List Int → zE → Prop := fun xs η0 c => match c with
  | 0 => fun ys η => ((∀ j : Nat, (j : Int) < ys.getD 1 0 → η 10 j = η0 10 (4 + j)) ∧ (∀ j : Nat, ys.getD 1 0 ≤ (j : Int) → η 10 j = η0 10 j))
  | _ => fun _ _ => True
def zVne_copies_10 : List zIv := [(nat_lit 0, ([((.ofNat (nat_lit 4)), (.ofNat (nat_lit 4))), ((.ofNat (nat_lit 0)), (.ofNat (nat_lit 4)))], []), ((.ofNat (nat_lit 4)), [((.negSucc (nat_lit 0)), nat_lit 0, nat_lit 1, nat_lit 0)]))]
def zUne_copies_10 : List zCu := [(nat_lit 2, nat_lit 0, [(nat_lit 0, (.inr (.inr (.inl (nat_lit 10))))), (nat_lit 1, (.inl (nat_lit 1, (.ofNat (nat_lit 0))))), (nat_lit 2, (.inl (nat_lit 2, (.ofNat (nat_lit 0)))))], [])]
def zDne_copies_10 : List (List zK) := []
def zEne_copies_10 : List (List zK) := [[(nat_lit 12, nat_lit 0, [(nat_lit 0, (.ofNat (nat_lit 4))), (nat_lit 0, (.ofNat (nat_lit 0)))])]]
def zFne_copies_10 : List (List zK) := []
def zDne_copies_10_0 : List (List zK) := [[(nat_lit 7, nat_lit 0, [(nat_lit 3, (.ofNat (nat_lit 0))), (nat_lit 0, (.ofNat (nat_lit 8)))]), (nat_lit 0, nat_lit 1, [(nat_lit 1, (.ofNat (nat_lit 0))), (nat_lit 2, (.ofNat (nat_lit 0)))]), (nat_lit 6, nat_lit 2, [(nat_lit 2, (.ofNat (nat_lit 0))), (nat_lit 1, (.ofNat (nat_lit 0)))])],
  [(nat_lit 7, nat_lit 0, [(nat_lit 2, (.ofNat (nat_lit 0))), (nat_lit 0, (.ofNat (nat_lit 8)))]), (nat_lit 4, nat_lit 0, [(nat_lit 10, (.ofNat (nat_lit 0))), (nat_lit 3, (.ofNat (nat_lit 0)))]), (nat_lit 0, nat_lit 1, [(nat_lit 1, (.ofNat (nat_lit 0))), (nat_lit 2, (.ofNat (nat_lit 0)))]), (nat_lit 6, nat_lit 2, [(nat_lit 2, (.ofNat (nat_lit 0))), (nat_lit 1, (.ofNat (nat_lit 0)))])]]
def zEne_copies_10_0 : List (List zK) := [[(nat_lit 11, nat_lit 0, [(nat_lit 0, (.ofNat (nat_lit 0)))]), (nat_lit 6, nat_lit 3, [(nat_lit 2, (.ofNat (nat_lit 0))), (nat_lit 1, (.ofNat (nat_lit 0)))])],
  [(nat_lit 10, nat_lit 0, [(nat_lit 1, (.ofNat (nat_lit 0))), (nat_lit 5, (.ofNat (nat_lit 0)))]), (nat_lit 0, nat_lit 1, [(nat_lit 2, (.ofNat (nat_lit 0))), (nat_lit 0, (.ofNat (nat_lit 1)))]), (nat_lit 5, nat_lit 0, [(nat_lit 10, (.ofNat (nat_lit 0))), (nat_lit 2, (.ofNat (nat_lit 0))), (nat_lit 4, (.ofNat (nat_lit 0)))]), (nat_lit 4, nat_lit 0, [(nat_lit 10, (.ofNat (nat_lit 0))), (nat_lit 3, (.ofNat (nat_lit 0)))]), (nat_lit 0, nat_lit 1, [(nat_lit 1, (.ofNat (nat_lit 0))), (nat_lit 2, (.ofNat (nat_lit 0)))]), (nat_lit 6, nat_lit 2, [(nat_lit 2, (.ofNat (nat_lit 0))), (nat_lit 1, (.ofNat (nat_lit 0)))])]]
def zFne_copies_10_0 : List (List zK) := []
set_option maxHeartbeats 8000000 in
theorem zne_copies_10_o0 {ro : Nat → List Int32} (xs : List Int) (η0 : zE) (hp : sP wl_ne zTr zPne_copies_10 xs η0) (hpp : pPne_copies_10 xs η0) (x1 x2 : Int) (η : zE) (hI : zsI wl_ne zTr zVne_copies_10 zMne_copies_10 η0 0 [x1, x2] η) (hig : iCne_copies_10 xs η0 0 [x1, x2] η) : (x1 ≤ x2) → (fun (_ : Nat) (y : Int) (η' : zE) => pQne_copies_10 xs η0 y η') 0 0 η := by
  intro c1
  have bx1 : (4 : Int) ≤ x1 ∧ x1 ≤ 4 := hI.1.2.1.1
  have bx2 : (0 : Int) ≤ x2 ∧ x2 ≤ 4 := hI.1.2.1.2.1
  have bn : x1 = 4 := by omega
  have u1 : ∀ j : Nat, (j : Int) < x2 → η 10 j = η0 10 (4 + j) := hig.1
  have u2 : ∀ j : Nat, x2 ≤ (j : Int) → η 10 j = η0 10 j := hig.2
  exact ⟨fun j hj => u1 j (by omega), fun j hj => u2 j (by omega)⟩
set_option maxHeartbeats 8000000 in
theorem zne_copies_10_o1 {ro : Nat → List Int32} (xs : List Int) (η0 : zE) (hp : sP wl_ne zTr zPne_copies_10 xs η0) (hpp : pPne_copies_10 xs η0) (x1 x2 : Int) (η : zE) (hI : zsI wl_ne zTr zVne_copies_10 zMne_copies_10 η0 0 [x1, x2] η) (hig : iCne_copies_10 xs η0 0 [x1, x2] η) : (x2 < x1) → ∀ x3 : Int, x3 = zd 0 1 x1 x2 → ∀ x4 : Int, x4 = η 10 (Int.toNat x3) → zok 0 x4 → ∀ η1 : zE, η1 = zup η 10 (Int.toNat x2) x4 → ∀ x5 : Int, x5 = zd 0 1 x2 1 → (iCne_copies_10 xs η0) 0 [x1, x5] η1 ∧ (fun (_ : Nat) (_ : List Int) (_ : zE) => (0 : Nat)) 0 [x1, x5] η1 < 1 := by
  intro c1 x3 e3 x4 e4 r4 η1 eη1 x5 e5
  replace e3 := zEq_i e3
  replace e5 := zEq_i e5
  have bx1 : (4 : Int) ≤ x1 ∧ x1 ≤ 4 := hI.1.2.1.1
  have bx2 : (0 : Int) ≤ x2 ∧ x2 ≤ 4 := hI.1.2.1.2.1
  first
  | replace e3 : x3 = x1 + x2 := zd_a2 (zEq_o e3) (by clear e3; exact ⟨by omega, by omega⟩)
  | clear e3
  replace e4 : x4 = η 10 (Int.toNat x3) := e4
  replace r4 : -2147483648 ≤ x4 ∧ x4 ≤ 2147483647 := r4
  first
  | replace e5 : x5 = x2 + 1 := zd_a2 (zEq_o e5) (by clear e5; exact ⟨by omega, by omega⟩)
  | clear e5
  have bn : x1 = 4 := by omega
  have u1 : ∀ j : Nat, (j : Int) < x2 → η 10 j = η0 10 (4 + j) := hig.1
  have u2 : ∀ j : Nat, x2 ≤ (j : Int) → η 10 j = η0 10 j := hig.2
  refine ⟨⟨fun j hj => ?_, fun j hj => ?_⟩, Nat.zero_lt_one⟩
  · have hj : (j : Int) < x5 := hj
    by_cases q : j = Int.toNat x2
    · rw [eη1, q, zup_eq, e4, show Int.toNat x3 = 4 + Int.toNat x2 by omega]
      exact u2 _ (by omega)
    · rw [eη1, zup_ne (fun _ e => q e)]
      exact u1 j (by omega)
  · have hj : x5 ≤ (j : Int) := hj
    rw [eη1, zup_ne (fun _ e => by omega)]
    exact u2 j (by omega)
set_option maxHeartbeats 8000000 in
theorem zne_copies_10 {ro : Nat → List Int32} : zMet pr_P pr_K pr_df ro (sm_X0 1 6) 0 129 tm_ne [(.inr (.inr (.inl (nat_lit 10)))), (.inl (nat_lit 0, (.ofNat (nat_lit 4))))] 0 [] [] (fun xs η => sP wl_ne zTr zPne_copies_10 xs η ∧ pPne_copies_10 xs η) (fun xs η y η' => sQ wl_ne zTr zOne_copies_10 zMne_copies_10 xs η y η' ∧ pQne_copies_10 xs η y η') :=
  zmet_alt (zmea_gen (mi := (nat_lit 2, nat_lit 0, nat_lit 8, nat_lit 3, nat_lit 0, tX8_copies)) (cd := []) (cu := zUne_copies_10) (cs := []) (iv := zVne_copies_10) (po := [zOne_copies_10]) (pr := zPne_copies_10) (mods := zMne_copies_10) (D7 := zDne_copies_10) (D0 := zEne_copies_10) (Dm := zFne_copies_10) (f0 := 7) pCne_copies_10 qCne_copies_10 iCne_copies_10 pPne_copies_10 (fun xs η _ y η' => pQne_copies_10 xs η y η') zX_low pr_mtR rfl (fun _ h => nomatch h) (by decide +kernel) (by decide +kernel) (by decide +kernel)
    (by
      intro xs η hr hl hp hpp
      match xs, hl, hp, hpp with
      | [], _, hp, hpp =>
        refine List.forall_mem_cons.mpr ⟨?_, fun _ h => nomatch h⟩
        · refine zden_L (n := 1) (ρ := [0]) rfl ?_
          show (iCne_copies_10 [] η) 0 [4, 0] η
          exact ⟨fun j hj => absurd (show (j : Int) < 0 from hj) (by omega), fun j _ => rfl⟩
      )
    (fun _ _ _ _ _ _ _ h => nomatch h)
    (List.forall_mem_cons.mpr ⟨⟨zDne_copies_10_0, zEne_copies_10_0, zFne_copies_10_0, 18, by decide +kernel, (by
      intro xs η0 hlx hp hpp ys η hr hl hI hig
      match ys, hl, hI, hig with
      | [x1, x2], _, hI, hig =>
        refine ⟨?_, ?_⟩
        · refine List.forall_mem_cons.mpr ⟨?_, List.forall_mem_cons.mpr ⟨?_, fun _ h => nomatch h⟩⟩
          · refine zden_L (n := 3) (ρ := [x2, x1, 0]) rfl ?_
            exact zne_copies_10_o0 (ro := ro) xs η0 hp hpp x1 x2 η hI hig
          · refine zden_L (n := 3) (ρ := [x2, x1, 0]) rfl ?_
            exact zne_copies_10_o1 (ro := ro) xs η0 hp hpp x1 x2 η hI hig
        · exact fun _ h => nomatch h
      )⟩, (fun _ h => nomatch h)⟩))
def zPne_copies_11 : zPq := ([], [])
def zOne_copies_11 : zPo := (((.ofNat (nat_lit 0)), (.ofNat (nat_lit 0))), [], [])
def zMne_copies_11 : List zCe := [(nat_lit 11, nat_lit 0)]
def pPne_copies_11 : List Int → zE → Prop := fun _ _ => True
def pQne_copies_11 : List Int → zE → Int → zE → Prop := fun _ η _ η' => (∀ j : Nat, j < 4 → η' 11 j = η 11 (4 + j)) ∧ (∀ j : Nat, 4 ≤ j → η' 11 j = η 11 j)
def pCne_copies_11 : Nat → List Int → zE → Prop := fun c => match c with
  | _ => fun _ _ => True
def qCne_copies_11 : Nat → List Int → zE → Int → zE → Prop := fun c => match c with
  | _ => fun _ _ _ _ => True
def iCne_copies_11 : List Int → zE → Nat → List Int → zE → Prop := fun xs η0 c => match c with
  | 0 => fun ys η => ((∀ j : Nat, (j : Int) < ys.getD 1 0 → η 11 j = η0 11 (4 + j)) ∧ (∀ j : Nat, ys.getD 1 0 ≤ (j : Int) → η 11 j = η0 11 j))
  | _ => fun _ _ => True
def zVne_copies_11 : List zIv := [(nat_lit 0, ([((.ofNat (nat_lit 4)), (.ofNat (nat_lit 4))), ((.ofNat (nat_lit 0)), (.ofNat (nat_lit 4)))], []), ((.ofNat (nat_lit 4)), [((.negSucc (nat_lit 0)), nat_lit 0, nat_lit 1, nat_lit 0)]))]
def zUne_copies_11 : List zCu := [(nat_lit 2, nat_lit 0, [(nat_lit 0, (.inr (.inr (.inl (nat_lit 11))))), (nat_lit 1, (.inl (nat_lit 1, (.ofNat (nat_lit 0))))), (nat_lit 2, (.inl (nat_lit 2, (.ofNat (nat_lit 0)))))], [])]
def zDne_copies_11 : List (List zK) := []
def zEne_copies_11 : List (List zK) := [[(nat_lit 12, nat_lit 0, [(nat_lit 0, (.ofNat (nat_lit 4))), (nat_lit 0, (.ofNat (nat_lit 0)))])]]
def zFne_copies_11 : List (List zK) := []
def zDne_copies_11_0 : List (List zK) := [[(nat_lit 7, nat_lit 0, [(nat_lit 3, (.ofNat (nat_lit 0))), (nat_lit 0, (.ofNat (nat_lit 8)))]), (nat_lit 0, nat_lit 1, [(nat_lit 1, (.ofNat (nat_lit 0))), (nat_lit 2, (.ofNat (nat_lit 0)))]), (nat_lit 6, nat_lit 2, [(nat_lit 2, (.ofNat (nat_lit 0))), (nat_lit 1, (.ofNat (nat_lit 0)))])],
  [(nat_lit 7, nat_lit 0, [(nat_lit 2, (.ofNat (nat_lit 0))), (nat_lit 0, (.ofNat (nat_lit 8)))]), (nat_lit 4, nat_lit 0, [(nat_lit 11, (.ofNat (nat_lit 0))), (nat_lit 3, (.ofNat (nat_lit 0)))]), (nat_lit 0, nat_lit 1, [(nat_lit 1, (.ofNat (nat_lit 0))), (nat_lit 2, (.ofNat (nat_lit 0)))]), (nat_lit 6, nat_lit 2, [(nat_lit 2, (.ofNat (nat_lit 0))), (nat_lit 1, (.ofNat (nat_lit 0)))])]]
def zEne_copies_11_0 : List (List zK) := [[(nat_lit 11, nat_lit 0, [(nat_lit 0, (.ofNat (nat_lit 0)))]), (nat_lit 6, nat_lit 3, [(nat_lit 2, (.ofNat (nat_lit 0))), (nat_lit 1, (.ofNat (nat_lit 0)))])],
  [(nat_lit 10, nat_lit 0, [(nat_lit 1, (.ofNat (nat_lit 0))), (nat_lit 5, (.ofNat (nat_lit 0)))]), (nat_lit 0, nat_lit 1, [(nat_lit 2, (.ofNat (nat_lit 0))), (nat_lit 0, (.ofNat (nat_lit 1)))]), (nat_lit 5, nat_lit 0, [(nat_lit 11, (.ofNat (nat_lit 0))), (nat_lit 2, (.ofNat (nat_lit 0))), (nat_lit 4, (.ofNat (nat_lit 0)))]), (nat_lit 4, nat_lit 0, [(nat_lit 11, (.ofNat (nat_lit 0))), (nat_lit 3, (.ofNat (nat_lit 0)))]), (nat_lit 0, nat_lit 1, [(nat_lit 1, (.ofNat (nat_lit 0))), (nat_lit 2, (.ofNat (nat_lit 0)))]), (nat_lit 6, nat_lit 2, [(nat_lit 2, (.ofNat (nat_lit 0))), (nat_lit 1, (.ofNat (nat_lit 0)))])]]
def zFne_copies_11_0 : List (List zK) := []
set_option maxHeartbeats 8000000 in
theorem zne_copies_11_o0 {ro : Nat → List Int32} (xs : List Int) (η0 : zE) (hp : sP wl_ne zTr zPne_copies_11 xs η0) (hpp : pPne_copies_11 xs η0) (x1 x2 : Int) (η : zE) (hI : zsI wl_ne zTr zVne_copies_11 zMne_copies_11 η0 0 [x1, x2] η) (hig : iCne_copies_11 xs η0 0 [x1, x2] η) : (x1 ≤ x2) → (fun (_ : Nat) (y : Int) (η' : zE) => pQne_copies_11 xs η0 y η') 0 0 η := by
  intro c1
  have bx1 : (4 : Int) ≤ x1 ∧ x1 ≤ 4 := hI.1.2.1.1
  have bx2 : (0 : Int) ≤ x2 ∧ x2 ≤ 4 := hI.1.2.1.2.1
  have bn : x1 = 4 := by omega
  have u1 : ∀ j : Nat, (j : Int) < x2 → η 11 j = η0 11 (4 + j) := hig.1
  have u2 : ∀ j : Nat, x2 ≤ (j : Int) → η 11 j = η0 11 j := hig.2
  exact ⟨fun j hj => u1 j (by omega), fun j hj => u2 j (by omega)⟩
set_option maxHeartbeats 8000000 in
theorem zne_copies_11_o1 {ro : Nat → List Int32} (xs : List Int) (η0 : zE) (hp : sP wl_ne zTr zPne_copies_11 xs η0) (hpp : pPne_copies_11 xs η0) (x1 x2 : Int) (η : zE) (hI : zsI wl_ne zTr zVne_copies_11 zMne_copies_11 η0 0 [x1, x2] η) (hig : iCne_copies_11 xs η0 0 [x1, x2] η) : (x2 < x1) → ∀ x3 : Int, x3 = zd 0 1 x1 x2 → ∀ x4 : Int, x4 = η 11 (Int.toNat x3) → zok 0 x4 → ∀ η1 : zE, η1 = zup η 11 (Int.toNat x2) x4 → ∀ x5 : Int, x5 = zd 0 1 x2 1 → (iCne_copies_11 xs η0) 0 [x1, x5] η1 ∧ (fun (_ : Nat) (_ : List Int) (_ : zE) => (0 : Nat)) 0 [x1, x5] η1 < 1 := by
  intro c1 x3 e3 x4 e4 r4 η1 eη1 x5 e5
  replace e3 := zEq_i e3
  replace e5 := zEq_i e5
  have bx1 : (4 : Int) ≤ x1 ∧ x1 ≤ 4 := hI.1.2.1.1
  have bx2 : (0 : Int) ≤ x2 ∧ x2 ≤ 4 := hI.1.2.1.2.1
  first
  | replace e3 : x3 = x1 + x2 := zd_a2 (zEq_o e3) (by clear e3; exact ⟨by omega, by omega⟩)
  | clear e3
  replace e4 : x4 = η 11 (Int.toNat x3) := e4
  replace r4 : -2147483648 ≤ x4 ∧ x4 ≤ 2147483647 := r4
  first
  | replace e5 : x5 = x2 + 1 := zd_a2 (zEq_o e5) (by clear e5; exact ⟨by omega, by omega⟩)
  | clear e5
  have bn : x1 = 4 := by omega
  have u1 : ∀ j : Nat, (j : Int) < x2 → η 11 j = η0 11 (4 + j) := hig.1
  have u2 : ∀ j : Nat, x2 ≤ (j : Int) → η 11 j = η0 11 j := hig.2
  refine ⟨⟨fun j hj => ?_, fun j hj => ?_⟩, Nat.zero_lt_one⟩
  · have hj : (j : Int) < x5 := hj
    by_cases q : j = Int.toNat x2
    · rw [eη1, q, zup_eq, e4, show Int.toNat x3 = 4 + Int.toNat x2 by omega]
      exact u2 _ (by omega)
    · rw [eη1, zup_ne (fun _ e => q e)]
      exact u1 j (by omega)
  · have hj : x5 ≤ (j : Int) := hj
    rw [eη1, zup_ne (fun _ e => by omega)]
    exact u2 j (by omega)
set_option maxHeartbeats 8000000 in
theorem zne_copies_11 {ro : Nat → List Int32} : zMet pr_P pr_K pr_df ro (sm_X0 1 6) 0 129 tm_ne [(.inr (.inr (.inl (nat_lit 11)))), (.inl (nat_lit 0, (.ofNat (nat_lit 4))))] 0 [] [] (fun xs η => sP wl_ne zTr zPne_copies_11 xs η ∧ pPne_copies_11 xs η) (fun xs η y η' => sQ wl_ne zTr zOne_copies_11 zMne_copies_11 xs η y η' ∧ pQne_copies_11 xs η y η') :=
  zmet_alt (zmea_gen (mi := (nat_lit 2, nat_lit 0, nat_lit 8, nat_lit 3, nat_lit 0, tX8_copies)) (cd := []) (cu := zUne_copies_11) (cs := []) (iv := zVne_copies_11) (po := [zOne_copies_11]) (pr := zPne_copies_11) (mods := zMne_copies_11) (D7 := zDne_copies_11) (D0 := zEne_copies_11) (Dm := zFne_copies_11) (f0 := 7) pCne_copies_11 qCne_copies_11 iCne_copies_11 pPne_copies_11 (fun xs η _ y η' => pQne_copies_11 xs η y η') zX_low pr_mtR rfl (fun _ h => nomatch h) (by decide +kernel) (by decide +kernel) (by decide +kernel)
    (by
      intro xs η hr hl hp hpp
      match xs, hl, hp, hpp with
      | [], _, hp, hpp =>
        refine List.forall_mem_cons.mpr ⟨?_, fun _ h => nomatch h⟩
        · refine zden_L (n := 1) (ρ := [0]) rfl ?_
          show (iCne_copies_11 [] η) 0 [4, 0] η
          exact ⟨fun j hj => absurd (show (j : Int) < 0 from hj) (by omega), fun j _ => rfl⟩
      )
    (fun _ _ _ _ _ _ _ h => nomatch h)
    (List.forall_mem_cons.mpr ⟨⟨zDne_copies_11_0, zEne_copies_11_0, zFne_copies_11_0, 18, by decide +kernel, (by
      intro xs η0 hlx hp hpp ys η hr hl hI hig
      match ys, hl, hI, hig with
      | [x1, x2], _, hI, hig =>
        refine ⟨?_, ?_⟩
        · refine List.forall_mem_cons.mpr ⟨?_, List.forall_mem_cons.mpr ⟨?_, fun _ h => nomatch h⟩⟩
          · refine zden_L (n := 3) (ρ := [x2, x1, 0]) rfl ?_
            exact zne_copies_11_o0 (ro := ro) xs η0 hp hpp x1 x2 η hI hig
          · refine zden_L (n := 3) (ρ := [x2, x1, 0]) rfl ?_
            exact zne_copies_11_o1 (ro := ro) xs η0 hp hpp x1 x2 η hI hig
        · exact fun _ h => nomatch h
      )⟩, (fun _ h => nomatch h)⟩))
def zPne_copies_12 : zPq := ([], [])
def zOne_copies_12 : zPo := (((.ofNat (nat_lit 0)), (.ofNat (nat_lit 0))), [], [])
def zMne_copies_12 : List zCe := [(nat_lit 12, nat_lit 0)]
def pPne_copies_12 : List Int → zE → Prop := fun _ _ => True
def pQne_copies_12 : List Int → zE → Int → zE → Prop := fun _ η _ η' => (∀ j : Nat, j < 4 → η' 12 j = η 12 (4 + j)) ∧ (∀ j : Nat, 4 ≤ j → η' 12 j = η 12 j)
def pCne_copies_12 : Nat → List Int → zE → Prop := fun c => match c with
  | _ => fun _ _ => True
def qCne_copies_12 : Nat → List Int → zE → Int → zE → Prop := fun c => match c with
  | _ => fun _ _ _ _ => True
def iCne_copies_12 : List Int → zE → Nat → List Int → zE → Prop := fun xs η0 c => match c with
  | 0 => fun ys η => ((∀ j : Nat, (j : Int) < ys.getD 1 0 → η 12 j = η0 12 (4 + j)) ∧ (∀ j : Nat, ys.getD 1 0 ≤ (j : Int) → η 12 j = η0 12 j))
  | _ => fun _ _ => True
def zVne_copies_12 : List zIv := [(nat_lit 0, ([((.ofNat (nat_lit 4)), (.ofNat (nat_lit 4))), ((.ofNat (nat_lit 0)), (.ofNat (nat_lit 4)))], []), ((.ofNat (nat_lit 4)), [((.negSucc (nat_lit 0)), nat_lit 0, nat_lit 1, nat_lit 0)]))]
def zUne_copies_12 : List zCu := [(nat_lit 2, nat_lit 0, [(nat_lit 0, (.inr (.inr (.inl (nat_lit 12))))), (nat_lit 1, (.inl (nat_lit 1, (.ofNat (nat_lit 0))))), (nat_lit 2, (.inl (nat_lit 2, (.ofNat (nat_lit 0)))))], [])]
def zDne_copies_12 : List (List zK) := []
def zEne_copies_12 : List (List zK) := [[(nat_lit 12, nat_lit 0, [(nat_lit 0, (.ofNat (nat_lit 4))), (nat_lit 0, (.ofNat (nat_lit 0)))])]]
def zFne_copies_12 : List (List zK) := []
def zDne_copies_12_0 : List (List zK) := [[(nat_lit 7, nat_lit 0, [(nat_lit 3, (.ofNat (nat_lit 0))), (nat_lit 0, (.ofNat (nat_lit 8)))]), (nat_lit 0, nat_lit 1, [(nat_lit 1, (.ofNat (nat_lit 0))), (nat_lit 2, (.ofNat (nat_lit 0)))]), (nat_lit 6, nat_lit 2, [(nat_lit 2, (.ofNat (nat_lit 0))), (nat_lit 1, (.ofNat (nat_lit 0)))])],
  [(nat_lit 7, nat_lit 0, [(nat_lit 2, (.ofNat (nat_lit 0))), (nat_lit 0, (.ofNat (nat_lit 8)))]), (nat_lit 4, nat_lit 0, [(nat_lit 12, (.ofNat (nat_lit 0))), (nat_lit 3, (.ofNat (nat_lit 0)))]), (nat_lit 0, nat_lit 1, [(nat_lit 1, (.ofNat (nat_lit 0))), (nat_lit 2, (.ofNat (nat_lit 0)))]), (nat_lit 6, nat_lit 2, [(nat_lit 2, (.ofNat (nat_lit 0))), (nat_lit 1, (.ofNat (nat_lit 0)))])]]
def zEne_copies_12_0 : List (List zK) := [[(nat_lit 11, nat_lit 0, [(nat_lit 0, (.ofNat (nat_lit 0)))]), (nat_lit 6, nat_lit 3, [(nat_lit 2, (.ofNat (nat_lit 0))), (nat_lit 1, (.ofNat (nat_lit 0)))])],
  [(nat_lit 10, nat_lit 0, [(nat_lit 1, (.ofNat (nat_lit 0))), (nat_lit 5, (.ofNat (nat_lit 0)))]), (nat_lit 0, nat_lit 1, [(nat_lit 2, (.ofNat (nat_lit 0))), (nat_lit 0, (.ofNat (nat_lit 1)))]), (nat_lit 5, nat_lit 0, [(nat_lit 12, (.ofNat (nat_lit 0))), (nat_lit 2, (.ofNat (nat_lit 0))), (nat_lit 4, (.ofNat (nat_lit 0)))]), (nat_lit 4, nat_lit 0, [(nat_lit 12, (.ofNat (nat_lit 0))), (nat_lit 3, (.ofNat (nat_lit 0)))]), (nat_lit 0, nat_lit 1, [(nat_lit 1, (.ofNat (nat_lit 0))), (nat_lit 2, (.ofNat (nat_lit 0)))]), (nat_lit 6, nat_lit 2, [(nat_lit 2, (.ofNat (nat_lit 0))), (nat_lit 1, (.ofNat (nat_lit 0)))])]]
def zFne_copies_12_0 : List (List zK) := []
set_option maxHeartbeats 8000000 in
theorem zne_copies_12_o0 {ro : Nat → List Int32} (xs : List Int) (η0 : zE) (hp : sP wl_ne zTr zPne_copies_12 xs η0) (hpp : pPne_copies_12 xs η0) (x1 x2 : Int) (η : zE) (hI : zsI wl_ne zTr zVne_copies_12 zMne_copies_12 η0 0 [x1, x2] η) (hig : iCne_copies_12 xs η0 0 [x1, x2] η) : (x1 ≤ x2) → (fun (_ : Nat) (y : Int) (η' : zE) => pQne_copies_12 xs η0 y η') 0 0 η := by
  intro c1
  have bx1 : (4 : Int) ≤ x1 ∧ x1 ≤ 4 := hI.1.2.1.1
  have bx2 : (0 : Int) ≤ x2 ∧ x2 ≤ 4 := hI.1.2.1.2.1
  have bn : x1 = 4 := by omega
  have u1 : ∀ j : Nat, (j : Int) < x2 → η 12 j = η0 12 (4 + j) := hig.1
  have u2 : ∀ j : Nat, x2 ≤ (j : Int) → η 12 j = η0 12 j := hig.2
  exact ⟨fun j hj => u1 j (by omega), fun j hj => u2 j (by omega)⟩
set_option maxHeartbeats 8000000 in
theorem zne_copies_12_o1 {ro : Nat → List Int32} (xs : List Int) (η0 : zE) (hp : sP wl_ne zTr zPne_copies_12 xs η0) (hpp : pPne_copies_12 xs η0) (x1 x2 : Int) (η : zE) (hI : zsI wl_ne zTr zVne_copies_12 zMne_copies_12 η0 0 [x1, x2] η) (hig : iCne_copies_12 xs η0 0 [x1, x2] η) : (x2 < x1) → ∀ x3 : Int, x3 = zd 0 1 x1 x2 → ∀ x4 : Int, x4 = η 12 (Int.toNat x3) → zok 0 x4 → ∀ η1 : zE, η1 = zup η 12 (Int.toNat x2) x4 → ∀ x5 : Int, x5 = zd 0 1 x2 1 → (iCne_copies_12 xs η0) 0 [x1, x5] η1 ∧ (fun (_ : Nat) (_ : List Int) (_ : zE) => (0 : Nat)) 0 [x1, x5] η1 < 1 := by
  intro c1 x3 e3 x4 e4 r4 η1 eη1 x5 e5
  replace e3 := zEq_i e3
  replace e5 := zEq_i e5
  have bx1 : (4 : Int) ≤ x1 ∧ x1 ≤ 4 := hI.1.2.1.1
  have bx2 : (0 : Int) ≤ x2 ∧ x2 ≤ 4 := hI.1.2.1.2.1
  first
  | replace e3 : x3 = x1 + x2 := zd_a2 (zEq_o e3) (by clear e3; exact ⟨by omega, by omega⟩)
  | clear e3
  replace e4 : x4 = η 12 (Int.toNat x3) := e4
  replace r4 : -2147483648 ≤ x4 ∧ x4 ≤ 2147483647 := r4
  first
  | replace e5 : x5 = x2 + 1 := zd_a2 (zEq_o e5) (by clear e5; exact ⟨by omega, by omega⟩)
  | clear e5
  have bn : x1 = 4 := by omega
  have u1 : ∀ j : Nat, (j : Int) < x2 → η 12 j = η0 12 (4 + j) := hig.1
  have u2 : ∀ j : Nat, x2 ≤ (j : Int) → η 12 j = η0 12 j := hig.2
  refine ⟨⟨fun j hj => ?_, fun j hj => ?_⟩, Nat.zero_lt_one⟩
  · have hj : (j : Int) < x5 := hj
    by_cases q : j = Int.toNat x2
    · rw [eη1, q, zup_eq, e4, show Int.toNat x3 = 4 + Int.toNat x2 by omega]
      exact u2 _ (by omega)
    · rw [eη1, zup_ne (fun _ e => q e)]
      exact u1 j (by omega)
  · have hj : x5 ≤ (j : Int) := hj
    rw [eη1, zup_ne (fun _ e => by omega)]
    exact u2 j (by omega)
set_option maxHeartbeats 8000000 in
theorem zne_copies_12 {ro : Nat → List Int32} : zMet pr_P pr_K pr_df ro (sm_X0 1 6) 0 129 tm_ne [(.inr (.inr (.inl (nat_lit 12)))), (.inl (nat_lit 0, (.ofNat (nat_lit 4))))] 0 [] [] (fun xs η => sP wl_ne zTr zPne_copies_12 xs η ∧ pPne_copies_12 xs η) (fun xs η y η' => sQ wl_ne zTr zOne_copies_12 zMne_copies_12 xs η y η' ∧ pQne_copies_12 xs η y η') :=
  zmet_alt (zmea_gen (mi := (nat_lit 2, nat_lit 0, nat_lit 8, nat_lit 3, nat_lit 0, tX8_copies)) (cd := []) (cu := zUne_copies_12) (cs := []) (iv := zVne_copies_12) (po := [zOne_copies_12]) (pr := zPne_copies_12) (mods := zMne_copies_12) (D7 := zDne_copies_12) (D0 := zEne_copies_12) (Dm := zFne_copies_12) (f0 := 7) pCne_copies_12 qCne_copies_12 iCne_copies_12 pPne_copies_12 (fun xs η _ y η' => pQne_copies_12 xs η y η') zX_low pr_mtR rfl (fun _ h => nomatch h) (by decide +kernel) (by decide +kernel) (by decide +kernel)
    (by
      intro xs η hr hl hp hpp
      match xs, hl, hp, hpp with
      | [], _, hp, hpp =>
        refine List.forall_mem_cons.mpr ⟨?_, fun _ h => nomatch h⟩
        · refine zden_L (n := 1) (ρ := [0]) rfl ?_
          show (iCne_copies_12 [] η) 0 [4, 0] η
          exact ⟨fun j hj => absurd (show (j : Int) < 0 from hj) (by omega), fun j _ => rfl⟩
      )
    (fun _ _ _ _ _ _ _ h => nomatch h)
    (List.forall_mem_cons.mpr ⟨⟨zDne_copies_12_0, zEne_copies_12_0, zFne_copies_12_0, 18, by decide +kernel, (by
      intro xs η0 hlx hp hpp ys η hr hl hI hig
      match ys, hl, hI, hig with
      | [x1, x2], _, hI, hig =>
        refine ⟨?_, ?_⟩
        · refine List.forall_mem_cons.mpr ⟨?_, List.forall_mem_cons.mpr ⟨?_, fun _ h => nomatch h⟩⟩
          · refine zden_L (n := 3) (ρ := [x2, x1, 0]) rfl ?_
            exact zne_copies_12_o0 (ro := ro) xs η0 hp hpp x1 x2 η hI hig
          · refine zden_L (n := 3) (ρ := [x2, x1, 0]) rfl ?_
            exact zne_copies_12_o1 (ro := ro) xs η0 hp hpp x1 x2 η hI hig
        · exact fun _ h => nomatch h
      )⟩, (fun _ h => nomatch h)⟩))
def zPne_copies_13 : zPq := ([], [])
def zOne_copies_13 : zPo := (((.ofNat (nat_lit 0)), (.ofNat (nat_lit 0))), [], [])
def zMne_copies_13 : List zCe := [(nat_lit 13, nat_lit 0)]
def pPne_copies_13 : List Int → zE → Prop := fun _ _ => True
def pQne_copies_13 : List Int → zE → Int → zE → Prop := fun _ η _ η' => (∀ j : Nat, j < 4 → η' 13 j = η 13 (4 + j)) ∧ (∀ j : Nat, 4 ≤ j → η' 13 j = η 13 j)
def pCne_copies_13 : Nat → List Int → zE → Prop := fun c => match c with
  | _ => fun _ _ => True
def qCne_copies_13 : Nat → List Int → zE → Int → zE → Prop := fun c => match c with
  | _ => fun _ _ _ _ => True
def iCne_copies_13 : List Int → zE → Nat → List Int → zE → Prop := fun xs η0 c => match c with
  | 0 => fun ys η => ((∀ j : Nat, (j : Int) < ys.getD 1 0 → η 13 j = η0 13 (4 + j)) ∧ (∀ j : Nat, ys.getD 1 0 ≤ (j : Int) → η 13 j = η0 13 j))
  | _ => fun _ _ => True
def zVne_copies_13 : List zIv := [(nat_lit 0, ([((.ofNat (nat_lit 4)), (.ofNat (nat_lit 4))), ((.ofNat (nat_lit 0)), (.ofNat (nat_lit 4)))], []), ((.ofNat (nat_lit 4)), [((.negSucc (nat_lit 0)), nat_lit 0, nat_lit 1, nat_lit 0)]))]
def zUne_copies_13 : List zCu := [(nat_lit 2, nat_lit 0, [(nat_lit 0, (.inr (.inr (.inl (nat_lit 13))))), (nat_lit 1, (.inl (nat_lit 1, (.ofNat (nat_lit 0))))), (nat_lit 2, (.inl (nat_lit 2, (.ofNat (nat_lit 0)))))], [])]
def zDne_copies_13 : List (List zK) := []
def zEne_copies_13 : List (List zK) := [[(nat_lit 12, nat_lit 0, [(nat_lit 0, (.ofNat (nat_lit 4))), (nat_lit 0, (.ofNat (nat_lit 0)))])]]
def zFne_copies_13 : List (List zK) := []
def zDne_copies_13_0 : List (List zK) := [[(nat_lit 7, nat_lit 0, [(nat_lit 3, (.ofNat (nat_lit 0))), (nat_lit 0, (.ofNat (nat_lit 8)))]), (nat_lit 0, nat_lit 1, [(nat_lit 1, (.ofNat (nat_lit 0))), (nat_lit 2, (.ofNat (nat_lit 0)))]), (nat_lit 6, nat_lit 2, [(nat_lit 2, (.ofNat (nat_lit 0))), (nat_lit 1, (.ofNat (nat_lit 0)))])],
  [(nat_lit 7, nat_lit 0, [(nat_lit 2, (.ofNat (nat_lit 0))), (nat_lit 0, (.ofNat (nat_lit 8)))]), (nat_lit 4, nat_lit 0, [(nat_lit 13, (.ofNat (nat_lit 0))), (nat_lit 3, (.ofNat (nat_lit 0)))]), (nat_lit 0, nat_lit 1, [(nat_lit 1, (.ofNat (nat_lit 0))), (nat_lit 2, (.ofNat (nat_lit 0)))]), (nat_lit 6, nat_lit 2, [(nat_lit 2, (.ofNat (nat_lit 0))), (nat_lit 1, (.ofNat (nat_lit 0)))])]]
def zEne_copies_13_0 : List (List zK) := [[(nat_lit 11, nat_lit 0, [(nat_lit 0, (.ofNat (nat_lit 0)))]), (nat_lit 6, nat_lit 3, [(nat_lit 2, (.ofNat (nat_lit 0))), (nat_lit 1, (.ofNat (nat_lit 0)))])],
  [(nat_lit 10, nat_lit 0, [(nat_lit 1, (.ofNat (nat_lit 0))), (nat_lit 5, (.ofNat (nat_lit 0)))]), (nat_lit 0, nat_lit 1, [(nat_lit 2, (.ofNat (nat_lit 0))), (nat_lit 0, (.ofNat (nat_lit 1)))]), (nat_lit 5, nat_lit 0, [(nat_lit 13, (.ofNat (nat_lit 0))), (nat_lit 2, (.ofNat (nat_lit 0))), (nat_lit 4, (.ofNat (nat_lit 0)))]), (nat_lit 4, nat_lit 0, [(nat_lit 13, (.ofNat (nat_lit 0))), (nat_lit 3, (.ofNat (nat_lit 0)))]), (nat_lit 0, nat_lit 1, [(nat_lit 1, (.ofNat (nat_lit 0))), (nat_lit 2, (.ofNat (nat_lit 0)))]), (nat_lit 6, nat_lit 2, [(nat_lit 2, (.ofNat (nat_lit 0))), (nat_lit 1, (.ofNat (nat_lit 0)))])]]
def zFne_copies_13_0 : List (List zK) := []
set_option maxHeartbeats 8000000 in
theorem zne_copies_13_o0 {ro : Nat → List Int32} (xs : List Int) (η0 : zE) (hp : sP wl_ne zTr zPne_copies_13 xs η0) (hpp : pPne_copies_13 xs η0) (x1 x2 : Int) (η : zE) (hI : zsI wl_ne zTr zVne_copies_13 zMne_copies_13 η0 0 [x1, x2] η) (hig : iCne_copies_13 xs η0 0 [x1, x2] η) : (x1 ≤ x2) → (fun (_ : Nat) (y : Int) (η' : zE) => pQne_copies_13 xs η0 y η') 0 0 η := by
  intro c1
  have bx1 : (4 : Int) ≤ x1 ∧ x1 ≤ 4 := hI.1.2.1.1
  have bx2 : (0 : Int) ≤ x2 ∧ x2 ≤ 4 := hI.1.2.1.2.1
  have bn : x1 = 4 := by omega
  have u1 : ∀ j : Nat, (j : Int) < x2 → η 13 j = η0 13 (4 + j) := hig.1
  have u2 : ∀ j : Nat, x2 ≤ (j : Int) → η 13 j = η0 13 j := hig.2
  exact ⟨fun j hj => u1 j (by omega), fun j hj => u2 j (by omega)⟩
set_option maxHeartbeats 8000000 in
theorem zne_copies_13_o1 {ro : Nat → List Int32} (xs : List Int) (η0 : zE) (hp : sP wl_ne zTr zPne_copies_13 xs η0) (hpp : pPne_copies_13 xs η0) (x1 x2 : Int) (η : zE) (hI : zsI wl_ne zTr zVne_copies_13 zMne_copies_13 η0 0 [x1, x2] η) (hig : iCne_copies_13 xs η0 0 [x1, x2] η) : (x2 < x1) → ∀ x3 : Int, x3 = zd 0 1 x1 x2 → ∀ x4 : Int, x4 = η 13 (Int.toNat x3) → zok 0 x4 → ∀ η1 : zE, η1 = zup η 13 (Int.toNat x2) x4 → ∀ x5 : Int, x5 = zd 0 1 x2 1 → (iCne_copies_13 xs η0) 0 [x1, x5] η1 ∧ (fun (_ : Nat) (_ : List Int) (_ : zE) => (0 : Nat)) 0 [x1, x5] η1 < 1 := by
  intro c1 x3 e3 x4 e4 r4 η1 eη1 x5 e5
  replace e3 := zEq_i e3
  replace e5 := zEq_i e5
  have bx1 : (4 : Int) ≤ x1 ∧ x1 ≤ 4 := hI.1.2.1.1
  have bx2 : (0 : Int) ≤ x2 ∧ x2 ≤ 4 := hI.1.2.1.2.1
  first
  | replace e3 : x3 = x1 + x2 := zd_a2 (zEq_o e3) (by clear e3; exact ⟨by omega, by omega⟩)
  | clear e3
  replace e4 : x4 = η 13 (Int.toNat x3) := e4
  replace r4 : -2147483648 ≤ x4 ∧ x4 ≤ 2147483647 := r4
  first
  | replace e5 : x5 = x2 + 1 := zd_a2 (zEq_o e5) (by clear e5; exact ⟨by omega, by omega⟩)
  | clear e5
  have bn : x1 = 4 := by omega
  have u1 : ∀ j : Nat, (j : Int) < x2 → η 13 j = η0 13 (4 + j) := hig.1
  have u2 : ∀ j : Nat, x2 ≤ (j : Int) → η 13 j = η0 13 j := hig.2
  refine ⟨⟨fun j hj => ?_, fun j hj => ?_⟩, Nat.zero_lt_one⟩
  · have hj : (j : Int) < x5 := hj
    by_cases q : j = Int.toNat x2
    · rw [eη1, q, zup_eq, e4, show Int.toNat x3 = 4 + Int.toNat x2 by omega]
      exact u2 _ (by omega)
    · rw [eη1, zup_ne (fun _ e => q e)]
      exact u1 j (by omega)
  · have hj : x5 ≤ (j : Int) := hj
    rw [eη1, zup_ne (fun _ e => by omega)]
    exact u2 j (by omega)
set_option maxHeartbeats 8000000 in
theorem zne_copies_13 {ro : Nat → List Int32} : zMet pr_P pr_K pr_df ro (sm_X0 1 6) 0 129 tm_ne [(.inr (.inr (.inl (nat_lit 13)))), (.inl (nat_lit 0, (.ofNat (nat_lit 4))))] 0 [] [] (fun xs η => sP wl_ne zTr zPne_copies_13 xs η ∧ pPne_copies_13 xs η) (fun xs η y η' => sQ wl_ne zTr zOne_copies_13 zMne_copies_13 xs η y η' ∧ pQne_copies_13 xs η y η') :=
  zmet_alt (zmea_gen (mi := (nat_lit 2, nat_lit 0, nat_lit 8, nat_lit 3, nat_lit 0, tX8_copies)) (cd := []) (cu := zUne_copies_13) (cs := []) (iv := zVne_copies_13) (po := [zOne_copies_13]) (pr := zPne_copies_13) (mods := zMne_copies_13) (D7 := zDne_copies_13) (D0 := zEne_copies_13) (Dm := zFne_copies_13) (f0 := 7) pCne_copies_13 qCne_copies_13 iCne_copies_13 pPne_copies_13 (fun xs η _ y η' => pQne_copies_13 xs η y η') zX_low pr_mtR rfl (fun _ h => nomatch h) (by decide +kernel) (by decide +kernel) (by decide +kernel)
    (by
      intro xs η hr hl hp hpp
      match xs, hl, hp, hpp with
      | [], _, hp, hpp =>
        refine List.forall_mem_cons.mpr ⟨?_, fun _ h => nomatch h⟩
        · refine zden_L (n := 1) (ρ := [0]) rfl ?_
          show (iCne_copies_13 [] η) 0 [4, 0] η
          exact ⟨fun j hj => absurd (show (j : Int) < 0 from hj) (by omega), fun j _ => rfl⟩
      )
    (fun _ _ _ _ _ _ _ h => nomatch h)
    (List.forall_mem_cons.mpr ⟨⟨zDne_copies_13_0, zEne_copies_13_0, zFne_copies_13_0, 18, by decide +kernel, (by
      intro xs η0 hlx hp hpp ys η hr hl hI hig
      match ys, hl, hI, hig with
      | [x1, x2], _, hI, hig =>
        refine ⟨?_, ?_⟩
        · refine List.forall_mem_cons.mpr ⟨?_, List.forall_mem_cons.mpr ⟨?_, fun _ h => nomatch h⟩⟩
          · refine zden_L (n := 3) (ρ := [x2, x1, 0]) rfl ?_
            exact zne_copies_13_o0 (ro := ro) xs η0 hp hpp x1 x2 η hI hig
          · refine zden_L (n := 3) (ρ := [x2, x1, 0]) rfl ?_
            exact zne_copies_13_o1 (ro := ro) xs η0 hp hpp x1 x2 η hI hig
        · exact fun _ h => nomatch h
      )⟩, (fun _ h => nomatch h)⟩))
def zPne_copies_14 : zPq := ([], [])
def zOne_copies_14 : zPo := (((.ofNat (nat_lit 0)), (.ofNat (nat_lit 0))), [], [])
def zMne_copies_14 : List zCe := [(nat_lit 14, nat_lit 0)]
def pPne_copies_14 : List Int → zE → Prop := fun _ _ => True
def pQne_copies_14 : List Int → zE → Int → zE → Prop := fun _ η _ η' => (∀ j : Nat, j < 4 → η' 14 j = η 14 (4 + j)) ∧ (∀ j : Nat, 4 ≤ j → η' 14 j = η 14 j)
def pCne_copies_14 : Nat → List Int → zE → Prop := fun c => match c with
  | _ => fun _ _ => True
def qCne_copies_14 : Nat → List Int → zE → Int → zE → Prop := fun c => match c with
  | _ => fun _ _ _ _ => True
def iCne_copies_14 : List Int → zE → Nat → List Int → zE → Prop := fun xs η0 c => match c with
  | 0 => fun ys η => ((∀ j : Nat, (j : Int) < ys.getD 1 0 → η 14 j = η0 14 (4 + j)) ∧ (∀ j : Nat, ys.getD 1 0 ≤ (j : Int) → η 14 j = η0 14 j))
  | _ => fun _ _ => True
def zVne_copies_14 : List zIv := [(nat_lit 0, ([((.ofNat (nat_lit 4)), (.ofNat (nat_lit 4))), ((.ofNat (nat_lit 0)), (.ofNat (nat_lit 4)))], []), ((.ofNat (nat_lit 4)), [((.negSucc (nat_lit 0)), nat_lit 0, nat_lit 1, nat_lit 0)]))]
def zUne_copies_14 : List zCu := [(nat_lit 2, nat_lit 0, [(nat_lit 0, (.inr (.inr (.inl (nat_lit 14))))), (nat_lit 1, (.inl (nat_lit 1, (.ofNat (nat_lit 0))))), (nat_lit 2, (.inl (nat_lit 2, (.ofNat (nat_lit 0)))))], [])]
def zDne_copies_14 : List (List zK) := []
def zEne_copies_14 : List (List zK) := [[(nat_lit 12, nat_lit 0, [(nat_lit 0, (.ofNat (nat_lit 4))), (nat_lit 0, (.ofNat (nat_lit 0)))])]]
def zFne_copies_14 : List (List zK) := []
def zDne_copies_14_0 : List (List zK) := [[(nat_lit 7, nat_lit 0, [(nat_lit 3, (.ofNat (nat_lit 0))), (nat_lit 0, (.ofNat (nat_lit 8)))]), (nat_lit 0, nat_lit 1, [(nat_lit 1, (.ofNat (nat_lit 0))), (nat_lit 2, (.ofNat (nat_lit 0)))]), (nat_lit 6, nat_lit 2, [(nat_lit 2, (.ofNat (nat_lit 0))), (nat_lit 1, (.ofNat (nat_lit 0)))])],
  [(nat_lit 7, nat_lit 0, [(nat_lit 2, (.ofNat (nat_lit 0))), (nat_lit 0, (.ofNat (nat_lit 8)))]), (nat_lit 4, nat_lit 0, [(nat_lit 14, (.ofNat (nat_lit 0))), (nat_lit 3, (.ofNat (nat_lit 0)))]), (nat_lit 0, nat_lit 1, [(nat_lit 1, (.ofNat (nat_lit 0))), (nat_lit 2, (.ofNat (nat_lit 0)))]), (nat_lit 6, nat_lit 2, [(nat_lit 2, (.ofNat (nat_lit 0))), (nat_lit 1, (.ofNat (nat_lit 0)))])]]
def zEne_copies_14_0 : List (List zK) := [[(nat_lit 11, nat_lit 0, [(nat_lit 0, (.ofNat (nat_lit 0)))]), (nat_lit 6, nat_lit 3, [(nat_lit 2, (.ofNat (nat_lit 0))), (nat_lit 1, (.ofNat (nat_lit 0)))])],
  [(nat_lit 10, nat_lit 0, [(nat_lit 1, (.ofNat (nat_lit 0))), (nat_lit 5, (.ofNat (nat_lit 0)))]), (nat_lit 0, nat_lit 1, [(nat_lit 2, (.ofNat (nat_lit 0))), (nat_lit 0, (.ofNat (nat_lit 1)))]), (nat_lit 5, nat_lit 0, [(nat_lit 14, (.ofNat (nat_lit 0))), (nat_lit 2, (.ofNat (nat_lit 0))), (nat_lit 4, (.ofNat (nat_lit 0)))]), (nat_lit 4, nat_lit 0, [(nat_lit 14, (.ofNat (nat_lit 0))), (nat_lit 3, (.ofNat (nat_lit 0)))]), (nat_lit 0, nat_lit 1, [(nat_lit 1, (.ofNat (nat_lit 0))), (nat_lit 2, (.ofNat (nat_lit 0)))]), (nat_lit 6, nat_lit 2, [(nat_lit 2, (.ofNat (nat_lit 0))), (nat_lit 1, (.ofNat (nat_lit 0)))])]]
def zFne_copies_14_0 : List (List zK) := []
set_option maxHeartbeats 8000000 in
theorem zne_copies_14_o0 {ro : Nat → List Int32} (xs : List Int) (η0 : zE) (hp : sP wl_ne zTr zPne_copies_14 xs η0) (hpp : pPne_copies_14 xs η0) (x1 x2 : Int) (η : zE) (hI : zsI wl_ne zTr zVne_copies_14 zMne_copies_14 η0 0 [x1, x2] η) (hig : iCne_copies_14 xs η0 0 [x1, x2] η) : (x1 ≤ x2) → (fun (_ : Nat) (y : Int) (η' : zE) => pQne_copies_14 xs η0 y η') 0 0 η := by
  intro c1
  have bx1 : (4 : Int) ≤ x1 ∧ x1 ≤ 4 := hI.1.2.1.1
  have bx2 : (0 : Int) ≤ x2 ∧ x2 ≤ 4 := hI.1.2.1.2.1
  have bn : x1 = 4 := by omega
  have u1 : ∀ j : Nat, (j : Int) < x2 → η 14 j = η0 14 (4 + j) := hig.1
  have u2 : ∀ j : Nat, x2 ≤ (j : Int) → η 14 j = η0 14 j := hig.2
  exact ⟨fun j hj => u1 j (by omega), fun j hj => u2 j (by omega)⟩
set_option maxHeartbeats 8000000 in
theorem zne_copies_14_o1 {ro : Nat → List Int32} (xs : List Int) (η0 : zE) (hp : sP wl_ne zTr zPne_copies_14 xs η0) (hpp : pPne_copies_14 xs η0) (x1 x2 : Int) (η : zE) (hI : zsI wl_ne zTr zVne_copies_14 zMne_copies_14 η0 0 [x1, x2] η) (hig : iCne_copies_14 xs η0 0 [x1, x2] η) : (x2 < x1) → ∀ x3 : Int, x3 = zd 0 1 x1 x2 → ∀ x4 : Int, x4 = η 14 (Int.toNat x3) → zok 0 x4 → ∀ η1 : zE, η1 = zup η 14 (Int.toNat x2) x4 → ∀ x5 : Int, x5 = zd 0 1 x2 1 → (iCne_copies_14 xs η0) 0 [x1, x5] η1 ∧ (fun (_ : Nat) (_ : List Int) (_ : zE) => (0 : Nat)) 0 [x1, x5] η1 < 1 := by
  intro c1 x3 e3 x4 e4 r4 η1 eη1 x5 e5
  replace e3 := zEq_i e3
  replace e5 := zEq_i e5
  have bx1 : (4 : Int) ≤ x1 ∧ x1 ≤ 4 := hI.1.2.1.1
  have bx2 : (0 : Int) ≤ x2 ∧ x2 ≤ 4 := hI.1.2.1.2.1
  first
  | replace e3 : x3 = x1 + x2 := zd_a2 (zEq_o e3) (by clear e3; exact ⟨by omega, by omega⟩)
  | clear e3
  replace e4 : x4 = η 14 (Int.toNat x3) := e4
  replace r4 : -2147483648 ≤ x4 ∧ x4 ≤ 2147483647 := r4
  first
  | replace e5 : x5 = x2 + 1 := zd_a2 (zEq_o e5) (by clear e5; exact ⟨by omega, by omega⟩)
  | clear e5
  have bn : x1 = 4 := by omega
  have u1 : ∀ j : Nat, (j : Int) < x2 → η 14 j = η0 14 (4 + j) := hig.1
  have u2 : ∀ j : Nat, x2 ≤ (j : Int) → η 14 j = η0 14 j := hig.2
  refine ⟨⟨fun j hj => ?_, fun j hj => ?_⟩, Nat.zero_lt_one⟩
  · have hj : (j : Int) < x5 := hj
    by_cases q : j = Int.toNat x2
    · rw [eη1, q, zup_eq, e4, show Int.toNat x3 = 4 + Int.toNat x2 by omega]
      exact u2 _ (by omega)
    · rw [eη1, zup_ne (fun _ e => q e)]
      exact u1 j (by omega)
  · have hj : x5 ≤ (j : Int) := hj
    rw [eη1, zup_ne (fun _ e => by omega)]
    exact u2 j (by omega)
set_option maxHeartbeats 8000000 in
theorem zne_copies_14 {ro : Nat → List Int32} : zMet pr_P pr_K pr_df ro (sm_X0 1 6) 0 129 tm_ne [(.inr (.inr (.inl (nat_lit 14)))), (.inl (nat_lit 0, (.ofNat (nat_lit 4))))] 0 [] [] (fun xs η => sP wl_ne zTr zPne_copies_14 xs η ∧ pPne_copies_14 xs η) (fun xs η y η' => sQ wl_ne zTr zOne_copies_14 zMne_copies_14 xs η y η' ∧ pQne_copies_14 xs η y η') :=
  zmet_alt (zmea_gen (mi := (nat_lit 2, nat_lit 0, nat_lit 8, nat_lit 3, nat_lit 0, tX8_copies)) (cd := []) (cu := zUne_copies_14) (cs := []) (iv := zVne_copies_14) (po := [zOne_copies_14]) (pr := zPne_copies_14) (mods := zMne_copies_14) (D7 := zDne_copies_14) (D0 := zEne_copies_14) (Dm := zFne_copies_14) (f0 := 7) pCne_copies_14 qCne_copies_14 iCne_copies_14 pPne_copies_14 (fun xs η _ y η' => pQne_copies_14 xs η y η') zX_low pr_mtR rfl (fun _ h => nomatch h) (by decide +kernel) (by decide +kernel) (by decide +kernel)
    (by
      intro xs η hr hl hp hpp
      match xs, hl, hp, hpp with
      | [], _, hp, hpp =>
        refine List.forall_mem_cons.mpr ⟨?_, fun _ h => nomatch h⟩
        · refine zden_L (n := 1) (ρ := [0]) rfl ?_
          show (iCne_copies_14 [] η) 0 [4, 0] η
          exact ⟨fun j hj => absurd (show (j : Int) < 0 from hj) (by omega), fun j _ => rfl⟩
      )
    (fun _ _ _ _ _ _ _ h => nomatch h)
    (List.forall_mem_cons.mpr ⟨⟨zDne_copies_14_0, zEne_copies_14_0, zFne_copies_14_0, 18, by decide +kernel, (by
      intro xs η0 hlx hp hpp ys η hr hl hI hig
      match ys, hl, hI, hig with
      | [x1, x2], _, hI, hig =>
        refine ⟨?_, ?_⟩
        · refine List.forall_mem_cons.mpr ⟨?_, List.forall_mem_cons.mpr ⟨?_, fun _ h => nomatch h⟩⟩
          · refine zden_L (n := 3) (ρ := [x2, x1, 0]) rfl ?_
            exact zne_copies_14_o0 (ro := ro) xs η0 hp hpp x1 x2 η hI hig
          · refine zden_L (n := 3) (ρ := [x2, x1, 0]) rfl ?_
            exact zne_copies_14_o1 (ro := ro) xs η0 hp hpp x1 x2 η hI hig
        · exact fun _ h => nomatch h
      )⟩, (fun _ h => nomatch h)⟩))
def zPne_copies_15 : zPq := ([], [])
def zOne_copies_15 : zPo := (((.ofNat (nat_lit 0)), (.ofNat (nat_lit 0))), [], [])
def zMne_copies_15 : List zCe := [(nat_lit 15, nat_lit 0)]
def pPne_copies_15 : List Int → zE → Prop := fun _ _ => True
def pQne_copies_15 : List Int → zE → Int → zE → Prop := fun _ η _ η' => (∀ j : Nat, j < 4 → η' 15 j = η 15 (4 + j)) ∧ (∀ j : Nat, 4 ≤ j → η' 15 j = η 15 j)
def pCne_copies_15 : Nat → List Int → zE → Prop := fun c => match c with
  | _ => fun _ _ => True
def qCne_copies_15 : Nat → List Int → zE → Int → zE → Prop := fun c => match c with
  | _ => fun _ _ _ _ => True
def iCne_copies_15 : List Int → zE → Nat → List Int → zE → Prop := fun xs η0 c => match c with
  | 0 => fun ys η => ((∀ j : Nat, (j : Int) < ys.getD 1 0 → η 15 j = η0 15 (4 + j)) ∧ (∀ j : Nat, ys.getD 1 0 ≤ (j : Int) → η 15 j = η0 15 j))
  | _ => fun _ _ => True
def zVne_copies_15 : List zIv := [(nat_lit 0, ([((.ofNat (nat_lit 4)), (.ofNat (nat_lit 4))), ((.ofNat (nat_lit 0)), (.ofNat (nat_lit 4)))], []), ((.ofNat (nat_lit 4)), [((.negSucc (nat_lit 0)), nat_lit 0, nat_lit 1, nat_lit 0)]))]
def zUne_copies_15 : List zCu := [(nat_lit 2, nat_lit 0, [(nat_lit 0, (.inr (.inr (.inl (nat_lit 15))))), (nat_lit 1, (.inl (nat_lit 1, (.ofNat (nat_lit 0))))), (nat_lit 2, (.inl (nat_lit 2, (.ofNat (nat_lit 0)))))], [])]
def zDne_copies_15 : List (List zK) := []
def zEne_copies_15 : List (List zK) := [[(nat_lit 12, nat_lit 0, [(nat_lit 0, (.ofNat (nat_lit 4))), (nat_lit 0, (.ofNat (nat_lit 0)))])]]
def zFne_copies_15 : List (List zK) := []
def zDne_copies_15_0 : List (List zK) := [[(nat_lit 7, nat_lit 0, [(nat_lit 3, (.ofNat (nat_lit 0))), (nat_lit 0, (.ofNat (nat_lit 8)))]), (nat_lit 0, nat_lit 1, [(nat_lit 1, (.ofNat (nat_lit 0))), (nat_lit 2, (.ofNat (nat_lit 0)))]), (nat_lit 6, nat_lit 2, [(nat_lit 2, (.ofNat (nat_lit 0))), (nat_lit 1, (.ofNat (nat_lit 0)))])],
  [(nat_lit 7, nat_lit 0, [(nat_lit 2, (.ofNat (nat_lit 0))), (nat_lit 0, (.ofNat (nat_lit 8)))]), (nat_lit 4, nat_lit 0, [(nat_lit 15, (.ofNat (nat_lit 0))), (nat_lit 3, (.ofNat (nat_lit 0)))]), (nat_lit 0, nat_lit 1, [(nat_lit 1, (.ofNat (nat_lit 0))), (nat_lit 2, (.ofNat (nat_lit 0)))]), (nat_lit 6, nat_lit 2, [(nat_lit 2, (.ofNat (nat_lit 0))), (nat_lit 1, (.ofNat (nat_lit 0)))])]]
def zEne_copies_15_0 : List (List zK) := [[(nat_lit 11, nat_lit 0, [(nat_lit 0, (.ofNat (nat_lit 0)))]), (nat_lit 6, nat_lit 3, [(nat_lit 2, (.ofNat (nat_lit 0))), (nat_lit 1, (.ofNat (nat_lit 0)))])],
  [(nat_lit 10, nat_lit 0, [(nat_lit 1, (.ofNat (nat_lit 0))), (nat_lit 5, (.ofNat (nat_lit 0)))]), (nat_lit 0, nat_lit 1, [(nat_lit 2, (.ofNat (nat_lit 0))), (nat_lit 0, (.ofNat (nat_lit 1)))]), (nat_lit 5, nat_lit 0, [(nat_lit 15, (.ofNat (nat_lit 0))), (nat_lit 2, (.ofNat (nat_lit 0))), (nat_lit 4, (.ofNat (nat_lit 0)))]), (nat_lit 4, nat_lit 0, [(nat_lit 15, (.ofNat (nat_lit 0))), (nat_lit 3, (.ofNat (nat_lit 0)))]), (nat_lit 0, nat_lit 1, [(nat_lit 1, (.ofNat (nat_lit 0))), (nat_lit 2, (.ofNat (nat_lit 0)))]), (nat_lit 6, nat_lit 2, [(nat_lit 2, (.ofNat (nat_lit 0))), (nat_lit 1, (.ofNat (nat_lit 0)))])]]
def zFne_copies_15_0 : List (List zK) := []
set_option maxHeartbeats 8000000 in
theorem zne_copies_15_o0 {ro : Nat → List Int32} (xs : List Int) (η0 : zE) (hp : sP wl_ne zTr zPne_copies_15 xs η0) (hpp : pPne_copies_15 xs η0) (x1 x2 : Int) (η : zE) (hI : zsI wl_ne zTr zVne_copies_15 zMne_copies_15 η0 0 [x1, x2] η) (hig : iCne_copies_15 xs η0 0 [x1, x2] η) : (x1 ≤ x2) → (fun (_ : Nat) (y : Int) (η' : zE) => pQne_copies_15 xs η0 y η') 0 0 η := by
  intro c1
  have bx1 : (4 : Int) ≤ x1 ∧ x1 ≤ 4 := hI.1.2.1.1
  have bx2 : (0 : Int) ≤ x2 ∧ x2 ≤ 4 := hI.1.2.1.2.1
  have bn : x1 = 4 := by omega
  have u1 : ∀ j : Nat, (j : Int) < x2 → η 15 j = η0 15 (4 + j) := hig.1
  have u2 : ∀ j : Nat, x2 ≤ (j : Int) → η 15 j = η0 15 j := hig.2
  exact ⟨fun j hj => u1 j (by omega), fun j hj => u2 j (by omega)⟩
set_option maxHeartbeats 8000000 in
theorem zne_copies_15_o1 {ro : Nat → List Int32} (xs : List Int) (η0 : zE) (hp : sP wl_ne zTr zPne_copies_15 xs η0) (hpp : pPne_copies_15 xs η0) (x1 x2 : Int) (η : zE) (hI : zsI wl_ne zTr zVne_copies_15 zMne_copies_15 η0 0 [x1, x2] η) (hig : iCne_copies_15 xs η0 0 [x1, x2] η) : (x2 < x1) → ∀ x3 : Int, x3 = zd 0 1 x1 x2 → ∀ x4 : Int, x4 = η 15 (Int.toNat x3) → zok 0 x4 → ∀ η1 : zE, η1 = zup η 15 (Int.toNat x2) x4 → ∀ x5 : Int, x5 = zd 0 1 x2 1 → (iCne_copies_15 xs η0) 0 [x1, x5] η1 ∧ (fun (_ : Nat) (_ : List Int) (_ : zE) => (0 : Nat)) 0 [x1, x5] η1 < 1 := by
  intro c1 x3 e3 x4 e4 r4 η1 eη1 x5 e5
  replace e3 := zEq_i e3
  replace e5 := zEq_i e5
  have bx1 : (4 : Int) ≤ x1 ∧ x1 ≤ 4 := hI.1.2.1.1
  have bx2 : (0 : Int) ≤ x2 ∧ x2 ≤ 4 := hI.1.2.1.2.1
  first
  | replace e3 : x3 = x1 + x2 := zd_a2 (zEq_o e3) (by clear e3; exact ⟨by omega, by omega⟩)
  | clear e3
  replace e4 : x4 = η 15 (Int.toNat x3) := e4
  replace r4 : -2147483648 ≤ x4 ∧ x4 ≤ 2147483647 := r4
  first
  | replace e5 : x5 = x2 + 1 := zd_a2 (zEq_o e5) (by clear e5; exact ⟨by omega, by omega⟩)
  | clear e5
  have bn : x1 = 4 := by omega
  have u1 : ∀ j : Nat, (j : Int) < x2 → η 15 j = η0 15 (4 + j) := hig.1
  have u2 : ∀ j : Nat, x2 ≤ (j : Int) → η 15 j = η0 15 j := hig.2
  refine ⟨⟨fun j hj => ?_, fun j hj => ?_⟩, Nat.zero_lt_one⟩
  · have hj : (j : Int) < x5 := hj
    by_cases q : j = Int.toNat x2
    · rw [eη1, q, zup_eq, e4, show Int.toNat x3 = 4 + Int.toNat x2 by omega]
      exact u2 _ (by omega)
    · rw [eη1, zup_ne (fun _ e => q e)]
      exact u1 j (by omega)
  · have hj : x5 ≤ (j : Int) := hj
    rw [eη1, zup_ne (fun _ e => by omega)]
    exact u2 j (by omega)
set_option maxHeartbeats 8000000 in
theorem zne_copies_15 {ro : Nat → List Int32} : zMet pr_P pr_K pr_df ro (sm_X0 1 6) 0 129 tm_ne [(.inr (.inr (.inl (nat_lit 15)))), (.inl (nat_lit 0, (.ofNat (nat_lit 4))))] 0 [] [] (fun xs η => sP wl_ne zTr zPne_copies_15 xs η ∧ pPne_copies_15 xs η) (fun xs η y η' => sQ wl_ne zTr zOne_copies_15 zMne_copies_15 xs η y η' ∧ pQne_copies_15 xs η y η') :=
  zmet_alt (zmea_gen (mi := (nat_lit 2, nat_lit 0, nat_lit 8, nat_lit 3, nat_lit 0, tX8_copies)) (cd := []) (cu := zUne_copies_15) (cs := []) (iv := zVne_copies_15) (po := [zOne_copies_15]) (pr := zPne_copies_15) (mods := zMne_copies_15) (D7 := zDne_copies_15) (D0 := zEne_copies_15) (Dm := zFne_copies_15) (f0 := 7) pCne_copies_15 qCne_copies_15 iCne_copies_15 pPne_copies_15 (fun xs η _ y η' => pQne_copies_15 xs η y η') zX_low pr_mtR rfl (fun _ h => nomatch h) (by decide +kernel) (by decide +kernel) (by decide +kernel)
    (by
      intro xs η hr hl hp hpp
      match xs, hl, hp, hpp with
      | [], _, hp, hpp =>
        refine List.forall_mem_cons.mpr ⟨?_, fun _ h => nomatch h⟩
        · refine zden_L (n := 1) (ρ := [0]) rfl ?_
          show (iCne_copies_15 [] η) 0 [4, 0] η
          exact ⟨fun j hj => absurd (show (j : Int) < 0 from hj) (by omega), fun j _ => rfl⟩
      )
    (fun _ _ _ _ _ _ _ h => nomatch h)
    (List.forall_mem_cons.mpr ⟨⟨zDne_copies_15_0, zEne_copies_15_0, zFne_copies_15_0, 18, by decide +kernel, (by
      intro xs η0 hlx hp hpp ys η hr hl hI hig
      match ys, hl, hI, hig with
      | [x1, x2], _, hI, hig =>
        refine ⟨?_, ?_⟩
        · refine List.forall_mem_cons.mpr ⟨?_, List.forall_mem_cons.mpr ⟨?_, fun _ h => nomatch h⟩⟩
          · refine zden_L (n := 3) (ρ := [x2, x1, 0]) rfl ?_
            exact zne_copies_15_o0 (ro := ro) xs η0 hp hpp x1 x2 η hI hig
          · refine zden_L (n := 3) (ρ := [x2, x1, 0]) rfl ?_
            exact zne_copies_15_o1 (ro := ro) xs η0 hp hpp x1 x2 η hI hig
        · exact fun _ h => nomatch h
      )⟩, (fun _ h => nomatch h)⟩))
def zPne_copies_5 : zPq := ([], [])
def zOne_copies_5 : zPo := (((.ofNat (nat_lit 0)), (.ofNat (nat_lit 0))), [], [])
def zMne_copies_5 : List zCe := [(nat_lit 5, nat_lit 0)]
def pPne_copies_5 : List Int → zE → Prop := fun _ _ => True
def pQne_copies_5 : List Int → zE → Int → zE → Prop := fun _ η _ η' => (∀ j : Nat, j < 12 → η' 5 j = η 5 (12 + j)) ∧ (∀ j : Nat, 12 ≤ j → η' 5 j = η 5 j)
def pCne_copies_5 : Nat → List Int → zE → Prop := fun c => match c with
  | _ => fun _ _ => True
def qCne_copies_5 : Nat → List Int → zE → Int → zE → Prop := fun c => match c with
  | _ => fun _ _ _ _ => True
def iCne_copies_5 : List Int → zE → Nat → List Int → zE → Prop := fun xs η0 c => match c with
  | 0 => fun ys η => ((∀ j : Nat, (j : Int) < ys.getD 1 0 → η 5 j = η0 5 (12 + j)) ∧ (∀ j : Nat, ys.getD 1 0 ≤ (j : Int) → η 5 j = η0 5 j))
  | _ => fun _ _ => True
def zVne_copies_5 : List zIv := [(nat_lit 0, ([((.ofNat (nat_lit 12)), (.ofNat (nat_lit 12))), ((.ofNat (nat_lit 0)), (.ofNat (nat_lit 12)))], []), ((.ofNat (nat_lit 12)), [((.negSucc (nat_lit 0)), nat_lit 0, nat_lit 1, nat_lit 0)]))]
def zUne_copies_5 : List zCu := [(nat_lit 2, nat_lit 0, [(nat_lit 0, (.inr (.inr (.inl (nat_lit 5))))), (nat_lit 1, (.inl (nat_lit 1, (.ofNat (nat_lit 0))))), (nat_lit 2, (.inl (nat_lit 2, (.ofNat (nat_lit 0)))))], [])]
def zDne_copies_5 : List (List zK) := []
def zEne_copies_5 : List (List zK) := [[(nat_lit 12, nat_lit 0, [(nat_lit 0, (.ofNat (nat_lit 12))), (nat_lit 0, (.ofNat (nat_lit 0)))])]]
def zFne_copies_5 : List (List zK) := []
def zDne_copies_5_0 : List (List zK) := [[(nat_lit 7, nat_lit 0, [(nat_lit 3, (.ofNat (nat_lit 0))), (nat_lit 0, (.ofNat (nat_lit 24)))]), (nat_lit 0, nat_lit 1, [(nat_lit 1, (.ofNat (nat_lit 0))), (nat_lit 2, (.ofNat (nat_lit 0)))]), (nat_lit 6, nat_lit 2, [(nat_lit 2, (.ofNat (nat_lit 0))), (nat_lit 1, (.ofNat (nat_lit 0)))])],
  [(nat_lit 7, nat_lit 0, [(nat_lit 2, (.ofNat (nat_lit 0))), (nat_lit 0, (.ofNat (nat_lit 24)))]), (nat_lit 4, nat_lit 0, [(nat_lit 5, (.ofNat (nat_lit 0))), (nat_lit 3, (.ofNat (nat_lit 0)))]), (nat_lit 0, nat_lit 1, [(nat_lit 1, (.ofNat (nat_lit 0))), (nat_lit 2, (.ofNat (nat_lit 0)))]), (nat_lit 6, nat_lit 2, [(nat_lit 2, (.ofNat (nat_lit 0))), (nat_lit 1, (.ofNat (nat_lit 0)))])]]
def zEne_copies_5_0 : List (List zK) := [[(nat_lit 11, nat_lit 0, [(nat_lit 0, (.ofNat (nat_lit 0)))]), (nat_lit 6, nat_lit 3, [(nat_lit 2, (.ofNat (nat_lit 0))), (nat_lit 1, (.ofNat (nat_lit 0)))])],
  [(nat_lit 10, nat_lit 0, [(nat_lit 1, (.ofNat (nat_lit 0))), (nat_lit 5, (.ofNat (nat_lit 0)))]), (nat_lit 0, nat_lit 1, [(nat_lit 2, (.ofNat (nat_lit 0))), (nat_lit 0, (.ofNat (nat_lit 1)))]), (nat_lit 5, nat_lit 0, [(nat_lit 5, (.ofNat (nat_lit 0))), (nat_lit 2, (.ofNat (nat_lit 0))), (nat_lit 4, (.ofNat (nat_lit 0)))]), (nat_lit 4, nat_lit 0, [(nat_lit 5, (.ofNat (nat_lit 0))), (nat_lit 3, (.ofNat (nat_lit 0)))]), (nat_lit 0, nat_lit 1, [(nat_lit 1, (.ofNat (nat_lit 0))), (nat_lit 2, (.ofNat (nat_lit 0)))]), (nat_lit 6, nat_lit 2, [(nat_lit 2, (.ofNat (nat_lit 0))), (nat_lit 1, (.ofNat (nat_lit 0)))])]]
def zFne_copies_5_0 : List (List zK) := []
set_option maxHeartbeats 8000000 in
theorem zne_copies_5_o0 {ro : Nat → List Int32} (xs : List Int) (η0 : zE) (hp : sP wl_ne zTr zPne_copies_5 xs η0) (hpp : pPne_copies_5 xs η0) (x1 x2 : Int) (η : zE) (hI : zsI wl_ne zTr zVne_copies_5 zMne_copies_5 η0 0 [x1, x2] η) (hig : iCne_copies_5 xs η0 0 [x1, x2] η) : (x1 ≤ x2) → (fun (_ : Nat) (y : Int) (η' : zE) => pQne_copies_5 xs η0 y η') 0 0 η := by
  intro c1
  have bx1 : (12 : Int) ≤ x1 ∧ x1 ≤ 12 := hI.1.2.1.1
  have bx2 : (0 : Int) ≤ x2 ∧ x2 ≤ 12 := hI.1.2.1.2.1
  have bn : x1 = 12 := by omega
  have u1 : ∀ j : Nat, (j : Int) < x2 → η 5 j = η0 5 (12 + j) := hig.1
  have u2 : ∀ j : Nat, x2 ≤ (j : Int) → η 5 j = η0 5 j := hig.2
  exact ⟨fun j hj => u1 j (by omega), fun j hj => u2 j (by omega)⟩
set_option maxHeartbeats 8000000 in
theorem zne_copies_5_o1 {ro : Nat → List Int32} (xs : List Int) (η0 : zE) (hp : sP wl_ne zTr zPne_copies_5 xs η0) (hpp : pPne_copies_5 xs η0) (x1 x2 : Int) (η : zE) (hI : zsI wl_ne zTr zVne_copies_5 zMne_copies_5 η0 0 [x1, x2] η) (hig : iCne_copies_5 xs η0 0 [x1, x2] η) : (x2 < x1) → ∀ x3 : Int, x3 = zd 0 1 x1 x2 → ∀ x4 : Int, x4 = η 5 (Int.toNat x3) → zok 0 x4 → ∀ η1 : zE, η1 = zup η 5 (Int.toNat x2) x4 → ∀ x5 : Int, x5 = zd 0 1 x2 1 → (iCne_copies_5 xs η0) 0 [x1, x5] η1 ∧ (fun (_ : Nat) (_ : List Int) (_ : zE) => (0 : Nat)) 0 [x1, x5] η1 < 1 := by
  intro c1 x3 e3 x4 e4 r4 η1 eη1 x5 e5
  replace e3 := zEq_i e3
  replace e5 := zEq_i e5
  have bx1 : (12 : Int) ≤ x1 ∧ x1 ≤ 12 := hI.1.2.1.1
  have bx2 : (0 : Int) ≤ x2 ∧ x2 ≤ 12 := hI.1.2.1.2.1
  first
  | replace e3 : x3 = x1 + x2 := zd_a2 (zEq_o e3) (by clear e3; exact ⟨by omega, by omega⟩)
  | clear e3
  replace e4 : x4 = η 5 (Int.toNat x3) := e4
  replace r4 : -2147483648 ≤ x4 ∧ x4 ≤ 2147483647 := r4
  first
  | replace e5 : x5 = x2 + 1 := zd_a2 (zEq_o e5) (by clear e5; exact ⟨by omega, by omega⟩)
  | clear e5
  have bn : x1 = 12 := by omega
  have u1 : ∀ j : Nat, (j : Int) < x2 → η 5 j = η0 5 (12 + j) := hig.1
  have u2 : ∀ j : Nat, x2 ≤ (j : Int) → η 5 j = η0 5 j := hig.2
  refine ⟨⟨fun j hj => ?_, fun j hj => ?_⟩, Nat.zero_lt_one⟩
  · have hj : (j : Int) < x5 := hj
    by_cases q : j = Int.toNat x2
    · rw [eη1, q, zup_eq, e4, show Int.toNat x3 = 12 + Int.toNat x2 by omega]
      exact u2 _ (by omega)
    · rw [eη1, zup_ne (fun _ e => q e)]
      exact u1 j (by omega)
  · have hj : x5 ≤ (j : Int) := hj
    rw [eη1, zup_ne (fun _ e => by omega)]
    exact u2 j (by omega)
set_option maxHeartbeats 8000000 in
theorem zne_copies_5 {ro : Nat → List Int32} : zMet pr_P pr_K pr_df ro (sm_X0 1 6) 0 129 tm_ne [(.inr (.inr (.inl (nat_lit 5)))), (.inl (nat_lit 0, (.ofNat (nat_lit 12))))] 0 [] [] (fun xs η => sP wl_ne zTr zPne_copies_5 xs η ∧ pPne_copies_5 xs η) (fun xs η y η' => sQ wl_ne zTr zOne_copies_5 zMne_copies_5 xs η y η' ∧ pQne_copies_5 xs η y η') :=
  zmet_alt (zmea_gen (mi := (nat_lit 2, nat_lit 0, nat_lit 8, nat_lit 3, nat_lit 0, tX8_copies)) (cd := []) (cu := zUne_copies_5) (cs := []) (iv := zVne_copies_5) (po := [zOne_copies_5]) (pr := zPne_copies_5) (mods := zMne_copies_5) (D7 := zDne_copies_5) (D0 := zEne_copies_5) (Dm := zFne_copies_5) (f0 := 7) pCne_copies_5 qCne_copies_5 iCne_copies_5 pPne_copies_5 (fun xs η _ y η' => pQne_copies_5 xs η y η') zX_low pr_mtR rfl (fun _ h => nomatch h) (by decide +kernel) (by decide +kernel) (by decide +kernel)
    (by
      intro xs η hr hl hp hpp
      match xs, hl, hp, hpp with
      | [], _, hp, hpp =>
        refine List.forall_mem_cons.mpr ⟨?_, fun _ h => nomatch h⟩
        · refine zden_L (n := 1) (ρ := [0]) rfl ?_
          show (iCne_copies_5 [] η) 0 [12, 0] η
          exact ⟨fun j hj => absurd (show (j : Int) < 0 from hj) (by omega), fun j _ => rfl⟩
      )
    (fun _ _ _ _ _ _ _ h => nomatch h)
    (List.forall_mem_cons.mpr ⟨⟨zDne_copies_5_0, zEne_copies_5_0, zFne_copies_5_0, 18, by decide +kernel, (by
      intro xs η0 hlx hp hpp ys η hr hl hI hig
      match ys, hl, hI, hig with
      | [x1, x2], _, hI, hig =>
        refine ⟨?_, ?_⟩
        · refine List.forall_mem_cons.mpr ⟨?_, List.forall_mem_cons.mpr ⟨?_, fun _ h => nomatch h⟩⟩
          · refine zden_L (n := 3) (ρ := [x2, x1, 0]) rfl ?_
            exact zne_copies_5_o0 (ro := ro) xs η0 hp hpp x1 x2 η hI hig
          · refine zden_L (n := 3) (ρ := [x2, x1, 0]) rfl ?_
            exact zne_copies_5_o1 (ro := ro) xs η0 hp hpp x1 x2 η hI hig
        · exact fun _ h => nomatch h
      )⟩, (fun _ h => nomatch h)⟩))
def zPne_copies_6 : zPq := ([], [])
def zOne_copies_6 : zPo := (((.ofNat (nat_lit 0)), (.ofNat (nat_lit 0))), [], [])
def zMne_copies_6 : List zCe := [(nat_lit 6, nat_lit 0)]
def pPne_copies_6 : List Int → zE → Prop := fun _ _ => True
def pQne_copies_6 : List Int → zE → Int → zE → Prop := fun _ η _ η' => (∀ j : Nat, j < 12 → η' 6 j = η 6 (12 + j)) ∧ (∀ j : Nat, 12 ≤ j → η' 6 j = η 6 j)
def pCne_copies_6 : Nat → List Int → zE → Prop := fun c => match c with
  | _ => fun _ _ => True
def qCne_copies_6 : Nat → List Int → zE → Int → zE → Prop := fun c => match c with
  | _ => fun _ _ _ _ => True
def iCne_copies_6 : List Int → zE → Nat → List Int → zE → Prop := fun xs η0 c => match c with
  | 0 => fun ys η => ((∀ j : Nat, (j : Int) < ys.getD 1 0 → η 6 j = η0 6 (12 + j)) ∧ (∀ j : Nat, ys.getD 1 0 ≤ (j : Int) → η 6 j = η0 6 j))
  | _ => fun _ _ => True
def zVne_copies_6 : List zIv := [(nat_lit 0, ([((.ofNat (nat_lit 12)), (.ofNat (nat_lit 12))), ((.ofNat (nat_lit 0)), (.ofNat (nat_lit 12)))], []), ((.ofNat (nat_lit 12)), [((.negSucc (nat_lit 0)), nat_lit 0, nat_lit 1, nat_lit 0)]))]
def zUne_copies_6 : List zCu := [(nat_lit 2, nat_lit 0, [(nat_lit 0, (.inr (.inr (.inl (nat_lit 6))))), (nat_lit 1, (.inl (nat_lit 1, (.ofNat (nat_lit 0))))), (nat_lit 2, (.inl (nat_lit 2, (.ofNat (nat_lit 0)))))], [])]
def zDne_copies_6 : List (List zK) := []
def zEne_copies_6 : List (List zK) := [[(nat_lit 12, nat_lit 0, [(nat_lit 0, (.ofNat (nat_lit 12))), (nat_lit 0, (.ofNat (nat_lit 0)))])]]
def zFne_copies_6 : List (List zK) := []
def zDne_copies_6_0 : List (List zK) := [[(nat_lit 7, nat_lit 0, [(nat_lit 3, (.ofNat (nat_lit 0))), (nat_lit 0, (.ofNat (nat_lit 24)))]), (nat_lit 0, nat_lit 1, [(nat_lit 1, (.ofNat (nat_lit 0))), (nat_lit 2, (.ofNat (nat_lit 0)))]), (nat_lit 6, nat_lit 2, [(nat_lit 2, (.ofNat (nat_lit 0))), (nat_lit 1, (.ofNat (nat_lit 0)))])],
  [(nat_lit 7, nat_lit 0, [(nat_lit 2, (.ofNat (nat_lit 0))), (nat_lit 0, (.ofNat (nat_lit 24)))]), (nat_lit 4, nat_lit 0, [(nat_lit 6, (.ofNat (nat_lit 0))), (nat_lit 3, (.ofNat (nat_lit 0)))]), (nat_lit 0, nat_lit 1, [(nat_lit 1, (.ofNat (nat_lit 0))), (nat_lit 2, (.ofNat (nat_lit 0)))]), (nat_lit 6, nat_lit 2, [(nat_lit 2, (.ofNat (nat_lit 0))), (nat_lit 1, (.ofNat (nat_lit 0)))])]]
def zEne_copies_6_0 : List (List zK) := [[(nat_lit 11, nat_lit 0, [(nat_lit 0, (.ofNat (nat_lit 0)))]), (nat_lit 6, nat_lit 3, [(nat_lit 2, (.ofNat (nat_lit 0))), (nat_lit 1, (.ofNat (nat_lit 0)))])],
  [(nat_lit 10, nat_lit 0, [(nat_lit 1, (.ofNat (nat_lit 0))), (nat_lit 5, (.ofNat (nat_lit 0)))]), (nat_lit 0, nat_lit 1, [(nat_lit 2, (.ofNat (nat_lit 0))), (nat_lit 0, (.ofNat (nat_lit 1)))]), (nat_lit 5, nat_lit 0, [(nat_lit 6, (.ofNat (nat_lit 0))), (nat_lit 2, (.ofNat (nat_lit 0))), (nat_lit 4, (.ofNat (nat_lit 0)))]), (nat_lit 4, nat_lit 0, [(nat_lit 6, (.ofNat (nat_lit 0))), (nat_lit 3, (.ofNat (nat_lit 0)))]), (nat_lit 0, nat_lit 1, [(nat_lit 1, (.ofNat (nat_lit 0))), (nat_lit 2, (.ofNat (nat_lit 0)))]), (nat_lit 6, nat_lit 2, [(nat_lit 2, (.ofNat (nat_lit 0))), (nat_lit 1, (.ofNat (nat_lit 0)))])]]
def zFne_copies_6_0 : List (List zK) := []
set_option maxHeartbeats 8000000 in
theorem zne_copies_6_o0 {ro : Nat → List Int32} (xs : List Int) (η0 : zE) (hp : sP wl_ne zTr zPne_copies_6 xs η0) (hpp : pPne_copies_6 xs η0) (x1 x2 : Int) (η : zE) (hI : zsI wl_ne zTr zVne_copies_6 zMne_copies_6 η0 0 [x1, x2] η) (hig : iCne_copies_6 xs η0 0 [x1, x2] η) : (x1 ≤ x2) → (fun (_ : Nat) (y : Int) (η' : zE) => pQne_copies_6 xs η0 y η') 0 0 η := by
  intro c1
  have bx1 : (12 : Int) ≤ x1 ∧ x1 ≤ 12 := hI.1.2.1.1
  have bx2 : (0 : Int) ≤ x2 ∧ x2 ≤ 12 := hI.1.2.1.2.1
  have bn : x1 = 12 := by omega
  have u1 : ∀ j : Nat, (j : Int) < x2 → η 6 j = η0 6 (12 + j) := hig.1
  have u2 : ∀ j : Nat, x2 ≤ (j : Int) → η 6 j = η0 6 j := hig.2
  exact ⟨fun j hj => u1 j (by omega), fun j hj => u2 j (by omega)⟩
set_option maxHeartbeats 8000000 in
theorem zne_copies_6_o1 {ro : Nat → List Int32} (xs : List Int) (η0 : zE) (hp : sP wl_ne zTr zPne_copies_6 xs η0) (hpp : pPne_copies_6 xs η0) (x1 x2 : Int) (η : zE) (hI : zsI wl_ne zTr zVne_copies_6 zMne_copies_6 η0 0 [x1, x2] η) (hig : iCne_copies_6 xs η0 0 [x1, x2] η) : (x2 < x1) → ∀ x3 : Int, x3 = zd 0 1 x1 x2 → ∀ x4 : Int, x4 = η 6 (Int.toNat x3) → zok 0 x4 → ∀ η1 : zE, η1 = zup η 6 (Int.toNat x2) x4 → ∀ x5 : Int, x5 = zd 0 1 x2 1 → (iCne_copies_6 xs η0) 0 [x1, x5] η1 ∧ (fun (_ : Nat) (_ : List Int) (_ : zE) => (0 : Nat)) 0 [x1, x5] η1 < 1 := by
  intro c1 x3 e3 x4 e4 r4 η1 eη1 x5 e5
  replace e3 := zEq_i e3
  replace e5 := zEq_i e5
  have bx1 : (12 : Int) ≤ x1 ∧ x1 ≤ 12 := hI.1.2.1.1
  have bx2 : (0 : Int) ≤ x2 ∧ x2 ≤ 12 := hI.1.2.1.2.1
  first
  | replace e3 : x3 = x1 + x2 := zd_a2 (zEq_o e3) (by clear e3; exact ⟨by omega, by omega⟩)
  | clear e3
  replace e4 : x4 = η 6 (Int.toNat x3) := e4
  replace r4 : -2147483648 ≤ x4 ∧ x4 ≤ 2147483647 := r4
  first
  | replace e5 : x5 = x2 + 1 := zd_a2 (zEq_o e5) (by clear e5; exact ⟨by omega, by omega⟩)
  | clear e5
  have bn : x1 = 12 := by omega
  have u1 : ∀ j : Nat, (j : Int) < x2 → η 6 j = η0 6 (12 + j) := hig.1
  have u2 : ∀ j : Nat, x2 ≤ (j : Int) → η 6 j = η0 6 j := hig.2
  refine ⟨⟨fun j hj => ?_, fun j hj => ?_⟩, Nat.zero_lt_one⟩
  · have hj : (j : Int) < x5 := hj
    by_cases q : j = Int.toNat x2
    · rw [eη1, q, zup_eq, e4, show Int.toNat x3 = 12 + Int.toNat x2 by omega]
      exact u2 _ (by omega)
    · rw [eη1, zup_ne (fun _ e => q e)]
      exact u1 j (by omega)
  · have hj : x5 ≤ (j : Int) := hj
    rw [eη1, zup_ne (fun _ e => by omega)]
    exact u2 j (by omega)
set_option maxHeartbeats 8000000 in
theorem zne_copies_6 {ro : Nat → List Int32} : zMet pr_P pr_K pr_df ro (sm_X0 1 6) 0 129 tm_ne [(.inr (.inr (.inl (nat_lit 6)))), (.inl (nat_lit 0, (.ofNat (nat_lit 12))))] 0 [] [] (fun xs η => sP wl_ne zTr zPne_copies_6 xs η ∧ pPne_copies_6 xs η) (fun xs η y η' => sQ wl_ne zTr zOne_copies_6 zMne_copies_6 xs η y η' ∧ pQne_copies_6 xs η y η') :=
  zmet_alt (zmea_gen (mi := (nat_lit 2, nat_lit 0, nat_lit 8, nat_lit 3, nat_lit 0, tX8_copies)) (cd := []) (cu := zUne_copies_6) (cs := []) (iv := zVne_copies_6) (po := [zOne_copies_6]) (pr := zPne_copies_6) (mods := zMne_copies_6) (D7 := zDne_copies_6) (D0 := zEne_copies_6) (Dm := zFne_copies_6) (f0 := 7) pCne_copies_6 qCne_copies_6 iCne_copies_6 pPne_copies_6 (fun xs η _ y η' => pQne_copies_6 xs η y η') zX_low pr_mtR rfl (fun _ h => nomatch h) (by decide +kernel) (by decide +kernel) (by decide +kernel)
    (by
      intro xs η hr hl hp hpp
      match xs, hl, hp, hpp with
      | [], _, hp, hpp =>
        refine List.forall_mem_cons.mpr ⟨?_, fun _ h => nomatch h⟩
        · refine zden_L (n := 1) (ρ := [0]) rfl ?_
          show (iCne_copies_6 [] η) 0 [12, 0] η
          exact ⟨fun j hj => absurd (show (j : Int) < 0 from hj) (by omega), fun j _ => rfl⟩
      )
    (fun _ _ _ _ _ _ _ h => nomatch h)
    (List.forall_mem_cons.mpr ⟨⟨zDne_copies_6_0, zEne_copies_6_0, zFne_copies_6_0, 18, by decide +kernel, (by
      intro xs η0 hlx hp hpp ys η hr hl hI hig
      match ys, hl, hI, hig with
      | [x1, x2], _, hI, hig =>
        refine ⟨?_, ?_⟩
        · refine List.forall_mem_cons.mpr ⟨?_, List.forall_mem_cons.mpr ⟨?_, fun _ h => nomatch h⟩⟩
          · refine zden_L (n := 3) (ρ := [x2, x1, 0]) rfl ?_
            exact zne_copies_6_o0 (ro := ro) xs η0 hp hpp x1 x2 η hI hig
          · refine zden_L (n := 3) (ρ := [x2, x1, 0]) rfl ?_
            exact zne_copies_6_o1 (ro := ro) xs η0 hp hpp x1 x2 η hI hig
        · exact fun _ h => nomatch h
      )⟩, (fun _ h => nomatch h)⟩))
def zPne_copies_17 : zPq := ([], [])
def zOne_copies_17 : zPo := (((.ofNat (nat_lit 0)), (.ofNat (nat_lit 0))), [], [])
def zMne_copies_17 : List zCe := [(nat_lit 17, nat_lit 0)]
def pPne_copies_17 : List Int → zE → Prop := fun _ _ => True
def pQne_copies_17 : List Int → zE → Int → zE → Prop := fun _ η _ η' => (∀ j : Nat, j < 3 → η' 17 j = η 17 (3 + j)) ∧ (∀ j : Nat, 3 ≤ j → η' 17 j = η 17 j)
def pCne_copies_17 : Nat → List Int → zE → Prop := fun c => match c with
  | _ => fun _ _ => True
def qCne_copies_17 : Nat → List Int → zE → Int → zE → Prop := fun c => match c with
  | _ => fun _ _ _ _ => True
def iCne_copies_17 : List Int → zE → Nat → List Int → zE → Prop := fun xs η0 c => match c with
  | 0 => fun ys η => ((∀ j : Nat, (j : Int) < ys.getD 1 0 → η 17 j = η0 17 (3 + j)) ∧ (∀ j : Nat, ys.getD 1 0 ≤ (j : Int) → η 17 j = η0 17 j))
  | _ => fun _ _ => True
def zVne_copies_17 : List zIv := [(nat_lit 0, ([((.ofNat (nat_lit 3)), (.ofNat (nat_lit 3))), ((.ofNat (nat_lit 0)), (.ofNat (nat_lit 3)))], []), ((.ofNat (nat_lit 3)), [((.negSucc (nat_lit 0)), nat_lit 0, nat_lit 1, nat_lit 0)]))]
def zUne_copies_17 : List zCu := [(nat_lit 2, nat_lit 0, [(nat_lit 0, (.inr (.inr (.inl (nat_lit 17))))), (nat_lit 1, (.inl (nat_lit 1, (.ofNat (nat_lit 0))))), (nat_lit 2, (.inl (nat_lit 2, (.ofNat (nat_lit 0)))))], [])]
def zDne_copies_17 : List (List zK) := []
def zEne_copies_17 : List (List zK) := [[(nat_lit 12, nat_lit 0, [(nat_lit 0, (.ofNat (nat_lit 3))), (nat_lit 0, (.ofNat (nat_lit 0)))])]]
def zFne_copies_17 : List (List zK) := []
def zDne_copies_17_0 : List (List zK) := [[(nat_lit 7, nat_lit 0, [(nat_lit 3, (.ofNat (nat_lit 0))), (nat_lit 0, (.ofNat (nat_lit 6)))]), (nat_lit 0, nat_lit 1, [(nat_lit 1, (.ofNat (nat_lit 0))), (nat_lit 2, (.ofNat (nat_lit 0)))]), (nat_lit 6, nat_lit 2, [(nat_lit 2, (.ofNat (nat_lit 0))), (nat_lit 1, (.ofNat (nat_lit 0)))])],
  [(nat_lit 7, nat_lit 0, [(nat_lit 2, (.ofNat (nat_lit 0))), (nat_lit 0, (.ofNat (nat_lit 6)))]), (nat_lit 4, nat_lit 0, [(nat_lit 17, (.ofNat (nat_lit 0))), (nat_lit 3, (.ofNat (nat_lit 0)))]), (nat_lit 0, nat_lit 1, [(nat_lit 1, (.ofNat (nat_lit 0))), (nat_lit 2, (.ofNat (nat_lit 0)))]), (nat_lit 6, nat_lit 2, [(nat_lit 2, (.ofNat (nat_lit 0))), (nat_lit 1, (.ofNat (nat_lit 0)))])]]
def zEne_copies_17_0 : List (List zK) := [[(nat_lit 11, nat_lit 0, [(nat_lit 0, (.ofNat (nat_lit 0)))]), (nat_lit 6, nat_lit 3, [(nat_lit 2, (.ofNat (nat_lit 0))), (nat_lit 1, (.ofNat (nat_lit 0)))])],
  [(nat_lit 10, nat_lit 0, [(nat_lit 1, (.ofNat (nat_lit 0))), (nat_lit 5, (.ofNat (nat_lit 0)))]), (nat_lit 0, nat_lit 1, [(nat_lit 2, (.ofNat (nat_lit 0))), (nat_lit 0, (.ofNat (nat_lit 1)))]), (nat_lit 5, nat_lit 0, [(nat_lit 17, (.ofNat (nat_lit 0))), (nat_lit 2, (.ofNat (nat_lit 0))), (nat_lit 4, (.ofNat (nat_lit 0)))]), (nat_lit 4, nat_lit 0, [(nat_lit 17, (.ofNat (nat_lit 0))), (nat_lit 3, (.ofNat (nat_lit 0)))]), (nat_lit 0, nat_lit 1, [(nat_lit 1, (.ofNat (nat_lit 0))), (nat_lit 2, (.ofNat (nat_lit 0)))]), (nat_lit 6, nat_lit 2, [(nat_lit 2, (.ofNat (nat_lit 0))), (nat_lit 1, (.ofNat (nat_lit 0)))])]]
def zFne_copies_17_0 : List (List zK) := []
set_option maxHeartbeats 8000000 in
theorem zne_copies_17_o0 {ro : Nat → List Int32} (xs : List Int) (η0 : zE) (hp : sP wl_ne zTr zPne_copies_17 xs η0) (hpp : pPne_copies_17 xs η0) (x1 x2 : Int) (η : zE) (hI : zsI wl_ne zTr zVne_copies_17 zMne_copies_17 η0 0 [x1, x2] η) (hig : iCne_copies_17 xs η0 0 [x1, x2] η) : (x1 ≤ x2) → (fun (_ : Nat) (y : Int) (η' : zE) => pQne_copies_17 xs η0 y η') 0 0 η := by
  intro c1
  have bx1 : (3 : Int) ≤ x1 ∧ x1 ≤ 3 := hI.1.2.1.1
  have bx2 : (0 : Int) ≤ x2 ∧ x2 ≤ 3 := hI.1.2.1.2.1
  have bn : x1 = 3 := by omega
  have u1 : ∀ j : Nat, (j : Int) < x2 → η 17 j = η0 17 (3 + j) := hig.1
  have u2 : ∀ j : Nat, x2 ≤ (j : Int) → η 17 j = η0 17 j := hig.2
  exact ⟨fun j hj => u1 j (by omega), fun j hj => u2 j (by omega)⟩
set_option maxHeartbeats 8000000 in
theorem zne_copies_17_o1 {ro : Nat → List Int32} (xs : List Int) (η0 : zE) (hp : sP wl_ne zTr zPne_copies_17 xs η0) (hpp : pPne_copies_17 xs η0) (x1 x2 : Int) (η : zE) (hI : zsI wl_ne zTr zVne_copies_17 zMne_copies_17 η0 0 [x1, x2] η) (hig : iCne_copies_17 xs η0 0 [x1, x2] η) : (x2 < x1) → ∀ x3 : Int, x3 = zd 0 1 x1 x2 → ∀ x4 : Int, x4 = η 17 (Int.toNat x3) → zok 0 x4 → ∀ η1 : zE, η1 = zup η 17 (Int.toNat x2) x4 → ∀ x5 : Int, x5 = zd 0 1 x2 1 → (iCne_copies_17 xs η0) 0 [x1, x5] η1 ∧ (fun (_ : Nat) (_ : List Int) (_ : zE) => (0 : Nat)) 0 [x1, x5] η1 < 1 := by
  intro c1 x3 e3 x4 e4 r4 η1 eη1 x5 e5
  replace e3 := zEq_i e3
  replace e5 := zEq_i e5
  have bx1 : (3 : Int) ≤ x1 ∧ x1 ≤ 3 := hI.1.2.1.1
  have bx2 : (0 : Int) ≤ x2 ∧ x2 ≤ 3 := hI.1.2.1.2.1
  first
  | replace e3 : x3 = x1 + x2 := zd_a2 (zEq_o e3) (by clear e3; exact ⟨by omega, by omega⟩)
  | clear e3
  replace e4 : x4 = η 17 (Int.toNat x3) := e4
  replace r4 : -2147483648 ≤ x4 ∧ x4 ≤ 2147483647 := r4
  try have rb4 : (0 : Int) ≤ η 17 (Int.toNat x3) ∧ η 17 (Int.toNat x3) ≤ 64 := wf_ok (a := 0) (b := 5) (z := (0, 64)) hI.1.1 (by decide +kernel) (Nat.zero_le _) (by omega)
  first
  | replace e5 : x5 = x2 + 1 := zd_a2 (zEq_o e5) (by clear e5; exact ⟨by omega, by omega⟩)
  | clear e5
  have bn : x1 = 3 := by omega
  have u1 : ∀ j : Nat, (j : Int) < x2 → η 17 j = η0 17 (3 + j) := hig.1
  have u2 : ∀ j : Nat, x2 ≤ (j : Int) → η 17 j = η0 17 j := hig.2
  refine ⟨⟨fun j hj => ?_, fun j hj => ?_⟩, Nat.zero_lt_one⟩
  · have hj : (j : Int) < x5 := hj
    by_cases q : j = Int.toNat x2
    · rw [eη1, q, zup_eq, e4, show Int.toNat x3 = 3 + Int.toNat x2 by omega]
      exact u2 _ (by omega)
    · rw [eη1, zup_ne (fun _ e => q e)]
      exact u1 j (by omega)
  · have hj : x5 ≤ (j : Int) := hj
    rw [eη1, zup_ne (fun _ e => by omega)]
    exact u2 j (by omega)
set_option maxHeartbeats 8000000 in
theorem zne_copies_17 {ro : Nat → List Int32} : zMet pr_P pr_K pr_df ro (sm_X0 1 6) 0 129 tm_ne [(.inr (.inr (.inl (nat_lit 17)))), (.inl (nat_lit 0, (.ofNat (nat_lit 3))))] 0 [] [] (fun xs η => sP wl_ne zTr zPne_copies_17 xs η ∧ pPne_copies_17 xs η) (fun xs η y η' => sQ wl_ne zTr zOne_copies_17 zMne_copies_17 xs η y η' ∧ pQne_copies_17 xs η y η') :=
  zmet_alt (zmea_gen (mi := (nat_lit 2, nat_lit 0, nat_lit 8, nat_lit 3, nat_lit 0, tX8_copies)) (cd := []) (cu := zUne_copies_17) (cs := []) (iv := zVne_copies_17) (po := [zOne_copies_17]) (pr := zPne_copies_17) (mods := zMne_copies_17) (D7 := zDne_copies_17) (D0 := zEne_copies_17) (Dm := zFne_copies_17) (f0 := 7) pCne_copies_17 qCne_copies_17 iCne_copies_17 pPne_copies_17 (fun xs η _ y η' => pQne_copies_17 xs η y η') zX_low pr_mtR rfl (fun _ h => nomatch h) (by decide +kernel) (by decide +kernel) (by decide +kernel)
    (by
      intro xs η hr hl hp hpp
      match xs, hl, hp, hpp with
      | [], _, hp, hpp =>
        refine List.forall_mem_cons.mpr ⟨?_, fun _ h => nomatch h⟩
        · refine zden_L (n := 1) (ρ := [0]) rfl ?_
          show (iCne_copies_17 [] η) 0 [3, 0] η
          exact ⟨fun j hj => absurd (show (j : Int) < 0 from hj) (by omega), fun j _ => rfl⟩
      )
    (fun _ _ _ _ _ _ _ h => nomatch h)
    (List.forall_mem_cons.mpr ⟨⟨zDne_copies_17_0, zEne_copies_17_0, zFne_copies_17_0, 18, by decide +kernel, (by
      intro xs η0 hlx hp hpp ys η hr hl hI hig
      match ys, hl, hI, hig with
      | [x1, x2], _, hI, hig =>
        refine ⟨?_, ?_⟩
        · refine List.forall_mem_cons.mpr ⟨?_, List.forall_mem_cons.mpr ⟨?_, fun _ h => nomatch h⟩⟩
          · refine zden_L (n := 3) (ρ := [x2, x1, 0]) rfl ?_
            exact zne_copies_17_o0 (ro := ro) xs η0 hp hpp x1 x2 η hI hig
          · refine zden_L (n := 3) (ρ := [x2, x1, 0]) rfl ?_
            exact zne_copies_17_o1 (ro := ro) xs η0 hp hpp x1 x2 η hI hig
        · exact fun _ h => nomatch h
      )⟩, (fun _ h => nomatch h)⟩))
def zPne_copies_18 : zPq := ([], [])
def zOne_copies_18 : zPo := (((.ofNat (nat_lit 0)), (.ofNat (nat_lit 0))), [], [])
def zMne_copies_18 : List zCe := [(nat_lit 18, nat_lit 0)]
def pPne_copies_18 : List Int → zE → Prop := fun _ _ => True
def pQne_copies_18 : List Int → zE → Int → zE → Prop := fun _ η _ η' => (∀ j : Nat, j < 3 → η' 18 j = η 18 (3 + j)) ∧ (∀ j : Nat, 3 ≤ j → η' 18 j = η 18 j)
def pCne_copies_18 : Nat → List Int → zE → Prop := fun c => match c with
  | _ => fun _ _ => True
def qCne_copies_18 : Nat → List Int → zE → Int → zE → Prop := fun c => match c with
  | _ => fun _ _ _ _ => True
def iCne_copies_18 : List Int → zE → Nat → List Int → zE → Prop := fun xs η0 c => match c with
  | 0 => fun ys η => ((∀ j : Nat, (j : Int) < ys.getD 1 0 → η 18 j = η0 18 (3 + j)) ∧ (∀ j : Nat, ys.getD 1 0 ≤ (j : Int) → η 18 j = η0 18 j))
  | _ => fun _ _ => True
def zVne_copies_18 : List zIv := [(nat_lit 0, ([((.ofNat (nat_lit 3)), (.ofNat (nat_lit 3))), ((.ofNat (nat_lit 0)), (.ofNat (nat_lit 3)))], []), ((.ofNat (nat_lit 3)), [((.negSucc (nat_lit 0)), nat_lit 0, nat_lit 1, nat_lit 0)]))]
def zUne_copies_18 : List zCu := [(nat_lit 2, nat_lit 0, [(nat_lit 0, (.inr (.inr (.inl (nat_lit 18))))), (nat_lit 1, (.inl (nat_lit 1, (.ofNat (nat_lit 0))))), (nat_lit 2, (.inl (nat_lit 2, (.ofNat (nat_lit 0)))))], [])]
def zDne_copies_18 : List (List zK) := []
def zEne_copies_18 : List (List zK) := [[(nat_lit 12, nat_lit 0, [(nat_lit 0, (.ofNat (nat_lit 3))), (nat_lit 0, (.ofNat (nat_lit 0)))])]]
def zFne_copies_18 : List (List zK) := []
def zDne_copies_18_0 : List (List zK) := [[(nat_lit 7, nat_lit 0, [(nat_lit 3, (.ofNat (nat_lit 0))), (nat_lit 0, (.ofNat (nat_lit 6)))]), (nat_lit 0, nat_lit 1, [(nat_lit 1, (.ofNat (nat_lit 0))), (nat_lit 2, (.ofNat (nat_lit 0)))]), (nat_lit 6, nat_lit 2, [(nat_lit 2, (.ofNat (nat_lit 0))), (nat_lit 1, (.ofNat (nat_lit 0)))])],
  [(nat_lit 7, nat_lit 0, [(nat_lit 2, (.ofNat (nat_lit 0))), (nat_lit 0, (.ofNat (nat_lit 6)))]), (nat_lit 4, nat_lit 0, [(nat_lit 18, (.ofNat (nat_lit 0))), (nat_lit 3, (.ofNat (nat_lit 0)))]), (nat_lit 0, nat_lit 1, [(nat_lit 1, (.ofNat (nat_lit 0))), (nat_lit 2, (.ofNat (nat_lit 0)))]), (nat_lit 6, nat_lit 2, [(nat_lit 2, (.ofNat (nat_lit 0))), (nat_lit 1, (.ofNat (nat_lit 0)))])]]
def zEne_copies_18_0 : List (List zK) := [[(nat_lit 11, nat_lit 0, [(nat_lit 0, (.ofNat (nat_lit 0)))]), (nat_lit 6, nat_lit 3, [(nat_lit 2, (.ofNat (nat_lit 0))), (nat_lit 1, (.ofNat (nat_lit 0)))])],
  [(nat_lit 10, nat_lit 0, [(nat_lit 1, (.ofNat (nat_lit 0))), (nat_lit 5, (.ofNat (nat_lit 0)))]), (nat_lit 0, nat_lit 1, [(nat_lit 2, (.ofNat (nat_lit 0))), (nat_lit 0, (.ofNat (nat_lit 1)))]), (nat_lit 5, nat_lit 0, [(nat_lit 18, (.ofNat (nat_lit 0))), (nat_lit 2, (.ofNat (nat_lit 0))), (nat_lit 4, (.ofNat (nat_lit 0)))]), (nat_lit 4, nat_lit 0, [(nat_lit 18, (.ofNat (nat_lit 0))), (nat_lit 3, (.ofNat (nat_lit 0)))]), (nat_lit 0, nat_lit 1, [(nat_lit 1, (.ofNat (nat_lit 0))), (nat_lit 2, (.ofNat (nat_lit 0)))]), (nat_lit 6, nat_lit 2, [(nat_lit 2, (.ofNat (nat_lit 0))), (nat_lit 1, (.ofNat (nat_lit 0)))])]]
def zFne_copies_18_0 : List (List zK) := []
set_option maxHeartbeats 8000000 in
theorem zne_copies_18_o0 {ro : Nat → List Int32} (xs : List Int) (η0 : zE) (hp : sP wl_ne zTr zPne_copies_18 xs η0) (hpp : pPne_copies_18 xs η0) (x1 x2 : Int) (η : zE) (hI : zsI wl_ne zTr zVne_copies_18 zMne_copies_18 η0 0 [x1, x2] η) (hig : iCne_copies_18 xs η0 0 [x1, x2] η) : (x1 ≤ x2) → (fun (_ : Nat) (y : Int) (η' : zE) => pQne_copies_18 xs η0 y η') 0 0 η := by
  intro c1
  have bx1 : (3 : Int) ≤ x1 ∧ x1 ≤ 3 := hI.1.2.1.1
  have bx2 : (0 : Int) ≤ x2 ∧ x2 ≤ 3 := hI.1.2.1.2.1
  have bn : x1 = 3 := by omega
  have u1 : ∀ j : Nat, (j : Int) < x2 → η 18 j = η0 18 (3 + j) := hig.1
  have u2 : ∀ j : Nat, x2 ≤ (j : Int) → η 18 j = η0 18 j := hig.2
  exact ⟨fun j hj => u1 j (by omega), fun j hj => u2 j (by omega)⟩
set_option maxHeartbeats 8000000 in
theorem zne_copies_18_o1 {ro : Nat → List Int32} (xs : List Int) (η0 : zE) (hp : sP wl_ne zTr zPne_copies_18 xs η0) (hpp : pPne_copies_18 xs η0) (x1 x2 : Int) (η : zE) (hI : zsI wl_ne zTr zVne_copies_18 zMne_copies_18 η0 0 [x1, x2] η) (hig : iCne_copies_18 xs η0 0 [x1, x2] η) : (x2 < x1) → ∀ x3 : Int, x3 = zd 0 1 x1 x2 → ∀ x4 : Int, x4 = η 18 (Int.toNat x3) → zok 0 x4 → ∀ η1 : zE, η1 = zup η 18 (Int.toNat x2) x4 → ∀ x5 : Int, x5 = zd 0 1 x2 1 → (iCne_copies_18 xs η0) 0 [x1, x5] η1 ∧ (fun (_ : Nat) (_ : List Int) (_ : zE) => (0 : Nat)) 0 [x1, x5] η1 < 1 := by
  intro c1 x3 e3 x4 e4 r4 η1 eη1 x5 e5
  replace e3 := zEq_i e3
  replace e5 := zEq_i e5
  have bx1 : (3 : Int) ≤ x1 ∧ x1 ≤ 3 := hI.1.2.1.1
  have bx2 : (0 : Int) ≤ x2 ∧ x2 ≤ 3 := hI.1.2.1.2.1
  first
  | replace e3 : x3 = x1 + x2 := zd_a2 (zEq_o e3) (by clear e3; exact ⟨by omega, by omega⟩)
  | clear e3
  replace e4 : x4 = η 18 (Int.toNat x3) := e4
  replace r4 : -2147483648 ≤ x4 ∧ x4 ≤ 2147483647 := r4
  try have rb4 : (0 : Int) ≤ η 18 (Int.toNat x3) ∧ η 18 (Int.toNat x3) ≤ 64 := wf_ok (a := 0) (b := 5) (z := (0, 64)) hI.1.1 (by decide +kernel) (Nat.zero_le _) (by omega)
  first
  | replace e5 : x5 = x2 + 1 := zd_a2 (zEq_o e5) (by clear e5; exact ⟨by omega, by omega⟩)
  | clear e5
  have bn : x1 = 3 := by omega
  have u1 : ∀ j : Nat, (j : Int) < x2 → η 18 j = η0 18 (3 + j) := hig.1
  have u2 : ∀ j : Nat, x2 ≤ (j : Int) → η 18 j = η0 18 j := hig.2
  refine ⟨⟨fun j hj => ?_, fun j hj => ?_⟩, Nat.zero_lt_one⟩
  · have hj : (j : Int) < x5 := hj
    by_cases q : j = Int.toNat x2
    · rw [eη1, q, zup_eq, e4, show Int.toNat x3 = 3 + Int.toNat x2 by omega]
      exact u2 _ (by omega)
    · rw [eη1, zup_ne (fun _ e => q e)]
      exact u1 j (by omega)
  · have hj : x5 ≤ (j : Int) := hj
    rw [eη1, zup_ne (fun _ e => by omega)]
    exact u2 j (by omega)
set_option maxHeartbeats 8000000 in
theorem zne_copies_18 {ro : Nat → List Int32} : zMet pr_P pr_K pr_df ro (sm_X0 1 6) 0 129 tm_ne [(.inr (.inr (.inl (nat_lit 18)))), (.inl (nat_lit 0, (.ofNat (nat_lit 3))))] 0 [] [] (fun xs η => sP wl_ne zTr zPne_copies_18 xs η ∧ pPne_copies_18 xs η) (fun xs η y η' => sQ wl_ne zTr zOne_copies_18 zMne_copies_18 xs η y η' ∧ pQne_copies_18 xs η y η') :=
  zmet_alt (zmea_gen (mi := (nat_lit 2, nat_lit 0, nat_lit 8, nat_lit 3, nat_lit 0, tX8_copies)) (cd := []) (cu := zUne_copies_18) (cs := []) (iv := zVne_copies_18) (po := [zOne_copies_18]) (pr := zPne_copies_18) (mods := zMne_copies_18) (D7 := zDne_copies_18) (D0 := zEne_copies_18) (Dm := zFne_copies_18) (f0 := 7) pCne_copies_18 qCne_copies_18 iCne_copies_18 pPne_copies_18 (fun xs η _ y η' => pQne_copies_18 xs η y η') zX_low pr_mtR rfl (fun _ h => nomatch h) (by decide +kernel) (by decide +kernel) (by decide +kernel)
    (by
      intro xs η hr hl hp hpp
      match xs, hl, hp, hpp with
      | [], _, hp, hpp =>
        refine List.forall_mem_cons.mpr ⟨?_, fun _ h => nomatch h⟩
        · refine zden_L (n := 1) (ρ := [0]) rfl ?_
          show (iCne_copies_18 [] η) 0 [3, 0] η
          exact ⟨fun j hj => absurd (show (j : Int) < 0 from hj) (by omega), fun j _ => rfl⟩
      )
    (fun _ _ _ _ _ _ _ h => nomatch h)
    (List.forall_mem_cons.mpr ⟨⟨zDne_copies_18_0, zEne_copies_18_0, zFne_copies_18_0, 18, by decide +kernel, (by
      intro xs η0 hlx hp hpp ys η hr hl hI hig
      match ys, hl, hI, hig with
      | [x1, x2], _, hI, hig =>
        refine ⟨?_, ?_⟩
        · refine List.forall_mem_cons.mpr ⟨?_, List.forall_mem_cons.mpr ⟨?_, fun _ h => nomatch h⟩⟩
          · refine zden_L (n := 3) (ρ := [x2, x1, 0]) rfl ?_
            exact zne_copies_18_o0 (ro := ro) xs η0 hp hpp x1 x2 η hI hig
          · refine zden_L (n := 3) (ρ := [x2, x1, 0]) rfl ?_
            exact zne_copies_18_o1 (ro := ro) xs η0 hp hpp x1 x2 η hI hig
        · exact fun _ h => nomatch h
      )⟩, (fun _ h => nomatch h)⟩))
def zPne_copies_19 : zPq := ([], [])
def zOne_copies_19 : zPo := (((.ofNat (nat_lit 0)), (.ofNat (nat_lit 0))), [], [])
def zMne_copies_19 : List zCe := [(nat_lit 19, nat_lit 0)]
def pPne_copies_19 : List Int → zE → Prop := fun _ _ => True
def pQne_copies_19 : List Int → zE → Int → zE → Prop := fun _ η _ η' => (∀ j : Nat, j < 64 → η' 19 j = η 19 (64 + j)) ∧ (∀ j : Nat, 64 ≤ j → η' 19 j = η 19 j)
def pCne_copies_19 : Nat → List Int → zE → Prop := fun c => match c with
  | _ => fun _ _ => True
def qCne_copies_19 : Nat → List Int → zE → Int → zE → Prop := fun c => match c with
  | _ => fun _ _ _ _ => True
def iCne_copies_19 : List Int → zE → Nat → List Int → zE → Prop := fun xs η0 c => match c with
  | 0 => fun ys η => ((∀ j : Nat, (j : Int) < ys.getD 1 0 → η 19 j = η0 19 (64 + j)) ∧ (∀ j : Nat, ys.getD 1 0 ≤ (j : Int) → η 19 j = η0 19 j))
  | _ => fun _ _ => True
def zVne_copies_19 : List zIv := [(nat_lit 0, ([((.ofNat (nat_lit 64)), (.ofNat (nat_lit 64))), ((.ofNat (nat_lit 0)), (.ofNat (nat_lit 64)))], []), ((.ofNat (nat_lit 64)), [((.negSucc (nat_lit 0)), nat_lit 0, nat_lit 1, nat_lit 0)]))]
def zUne_copies_19 : List zCu := [(nat_lit 2, nat_lit 0, [(nat_lit 0, (.inr (.inr (.inl (nat_lit 19))))), (nat_lit 1, (.inl (nat_lit 1, (.ofNat (nat_lit 0))))), (nat_lit 2, (.inl (nat_lit 2, (.ofNat (nat_lit 0)))))], [])]
def zDne_copies_19 : List (List zK) := []
def zEne_copies_19 : List (List zK) := [[(nat_lit 12, nat_lit 0, [(nat_lit 0, (.ofNat (nat_lit 64))), (nat_lit 0, (.ofNat (nat_lit 0)))])]]
def zFne_copies_19 : List (List zK) := []
def zDne_copies_19_0 : List (List zK) := [[(nat_lit 7, nat_lit 0, [(nat_lit 3, (.ofNat (nat_lit 0))), (nat_lit 0, (.ofNat (nat_lit 128)))]), (nat_lit 0, nat_lit 1, [(nat_lit 1, (.ofNat (nat_lit 0))), (nat_lit 2, (.ofNat (nat_lit 0)))]), (nat_lit 6, nat_lit 2, [(nat_lit 2, (.ofNat (nat_lit 0))), (nat_lit 1, (.ofNat (nat_lit 0)))])],
  [(nat_lit 7, nat_lit 0, [(nat_lit 2, (.ofNat (nat_lit 0))), (nat_lit 0, (.ofNat (nat_lit 128)))]), (nat_lit 4, nat_lit 0, [(nat_lit 19, (.ofNat (nat_lit 0))), (nat_lit 3, (.ofNat (nat_lit 0)))]), (nat_lit 0, nat_lit 1, [(nat_lit 1, (.ofNat (nat_lit 0))), (nat_lit 2, (.ofNat (nat_lit 0)))]), (nat_lit 6, nat_lit 2, [(nat_lit 2, (.ofNat (nat_lit 0))), (nat_lit 1, (.ofNat (nat_lit 0)))])]]
def zEne_copies_19_0 : List (List zK) := [[(nat_lit 11, nat_lit 0, [(nat_lit 0, (.ofNat (nat_lit 0)))]), (nat_lit 6, nat_lit 3, [(nat_lit 2, (.ofNat (nat_lit 0))), (nat_lit 1, (.ofNat (nat_lit 0)))])],
  [(nat_lit 10, nat_lit 0, [(nat_lit 1, (.ofNat (nat_lit 0))), (nat_lit 5, (.ofNat (nat_lit 0)))]), (nat_lit 0, nat_lit 1, [(nat_lit 2, (.ofNat (nat_lit 0))), (nat_lit 0, (.ofNat (nat_lit 1)))]), (nat_lit 5, nat_lit 0, [(nat_lit 19, (.ofNat (nat_lit 0))), (nat_lit 2, (.ofNat (nat_lit 0))), (nat_lit 4, (.ofNat (nat_lit 0)))]), (nat_lit 4, nat_lit 0, [(nat_lit 19, (.ofNat (nat_lit 0))), (nat_lit 3, (.ofNat (nat_lit 0)))]), (nat_lit 0, nat_lit 1, [(nat_lit 1, (.ofNat (nat_lit 0))), (nat_lit 2, (.ofNat (nat_lit 0)))]), (nat_lit 6, nat_lit 2, [(nat_lit 2, (.ofNat (nat_lit 0))), (nat_lit 1, (.ofNat (nat_lit 0)))])]]
def zFne_copies_19_0 : List (List zK) := []
set_option maxHeartbeats 8000000 in
theorem zne_copies_19_o0 {ro : Nat → List Int32} (xs : List Int) (η0 : zE) (hp : sP wl_ne zTr zPne_copies_19 xs η0) (hpp : pPne_copies_19 xs η0) (x1 x2 : Int) (η : zE) (hI : zsI wl_ne zTr zVne_copies_19 zMne_copies_19 η0 0 [x1, x2] η) (hig : iCne_copies_19 xs η0 0 [x1, x2] η) : (x1 ≤ x2) → (fun (_ : Nat) (y : Int) (η' : zE) => pQne_copies_19 xs η0 y η') 0 0 η := by
  intro c1
  have bx1 : (64 : Int) ≤ x1 ∧ x1 ≤ 64 := hI.1.2.1.1
  have bx2 : (0 : Int) ≤ x2 ∧ x2 ≤ 64 := hI.1.2.1.2.1
  have bn : x1 = 64 := by omega
  have u1 : ∀ j : Nat, (j : Int) < x2 → η 19 j = η0 19 (64 + j) := hig.1
  have u2 : ∀ j : Nat, x2 ≤ (j : Int) → η 19 j = η0 19 j := hig.2
  exact ⟨fun j hj => u1 j (by omega), fun j hj => u2 j (by omega)⟩
set_option maxHeartbeats 8000000 in
theorem zne_copies_19_o1 {ro : Nat → List Int32} (xs : List Int) (η0 : zE) (hp : sP wl_ne zTr zPne_copies_19 xs η0) (hpp : pPne_copies_19 xs η0) (x1 x2 : Int) (η : zE) (hI : zsI wl_ne zTr zVne_copies_19 zMne_copies_19 η0 0 [x1, x2] η) (hig : iCne_copies_19 xs η0 0 [x1, x2] η) : (x2 < x1) → ∀ x3 : Int, x3 = zd 0 1 x1 x2 → ∀ x4 : Int, x4 = η 19 (Int.toNat x3) → zok 0 x4 → ∀ η1 : zE, η1 = zup η 19 (Int.toNat x2) x4 → ∀ x5 : Int, x5 = zd 0 1 x2 1 → (iCne_copies_19 xs η0) 0 [x1, x5] η1 ∧ (fun (_ : Nat) (_ : List Int) (_ : zE) => (0 : Nat)) 0 [x1, x5] η1 < 1 := by
  intro c1 x3 e3 x4 e4 r4 η1 eη1 x5 e5
  replace e3 := zEq_i e3
  replace e5 := zEq_i e5
  have bx1 : (64 : Int) ≤ x1 ∧ x1 ≤ 64 := hI.1.2.1.1
  have bx2 : (0 : Int) ≤ x2 ∧ x2 ≤ 64 := hI.1.2.1.2.1
  first
  | replace e3 : x3 = x1 + x2 := zd_a2 (zEq_o e3) (by clear e3; exact ⟨by omega, by omega⟩)
  | clear e3
  replace e4 : x4 = η 19 (Int.toNat x3) := e4
  replace r4 : -2147483648 ≤ x4 ∧ x4 ≤ 2147483647 := r4
  first
  | replace e5 : x5 = x2 + 1 := zd_a2 (zEq_o e5) (by clear e5; exact ⟨by omega, by omega⟩)
  | clear e5
  have bn : x1 = 64 := by omega
  have u1 : ∀ j : Nat, (j : Int) < x2 → η 19 j = η0 19 (64 + j) := hig.1
  have u2 : ∀ j : Nat, x2 ≤ (j : Int) → η 19 j = η0 19 j := hig.2
  refine ⟨⟨fun j hj => ?_, fun j hj => ?_⟩, Nat.zero_lt_one⟩
  · have hj : (j : Int) < x5 := hj
    by_cases q : j = Int.toNat x2
    · rw [eη1, q, zup_eq, e4, show Int.toNat x3 = 64 + Int.toNat x2 by omega]
      exact u2 _ (by omega)
    · rw [eη1, zup_ne (fun _ e => q e)]
      exact u1 j (by omega)
  · have hj : x5 ≤ (j : Int) := hj
    rw [eη1, zup_ne (fun _ e => by omega)]
    exact u2 j (by omega)
set_option maxHeartbeats 8000000 in
theorem zne_copies_19 {ro : Nat → List Int32} : zMet pr_P pr_K pr_df ro (sm_X0 1 6) 0 129 tm_ne [(.inr (.inr (.inl (nat_lit 19)))), (.inl (nat_lit 0, (.ofNat (nat_lit 64))))] 0 [] [] (fun xs η => sP wl_ne zTr zPne_copies_19 xs η ∧ pPne_copies_19 xs η) (fun xs η y η' => sQ wl_ne zTr zOne_copies_19 zMne_copies_19 xs η y η' ∧ pQne_copies_19 xs η y η') :=
  zmet_alt (zmea_gen (mi := (nat_lit 2, nat_lit 0, nat_lit 8, nat_lit 3, nat_lit 0, tX8_copies)) (cd := []) (cu := zUne_copies_19) (cs := []) (iv := zVne_copies_19) (po := [zOne_copies_19]) (pr := zPne_copies_19) (mods := zMne_copies_19) (D7 := zDne_copies_19) (D0 := zEne_copies_19) (Dm := zFne_copies_19) (f0 := 7) pCne_copies_19 qCne_copies_19 iCne_copies_19 pPne_copies_19 (fun xs η _ y η' => pQne_copies_19 xs η y η') zX_low pr_mtR rfl (fun _ h => nomatch h) (by decide +kernel) (by decide +kernel) (by decide +kernel)
    (by
      intro xs η hr hl hp hpp
      match xs, hl, hp, hpp with
      | [], _, hp, hpp =>
        refine List.forall_mem_cons.mpr ⟨?_, fun _ h => nomatch h⟩
        · refine zden_L (n := 1) (ρ := [0]) rfl ?_
          show (iCne_copies_19 [] η) 0 [64, 0] η
          exact ⟨fun j hj => absurd (show (j : Int) < 0 from hj) (by omega), fun j _ => rfl⟩
      )
    (fun _ _ _ _ _ _ _ h => nomatch h)
    (List.forall_mem_cons.mpr ⟨⟨zDne_copies_19_0, zEne_copies_19_0, zFne_copies_19_0, 18, by decide +kernel, (by
      intro xs η0 hlx hp hpp ys η hr hl hI hig
      match ys, hl, hI, hig with
      | [x1, x2], _, hI, hig =>
        refine ⟨?_, ?_⟩
        · refine List.forall_mem_cons.mpr ⟨?_, List.forall_mem_cons.mpr ⟨?_, fun _ h => nomatch h⟩⟩
          · refine zden_L (n := 3) (ρ := [x2, x1, 0]) rfl ?_
            exact zne_copies_19_o0 (ro := ro) xs η0 hp hpp x1 x2 η hI hig
          · refine zden_L (n := 3) (ρ := [x2, x1, 0]) rfl ?_
            exact zne_copies_19_o1 (ro := ro) xs η0 hp hpp x1 x2 η hI hig
        · exact fun _ h => nomatch h
      )⟩, (fun _ h => nomatch h)⟩))
def zPne_copies_20 : zPq := ([], [])
def zOne_copies_20 : zPo := (((.ofNat (nat_lit 0)), (.ofNat (nat_lit 0))), [], [])
def zMne_copies_20 : List zCe := [(nat_lit 20, nat_lit 0)]
def pPne_copies_20 : List Int → zE → Prop := fun _ _ => True
def pQne_copies_20 : List Int → zE → Int → zE → Prop := fun _ η _ η' => (∀ j : Nat, j < 64 → η' 20 j = η 20 (64 + j)) ∧ (∀ j : Nat, 64 ≤ j → η' 20 j = η 20 j)
def pCne_copies_20 : Nat → List Int → zE → Prop := fun c => match c with
  | _ => fun _ _ => True
def qCne_copies_20 : Nat → List Int → zE → Int → zE → Prop := fun c => match c with
  | _ => fun _ _ _ _ => True
def iCne_copies_20 : List Int → zE → Nat → List Int → zE → Prop := fun xs η0 c => match c with
  | 0 => fun ys η => ((∀ j : Nat, (j : Int) < ys.getD 1 0 → η 20 j = η0 20 (64 + j)) ∧ (∀ j : Nat, ys.getD 1 0 ≤ (j : Int) → η 20 j = η0 20 j))
  | _ => fun _ _ => True
def zVne_copies_20 : List zIv := [(nat_lit 0, ([((.ofNat (nat_lit 64)), (.ofNat (nat_lit 64))), ((.ofNat (nat_lit 0)), (.ofNat (nat_lit 64)))], []), ((.ofNat (nat_lit 64)), [((.negSucc (nat_lit 0)), nat_lit 0, nat_lit 1, nat_lit 0)]))]
def zUne_copies_20 : List zCu := [(nat_lit 2, nat_lit 0, [(nat_lit 0, (.inr (.inr (.inl (nat_lit 20))))), (nat_lit 1, (.inl (nat_lit 1, (.ofNat (nat_lit 0))))), (nat_lit 2, (.inl (nat_lit 2, (.ofNat (nat_lit 0)))))], [])]
def zDne_copies_20 : List (List zK) := []
def zEne_copies_20 : List (List zK) := [[(nat_lit 12, nat_lit 0, [(nat_lit 0, (.ofNat (nat_lit 64))), (nat_lit 0, (.ofNat (nat_lit 0)))])]]
def zFne_copies_20 : List (List zK) := []
def zDne_copies_20_0 : List (List zK) := [[(nat_lit 7, nat_lit 0, [(nat_lit 3, (.ofNat (nat_lit 0))), (nat_lit 0, (.ofNat (nat_lit 128)))]), (nat_lit 0, nat_lit 1, [(nat_lit 1, (.ofNat (nat_lit 0))), (nat_lit 2, (.ofNat (nat_lit 0)))]), (nat_lit 6, nat_lit 2, [(nat_lit 2, (.ofNat (nat_lit 0))), (nat_lit 1, (.ofNat (nat_lit 0)))])],
  [(nat_lit 7, nat_lit 0, [(nat_lit 2, (.ofNat (nat_lit 0))), (nat_lit 0, (.ofNat (nat_lit 128)))]), (nat_lit 4, nat_lit 0, [(nat_lit 20, (.ofNat (nat_lit 0))), (nat_lit 3, (.ofNat (nat_lit 0)))]), (nat_lit 0, nat_lit 1, [(nat_lit 1, (.ofNat (nat_lit 0))), (nat_lit 2, (.ofNat (nat_lit 0)))]), (nat_lit 6, nat_lit 2, [(nat_lit 2, (.ofNat (nat_lit 0))), (nat_lit 1, (.ofNat (nat_lit 0)))])]]
def zEne_copies_20_0 : List (List zK) := [[(nat_lit 11, nat_lit 0, [(nat_lit 0, (.ofNat (nat_lit 0)))]), (nat_lit 6, nat_lit 3, [(nat_lit 2, (.ofNat (nat_lit 0))), (nat_lit 1, (.ofNat (nat_lit 0)))])],
  [(nat_lit 10, nat_lit 0, [(nat_lit 1, (.ofNat (nat_lit 0))), (nat_lit 5, (.ofNat (nat_lit 0)))]), (nat_lit 0, nat_lit 1, [(nat_lit 2, (.ofNat (nat_lit 0))), (nat_lit 0, (.ofNat (nat_lit 1)))]), (nat_lit 5, nat_lit 0, [(nat_lit 20, (.ofNat (nat_lit 0))), (nat_lit 2, (.ofNat (nat_lit 0))), (nat_lit 4, (.ofNat (nat_lit 0)))]), (nat_lit 4, nat_lit 0, [(nat_lit 20, (.ofNat (nat_lit 0))), (nat_lit 3, (.ofNat (nat_lit 0)))]), (nat_lit 0, nat_lit 1, [(nat_lit 1, (.ofNat (nat_lit 0))), (nat_lit 2, (.ofNat (nat_lit 0)))]), (nat_lit 6, nat_lit 2, [(nat_lit 2, (.ofNat (nat_lit 0))), (nat_lit 1, (.ofNat (nat_lit 0)))])]]
def zFne_copies_20_0 : List (List zK) := []
set_option maxHeartbeats 8000000 in
theorem zne_copies_20_o0 {ro : Nat → List Int32} (xs : List Int) (η0 : zE) (hp : sP wl_ne zTr zPne_copies_20 xs η0) (hpp : pPne_copies_20 xs η0) (x1 x2 : Int) (η : zE) (hI : zsI wl_ne zTr zVne_copies_20 zMne_copies_20 η0 0 [x1, x2] η) (hig : iCne_copies_20 xs η0 0 [x1, x2] η) : (x1 ≤ x2) → (fun (_ : Nat) (y : Int) (η' : zE) => pQne_copies_20 xs η0 y η') 0 0 η := by
  intro c1
  have bx1 : (64 : Int) ≤ x1 ∧ x1 ≤ 64 := hI.1.2.1.1
  have bx2 : (0 : Int) ≤ x2 ∧ x2 ≤ 64 := hI.1.2.1.2.1
  have bn : x1 = 64 := by omega
  have u1 : ∀ j : Nat, (j : Int) < x2 → η 20 j = η0 20 (64 + j) := hig.1
  have u2 : ∀ j : Nat, x2 ≤ (j : Int) → η 20 j = η0 20 j := hig.2
  exact ⟨fun j hj => u1 j (by omega), fun j hj => u2 j (by omega)⟩
set_option maxHeartbeats 8000000 in
theorem zne_copies_20_o1 {ro : Nat → List Int32} (xs : List Int) (η0 : zE) (hp : sP wl_ne zTr zPne_copies_20 xs η0) (hpp : pPne_copies_20 xs η0) (x1 x2 : Int) (η : zE) (hI : zsI wl_ne zTr zVne_copies_20 zMne_copies_20 η0 0 [x1, x2] η) (hig : iCne_copies_20 xs η0 0 [x1, x2] η) : (x2 < x1) → ∀ x3 : Int, x3 = zd 0 1 x1 x2 → ∀ x4 : Int, x4 = η 20 (Int.toNat x3) → zok 0 x4 → ∀ η1 : zE, η1 = zup η 20 (Int.toNat x2) x4 → ∀ x5 : Int, x5 = zd 0 1 x2 1 → (iCne_copies_20 xs η0) 0 [x1, x5] η1 ∧ (fun (_ : Nat) (_ : List Int) (_ : zE) => (0 : Nat)) 0 [x1, x5] η1 < 1 := by
  intro c1 x3 e3 x4 e4 r4 η1 eη1 x5 e5
  replace e3 := zEq_i e3
  replace e5 := zEq_i e5
  have bx1 : (64 : Int) ≤ x1 ∧ x1 ≤ 64 := hI.1.2.1.1
  have bx2 : (0 : Int) ≤ x2 ∧ x2 ≤ 64 := hI.1.2.1.2.1
  first
  | replace e3 : x3 = x1 + x2 := zd_a2 (zEq_o e3) (by clear e3; exact ⟨by omega, by omega⟩)
  | clear e3
  replace e4 : x4 = η 20 (Int.toNat x3) := e4
  replace r4 : -2147483648 ≤ x4 ∧ x4 ≤ 2147483647 := r4
  first
  | replace e5 : x5 = x2 + 1 := zd_a2 (zEq_o e5) (by clear e5; exact ⟨by omega, by omega⟩)
  | clear e5
  have bn : x1 = 64 := by omega
  have u1 : ∀ j : Nat, (j : Int) < x2 → η 20 j = η0 20 (64 + j) := hig.1
  have u2 : ∀ j : Nat, x2 ≤ (j : Int) → η 20 j = η0 20 j := hig.2
  refine ⟨⟨fun j hj => ?_, fun j hj => ?_⟩, Nat.zero_lt_one⟩
  · have hj : (j : Int) < x5 := hj
    by_cases q : j = Int.toNat x2
    · rw [eη1, q, zup_eq, e4, show Int.toNat x3 = 64 + Int.toNat x2 by omega]
      exact u2 _ (by omega)
    · rw [eη1, zup_ne (fun _ e => q e)]
      exact u1 j (by omega)
  · have hj : x5 ≤ (j : Int) := hj
    rw [eη1, zup_ne (fun _ e => by omega)]
    exact u2 j (by omega)
set_option maxHeartbeats 8000000 in
theorem zne_copies_20 {ro : Nat → List Int32} : zMet pr_P pr_K pr_df ro (sm_X0 1 6) 0 129 tm_ne [(.inr (.inr (.inl (nat_lit 20)))), (.inl (nat_lit 0, (.ofNat (nat_lit 64))))] 0 [] [] (fun xs η => sP wl_ne zTr zPne_copies_20 xs η ∧ pPne_copies_20 xs η) (fun xs η y η' => sQ wl_ne zTr zOne_copies_20 zMne_copies_20 xs η y η' ∧ pQne_copies_20 xs η y η') :=
  zmet_alt (zmea_gen (mi := (nat_lit 2, nat_lit 0, nat_lit 8, nat_lit 3, nat_lit 0, tX8_copies)) (cd := []) (cu := zUne_copies_20) (cs := []) (iv := zVne_copies_20) (po := [zOne_copies_20]) (pr := zPne_copies_20) (mods := zMne_copies_20) (D7 := zDne_copies_20) (D0 := zEne_copies_20) (Dm := zFne_copies_20) (f0 := 7) pCne_copies_20 qCne_copies_20 iCne_copies_20 pPne_copies_20 (fun xs η _ y η' => pQne_copies_20 xs η y η') zX_low pr_mtR rfl (fun _ h => nomatch h) (by decide +kernel) (by decide +kernel) (by decide +kernel)
    (by
      intro xs η hr hl hp hpp
      match xs, hl, hp, hpp with
      | [], _, hp, hpp =>
        refine List.forall_mem_cons.mpr ⟨?_, fun _ h => nomatch h⟩
        · refine zden_L (n := 1) (ρ := [0]) rfl ?_
          show (iCne_copies_20 [] η) 0 [64, 0] η
          exact ⟨fun j hj => absurd (show (j : Int) < 0 from hj) (by omega), fun j _ => rfl⟩
      )
    (fun _ _ _ _ _ _ _ h => nomatch h)
    (List.forall_mem_cons.mpr ⟨⟨zDne_copies_20_0, zEne_copies_20_0, zFne_copies_20_0, 18, by decide +kernel, (by
      intro xs η0 hlx hp hpp ys η hr hl hI hig
      match ys, hl, hI, hig with
      | [x1, x2], _, hI, hig =>
        refine ⟨?_, ?_⟩
        · refine List.forall_mem_cons.mpr ⟨?_, List.forall_mem_cons.mpr ⟨?_, fun _ h => nomatch h⟩⟩
          · refine zden_L (n := 3) (ρ := [x2, x1, 0]) rfl ?_
            exact zne_copies_20_o0 (ro := ro) xs η0 hp hpp x1 x2 η hI hig
          · refine zden_L (n := 3) (ρ := [x2, x1, 0]) rfl ?_
            exact zne_copies_20_o1 (ro := ro) xs η0 hp hpp x1 x2 η hI hig
        · exact fun _ h => nomatch h
      )⟩, (fun _ h => nomatch h)⟩))
def zPne_copies_21 : zPq := ([], [])
def zOne_copies_21 : zPo := (((.ofNat (nat_lit 0)), (.ofNat (nat_lit 0))), [], [])
def zMne_copies_21 : List zCe := [(nat_lit 21, nat_lit 0)]
def pPne_copies_21 : List Int → zE → Prop := fun _ _ => True
def pQne_copies_21 : List Int → zE → Int → zE → Prop := fun _ η _ η' => (∀ j : Nat, j < 64 → η' 21 j = η 21 (64 + j)) ∧ (∀ j : Nat, 64 ≤ j → η' 21 j = η 21 j)
def pCne_copies_21 : Nat → List Int → zE → Prop := fun c => match c with
  | _ => fun _ _ => True
def qCne_copies_21 : Nat → List Int → zE → Int → zE → Prop := fun c => match c with
  | _ => fun _ _ _ _ => True
def iCne_copies_21 : List Int → zE → Nat → List Int → zE → Prop := fun xs η0 c => match c with
  | 0 => fun ys η => ((∀ j : Nat, (j : Int) < ys.getD 1 0 → η 21 j = η0 21 (64 + j)) ∧ (∀ j : Nat, ys.getD 1 0 ≤ (j : Int) → η 21 j = η0 21 j))
  | _ => fun _ _ => True
def zVne_copies_21 : List zIv := [(nat_lit 0, ([((.ofNat (nat_lit 64)), (.ofNat (nat_lit 64))), ((.ofNat (nat_lit 0)), (.ofNat (nat_lit 64)))], []), ((.ofNat (nat_lit 64)), [((.negSucc (nat_lit 0)), nat_lit 0, nat_lit 1, nat_lit 0)]))]
def zUne_copies_21 : List zCu := [(nat_lit 2, nat_lit 0, [(nat_lit 0, (.inr (.inr (.inl (nat_lit 21))))), (nat_lit 1, (.inl (nat_lit 1, (.ofNat (nat_lit 0))))), (nat_lit 2, (.inl (nat_lit 2, (.ofNat (nat_lit 0)))))], [])]
def zDne_copies_21 : List (List zK) := []
def zEne_copies_21 : List (List zK) := [[(nat_lit 12, nat_lit 0, [(nat_lit 0, (.ofNat (nat_lit 64))), (nat_lit 0, (.ofNat (nat_lit 0)))])]]
def zFne_copies_21 : List (List zK) := []
def zDne_copies_21_0 : List (List zK) := [[(nat_lit 7, nat_lit 0, [(nat_lit 3, (.ofNat (nat_lit 0))), (nat_lit 0, (.ofNat (nat_lit 128)))]), (nat_lit 0, nat_lit 1, [(nat_lit 1, (.ofNat (nat_lit 0))), (nat_lit 2, (.ofNat (nat_lit 0)))]), (nat_lit 6, nat_lit 2, [(nat_lit 2, (.ofNat (nat_lit 0))), (nat_lit 1, (.ofNat (nat_lit 0)))])],
  [(nat_lit 7, nat_lit 0, [(nat_lit 2, (.ofNat (nat_lit 0))), (nat_lit 0, (.ofNat (nat_lit 128)))]), (nat_lit 4, nat_lit 0, [(nat_lit 21, (.ofNat (nat_lit 0))), (nat_lit 3, (.ofNat (nat_lit 0)))]), (nat_lit 0, nat_lit 1, [(nat_lit 1, (.ofNat (nat_lit 0))), (nat_lit 2, (.ofNat (nat_lit 0)))]), (nat_lit 6, nat_lit 2, [(nat_lit 2, (.ofNat (nat_lit 0))), (nat_lit 1, (.ofNat (nat_lit 0)))])]]
def zEne_copies_21_0 : List (List zK) := [[(nat_lit 11, nat_lit 0, [(nat_lit 0, (.ofNat (nat_lit 0)))]), (nat_lit 6, nat_lit 3, [(nat_lit 2, (.ofNat (nat_lit 0))), (nat_lit 1, (.ofNat (nat_lit 0)))])],
  [(nat_lit 10, nat_lit 0, [(nat_lit 1, (.ofNat (nat_lit 0))), (nat_lit 5, (.ofNat (nat_lit 0)))]), (nat_lit 0, nat_lit 1, [(nat_lit 2, (.ofNat (nat_lit 0))), (nat_lit 0, (.ofNat (nat_lit 1)))]), (nat_lit 5, nat_lit 0, [(nat_lit 21, (.ofNat (nat_lit 0))), (nat_lit 2, (.ofNat (nat_lit 0))), (nat_lit 4, (.ofNat (nat_lit 0)))]), (nat_lit 4, nat_lit 0, [(nat_lit 21, (.ofNat (nat_lit 0))), (nat_lit 3, (.ofNat (nat_lit 0)))]), (nat_lit 0, nat_lit 1, [(nat_lit 1, (.ofNat (nat_lit 0))), (nat_lit 2, (.ofNat (nat_lit 0)))]), (nat_lit 6, nat_lit 2, [(nat_lit 2, (.ofNat (nat_lit 0))), (nat_lit 1, (.ofNat (nat_lit 0)))])]]
def zFne_copies_21_0 : List (List zK) := []
set_option maxHeartbeats 8000000 in
theorem zne_copies_21_o0 {ro : Nat → List Int32} (xs : List Int) (η0 : zE) (hp : sP wl_ne zTr zPne_copies_21 xs η0) (hpp : pPne_copies_21 xs η0) (x1 x2 : Int) (η : zE) (hI : zsI wl_ne zTr zVne_copies_21 zMne_copies_21 η0 0 [x1, x2] η) (hig : iCne_copies_21 xs η0 0 [x1, x2] η) : (x1 ≤ x2) → (fun (_ : Nat) (y : Int) (η' : zE) => pQne_copies_21 xs η0 y η') 0 0 η := by
  intro c1
  have bx1 : (64 : Int) ≤ x1 ∧ x1 ≤ 64 := hI.1.2.1.1
  have bx2 : (0 : Int) ≤ x2 ∧ x2 ≤ 64 := hI.1.2.1.2.1
  have bn : x1 = 64 := by omega
  have u1 : ∀ j : Nat, (j : Int) < x2 → η 21 j = η0 21 (64 + j) := hig.1
  have u2 : ∀ j : Nat, x2 ≤ (j : Int) → η 21 j = η0 21 j := hig.2
  exact ⟨fun j hj => u1 j (by omega), fun j hj => u2 j (by omega)⟩
set_option maxHeartbeats 8000000 in
theorem zne_copies_21_o1 {ro : Nat → List Int32} (xs : List Int) (η0 : zE) (hp : sP wl_ne zTr zPne_copies_21 xs η0) (hpp : pPne_copies_21 xs η0) (x1 x2 : Int) (η : zE) (hI : zsI wl_ne zTr zVne_copies_21 zMne_copies_21 η0 0 [x1, x2] η) (hig : iCne_copies_21 xs η0 0 [x1, x2] η) : (x2 < x1) → ∀ x3 : Int, x3 = zd 0 1 x1 x2 → ∀ x4 : Int, x4 = η 21 (Int.toNat x3) → zok 0 x4 → ∀ η1 : zE, η1 = zup η 21 (Int.toNat x2) x4 → ∀ x5 : Int, x5 = zd 0 1 x2 1 → (iCne_copies_21 xs η0) 0 [x1, x5] η1 ∧ (fun (_ : Nat) (_ : List Int) (_ : zE) => (0 : Nat)) 0 [x1, x5] η1 < 1 := by
  intro c1 x3 e3 x4 e4 r4 η1 eη1 x5 e5
  replace e3 := zEq_i e3
  replace e5 := zEq_i e5
  have bx1 : (64 : Int) ≤ x1 ∧ x1 ≤ 64 := hI.1.2.1.1
  have bx2 : (0 : Int) ≤ x2 ∧ x2 ≤ 64 := hI.1.2.1.2.1
  first
  | replace e3 : x3 = x1 + x2 := zd_a2 (zEq_o e3) (by clear e3; exact ⟨by omega, by omega⟩)
  | clear e3
  replace e4 : x4 = η 21 (Int.toNat x3) := e4
  replace r4 : -2147483648 ≤ x4 ∧ x4 ≤ 2147483647 := r4
  first
  | replace e5 : x5 = x2 + 1 := zd_a2 (zEq_o e5) (by clear e5; exact ⟨by omega, by omega⟩)
  | clear e5
  have bn : x1 = 64 := by omega
  have u1 : ∀ j : Nat, (j : Int) < x2 → η 21 j = η0 21 (64 + j) := hig.1
  have u2 : ∀ j : Nat, x2 ≤ (j : Int) → η 21 j = η0 21 j := hig.2
  refine ⟨⟨fun j hj => ?_, fun j hj => ?_⟩, Nat.zero_lt_one⟩
  · have hj : (j : Int) < x5 := hj
    by_cases q : j = Int.toNat x2
    · rw [eη1, q, zup_eq, e4, show Int.toNat x3 = 64 + Int.toNat x2 by omega]
      exact u2 _ (by omega)
    · rw [eη1, zup_ne (fun _ e => q e)]
      exact u1 j (by omega)
  · have hj : x5 ≤ (j : Int) := hj
    rw [eη1, zup_ne (fun _ e => by omega)]
    exact u2 j (by omega)
set_option maxHeartbeats 8000000 in
theorem zne_copies_21 {ro : Nat → List Int32} : zMet pr_P pr_K pr_df ro (sm_X0 1 6) 0 129 tm_ne [(.inr (.inr (.inl (nat_lit 21)))), (.inl (nat_lit 0, (.ofNat (nat_lit 64))))] 0 [] [] (fun xs η => sP wl_ne zTr zPne_copies_21 xs η ∧ pPne_copies_21 xs η) (fun xs η y η' => sQ wl_ne zTr zOne_copies_21 zMne_copies_21 xs η y η' ∧ pQne_copies_21 xs η y η') :=
  zmet_alt (zmea_gen (mi := (nat_lit 2, nat_lit 0, nat_lit 8, nat_lit 3, nat_lit 0, tX8_copies)) (cd := []) (cu := zUne_copies_21) (cs := []) (iv := zVne_copies_21) (po := [zOne_copies_21]) (pr := zPne_copies_21) (mods := zMne_copies_21) (D7 := zDne_copies_21) (D0 := zEne_copies_21) (Dm := zFne_copies_21) (f0 := 7) pCne_copies_21 qCne_copies_21 iCne_copies_21 pPne_copies_21 (fun xs η _ y η' => pQne_copies_21 xs η y η') zX_low pr_mtR rfl (fun _ h => nomatch h) (by decide +kernel) (by decide +kernel) (by decide +kernel)
    (by
      intro xs η hr hl hp hpp
      match xs, hl, hp, hpp with
      | [], _, hp, hpp =>
        refine List.forall_mem_cons.mpr ⟨?_, fun _ h => nomatch h⟩
        · refine zden_L (n := 1) (ρ := [0]) rfl ?_
          show (iCne_copies_21 [] η) 0 [64, 0] η
          exact ⟨fun j hj => absurd (show (j : Int) < 0 from hj) (by omega), fun j _ => rfl⟩
      )
    (fun _ _ _ _ _ _ _ h => nomatch h)
    (List.forall_mem_cons.mpr ⟨⟨zDne_copies_21_0, zEne_copies_21_0, zFne_copies_21_0, 18, by decide +kernel, (by
      intro xs η0 hlx hp hpp ys η hr hl hI hig
      match ys, hl, hI, hig with
      | [x1, x2], _, hI, hig =>
        refine ⟨?_, ?_⟩
        · refine List.forall_mem_cons.mpr ⟨?_, List.forall_mem_cons.mpr ⟨?_, fun _ h => nomatch h⟩⟩
          · refine zden_L (n := 3) (ρ := [x2, x1, 0]) rfl ?_
            exact zne_copies_21_o0 (ro := ro) xs η0 hp hpp x1 x2 η hI hig
          · refine zden_L (n := 3) (ρ := [x2, x1, 0]) rfl ?_
            exact zne_copies_21_o1 (ro := ro) xs η0 hp hpp x1 x2 η hI hig
        · exact fun _ h => nomatch h
      )⟩, (fun _ h => nomatch h)⟩))
def zPne_plainTried : zPq := zPn_plainTried
def zOne_plainTried : zPo := zOn_plainTried
def zMne_plainTried : List zCe := zMn_plainTried
def pPne_plainTried : List Int → zE → Prop := pPn_plainTried
def pQne_plainTried : List Int → zE → Int → zE → Prop := pQn_plainTried
theorem zne_plainTried {ro : Nat → List Int32} : zMet pr_P pr_K pr_df ro (sm_X0 1 6) 0 156 tm_ne [(.inr (.inr (.inl (nat_lit 0))))] 0 [(nat_lit 0, nat_lit 0, nat_lit 1), (nat_lit 0, nat_lit 3, nat_lit 2), (nat_lit 0, nat_lit 20, nat_lit 3), (nat_lit 0, nat_lit 21, nat_lit 4), (nat_lit 0, nat_lit 22, nat_lit 5), (nat_lit 0, nat_lit 23, nat_lit 6), (nat_lit 0, nat_lit 24, nat_lit 7), (nat_lit 0, nat_lit 25, nat_lit 8), (nat_lit 0, nat_lit 26, nat_lit 9), (nat_lit 0, nat_lit 27, nat_lit 10), (nat_lit 0, nat_lit 28, nat_lit 11), (nat_lit 0, nat_lit 29, nat_lit 12), (nat_lit 0, nat_lit 30, nat_lit 13), (nat_lit 0, nat_lit 31, nat_lit 14), (nat_lit 0, nat_lit 32, nat_lit 15), (nat_lit 0, nat_lit 33, nat_lit 16), (nat_lit 0, nat_lit 34, nat_lit 17), (nat_lit 0, nat_lit 35, nat_lit 18), (nat_lit 0, nat_lit 36, nat_lit 19), (nat_lit 0, nat_lit 37, nat_lit 20), (nat_lit 0, nat_lit 38, nat_lit 21), (nat_lit 0, nat_lit 39, nat_lit 22), (nat_lit 0, nat_lit 40, nat_lit 23), (nat_lit 0, nat_lit 47, nat_lit 24), (nat_lit 0, nat_lit 48, nat_lit 25), (nat_lit 0, nat_lit 50, nat_lit 26), (nat_lit 0, nat_lit 51, nat_lit 27), (nat_lit 0, nat_lit 52, nat_lit 28), (nat_lit 0, nat_lit 53, nat_lit 29), (nat_lit 0, nat_lit 54, nat_lit 30), (nat_lit 0, nat_lit 55, nat_lit 31), (nat_lit 0, nat_lit 56, nat_lit 32), (nat_lit 0, nat_lit 57, nat_lit 33), (nat_lit 0, nat_lit 58, nat_lit 34), (nat_lit 0, nat_lit 59, nat_lit 35), (nat_lit 0, nat_lit 72, nat_lit 36), (nat_lit 0, nat_lit 73, nat_lit 37), (nat_lit 0, nat_lit 76, nat_lit 38), (nat_lit 0, nat_lit 77, nat_lit 39), (nat_lit 0, nat_lit 79, nat_lit 40), (nat_lit 0, nat_lit 81, nat_lit 41), (nat_lit 0, nat_lit 82, nat_lit 42)] [] (fun xs η => sP wl_ne zTr zPne_plainTried xs η ∧ pPne_plainTried xs η) (fun xs η y η' => sQ wl_ne zTr zOne_plainTried zMne_plainTried xs η y η' ∧ pQne_plainTried xs η y η') := zn_plainTried
def zPne_atFirst : zPq := zPn_atFirst
def zOne_atFirst : zPo := zOn_atFirst
def zMne_atFirst : List zCe := zMn_atFirst
def pPne_atFirst : List Int → zE → Prop := pPn_atFirst
def pQne_atFirst : List Int → zE → Int → zE → Prop := pQn_atFirst
theorem zne_atFirst {ro : Nat → List Int32} : zMet pr_P pr_K pr_df ro (sm_X0 1 6) 0 155 tm_ne [(.inr (.inr (.inl (nat_lit 0)))), (.inl (nat_lit 0, (.ofNat (nat_lit 0))))] 0 [(nat_lit 0, nat_lit 0, nat_lit 1), (nat_lit 0, nat_lit 3, nat_lit 2), (nat_lit 0, nat_lit 20, nat_lit 3), (nat_lit 0, nat_lit 21, nat_lit 4), (nat_lit 0, nat_lit 22, nat_lit 5), (nat_lit 0, nat_lit 23, nat_lit 6), (nat_lit 0, nat_lit 24, nat_lit 7), (nat_lit 0, nat_lit 25, nat_lit 8), (nat_lit 0, nat_lit 26, nat_lit 9), (nat_lit 0, nat_lit 27, nat_lit 10), (nat_lit 0, nat_lit 28, nat_lit 11), (nat_lit 0, nat_lit 29, nat_lit 12), (nat_lit 0, nat_lit 30, nat_lit 13), (nat_lit 0, nat_lit 31, nat_lit 14), (nat_lit 0, nat_lit 32, nat_lit 15), (nat_lit 0, nat_lit 33, nat_lit 16), (nat_lit 0, nat_lit 34, nat_lit 17), (nat_lit 0, nat_lit 35, nat_lit 18), (nat_lit 0, nat_lit 36, nat_lit 19), (nat_lit 0, nat_lit 37, nat_lit 20), (nat_lit 0, nat_lit 38, nat_lit 21), (nat_lit 0, nat_lit 39, nat_lit 22), (nat_lit 0, nat_lit 40, nat_lit 23), (nat_lit 0, nat_lit 47, nat_lit 24), (nat_lit 0, nat_lit 48, nat_lit 25), (nat_lit 0, nat_lit 50, nat_lit 26), (nat_lit 0, nat_lit 51, nat_lit 27), (nat_lit 0, nat_lit 52, nat_lit 28), (nat_lit 0, nat_lit 53, nat_lit 29), (nat_lit 0, nat_lit 54, nat_lit 30), (nat_lit 0, nat_lit 55, nat_lit 31), (nat_lit 0, nat_lit 56, nat_lit 32), (nat_lit 0, nat_lit 57, nat_lit 33), (nat_lit 0, nat_lit 58, nat_lit 34), (nat_lit 0, nat_lit 59, nat_lit 35), (nat_lit 0, nat_lit 72, nat_lit 36), (nat_lit 0, nat_lit 73, nat_lit 37), (nat_lit 0, nat_lit 76, nat_lit 38), (nat_lit 0, nat_lit 77, nat_lit 39), (nat_lit 0, nat_lit 79, nat_lit 40), (nat_lit 0, nat_lit 81, nat_lit 41), (nat_lit 0, nat_lit 82, nat_lit 42)] [] (fun xs η => sP wl_ne zTr zPne_atFirst xs η ∧ pPne_atFirst xs η) (fun xs η y η' => sQ wl_ne zTr zOne_atFirst zMne_atFirst xs η y η' ∧ pQne_atFirst xs η y η') := zn_atFirst
def zPne_begin : zPq := ([], [])
def zOne_begin : zPo := (((.ofNat (nat_lit 0)), (.ofNat (nat_lit 0))), [], [])
def zMne_begin : List zCe := [(nat_lit 26, nat_lit 0), (nat_lit 27, nat_lit 0), (nat_lit 28, nat_lit 0), (nat_lit 29, nat_lit 0), (nat_lit 30, nat_lit 0), (nat_lit 31, nat_lit 0), (nat_lit 32, nat_lit 0), (nat_lit 33, nat_lit 0), (nat_lit 34, nat_lit 0), (nat_lit 35, nat_lit 0), (nat_lit 0, nat_lit 63), (nat_lit 0, nat_lit 64), (nat_lit 0, nat_lit 65), (nat_lit 0, nat_lit 66), (nat_lit 0, nat_lit 67), (nat_lit 0, nat_lit 68), (nat_lit 0, nat_lit 69), (nat_lit 0, nat_lit 70), (nat_lit 0, nat_lit 71), (nat_lit 0, nat_lit 61), (nat_lit 0, nat_lit 75), (nat_lit 0, nat_lit 76), (nat_lit 0, nat_lit 79), (nat_lit 0, nat_lit 81)]
def pPne_begin : List Int → zE → Prop := fun _ _ => True
def oQne_begin : List Int → zE → Int → zE → Prop := fun _ _ _ _ => True
def fQne_begin : List Int → zE → Int → zE → Prop := fun xs η y η' => η' 0 74 = 0
def pQne_begin : List Int → zE → Int → zE → Prop := fun xs η y η' => oQne_begin xs η y η' ∧ fQne_begin xs η y η'
def pCne_begin : Nat → List Int → zE → Prop := fun c => match c with
  | 0 => pPne_atFirst
  | 1 => pPne_plainTried
  | _ => fun _ _ => True
def qCne_begin : Nat → List Int → zE → Int → zE → Prop := fun c => match c with
  | 0 => pQne_atFirst
  | 1 => pQne_plainTried
  | _ => fun _ _ _ _ => True
def iCne_begin : List Int → zE → Nat → List Int → zE → Prop := fun xs η0 c => match c with
  | _ => fun _ _ => True
def zVne_begin : List zIv := []
def zDne_begin : List (List zK) := [[(nat_lit 7, nat_lit 0, [(nat_lit 0, (.ofNat (nat_lit 2))), (nat_lit 0, (.ofNat (nat_lit 8)))]), (nat_lit 8, nat_lit 0, [])],
  [(nat_lit 7, nat_lit 2, [(nat_lit 0, (.ofNat (nat_lit 0)))]), (nat_lit 5, nat_lit 0, [(nat_lit 0, (.ofNat (nat_lit 0))), (nat_lit 0, (.ofNat (nat_lit 78))), (nat_lit 0, (.ofNat (nat_lit 0)))]), (nat_lit 5, nat_lit 0, [(nat_lit 0, (.ofNat (nat_lit 0))), (nat_lit 0, (.ofNat (nat_lit 75))), (nat_lit 0, (.negSucc (nat_lit 0)))]), (nat_lit 5, nat_lit 0, [(nat_lit 0, (.ofNat (nat_lit 0))), (nat_lit 0, (.ofNat (nat_lit 74))), (nat_lit 0, (.ofNat (nat_lit 0)))]), (nat_lit 8, nat_lit 1, []), (nat_lit 5, nat_lit 2, [(nat_lit 0, (.ofNat (nat_lit 0))), (nat_lit 0, (.ofNat (nat_lit 60))), (nat_lit 2, (.ofNat (nat_lit 0)))]), (nat_lit 4, nat_lit 0, [(nat_lit 4, (.ofNat (nat_lit 0))), (nat_lit 0, (.ofNat (nat_lit 2)))]), (nat_lit 8, nat_lit 0, [])]]
def zEne_begin : List (List zK) := [[(nat_lit 13, nat_lit 0, [])],
  [(nat_lit 13, nat_lit 1, []), (nat_lit 5, nat_lit 2, [(nat_lit 0, (.ofNat (nat_lit 0))), (nat_lit 0, (.ofNat (nat_lit 60))), (nat_lit 2, (.ofNat (nat_lit 0)))]), (nat_lit 4, nat_lit 0, [(nat_lit 4, (.ofNat (nat_lit 0))), (nat_lit 0, (.ofNat (nat_lit 2)))]), (nat_lit 8, nat_lit 0, [])],
  [(nat_lit 11, nat_lit 0, [(nat_lit 0, (.ofNat (nat_lit 0)))]), (nat_lit 5, nat_lit 1, [(nat_lit 0, (.ofNat (nat_lit 0))), (nat_lit 0, (.ofNat (nat_lit 80))), (nat_lit 0, (.ofNat (nat_lit 0)))]), (nat_lit 5, nat_lit 0, [(nat_lit 0, (.ofNat (nat_lit 0))), (nat_lit 0, (.ofNat (nat_lit 78))), (nat_lit 0, (.ofNat (nat_lit 0)))]), (nat_lit 5, nat_lit 0, [(nat_lit 0, (.ofNat (nat_lit 0))), (nat_lit 0, (.ofNat (nat_lit 75))), (nat_lit 0, (.negSucc (nat_lit 0)))]), (nat_lit 5, nat_lit 0, [(nat_lit 0, (.ofNat (nat_lit 0))), (nat_lit 0, (.ofNat (nat_lit 74))), (nat_lit 0, (.ofNat (nat_lit 0)))]), (nat_lit 8, nat_lit 1, []), (nat_lit 5, nat_lit 2, [(nat_lit 0, (.ofNat (nat_lit 0))), (nat_lit 0, (.ofNat (nat_lit 60))), (nat_lit 2, (.ofNat (nat_lit 0)))]), (nat_lit 4, nat_lit 0, [(nat_lit 4, (.ofNat (nat_lit 0))), (nat_lit 0, (.ofNat (nat_lit 2)))]), (nat_lit 8, nat_lit 0, [])]]
def zFne_begin : List (List zK) := []
set_option maxHeartbeats 8000000 in
theorem zne_begin_o0 {ro : Nat → List Int32} (η : zE) (hp : sP wl_ne zTr zPne_begin [] η) (hpp : pPne_begin [] η) : ∀ (x1 : Int) (η1 : zE), ((gC2 wl_ne [(nat_lit 0, zPne_atFirst, zOne_atFirst, zMne_atFirst), (nat_lit 1, zPne_plainTried, zOne_plainTried, zMne_plainTried)] pCne_begin qCne_begin) 0).2 [] η x1 η1 → ∀ x2 : Int, x2 = η1 4 (Int.toNat 2) → zok 0 x2 → ∀ η2 : zE, η2 = zup η1 0 (Int.toNat 60) x2 → ∀ (x3 : Int) (η3 : zE), ((gC2 wl_ne [(nat_lit 0, zPne_atFirst, zOne_atFirst, zMne_atFirst), (nat_lit 1, zPne_plainTried, zOne_plainTried, zMne_plainTried)] pCne_begin qCne_begin) 1).2 [] η2 x3 η3 → ∀ η4 : zE, η4 = zup η3 0 (Int.toNat 74) 0 → ∀ η5 : zE, η5 = zup η4 0 (Int.toNat 75) (-1) → ∀ η6 : zE, η6 = zup η5 0 (Int.toNat 78) 0 → ∀ η7 : zE, η7 = zup η6 0 (Int.toNat 80) 0 → (fun (_ : Nat) (y : Int) (η' : zE) => pQne_begin [] η y η') 0 0 η7 := by
  intro x1 η1 h1 x2 e2 r2 η2 eη2 x3 η3 h3 η4 eη4 η5 eη5 η6 eη6 η7 eη7
  have k1 : sQ wl_ne zTr zOne_atFirst zMne_atFirst [] η x1 η1 ∧ pQne_atFirst [] η x1 η1 := h1
  have k3 : sQ wl_ne zTr zOne_plainTried zMne_plainTried [] η2 x3 η3 ∧ pQne_plainTried [] η2 x3 η3 := h3
  refine yj_a ?_ ?_
  · have k1 : sQ wl_ne zTr zOne_atFirst zMne_atFirst [] η x1 η1 ∧ pQne_atFirst [] η x1 η1 := h1
    have k3 : sQ wl_ne zTr zOne_plainTried zMne_plainTried [] η2 x3 η3 ∧ pQne_plainTried [] η2 x3 η3 := h3
    exact trivial
  · have k1 : sQ wl_ne zTr zOne_atFirst zMne_atFirst [] η x1 η1 ∧ pQne_atFirst [] η x1 η1 := h1
    have k3 : sQ wl_ne zTr zOne_plainTried zMne_plainTried [] η2 x3 η3 ∧ pQne_plainTried [] η2 x3 η3 := h3
    have bx1 : (0 : Int) ≤ x1 ∧ x1 ≤ 0 := k1.1.2.1
    have v1 : zEq (η1 4 2) (η 4 2) := (k1.1.2.2.2.1 4 2 (by decide +kernel)).trans rfl
    replace e2 : x2 = η 4 2 := e2.trans v1
    replace r2 : -2147483648 ≤ x2 ∧ x2 ≤ 2147483647 := r2
    have bx3 : (0 : Int) ≤ x3 ∧ x3 ≤ 0 := k3.1.2.1
    have w0_0_74 : (0 : Int) ≤ η 0 74 ∧ η 0 74 ≤ 24 := wf_ok (a := 74) (b := 74) (z := (0, 24)) hp.1 (by decide +kernel) (Nat.le_refl _) (Nat.le_refl _)
    have v3 : zEq (η1 0 74) (η 0 74) := (k1.1.2.2.2.1 0 74 (by decide +kernel)).trans rfl
    have v4 : zEq (η2 0 74) (η 0 74) := by rw [eη2]; exact (zup_ne (fun _ e => absurd e (by decide))).trans v3
    have v5 : zEq (η3 0 74) (η 0 74) := (k3.1.2.2.2.1 0 74 (by decide +kernel)).trans v4
    have c3_0_74 : η3 0 74 = η 0 74 := v5
    have v6 : zEq (η4 0 74) (0) := by rw [eη4]; exact zup_eq
    have v7 : zEq (η5 0 74) (0) := by rw [eη5]; exact (zup_ne (fun _ e => absurd e (by decide))).trans v6
    have v8 : zEq (η6 0 74) (0) := by rw [eη6]; exact (zup_ne (fun _ e => absurd e (by decide))).trans v7
    have v9 : zEq (η7 0 74) (0) := by rw [eη7]; exact (zup_ne (fun _ e => absurd e (by decide))).trans v8
    have f0_74 : η7 0 74 = 0 := v9
    exact show η7 0 74 = 0 by omega
set_option maxHeartbeats 8000000 in
theorem zne_begin {ro : Nat → List Int32} : zMet pr_P pr_K pr_df ro (sm_X0 1 6) 1 154 tm_ne [(.inr (.inr (.inl (nat_lit 0))))] 0 [(nat_lit 0, nat_lit 0, nat_lit 1), (nat_lit 0, nat_lit 3, nat_lit 2), (nat_lit 0, nat_lit 20, nat_lit 3), (nat_lit 0, nat_lit 21, nat_lit 4), (nat_lit 0, nat_lit 22, nat_lit 5), (nat_lit 0, nat_lit 23, nat_lit 6), (nat_lit 0, nat_lit 24, nat_lit 7), (nat_lit 0, nat_lit 25, nat_lit 8), (nat_lit 0, nat_lit 26, nat_lit 9), (nat_lit 0, nat_lit 27, nat_lit 10), (nat_lit 0, nat_lit 28, nat_lit 11), (nat_lit 0, nat_lit 29, nat_lit 12), (nat_lit 0, nat_lit 30, nat_lit 13), (nat_lit 0, nat_lit 31, nat_lit 14), (nat_lit 0, nat_lit 32, nat_lit 15), (nat_lit 0, nat_lit 33, nat_lit 16), (nat_lit 0, nat_lit 34, nat_lit 17), (nat_lit 0, nat_lit 35, nat_lit 18), (nat_lit 0, nat_lit 36, nat_lit 19), (nat_lit 0, nat_lit 37, nat_lit 20), (nat_lit 0, nat_lit 38, nat_lit 21), (nat_lit 0, nat_lit 39, nat_lit 22), (nat_lit 0, nat_lit 40, nat_lit 23), (nat_lit 0, nat_lit 47, nat_lit 24), (nat_lit 0, nat_lit 48, nat_lit 25), (nat_lit 0, nat_lit 50, nat_lit 26), (nat_lit 0, nat_lit 51, nat_lit 27), (nat_lit 0, nat_lit 52, nat_lit 28), (nat_lit 0, nat_lit 53, nat_lit 29), (nat_lit 0, nat_lit 54, nat_lit 30), (nat_lit 0, nat_lit 55, nat_lit 31), (nat_lit 0, nat_lit 56, nat_lit 32), (nat_lit 0, nat_lit 57, nat_lit 33), (nat_lit 0, nat_lit 58, nat_lit 34), (nat_lit 0, nat_lit 59, nat_lit 35), (nat_lit 0, nat_lit 72, nat_lit 36), (nat_lit 0, nat_lit 73, nat_lit 37), (nat_lit 0, nat_lit 76, nat_lit 38), (nat_lit 0, nat_lit 77, nat_lit 39), (nat_lit 0, nat_lit 79, nat_lit 40), (nat_lit 0, nat_lit 81, nat_lit 41), (nat_lit 0, nat_lit 82, nat_lit 42)] [] (fun xs η => sP wl_ne zTr zPne_begin xs η ∧ pPne_begin xs η) (fun xs η y η' => sQ wl_ne zTr zOne_begin zMne_begin xs η y η' ∧ pQne_begin xs η y η') :=
  zmet_alt (zmea_gen (mi := (nat_lit 0, nat_lit 1, nat_lit 8, nat_lit 1, nat_lit 0, tX8_begin)) (cd := [(nat_lit 155, nat_lit 0, nat_lit 0, [(.inr (.inr (.inl (nat_lit 0)))), (.inl (nat_lit 0, (.ofNat (nat_lit 0))))], nat_lit 0, [(nat_lit 0, nat_lit 0, nat_lit 1), (nat_lit 0, nat_lit 3, nat_lit 2), (nat_lit 0, nat_lit 20, nat_lit 3), (nat_lit 0, nat_lit 21, nat_lit 4), (nat_lit 0, nat_lit 22, nat_lit 5), (nat_lit 0, nat_lit 23, nat_lit 6), (nat_lit 0, nat_lit 24, nat_lit 7), (nat_lit 0, nat_lit 25, nat_lit 8), (nat_lit 0, nat_lit 26, nat_lit 9), (nat_lit 0, nat_lit 27, nat_lit 10), (nat_lit 0, nat_lit 28, nat_lit 11), (nat_lit 0, nat_lit 29, nat_lit 12), (nat_lit 0, nat_lit 30, nat_lit 13), (nat_lit 0, nat_lit 31, nat_lit 14), (nat_lit 0, nat_lit 32, nat_lit 15), (nat_lit 0, nat_lit 33, nat_lit 16), (nat_lit 0, nat_lit 34, nat_lit 17), (nat_lit 0, nat_lit 35, nat_lit 18), (nat_lit 0, nat_lit 36, nat_lit 19), (nat_lit 0, nat_lit 37, nat_lit 20), (nat_lit 0, nat_lit 38, nat_lit 21), (nat_lit 0, nat_lit 39, nat_lit 22), (nat_lit 0, nat_lit 40, nat_lit 23), (nat_lit 0, nat_lit 47, nat_lit 24), (nat_lit 0, nat_lit 48, nat_lit 25), (nat_lit 0, nat_lit 50, nat_lit 26), (nat_lit 0, nat_lit 51, nat_lit 27), (nat_lit 0, nat_lit 52, nat_lit 28), (nat_lit 0, nat_lit 53, nat_lit 29), (nat_lit 0, nat_lit 54, nat_lit 30), (nat_lit 0, nat_lit 55, nat_lit 31), (nat_lit 0, nat_lit 56, nat_lit 32), (nat_lit 0, nat_lit 57, nat_lit 33), (nat_lit 0, nat_lit 58, nat_lit 34), (nat_lit 0, nat_lit 59, nat_lit 35), (nat_lit 0, nat_lit 72, nat_lit 36), (nat_lit 0, nat_lit 73, nat_lit 37), (nat_lit 0, nat_lit 76, nat_lit 38), (nat_lit 0, nat_lit 77, nat_lit 39), (nat_lit 0, nat_lit 79, nat_lit 40), (nat_lit 0, nat_lit 81, nat_lit 41), (nat_lit 0, nat_lit 82, nat_lit 42)], []), (nat_lit 156, nat_lit 1, nat_lit 0, [(.inr (.inr (.inl (nat_lit 0))))], nat_lit 0, [(nat_lit 0, nat_lit 0, nat_lit 1), (nat_lit 0, nat_lit 3, nat_lit 2), (nat_lit 0, nat_lit 20, nat_lit 3), (nat_lit 0, nat_lit 21, nat_lit 4), (nat_lit 0, nat_lit 22, nat_lit 5), (nat_lit 0, nat_lit 23, nat_lit 6), (nat_lit 0, nat_lit 24, nat_lit 7), (nat_lit 0, nat_lit 25, nat_lit 8), (nat_lit 0, nat_lit 26, nat_lit 9), (nat_lit 0, nat_lit 27, nat_lit 10), (nat_lit 0, nat_lit 28, nat_lit 11), (nat_lit 0, nat_lit 29, nat_lit 12), (nat_lit 0, nat_lit 30, nat_lit 13), (nat_lit 0, nat_lit 31, nat_lit 14), (nat_lit 0, nat_lit 32, nat_lit 15), (nat_lit 0, nat_lit 33, nat_lit 16), (nat_lit 0, nat_lit 34, nat_lit 17), (nat_lit 0, nat_lit 35, nat_lit 18), (nat_lit 0, nat_lit 36, nat_lit 19), (nat_lit 0, nat_lit 37, nat_lit 20), (nat_lit 0, nat_lit 38, nat_lit 21), (nat_lit 0, nat_lit 39, nat_lit 22), (nat_lit 0, nat_lit 40, nat_lit 23), (nat_lit 0, nat_lit 47, nat_lit 24), (nat_lit 0, nat_lit 48, nat_lit 25), (nat_lit 0, nat_lit 50, nat_lit 26), (nat_lit 0, nat_lit 51, nat_lit 27), (nat_lit 0, nat_lit 52, nat_lit 28), (nat_lit 0, nat_lit 53, nat_lit 29), (nat_lit 0, nat_lit 54, nat_lit 30), (nat_lit 0, nat_lit 55, nat_lit 31), (nat_lit 0, nat_lit 56, nat_lit 32), (nat_lit 0, nat_lit 57, nat_lit 33), (nat_lit 0, nat_lit 58, nat_lit 34), (nat_lit 0, nat_lit 59, nat_lit 35), (nat_lit 0, nat_lit 72, nat_lit 36), (nat_lit 0, nat_lit 73, nat_lit 37), (nat_lit 0, nat_lit 76, nat_lit 38), (nat_lit 0, nat_lit 77, nat_lit 39), (nat_lit 0, nat_lit 79, nat_lit 40), (nat_lit 0, nat_lit 81, nat_lit 41), (nat_lit 0, nat_lit 82, nat_lit 42)], [])]) (cu := []) (cs := [(nat_lit 0, zPne_atFirst, zOne_atFirst, zMne_atFirst), (nat_lit 1, zPne_plainTried, zOne_plainTried, zMne_plainTried)]) (iv := zVne_begin) (po := [zOne_begin]) (pr := zPne_begin) (mods := zMne_begin) (D7 := zDne_begin) (D0 := zEne_begin) (Dm := zFne_begin) (f0 := 29) pCne_begin qCne_begin iCne_begin pPne_begin (fun xs η _ y η' => pQne_begin xs η y η') zX_low pr_mtR rfl (List.forall_mem_cons.mpr ⟨zne_atFirst, List.forall_mem_cons.mpr ⟨zne_plainTried, fun _ h => nomatch h⟩⟩) (by decide +kernel) (by decide +kernel) (by decide +kernel)
    (by
      intro xs η hr hl hp hpp
      match xs, hl, hp, hpp with
      | [], _, hp, hpp =>
        refine List.forall_mem_cons.mpr ⟨?_, List.forall_mem_cons.mpr ⟨?_, List.forall_mem_cons.mpr ⟨?_, fun _ h => nomatch h⟩⟩⟩
        · refine zden_L (n := 1) (ρ := [0]) rfl ?_
          show ((gC2 wl_ne [(nat_lit 0, zPne_atFirst, zOne_atFirst, zMne_atFirst), (nat_lit 1, zPne_plainTried, zOne_plainTried, zMne_plainTried)] pCne_begin qCne_begin) 0).1 [] η
          
          exact trivial
        · refine zden_L (n := 1) (ρ := [0]) rfl ?_
          show ∀ (x1 : Int) (η1 : zE), ((gC2 wl_ne [(nat_lit 0, zPne_atFirst, zOne_atFirst, zMne_atFirst), (nat_lit 1, zPne_plainTried, zOne_plainTried, zMne_plainTried)] pCne_begin qCne_begin) 0).2 [] η x1 η1 → ∀ x2 : Int, x2 = η1 4 (Int.toNat 2) → zok 0 x2 → ∀ η2 : zE, η2 = zup η1 0 (Int.toNat 60) x2 → ((gC2 wl_ne [(nat_lit 0, zPne_atFirst, zOne_atFirst, zMne_atFirst), (nat_lit 1, zPne_plainTried, zOne_plainTried, zMne_plainTried)] pCne_begin qCne_begin) 1).1 [] η2
          intro x1 η1 h1 x2 e2 r2 η2 eη2
          have k1 : sQ wl_ne zTr zOne_atFirst zMne_atFirst [] η x1 η1 ∧ pQne_atFirst [] η x1 η1 := h1
          exact trivial
        · refine zden_L (n := 1) (ρ := [0]) rfl ?_
          exact zne_begin_o0 (ro := ro)  η hp hpp
      )
    (fun _ _ _ _ _ _ _ h => nomatch h)
    (fun _ h => nomatch h))
def zPne_keepText : zPq := ([], [])
def zOne_keepText : zPo := (((.ofNat (nat_lit 0)), (.ofNat (nat_lit 0))), [], [])
def zMne_keepText : List zCe := [(nat_lit 26, nat_lit 0), (nat_lit 27, nat_lit 0), (nat_lit 28, nat_lit 0), (nat_lit 29, nat_lit 0), (nat_lit 30, nat_lit 0), (nat_lit 31, nat_lit 0), (nat_lit 32, nat_lit 0), (nat_lit 33, nat_lit 0), (nat_lit 34, nat_lit 0), (nat_lit 35, nat_lit 0), (nat_lit 0, nat_lit 63), (nat_lit 0, nat_lit 64), (nat_lit 0, nat_lit 65), (nat_lit 0, nat_lit 66), (nat_lit 0, nat_lit 67), (nat_lit 0, nat_lit 68), (nat_lit 0, nat_lit 69), (nat_lit 0, nat_lit 70), (nat_lit 0, nat_lit 71), (nat_lit 0, nat_lit 61), (nat_lit 0, nat_lit 75), (nat_lit 0, nat_lit 76), (nat_lit 0, nat_lit 79), (nat_lit 0, nat_lit 81), (nat_lit 0, nat_lit 13), (nat_lit 0, nat_lit 14), (nat_lit 0, nat_lit 15), (nat_lit 0, nat_lit 16), (nat_lit 4, nat_lit 0), (nat_lit 5, nat_lit 0), (nat_lit 6, nat_lit 0), (nat_lit 7, nat_lit 0), (nat_lit 8, nat_lit 0), (nat_lit 9, nat_lit 0), (nat_lit 10, nat_lit 0), (nat_lit 11, nat_lit 0), (nat_lit 12, nat_lit 0), (nat_lit 13, nat_lit 0), (nat_lit 14, nat_lit 0), (nat_lit 15, nat_lit 0), (nat_lit 17, nat_lit 0), (nat_lit 18, nat_lit 0), (nat_lit 19, nat_lit 0), (nat_lit 20, nat_lit 0), (nat_lit 21, nat_lit 0), (nat_lit 16, nat_lit 1), (nat_lit 16, nat_lit 2), (nat_lit 16, nat_lit 3)]
def pPne_keepText : List Int → zE → Prop := fun _ η => G0_l η ∧ PL_n 6 η
def oQne_keepText : List Int → zE → Int → zE → Prop := fun _ _ _ η' => G_k η' ∧ T_l η' ∧ PL_n 3 η'
def fQne_keepText : List Int → zE → Int → zE → Prop := fun xs η y η' => kp_n η η' ∧ η' 0 74 = 0
def pQne_keepText : List Int → zE → Int → zE → Prop := fun xs η y η' => oQne_keepText xs η y η' ∧ fQne_keepText xs η y η'
def pCne_keepText : Nat → List Int → zE → Prop := fun c => match c with
  | 0 => pPne_copies_4
  | 1 => pPne_copies_7
  | 2 => pPne_copies_8
  | 3 => pPne_copies_9
  | 4 => pPne_copies_10
  | 5 => pPne_copies_11
  | 6 => pPne_copies_12
  | 7 => pPne_copies_13
  | 8 => pPne_copies_14
  | 9 => pPne_copies_15
  | 10 => pPne_copies_5
  | 11 => pPne_copies_6
  | 12 => pPne_copies_17
  | 13 => pPne_copies_18
  | 14 => pPne_copies_19
  | 15 => pPne_copies_20
  | 16 => pPne_copies_21
  | 17 => pPne_begin
  | _ => fun _ _ => True
def qCne_keepText : Nat → List Int → zE → Int → zE → Prop := fun c => match c with
  | 0 => pQne_copies_4
  | 1 => pQne_copies_7
  | 2 => pQne_copies_8
  | 3 => pQne_copies_9
  | 4 => pQne_copies_10
  | 5 => pQne_copies_11
  | 6 => pQne_copies_12
  | 7 => pQne_copies_13
  | 8 => pQne_copies_14
  | 9 => pQne_copies_15
  | 10 => pQne_copies_5
  | 11 => pQne_copies_6
  | 12 => pQne_copies_17
  | 13 => pQne_copies_18
  | 14 => pQne_copies_19
  | 15 => pQne_copies_20
  | 16 => pQne_copies_21
  | 17 => pQne_begin
  | _ => fun _ _ _ _ => True
def iCne_keepText : List Int → zE → Nat → List Int → zE → Prop := fun xs η0 c => match c with
  | _ => fun _ _ => True
def zVne_keepText : List zIv := []
def zDne_keepText : List (List zK) := [[(nat_lit 7, nat_lit 3, []), (nat_lit 6, nat_lit 3, [(nat_lit 0, (.ofNat (nat_lit 0))), (nat_lit 0, (.ofNat (nat_lit 3)))]), (nat_lit 8, nat_lit 9, []), (nat_lit 8, nat_lit 8, []), (nat_lit 8, nat_lit 7, []), (nat_lit 8, nat_lit 6, []), (nat_lit 8, nat_lit 5, []), (nat_lit 8, nat_lit 4, []), (nat_lit 8, nat_lit 3, []), (nat_lit 8, nat_lit 2, []), (nat_lit 8, nat_lit 1, []), (nat_lit 8, nat_lit 11, []), (nat_lit 8, nat_lit 10, []), (nat_lit 8, nat_lit 0, []), (nat_lit 5, nat_lit 0, [(nat_lit 0, (.ofNat (nat_lit 0))), (nat_lit 0, (.ofNat (nat_lit 15))), (nat_lit 4, (.ofNat (nat_lit 0)))]), (nat_lit 4, nat_lit 0, [(nat_lit 0, (.ofNat (nat_lit 0))), (nat_lit 0, (.ofNat (nat_lit 19)))]), (nat_lit 5, nat_lit 0, [(nat_lit 0, (.ofNat (nat_lit 0))), (nat_lit 0, (.ofNat (nat_lit 14))), (nat_lit 3, (.ofNat (nat_lit 0)))]), (nat_lit 4, nat_lit 0, [(nat_lit 0, (.ofNat (nat_lit 0))), (nat_lit 0, (.ofNat (nat_lit 18)))]), (nat_lit 5, nat_lit 0, [(nat_lit 0, (.ofNat (nat_lit 0))), (nat_lit 0, (.ofNat (nat_lit 13))), (nat_lit 2, (.ofNat (nat_lit 0)))]), (nat_lit 4, nat_lit 0, [(nat_lit 0, (.ofNat (nat_lit 0))), (nat_lit 0, (.ofNat (nat_lit 17)))]), (nat_lit 5, nat_lit 0, [(nat_lit 0, (.ofNat (nat_lit 0))), (nat_lit 0, (.ofNat (nat_lit 12))), (nat_lit 1, (.ofNat (nat_lit 0)))]), (nat_lit 4, nat_lit 0, [(nat_lit 0, (.ofNat (nat_lit 0))), (nat_lit 0, (.ofNat (nat_lit 16)))])],
  [(nat_lit 7, nat_lit 0, [(nat_lit 17, (.ofNat (nat_lit 0))), (nat_lit 0, (.ofNat (nat_lit 6)))]), (nat_lit 0, nat_lit 1, [(nat_lit 0, (.ofNat (nat_lit 3))), (nat_lit 0, (.ofNat (nat_lit 0)))]), (nat_lit 6, nat_lit 2, [(nat_lit 0, (.ofNat (nat_lit 0))), (nat_lit 0, (.ofNat (nat_lit 3)))]), (nat_lit 8, nat_lit 9, []), (nat_lit 8, nat_lit 8, []), (nat_lit 8, nat_lit 7, []), (nat_lit 8, nat_lit 6, []), (nat_lit 8, nat_lit 5, []), (nat_lit 8, nat_lit 4, []), (nat_lit 8, nat_lit 3, []), (nat_lit 8, nat_lit 2, []), (nat_lit 8, nat_lit 1, []), (nat_lit 8, nat_lit 11, []), (nat_lit 8, nat_lit 10, []), (nat_lit 8, nat_lit 0, []), (nat_lit 5, nat_lit 0, [(nat_lit 0, (.ofNat (nat_lit 0))), (nat_lit 0, (.ofNat (nat_lit 15))), (nat_lit 4, (.ofNat (nat_lit 0)))]), (nat_lit 4, nat_lit 0, [(nat_lit 0, (.ofNat (nat_lit 0))), (nat_lit 0, (.ofNat (nat_lit 19)))]), (nat_lit 5, nat_lit 0, [(nat_lit 0, (.ofNat (nat_lit 0))), (nat_lit 0, (.ofNat (nat_lit 14))), (nat_lit 3, (.ofNat (nat_lit 0)))]), (nat_lit 4, nat_lit 0, [(nat_lit 0, (.ofNat (nat_lit 0))), (nat_lit 0, (.ofNat (nat_lit 18)))]), (nat_lit 5, nat_lit 0, [(nat_lit 0, (.ofNat (nat_lit 0))), (nat_lit 0, (.ofNat (nat_lit 13))), (nat_lit 2, (.ofNat (nat_lit 0)))]), (nat_lit 4, nat_lit 0, [(nat_lit 0, (.ofNat (nat_lit 0))), (nat_lit 0, (.ofNat (nat_lit 17)))]), (nat_lit 5, nat_lit 0, [(nat_lit 0, (.ofNat (nat_lit 0))), (nat_lit 0, (.ofNat (nat_lit 12))), (nat_lit 1, (.ofNat (nat_lit 0)))]), (nat_lit 4, nat_lit 0, [(nat_lit 0, (.ofNat (nat_lit 0))), (nat_lit 0, (.ofNat (nat_lit 16)))])],
  [(nat_lit 7, nat_lit 0, [(nat_lit 0, (.ofNat (nat_lit 0))), (nat_lit 0, (.ofNat (nat_lit 6)))]), (nat_lit 4, nat_lit 1, [(nat_lit 16, (.ofNat (nat_lit 0))), (nat_lit 17, (.ofNat (nat_lit 0)))]), (nat_lit 0, nat_lit 1, [(nat_lit 0, (.ofNat (nat_lit 3))), (nat_lit 0, (.ofNat (nat_lit 0)))]), (nat_lit 6, nat_lit 2, [(nat_lit 0, (.ofNat (nat_lit 0))), (nat_lit 0, (.ofNat (nat_lit 3)))]), (nat_lit 8, nat_lit 9, []), (nat_lit 8, nat_lit 8, []), (nat_lit 8, nat_lit 7, []), (nat_lit 8, nat_lit 6, []), (nat_lit 8, nat_lit 5, []), (nat_lit 8, nat_lit 4, []), (nat_lit 8, nat_lit 3, []), (nat_lit 8, nat_lit 2, []), (nat_lit 8, nat_lit 1, []), (nat_lit 8, nat_lit 11, []), (nat_lit 8, nat_lit 10, []), (nat_lit 8, nat_lit 0, []), (nat_lit 5, nat_lit 0, [(nat_lit 0, (.ofNat (nat_lit 0))), (nat_lit 0, (.ofNat (nat_lit 15))), (nat_lit 4, (.ofNat (nat_lit 0)))]), (nat_lit 4, nat_lit 0, [(nat_lit 0, (.ofNat (nat_lit 0))), (nat_lit 0, (.ofNat (nat_lit 19)))]), (nat_lit 5, nat_lit 0, [(nat_lit 0, (.ofNat (nat_lit 0))), (nat_lit 0, (.ofNat (nat_lit 14))), (nat_lit 3, (.ofNat (nat_lit 0)))]), (nat_lit 4, nat_lit 0, [(nat_lit 0, (.ofNat (nat_lit 0))), (nat_lit 0, (.ofNat (nat_lit 18)))]), (nat_lit 5, nat_lit 0, [(nat_lit 0, (.ofNat (nat_lit 0))), (nat_lit 0, (.ofNat (nat_lit 13))), (nat_lit 2, (.ofNat (nat_lit 0)))]), (nat_lit 4, nat_lit 0, [(nat_lit 0, (.ofNat (nat_lit 0))), (nat_lit 0, (.ofNat (nat_lit 17)))]), (nat_lit 5, nat_lit 0, [(nat_lit 0, (.ofNat (nat_lit 0))), (nat_lit 0, (.ofNat (nat_lit 12))), (nat_lit 1, (.ofNat (nat_lit 0)))]), (nat_lit 4, nat_lit 0, [(nat_lit 0, (.ofNat (nat_lit 0))), (nat_lit 0, (.ofNat (nat_lit 16)))])],
  [(nat_lit 7, nat_lit 2, [(nat_lit 18, (.ofNat (nat_lit 0)))]), (nat_lit 4, nat_lit 1, [(nat_lit 16, (.ofNat (nat_lit 0))), (nat_lit 17, (.ofNat (nat_lit 0)))]), (nat_lit 0, nat_lit 1, [(nat_lit 0, (.ofNat (nat_lit 3))), (nat_lit 0, (.ofNat (nat_lit 0)))]), (nat_lit 6, nat_lit 2, [(nat_lit 0, (.ofNat (nat_lit 0))), (nat_lit 0, (.ofNat (nat_lit 3)))]), (nat_lit 8, nat_lit 9, []), (nat_lit 8, nat_lit 8, []), (nat_lit 8, nat_lit 7, []), (nat_lit 8, nat_lit 6, []), (nat_lit 8, nat_lit 5, []), (nat_lit 8, nat_lit 4, []), (nat_lit 8, nat_lit 3, []), (nat_lit 8, nat_lit 2, []), (nat_lit 8, nat_lit 1, []), (nat_lit 8, nat_lit 11, []), (nat_lit 8, nat_lit 10, []), (nat_lit 8, nat_lit 0, []), (nat_lit 5, nat_lit 0, [(nat_lit 0, (.ofNat (nat_lit 0))), (nat_lit 0, (.ofNat (nat_lit 15))), (nat_lit 4, (.ofNat (nat_lit 0)))]), (nat_lit 4, nat_lit 0, [(nat_lit 0, (.ofNat (nat_lit 0))), (nat_lit 0, (.ofNat (nat_lit 19)))]), (nat_lit 5, nat_lit 0, [(nat_lit 0, (.ofNat (nat_lit 0))), (nat_lit 0, (.ofNat (nat_lit 14))), (nat_lit 3, (.ofNat (nat_lit 0)))]), (nat_lit 4, nat_lit 0, [(nat_lit 0, (.ofNat (nat_lit 0))), (nat_lit 0, (.ofNat (nat_lit 18)))]), (nat_lit 5, nat_lit 0, [(nat_lit 0, (.ofNat (nat_lit 0))), (nat_lit 0, (.ofNat (nat_lit 13))), (nat_lit 2, (.ofNat (nat_lit 0)))]), (nat_lit 4, nat_lit 0, [(nat_lit 0, (.ofNat (nat_lit 0))), (nat_lit 0, (.ofNat (nat_lit 17)))]), (nat_lit 5, nat_lit 0, [(nat_lit 0, (.ofNat (nat_lit 0))), (nat_lit 0, (.ofNat (nat_lit 12))), (nat_lit 1, (.ofNat (nat_lit 0)))]), (nat_lit 4, nat_lit 0, [(nat_lit 0, (.ofNat (nat_lit 0))), (nat_lit 0, (.ofNat (nat_lit 16)))])],
  [(nat_lit 7, nat_lit 3, []), (nat_lit 6, nat_lit 3, [(nat_lit 19, (.ofNat (nat_lit 0))), (nat_lit 0, (.ofNat (nat_lit 3)))]), (nat_lit 0, nat_lit 1, [(nat_lit 0, (.ofNat (nat_lit 0))), (nat_lit 0, (.ofNat (nat_lit 1)))]), (nat_lit 5, nat_lit 1, [(nat_lit 16, (.ofNat (nat_lit 0))), (nat_lit 0, (.ofNat (nat_lit 0))), (nat_lit 18, (.ofNat (nat_lit 0)))]), (nat_lit 4, nat_lit 1, [(nat_lit 16, (.ofNat (nat_lit 0))), (nat_lit 17, (.ofNat (nat_lit 0)))]), (nat_lit 0, nat_lit 1, [(nat_lit 0, (.ofNat (nat_lit 3))), (nat_lit 0, (.ofNat (nat_lit 0)))]), (nat_lit 6, nat_lit 2, [(nat_lit 0, (.ofNat (nat_lit 0))), (nat_lit 0, (.ofNat (nat_lit 3)))]), (nat_lit 8, nat_lit 9, []), (nat_lit 8, nat_lit 8, []), (nat_lit 8, nat_lit 7, []), (nat_lit 8, nat_lit 6, []), (nat_lit 8, nat_lit 5, []), (nat_lit 8, nat_lit 4, []), (nat_lit 8, nat_lit 3, []), (nat_lit 8, nat_lit 2, []), (nat_lit 8, nat_lit 1, []), (nat_lit 8, nat_lit 11, []), (nat_lit 8, nat_lit 10, []), (nat_lit 8, nat_lit 0, []), (nat_lit 5, nat_lit 0, [(nat_lit 0, (.ofNat (nat_lit 0))), (nat_lit 0, (.ofNat (nat_lit 15))), (nat_lit 4, (.ofNat (nat_lit 0)))]), (nat_lit 4, nat_lit 0, [(nat_lit 0, (.ofNat (nat_lit 0))), (nat_lit 0, (.ofNat (nat_lit 19)))]), (nat_lit 5, nat_lit 0, [(nat_lit 0, (.ofNat (nat_lit 0))), (nat_lit 0, (.ofNat (nat_lit 14))), (nat_lit 3, (.ofNat (nat_lit 0)))]), (nat_lit 4, nat_lit 0, [(nat_lit 0, (.ofNat (nat_lit 0))), (nat_lit 0, (.ofNat (nat_lit 18)))]), (nat_lit 5, nat_lit 0, [(nat_lit 0, (.ofNat (nat_lit 0))), (nat_lit 0, (.ofNat (nat_lit 13))), (nat_lit 2, (.ofNat (nat_lit 0)))]), (nat_lit 4, nat_lit 0, [(nat_lit 0, (.ofNat (nat_lit 0))), (nat_lit 0, (.ofNat (nat_lit 17)))]), (nat_lit 5, nat_lit 0, [(nat_lit 0, (.ofNat (nat_lit 0))), (nat_lit 0, (.ofNat (nat_lit 12))), (nat_lit 1, (.ofNat (nat_lit 0)))]), (nat_lit 4, nat_lit 0, [(nat_lit 0, (.ofNat (nat_lit 0))), (nat_lit 0, (.ofNat (nat_lit 16)))])],
  [(nat_lit 7, nat_lit 0, [(nat_lit 20, (.ofNat (nat_lit 0))), (nat_lit 0, (.ofNat (nat_lit 6)))]), (nat_lit 0, nat_lit 1, [(nat_lit 0, (.ofNat (nat_lit 3))), (nat_lit 19, (.ofNat (nat_lit 0)))]), (nat_lit 6, nat_lit 2, [(nat_lit 19, (.ofNat (nat_lit 0))), (nat_lit 0, (.ofNat (nat_lit 3)))]), (nat_lit 0, nat_lit 1, [(nat_lit 0, (.ofNat (nat_lit 0))), (nat_lit 0, (.ofNat (nat_lit 1)))]), (nat_lit 5, nat_lit 1, [(nat_lit 16, (.ofNat (nat_lit 0))), (nat_lit 0, (.ofNat (nat_lit 0))), (nat_lit 18, (.ofNat (nat_lit 0)))]), (nat_lit 4, nat_lit 1, [(nat_lit 16, (.ofNat (nat_lit 0))), (nat_lit 17, (.ofNat (nat_lit 0)))]), (nat_lit 0, nat_lit 1, [(nat_lit 0, (.ofNat (nat_lit 3))), (nat_lit 0, (.ofNat (nat_lit 0)))]), (nat_lit 6, nat_lit 2, [(nat_lit 0, (.ofNat (nat_lit 0))), (nat_lit 0, (.ofNat (nat_lit 3)))]), (nat_lit 8, nat_lit 9, []), (nat_lit 8, nat_lit 8, []), (nat_lit 8, nat_lit 7, []), (nat_lit 8, nat_lit 6, []), (nat_lit 8, nat_lit 5, []), (nat_lit 8, nat_lit 4, []), (nat_lit 8, nat_lit 3, []), (nat_lit 8, nat_lit 2, []), (nat_lit 8, nat_lit 1, []), (nat_lit 8, nat_lit 11, []), (nat_lit 8, nat_lit 10, []), (nat_lit 8, nat_lit 0, []), (nat_lit 5, nat_lit 0, [(nat_lit 0, (.ofNat (nat_lit 0))), (nat_lit 0, (.ofNat (nat_lit 15))), (nat_lit 4, (.ofNat (nat_lit 0)))]), (nat_lit 4, nat_lit 0, [(nat_lit 0, (.ofNat (nat_lit 0))), (nat_lit 0, (.ofNat (nat_lit 19)))]), (nat_lit 5, nat_lit 0, [(nat_lit 0, (.ofNat (nat_lit 0))), (nat_lit 0, (.ofNat (nat_lit 14))), (nat_lit 3, (.ofNat (nat_lit 0)))]), (nat_lit 4, nat_lit 0, [(nat_lit 0, (.ofNat (nat_lit 0))), (nat_lit 0, (.ofNat (nat_lit 18)))]), (nat_lit 5, nat_lit 0, [(nat_lit 0, (.ofNat (nat_lit 0))), (nat_lit 0, (.ofNat (nat_lit 13))), (nat_lit 2, (.ofNat (nat_lit 0)))]), (nat_lit 4, nat_lit 0, [(nat_lit 0, (.ofNat (nat_lit 0))), (nat_lit 0, (.ofNat (nat_lit 17)))]), (nat_lit 5, nat_lit 0, [(nat_lit 0, (.ofNat (nat_lit 0))), (nat_lit 0, (.ofNat (nat_lit 12))), (nat_lit 1, (.ofNat (nat_lit 0)))]), (nat_lit 4, nat_lit 0, [(nat_lit 0, (.ofNat (nat_lit 0))), (nat_lit 0, (.ofNat (nat_lit 16)))])],
  [(nat_lit 7, nat_lit 0, [(nat_lit 19, (.ofNat (nat_lit 0))), (nat_lit 0, (.ofNat (nat_lit 6)))]), (nat_lit 4, nat_lit 1, [(nat_lit 16, (.ofNat (nat_lit 0))), (nat_lit 20, (.ofNat (nat_lit 0)))]), (nat_lit 0, nat_lit 1, [(nat_lit 0, (.ofNat (nat_lit 3))), (nat_lit 19, (.ofNat (nat_lit 0)))]), (nat_lit 6, nat_lit 2, [(nat_lit 19, (.ofNat (nat_lit 0))), (nat_lit 0, (.ofNat (nat_lit 3)))]), (nat_lit 0, nat_lit 1, [(nat_lit 0, (.ofNat (nat_lit 0))), (nat_lit 0, (.ofNat (nat_lit 1)))]), (nat_lit 5, nat_lit 1, [(nat_lit 16, (.ofNat (nat_lit 0))), (nat_lit 0, (.ofNat (nat_lit 0))), (nat_lit 18, (.ofNat (nat_lit 0)))]), (nat_lit 4, nat_lit 1, [(nat_lit 16, (.ofNat (nat_lit 0))), (nat_lit 17, (.ofNat (nat_lit 0)))]), (nat_lit 0, nat_lit 1, [(nat_lit 0, (.ofNat (nat_lit 3))), (nat_lit 0, (.ofNat (nat_lit 0)))]), (nat_lit 6, nat_lit 2, [(nat_lit 0, (.ofNat (nat_lit 0))), (nat_lit 0, (.ofNat (nat_lit 3)))]), (nat_lit 8, nat_lit 9, []), (nat_lit 8, nat_lit 8, []), (nat_lit 8, nat_lit 7, []), (nat_lit 8, nat_lit 6, []), (nat_lit 8, nat_lit 5, []), (nat_lit 8, nat_lit 4, []), (nat_lit 8, nat_lit 3, []), (nat_lit 8, nat_lit 2, []), (nat_lit 8, nat_lit 1, []), (nat_lit 8, nat_lit 11, []), (nat_lit 8, nat_lit 10, []), (nat_lit 8, nat_lit 0, []), (nat_lit 5, nat_lit 0, [(nat_lit 0, (.ofNat (nat_lit 0))), (nat_lit 0, (.ofNat (nat_lit 15))), (nat_lit 4, (.ofNat (nat_lit 0)))]), (nat_lit 4, nat_lit 0, [(nat_lit 0, (.ofNat (nat_lit 0))), (nat_lit 0, (.ofNat (nat_lit 19)))]), (nat_lit 5, nat_lit 0, [(nat_lit 0, (.ofNat (nat_lit 0))), (nat_lit 0, (.ofNat (nat_lit 14))), (nat_lit 3, (.ofNat (nat_lit 0)))]), (nat_lit 4, nat_lit 0, [(nat_lit 0, (.ofNat (nat_lit 0))), (nat_lit 0, (.ofNat (nat_lit 18)))]), (nat_lit 5, nat_lit 0, [(nat_lit 0, (.ofNat (nat_lit 0))), (nat_lit 0, (.ofNat (nat_lit 13))), (nat_lit 2, (.ofNat (nat_lit 0)))]), (nat_lit 4, nat_lit 0, [(nat_lit 0, (.ofNat (nat_lit 0))), (nat_lit 0, (.ofNat (nat_lit 17)))]), (nat_lit 5, nat_lit 0, [(nat_lit 0, (.ofNat (nat_lit 0))), (nat_lit 0, (.ofNat (nat_lit 12))), (nat_lit 1, (.ofNat (nat_lit 0)))]), (nat_lit 4, nat_lit 0, [(nat_lit 0, (.ofNat (nat_lit 0))), (nat_lit 0, (.ofNat (nat_lit 16)))])],
  [(nat_lit 7, nat_lit 2, [(nat_lit 21, (.ofNat (nat_lit 0)))]), (nat_lit 4, nat_lit 1, [(nat_lit 16, (.ofNat (nat_lit 0))), (nat_lit 20, (.ofNat (nat_lit 0)))]), (nat_lit 0, nat_lit 1, [(nat_lit 0, (.ofNat (nat_lit 3))), (nat_lit 19, (.ofNat (nat_lit 0)))]), (nat_lit 6, nat_lit 2, [(nat_lit 19, (.ofNat (nat_lit 0))), (nat_lit 0, (.ofNat (nat_lit 3)))]), (nat_lit 0, nat_lit 1, [(nat_lit 0, (.ofNat (nat_lit 0))), (nat_lit 0, (.ofNat (nat_lit 1)))]), (nat_lit 5, nat_lit 1, [(nat_lit 16, (.ofNat (nat_lit 0))), (nat_lit 0, (.ofNat (nat_lit 0))), (nat_lit 18, (.ofNat (nat_lit 0)))]), (nat_lit 4, nat_lit 1, [(nat_lit 16, (.ofNat (nat_lit 0))), (nat_lit 17, (.ofNat (nat_lit 0)))]), (nat_lit 0, nat_lit 1, [(nat_lit 0, (.ofNat (nat_lit 3))), (nat_lit 0, (.ofNat (nat_lit 0)))]), (nat_lit 6, nat_lit 2, [(nat_lit 0, (.ofNat (nat_lit 0))), (nat_lit 0, (.ofNat (nat_lit 3)))]), (nat_lit 8, nat_lit 9, []), (nat_lit 8, nat_lit 8, []), (nat_lit 8, nat_lit 7, []), (nat_lit 8, nat_lit 6, []), (nat_lit 8, nat_lit 5, []), (nat_lit 8, nat_lit 4, []), (nat_lit 8, nat_lit 3, []), (nat_lit 8, nat_lit 2, []), (nat_lit 8, nat_lit 1, []), (nat_lit 8, nat_lit 11, []), (nat_lit 8, nat_lit 10, []), (nat_lit 8, nat_lit 0, []), (nat_lit 5, nat_lit 0, [(nat_lit 0, (.ofNat (nat_lit 0))), (nat_lit 0, (.ofNat (nat_lit 15))), (nat_lit 4, (.ofNat (nat_lit 0)))]), (nat_lit 4, nat_lit 0, [(nat_lit 0, (.ofNat (nat_lit 0))), (nat_lit 0, (.ofNat (nat_lit 19)))]), (nat_lit 5, nat_lit 0, [(nat_lit 0, (.ofNat (nat_lit 0))), (nat_lit 0, (.ofNat (nat_lit 14))), (nat_lit 3, (.ofNat (nat_lit 0)))]), (nat_lit 4, nat_lit 0, [(nat_lit 0, (.ofNat (nat_lit 0))), (nat_lit 0, (.ofNat (nat_lit 18)))]), (nat_lit 5, nat_lit 0, [(nat_lit 0, (.ofNat (nat_lit 0))), (nat_lit 0, (.ofNat (nat_lit 13))), (nat_lit 2, (.ofNat (nat_lit 0)))]), (nat_lit 4, nat_lit 0, [(nat_lit 0, (.ofNat (nat_lit 0))), (nat_lit 0, (.ofNat (nat_lit 17)))]), (nat_lit 5, nat_lit 0, [(nat_lit 0, (.ofNat (nat_lit 0))), (nat_lit 0, (.ofNat (nat_lit 12))), (nat_lit 1, (.ofNat (nat_lit 0)))]), (nat_lit 4, nat_lit 0, [(nat_lit 0, (.ofNat (nat_lit 0))), (nat_lit 0, (.ofNat (nat_lit 16)))])],
  [(nat_lit 7, nat_lit 3, []), (nat_lit 6, nat_lit 3, [(nat_lit 22, (.ofNat (nat_lit 0))), (nat_lit 0, (.ofNat (nat_lit 3)))]), (nat_lit 0, nat_lit 1, [(nat_lit 19, (.ofNat (nat_lit 0))), (nat_lit 0, (.ofNat (nat_lit 1)))]), (nat_lit 5, nat_lit 1, [(nat_lit 16, (.ofNat (nat_lit 0))), (nat_lit 19, (.ofNat (nat_lit 0))), (nat_lit 21, (.ofNat (nat_lit 0)))]), (nat_lit 4, nat_lit 1, [(nat_lit 16, (.ofNat (nat_lit 0))), (nat_lit 20, (.ofNat (nat_lit 0)))]), (nat_lit 0, nat_lit 1, [(nat_lit 0, (.ofNat (nat_lit 3))), (nat_lit 19, (.ofNat (nat_lit 0)))]), (nat_lit 6, nat_lit 2, [(nat_lit 19, (.ofNat (nat_lit 0))), (nat_lit 0, (.ofNat (nat_lit 3)))]), (nat_lit 0, nat_lit 1, [(nat_lit 0, (.ofNat (nat_lit 0))), (nat_lit 0, (.ofNat (nat_lit 1)))]), (nat_lit 5, nat_lit 1, [(nat_lit 16, (.ofNat (nat_lit 0))), (nat_lit 0, (.ofNat (nat_lit 0))), (nat_lit 18, (.ofNat (nat_lit 0)))]), (nat_lit 4, nat_lit 1, [(nat_lit 16, (.ofNat (nat_lit 0))), (nat_lit 17, (.ofNat (nat_lit 0)))]), (nat_lit 0, nat_lit 1, [(nat_lit 0, (.ofNat (nat_lit 3))), (nat_lit 0, (.ofNat (nat_lit 0)))]), (nat_lit 6, nat_lit 2, [(nat_lit 0, (.ofNat (nat_lit 0))), (nat_lit 0, (.ofNat (nat_lit 3)))]), (nat_lit 8, nat_lit 9, []), (nat_lit 8, nat_lit 8, []), (nat_lit 8, nat_lit 7, []), (nat_lit 8, nat_lit 6, []), (nat_lit 8, nat_lit 5, []), (nat_lit 8, nat_lit 4, []), (nat_lit 8, nat_lit 3, []), (nat_lit 8, nat_lit 2, []), (nat_lit 8, nat_lit 1, []), (nat_lit 8, nat_lit 11, []), (nat_lit 8, nat_lit 10, []), (nat_lit 8, nat_lit 0, []), (nat_lit 5, nat_lit 0, [(nat_lit 0, (.ofNat (nat_lit 0))), (nat_lit 0, (.ofNat (nat_lit 15))), (nat_lit 4, (.ofNat (nat_lit 0)))]), (nat_lit 4, nat_lit 0, [(nat_lit 0, (.ofNat (nat_lit 0))), (nat_lit 0, (.ofNat (nat_lit 19)))]), (nat_lit 5, nat_lit 0, [(nat_lit 0, (.ofNat (nat_lit 0))), (nat_lit 0, (.ofNat (nat_lit 14))), (nat_lit 3, (.ofNat (nat_lit 0)))]), (nat_lit 4, nat_lit 0, [(nat_lit 0, (.ofNat (nat_lit 0))), (nat_lit 0, (.ofNat (nat_lit 18)))]), (nat_lit 5, nat_lit 0, [(nat_lit 0, (.ofNat (nat_lit 0))), (nat_lit 0, (.ofNat (nat_lit 13))), (nat_lit 2, (.ofNat (nat_lit 0)))]), (nat_lit 4, nat_lit 0, [(nat_lit 0, (.ofNat (nat_lit 0))), (nat_lit 0, (.ofNat (nat_lit 17)))]), (nat_lit 5, nat_lit 0, [(nat_lit 0, (.ofNat (nat_lit 0))), (nat_lit 0, (.ofNat (nat_lit 12))), (nat_lit 1, (.ofNat (nat_lit 0)))]), (nat_lit 4, nat_lit 0, [(nat_lit 0, (.ofNat (nat_lit 0))), (nat_lit 0, (.ofNat (nat_lit 16)))])],
  [(nat_lit 7, nat_lit 0, [(nat_lit 23, (.ofNat (nat_lit 0))), (nat_lit 0, (.ofNat (nat_lit 6)))]), (nat_lit 0, nat_lit 1, [(nat_lit 0, (.ofNat (nat_lit 3))), (nat_lit 22, (.ofNat (nat_lit 0)))]), (nat_lit 6, nat_lit 2, [(nat_lit 22, (.ofNat (nat_lit 0))), (nat_lit 0, (.ofNat (nat_lit 3)))]), (nat_lit 0, nat_lit 1, [(nat_lit 19, (.ofNat (nat_lit 0))), (nat_lit 0, (.ofNat (nat_lit 1)))]), (nat_lit 5, nat_lit 1, [(nat_lit 16, (.ofNat (nat_lit 0))), (nat_lit 19, (.ofNat (nat_lit 0))), (nat_lit 21, (.ofNat (nat_lit 0)))]), (nat_lit 4, nat_lit 1, [(nat_lit 16, (.ofNat (nat_lit 0))), (nat_lit 20, (.ofNat (nat_lit 0)))]), (nat_lit 0, nat_lit 1, [(nat_lit 0, (.ofNat (nat_lit 3))), (nat_lit 19, (.ofNat (nat_lit 0)))]), (nat_lit 6, nat_lit 2, [(nat_lit 19, (.ofNat (nat_lit 0))), (nat_lit 0, (.ofNat (nat_lit 3)))]), (nat_lit 0, nat_lit 1, [(nat_lit 0, (.ofNat (nat_lit 0))), (nat_lit 0, (.ofNat (nat_lit 1)))]), (nat_lit 5, nat_lit 1, [(nat_lit 16, (.ofNat (nat_lit 0))), (nat_lit 0, (.ofNat (nat_lit 0))), (nat_lit 18, (.ofNat (nat_lit 0)))]), (nat_lit 4, nat_lit 1, [(nat_lit 16, (.ofNat (nat_lit 0))), (nat_lit 17, (.ofNat (nat_lit 0)))]), (nat_lit 0, nat_lit 1, [(nat_lit 0, (.ofNat (nat_lit 3))), (nat_lit 0, (.ofNat (nat_lit 0)))]), (nat_lit 6, nat_lit 2, [(nat_lit 0, (.ofNat (nat_lit 0))), (nat_lit 0, (.ofNat (nat_lit 3)))]), (nat_lit 8, nat_lit 9, []), (nat_lit 8, nat_lit 8, []), (nat_lit 8, nat_lit 7, []), (nat_lit 8, nat_lit 6, []), (nat_lit 8, nat_lit 5, []), (nat_lit 8, nat_lit 4, []), (nat_lit 8, nat_lit 3, []), (nat_lit 8, nat_lit 2, []), (nat_lit 8, nat_lit 1, []), (nat_lit 8, nat_lit 11, []), (nat_lit 8, nat_lit 10, []), (nat_lit 8, nat_lit 0, []), (nat_lit 5, nat_lit 0, [(nat_lit 0, (.ofNat (nat_lit 0))), (nat_lit 0, (.ofNat (nat_lit 15))), (nat_lit 4, (.ofNat (nat_lit 0)))]), (nat_lit 4, nat_lit 0, [(nat_lit 0, (.ofNat (nat_lit 0))), (nat_lit 0, (.ofNat (nat_lit 19)))]), (nat_lit 5, nat_lit 0, [(nat_lit 0, (.ofNat (nat_lit 0))), (nat_lit 0, (.ofNat (nat_lit 14))), (nat_lit 3, (.ofNat (nat_lit 0)))]), (nat_lit 4, nat_lit 0, [(nat_lit 0, (.ofNat (nat_lit 0))), (nat_lit 0, (.ofNat (nat_lit 18)))]), (nat_lit 5, nat_lit 0, [(nat_lit 0, (.ofNat (nat_lit 0))), (nat_lit 0, (.ofNat (nat_lit 13))), (nat_lit 2, (.ofNat (nat_lit 0)))]), (nat_lit 4, nat_lit 0, [(nat_lit 0, (.ofNat (nat_lit 0))), (nat_lit 0, (.ofNat (nat_lit 17)))]), (nat_lit 5, nat_lit 0, [(nat_lit 0, (.ofNat (nat_lit 0))), (nat_lit 0, (.ofNat (nat_lit 12))), (nat_lit 1, (.ofNat (nat_lit 0)))]), (nat_lit 4, nat_lit 0, [(nat_lit 0, (.ofNat (nat_lit 0))), (nat_lit 0, (.ofNat (nat_lit 16)))])],
  [(nat_lit 7, nat_lit 0, [(nat_lit 22, (.ofNat (nat_lit 0))), (nat_lit 0, (.ofNat (nat_lit 6)))]), (nat_lit 4, nat_lit 1, [(nat_lit 16, (.ofNat (nat_lit 0))), (nat_lit 23, (.ofNat (nat_lit 0)))]), (nat_lit 0, nat_lit 1, [(nat_lit 0, (.ofNat (nat_lit 3))), (nat_lit 22, (.ofNat (nat_lit 0)))]), (nat_lit 6, nat_lit 2, [(nat_lit 22, (.ofNat (nat_lit 0))), (nat_lit 0, (.ofNat (nat_lit 3)))]), (nat_lit 0, nat_lit 1, [(nat_lit 19, (.ofNat (nat_lit 0))), (nat_lit 0, (.ofNat (nat_lit 1)))]), (nat_lit 5, nat_lit 1, [(nat_lit 16, (.ofNat (nat_lit 0))), (nat_lit 19, (.ofNat (nat_lit 0))), (nat_lit 21, (.ofNat (nat_lit 0)))]), (nat_lit 4, nat_lit 1, [(nat_lit 16, (.ofNat (nat_lit 0))), (nat_lit 20, (.ofNat (nat_lit 0)))]), (nat_lit 0, nat_lit 1, [(nat_lit 0, (.ofNat (nat_lit 3))), (nat_lit 19, (.ofNat (nat_lit 0)))]), (nat_lit 6, nat_lit 2, [(nat_lit 19, (.ofNat (nat_lit 0))), (nat_lit 0, (.ofNat (nat_lit 3)))]), (nat_lit 0, nat_lit 1, [(nat_lit 0, (.ofNat (nat_lit 0))), (nat_lit 0, (.ofNat (nat_lit 1)))]), (nat_lit 5, nat_lit 1, [(nat_lit 16, (.ofNat (nat_lit 0))), (nat_lit 0, (.ofNat (nat_lit 0))), (nat_lit 18, (.ofNat (nat_lit 0)))]), (nat_lit 4, nat_lit 1, [(nat_lit 16, (.ofNat (nat_lit 0))), (nat_lit 17, (.ofNat (nat_lit 0)))]), (nat_lit 0, nat_lit 1, [(nat_lit 0, (.ofNat (nat_lit 3))), (nat_lit 0, (.ofNat (nat_lit 0)))]), (nat_lit 6, nat_lit 2, [(nat_lit 0, (.ofNat (nat_lit 0))), (nat_lit 0, (.ofNat (nat_lit 3)))]), (nat_lit 8, nat_lit 9, []), (nat_lit 8, nat_lit 8, []), (nat_lit 8, nat_lit 7, []), (nat_lit 8, nat_lit 6, []), (nat_lit 8, nat_lit 5, []), (nat_lit 8, nat_lit 4, []), (nat_lit 8, nat_lit 3, []), (nat_lit 8, nat_lit 2, []), (nat_lit 8, nat_lit 1, []), (nat_lit 8, nat_lit 11, []), (nat_lit 8, nat_lit 10, []), (nat_lit 8, nat_lit 0, []), (nat_lit 5, nat_lit 0, [(nat_lit 0, (.ofNat (nat_lit 0))), (nat_lit 0, (.ofNat (nat_lit 15))), (nat_lit 4, (.ofNat (nat_lit 0)))]), (nat_lit 4, nat_lit 0, [(nat_lit 0, (.ofNat (nat_lit 0))), (nat_lit 0, (.ofNat (nat_lit 19)))]), (nat_lit 5, nat_lit 0, [(nat_lit 0, (.ofNat (nat_lit 0))), (nat_lit 0, (.ofNat (nat_lit 14))), (nat_lit 3, (.ofNat (nat_lit 0)))]), (nat_lit 4, nat_lit 0, [(nat_lit 0, (.ofNat (nat_lit 0))), (nat_lit 0, (.ofNat (nat_lit 18)))]), (nat_lit 5, nat_lit 0, [(nat_lit 0, (.ofNat (nat_lit 0))), (nat_lit 0, (.ofNat (nat_lit 13))), (nat_lit 2, (.ofNat (nat_lit 0)))]), (nat_lit 4, nat_lit 0, [(nat_lit 0, (.ofNat (nat_lit 0))), (nat_lit 0, (.ofNat (nat_lit 17)))]), (nat_lit 5, nat_lit 0, [(nat_lit 0, (.ofNat (nat_lit 0))), (nat_lit 0, (.ofNat (nat_lit 12))), (nat_lit 1, (.ofNat (nat_lit 0)))]), (nat_lit 4, nat_lit 0, [(nat_lit 0, (.ofNat (nat_lit 0))), (nat_lit 0, (.ofNat (nat_lit 16)))])],
  [(nat_lit 7, nat_lit 2, [(nat_lit 24, (.ofNat (nat_lit 0)))]), (nat_lit 4, nat_lit 1, [(nat_lit 16, (.ofNat (nat_lit 0))), (nat_lit 23, (.ofNat (nat_lit 0)))]), (nat_lit 0, nat_lit 1, [(nat_lit 0, (.ofNat (nat_lit 3))), (nat_lit 22, (.ofNat (nat_lit 0)))]), (nat_lit 6, nat_lit 2, [(nat_lit 22, (.ofNat (nat_lit 0))), (nat_lit 0, (.ofNat (nat_lit 3)))]), (nat_lit 0, nat_lit 1, [(nat_lit 19, (.ofNat (nat_lit 0))), (nat_lit 0, (.ofNat (nat_lit 1)))]), (nat_lit 5, nat_lit 1, [(nat_lit 16, (.ofNat (nat_lit 0))), (nat_lit 19, (.ofNat (nat_lit 0))), (nat_lit 21, (.ofNat (nat_lit 0)))]), (nat_lit 4, nat_lit 1, [(nat_lit 16, (.ofNat (nat_lit 0))), (nat_lit 20, (.ofNat (nat_lit 0)))]), (nat_lit 0, nat_lit 1, [(nat_lit 0, (.ofNat (nat_lit 3))), (nat_lit 19, (.ofNat (nat_lit 0)))]), (nat_lit 6, nat_lit 2, [(nat_lit 19, (.ofNat (nat_lit 0))), (nat_lit 0, (.ofNat (nat_lit 3)))]), (nat_lit 0, nat_lit 1, [(nat_lit 0, (.ofNat (nat_lit 0))), (nat_lit 0, (.ofNat (nat_lit 1)))]), (nat_lit 5, nat_lit 1, [(nat_lit 16, (.ofNat (nat_lit 0))), (nat_lit 0, (.ofNat (nat_lit 0))), (nat_lit 18, (.ofNat (nat_lit 0)))]), (nat_lit 4, nat_lit 1, [(nat_lit 16, (.ofNat (nat_lit 0))), (nat_lit 17, (.ofNat (nat_lit 0)))]), (nat_lit 0, nat_lit 1, [(nat_lit 0, (.ofNat (nat_lit 3))), (nat_lit 0, (.ofNat (nat_lit 0)))]), (nat_lit 6, nat_lit 2, [(nat_lit 0, (.ofNat (nat_lit 0))), (nat_lit 0, (.ofNat (nat_lit 3)))]), (nat_lit 8, nat_lit 9, []), (nat_lit 8, nat_lit 8, []), (nat_lit 8, nat_lit 7, []), (nat_lit 8, nat_lit 6, []), (nat_lit 8, nat_lit 5, []), (nat_lit 8, nat_lit 4, []), (nat_lit 8, nat_lit 3, []), (nat_lit 8, nat_lit 2, []), (nat_lit 8, nat_lit 1, []), (nat_lit 8, nat_lit 11, []), (nat_lit 8, nat_lit 10, []), (nat_lit 8, nat_lit 0, []), (nat_lit 5, nat_lit 0, [(nat_lit 0, (.ofNat (nat_lit 0))), (nat_lit 0, (.ofNat (nat_lit 15))), (nat_lit 4, (.ofNat (nat_lit 0)))]), (nat_lit 4, nat_lit 0, [(nat_lit 0, (.ofNat (nat_lit 0))), (nat_lit 0, (.ofNat (nat_lit 19)))]), (nat_lit 5, nat_lit 0, [(nat_lit 0, (.ofNat (nat_lit 0))), (nat_lit 0, (.ofNat (nat_lit 14))), (nat_lit 3, (.ofNat (nat_lit 0)))]), (nat_lit 4, nat_lit 0, [(nat_lit 0, (.ofNat (nat_lit 0))), (nat_lit 0, (.ofNat (nat_lit 18)))]), (nat_lit 5, nat_lit 0, [(nat_lit 0, (.ofNat (nat_lit 0))), (nat_lit 0, (.ofNat (nat_lit 13))), (nat_lit 2, (.ofNat (nat_lit 0)))]), (nat_lit 4, nat_lit 0, [(nat_lit 0, (.ofNat (nat_lit 0))), (nat_lit 0, (.ofNat (nat_lit 17)))]), (nat_lit 5, nat_lit 0, [(nat_lit 0, (.ofNat (nat_lit 0))), (nat_lit 0, (.ofNat (nat_lit 12))), (nat_lit 1, (.ofNat (nat_lit 0)))]), (nat_lit 4, nat_lit 0, [(nat_lit 0, (.ofNat (nat_lit 0))), (nat_lit 0, (.ofNat (nat_lit 16)))])],
  [(nat_lit 7, nat_lit 3, []), (nat_lit 6, nat_lit 2, [(nat_lit 25, (.ofNat (nat_lit 0))), (nat_lit 0, (.ofNat (nat_lit 3)))]), (nat_lit 0, nat_lit 1, [(nat_lit 22, (.ofNat (nat_lit 0))), (nat_lit 0, (.ofNat (nat_lit 1)))]), (nat_lit 5, nat_lit 1, [(nat_lit 16, (.ofNat (nat_lit 0))), (nat_lit 22, (.ofNat (nat_lit 0))), (nat_lit 24, (.ofNat (nat_lit 0)))]), (nat_lit 4, nat_lit 1, [(nat_lit 16, (.ofNat (nat_lit 0))), (nat_lit 23, (.ofNat (nat_lit 0)))]), (nat_lit 0, nat_lit 1, [(nat_lit 0, (.ofNat (nat_lit 3))), (nat_lit 22, (.ofNat (nat_lit 0)))]), (nat_lit 6, nat_lit 2, [(nat_lit 22, (.ofNat (nat_lit 0))), (nat_lit 0, (.ofNat (nat_lit 3)))]), (nat_lit 0, nat_lit 1, [(nat_lit 19, (.ofNat (nat_lit 0))), (nat_lit 0, (.ofNat (nat_lit 1)))]), (nat_lit 5, nat_lit 1, [(nat_lit 16, (.ofNat (nat_lit 0))), (nat_lit 19, (.ofNat (nat_lit 0))), (nat_lit 21, (.ofNat (nat_lit 0)))]), (nat_lit 4, nat_lit 1, [(nat_lit 16, (.ofNat (nat_lit 0))), (nat_lit 20, (.ofNat (nat_lit 0)))]), (nat_lit 0, nat_lit 1, [(nat_lit 0, (.ofNat (nat_lit 3))), (nat_lit 19, (.ofNat (nat_lit 0)))]), (nat_lit 6, nat_lit 2, [(nat_lit 19, (.ofNat (nat_lit 0))), (nat_lit 0, (.ofNat (nat_lit 3)))]), (nat_lit 0, nat_lit 1, [(nat_lit 0, (.ofNat (nat_lit 0))), (nat_lit 0, (.ofNat (nat_lit 1)))]), (nat_lit 5, nat_lit 1, [(nat_lit 16, (.ofNat (nat_lit 0))), (nat_lit 0, (.ofNat (nat_lit 0))), (nat_lit 18, (.ofNat (nat_lit 0)))]), (nat_lit 4, nat_lit 1, [(nat_lit 16, (.ofNat (nat_lit 0))), (nat_lit 17, (.ofNat (nat_lit 0)))]), (nat_lit 0, nat_lit 1, [(nat_lit 0, (.ofNat (nat_lit 3))), (nat_lit 0, (.ofNat (nat_lit 0)))]), (nat_lit 6, nat_lit 2, [(nat_lit 0, (.ofNat (nat_lit 0))), (nat_lit 0, (.ofNat (nat_lit 3)))]), (nat_lit 8, nat_lit 9, []), (nat_lit 8, nat_lit 8, []), (nat_lit 8, nat_lit 7, []), (nat_lit 8, nat_lit 6, []), (nat_lit 8, nat_lit 5, []), (nat_lit 8, nat_lit 4, []), (nat_lit 8, nat_lit 3, []), (nat_lit 8, nat_lit 2, []), (nat_lit 8, nat_lit 1, []), (nat_lit 8, nat_lit 11, []), (nat_lit 8, nat_lit 10, []), (nat_lit 8, nat_lit 0, []), (nat_lit 5, nat_lit 0, [(nat_lit 0, (.ofNat (nat_lit 0))), (nat_lit 0, (.ofNat (nat_lit 15))), (nat_lit 4, (.ofNat (nat_lit 0)))]), (nat_lit 4, nat_lit 0, [(nat_lit 0, (.ofNat (nat_lit 0))), (nat_lit 0, (.ofNat (nat_lit 19)))]), (nat_lit 5, nat_lit 0, [(nat_lit 0, (.ofNat (nat_lit 0))), (nat_lit 0, (.ofNat (nat_lit 14))), (nat_lit 3, (.ofNat (nat_lit 0)))]), (nat_lit 4, nat_lit 0, [(nat_lit 0, (.ofNat (nat_lit 0))), (nat_lit 0, (.ofNat (nat_lit 18)))]), (nat_lit 5, nat_lit 0, [(nat_lit 0, (.ofNat (nat_lit 0))), (nat_lit 0, (.ofNat (nat_lit 13))), (nat_lit 2, (.ofNat (nat_lit 0)))]), (nat_lit 4, nat_lit 0, [(nat_lit 0, (.ofNat (nat_lit 0))), (nat_lit 0, (.ofNat (nat_lit 17)))]), (nat_lit 5, nat_lit 0, [(nat_lit 0, (.ofNat (nat_lit 0))), (nat_lit 0, (.ofNat (nat_lit 12))), (nat_lit 1, (.ofNat (nat_lit 0)))]), (nat_lit 4, nat_lit 0, [(nat_lit 0, (.ofNat (nat_lit 0))), (nat_lit 0, (.ofNat (nat_lit 16)))])]]
def zEne_keepText : List (List zK) := [[(nat_lit 13, nat_lit 0, []), (nat_lit 5, nat_lit 0, [(nat_lit 0, (.ofNat (nat_lit 0))), (nat_lit 0, (.ofNat (nat_lit 15))), (nat_lit 4, (.ofNat (nat_lit 0)))]), (nat_lit 4, nat_lit 0, [(nat_lit 0, (.ofNat (nat_lit 0))), (nat_lit 0, (.ofNat (nat_lit 19)))]), (nat_lit 5, nat_lit 0, [(nat_lit 0, (.ofNat (nat_lit 0))), (nat_lit 0, (.ofNat (nat_lit 14))), (nat_lit 3, (.ofNat (nat_lit 0)))]), (nat_lit 4, nat_lit 0, [(nat_lit 0, (.ofNat (nat_lit 0))), (nat_lit 0, (.ofNat (nat_lit 18)))]), (nat_lit 5, nat_lit 0, [(nat_lit 0, (.ofNat (nat_lit 0))), (nat_lit 0, (.ofNat (nat_lit 13))), (nat_lit 2, (.ofNat (nat_lit 0)))]), (nat_lit 4, nat_lit 0, [(nat_lit 0, (.ofNat (nat_lit 0))), (nat_lit 0, (.ofNat (nat_lit 17)))]), (nat_lit 5, nat_lit 0, [(nat_lit 0, (.ofNat (nat_lit 0))), (nat_lit 0, (.ofNat (nat_lit 12))), (nat_lit 1, (.ofNat (nat_lit 0)))]), (nat_lit 4, nat_lit 0, [(nat_lit 0, (.ofNat (nat_lit 0))), (nat_lit 0, (.ofNat (nat_lit 16)))])],
  [(nat_lit 13, nat_lit 10, []), (nat_lit 8, nat_lit 0, []), (nat_lit 5, nat_lit 0, [(nat_lit 0, (.ofNat (nat_lit 0))), (nat_lit 0, (.ofNat (nat_lit 15))), (nat_lit 4, (.ofNat (nat_lit 0)))]), (nat_lit 4, nat_lit 0, [(nat_lit 0, (.ofNat (nat_lit 0))), (nat_lit 0, (.ofNat (nat_lit 19)))]), (nat_lit 5, nat_lit 0, [(nat_lit 0, (.ofNat (nat_lit 0))), (nat_lit 0, (.ofNat (nat_lit 14))), (nat_lit 3, (.ofNat (nat_lit 0)))]), (nat_lit 4, nat_lit 0, [(nat_lit 0, (.ofNat (nat_lit 0))), (nat_lit 0, (.ofNat (nat_lit 18)))]), (nat_lit 5, nat_lit 0, [(nat_lit 0, (.ofNat (nat_lit 0))), (nat_lit 0, (.ofNat (nat_lit 13))), (nat_lit 2, (.ofNat (nat_lit 0)))]), (nat_lit 4, nat_lit 0, [(nat_lit 0, (.ofNat (nat_lit 0))), (nat_lit 0, (.ofNat (nat_lit 17)))]), (nat_lit 5, nat_lit 0, [(nat_lit 0, (.ofNat (nat_lit 0))), (nat_lit 0, (.ofNat (nat_lit 12))), (nat_lit 1, (.ofNat (nat_lit 0)))]), (nat_lit 4, nat_lit 0, [(nat_lit 0, (.ofNat (nat_lit 0))), (nat_lit 0, (.ofNat (nat_lit 16)))])],
  [(nat_lit 13, nat_lit 11, []), (nat_lit 8, nat_lit 10, []), (nat_lit 8, nat_lit 0, []), (nat_lit 5, nat_lit 0, [(nat_lit 0, (.ofNat (nat_lit 0))), (nat_lit 0, (.ofNat (nat_lit 15))), (nat_lit 4, (.ofNat (nat_lit 0)))]), (nat_lit 4, nat_lit 0, [(nat_lit 0, (.ofNat (nat_lit 0))), (nat_lit 0, (.ofNat (nat_lit 19)))]), (nat_lit 5, nat_lit 0, [(nat_lit 0, (.ofNat (nat_lit 0))), (nat_lit 0, (.ofNat (nat_lit 14))), (nat_lit 3, (.ofNat (nat_lit 0)))]), (nat_lit 4, nat_lit 0, [(nat_lit 0, (.ofNat (nat_lit 0))), (nat_lit 0, (.ofNat (nat_lit 18)))]), (nat_lit 5, nat_lit 0, [(nat_lit 0, (.ofNat (nat_lit 0))), (nat_lit 0, (.ofNat (nat_lit 13))), (nat_lit 2, (.ofNat (nat_lit 0)))]), (nat_lit 4, nat_lit 0, [(nat_lit 0, (.ofNat (nat_lit 0))), (nat_lit 0, (.ofNat (nat_lit 17)))]), (nat_lit 5, nat_lit 0, [(nat_lit 0, (.ofNat (nat_lit 0))), (nat_lit 0, (.ofNat (nat_lit 12))), (nat_lit 1, (.ofNat (nat_lit 0)))]), (nat_lit 4, nat_lit 0, [(nat_lit 0, (.ofNat (nat_lit 0))), (nat_lit 0, (.ofNat (nat_lit 16)))])],
  [(nat_lit 13, nat_lit 1, []), (nat_lit 8, nat_lit 11, []), (nat_lit 8, nat_lit 10, []), (nat_lit 8, nat_lit 0, []), (nat_lit 5, nat_lit 0, [(nat_lit 0, (.ofNat (nat_lit 0))), (nat_lit 0, (.ofNat (nat_lit 15))), (nat_lit 4, (.ofNat (nat_lit 0)))]), (nat_lit 4, nat_lit 0, [(nat_lit 0, (.ofNat (nat_lit 0))), (nat_lit 0, (.ofNat (nat_lit 19)))]), (nat_lit 5, nat_lit 0, [(nat_lit 0, (.ofNat (nat_lit 0))), (nat_lit 0, (.ofNat (nat_lit 14))), (nat_lit 3, (.ofNat (nat_lit 0)))]), (nat_lit 4, nat_lit 0, [(nat_lit 0, (.ofNat (nat_lit 0))), (nat_lit 0, (.ofNat (nat_lit 18)))]), (nat_lit 5, nat_lit 0, [(nat_lit 0, (.ofNat (nat_lit 0))), (nat_lit 0, (.ofNat (nat_lit 13))), (nat_lit 2, (.ofNat (nat_lit 0)))]), (nat_lit 4, nat_lit 0, [(nat_lit 0, (.ofNat (nat_lit 0))), (nat_lit 0, (.ofNat (nat_lit 17)))]), (nat_lit 5, nat_lit 0, [(nat_lit 0, (.ofNat (nat_lit 0))), (nat_lit 0, (.ofNat (nat_lit 12))), (nat_lit 1, (.ofNat (nat_lit 0)))]), (nat_lit 4, nat_lit 0, [(nat_lit 0, (.ofNat (nat_lit 0))), (nat_lit 0, (.ofNat (nat_lit 16)))])],
  [(nat_lit 13, nat_lit 2, []), (nat_lit 8, nat_lit 1, []), (nat_lit 8, nat_lit 11, []), (nat_lit 8, nat_lit 10, []), (nat_lit 8, nat_lit 0, []), (nat_lit 5, nat_lit 0, [(nat_lit 0, (.ofNat (nat_lit 0))), (nat_lit 0, (.ofNat (nat_lit 15))), (nat_lit 4, (.ofNat (nat_lit 0)))]), (nat_lit 4, nat_lit 0, [(nat_lit 0, (.ofNat (nat_lit 0))), (nat_lit 0, (.ofNat (nat_lit 19)))]), (nat_lit 5, nat_lit 0, [(nat_lit 0, (.ofNat (nat_lit 0))), (nat_lit 0, (.ofNat (nat_lit 14))), (nat_lit 3, (.ofNat (nat_lit 0)))]), (nat_lit 4, nat_lit 0, [(nat_lit 0, (.ofNat (nat_lit 0))), (nat_lit 0, (.ofNat (nat_lit 18)))]), (nat_lit 5, nat_lit 0, [(nat_lit 0, (.ofNat (nat_lit 0))), (nat_lit 0, (.ofNat (nat_lit 13))), (nat_lit 2, (.ofNat (nat_lit 0)))]), (nat_lit 4, nat_lit 0, [(nat_lit 0, (.ofNat (nat_lit 0))), (nat_lit 0, (.ofNat (nat_lit 17)))]), (nat_lit 5, nat_lit 0, [(nat_lit 0, (.ofNat (nat_lit 0))), (nat_lit 0, (.ofNat (nat_lit 12))), (nat_lit 1, (.ofNat (nat_lit 0)))]), (nat_lit 4, nat_lit 0, [(nat_lit 0, (.ofNat (nat_lit 0))), (nat_lit 0, (.ofNat (nat_lit 16)))])],
  [(nat_lit 13, nat_lit 3, []), (nat_lit 8, nat_lit 2, []), (nat_lit 8, nat_lit 1, []), (nat_lit 8, nat_lit 11, []), (nat_lit 8, nat_lit 10, []), (nat_lit 8, nat_lit 0, []), (nat_lit 5, nat_lit 0, [(nat_lit 0, (.ofNat (nat_lit 0))), (nat_lit 0, (.ofNat (nat_lit 15))), (nat_lit 4, (.ofNat (nat_lit 0)))]), (nat_lit 4, nat_lit 0, [(nat_lit 0, (.ofNat (nat_lit 0))), (nat_lit 0, (.ofNat (nat_lit 19)))]), (nat_lit 5, nat_lit 0, [(nat_lit 0, (.ofNat (nat_lit 0))), (nat_lit 0, (.ofNat (nat_lit 14))), (nat_lit 3, (.ofNat (nat_lit 0)))]), (nat_lit 4, nat_lit 0, [(nat_lit 0, (.ofNat (nat_lit 0))), (nat_lit 0, (.ofNat (nat_lit 18)))]), (nat_lit 5, nat_lit 0, [(nat_lit 0, (.ofNat (nat_lit 0))), (nat_lit 0, (.ofNat (nat_lit 13))), (nat_lit 2, (.ofNat (nat_lit 0)))]), (nat_lit 4, nat_lit 0, [(nat_lit 0, (.ofNat (nat_lit 0))), (nat_lit 0, (.ofNat (nat_lit 17)))]), (nat_lit 5, nat_lit 0, [(nat_lit 0, (.ofNat (nat_lit 0))), (nat_lit 0, (.ofNat (nat_lit 12))), (nat_lit 1, (.ofNat (nat_lit 0)))]), (nat_lit 4, nat_lit 0, [(nat_lit 0, (.ofNat (nat_lit 0))), (nat_lit 0, (.ofNat (nat_lit 16)))])],
  [(nat_lit 13, nat_lit 4, []), (nat_lit 8, nat_lit 3, []), (nat_lit 8, nat_lit 2, []), (nat_lit 8, nat_lit 1, []), (nat_lit 8, nat_lit 11, []), (nat_lit 8, nat_lit 10, []), (nat_lit 8, nat_lit 0, []), (nat_lit 5, nat_lit 0, [(nat_lit 0, (.ofNat (nat_lit 0))), (nat_lit 0, (.ofNat (nat_lit 15))), (nat_lit 4, (.ofNat (nat_lit 0)))]), (nat_lit 4, nat_lit 0, [(nat_lit 0, (.ofNat (nat_lit 0))), (nat_lit 0, (.ofNat (nat_lit 19)))]), (nat_lit 5, nat_lit 0, [(nat_lit 0, (.ofNat (nat_lit 0))), (nat_lit 0, (.ofNat (nat_lit 14))), (nat_lit 3, (.ofNat (nat_lit 0)))]), (nat_lit 4, nat_lit 0, [(nat_lit 0, (.ofNat (nat_lit 0))), (nat_lit 0, (.ofNat (nat_lit 18)))]), (nat_lit 5, nat_lit 0, [(nat_lit 0, (.ofNat (nat_lit 0))), (nat_lit 0, (.ofNat (nat_lit 13))), (nat_lit 2, (.ofNat (nat_lit 0)))]), (nat_lit 4, nat_lit 0, [(nat_lit 0, (.ofNat (nat_lit 0))), (nat_lit 0, (.ofNat (nat_lit 17)))]), (nat_lit 5, nat_lit 0, [(nat_lit 0, (.ofNat (nat_lit 0))), (nat_lit 0, (.ofNat (nat_lit 12))), (nat_lit 1, (.ofNat (nat_lit 0)))]), (nat_lit 4, nat_lit 0, [(nat_lit 0, (.ofNat (nat_lit 0))), (nat_lit 0, (.ofNat (nat_lit 16)))])],
  [(nat_lit 13, nat_lit 5, []), (nat_lit 8, nat_lit 4, []), (nat_lit 8, nat_lit 3, []), (nat_lit 8, nat_lit 2, []), (nat_lit 8, nat_lit 1, []), (nat_lit 8, nat_lit 11, []), (nat_lit 8, nat_lit 10, []), (nat_lit 8, nat_lit 0, []), (nat_lit 5, nat_lit 0, [(nat_lit 0, (.ofNat (nat_lit 0))), (nat_lit 0, (.ofNat (nat_lit 15))), (nat_lit 4, (.ofNat (nat_lit 0)))]), (nat_lit 4, nat_lit 0, [(nat_lit 0, (.ofNat (nat_lit 0))), (nat_lit 0, (.ofNat (nat_lit 19)))]), (nat_lit 5, nat_lit 0, [(nat_lit 0, (.ofNat (nat_lit 0))), (nat_lit 0, (.ofNat (nat_lit 14))), (nat_lit 3, (.ofNat (nat_lit 0)))]), (nat_lit 4, nat_lit 0, [(nat_lit 0, (.ofNat (nat_lit 0))), (nat_lit 0, (.ofNat (nat_lit 18)))]), (nat_lit 5, nat_lit 0, [(nat_lit 0, (.ofNat (nat_lit 0))), (nat_lit 0, (.ofNat (nat_lit 13))), (nat_lit 2, (.ofNat (nat_lit 0)))]), (nat_lit 4, nat_lit 0, [(nat_lit 0, (.ofNat (nat_lit 0))), (nat_lit 0, (.ofNat (nat_lit 17)))]), (nat_lit 5, nat_lit 0, [(nat_lit 0, (.ofNat (nat_lit 0))), (nat_lit 0, (.ofNat (nat_lit 12))), (nat_lit 1, (.ofNat (nat_lit 0)))]), (nat_lit 4, nat_lit 0, [(nat_lit 0, (.ofNat (nat_lit 0))), (nat_lit 0, (.ofNat (nat_lit 16)))])],
  [(nat_lit 13, nat_lit 6, []), (nat_lit 8, nat_lit 5, []), (nat_lit 8, nat_lit 4, []), (nat_lit 8, nat_lit 3, []), (nat_lit 8, nat_lit 2, []), (nat_lit 8, nat_lit 1, []), (nat_lit 8, nat_lit 11, []), (nat_lit 8, nat_lit 10, []), (nat_lit 8, nat_lit 0, []), (nat_lit 5, nat_lit 0, [(nat_lit 0, (.ofNat (nat_lit 0))), (nat_lit 0, (.ofNat (nat_lit 15))), (nat_lit 4, (.ofNat (nat_lit 0)))]), (nat_lit 4, nat_lit 0, [(nat_lit 0, (.ofNat (nat_lit 0))), (nat_lit 0, (.ofNat (nat_lit 19)))]), (nat_lit 5, nat_lit 0, [(nat_lit 0, (.ofNat (nat_lit 0))), (nat_lit 0, (.ofNat (nat_lit 14))), (nat_lit 3, (.ofNat (nat_lit 0)))]), (nat_lit 4, nat_lit 0, [(nat_lit 0, (.ofNat (nat_lit 0))), (nat_lit 0, (.ofNat (nat_lit 18)))]), (nat_lit 5, nat_lit 0, [(nat_lit 0, (.ofNat (nat_lit 0))), (nat_lit 0, (.ofNat (nat_lit 13))), (nat_lit 2, (.ofNat (nat_lit 0)))]), (nat_lit 4, nat_lit 0, [(nat_lit 0, (.ofNat (nat_lit 0))), (nat_lit 0, (.ofNat (nat_lit 17)))]), (nat_lit 5, nat_lit 0, [(nat_lit 0, (.ofNat (nat_lit 0))), (nat_lit 0, (.ofNat (nat_lit 12))), (nat_lit 1, (.ofNat (nat_lit 0)))]), (nat_lit 4, nat_lit 0, [(nat_lit 0, (.ofNat (nat_lit 0))), (nat_lit 0, (.ofNat (nat_lit 16)))])],
  [(nat_lit 13, nat_lit 7, []), (nat_lit 8, nat_lit 6, []), (nat_lit 8, nat_lit 5, []), (nat_lit 8, nat_lit 4, []), (nat_lit 8, nat_lit 3, []), (nat_lit 8, nat_lit 2, []), (nat_lit 8, nat_lit 1, []), (nat_lit 8, nat_lit 11, []), (nat_lit 8, nat_lit 10, []), (nat_lit 8, nat_lit 0, []), (nat_lit 5, nat_lit 0, [(nat_lit 0, (.ofNat (nat_lit 0))), (nat_lit 0, (.ofNat (nat_lit 15))), (nat_lit 4, (.ofNat (nat_lit 0)))]), (nat_lit 4, nat_lit 0, [(nat_lit 0, (.ofNat (nat_lit 0))), (nat_lit 0, (.ofNat (nat_lit 19)))]), (nat_lit 5, nat_lit 0, [(nat_lit 0, (.ofNat (nat_lit 0))), (nat_lit 0, (.ofNat (nat_lit 14))), (nat_lit 3, (.ofNat (nat_lit 0)))]), (nat_lit 4, nat_lit 0, [(nat_lit 0, (.ofNat (nat_lit 0))), (nat_lit 0, (.ofNat (nat_lit 18)))]), (nat_lit 5, nat_lit 0, [(nat_lit 0, (.ofNat (nat_lit 0))), (nat_lit 0, (.ofNat (nat_lit 13))), (nat_lit 2, (.ofNat (nat_lit 0)))]), (nat_lit 4, nat_lit 0, [(nat_lit 0, (.ofNat (nat_lit 0))), (nat_lit 0, (.ofNat (nat_lit 17)))]), (nat_lit 5, nat_lit 0, [(nat_lit 0, (.ofNat (nat_lit 0))), (nat_lit 0, (.ofNat (nat_lit 12))), (nat_lit 1, (.ofNat (nat_lit 0)))]), (nat_lit 4, nat_lit 0, [(nat_lit 0, (.ofNat (nat_lit 0))), (nat_lit 0, (.ofNat (nat_lit 16)))])],
  [(nat_lit 13, nat_lit 8, []), (nat_lit 8, nat_lit 7, []), (nat_lit 8, nat_lit 6, []), (nat_lit 8, nat_lit 5, []), (nat_lit 8, nat_lit 4, []), (nat_lit 8, nat_lit 3, []), (nat_lit 8, nat_lit 2, []), (nat_lit 8, nat_lit 1, []), (nat_lit 8, nat_lit 11, []), (nat_lit 8, nat_lit 10, []), (nat_lit 8, nat_lit 0, []), (nat_lit 5, nat_lit 0, [(nat_lit 0, (.ofNat (nat_lit 0))), (nat_lit 0, (.ofNat (nat_lit 15))), (nat_lit 4, (.ofNat (nat_lit 0)))]), (nat_lit 4, nat_lit 0, [(nat_lit 0, (.ofNat (nat_lit 0))), (nat_lit 0, (.ofNat (nat_lit 19)))]), (nat_lit 5, nat_lit 0, [(nat_lit 0, (.ofNat (nat_lit 0))), (nat_lit 0, (.ofNat (nat_lit 14))), (nat_lit 3, (.ofNat (nat_lit 0)))]), (nat_lit 4, nat_lit 0, [(nat_lit 0, (.ofNat (nat_lit 0))), (nat_lit 0, (.ofNat (nat_lit 18)))]), (nat_lit 5, nat_lit 0, [(nat_lit 0, (.ofNat (nat_lit 0))), (nat_lit 0, (.ofNat (nat_lit 13))), (nat_lit 2, (.ofNat (nat_lit 0)))]), (nat_lit 4, nat_lit 0, [(nat_lit 0, (.ofNat (nat_lit 0))), (nat_lit 0, (.ofNat (nat_lit 17)))]), (nat_lit 5, nat_lit 0, [(nat_lit 0, (.ofNat (nat_lit 0))), (nat_lit 0, (.ofNat (nat_lit 12))), (nat_lit 1, (.ofNat (nat_lit 0)))]), (nat_lit 4, nat_lit 0, [(nat_lit 0, (.ofNat (nat_lit 0))), (nat_lit 0, (.ofNat (nat_lit 16)))])],
  [(nat_lit 13, nat_lit 9, []), (nat_lit 8, nat_lit 8, []), (nat_lit 8, nat_lit 7, []), (nat_lit 8, nat_lit 6, []), (nat_lit 8, nat_lit 5, []), (nat_lit 8, nat_lit 4, []), (nat_lit 8, nat_lit 3, []), (nat_lit 8, nat_lit 2, []), (nat_lit 8, nat_lit 1, []), (nat_lit 8, nat_lit 11, []), (nat_lit 8, nat_lit 10, []), (nat_lit 8, nat_lit 0, []), (nat_lit 5, nat_lit 0, [(nat_lit 0, (.ofNat (nat_lit 0))), (nat_lit 0, (.ofNat (nat_lit 15))), (nat_lit 4, (.ofNat (nat_lit 0)))]), (nat_lit 4, nat_lit 0, [(nat_lit 0, (.ofNat (nat_lit 0))), (nat_lit 0, (.ofNat (nat_lit 19)))]), (nat_lit 5, nat_lit 0, [(nat_lit 0, (.ofNat (nat_lit 0))), (nat_lit 0, (.ofNat (nat_lit 14))), (nat_lit 3, (.ofNat (nat_lit 0)))]), (nat_lit 4, nat_lit 0, [(nat_lit 0, (.ofNat (nat_lit 0))), (nat_lit 0, (.ofNat (nat_lit 18)))]), (nat_lit 5, nat_lit 0, [(nat_lit 0, (.ofNat (nat_lit 0))), (nat_lit 0, (.ofNat (nat_lit 13))), (nat_lit 2, (.ofNat (nat_lit 0)))]), (nat_lit 4, nat_lit 0, [(nat_lit 0, (.ofNat (nat_lit 0))), (nat_lit 0, (.ofNat (nat_lit 17)))]), (nat_lit 5, nat_lit 0, [(nat_lit 0, (.ofNat (nat_lit 0))), (nat_lit 0, (.ofNat (nat_lit 12))), (nat_lit 1, (.ofNat (nat_lit 0)))]), (nat_lit 4, nat_lit 0, [(nat_lit 0, (.ofNat (nat_lit 0))), (nat_lit 0, (.ofNat (nat_lit 16)))])],
  [(nat_lit 13, nat_lit 12, []), (nat_lit 6, nat_lit 3, [(nat_lit 25, (.ofNat (nat_lit 0))), (nat_lit 0, (.ofNat (nat_lit 3)))]), (nat_lit 0, nat_lit 1, [(nat_lit 22, (.ofNat (nat_lit 0))), (nat_lit 0, (.ofNat (nat_lit 1)))]), (nat_lit 5, nat_lit 1, [(nat_lit 16, (.ofNat (nat_lit 0))), (nat_lit 22, (.ofNat (nat_lit 0))), (nat_lit 24, (.ofNat (nat_lit 0)))]), (nat_lit 4, nat_lit 1, [(nat_lit 16, (.ofNat (nat_lit 0))), (nat_lit 23, (.ofNat (nat_lit 0)))]), (nat_lit 0, nat_lit 1, [(nat_lit 0, (.ofNat (nat_lit 3))), (nat_lit 22, (.ofNat (nat_lit 0)))]), (nat_lit 6, nat_lit 2, [(nat_lit 22, (.ofNat (nat_lit 0))), (nat_lit 0, (.ofNat (nat_lit 3)))]), (nat_lit 0, nat_lit 1, [(nat_lit 19, (.ofNat (nat_lit 0))), (nat_lit 0, (.ofNat (nat_lit 1)))]), (nat_lit 5, nat_lit 1, [(nat_lit 16, (.ofNat (nat_lit 0))), (nat_lit 19, (.ofNat (nat_lit 0))), (nat_lit 21, (.ofNat (nat_lit 0)))]), (nat_lit 4, nat_lit 1, [(nat_lit 16, (.ofNat (nat_lit 0))), (nat_lit 20, (.ofNat (nat_lit 0)))]), (nat_lit 0, nat_lit 1, [(nat_lit 0, (.ofNat (nat_lit 3))), (nat_lit 19, (.ofNat (nat_lit 0)))]), (nat_lit 6, nat_lit 2, [(nat_lit 19, (.ofNat (nat_lit 0))), (nat_lit 0, (.ofNat (nat_lit 3)))]), (nat_lit 0, nat_lit 1, [(nat_lit 0, (.ofNat (nat_lit 0))), (nat_lit 0, (.ofNat (nat_lit 1)))]), (nat_lit 5, nat_lit 1, [(nat_lit 16, (.ofNat (nat_lit 0))), (nat_lit 0, (.ofNat (nat_lit 0))), (nat_lit 18, (.ofNat (nat_lit 0)))]), (nat_lit 4, nat_lit 1, [(nat_lit 16, (.ofNat (nat_lit 0))), (nat_lit 17, (.ofNat (nat_lit 0)))]), (nat_lit 0, nat_lit 1, [(nat_lit 0, (.ofNat (nat_lit 3))), (nat_lit 0, (.ofNat (nat_lit 0)))]), (nat_lit 6, nat_lit 2, [(nat_lit 0, (.ofNat (nat_lit 0))), (nat_lit 0, (.ofNat (nat_lit 3)))]), (nat_lit 8, nat_lit 9, []), (nat_lit 8, nat_lit 8, []), (nat_lit 8, nat_lit 7, []), (nat_lit 8, nat_lit 6, []), (nat_lit 8, nat_lit 5, []), (nat_lit 8, nat_lit 4, []), (nat_lit 8, nat_lit 3, []), (nat_lit 8, nat_lit 2, []), (nat_lit 8, nat_lit 1, []), (nat_lit 8, nat_lit 11, []), (nat_lit 8, nat_lit 10, []), (nat_lit 8, nat_lit 0, []), (nat_lit 5, nat_lit 0, [(nat_lit 0, (.ofNat (nat_lit 0))), (nat_lit 0, (.ofNat (nat_lit 15))), (nat_lit 4, (.ofNat (nat_lit 0)))]), (nat_lit 4, nat_lit 0, [(nat_lit 0, (.ofNat (nat_lit 0))), (nat_lit 0, (.ofNat (nat_lit 19)))]), (nat_lit 5, nat_lit 0, [(nat_lit 0, (.ofNat (nat_lit 0))), (nat_lit 0, (.ofNat (nat_lit 14))), (nat_lit 3, (.ofNat (nat_lit 0)))]), (nat_lit 4, nat_lit 0, [(nat_lit 0, (.ofNat (nat_lit 0))), (nat_lit 0, (.ofNat (nat_lit 18)))]), (nat_lit 5, nat_lit 0, [(nat_lit 0, (.ofNat (nat_lit 0))), (nat_lit 0, (.ofNat (nat_lit 13))), (nat_lit 2, (.ofNat (nat_lit 0)))]), (nat_lit 4, nat_lit 0, [(nat_lit 0, (.ofNat (nat_lit 0))), (nat_lit 0, (.ofNat (nat_lit 17)))]), (nat_lit 5, nat_lit 0, [(nat_lit 0, (.ofNat (nat_lit 0))), (nat_lit 0, (.ofNat (nat_lit 12))), (nat_lit 1, (.ofNat (nat_lit 0)))]), (nat_lit 4, nat_lit 0, [(nat_lit 0, (.ofNat (nat_lit 0))), (nat_lit 0, (.ofNat (nat_lit 16)))])],
  [(nat_lit 13, nat_lit 13, []), (nat_lit 8, nat_lit 12, []), (nat_lit 6, nat_lit 3, [(nat_lit 25, (.ofNat (nat_lit 0))), (nat_lit 0, (.ofNat (nat_lit 3)))]), (nat_lit 0, nat_lit 1, [(nat_lit 22, (.ofNat (nat_lit 0))), (nat_lit 0, (.ofNat (nat_lit 1)))]), (nat_lit 5, nat_lit 1, [(nat_lit 16, (.ofNat (nat_lit 0))), (nat_lit 22, (.ofNat (nat_lit 0))), (nat_lit 24, (.ofNat (nat_lit 0)))]), (nat_lit 4, nat_lit 1, [(nat_lit 16, (.ofNat (nat_lit 0))), (nat_lit 23, (.ofNat (nat_lit 0)))]), (nat_lit 0, nat_lit 1, [(nat_lit 0, (.ofNat (nat_lit 3))), (nat_lit 22, (.ofNat (nat_lit 0)))]), (nat_lit 6, nat_lit 2, [(nat_lit 22, (.ofNat (nat_lit 0))), (nat_lit 0, (.ofNat (nat_lit 3)))]), (nat_lit 0, nat_lit 1, [(nat_lit 19, (.ofNat (nat_lit 0))), (nat_lit 0, (.ofNat (nat_lit 1)))]), (nat_lit 5, nat_lit 1, [(nat_lit 16, (.ofNat (nat_lit 0))), (nat_lit 19, (.ofNat (nat_lit 0))), (nat_lit 21, (.ofNat (nat_lit 0)))]), (nat_lit 4, nat_lit 1, [(nat_lit 16, (.ofNat (nat_lit 0))), (nat_lit 20, (.ofNat (nat_lit 0)))]), (nat_lit 0, nat_lit 1, [(nat_lit 0, (.ofNat (nat_lit 3))), (nat_lit 19, (.ofNat (nat_lit 0)))]), (nat_lit 6, nat_lit 2, [(nat_lit 19, (.ofNat (nat_lit 0))), (nat_lit 0, (.ofNat (nat_lit 3)))]), (nat_lit 0, nat_lit 1, [(nat_lit 0, (.ofNat (nat_lit 0))), (nat_lit 0, (.ofNat (nat_lit 1)))]), (nat_lit 5, nat_lit 1, [(nat_lit 16, (.ofNat (nat_lit 0))), (nat_lit 0, (.ofNat (nat_lit 0))), (nat_lit 18, (.ofNat (nat_lit 0)))]), (nat_lit 4, nat_lit 1, [(nat_lit 16, (.ofNat (nat_lit 0))), (nat_lit 17, (.ofNat (nat_lit 0)))]), (nat_lit 0, nat_lit 1, [(nat_lit 0, (.ofNat (nat_lit 3))), (nat_lit 0, (.ofNat (nat_lit 0)))]), (nat_lit 6, nat_lit 2, [(nat_lit 0, (.ofNat (nat_lit 0))), (nat_lit 0, (.ofNat (nat_lit 3)))]), (nat_lit 8, nat_lit 9, []), (nat_lit 8, nat_lit 8, []), (nat_lit 8, nat_lit 7, []), (nat_lit 8, nat_lit 6, []), (nat_lit 8, nat_lit 5, []), (nat_lit 8, nat_lit 4, []), (nat_lit 8, nat_lit 3, []), (nat_lit 8, nat_lit 2, []), (nat_lit 8, nat_lit 1, []), (nat_lit 8, nat_lit 11, []), (nat_lit 8, nat_lit 10, []), (nat_lit 8, nat_lit 0, []), (nat_lit 5, nat_lit 0, [(nat_lit 0, (.ofNat (nat_lit 0))), (nat_lit 0, (.ofNat (nat_lit 15))), (nat_lit 4, (.ofNat (nat_lit 0)))]), (nat_lit 4, nat_lit 0, [(nat_lit 0, (.ofNat (nat_lit 0))), (nat_lit 0, (.ofNat (nat_lit 19)))]), (nat_lit 5, nat_lit 0, [(nat_lit 0, (.ofNat (nat_lit 0))), (nat_lit 0, (.ofNat (nat_lit 14))), (nat_lit 3, (.ofNat (nat_lit 0)))]), (nat_lit 4, nat_lit 0, [(nat_lit 0, (.ofNat (nat_lit 0))), (nat_lit 0, (.ofNat (nat_lit 18)))]), (nat_lit 5, nat_lit 0, [(nat_lit 0, (.ofNat (nat_lit 0))), (nat_lit 0, (.ofNat (nat_lit 13))), (nat_lit 2, (.ofNat (nat_lit 0)))]), (nat_lit 4, nat_lit 0, [(nat_lit 0, (.ofNat (nat_lit 0))), (nat_lit 0, (.ofNat (nat_lit 17)))]), (nat_lit 5, nat_lit 0, [(nat_lit 0, (.ofNat (nat_lit 0))), (nat_lit 0, (.ofNat (nat_lit 12))), (nat_lit 1, (.ofNat (nat_lit 0)))]), (nat_lit 4, nat_lit 0, [(nat_lit 0, (.ofNat (nat_lit 0))), (nat_lit 0, (.ofNat (nat_lit 16)))])],
  [(nat_lit 13, nat_lit 14, []), (nat_lit 8, nat_lit 13, []), (nat_lit 8, nat_lit 12, []), (nat_lit 6, nat_lit 3, [(nat_lit 25, (.ofNat (nat_lit 0))), (nat_lit 0, (.ofNat (nat_lit 3)))]), (nat_lit 0, nat_lit 1, [(nat_lit 22, (.ofNat (nat_lit 0))), (nat_lit 0, (.ofNat (nat_lit 1)))]), (nat_lit 5, nat_lit 1, [(nat_lit 16, (.ofNat (nat_lit 0))), (nat_lit 22, (.ofNat (nat_lit 0))), (nat_lit 24, (.ofNat (nat_lit 0)))]), (nat_lit 4, nat_lit 1, [(nat_lit 16, (.ofNat (nat_lit 0))), (nat_lit 23, (.ofNat (nat_lit 0)))]), (nat_lit 0, nat_lit 1, [(nat_lit 0, (.ofNat (nat_lit 3))), (nat_lit 22, (.ofNat (nat_lit 0)))]), (nat_lit 6, nat_lit 2, [(nat_lit 22, (.ofNat (nat_lit 0))), (nat_lit 0, (.ofNat (nat_lit 3)))]), (nat_lit 0, nat_lit 1, [(nat_lit 19, (.ofNat (nat_lit 0))), (nat_lit 0, (.ofNat (nat_lit 1)))]), (nat_lit 5, nat_lit 1, [(nat_lit 16, (.ofNat (nat_lit 0))), (nat_lit 19, (.ofNat (nat_lit 0))), (nat_lit 21, (.ofNat (nat_lit 0)))]), (nat_lit 4, nat_lit 1, [(nat_lit 16, (.ofNat (nat_lit 0))), (nat_lit 20, (.ofNat (nat_lit 0)))]), (nat_lit 0, nat_lit 1, [(nat_lit 0, (.ofNat (nat_lit 3))), (nat_lit 19, (.ofNat (nat_lit 0)))]), (nat_lit 6, nat_lit 2, [(nat_lit 19, (.ofNat (nat_lit 0))), (nat_lit 0, (.ofNat (nat_lit 3)))]), (nat_lit 0, nat_lit 1, [(nat_lit 0, (.ofNat (nat_lit 0))), (nat_lit 0, (.ofNat (nat_lit 1)))]), (nat_lit 5, nat_lit 1, [(nat_lit 16, (.ofNat (nat_lit 0))), (nat_lit 0, (.ofNat (nat_lit 0))), (nat_lit 18, (.ofNat (nat_lit 0)))]), (nat_lit 4, nat_lit 1, [(nat_lit 16, (.ofNat (nat_lit 0))), (nat_lit 17, (.ofNat (nat_lit 0)))]), (nat_lit 0, nat_lit 1, [(nat_lit 0, (.ofNat (nat_lit 3))), (nat_lit 0, (.ofNat (nat_lit 0)))]), (nat_lit 6, nat_lit 2, [(nat_lit 0, (.ofNat (nat_lit 0))), (nat_lit 0, (.ofNat (nat_lit 3)))]), (nat_lit 8, nat_lit 9, []), (nat_lit 8, nat_lit 8, []), (nat_lit 8, nat_lit 7, []), (nat_lit 8, nat_lit 6, []), (nat_lit 8, nat_lit 5, []), (nat_lit 8, nat_lit 4, []), (nat_lit 8, nat_lit 3, []), (nat_lit 8, nat_lit 2, []), (nat_lit 8, nat_lit 1, []), (nat_lit 8, nat_lit 11, []), (nat_lit 8, nat_lit 10, []), (nat_lit 8, nat_lit 0, []), (nat_lit 5, nat_lit 0, [(nat_lit 0, (.ofNat (nat_lit 0))), (nat_lit 0, (.ofNat (nat_lit 15))), (nat_lit 4, (.ofNat (nat_lit 0)))]), (nat_lit 4, nat_lit 0, [(nat_lit 0, (.ofNat (nat_lit 0))), (nat_lit 0, (.ofNat (nat_lit 19)))]), (nat_lit 5, nat_lit 0, [(nat_lit 0, (.ofNat (nat_lit 0))), (nat_lit 0, (.ofNat (nat_lit 14))), (nat_lit 3, (.ofNat (nat_lit 0)))]), (nat_lit 4, nat_lit 0, [(nat_lit 0, (.ofNat (nat_lit 0))), (nat_lit 0, (.ofNat (nat_lit 18)))]), (nat_lit 5, nat_lit 0, [(nat_lit 0, (.ofNat (nat_lit 0))), (nat_lit 0, (.ofNat (nat_lit 13))), (nat_lit 2, (.ofNat (nat_lit 0)))]), (nat_lit 4, nat_lit 0, [(nat_lit 0, (.ofNat (nat_lit 0))), (nat_lit 0, (.ofNat (nat_lit 17)))]), (nat_lit 5, nat_lit 0, [(nat_lit 0, (.ofNat (nat_lit 0))), (nat_lit 0, (.ofNat (nat_lit 12))), (nat_lit 1, (.ofNat (nat_lit 0)))]), (nat_lit 4, nat_lit 0, [(nat_lit 0, (.ofNat (nat_lit 0))), (nat_lit 0, (.ofNat (nat_lit 16)))])],
  [(nat_lit 13, nat_lit 15, []), (nat_lit 8, nat_lit 14, []), (nat_lit 8, nat_lit 13, []), (nat_lit 8, nat_lit 12, []), (nat_lit 6, nat_lit 3, [(nat_lit 25, (.ofNat (nat_lit 0))), (nat_lit 0, (.ofNat (nat_lit 3)))]), (nat_lit 0, nat_lit 1, [(nat_lit 22, (.ofNat (nat_lit 0))), (nat_lit 0, (.ofNat (nat_lit 1)))]), (nat_lit 5, nat_lit 1, [(nat_lit 16, (.ofNat (nat_lit 0))), (nat_lit 22, (.ofNat (nat_lit 0))), (nat_lit 24, (.ofNat (nat_lit 0)))]), (nat_lit 4, nat_lit 1, [(nat_lit 16, (.ofNat (nat_lit 0))), (nat_lit 23, (.ofNat (nat_lit 0)))]), (nat_lit 0, nat_lit 1, [(nat_lit 0, (.ofNat (nat_lit 3))), (nat_lit 22, (.ofNat (nat_lit 0)))]), (nat_lit 6, nat_lit 2, [(nat_lit 22, (.ofNat (nat_lit 0))), (nat_lit 0, (.ofNat (nat_lit 3)))]), (nat_lit 0, nat_lit 1, [(nat_lit 19, (.ofNat (nat_lit 0))), (nat_lit 0, (.ofNat (nat_lit 1)))]), (nat_lit 5, nat_lit 1, [(nat_lit 16, (.ofNat (nat_lit 0))), (nat_lit 19, (.ofNat (nat_lit 0))), (nat_lit 21, (.ofNat (nat_lit 0)))]), (nat_lit 4, nat_lit 1, [(nat_lit 16, (.ofNat (nat_lit 0))), (nat_lit 20, (.ofNat (nat_lit 0)))]), (nat_lit 0, nat_lit 1, [(nat_lit 0, (.ofNat (nat_lit 3))), (nat_lit 19, (.ofNat (nat_lit 0)))]), (nat_lit 6, nat_lit 2, [(nat_lit 19, (.ofNat (nat_lit 0))), (nat_lit 0, (.ofNat (nat_lit 3)))]), (nat_lit 0, nat_lit 1, [(nat_lit 0, (.ofNat (nat_lit 0))), (nat_lit 0, (.ofNat (nat_lit 1)))]), (nat_lit 5, nat_lit 1, [(nat_lit 16, (.ofNat (nat_lit 0))), (nat_lit 0, (.ofNat (nat_lit 0))), (nat_lit 18, (.ofNat (nat_lit 0)))]), (nat_lit 4, nat_lit 1, [(nat_lit 16, (.ofNat (nat_lit 0))), (nat_lit 17, (.ofNat (nat_lit 0)))]), (nat_lit 0, nat_lit 1, [(nat_lit 0, (.ofNat (nat_lit 3))), (nat_lit 0, (.ofNat (nat_lit 0)))]), (nat_lit 6, nat_lit 2, [(nat_lit 0, (.ofNat (nat_lit 0))), (nat_lit 0, (.ofNat (nat_lit 3)))]), (nat_lit 8, nat_lit 9, []), (nat_lit 8, nat_lit 8, []), (nat_lit 8, nat_lit 7, []), (nat_lit 8, nat_lit 6, []), (nat_lit 8, nat_lit 5, []), (nat_lit 8, nat_lit 4, []), (nat_lit 8, nat_lit 3, []), (nat_lit 8, nat_lit 2, []), (nat_lit 8, nat_lit 1, []), (nat_lit 8, nat_lit 11, []), (nat_lit 8, nat_lit 10, []), (nat_lit 8, nat_lit 0, []), (nat_lit 5, nat_lit 0, [(nat_lit 0, (.ofNat (nat_lit 0))), (nat_lit 0, (.ofNat (nat_lit 15))), (nat_lit 4, (.ofNat (nat_lit 0)))]), (nat_lit 4, nat_lit 0, [(nat_lit 0, (.ofNat (nat_lit 0))), (nat_lit 0, (.ofNat (nat_lit 19)))]), (nat_lit 5, nat_lit 0, [(nat_lit 0, (.ofNat (nat_lit 0))), (nat_lit 0, (.ofNat (nat_lit 14))), (nat_lit 3, (.ofNat (nat_lit 0)))]), (nat_lit 4, nat_lit 0, [(nat_lit 0, (.ofNat (nat_lit 0))), (nat_lit 0, (.ofNat (nat_lit 18)))]), (nat_lit 5, nat_lit 0, [(nat_lit 0, (.ofNat (nat_lit 0))), (nat_lit 0, (.ofNat (nat_lit 13))), (nat_lit 2, (.ofNat (nat_lit 0)))]), (nat_lit 4, nat_lit 0, [(nat_lit 0, (.ofNat (nat_lit 0))), (nat_lit 0, (.ofNat (nat_lit 17)))]), (nat_lit 5, nat_lit 0, [(nat_lit 0, (.ofNat (nat_lit 0))), (nat_lit 0, (.ofNat (nat_lit 12))), (nat_lit 1, (.ofNat (nat_lit 0)))]), (nat_lit 4, nat_lit 0, [(nat_lit 0, (.ofNat (nat_lit 0))), (nat_lit 0, (.ofNat (nat_lit 16)))])],
  [(nat_lit 13, nat_lit 16, []), (nat_lit 8, nat_lit 15, []), (nat_lit 8, nat_lit 14, []), (nat_lit 8, nat_lit 13, []), (nat_lit 8, nat_lit 12, []), (nat_lit 6, nat_lit 3, [(nat_lit 25, (.ofNat (nat_lit 0))), (nat_lit 0, (.ofNat (nat_lit 3)))]), (nat_lit 0, nat_lit 1, [(nat_lit 22, (.ofNat (nat_lit 0))), (nat_lit 0, (.ofNat (nat_lit 1)))]), (nat_lit 5, nat_lit 1, [(nat_lit 16, (.ofNat (nat_lit 0))), (nat_lit 22, (.ofNat (nat_lit 0))), (nat_lit 24, (.ofNat (nat_lit 0)))]), (nat_lit 4, nat_lit 1, [(nat_lit 16, (.ofNat (nat_lit 0))), (nat_lit 23, (.ofNat (nat_lit 0)))]), (nat_lit 0, nat_lit 1, [(nat_lit 0, (.ofNat (nat_lit 3))), (nat_lit 22, (.ofNat (nat_lit 0)))]), (nat_lit 6, nat_lit 2, [(nat_lit 22, (.ofNat (nat_lit 0))), (nat_lit 0, (.ofNat (nat_lit 3)))]), (nat_lit 0, nat_lit 1, [(nat_lit 19, (.ofNat (nat_lit 0))), (nat_lit 0, (.ofNat (nat_lit 1)))]), (nat_lit 5, nat_lit 1, [(nat_lit 16, (.ofNat (nat_lit 0))), (nat_lit 19, (.ofNat (nat_lit 0))), (nat_lit 21, (.ofNat (nat_lit 0)))]), (nat_lit 4, nat_lit 1, [(nat_lit 16, (.ofNat (nat_lit 0))), (nat_lit 20, (.ofNat (nat_lit 0)))]), (nat_lit 0, nat_lit 1, [(nat_lit 0, (.ofNat (nat_lit 3))), (nat_lit 19, (.ofNat (nat_lit 0)))]), (nat_lit 6, nat_lit 2, [(nat_lit 19, (.ofNat (nat_lit 0))), (nat_lit 0, (.ofNat (nat_lit 3)))]), (nat_lit 0, nat_lit 1, [(nat_lit 0, (.ofNat (nat_lit 0))), (nat_lit 0, (.ofNat (nat_lit 1)))]), (nat_lit 5, nat_lit 1, [(nat_lit 16, (.ofNat (nat_lit 0))), (nat_lit 0, (.ofNat (nat_lit 0))), (nat_lit 18, (.ofNat (nat_lit 0)))]), (nat_lit 4, nat_lit 1, [(nat_lit 16, (.ofNat (nat_lit 0))), (nat_lit 17, (.ofNat (nat_lit 0)))]), (nat_lit 0, nat_lit 1, [(nat_lit 0, (.ofNat (nat_lit 3))), (nat_lit 0, (.ofNat (nat_lit 0)))]), (nat_lit 6, nat_lit 2, [(nat_lit 0, (.ofNat (nat_lit 0))), (nat_lit 0, (.ofNat (nat_lit 3)))]), (nat_lit 8, nat_lit 9, []), (nat_lit 8, nat_lit 8, []), (nat_lit 8, nat_lit 7, []), (nat_lit 8, nat_lit 6, []), (nat_lit 8, nat_lit 5, []), (nat_lit 8, nat_lit 4, []), (nat_lit 8, nat_lit 3, []), (nat_lit 8, nat_lit 2, []), (nat_lit 8, nat_lit 1, []), (nat_lit 8, nat_lit 11, []), (nat_lit 8, nat_lit 10, []), (nat_lit 8, nat_lit 0, []), (nat_lit 5, nat_lit 0, [(nat_lit 0, (.ofNat (nat_lit 0))), (nat_lit 0, (.ofNat (nat_lit 15))), (nat_lit 4, (.ofNat (nat_lit 0)))]), (nat_lit 4, nat_lit 0, [(nat_lit 0, (.ofNat (nat_lit 0))), (nat_lit 0, (.ofNat (nat_lit 19)))]), (nat_lit 5, nat_lit 0, [(nat_lit 0, (.ofNat (nat_lit 0))), (nat_lit 0, (.ofNat (nat_lit 14))), (nat_lit 3, (.ofNat (nat_lit 0)))]), (nat_lit 4, nat_lit 0, [(nat_lit 0, (.ofNat (nat_lit 0))), (nat_lit 0, (.ofNat (nat_lit 18)))]), (nat_lit 5, nat_lit 0, [(nat_lit 0, (.ofNat (nat_lit 0))), (nat_lit 0, (.ofNat (nat_lit 13))), (nat_lit 2, (.ofNat (nat_lit 0)))]), (nat_lit 4, nat_lit 0, [(nat_lit 0, (.ofNat (nat_lit 0))), (nat_lit 0, (.ofNat (nat_lit 17)))]), (nat_lit 5, nat_lit 0, [(nat_lit 0, (.ofNat (nat_lit 0))), (nat_lit 0, (.ofNat (nat_lit 12))), (nat_lit 1, (.ofNat (nat_lit 0)))]), (nat_lit 4, nat_lit 0, [(nat_lit 0, (.ofNat (nat_lit 0))), (nat_lit 0, (.ofNat (nat_lit 16)))])],
  [(nat_lit 13, nat_lit 17, []), (nat_lit 8, nat_lit 16, []), (nat_lit 8, nat_lit 15, []), (nat_lit 8, nat_lit 14, []), (nat_lit 8, nat_lit 13, []), (nat_lit 8, nat_lit 12, []), (nat_lit 6, nat_lit 3, [(nat_lit 25, (.ofNat (nat_lit 0))), (nat_lit 0, (.ofNat (nat_lit 3)))]), (nat_lit 0, nat_lit 1, [(nat_lit 22, (.ofNat (nat_lit 0))), (nat_lit 0, (.ofNat (nat_lit 1)))]), (nat_lit 5, nat_lit 1, [(nat_lit 16, (.ofNat (nat_lit 0))), (nat_lit 22, (.ofNat (nat_lit 0))), (nat_lit 24, (.ofNat (nat_lit 0)))]), (nat_lit 4, nat_lit 1, [(nat_lit 16, (.ofNat (nat_lit 0))), (nat_lit 23, (.ofNat (nat_lit 0)))]), (nat_lit 0, nat_lit 1, [(nat_lit 0, (.ofNat (nat_lit 3))), (nat_lit 22, (.ofNat (nat_lit 0)))]), (nat_lit 6, nat_lit 2, [(nat_lit 22, (.ofNat (nat_lit 0))), (nat_lit 0, (.ofNat (nat_lit 3)))]), (nat_lit 0, nat_lit 1, [(nat_lit 19, (.ofNat (nat_lit 0))), (nat_lit 0, (.ofNat (nat_lit 1)))]), (nat_lit 5, nat_lit 1, [(nat_lit 16, (.ofNat (nat_lit 0))), (nat_lit 19, (.ofNat (nat_lit 0))), (nat_lit 21, (.ofNat (nat_lit 0)))]), (nat_lit 4, nat_lit 1, [(nat_lit 16, (.ofNat (nat_lit 0))), (nat_lit 20, (.ofNat (nat_lit 0)))]), (nat_lit 0, nat_lit 1, [(nat_lit 0, (.ofNat (nat_lit 3))), (nat_lit 19, (.ofNat (nat_lit 0)))]), (nat_lit 6, nat_lit 2, [(nat_lit 19, (.ofNat (nat_lit 0))), (nat_lit 0, (.ofNat (nat_lit 3)))]), (nat_lit 0, nat_lit 1, [(nat_lit 0, (.ofNat (nat_lit 0))), (nat_lit 0, (.ofNat (nat_lit 1)))]), (nat_lit 5, nat_lit 1, [(nat_lit 16, (.ofNat (nat_lit 0))), (nat_lit 0, (.ofNat (nat_lit 0))), (nat_lit 18, (.ofNat (nat_lit 0)))]), (nat_lit 4, nat_lit 1, [(nat_lit 16, (.ofNat (nat_lit 0))), (nat_lit 17, (.ofNat (nat_lit 0)))]), (nat_lit 0, nat_lit 1, [(nat_lit 0, (.ofNat (nat_lit 3))), (nat_lit 0, (.ofNat (nat_lit 0)))]), (nat_lit 6, nat_lit 2, [(nat_lit 0, (.ofNat (nat_lit 0))), (nat_lit 0, (.ofNat (nat_lit 3)))]), (nat_lit 8, nat_lit 9, []), (nat_lit 8, nat_lit 8, []), (nat_lit 8, nat_lit 7, []), (nat_lit 8, nat_lit 6, []), (nat_lit 8, nat_lit 5, []), (nat_lit 8, nat_lit 4, []), (nat_lit 8, nat_lit 3, []), (nat_lit 8, nat_lit 2, []), (nat_lit 8, nat_lit 1, []), (nat_lit 8, nat_lit 11, []), (nat_lit 8, nat_lit 10, []), (nat_lit 8, nat_lit 0, []), (nat_lit 5, nat_lit 0, [(nat_lit 0, (.ofNat (nat_lit 0))), (nat_lit 0, (.ofNat (nat_lit 15))), (nat_lit 4, (.ofNat (nat_lit 0)))]), (nat_lit 4, nat_lit 0, [(nat_lit 0, (.ofNat (nat_lit 0))), (nat_lit 0, (.ofNat (nat_lit 19)))]), (nat_lit 5, nat_lit 0, [(nat_lit 0, (.ofNat (nat_lit 0))), (nat_lit 0, (.ofNat (nat_lit 14))), (nat_lit 3, (.ofNat (nat_lit 0)))]), (nat_lit 4, nat_lit 0, [(nat_lit 0, (.ofNat (nat_lit 0))), (nat_lit 0, (.ofNat (nat_lit 18)))]), (nat_lit 5, nat_lit 0, [(nat_lit 0, (.ofNat (nat_lit 0))), (nat_lit 0, (.ofNat (nat_lit 13))), (nat_lit 2, (.ofNat (nat_lit 0)))]), (nat_lit 4, nat_lit 0, [(nat_lit 0, (.ofNat (nat_lit 0))), (nat_lit 0, (.ofNat (nat_lit 17)))]), (nat_lit 5, nat_lit 0, [(nat_lit 0, (.ofNat (nat_lit 0))), (nat_lit 0, (.ofNat (nat_lit 12))), (nat_lit 1, (.ofNat (nat_lit 0)))]), (nat_lit 4, nat_lit 0, [(nat_lit 0, (.ofNat (nat_lit 0))), (nat_lit 0, (.ofNat (nat_lit 16)))])],
  [(nat_lit 11, nat_lit 0, [(nat_lit 0, (.ofNat (nat_lit 0)))]), (nat_lit 8, nat_lit 17, []), (nat_lit 8, nat_lit 16, []), (nat_lit 8, nat_lit 15, []), (nat_lit 8, nat_lit 14, []), (nat_lit 8, nat_lit 13, []), (nat_lit 8, nat_lit 12, []), (nat_lit 6, nat_lit 3, [(nat_lit 25, (.ofNat (nat_lit 0))), (nat_lit 0, (.ofNat (nat_lit 3)))]), (nat_lit 0, nat_lit 1, [(nat_lit 22, (.ofNat (nat_lit 0))), (nat_lit 0, (.ofNat (nat_lit 1)))]), (nat_lit 5, nat_lit 1, [(nat_lit 16, (.ofNat (nat_lit 0))), (nat_lit 22, (.ofNat (nat_lit 0))), (nat_lit 24, (.ofNat (nat_lit 0)))]), (nat_lit 4, nat_lit 1, [(nat_lit 16, (.ofNat (nat_lit 0))), (nat_lit 23, (.ofNat (nat_lit 0)))]), (nat_lit 0, nat_lit 1, [(nat_lit 0, (.ofNat (nat_lit 3))), (nat_lit 22, (.ofNat (nat_lit 0)))]), (nat_lit 6, nat_lit 2, [(nat_lit 22, (.ofNat (nat_lit 0))), (nat_lit 0, (.ofNat (nat_lit 3)))]), (nat_lit 0, nat_lit 1, [(nat_lit 19, (.ofNat (nat_lit 0))), (nat_lit 0, (.ofNat (nat_lit 1)))]), (nat_lit 5, nat_lit 1, [(nat_lit 16, (.ofNat (nat_lit 0))), (nat_lit 19, (.ofNat (nat_lit 0))), (nat_lit 21, (.ofNat (nat_lit 0)))]), (nat_lit 4, nat_lit 1, [(nat_lit 16, (.ofNat (nat_lit 0))), (nat_lit 20, (.ofNat (nat_lit 0)))]), (nat_lit 0, nat_lit 1, [(nat_lit 0, (.ofNat (nat_lit 3))), (nat_lit 19, (.ofNat (nat_lit 0)))]), (nat_lit 6, nat_lit 2, [(nat_lit 19, (.ofNat (nat_lit 0))), (nat_lit 0, (.ofNat (nat_lit 3)))]), (nat_lit 0, nat_lit 1, [(nat_lit 0, (.ofNat (nat_lit 0))), (nat_lit 0, (.ofNat (nat_lit 1)))]), (nat_lit 5, nat_lit 1, [(nat_lit 16, (.ofNat (nat_lit 0))), (nat_lit 0, (.ofNat (nat_lit 0))), (nat_lit 18, (.ofNat (nat_lit 0)))]), (nat_lit 4, nat_lit 1, [(nat_lit 16, (.ofNat (nat_lit 0))), (nat_lit 17, (.ofNat (nat_lit 0)))]), (nat_lit 0, nat_lit 1, [(nat_lit 0, (.ofNat (nat_lit 3))), (nat_lit 0, (.ofNat (nat_lit 0)))]), (nat_lit 6, nat_lit 2, [(nat_lit 0, (.ofNat (nat_lit 0))), (nat_lit 0, (.ofNat (nat_lit 3)))]), (nat_lit 8, nat_lit 9, []), (nat_lit 8, nat_lit 8, []), (nat_lit 8, nat_lit 7, []), (nat_lit 8, nat_lit 6, []), (nat_lit 8, nat_lit 5, []), (nat_lit 8, nat_lit 4, []), (nat_lit 8, nat_lit 3, []), (nat_lit 8, nat_lit 2, []), (nat_lit 8, nat_lit 1, []), (nat_lit 8, nat_lit 11, []), (nat_lit 8, nat_lit 10, []), (nat_lit 8, nat_lit 0, []), (nat_lit 5, nat_lit 0, [(nat_lit 0, (.ofNat (nat_lit 0))), (nat_lit 0, (.ofNat (nat_lit 15))), (nat_lit 4, (.ofNat (nat_lit 0)))]), (nat_lit 4, nat_lit 0, [(nat_lit 0, (.ofNat (nat_lit 0))), (nat_lit 0, (.ofNat (nat_lit 19)))]), (nat_lit 5, nat_lit 0, [(nat_lit 0, (.ofNat (nat_lit 0))), (nat_lit 0, (.ofNat (nat_lit 14))), (nat_lit 3, (.ofNat (nat_lit 0)))]), (nat_lit 4, nat_lit 0, [(nat_lit 0, (.ofNat (nat_lit 0))), (nat_lit 0, (.ofNat (nat_lit 18)))]), (nat_lit 5, nat_lit 0, [(nat_lit 0, (.ofNat (nat_lit 0))), (nat_lit 0, (.ofNat (nat_lit 13))), (nat_lit 2, (.ofNat (nat_lit 0)))]), (nat_lit 4, nat_lit 0, [(nat_lit 0, (.ofNat (nat_lit 0))), (nat_lit 0, (.ofNat (nat_lit 17)))]), (nat_lit 5, nat_lit 0, [(nat_lit 0, (.ofNat (nat_lit 0))), (nat_lit 0, (.ofNat (nat_lit 12))), (nat_lit 1, (.ofNat (nat_lit 0)))]), (nat_lit 4, nat_lit 0, [(nat_lit 0, (.ofNat (nat_lit 0))), (nat_lit 0, (.ofNat (nat_lit 16)))])]]
def zFne_keepText : List (List zK) := []
