def zPqe_readSign : zPq := ([], [])
def zOqe_readSign : zPo := (((.ofNat (nat_lit 0)), (.ofNat (nat_lit 1))), [], [])
def zMqe_readSign : List zCe := [(nat_lit 60, nat_lit 7), (nat_lit 60, nat_lit 9), (nat_lit 60, nat_lit 6), (nat_lit 60, nat_lit 8), (nat_lit 60, nat_lit 1), (nat_lit 60, nat_lit 2), (nat_lit 60, nat_lit 13), (nat_lit 60, nat_lit 14), (nat_lit 63, nat_lit 0), (nat_lit 47, nat_lit 0), (nat_lit 48, nat_lit 0)]
def oPqe_readSign : List Int → zE → Prop := fun _ η => G_q η ∧ η 60 0 = 0
def pPqe_readSign : List Int → zE → Prop := fun xs η => oPqe_readSign xs η ∧ yp_wk η
def oQqe_readSign : List Int → zE → Int → zE → Prop := (fun _ _ _ η' => G_qe η')
def fQqe_readSign : List Int → zE → Int → zE → Prop := fun xs η y η' => y = (yp_sgw η) ∧ η' = (yp_sgn η)
def pQqe_readSign : List Int → zE → Int → zE → Prop := fun xs η y η' => oQqe_readSign xs η y η' ∧ fQqe_readSign xs η y η'
def pCqe_readSign : Nat → List Int → zE → Prop := fun c => match c with
  | 0 => pPqe_flaw
  | 1 => pPqe_next
  | 2 => pPqe_tie
  | 3 => pPqe_push
  | 4 => pPqe_unwind
  | 5 => pPqe_waitingRank
  | _ => fun _ _ => True
def qCqe_readSign : Nat → List Int → zE → Int → zE → Prop := fun c => match c with
  | 0 => pQqe_flaw
  | 1 => pQqe_next
  | 2 => pQqe_tie
  | 3 => pQqe_push
  | 4 => pQqe_unwind
  | 5 => pQqe_waitingRank
  | _ => fun _ _ _ _ => True
def iCqe_readSign : List Int → zE → Nat → List Int → zE → Prop := fun xs η0 c => match c with
  | _ => fun _ _ => True
def zVqe_readSign : List zIv := []
def zDqe_readSign : List (List zK) := [[(nat_lit 7, nat_lit 2, [(nat_lit 0, (.ofNat (nat_lit 0)))]), (nat_lit 8, nat_lit 0, [(nat_lit 0, (.ofNat (nat_lit 1))), (nat_lit 3, (.ofNat (nat_lit 0)))]), (nat_lit 4, nat_lit 0, [(nat_lit 60, (.ofNat (nat_lit 0))), (nat_lit 0, (.ofNat (nat_lit 7)))]), (nat_lit 6, nat_lit 2, [(nat_lit 2, (.ofNat (nat_lit 0))), (nat_lit 0, (.ofNat (nat_lit 1)))]), (nat_lit 4, nat_lit 0, [(nat_lit 60, (.ofNat (nat_lit 0))), (nat_lit 0, (.ofNat (nat_lit 6)))]), (nat_lit 6, nat_lit 1, [(nat_lit 1, (.ofNat (nat_lit 0))), (nat_lit 0, (.ofNat (nat_lit 14)))]), (nat_lit 4, nat_lit 0, [(nat_lit 60, (.ofNat (nat_lit 0))), (nat_lit 0, (.ofNat (nat_lit 6)))])],
  [(nat_lit 7, nat_lit 2, [(nat_lit 0, (.ofNat (nat_lit 0)))]), (nat_lit 8, nat_lit 0, [(nat_lit 0, (.ofNat (nat_lit 1))), (nat_lit 4, (.ofNat (nat_lit 0)))]), (nat_lit 4, nat_lit 0, [(nat_lit 60, (.ofNat (nat_lit 0))), (nat_lit 0, (.ofNat (nat_lit 7)))]), (nat_lit 6, nat_lit 4, [(nat_lit 3, (.ofNat (nat_lit 0))), (nat_lit 0, (.ofNat (nat_lit 13)))]), (nat_lit 4, nat_lit 0, [(nat_lit 60, (.ofNat (nat_lit 0))), (nat_lit 0, (.ofNat (nat_lit 6)))]), (nat_lit 6, nat_lit 3, [(nat_lit 2, (.ofNat (nat_lit 0))), (nat_lit 0, (.ofNat (nat_lit 1)))]), (nat_lit 4, nat_lit 0, [(nat_lit 60, (.ofNat (nat_lit 0))), (nat_lit 0, (.ofNat (nat_lit 6)))]), (nat_lit 6, nat_lit 1, [(nat_lit 1, (.ofNat (nat_lit 0))), (nat_lit 0, (.ofNat (nat_lit 14)))]), (nat_lit 4, nat_lit 0, [(nat_lit 60, (.ofNat (nat_lit 0))), (nat_lit 0, (.ofNat (nat_lit 6)))])],
  [(nat_lit 7, nat_lit 2, [(nat_lit 0, (.ofNat (nat_lit 1)))]), (nat_lit 8, nat_lit 1, []), (nat_lit 8, nat_lit 3, [(nat_lit 9, (.ofNat (nat_lit 0)))]), (nat_lit 4, nat_lit 0, [(nat_lit 60, (.ofNat (nat_lit 0))), (nat_lit 0, (.ofNat (nat_lit 6)))]), (nat_lit 8, nat_lit 2, []), (nat_lit 8, nat_lit 4, [(nat_lit 6, (.ofNat (nat_lit 0)))]), (nat_lit 6, nat_lit 1, [(nat_lit 6, (.ofNat (nat_lit 0))), (nat_lit 0, (.ofNat (nat_lit 4)))]), (nat_lit 9, nat_lit 0, [(nat_lit 5, (.ofNat (nat_lit 0))), (nat_lit 2, (.ofNat (nat_lit 0)))]), (nat_lit 4, nat_lit 0, [(nat_lit 60, (.ofNat (nat_lit 0))), (nat_lit 0, (.ofNat (nat_lit 6)))]), (nat_lit 6, nat_lit 1, [(nat_lit 4, (.ofNat (nat_lit 0))), (nat_lit 0, (.ofNat (nat_lit 3)))]), (nat_lit 4, nat_lit 0, [(nat_lit 60, (.ofNat (nat_lit 0))), (nat_lit 0, (.ofNat (nat_lit 6)))]), (nat_lit 6, nat_lit 5, [(nat_lit 3, (.ofNat (nat_lit 0))), (nat_lit 0, (.ofNat (nat_lit 13)))]), (nat_lit 4, nat_lit 0, [(nat_lit 60, (.ofNat (nat_lit 0))), (nat_lit 0, (.ofNat (nat_lit 6)))]), (nat_lit 6, nat_lit 3, [(nat_lit 2, (.ofNat (nat_lit 0))), (nat_lit 0, (.ofNat (nat_lit 1)))]), (nat_lit 4, nat_lit 0, [(nat_lit 60, (.ofNat (nat_lit 0))), (nat_lit 0, (.ofNat (nat_lit 6)))]), (nat_lit 6, nat_lit 1, [(nat_lit 1, (.ofNat (nat_lit 0))), (nat_lit 0, (.ofNat (nat_lit 14)))]), (nat_lit 4, nat_lit 0, [(nat_lit 60, (.ofNat (nat_lit 0))), (nat_lit 0, (.ofNat (nat_lit 6)))])],
  [(nat_lit 7, nat_lit 2, [(nat_lit 0, (.ofNat (nat_lit 1)))]), (nat_lit 8, nat_lit 1, []), (nat_lit 8, nat_lit 3, [(nat_lit 11, (.ofNat (nat_lit 0)))]), (nat_lit 4, nat_lit 0, [(nat_lit 60, (.ofNat (nat_lit 0))), (nat_lit 0, (.ofNat (nat_lit 6)))]), (nat_lit 8, nat_lit 2, []), (nat_lit 6, nat_lit 1, [(nat_lit 9, (.ofNat (nat_lit 0))), (nat_lit 0, (.ofNat (nat_lit 4)))]), (nat_lit 8, nat_lit 5, []), (nat_lit 8, nat_lit 4, [(nat_lit 7, (.ofNat (nat_lit 0)))]), (nat_lit 0, nat_lit 1, [(nat_lit 6, (.ofNat (nat_lit 0))), (nat_lit 0, (.ofNat (nat_lit 1)))]), (nat_lit 6, nat_lit 0, [(nat_lit 6, (.ofNat (nat_lit 0))), (nat_lit 0, (.ofNat (nat_lit 4)))]), (nat_lit 9, nat_lit 0, [(nat_lit 5, (.ofNat (nat_lit 0))), (nat_lit 2, (.ofNat (nat_lit 0)))]), (nat_lit 4, nat_lit 0, [(nat_lit 60, (.ofNat (nat_lit 0))), (nat_lit 0, (.ofNat (nat_lit 6)))]), (nat_lit 6, nat_lit 1, [(nat_lit 4, (.ofNat (nat_lit 0))), (nat_lit 0, (.ofNat (nat_lit 3)))]), (nat_lit 4, nat_lit 0, [(nat_lit 60, (.ofNat (nat_lit 0))), (nat_lit 0, (.ofNat (nat_lit 6)))]), (nat_lit 6, nat_lit 5, [(nat_lit 3, (.ofNat (nat_lit 0))), (nat_lit 0, (.ofNat (nat_lit 13)))]), (nat_lit 4, nat_lit 0, [(nat_lit 60, (.ofNat (nat_lit 0))), (nat_lit 0, (.ofNat (nat_lit 6)))]), (nat_lit 6, nat_lit 3, [(nat_lit 2, (.ofNat (nat_lit 0))), (nat_lit 0, (.ofNat (nat_lit 1)))]), (nat_lit 4, nat_lit 0, [(nat_lit 60, (.ofNat (nat_lit 0))), (nat_lit 0, (.ofNat (nat_lit 6)))]), (nat_lit 6, nat_lit 1, [(nat_lit 1, (.ofNat (nat_lit 0))), (nat_lit 0, (.ofNat (nat_lit 14)))]), (nat_lit 4, nat_lit 0, [(nat_lit 60, (.ofNat (nat_lit 0))), (nat_lit 0, (.ofNat (nat_lit 6)))])],
  [(nat_lit 7, nat_lit 2, [(nat_lit 0, (.ofNat (nat_lit 1)))]), (nat_lit 8, nat_lit 1, []), (nat_lit 8, nat_lit 3, [(nat_lit 13, (.ofNat (nat_lit 0)))]), (nat_lit 4, nat_lit 0, [(nat_lit 60, (.ofNat (nat_lit 0))), (nat_lit 0, (.ofNat (nat_lit 6)))]), (nat_lit 8, nat_lit 2, []), (nat_lit 8, nat_lit 0, [(nat_lit 0, (.ofNat (nat_lit 1))), (nat_lit 10, (.ofNat (nat_lit 0)))]), (nat_lit 4, nat_lit 0, [(nat_lit 60, (.ofNat (nat_lit 0))), (nat_lit 0, (.ofNat (nat_lit 7)))]), (nat_lit 6, nat_lit 0, [(nat_lit 9, (.ofNat (nat_lit 0))), (nat_lit 0, (.ofNat (nat_lit 4)))]), (nat_lit 8, nat_lit 5, []), (nat_lit 8, nat_lit 4, [(nat_lit 7, (.ofNat (nat_lit 0)))]), (nat_lit 0, nat_lit 1, [(nat_lit 6, (.ofNat (nat_lit 0))), (nat_lit 0, (.ofNat (nat_lit 1)))]), (nat_lit 6, nat_lit 0, [(nat_lit 6, (.ofNat (nat_lit 0))), (nat_lit 0, (.ofNat (nat_lit 4)))]), (nat_lit 9, nat_lit 0, [(nat_lit 5, (.ofNat (nat_lit 0))), (nat_lit 2, (.ofNat (nat_lit 0)))]), (nat_lit 4, nat_lit 0, [(nat_lit 60, (.ofNat (nat_lit 0))), (nat_lit 0, (.ofNat (nat_lit 6)))]), (nat_lit 6, nat_lit 1, [(nat_lit 4, (.ofNat (nat_lit 0))), (nat_lit 0, (.ofNat (nat_lit 3)))]), (nat_lit 4, nat_lit 0, [(nat_lit 60, (.ofNat (nat_lit 0))), (nat_lit 0, (.ofNat (nat_lit 6)))]), (nat_lit 6, nat_lit 5, [(nat_lit 3, (.ofNat (nat_lit 0))), (nat_lit 0, (.ofNat (nat_lit 13)))]), (nat_lit 4, nat_lit 0, [(nat_lit 60, (.ofNat (nat_lit 0))), (nat_lit 0, (.ofNat (nat_lit 6)))]), (nat_lit 6, nat_lit 3, [(nat_lit 2, (.ofNat (nat_lit 0))), (nat_lit 0, (.ofNat (nat_lit 1)))]), (nat_lit 4, nat_lit 0, [(nat_lit 60, (.ofNat (nat_lit 0))), (nat_lit 0, (.ofNat (nat_lit 6)))]), (nat_lit 6, nat_lit 1, [(nat_lit 1, (.ofNat (nat_lit 0))), (nat_lit 0, (.ofNat (nat_lit 14)))]), (nat_lit 4, nat_lit 0, [(nat_lit 60, (.ofNat (nat_lit 0))), (nat_lit 0, (.ofNat (nat_lit 6)))])],
  [(nat_lit 7, nat_lit 2, [(nat_lit 0, (.ofNat (nat_lit 0)))]), (nat_lit 8, nat_lit 0, [(nat_lit 0, (.ofNat (nat_lit 1))), (nat_lit 5, (.ofNat (nat_lit 0)))]), (nat_lit 4, nat_lit 0, [(nat_lit 60, (.ofNat (nat_lit 0))), (nat_lit 0, (.ofNat (nat_lit 7)))]), (nat_lit 6, nat_lit 0, [(nat_lit 4, (.ofNat (nat_lit 0))), (nat_lit 0, (.ofNat (nat_lit 3)))]), (nat_lit 4, nat_lit 0, [(nat_lit 60, (.ofNat (nat_lit 0))), (nat_lit 0, (.ofNat (nat_lit 6)))]), (nat_lit 6, nat_lit 5, [(nat_lit 3, (.ofNat (nat_lit 0))), (nat_lit 0, (.ofNat (nat_lit 13)))]), (nat_lit 4, nat_lit 0, [(nat_lit 60, (.ofNat (nat_lit 0))), (nat_lit 0, (.ofNat (nat_lit 6)))]), (nat_lit 6, nat_lit 3, [(nat_lit 2, (.ofNat (nat_lit 0))), (nat_lit 0, (.ofNat (nat_lit 1)))]), (nat_lit 4, nat_lit 0, [(nat_lit 60, (.ofNat (nat_lit 0))), (nat_lit 0, (.ofNat (nat_lit 6)))]), (nat_lit 6, nat_lit 1, [(nat_lit 1, (.ofNat (nat_lit 0))), (nat_lit 0, (.ofNat (nat_lit 14)))]), (nat_lit 4, nat_lit 0, [(nat_lit 60, (.ofNat (nat_lit 0))), (nat_lit 0, (.ofNat (nat_lit 6)))])],
  [(nat_lit 7, nat_lit 3, []), (nat_lit 6, nat_lit 2, [(nat_lit 3, (.ofNat (nat_lit 0))), (nat_lit 0, (.ofNat (nat_lit 1)))]), (nat_lit 4, nat_lit 0, [(nat_lit 60, (.ofNat (nat_lit 0))), (nat_lit 0, (.ofNat (nat_lit 6)))]), (nat_lit 6, nat_lit 5, [(nat_lit 2, (.ofNat (nat_lit 0))), (nat_lit 0, (.ofNat (nat_lit 0)))]), (nat_lit 4, nat_lit 0, [(nat_lit 60, (.ofNat (nat_lit 0))), (nat_lit 0, (.ofNat (nat_lit 13)))]), (nat_lit 6, nat_lit 0, [(nat_lit 1, (.ofNat (nat_lit 0))), (nat_lit 0, (.ofNat (nat_lit 14)))]), (nat_lit 4, nat_lit 0, [(nat_lit 60, (.ofNat (nat_lit 0))), (nat_lit 0, (.ofNat (nat_lit 6)))])],
  [(nat_lit 7, nat_lit 2, [(nat_lit 0, (.ofNat (nat_lit 0)))]), (nat_lit 8, nat_lit 0, [(nat_lit 0, (.ofNat (nat_lit 1))), (nat_lit 5, (.ofNat (nat_lit 0)))]), (nat_lit 4, nat_lit 0, [(nat_lit 60, (.ofNat (nat_lit 0))), (nat_lit 0, (.ofNat (nat_lit 7)))]), (nat_lit 6, nat_lit 4, [(nat_lit 4, (.ofNat (nat_lit 0))), (nat_lit 0, (.ofNat (nat_lit 13)))]), (nat_lit 4, nat_lit 0, [(nat_lit 60, (.ofNat (nat_lit 0))), (nat_lit 0, (.ofNat (nat_lit 6)))]), (nat_lit 6, nat_lit 3, [(nat_lit 3, (.ofNat (nat_lit 0))), (nat_lit 0, (.ofNat (nat_lit 1)))]), (nat_lit 4, nat_lit 0, [(nat_lit 60, (.ofNat (nat_lit 0))), (nat_lit 0, (.ofNat (nat_lit 6)))]), (nat_lit 6, nat_lit 5, [(nat_lit 2, (.ofNat (nat_lit 0))), (nat_lit 0, (.ofNat (nat_lit 0)))]), (nat_lit 4, nat_lit 0, [(nat_lit 60, (.ofNat (nat_lit 0))), (nat_lit 0, (.ofNat (nat_lit 13)))]), (nat_lit 6, nat_lit 0, [(nat_lit 1, (.ofNat (nat_lit 0))), (nat_lit 0, (.ofNat (nat_lit 14)))]), (nat_lit 4, nat_lit 0, [(nat_lit 60, (.ofNat (nat_lit 0))), (nat_lit 0, (.ofNat (nat_lit 6)))])],
  [(nat_lit 7, nat_lit 3, []), (nat_lit 6, nat_lit 5, [(nat_lit 4, (.ofNat (nat_lit 0))), (nat_lit 0, (.ofNat (nat_lit 13)))]), (nat_lit 4, nat_lit 0, [(nat_lit 60, (.ofNat (nat_lit 0))), (nat_lit 0, (.ofNat (nat_lit 6)))]), (nat_lit 6, nat_lit 3, [(nat_lit 3, (.ofNat (nat_lit 0))), (nat_lit 0, (.ofNat (nat_lit 1)))]), (nat_lit 4, nat_lit 0, [(nat_lit 60, (.ofNat (nat_lit 0))), (nat_lit 0, (.ofNat (nat_lit 6)))]), (nat_lit 6, nat_lit 5, [(nat_lit 2, (.ofNat (nat_lit 0))), (nat_lit 0, (.ofNat (nat_lit 0)))]), (nat_lit 4, nat_lit 0, [(nat_lit 60, (.ofNat (nat_lit 0))), (nat_lit 0, (.ofNat (nat_lit 13)))]), (nat_lit 6, nat_lit 0, [(nat_lit 1, (.ofNat (nat_lit 0))), (nat_lit 0, (.ofNat (nat_lit 14)))]), (nat_lit 4, nat_lit 0, [(nat_lit 60, (.ofNat (nat_lit 0))), (nat_lit 0, (.ofNat (nat_lit 6)))])]]
def zEqe_readSign : List (List zK) := [[(nat_lit 13, nat_lit 0, [(nat_lit 0, (.ofNat (nat_lit 1))), (nat_lit 3, (.ofNat (nat_lit 0)))]), (nat_lit 4, nat_lit 0, [(nat_lit 60, (.ofNat (nat_lit 0))), (nat_lit 0, (.ofNat (nat_lit 7)))]), (nat_lit 6, nat_lit 2, [(nat_lit 2, (.ofNat (nat_lit 0))), (nat_lit 0, (.ofNat (nat_lit 1)))]), (nat_lit 4, nat_lit 0, [(nat_lit 60, (.ofNat (nat_lit 0))), (nat_lit 0, (.ofNat (nat_lit 6)))]), (nat_lit 6, nat_lit 1, [(nat_lit 1, (.ofNat (nat_lit 0))), (nat_lit 0, (.ofNat (nat_lit 14)))]), (nat_lit 4, nat_lit 0, [(nat_lit 60, (.ofNat (nat_lit 0))), (nat_lit 0, (.ofNat (nat_lit 6)))])],
  [(nat_lit 11, nat_lit 0, [(nat_lit 0, (.ofNat (nat_lit 0)))]), (nat_lit 8, nat_lit 0, [(nat_lit 0, (.ofNat (nat_lit 1))), (nat_lit 3, (.ofNat (nat_lit 0)))]), (nat_lit 4, nat_lit 0, [(nat_lit 60, (.ofNat (nat_lit 0))), (nat_lit 0, (.ofNat (nat_lit 7)))]), (nat_lit 6, nat_lit 2, [(nat_lit 2, (.ofNat (nat_lit 0))), (nat_lit 0, (.ofNat (nat_lit 1)))]), (nat_lit 4, nat_lit 0, [(nat_lit 60, (.ofNat (nat_lit 0))), (nat_lit 0, (.ofNat (nat_lit 6)))]), (nat_lit 6, nat_lit 1, [(nat_lit 1, (.ofNat (nat_lit 0))), (nat_lit 0, (.ofNat (nat_lit 14)))]), (nat_lit 4, nat_lit 0, [(nat_lit 60, (.ofNat (nat_lit 0))), (nat_lit 0, (.ofNat (nat_lit 6)))])],
  [(nat_lit 13, nat_lit 0, [(nat_lit 0, (.ofNat (nat_lit 1))), (nat_lit 4, (.ofNat (nat_lit 0)))]), (nat_lit 4, nat_lit 0, [(nat_lit 60, (.ofNat (nat_lit 0))), (nat_lit 0, (.ofNat (nat_lit 7)))]), (nat_lit 6, nat_lit 4, [(nat_lit 3, (.ofNat (nat_lit 0))), (nat_lit 0, (.ofNat (nat_lit 13)))]), (nat_lit 4, nat_lit 0, [(nat_lit 60, (.ofNat (nat_lit 0))), (nat_lit 0, (.ofNat (nat_lit 6)))]), (nat_lit 6, nat_lit 3, [(nat_lit 2, (.ofNat (nat_lit 0))), (nat_lit 0, (.ofNat (nat_lit 1)))]), (nat_lit 4, nat_lit 0, [(nat_lit 60, (.ofNat (nat_lit 0))), (nat_lit 0, (.ofNat (nat_lit 6)))]), (nat_lit 6, nat_lit 1, [(nat_lit 1, (.ofNat (nat_lit 0))), (nat_lit 0, (.ofNat (nat_lit 14)))]), (nat_lit 4, nat_lit 0, [(nat_lit 60, (.ofNat (nat_lit 0))), (nat_lit 0, (.ofNat (nat_lit 6)))])],
  [(nat_lit 11, nat_lit 0, [(nat_lit 0, (.ofNat (nat_lit 0)))]), (nat_lit 8, nat_lit 0, [(nat_lit 0, (.ofNat (nat_lit 1))), (nat_lit 4, (.ofNat (nat_lit 0)))]), (nat_lit 4, nat_lit 0, [(nat_lit 60, (.ofNat (nat_lit 0))), (nat_lit 0, (.ofNat (nat_lit 7)))]), (nat_lit 6, nat_lit 4, [(nat_lit 3, (.ofNat (nat_lit 0))), (nat_lit 0, (.ofNat (nat_lit 13)))]), (nat_lit 4, nat_lit 0, [(nat_lit 60, (.ofNat (nat_lit 0))), (nat_lit 0, (.ofNat (nat_lit 6)))]), (nat_lit 6, nat_lit 3, [(nat_lit 2, (.ofNat (nat_lit 0))), (nat_lit 0, (.ofNat (nat_lit 1)))]), (nat_lit 4, nat_lit 0, [(nat_lit 60, (.ofNat (nat_lit 0))), (nat_lit 0, (.ofNat (nat_lit 6)))]), (nat_lit 6, nat_lit 1, [(nat_lit 1, (.ofNat (nat_lit 0))), (nat_lit 0, (.ofNat (nat_lit 14)))]), (nat_lit 4, nat_lit 0, [(nat_lit 60, (.ofNat (nat_lit 0))), (nat_lit 0, (.ofNat (nat_lit 6)))])],
  [(nat_lit 13, nat_lit 4, [(nat_lit 6, (.ofNat (nat_lit 0)))]), (nat_lit 6, nat_lit 1, [(nat_lit 6, (.ofNat (nat_lit 0))), (nat_lit 0, (.ofNat (nat_lit 4)))]), (nat_lit 9, nat_lit 0, [(nat_lit 5, (.ofNat (nat_lit 0))), (nat_lit 2, (.ofNat (nat_lit 0)))]), (nat_lit 4, nat_lit 0, [(nat_lit 60, (.ofNat (nat_lit 0))), (nat_lit 0, (.ofNat (nat_lit 6)))]), (nat_lit 6, nat_lit 1, [(nat_lit 4, (.ofNat (nat_lit 0))), (nat_lit 0, (.ofNat (nat_lit 3)))]), (nat_lit 4, nat_lit 0, [(nat_lit 60, (.ofNat (nat_lit 0))), (nat_lit 0, (.ofNat (nat_lit 6)))]), (nat_lit 6, nat_lit 5, [(nat_lit 3, (.ofNat (nat_lit 0))), (nat_lit 0, (.ofNat (nat_lit 13)))]), (nat_lit 4, nat_lit 0, [(nat_lit 60, (.ofNat (nat_lit 0))), (nat_lit 0, (.ofNat (nat_lit 6)))]), (nat_lit 6, nat_lit 3, [(nat_lit 2, (.ofNat (nat_lit 0))), (nat_lit 0, (.ofNat (nat_lit 1)))]), (nat_lit 4, nat_lit 0, [(nat_lit 60, (.ofNat (nat_lit 0))), (nat_lit 0, (.ofNat (nat_lit 6)))]), (nat_lit 6, nat_lit 1, [(nat_lit 1, (.ofNat (nat_lit 0))), (nat_lit 0, (.ofNat (nat_lit 14)))]), (nat_lit 4, nat_lit 0, [(nat_lit 60, (.ofNat (nat_lit 0))), (nat_lit 0, (.ofNat (nat_lit 6)))])],
  [(nat_lit 13, nat_lit 2, []), (nat_lit 8, nat_lit 4, [(nat_lit 6, (.ofNat (nat_lit 0)))]), (nat_lit 6, nat_lit 1, [(nat_lit 6, (.ofNat (nat_lit 0))), (nat_lit 0, (.ofNat (nat_lit 4)))]), (nat_lit 9, nat_lit 0, [(nat_lit 5, (.ofNat (nat_lit 0))), (nat_lit 2, (.ofNat (nat_lit 0)))]), (nat_lit 4, nat_lit 0, [(nat_lit 60, (.ofNat (nat_lit 0))), (nat_lit 0, (.ofNat (nat_lit 6)))]), (nat_lit 6, nat_lit 1, [(nat_lit 4, (.ofNat (nat_lit 0))), (nat_lit 0, (.ofNat (nat_lit 3)))]), (nat_lit 4, nat_lit 0, [(nat_lit 60, (.ofNat (nat_lit 0))), (nat_lit 0, (.ofNat (nat_lit 6)))]), (nat_lit 6, nat_lit 5, [(nat_lit 3, (.ofNat (nat_lit 0))), (nat_lit 0, (.ofNat (nat_lit 13)))]), (nat_lit 4, nat_lit 0, [(nat_lit 60, (.ofNat (nat_lit 0))), (nat_lit 0, (.ofNat (nat_lit 6)))]), (nat_lit 6, nat_lit 3, [(nat_lit 2, (.ofNat (nat_lit 0))), (nat_lit 0, (.ofNat (nat_lit 1)))]), (nat_lit 4, nat_lit 0, [(nat_lit 60, (.ofNat (nat_lit 0))), (nat_lit 0, (.ofNat (nat_lit 6)))]), (nat_lit 6, nat_lit 1, [(nat_lit 1, (.ofNat (nat_lit 0))), (nat_lit 0, (.ofNat (nat_lit 14)))]), (nat_lit 4, nat_lit 0, [(nat_lit 60, (.ofNat (nat_lit 0))), (nat_lit 0, (.ofNat (nat_lit 6)))])],
  [(nat_lit 13, nat_lit 3, [(nat_lit 9, (.ofNat (nat_lit 0)))]), (nat_lit 4, nat_lit 0, [(nat_lit 60, (.ofNat (nat_lit 0))), (nat_lit 0, (.ofNat (nat_lit 6)))]), (nat_lit 8, nat_lit 2, []), (nat_lit 8, nat_lit 4, [(nat_lit 6, (.ofNat (nat_lit 0)))]), (nat_lit 6, nat_lit 1, [(nat_lit 6, (.ofNat (nat_lit 0))), (nat_lit 0, (.ofNat (nat_lit 4)))]), (nat_lit 9, nat_lit 0, [(nat_lit 5, (.ofNat (nat_lit 0))), (nat_lit 2, (.ofNat (nat_lit 0)))]), (nat_lit 4, nat_lit 0, [(nat_lit 60, (.ofNat (nat_lit 0))), (nat_lit 0, (.ofNat (nat_lit 6)))]), (nat_lit 6, nat_lit 1, [(nat_lit 4, (.ofNat (nat_lit 0))), (nat_lit 0, (.ofNat (nat_lit 3)))]), (nat_lit 4, nat_lit 0, [(nat_lit 60, (.ofNat (nat_lit 0))), (nat_lit 0, (.ofNat (nat_lit 6)))]), (nat_lit 6, nat_lit 5, [(nat_lit 3, (.ofNat (nat_lit 0))), (nat_lit 0, (.ofNat (nat_lit 13)))]), (nat_lit 4, nat_lit 0, [(nat_lit 60, (.ofNat (nat_lit 0))), (nat_lit 0, (.ofNat (nat_lit 6)))]), (nat_lit 6, nat_lit 3, [(nat_lit 2, (.ofNat (nat_lit 0))), (nat_lit 0, (.ofNat (nat_lit 1)))]), (nat_lit 4, nat_lit 0, [(nat_lit 60, (.ofNat (nat_lit 0))), (nat_lit 0, (.ofNat (nat_lit 6)))]), (nat_lit 6, nat_lit 1, [(nat_lit 1, (.ofNat (nat_lit 0))), (nat_lit 0, (.ofNat (nat_lit 14)))]), (nat_lit 4, nat_lit 0, [(nat_lit 60, (.ofNat (nat_lit 0))), (nat_lit 0, (.ofNat (nat_lit 6)))])],
  [(nat_lit 13, nat_lit 1, []), (nat_lit 8, nat_lit 3, [(nat_lit 9, (.ofNat (nat_lit 0)))]), (nat_lit 4, nat_lit 0, [(nat_lit 60, (.ofNat (nat_lit 0))), (nat_lit 0, (.ofNat (nat_lit 6)))]), (nat_lit 8, nat_lit 2, []), (nat_lit 8, nat_lit 4, [(nat_lit 6, (.ofNat (nat_lit 0)))]), (nat_lit 6, nat_lit 1, [(nat_lit 6, (.ofNat (nat_lit 0))), (nat_lit 0, (.ofNat (nat_lit 4)))]), (nat_lit 9, nat_lit 0, [(nat_lit 5, (.ofNat (nat_lit 0))), (nat_lit 2, (.ofNat (nat_lit 0)))]), (nat_lit 4, nat_lit 0, [(nat_lit 60, (.ofNat (nat_lit 0))), (nat_lit 0, (.ofNat (nat_lit 6)))]), (nat_lit 6, nat_lit 1, [(nat_lit 4, (.ofNat (nat_lit 0))), (nat_lit 0, (.ofNat (nat_lit 3)))]), (nat_lit 4, nat_lit 0, [(nat_lit 60, (.ofNat (nat_lit 0))), (nat_lit 0, (.ofNat (nat_lit 6)))]), (nat_lit 6, nat_lit 5, [(nat_lit 3, (.ofNat (nat_lit 0))), (nat_lit 0, (.ofNat (nat_lit 13)))]), (nat_lit 4, nat_lit 0, [(nat_lit 60, (.ofNat (nat_lit 0))), (nat_lit 0, (.ofNat (nat_lit 6)))]), (nat_lit 6, nat_lit 3, [(nat_lit 2, (.ofNat (nat_lit 0))), (nat_lit 0, (.ofNat (nat_lit 1)))]), (nat_lit 4, nat_lit 0, [(nat_lit 60, (.ofNat (nat_lit 0))), (nat_lit 0, (.ofNat (nat_lit 6)))]), (nat_lit 6, nat_lit 1, [(nat_lit 1, (.ofNat (nat_lit 0))), (nat_lit 0, (.ofNat (nat_lit 14)))]), (nat_lit 4, nat_lit 0, [(nat_lit 60, (.ofNat (nat_lit 0))), (nat_lit 0, (.ofNat (nat_lit 6)))])],
  [(nat_lit 11, nat_lit 0, [(nat_lit 0, (.ofNat (nat_lit 1)))]), (nat_lit 8, nat_lit 1, []), (nat_lit 8, nat_lit 3, [(nat_lit 9, (.ofNat (nat_lit 0)))]), (nat_lit 4, nat_lit 0, [(nat_lit 60, (.ofNat (nat_lit 0))), (nat_lit 0, (.ofNat (nat_lit 6)))]), (nat_lit 8, nat_lit 2, []), (nat_lit 8, nat_lit 4, [(nat_lit 6, (.ofNat (nat_lit 0)))]), (nat_lit 6, nat_lit 1, [(nat_lit 6, (.ofNat (nat_lit 0))), (nat_lit 0, (.ofNat (nat_lit 4)))]), (nat_lit 9, nat_lit 0, [(nat_lit 5, (.ofNat (nat_lit 0))), (nat_lit 2, (.ofNat (nat_lit 0)))]), (nat_lit 4, nat_lit 0, [(nat_lit 60, (.ofNat (nat_lit 0))), (nat_lit 0, (.ofNat (nat_lit 6)))]), (nat_lit 6, nat_lit 1, [(nat_lit 4, (.ofNat (nat_lit 0))), (nat_lit 0, (.ofNat (nat_lit 3)))]), (nat_lit 4, nat_lit 0, [(nat_lit 60, (.ofNat (nat_lit 0))), (nat_lit 0, (.ofNat (nat_lit 6)))]), (nat_lit 6, nat_lit 5, [(nat_lit 3, (.ofNat (nat_lit 0))), (nat_lit 0, (.ofNat (nat_lit 13)))]), (nat_lit 4, nat_lit 0, [(nat_lit 60, (.ofNat (nat_lit 0))), (nat_lit 0, (.ofNat (nat_lit 6)))]), (nat_lit 6, nat_lit 3, [(nat_lit 2, (.ofNat (nat_lit 0))), (nat_lit 0, (.ofNat (nat_lit 1)))]), (nat_lit 4, nat_lit 0, [(nat_lit 60, (.ofNat (nat_lit 0))), (nat_lit 0, (.ofNat (nat_lit 6)))]), (nat_lit 6, nat_lit 1, [(nat_lit 1, (.ofNat (nat_lit 0))), (nat_lit 0, (.ofNat (nat_lit 14)))]), (nat_lit 4, nat_lit 0, [(nat_lit 60, (.ofNat (nat_lit 0))), (nat_lit 0, (.ofNat (nat_lit 6)))])],
  [(nat_lit 13, nat_lit 4, [(nat_lit 7, (.ofNat (nat_lit 0)))]), (nat_lit 0, nat_lit 1, [(nat_lit 6, (.ofNat (nat_lit 0))), (nat_lit 0, (.ofNat (nat_lit 1)))]), (nat_lit 6, nat_lit 0, [(nat_lit 6, (.ofNat (nat_lit 0))), (nat_lit 0, (.ofNat (nat_lit 4)))]), (nat_lit 9, nat_lit 0, [(nat_lit 5, (.ofNat (nat_lit 0))), (nat_lit 2, (.ofNat (nat_lit 0)))]), (nat_lit 4, nat_lit 0, [(nat_lit 60, (.ofNat (nat_lit 0))), (nat_lit 0, (.ofNat (nat_lit 6)))]), (nat_lit 6, nat_lit 1, [(nat_lit 4, (.ofNat (nat_lit 0))), (nat_lit 0, (.ofNat (nat_lit 3)))]), (nat_lit 4, nat_lit 0, [(nat_lit 60, (.ofNat (nat_lit 0))), (nat_lit 0, (.ofNat (nat_lit 6)))]), (nat_lit 6, nat_lit 5, [(nat_lit 3, (.ofNat (nat_lit 0))), (nat_lit 0, (.ofNat (nat_lit 13)))]), (nat_lit 4, nat_lit 0, [(nat_lit 60, (.ofNat (nat_lit 0))), (nat_lit 0, (.ofNat (nat_lit 6)))]), (nat_lit 6, nat_lit 3, [(nat_lit 2, (.ofNat (nat_lit 0))), (nat_lit 0, (.ofNat (nat_lit 1)))]), (nat_lit 4, nat_lit 0, [(nat_lit 60, (.ofNat (nat_lit 0))), (nat_lit 0, (.ofNat (nat_lit 6)))]), (nat_lit 6, nat_lit 1, [(nat_lit 1, (.ofNat (nat_lit 0))), (nat_lit 0, (.ofNat (nat_lit 14)))]), (nat_lit 4, nat_lit 0, [(nat_lit 60, (.ofNat (nat_lit 0))), (nat_lit 0, (.ofNat (nat_lit 6)))])],
  [(nat_lit 13, nat_lit 5, []), (nat_lit 8, nat_lit 4, [(nat_lit 7, (.ofNat (nat_lit 0)))]), (nat_lit 0, nat_lit 1, [(nat_lit 6, (.ofNat (nat_lit 0))), (nat_lit 0, (.ofNat (nat_lit 1)))]), (nat_lit 6, nat_lit 0, [(nat_lit 6, (.ofNat (nat_lit 0))), (nat_lit 0, (.ofNat (nat_lit 4)))]), (nat_lit 9, nat_lit 0, [(nat_lit 5, (.ofNat (nat_lit 0))), (nat_lit 2, (.ofNat (nat_lit 0)))]), (nat_lit 4, nat_lit 0, [(nat_lit 60, (.ofNat (nat_lit 0))), (nat_lit 0, (.ofNat (nat_lit 6)))]), (nat_lit 6, nat_lit 1, [(nat_lit 4, (.ofNat (nat_lit 0))), (nat_lit 0, (.ofNat (nat_lit 3)))]), (nat_lit 4, nat_lit 0, [(nat_lit 60, (.ofNat (nat_lit 0))), (nat_lit 0, (.ofNat (nat_lit 6)))]), (nat_lit 6, nat_lit 5, [(nat_lit 3, (.ofNat (nat_lit 0))), (nat_lit 0, (.ofNat (nat_lit 13)))]), (nat_lit 4, nat_lit 0, [(nat_lit 60, (.ofNat (nat_lit 0))), (nat_lit 0, (.ofNat (nat_lit 6)))]), (nat_lit 6, nat_lit 3, [(nat_lit 2, (.ofNat (nat_lit 0))), (nat_lit 0, (.ofNat (nat_lit 1)))]), (nat_lit 4, nat_lit 0, [(nat_lit 60, (.ofNat (nat_lit 0))), (nat_lit 0, (.ofNat (nat_lit 6)))]), (nat_lit 6, nat_lit 1, [(nat_lit 1, (.ofNat (nat_lit 0))), (nat_lit 0, (.ofNat (nat_lit 14)))]), (nat_lit 4, nat_lit 0, [(nat_lit 60, (.ofNat (nat_lit 0))), (nat_lit 0, (.ofNat (nat_lit 6)))])],
  [(nat_lit 13, nat_lit 2, []), (nat_lit 6, nat_lit 1, [(nat_lit 9, (.ofNat (nat_lit 0))), (nat_lit 0, (.ofNat (nat_lit 4)))]), (nat_lit 8, nat_lit 5, []), (nat_lit 8, nat_lit 4, [(nat_lit 7, (.ofNat (nat_lit 0)))]), (nat_lit 0, nat_lit 1, [(nat_lit 6, (.ofNat (nat_lit 0))), (nat_lit 0, (.ofNat (nat_lit 1)))]), (nat_lit 6, nat_lit 0, [(nat_lit 6, (.ofNat (nat_lit 0))), (nat_lit 0, (.ofNat (nat_lit 4)))]), (nat_lit 9, nat_lit 0, [(nat_lit 5, (.ofNat (nat_lit 0))), (nat_lit 2, (.ofNat (nat_lit 0)))]), (nat_lit 4, nat_lit 0, [(nat_lit 60, (.ofNat (nat_lit 0))), (nat_lit 0, (.ofNat (nat_lit 6)))]), (nat_lit 6, nat_lit 1, [(nat_lit 4, (.ofNat (nat_lit 0))), (nat_lit 0, (.ofNat (nat_lit 3)))]), (nat_lit 4, nat_lit 0, [(nat_lit 60, (.ofNat (nat_lit 0))), (nat_lit 0, (.ofNat (nat_lit 6)))]), (nat_lit 6, nat_lit 5, [(nat_lit 3, (.ofNat (nat_lit 0))), (nat_lit 0, (.ofNat (nat_lit 13)))]), (nat_lit 4, nat_lit 0, [(nat_lit 60, (.ofNat (nat_lit 0))), (nat_lit 0, (.ofNat (nat_lit 6)))]), (nat_lit 6, nat_lit 3, [(nat_lit 2, (.ofNat (nat_lit 0))), (nat_lit 0, (.ofNat (nat_lit 1)))]), (nat_lit 4, nat_lit 0, [(nat_lit 60, (.ofNat (nat_lit 0))), (nat_lit 0, (.ofNat (nat_lit 6)))]), (nat_lit 6, nat_lit 1, [(nat_lit 1, (.ofNat (nat_lit 0))), (nat_lit 0, (.ofNat (nat_lit 14)))]), (nat_lit 4, nat_lit 0, [(nat_lit 60, (.ofNat (nat_lit 0))), (nat_lit 0, (.ofNat (nat_lit 6)))])],
  [(nat_lit 13, nat_lit 3, [(nat_lit 11, (.ofNat (nat_lit 0)))]), (nat_lit 4, nat_lit 0, [(nat_lit 60, (.ofNat (nat_lit 0))), (nat_lit 0, (.ofNat (nat_lit 6)))]), (nat_lit 8, nat_lit 2, []), (nat_lit 6, nat_lit 1, [(nat_lit 9, (.ofNat (nat_lit 0))), (nat_lit 0, (.ofNat (nat_lit 4)))]), (nat_lit 8, nat_lit 5, []), (nat_lit 8, nat_lit 4, [(nat_lit 7, (.ofNat (nat_lit 0)))]), (nat_lit 0, nat_lit 1, [(nat_lit 6, (.ofNat (nat_lit 0))), (nat_lit 0, (.ofNat (nat_lit 1)))]), (nat_lit 6, nat_lit 0, [(nat_lit 6, (.ofNat (nat_lit 0))), (nat_lit 0, (.ofNat (nat_lit 4)))]), (nat_lit 9, nat_lit 0, [(nat_lit 5, (.ofNat (nat_lit 0))), (nat_lit 2, (.ofNat (nat_lit 0)))]), (nat_lit 4, nat_lit 0, [(nat_lit 60, (.ofNat (nat_lit 0))), (nat_lit 0, (.ofNat (nat_lit 6)))]), (nat_lit 6, nat_lit 1, [(nat_lit 4, (.ofNat (nat_lit 0))), (nat_lit 0, (.ofNat (nat_lit 3)))]), (nat_lit 4, nat_lit 0, [(nat_lit 60, (.ofNat (nat_lit 0))), (nat_lit 0, (.ofNat (nat_lit 6)))]), (nat_lit 6, nat_lit 5, [(nat_lit 3, (.ofNat (nat_lit 0))), (nat_lit 0, (.ofNat (nat_lit 13)))]), (nat_lit 4, nat_lit 0, [(nat_lit 60, (.ofNat (nat_lit 0))), (nat_lit 0, (.ofNat (nat_lit 6)))]), (nat_lit 6, nat_lit 3, [(nat_lit 2, (.ofNat (nat_lit 0))), (nat_lit 0, (.ofNat (nat_lit 1)))]), (nat_lit 4, nat_lit 0, [(nat_lit 60, (.ofNat (nat_lit 0))), (nat_lit 0, (.ofNat (nat_lit 6)))]), (nat_lit 6, nat_lit 1, [(nat_lit 1, (.ofNat (nat_lit 0))), (nat_lit 0, (.ofNat (nat_lit 14)))]), (nat_lit 4, nat_lit 0, [(nat_lit 60, (.ofNat (nat_lit 0))), (nat_lit 0, (.ofNat (nat_lit 6)))])],
  [(nat_lit 13, nat_lit 1, []), (nat_lit 8, nat_lit 3, [(nat_lit 11, (.ofNat (nat_lit 0)))]), (nat_lit 4, nat_lit 0, [(nat_lit 60, (.ofNat (nat_lit 0))), (nat_lit 0, (.ofNat (nat_lit 6)))]), (nat_lit 8, nat_lit 2, []), (nat_lit 6, nat_lit 1, [(nat_lit 9, (.ofNat (nat_lit 0))), (nat_lit 0, (.ofNat (nat_lit 4)))]), (nat_lit 8, nat_lit 5, []), (nat_lit 8, nat_lit 4, [(nat_lit 7, (.ofNat (nat_lit 0)))]), (nat_lit 0, nat_lit 1, [(nat_lit 6, (.ofNat (nat_lit 0))), (nat_lit 0, (.ofNat (nat_lit 1)))]), (nat_lit 6, nat_lit 0, [(nat_lit 6, (.ofNat (nat_lit 0))), (nat_lit 0, (.ofNat (nat_lit 4)))]), (nat_lit 9, nat_lit 0, [(nat_lit 5, (.ofNat (nat_lit 0))), (nat_lit 2, (.ofNat (nat_lit 0)))]), (nat_lit 4, nat_lit 0, [(nat_lit 60, (.ofNat (nat_lit 0))), (nat_lit 0, (.ofNat (nat_lit 6)))]), (nat_lit 6, nat_lit 1, [(nat_lit 4, (.ofNat (nat_lit 0))), (nat_lit 0, (.ofNat (nat_lit 3)))]), (nat_lit 4, nat_lit 0, [(nat_lit 60, (.ofNat (nat_lit 0))), (nat_lit 0, (.ofNat (nat_lit 6)))]), (nat_lit 6, nat_lit 5, [(nat_lit 3, (.ofNat (nat_lit 0))), (nat_lit 0, (.ofNat (nat_lit 13)))]), (nat_lit 4, nat_lit 0, [(nat_lit 60, (.ofNat (nat_lit 0))), (nat_lit 0, (.ofNat (nat_lit 6)))]), (nat_lit 6, nat_lit 3, [(nat_lit 2, (.ofNat (nat_lit 0))), (nat_lit 0, (.ofNat (nat_lit 1)))]), (nat_lit 4, nat_lit 0, [(nat_lit 60, (.ofNat (nat_lit 0))), (nat_lit 0, (.ofNat (nat_lit 6)))]), (nat_lit 6, nat_lit 1, [(nat_lit 1, (.ofNat (nat_lit 0))), (nat_lit 0, (.ofNat (nat_lit 14)))]), (nat_lit 4, nat_lit 0, [(nat_lit 60, (.ofNat (nat_lit 0))), (nat_lit 0, (.ofNat (nat_lit 6)))])],
  [(nat_lit 11, nat_lit 0, [(nat_lit 0, (.ofNat (nat_lit 1)))]), (nat_lit 8, nat_lit 1, []), (nat_lit 8, nat_lit 3, [(nat_lit 11, (.ofNat (nat_lit 0)))]), (nat_lit 4, nat_lit 0, [(nat_lit 60, (.ofNat (nat_lit 0))), (nat_lit 0, (.ofNat (nat_lit 6)))]), (nat_lit 8, nat_lit 2, []), (nat_lit 6, nat_lit 1, [(nat_lit 9, (.ofNat (nat_lit 0))), (nat_lit 0, (.ofNat (nat_lit 4)))]), (nat_lit 8, nat_lit 5, []), (nat_lit 8, nat_lit 4, [(nat_lit 7, (.ofNat (nat_lit 0)))]), (nat_lit 0, nat_lit 1, [(nat_lit 6, (.ofNat (nat_lit 0))), (nat_lit 0, (.ofNat (nat_lit 1)))]), (nat_lit 6, nat_lit 0, [(nat_lit 6, (.ofNat (nat_lit 0))), (nat_lit 0, (.ofNat (nat_lit 4)))]), (nat_lit 9, nat_lit 0, [(nat_lit 5, (.ofNat (nat_lit 0))), (nat_lit 2, (.ofNat (nat_lit 0)))]), (nat_lit 4, nat_lit 0, [(nat_lit 60, (.ofNat (nat_lit 0))), (nat_lit 0, (.ofNat (nat_lit 6)))]), (nat_lit 6, nat_lit 1, [(nat_lit 4, (.ofNat (nat_lit 0))), (nat_lit 0, (.ofNat (nat_lit 3)))]), (nat_lit 4, nat_lit 0, [(nat_lit 60, (.ofNat (nat_lit 0))), (nat_lit 0, (.ofNat (nat_lit 6)))]), (nat_lit 6, nat_lit 5, [(nat_lit 3, (.ofNat (nat_lit 0))), (nat_lit 0, (.ofNat (nat_lit 13)))]), (nat_lit 4, nat_lit 0, [(nat_lit 60, (.ofNat (nat_lit 0))), (nat_lit 0, (.ofNat (nat_lit 6)))]), (nat_lit 6, nat_lit 3, [(nat_lit 2, (.ofNat (nat_lit 0))), (nat_lit 0, (.ofNat (nat_lit 1)))]), (nat_lit 4, nat_lit 0, [(nat_lit 60, (.ofNat (nat_lit 0))), (nat_lit 0, (.ofNat (nat_lit 6)))]), (nat_lit 6, nat_lit 1, [(nat_lit 1, (.ofNat (nat_lit 0))), (nat_lit 0, (.ofNat (nat_lit 14)))]), (nat_lit 4, nat_lit 0, [(nat_lit 60, (.ofNat (nat_lit 0))), (nat_lit 0, (.ofNat (nat_lit 6)))])],
  [(nat_lit 13, nat_lit 0, [(nat_lit 0, (.ofNat (nat_lit 1))), (nat_lit 10, (.ofNat (nat_lit 0)))]), (nat_lit 4, nat_lit 0, [(nat_lit 60, (.ofNat (nat_lit 0))), (nat_lit 0, (.ofNat (nat_lit 7)))]), (nat_lit 6, nat_lit 0, [(nat_lit 9, (.ofNat (nat_lit 0))), (nat_lit 0, (.ofNat (nat_lit 4)))]), (nat_lit 8, nat_lit 5, []), (nat_lit 8, nat_lit 4, [(nat_lit 7, (.ofNat (nat_lit 0)))]), (nat_lit 0, nat_lit 1, [(nat_lit 6, (.ofNat (nat_lit 0))), (nat_lit 0, (.ofNat (nat_lit 1)))]), (nat_lit 6, nat_lit 0, [(nat_lit 6, (.ofNat (nat_lit 0))), (nat_lit 0, (.ofNat (nat_lit 4)))]), (nat_lit 9, nat_lit 0, [(nat_lit 5, (.ofNat (nat_lit 0))), (nat_lit 2, (.ofNat (nat_lit 0)))]), (nat_lit 4, nat_lit 0, [(nat_lit 60, (.ofNat (nat_lit 0))), (nat_lit 0, (.ofNat (nat_lit 6)))]), (nat_lit 6, nat_lit 1, [(nat_lit 4, (.ofNat (nat_lit 0))), (nat_lit 0, (.ofNat (nat_lit 3)))]), (nat_lit 4, nat_lit 0, [(nat_lit 60, (.ofNat (nat_lit 0))), (nat_lit 0, (.ofNat (nat_lit 6)))]), (nat_lit 6, nat_lit 5, [(nat_lit 3, (.ofNat (nat_lit 0))), (nat_lit 0, (.ofNat (nat_lit 13)))]), (nat_lit 4, nat_lit 0, [(nat_lit 60, (.ofNat (nat_lit 0))), (nat_lit 0, (.ofNat (nat_lit 6)))]), (nat_lit 6, nat_lit 3, [(nat_lit 2, (.ofNat (nat_lit 0))), (nat_lit 0, (.ofNat (nat_lit 1)))]), (nat_lit 4, nat_lit 0, [(nat_lit 60, (.ofNat (nat_lit 0))), (nat_lit 0, (.ofNat (nat_lit 6)))]), (nat_lit 6, nat_lit 1, [(nat_lit 1, (.ofNat (nat_lit 0))), (nat_lit 0, (.ofNat (nat_lit 14)))]), (nat_lit 4, nat_lit 0, [(nat_lit 60, (.ofNat (nat_lit 0))), (nat_lit 0, (.ofNat (nat_lit 6)))])],
  [(nat_lit 13, nat_lit 2, []), (nat_lit 8, nat_lit 0, [(nat_lit 0, (.ofNat (nat_lit 1))), (nat_lit 10, (.ofNat (nat_lit 0)))]), (nat_lit 4, nat_lit 0, [(nat_lit 60, (.ofNat (nat_lit 0))), (nat_lit 0, (.ofNat (nat_lit 7)))]), (nat_lit 6, nat_lit 0, [(nat_lit 9, (.ofNat (nat_lit 0))), (nat_lit 0, (.ofNat (nat_lit 4)))]), (nat_lit 8, nat_lit 5, []), (nat_lit 8, nat_lit 4, [(nat_lit 7, (.ofNat (nat_lit 0)))]), (nat_lit 0, nat_lit 1, [(nat_lit 6, (.ofNat (nat_lit 0))), (nat_lit 0, (.ofNat (nat_lit 1)))]), (nat_lit 6, nat_lit 0, [(nat_lit 6, (.ofNat (nat_lit 0))), (nat_lit 0, (.ofNat (nat_lit 4)))]), (nat_lit 9, nat_lit 0, [(nat_lit 5, (.ofNat (nat_lit 0))), (nat_lit 2, (.ofNat (nat_lit 0)))]), (nat_lit 4, nat_lit 0, [(nat_lit 60, (.ofNat (nat_lit 0))), (nat_lit 0, (.ofNat (nat_lit 6)))]), (nat_lit 6, nat_lit 1, [(nat_lit 4, (.ofNat (nat_lit 0))), (nat_lit 0, (.ofNat (nat_lit 3)))]), (nat_lit 4, nat_lit 0, [(nat_lit 60, (.ofNat (nat_lit 0))), (nat_lit 0, (.ofNat (nat_lit 6)))]), (nat_lit 6, nat_lit 5, [(nat_lit 3, (.ofNat (nat_lit 0))), (nat_lit 0, (.ofNat (nat_lit 13)))]), (nat_lit 4, nat_lit 0, [(nat_lit 60, (.ofNat (nat_lit 0))), (nat_lit 0, (.ofNat (nat_lit 6)))]), (nat_lit 6, nat_lit 3, [(nat_lit 2, (.ofNat (nat_lit 0))), (nat_lit 0, (.ofNat (nat_lit 1)))]), (nat_lit 4, nat_lit 0, [(nat_lit 60, (.ofNat (nat_lit 0))), (nat_lit 0, (.ofNat (nat_lit 6)))]), (nat_lit 6, nat_lit 1, [(nat_lit 1, (.ofNat (nat_lit 0))), (nat_lit 0, (.ofNat (nat_lit 14)))]), (nat_lit 4, nat_lit 0, [(nat_lit 60, (.ofNat (nat_lit 0))), (nat_lit 0, (.ofNat (nat_lit 6)))])],
  [(nat_lit 13, nat_lit 3, [(nat_lit 13, (.ofNat (nat_lit 0)))]), (nat_lit 4, nat_lit 0, [(nat_lit 60, (.ofNat (nat_lit 0))), (nat_lit 0, (.ofNat (nat_lit 6)))]), (nat_lit 8, nat_lit 2, []), (nat_lit 8, nat_lit 0, [(nat_lit 0, (.ofNat (nat_lit 1))), (nat_lit 10, (.ofNat (nat_lit 0)))]), (nat_lit 4, nat_lit 0, [(nat_lit 60, (.ofNat (nat_lit 0))), (nat_lit 0, (.ofNat (nat_lit 7)))]), (nat_lit 6, nat_lit 0, [(nat_lit 9, (.ofNat (nat_lit 0))), (nat_lit 0, (.ofNat (nat_lit 4)))]), (nat_lit 8, nat_lit 5, []), (nat_lit 8, nat_lit 4, [(nat_lit 7, (.ofNat (nat_lit 0)))]), (nat_lit 0, nat_lit 1, [(nat_lit 6, (.ofNat (nat_lit 0))), (nat_lit 0, (.ofNat (nat_lit 1)))]), (nat_lit 6, nat_lit 0, [(nat_lit 6, (.ofNat (nat_lit 0))), (nat_lit 0, (.ofNat (nat_lit 4)))]), (nat_lit 9, nat_lit 0, [(nat_lit 5, (.ofNat (nat_lit 0))), (nat_lit 2, (.ofNat (nat_lit 0)))]), (nat_lit 4, nat_lit 0, [(nat_lit 60, (.ofNat (nat_lit 0))), (nat_lit 0, (.ofNat (nat_lit 6)))]), (nat_lit 6, nat_lit 1, [(nat_lit 4, (.ofNat (nat_lit 0))), (nat_lit 0, (.ofNat (nat_lit 3)))]), (nat_lit 4, nat_lit 0, [(nat_lit 60, (.ofNat (nat_lit 0))), (nat_lit 0, (.ofNat (nat_lit 6)))]), (nat_lit 6, nat_lit 5, [(nat_lit 3, (.ofNat (nat_lit 0))), (nat_lit 0, (.ofNat (nat_lit 13)))]), (nat_lit 4, nat_lit 0, [(nat_lit 60, (.ofNat (nat_lit 0))), (nat_lit 0, (.ofNat (nat_lit 6)))]), (nat_lit 6, nat_lit 3, [(nat_lit 2, (.ofNat (nat_lit 0))), (nat_lit 0, (.ofNat (nat_lit 1)))]), (nat_lit 4, nat_lit 0, [(nat_lit 60, (.ofNat (nat_lit 0))), (nat_lit 0, (.ofNat (nat_lit 6)))]), (nat_lit 6, nat_lit 1, [(nat_lit 1, (.ofNat (nat_lit 0))), (nat_lit 0, (.ofNat (nat_lit 14)))]), (nat_lit 4, nat_lit 0, [(nat_lit 60, (.ofNat (nat_lit 0))), (nat_lit 0, (.ofNat (nat_lit 6)))])],
  [(nat_lit 13, nat_lit 1, []), (nat_lit 8, nat_lit 3, [(nat_lit 13, (.ofNat (nat_lit 0)))]), (nat_lit 4, nat_lit 0, [(nat_lit 60, (.ofNat (nat_lit 0))), (nat_lit 0, (.ofNat (nat_lit 6)))]), (nat_lit 8, nat_lit 2, []), (nat_lit 8, nat_lit 0, [(nat_lit 0, (.ofNat (nat_lit 1))), (nat_lit 10, (.ofNat (nat_lit 0)))]), (nat_lit 4, nat_lit 0, [(nat_lit 60, (.ofNat (nat_lit 0))), (nat_lit 0, (.ofNat (nat_lit 7)))]), (nat_lit 6, nat_lit 0, [(nat_lit 9, (.ofNat (nat_lit 0))), (nat_lit 0, (.ofNat (nat_lit 4)))]), (nat_lit 8, nat_lit 5, []), (nat_lit 8, nat_lit 4, [(nat_lit 7, (.ofNat (nat_lit 0)))]), (nat_lit 0, nat_lit 1, [(nat_lit 6, (.ofNat (nat_lit 0))), (nat_lit 0, (.ofNat (nat_lit 1)))]), (nat_lit 6, nat_lit 0, [(nat_lit 6, (.ofNat (nat_lit 0))), (nat_lit 0, (.ofNat (nat_lit 4)))]), (nat_lit 9, nat_lit 0, [(nat_lit 5, (.ofNat (nat_lit 0))), (nat_lit 2, (.ofNat (nat_lit 0)))]), (nat_lit 4, nat_lit 0, [(nat_lit 60, (.ofNat (nat_lit 0))), (nat_lit 0, (.ofNat (nat_lit 6)))]), (nat_lit 6, nat_lit 1, [(nat_lit 4, (.ofNat (nat_lit 0))), (nat_lit 0, (.ofNat (nat_lit 3)))]), (nat_lit 4, nat_lit 0, [(nat_lit 60, (.ofNat (nat_lit 0))), (nat_lit 0, (.ofNat (nat_lit 6)))]), (nat_lit 6, nat_lit 5, [(nat_lit 3, (.ofNat (nat_lit 0))), (nat_lit 0, (.ofNat (nat_lit 13)))]), (nat_lit 4, nat_lit 0, [(nat_lit 60, (.ofNat (nat_lit 0))), (nat_lit 0, (.ofNat (nat_lit 6)))]), (nat_lit 6, nat_lit 3, [(nat_lit 2, (.ofNat (nat_lit 0))), (nat_lit 0, (.ofNat (nat_lit 1)))]), (nat_lit 4, nat_lit 0, [(nat_lit 60, (.ofNat (nat_lit 0))), (nat_lit 0, (.ofNat (nat_lit 6)))]), (nat_lit 6, nat_lit 1, [(nat_lit 1, (.ofNat (nat_lit 0))), (nat_lit 0, (.ofNat (nat_lit 14)))]), (nat_lit 4, nat_lit 0, [(nat_lit 60, (.ofNat (nat_lit 0))), (nat_lit 0, (.ofNat (nat_lit 6)))])],
  [(nat_lit 11, nat_lit 0, [(nat_lit 0, (.ofNat (nat_lit 1)))]), (nat_lit 8, nat_lit 1, []), (nat_lit 8, nat_lit 3, [(nat_lit 13, (.ofNat (nat_lit 0)))]), (nat_lit 4, nat_lit 0, [(nat_lit 60, (.ofNat (nat_lit 0))), (nat_lit 0, (.ofNat (nat_lit 6)))]), (nat_lit 8, nat_lit 2, []), (nat_lit 8, nat_lit 0, [(nat_lit 0, (.ofNat (nat_lit 1))), (nat_lit 10, (.ofNat (nat_lit 0)))]), (nat_lit 4, nat_lit 0, [(nat_lit 60, (.ofNat (nat_lit 0))), (nat_lit 0, (.ofNat (nat_lit 7)))]), (nat_lit 6, nat_lit 0, [(nat_lit 9, (.ofNat (nat_lit 0))), (nat_lit 0, (.ofNat (nat_lit 4)))]), (nat_lit 8, nat_lit 5, []), (nat_lit 8, nat_lit 4, [(nat_lit 7, (.ofNat (nat_lit 0)))]), (nat_lit 0, nat_lit 1, [(nat_lit 6, (.ofNat (nat_lit 0))), (nat_lit 0, (.ofNat (nat_lit 1)))]), (nat_lit 6, nat_lit 0, [(nat_lit 6, (.ofNat (nat_lit 0))), (nat_lit 0, (.ofNat (nat_lit 4)))]), (nat_lit 9, nat_lit 0, [(nat_lit 5, (.ofNat (nat_lit 0))), (nat_lit 2, (.ofNat (nat_lit 0)))]), (nat_lit 4, nat_lit 0, [(nat_lit 60, (.ofNat (nat_lit 0))), (nat_lit 0, (.ofNat (nat_lit 6)))]), (nat_lit 6, nat_lit 1, [(nat_lit 4, (.ofNat (nat_lit 0))), (nat_lit 0, (.ofNat (nat_lit 3)))]), (nat_lit 4, nat_lit 0, [(nat_lit 60, (.ofNat (nat_lit 0))), (nat_lit 0, (.ofNat (nat_lit 6)))]), (nat_lit 6, nat_lit 5, [(nat_lit 3, (.ofNat (nat_lit 0))), (nat_lit 0, (.ofNat (nat_lit 13)))]), (nat_lit 4, nat_lit 0, [(nat_lit 60, (.ofNat (nat_lit 0))), (nat_lit 0, (.ofNat (nat_lit 6)))]), (nat_lit 6, nat_lit 3, [(nat_lit 2, (.ofNat (nat_lit 0))), (nat_lit 0, (.ofNat (nat_lit 1)))]), (nat_lit 4, nat_lit 0, [(nat_lit 60, (.ofNat (nat_lit 0))), (nat_lit 0, (.ofNat (nat_lit 6)))]), (nat_lit 6, nat_lit 1, [(nat_lit 1, (.ofNat (nat_lit 0))), (nat_lit 0, (.ofNat (nat_lit 14)))]), (nat_lit 4, nat_lit 0, [(nat_lit 60, (.ofNat (nat_lit 0))), (nat_lit 0, (.ofNat (nat_lit 6)))])],
  [(nat_lit 13, nat_lit 0, [(nat_lit 0, (.ofNat (nat_lit 1))), (nat_lit 5, (.ofNat (nat_lit 0)))]), (nat_lit 4, nat_lit 0, [(nat_lit 60, (.ofNat (nat_lit 0))), (nat_lit 0, (.ofNat (nat_lit 7)))]), (nat_lit 6, nat_lit 0, [(nat_lit 4, (.ofNat (nat_lit 0))), (nat_lit 0, (.ofNat (nat_lit 3)))]), (nat_lit 4, nat_lit 0, [(nat_lit 60, (.ofNat (nat_lit 0))), (nat_lit 0, (.ofNat (nat_lit 6)))]), (nat_lit 6, nat_lit 5, [(nat_lit 3, (.ofNat (nat_lit 0))), (nat_lit 0, (.ofNat (nat_lit 13)))]), (nat_lit 4, nat_lit 0, [(nat_lit 60, (.ofNat (nat_lit 0))), (nat_lit 0, (.ofNat (nat_lit 6)))]), (nat_lit 6, nat_lit 3, [(nat_lit 2, (.ofNat (nat_lit 0))), (nat_lit 0, (.ofNat (nat_lit 1)))]), (nat_lit 4, nat_lit 0, [(nat_lit 60, (.ofNat (nat_lit 0))), (nat_lit 0, (.ofNat (nat_lit 6)))]), (nat_lit 6, nat_lit 1, [(nat_lit 1, (.ofNat (nat_lit 0))), (nat_lit 0, (.ofNat (nat_lit 14)))]), (nat_lit 4, nat_lit 0, [(nat_lit 60, (.ofNat (nat_lit 0))), (nat_lit 0, (.ofNat (nat_lit 6)))])],
  [(nat_lit 11, nat_lit 0, [(nat_lit 0, (.ofNat (nat_lit 0)))]), (nat_lit 8, nat_lit 0, [(nat_lit 0, (.ofNat (nat_lit 1))), (nat_lit 5, (.ofNat (nat_lit 0)))]), (nat_lit 4, nat_lit 0, [(nat_lit 60, (.ofNat (nat_lit 0))), (nat_lit 0, (.ofNat (nat_lit 7)))]), (nat_lit 6, nat_lit 0, [(nat_lit 4, (.ofNat (nat_lit 0))), (nat_lit 0, (.ofNat (nat_lit 3)))]), (nat_lit 4, nat_lit 0, [(nat_lit 60, (.ofNat (nat_lit 0))), (nat_lit 0, (.ofNat (nat_lit 6)))]), (nat_lit 6, nat_lit 5, [(nat_lit 3, (.ofNat (nat_lit 0))), (nat_lit 0, (.ofNat (nat_lit 13)))]), (nat_lit 4, nat_lit 0, [(nat_lit 60, (.ofNat (nat_lit 0))), (nat_lit 0, (.ofNat (nat_lit 6)))]), (nat_lit 6, nat_lit 3, [(nat_lit 2, (.ofNat (nat_lit 0))), (nat_lit 0, (.ofNat (nat_lit 1)))]), (nat_lit 4, nat_lit 0, [(nat_lit 60, (.ofNat (nat_lit 0))), (nat_lit 0, (.ofNat (nat_lit 6)))]), (nat_lit 6, nat_lit 1, [(nat_lit 1, (.ofNat (nat_lit 0))), (nat_lit 0, (.ofNat (nat_lit 14)))]), (nat_lit 4, nat_lit 0, [(nat_lit 60, (.ofNat (nat_lit 0))), (nat_lit 0, (.ofNat (nat_lit 6)))])],
  [(nat_lit 13, nat_lit 0, [(nat_lit 0, (.ofNat (nat_lit 1))), (nat_lit 5, (.ofNat (nat_lit 0)))]), (nat_lit 4, nat_lit 0, [(nat_lit 60, (.ofNat (nat_lit 0))), (nat_lit 0, (.ofNat (nat_lit 7)))]), (nat_lit 6, nat_lit 4, [(nat_lit 4, (.ofNat (nat_lit 0))), (nat_lit 0, (.ofNat (nat_lit 13)))]), (nat_lit 4, nat_lit 0, [(nat_lit 60, (.ofNat (nat_lit 0))), (nat_lit 0, (.ofNat (nat_lit 6)))]), (nat_lit 6, nat_lit 3, [(nat_lit 3, (.ofNat (nat_lit 0))), (nat_lit 0, (.ofNat (nat_lit 1)))]), (nat_lit 4, nat_lit 0, [(nat_lit 60, (.ofNat (nat_lit 0))), (nat_lit 0, (.ofNat (nat_lit 6)))]), (nat_lit 6, nat_lit 5, [(nat_lit 2, (.ofNat (nat_lit 0))), (nat_lit 0, (.ofNat (nat_lit 0)))]), (nat_lit 4, nat_lit 0, [(nat_lit 60, (.ofNat (nat_lit 0))), (nat_lit 0, (.ofNat (nat_lit 13)))]), (nat_lit 6, nat_lit 0, [(nat_lit 1, (.ofNat (nat_lit 0))), (nat_lit 0, (.ofNat (nat_lit 14)))]), (nat_lit 4, nat_lit 0, [(nat_lit 60, (.ofNat (nat_lit 0))), (nat_lit 0, (.ofNat (nat_lit 6)))])],
  [(nat_lit 11, nat_lit 0, [(nat_lit 0, (.ofNat (nat_lit 0)))]), (nat_lit 8, nat_lit 0, [(nat_lit 0, (.ofNat (nat_lit 1))), (nat_lit 5, (.ofNat (nat_lit 0)))]), (nat_lit 4, nat_lit 0, [(nat_lit 60, (.ofNat (nat_lit 0))), (nat_lit 0, (.ofNat (nat_lit 7)))]), (nat_lit 6, nat_lit 4, [(nat_lit 4, (.ofNat (nat_lit 0))), (nat_lit 0, (.ofNat (nat_lit 13)))]), (nat_lit 4, nat_lit 0, [(nat_lit 60, (.ofNat (nat_lit 0))), (nat_lit 0, (.ofNat (nat_lit 6)))]), (nat_lit 6, nat_lit 3, [(nat_lit 3, (.ofNat (nat_lit 0))), (nat_lit 0, (.ofNat (nat_lit 1)))]), (nat_lit 4, nat_lit 0, [(nat_lit 60, (.ofNat (nat_lit 0))), (nat_lit 0, (.ofNat (nat_lit 6)))]), (nat_lit 6, nat_lit 5, [(nat_lit 2, (.ofNat (nat_lit 0))), (nat_lit 0, (.ofNat (nat_lit 0)))]), (nat_lit 4, nat_lit 0, [(nat_lit 60, (.ofNat (nat_lit 0))), (nat_lit 0, (.ofNat (nat_lit 13)))]), (nat_lit 6, nat_lit 0, [(nat_lit 1, (.ofNat (nat_lit 0))), (nat_lit 0, (.ofNat (nat_lit 14)))]), (nat_lit 4, nat_lit 0, [(nat_lit 60, (.ofNat (nat_lit 0))), (nat_lit 0, (.ofNat (nat_lit 6)))])],
  [(nat_lit 13, nat_lit 4, [(nat_lit 3, (.ofNat (nat_lit 0)))]), (nat_lit 9, nat_lit 0, [(nat_lit 0, (.ofNat (nat_lit 1))), (nat_lit 2, (.ofNat (nat_lit 0)))]), (nat_lit 6, nat_lit 4, [(nat_lit 2, (.ofNat (nat_lit 0))), (nat_lit 0, (.ofNat (nat_lit 0)))]), (nat_lit 4, nat_lit 0, [(nat_lit 60, (.ofNat (nat_lit 0))), (nat_lit 0, (.ofNat (nat_lit 13)))]), (nat_lit 6, nat_lit 0, [(nat_lit 1, (.ofNat (nat_lit 0))), (nat_lit 0, (.ofNat (nat_lit 14)))]), (nat_lit 4, nat_lit 0, [(nat_lit 60, (.ofNat (nat_lit 0))), (nat_lit 0, (.ofNat (nat_lit 6)))])]]
def zFqe_readSign : List (List zK) := [[(nat_lit 7, nat_lit 4, [(nat_lit 5, (.ofNat (nat_lit 0))), (nat_lit 2, (.ofNat (nat_lit 0)))]), (nat_lit 4, nat_lit 0, [(nat_lit 60, (.ofNat (nat_lit 0))), (nat_lit 0, (.ofNat (nat_lit 6)))]), (nat_lit 6, nat_lit 1, [(nat_lit 4, (.ofNat (nat_lit 0))), (nat_lit 0, (.ofNat (nat_lit 3)))]), (nat_lit 4, nat_lit 0, [(nat_lit 60, (.ofNat (nat_lit 0))), (nat_lit 0, (.ofNat (nat_lit 6)))]), (nat_lit 6, nat_lit 5, [(nat_lit 3, (.ofNat (nat_lit 0))), (nat_lit 0, (.ofNat (nat_lit 13)))]), (nat_lit 4, nat_lit 0, [(nat_lit 60, (.ofNat (nat_lit 0))), (nat_lit 0, (.ofNat (nat_lit 6)))]), (nat_lit 6, nat_lit 3, [(nat_lit 2, (.ofNat (nat_lit 0))), (nat_lit 0, (.ofNat (nat_lit 1)))]), (nat_lit 4, nat_lit 0, [(nat_lit 60, (.ofNat (nat_lit 0))), (nat_lit 0, (.ofNat (nat_lit 6)))]), (nat_lit 6, nat_lit 1, [(nat_lit 1, (.ofNat (nat_lit 0))), (nat_lit 0, (.ofNat (nat_lit 14)))]), (nat_lit 4, nat_lit 0, [(nat_lit 60, (.ofNat (nat_lit 0))), (nat_lit 0, (.ofNat (nat_lit 6)))])],
  [(nat_lit 7, nat_lit 4, [(nat_lit 0, (.ofNat (nat_lit 1))), (nat_lit 2, (.ofNat (nat_lit 0)))]), (nat_lit 6, nat_lit 4, [(nat_lit 2, (.ofNat (nat_lit 0))), (nat_lit 0, (.ofNat (nat_lit 0)))]), (nat_lit 4, nat_lit 0, [(nat_lit 60, (.ofNat (nat_lit 0))), (nat_lit 0, (.ofNat (nat_lit 13)))]), (nat_lit 6, nat_lit 0, [(nat_lit 1, (.ofNat (nat_lit 0))), (nat_lit 0, (.ofNat (nat_lit 14)))]), (nat_lit 4, nat_lit 0, [(nat_lit 60, (.ofNat (nat_lit 0))), (nat_lit 0, (.ofNat (nat_lit 6)))])],
  [(nat_lit 13, nat_lit 1, []), (nat_lit 5, nat_lit 0, [(nat_lit 60, (.ofNat (nat_lit 0))), (nat_lit 0, (.ofNat (nat_lit 13))), (nat_lit 8, (.ofNat (nat_lit 0)))]), (nat_lit 0, nat_lit 2, [(nat_lit 7, (.ofNat (nat_lit 0))), (nat_lit 0, (.ofNat (nat_lit 1)))]), (nat_lit 4, nat_lit 0, [(nat_lit 60, (.ofNat (nat_lit 0))), (nat_lit 0, (.ofNat (nat_lit 13)))]), (nat_lit 5, nat_lit 0, [(nat_lit 60, (.ofNat (nat_lit 0))), (nat_lit 0, (.ofNat (nat_lit 12))), (nat_lit 6, (.ofNat (nat_lit 0)))]), (nat_lit 0, nat_lit 2, [(nat_lit 5, (.ofNat (nat_lit 0))), (nat_lit 0, (.ofNat (nat_lit 1)))]), (nat_lit 4, nat_lit 0, [(nat_lit 60, (.ofNat (nat_lit 0))), (nat_lit 0, (.ofNat (nat_lit 12)))]), (nat_lit 8, nat_lit 4, [(nat_lit 3, (.ofNat (nat_lit 0)))]), (nat_lit 9, nat_lit 0, [(nat_lit 0, (.ofNat (nat_lit 1))), (nat_lit 2, (.ofNat (nat_lit 0)))]), (nat_lit 6, nat_lit 4, [(nat_lit 2, (.ofNat (nat_lit 0))), (nat_lit 0, (.ofNat (nat_lit 0)))]), (nat_lit 4, nat_lit 0, [(nat_lit 60, (.ofNat (nat_lit 0))), (nat_lit 0, (.ofNat (nat_lit 13)))]), (nat_lit 6, nat_lit 0, [(nat_lit 1, (.ofNat (nat_lit 0))), (nat_lit 0, (.ofNat (nat_lit 14)))]), (nat_lit 4, nat_lit 0, [(nat_lit 60, (.ofNat (nat_lit 0))), (nat_lit 0, (.ofNat (nat_lit 6)))])],
  [(nat_lit 7, nat_lit 2, [(nat_lit 0, (.ofNat (nat_lit 0)))]), (nat_lit 8, nat_lit 1, []), (nat_lit 5, nat_lit 0, [(nat_lit 60, (.ofNat (nat_lit 0))), (nat_lit 0, (.ofNat (nat_lit 13))), (nat_lit 8, (.ofNat (nat_lit 0)))]), (nat_lit 0, nat_lit 2, [(nat_lit 7, (.ofNat (nat_lit 0))), (nat_lit 0, (.ofNat (nat_lit 1)))]), (nat_lit 4, nat_lit 0, [(nat_lit 60, (.ofNat (nat_lit 0))), (nat_lit 0, (.ofNat (nat_lit 13)))]), (nat_lit 5, nat_lit 0, [(nat_lit 60, (.ofNat (nat_lit 0))), (nat_lit 0, (.ofNat (nat_lit 12))), (nat_lit 6, (.ofNat (nat_lit 0)))]), (nat_lit 0, nat_lit 2, [(nat_lit 5, (.ofNat (nat_lit 0))), (nat_lit 0, (.ofNat (nat_lit 1)))]), (nat_lit 4, nat_lit 0, [(nat_lit 60, (.ofNat (nat_lit 0))), (nat_lit 0, (.ofNat (nat_lit 12)))]), (nat_lit 8, nat_lit 4, [(nat_lit 3, (.ofNat (nat_lit 0)))]), (nat_lit 9, nat_lit 0, [(nat_lit 0, (.ofNat (nat_lit 1))), (nat_lit 2, (.ofNat (nat_lit 0)))]), (nat_lit 6, nat_lit 4, [(nat_lit 2, (.ofNat (nat_lit 0))), (nat_lit 0, (.ofNat (nat_lit 0)))]), (nat_lit 4, nat_lit 0, [(nat_lit 60, (.ofNat (nat_lit 0))), (nat_lit 0, (.ofNat (nat_lit 13)))]), (nat_lit 6, nat_lit 0, [(nat_lit 1, (.ofNat (nat_lit 0))), (nat_lit 0, (.ofNat (nat_lit 14)))]), (nat_lit 4, nat_lit 0, [(nat_lit 60, (.ofNat (nat_lit 0))), (nat_lit 0, (.ofNat (nat_lit 6)))])],
  [(nat_lit 11, nat_lit 0, [(nat_lit 0, (.ofNat (nat_lit 0)))]), (nat_lit 8, nat_lit 1, []), (nat_lit 5, nat_lit 0, [(nat_lit 60, (.ofNat (nat_lit 0))), (nat_lit 0, (.ofNat (nat_lit 13))), (nat_lit 8, (.ofNat (nat_lit 0)))]), (nat_lit 0, nat_lit 2, [(nat_lit 7, (.ofNat (nat_lit 0))), (nat_lit 0, (.ofNat (nat_lit 1)))]), (nat_lit 4, nat_lit 0, [(nat_lit 60, (.ofNat (nat_lit 0))), (nat_lit 0, (.ofNat (nat_lit 13)))]), (nat_lit 5, nat_lit 0, [(nat_lit 60, (.ofNat (nat_lit 0))), (nat_lit 0, (.ofNat (nat_lit 12))), (nat_lit 6, (.ofNat (nat_lit 0)))]), (nat_lit 0, nat_lit 2, [(nat_lit 5, (.ofNat (nat_lit 0))), (nat_lit 0, (.ofNat (nat_lit 1)))]), (nat_lit 4, nat_lit 0, [(nat_lit 60, (.ofNat (nat_lit 0))), (nat_lit 0, (.ofNat (nat_lit 12)))]), (nat_lit 8, nat_lit 4, [(nat_lit 3, (.ofNat (nat_lit 0)))]), (nat_lit 9, nat_lit 0, [(nat_lit 0, (.ofNat (nat_lit 1))), (nat_lit 2, (.ofNat (nat_lit 0)))]), (nat_lit 6, nat_lit 4, [(nat_lit 2, (.ofNat (nat_lit 0))), (nat_lit 0, (.ofNat (nat_lit 0)))]), (nat_lit 4, nat_lit 0, [(nat_lit 60, (.ofNat (nat_lit 0))), (nat_lit 0, (.ofNat (nat_lit 13)))]), (nat_lit 6, nat_lit 0, [(nat_lit 1, (.ofNat (nat_lit 0))), (nat_lit 0, (.ofNat (nat_lit 14)))]), (nat_lit 4, nat_lit 0, [(nat_lit 60, (.ofNat (nat_lit 0))), (nat_lit 0, (.ofNat (nat_lit 6)))])]]
set_option maxHeartbeats 8000000 in
theorem zqe_readSign {ro : Nat → List Int32} (hro : ro 2 = [0, 1, 2, 3, 4, 4, 4, 4, 4, 4, 5, 5, 6, 6]) : zMet pr_P pr_K pr_df ro (sm_X0 1 6) 3 40 tm_qe [(.inr (.inr (.inl (nat_lit 60))))] 2 [(nat_lit 60, nat_lit 3, nat_lit 1), (nat_lit 60, nat_lit 9, nat_lit 61), (nat_lit 60, nat_lit 10, nat_lit 62), (nat_lit 60, nat_lit 11, nat_lit 63), (nat_lit 60, nat_lit 2, nat_lit 32), (nat_lit 32, nat_lit 8, nat_lit 33), (nat_lit 32, nat_lit 9, nat_lit 34), (nat_lit 32, nat_lit 10, nat_lit 35), (nat_lit 32, nat_lit 11, nat_lit 36), (nat_lit 32, nat_lit 12, nat_lit 41), (nat_lit 32, nat_lit 13, nat_lit 46), (nat_lit 32, nat_lit 14, nat_lit 47), (nat_lit 36, nat_lit 0, nat_lit 37), (nat_lit 41, nat_lit 0, nat_lit 42), (nat_lit 36, nat_lit 1, nat_lit 38), (nat_lit 41, nat_lit 1, nat_lit 43), (nat_lit 36, nat_lit 2, nat_lit 39), (nat_lit 41, nat_lit 2, nat_lit 44), (nat_lit 36, nat_lit 3, nat_lit 40), (nat_lit 41, nat_lit 3, nat_lit 45), (nat_lit 47, nat_lit 2, nat_lit 48), (nat_lit 47, nat_lit 3, nat_lit 49), (nat_lit 47, nat_lit 4, nat_lit 50), (nat_lit 47, nat_lit 5, nat_lit 51), (nat_lit 47, nat_lit 6, nat_lit 52)] [] (fun xs η => sP wl_qe zTr zPqe_readSign xs η ∧ pPqe_readSign xs η) (fun xs η y η' => sQ wl_qe zTr zOqe_readSign zMqe_readSign xs η y η' ∧ pQqe_readSign xs η y η') :=
  zmet_alt (zmea_gen (mi := (nat_lit 0, nat_lit 1, nat_lit 3, nat_lit 2, nat_lit 2, tX3_readSign)) (cd := [(nat_lit 31, nat_lit 0, nat_lit 0, [(.inr (.inr (.inl (nat_lit 60)))), (.inl (nat_lit 1, (.ofNat (nat_lit 0)))), (.inl (nat_lit 2, (.ofNat (nat_lit 0))))], nat_lit 0, [(nat_lit 60, nat_lit 3, nat_lit 1), (nat_lit 60, nat_lit 9, nat_lit 61), (nat_lit 60, nat_lit 10, nat_lit 62), (nat_lit 60, nat_lit 11, nat_lit 63), (nat_lit 60, nat_lit 2, nat_lit 32), (nat_lit 32, nat_lit 8, nat_lit 33), (nat_lit 32, nat_lit 9, nat_lit 34), (nat_lit 32, nat_lit 10, nat_lit 35), (nat_lit 32, nat_lit 11, nat_lit 36), (nat_lit 32, nat_lit 12, nat_lit 41), (nat_lit 32, nat_lit 13, nat_lit 46), (nat_lit 32, nat_lit 14, nat_lit 47), (nat_lit 36, nat_lit 0, nat_lit 37), (nat_lit 41, nat_lit 0, nat_lit 42), (nat_lit 36, nat_lit 1, nat_lit 38), (nat_lit 41, nat_lit 1, nat_lit 43), (nat_lit 36, nat_lit 2, nat_lit 39), (nat_lit 41, nat_lit 2, nat_lit 44), (nat_lit 36, nat_lit 3, nat_lit 40), (nat_lit 41, nat_lit 3, nat_lit 45), (nat_lit 47, nat_lit 2, nat_lit 48), (nat_lit 47, nat_lit 3, nat_lit 49), (nat_lit 47, nat_lit 4, nat_lit 50), (nat_lit 47, nat_lit 5, nat_lit 51), (nat_lit 47, nat_lit 6, nat_lit 52)], []), (nat_lit 45, nat_lit 1, nat_lit 2, [(.inr (.inr (.inl (nat_lit 60))))], nat_lit 0, [(nat_lit 60, nat_lit 3, nat_lit 1), (nat_lit 60, nat_lit 9, nat_lit 61), (nat_lit 60, nat_lit 10, nat_lit 62), (nat_lit 60, nat_lit 11, nat_lit 63), (nat_lit 60, nat_lit 2, nat_lit 32), (nat_lit 32, nat_lit 8, nat_lit 33), (nat_lit 32, nat_lit 9, nat_lit 34), (nat_lit 32, nat_lit 10, nat_lit 35), (nat_lit 32, nat_lit 11, nat_lit 36), (nat_lit 32, nat_lit 12, nat_lit 41), (nat_lit 32, nat_lit 13, nat_lit 46), (nat_lit 32, nat_lit 14, nat_lit 47), (nat_lit 36, nat_lit 0, nat_lit 37), (nat_lit 41, nat_lit 0, nat_lit 42), (nat_lit 36, nat_lit 1, nat_lit 38), (nat_lit 41, nat_lit 1, nat_lit 43), (nat_lit 36, nat_lit 2, nat_lit 39), (nat_lit 41, nat_lit 2, nat_lit 44), (nat_lit 36, nat_lit 3, nat_lit 40), (nat_lit 41, nat_lit 3, nat_lit 45), (nat_lit 47, nat_lit 2, nat_lit 48), (nat_lit 47, nat_lit 3, nat_lit 49), (nat_lit 47, nat_lit 4, nat_lit 50), (nat_lit 47, nat_lit 5, nat_lit 51), (nat_lit 47, nat_lit 6, nat_lit 52)], []), (nat_lit 44, nat_lit 2, nat_lit 1, [(.inr (.inr (.inl (nat_lit 60))))], nat_lit 0, [(nat_lit 60, nat_lit 3, nat_lit 1), (nat_lit 60, nat_lit 9, nat_lit 61), (nat_lit 60, nat_lit 10, nat_lit 62), (nat_lit 60, nat_lit 11, nat_lit 63), (nat_lit 60, nat_lit 2, nat_lit 32), (nat_lit 32, nat_lit 8, nat_lit 33), (nat_lit 32, nat_lit 9, nat_lit 34), (nat_lit 32, nat_lit 10, nat_lit 35), (nat_lit 32, nat_lit 11, nat_lit 36), (nat_lit 32, nat_lit 12, nat_lit 41), (nat_lit 32, nat_lit 13, nat_lit 46), (nat_lit 32, nat_lit 14, nat_lit 47), (nat_lit 36, nat_lit 0, nat_lit 37), (nat_lit 41, nat_lit 0, nat_lit 42), (nat_lit 36, nat_lit 1, nat_lit 38), (nat_lit 41, nat_lit 1, nat_lit 43), (nat_lit 36, nat_lit 2, nat_lit 39), (nat_lit 41, nat_lit 2, nat_lit 44), (nat_lit 36, nat_lit 3, nat_lit 40), (nat_lit 41, nat_lit 3, nat_lit 45), (nat_lit 47, nat_lit 2, nat_lit 48), (nat_lit 47, nat_lit 3, nat_lit 49), (nat_lit 47, nat_lit 4, nat_lit 50), (nat_lit 47, nat_lit 5, nat_lit 51), (nat_lit 47, nat_lit 6, nat_lit 52)], []), (nat_lit 43, nat_lit 3, nat_lit 0, [(.inr (.inr (.inl (nat_lit 60)))), (.inl (nat_lit 1, (.ofNat (nat_lit 0))))], nat_lit 0, [(nat_lit 60, nat_lit 3, nat_lit 1), (nat_lit 60, nat_lit 9, nat_lit 61), (nat_lit 60, nat_lit 10, nat_lit 62), (nat_lit 60, nat_lit 11, nat_lit 63), (nat_lit 60, nat_lit 2, nat_lit 32), (nat_lit 32, nat_lit 8, nat_lit 33), (nat_lit 32, nat_lit 9, nat_lit 34), (nat_lit 32, nat_lit 10, nat_lit 35), (nat_lit 32, nat_lit 11, nat_lit 36), (nat_lit 32, nat_lit 12, nat_lit 41), (nat_lit 32, nat_lit 13, nat_lit 46), (nat_lit 32, nat_lit 14, nat_lit 47), (nat_lit 36, nat_lit 0, nat_lit 37), (nat_lit 41, nat_lit 0, nat_lit 42), (nat_lit 36, nat_lit 1, nat_lit 38), (nat_lit 41, nat_lit 1, nat_lit 43), (nat_lit 36, nat_lit 2, nat_lit 39), (nat_lit 41, nat_lit 2, nat_lit 44), (nat_lit 36, nat_lit 3, nat_lit 40), (nat_lit 41, nat_lit 3, nat_lit 45), (nat_lit 47, nat_lit 2, nat_lit 48), (nat_lit 47, nat_lit 3, nat_lit 49), (nat_lit 47, nat_lit 4, nat_lit 50), (nat_lit 47, nat_lit 5, nat_lit 51), (nat_lit 47, nat_lit 6, nat_lit 52)], []), (nat_lit 42, nat_lit 4, nat_lit 1, [(.inr (.inr (.inl (nat_lit 60)))), (.inl (nat_lit 1, (.ofNat (nat_lit 0))))], nat_lit 0, [(nat_lit 60, nat_lit 3, nat_lit 1), (nat_lit 60, nat_lit 9, nat_lit 61), (nat_lit 60, nat_lit 10, nat_lit 62), (nat_lit 60, nat_lit 11, nat_lit 63), (nat_lit 60, nat_lit 2, nat_lit 32), (nat_lit 32, nat_lit 8, nat_lit 33), (nat_lit 32, nat_lit 9, nat_lit 34), (nat_lit 32, nat_lit 10, nat_lit 35), (nat_lit 32, nat_lit 11, nat_lit 36), (nat_lit 32, nat_lit 12, nat_lit 41), (nat_lit 32, nat_lit 13, nat_lit 46), (nat_lit 32, nat_lit 14, nat_lit 47), (nat_lit 36, nat_lit 0, nat_lit 37), (nat_lit 41, nat_lit 0, nat_lit 42), (nat_lit 36, nat_lit 1, nat_lit 38), (nat_lit 41, nat_lit 1, nat_lit 43), (nat_lit 36, nat_lit 2, nat_lit 39), (nat_lit 41, nat_lit 2, nat_lit 44), (nat_lit 36, nat_lit 3, nat_lit 40), (nat_lit 41, nat_lit 3, nat_lit 45), (nat_lit 47, nat_lit 2, nat_lit 48), (nat_lit 47, nat_lit 3, nat_lit 49), (nat_lit 47, nat_lit 4, nat_lit 50), (nat_lit 47, nat_lit 5, nat_lit 51), (nat_lit 47, nat_lit 6, nat_lit 52)], []), (nat_lit 41, nat_lit 5, nat_lit 0, [(.inr (.inr (.inl (nat_lit 60))))], nat_lit 1, [(nat_lit 60, nat_lit 3, nat_lit 1), (nat_lit 60, nat_lit 9, nat_lit 61), (nat_lit 60, nat_lit 10, nat_lit 62), (nat_lit 60, nat_lit 11, nat_lit 63), (nat_lit 60, nat_lit 2, nat_lit 32), (nat_lit 32, nat_lit 8, nat_lit 33), (nat_lit 32, nat_lit 9, nat_lit 34), (nat_lit 32, nat_lit 10, nat_lit 35), (nat_lit 32, nat_lit 11, nat_lit 36), (nat_lit 32, nat_lit 12, nat_lit 41), (nat_lit 32, nat_lit 13, nat_lit 46), (nat_lit 32, nat_lit 14, nat_lit 47), (nat_lit 36, nat_lit 0, nat_lit 37), (nat_lit 41, nat_lit 0, nat_lit 42), (nat_lit 36, nat_lit 1, nat_lit 38), (nat_lit 41, nat_lit 1, nat_lit 43), (nat_lit 36, nat_lit 2, nat_lit 39), (nat_lit 41, nat_lit 2, nat_lit 44), (nat_lit 36, nat_lit 3, nat_lit 40), (nat_lit 41, nat_lit 3, nat_lit 45), (nat_lit 47, nat_lit 2, nat_lit 48), (nat_lit 47, nat_lit 3, nat_lit 49), (nat_lit 47, nat_lit 4, nat_lit 50), (nat_lit 47, nat_lit 5, nat_lit 51), (nat_lit 47, nat_lit 6, nat_lit 52)], [])]) (cu := []) (cs := [(nat_lit 0, zPqe_flaw, zOqe_flaw, zMqe_flaw), (nat_lit 1, zPqe_next, zOqe_next, zMqe_next), (nat_lit 2, zPqe_tie, zOqe_tie, zMqe_tie), (nat_lit 3, zPqe_push, zOqe_push, zMqe_push), (nat_lit 4, zPqe_unwind, zOqe_unwind, zMqe_unwind), (nat_lit 5, zPqe_waitingRank, zOqe_waitingRank, zMqe_waitingRank)]) (iv := zVqe_readSign) (po := [zOqe_readSign]) (pr := zPqe_readSign) (mods := zMqe_readSign) (D7 := zDqe_readSign) (D0 := zEqe_readSign) (Dm := zFqe_readSign) (f0 := 53) pCqe_readSign qCqe_readSign iCqe_readSign pPqe_readSign (fun xs η _ y η' => pQqe_readSign xs η y η') zX_low pr_mtR rfl (List.forall_mem_cons.mpr ⟨zqe_flaw, List.forall_mem_cons.mpr ⟨zqe_next, List.forall_mem_cons.mpr ⟨zqe_tie, List.forall_mem_cons.mpr ⟨zqe_push, List.forall_mem_cons.mpr ⟨zqe_unwind hro, List.forall_mem_cons.mpr ⟨zqe_waitingRank hro, fun _ h => nomatch h⟩⟩⟩⟩⟩⟩) (by decide +kernel) (by decide +kernel) (by decide +kernel)
    (by
      intro xs η hr hl hp hpp
      match xs, hl, hp, hpp with
      | [], _, hp, hpp =>
        refine List.forall_mem_cons.mpr ⟨?_, List.forall_mem_cons.mpr ⟨?_, List.forall_mem_cons.mpr ⟨?_, List.forall_mem_cons.mpr ⟨?_, List.forall_mem_cons.mpr ⟨?_, List.forall_mem_cons.mpr ⟨?_, List.forall_mem_cons.mpr ⟨?_, List.forall_mem_cons.mpr ⟨?_, List.forall_mem_cons.mpr ⟨?_, List.forall_mem_cons.mpr ⟨?_, List.forall_mem_cons.mpr ⟨?_, List.forall_mem_cons.mpr ⟨?_, List.forall_mem_cons.mpr ⟨?_, List.forall_mem_cons.mpr ⟨?_, List.forall_mem_cons.mpr ⟨?_, List.forall_mem_cons.mpr ⟨?_, List.forall_mem_cons.mpr ⟨?_, List.forall_mem_cons.mpr ⟨?_, List.forall_mem_cons.mpr ⟨?_, List.forall_mem_cons.mpr ⟨?_, List.forall_mem_cons.mpr ⟨?_, List.forall_mem_cons.mpr ⟨?_, List.forall_mem_cons.mpr ⟨?_, List.forall_mem_cons.mpr ⟨?_, List.forall_mem_cons.mpr ⟨?_, fun _ h => nomatch h⟩⟩⟩⟩⟩⟩⟩⟩⟩⟩⟩⟩⟩⟩⟩⟩⟩⟩⟩⟩⟩⟩⟩⟩⟩
        · show ∀ x1 : Int, x1 = η 60 (Int.toNat 6) → zok 0 x1 → (¬ x1 = 14) → ∀ x2 : Int, x2 = η 60 (Int.toNat 6) → zok 0 x2 → (x2 < 1) → ∀ x3 : Int, x3 = η 60 (Int.toNat 7) → zok 0 x3 → ((gC2 wl_qe [(nat_lit 0, zPqe_flaw, zOqe_flaw, zMqe_flaw), (nat_lit 1, zPqe_next, zOqe_next, zMqe_next), (nat_lit 2, zPqe_tie, zOqe_tie, zMqe_tie), (nat_lit 3, zPqe_push, zOqe_push, zMqe_push), (nat_lit 4, zPqe_unwind, zOqe_unwind, zMqe_unwind), (nat_lit 5, zPqe_waitingRank, zOqe_waitingRank, zMqe_waitingRank)] pCqe_readSign qCqe_readSign) 0).1 [1, x3] η
          have wk0 : yp_wk η := hpp.2
          have hpp := hpp.1
          intro x1 e1 r1 c1 x2 e2 r2 c2 x3 e3 r3
          refine yj_a ?_ ?_
          · exact hpp.1
          · exact wk0
        · show ∀ x1 : Int, x1 = η 60 (Int.toNat 6) → zok 0 x1 → (¬ x1 = 14) → ∀ x2 : Int, x2 = η 60 (Int.toNat 6) → zok 0 x2 → (x2 < 1) → ∀ x3 : Int, x3 = η 60 (Int.toNat 7) → zok 0 x3 → ∀ (x4 : Int) (η1 : zE), ((gC2 wl_qe [(nat_lit 0, zPqe_flaw, zOqe_flaw, zMqe_flaw), (nat_lit 1, zPqe_next, zOqe_next, zMqe_next), (nat_lit 2, zPqe_tie, zOqe_tie, zMqe_tie), (nat_lit 3, zPqe_push, zOqe_push, zMqe_push), (nat_lit 4, zPqe_unwind, zOqe_unwind, zMqe_unwind), (nat_lit 5, zPqe_waitingRank, zOqe_waitingRank, zMqe_waitingRank)] pCqe_readSign qCqe_readSign) 0).2 [1, x3] η x4 η1 → (fun (_ : Nat) (y : Int) (η' : zE) => pQqe_readSign [] η y η') 0 0 η1
          have wk0 : yp_wk η := hpp.2
          have hpp := hpp.1
          intro x1 e1 r1 c1 x2 e2 r2 c2 x3 e3 r3 x4 η1 h4
          have y4 : fQqe_flaw [1, x3] η x4 η1 := h4.2.2
          have k4 : sQ wl_qe zTr zOqe_flaw zMqe_flaw [1, x3] η x4 η1 ∧ oQqe_flaw [1, x3] η x4 η1 := ⟨h4.1, h4.2.1⟩
          refine yj_a ?_ ?_
          · have y4 : fQqe_flaw [1, x3] η x4 η1 := h4.2.2
            have k4 : sQ wl_qe zTr zOqe_flaw zMqe_flaw [1, x3] η x4 η1 ∧ oQqe_flaw [1, x3] η x4 η1 := ⟨h4.1, h4.2.1⟩
            exact k4.2
          · have e1 : x1 = η 60 6 := e1
            clear r1
            have e2 : x2 = η 60 6 := e2
            clear r2
            have e3 : x3 = η 60 7 := e3
            clear r3
            have b4 : η1 = yp_flw 1 x3 η := y4
            clear k4 h4
            show 0 = (yp_sgw η) ∧ η1 = (yp_sgn η)
            subst e1
            subst e2
            subst e3
            subst b4
            refine ⟨?_, ?_⟩
            · unfold yp_sgw
              (repeat' split) <;> first | (exfalso; omega) | rfl
            · unfold yp_sgn yp_sg2
              (repeat' split) <;> first | (exfalso; omega) | rfl
        · show ∀ x1 : Int, x1 = η 60 (Int.toNat 6) → zok 0 x1 → (¬ x1 = 14) → ∀ x2 : Int, x2 = η 60 (Int.toNat 6) → zok 0 x2 → (1 ≤ x2) → ∀ x3 : Int, x3 = η 60 (Int.toNat 6) → zok 0 x3 → (13 < x3) → ∀ x4 : Int, x4 = η 60 (Int.toNat 7) → zok 0 x4 → ((gC2 wl_qe [(nat_lit 0, zPqe_flaw, zOqe_flaw, zMqe_flaw), (nat_lit 1, zPqe_next, zOqe_next, zMqe_next), (nat_lit 2, zPqe_tie, zOqe_tie, zMqe_tie), (nat_lit 3, zPqe_push, zOqe_push, zMqe_push), (nat_lit 4, zPqe_unwind, zOqe_unwind, zMqe_unwind), (nat_lit 5, zPqe_waitingRank, zOqe_waitingRank, zMqe_waitingRank)] pCqe_readSign qCqe_readSign) 0).1 [1, x4] η
          have wk0 : yp_wk η := hpp.2
          have hpp := hpp.1
          intro x1 e1 r1 c1 x2 e2 r2 c2 x3 e3 r3 c3 x4 e4 r4
          refine yj_a ?_ ?_
          · exact hpp.1
          · exact wk0
        · show ∀ x1 : Int, x1 = η 60 (Int.toNat 6) → zok 0 x1 → (¬ x1 = 14) → ∀ x2 : Int, x2 = η 60 (Int.toNat 6) → zok 0 x2 → (1 ≤ x2) → ∀ x3 : Int, x3 = η 60 (Int.toNat 6) → zok 0 x3 → (13 < x3) → ∀ x4 : Int, x4 = η 60 (Int.toNat 7) → zok 0 x4 → ∀ (x5 : Int) (η1 : zE), ((gC2 wl_qe [(nat_lit 0, zPqe_flaw, zOqe_flaw, zMqe_flaw), (nat_lit 1, zPqe_next, zOqe_next, zMqe_next), (nat_lit 2, zPqe_tie, zOqe_tie, zMqe_tie), (nat_lit 3, zPqe_push, zOqe_push, zMqe_push), (nat_lit 4, zPqe_unwind, zOqe_unwind, zMqe_unwind), (nat_lit 5, zPqe_waitingRank, zOqe_waitingRank, zMqe_waitingRank)] pCqe_readSign qCqe_readSign) 0).2 [1, x4] η x5 η1 → (fun (_ : Nat) (y : Int) (η' : zE) => pQqe_readSign [] η y η') 0 0 η1
          have wk0 : yp_wk η := hpp.2
          have hpp := hpp.1
          intro x1 e1 r1 c1 x2 e2 r2 c2 x3 e3 r3 c3 x4 e4 r4 x5 η1 h5
          have y5 : fQqe_flaw [1, x4] η x5 η1 := h5.2.2
          have k5 : sQ wl_qe zTr zOqe_flaw zMqe_flaw [1, x4] η x5 η1 ∧ oQqe_flaw [1, x4] η x5 η1 := ⟨h5.1, h5.2.1⟩
          refine yj_a ?_ ?_
          · have y5 : fQqe_flaw [1, x4] η x5 η1 := h5.2.2
            have k5 : sQ wl_qe zTr zOqe_flaw zMqe_flaw [1, x4] η x5 η1 ∧ oQqe_flaw [1, x4] η x5 η1 := ⟨h5.1, h5.2.1⟩
            exact k5.2
          · have e1 : x1 = η 60 6 := e1
            clear r1
            have e2 : x2 = η 60 6 := e2
            clear r2
            have e3 : x3 = η 60 6 := e3
            clear r3
            have e4 : x4 = η 60 7 := e4
            clear r4
            have b5 : η1 = yp_flw 1 x4 η := y5
            clear k5 h5
            show 0 = (yp_sgw η) ∧ η1 = (yp_sgn η)
            subst e1
            subst e2
            subst e3
            subst e4
            subst b5
            refine ⟨?_, ?_⟩
            · unfold yp_sgw
              (repeat' split) <;> first | (exfalso; omega) | rfl
            · unfold yp_sgn yp_sg2
              (repeat' split) <;> first | (exfalso; omega) | rfl
        · show ∀ x1 : Int, x1 = η 60 (Int.toNat 6) → zok 0 x1 → (¬ x1 = 14) → ∀ x2 : Int, x2 = η 60 (Int.toNat 6) → zok 0 x2 → (1 ≤ x2) → ∀ x3 : Int, x3 = η 60 (Int.toNat 6) → zok 0 x3 → (x3 ≤ 13) → ∀ x4 : Int, x4 = η 60 (Int.toNat 6) → zok 0 x4 → (¬ x4 = 3) → ∀ x5 : Int, x5 = η 60 (Int.toNat 6) → zok 0 x5 → ∀ x6 : Int, x6 = ((ro 2).getD (Int.toNat x5) 0).toInt → (¬ x6 = 4) → ((gC2 wl_qe [(nat_lit 0, zPqe_flaw, zOqe_flaw, zMqe_flaw), (nat_lit 1, zPqe_next, zOqe_next, zMqe_next), (nat_lit 2, zPqe_tie, zOqe_tie, zMqe_tie), (nat_lit 3, zPqe_push, zOqe_push, zMqe_push), (nat_lit 4, zPqe_unwind, zOqe_unwind, zMqe_unwind), (nat_lit 5, zPqe_waitingRank, zOqe_waitingRank, zMqe_waitingRank)] pCqe_readSign qCqe_readSign) 4).1 [x6] η
          have wk0 : yp_wk η := hpp.2
          have hpp := hpp.1
          intro x1 e1 r1 c1 x2 e2 r2 c2 x3 e3 r3 c3 x4 e4 r4 c4 x5 e5 r5 x6 e6 c5
          refine yj_a ?_ ?_
          · have e2 : x2 = η 60 6 := e2
            have e3 : x3 = η 60 6 := e3
            have e5 : x5 = η 60 6 := e5
            have rk := rk_1 x5.toNat (by omega)
            have e6 : x6 = (rk_q.getD x5.toNat 0).toInt := by rw [e6, hro]; rfl
            have u := rk.2 (by omega)
            exact ⟨hpp.1, show 1 ≤ x6 by omega⟩
          · exact wk0
        · show ∀ x1 : Int, x1 = η 60 (Int.toNat 6) → zok 0 x1 → (¬ x1 = 14) → ∀ x2 : Int, x2 = η 60 (Int.toNat 6) → zok 0 x2 → (1 ≤ x2) → ∀ x3 : Int, x3 = η 60 (Int.toNat 6) → zok 0 x3 → (x3 ≤ 13) → ∀ x4 : Int, x4 = η 60 (Int.toNat 6) → zok 0 x4 → (¬ x4 = 3) → ∀ x5 : Int, x5 = η 60 (Int.toNat 6) → zok 0 x5 → ∀ x6 : Int, x6 = ((ro 2).getD (Int.toNat x5) 0).toInt → (¬ x6 = 4) → ∀ (x7 : Int) (η1 : zE), ((gC2 wl_qe [(nat_lit 0, zPqe_flaw, zOqe_flaw, zMqe_flaw), (nat_lit 1, zPqe_next, zOqe_next, zMqe_next), (nat_lit 2, zPqe_tie, zOqe_tie, zMqe_tie), (nat_lit 3, zPqe_push, zOqe_push, zMqe_push), (nat_lit 4, zPqe_unwind, zOqe_unwind, zMqe_unwind), (nat_lit 5, zPqe_waitingRank, zOqe_waitingRank, zMqe_waitingRank)] pCqe_readSign qCqe_readSign) 4).2 [x6] η x7 η1 → ((gC2 wl_qe [(nat_lit 0, zPqe_flaw, zOqe_flaw, zMqe_flaw), (nat_lit 1, zPqe_next, zOqe_next, zMqe_next), (nat_lit 2, zPqe_tie, zOqe_tie, zMqe_tie), (nat_lit 3, zPqe_push, zOqe_push, zMqe_push), (nat_lit 4, zPqe_unwind, zOqe_unwind, zMqe_unwind), (nat_lit 5, zPqe_waitingRank, zOqe_waitingRank, zMqe_waitingRank)] pCqe_readSign qCqe_readSign) 2).1 [] η1
          have wk0 : yp_wk η := hpp.2
          have hpp := hpp.1
          intro x1 e1 r1 c1 x2 e2 r2 c2 x3 e3 r3 c3 x4 e4 r4 c4 x5 e5 r5 x6 e6 c5 x7 η1 h7
          have y7 : fQqe_unwind [x6] η x7 η1 := h7.2.2
          have k7 : sQ wl_qe zTr zOqe_unwind zMqe_unwind [x6] η x7 η1 ∧ oQqe_unwind [x6] η x7 η1 := ⟨h7.1, h7.2.1⟩
          refine yj_a ?_ ?_
          · have y7 : fQqe_unwind [x6] η x7 η1 := h7.2.2
            have k7 : sQ wl_qe zTr zOqe_unwind zMqe_unwind [x6] η x7 η1 ∧ oQqe_unwind [x6] η x7 η1 := ⟨h7.1, h7.2.1⟩
            exact k7.2.1
          · have wk1 : yp_wk η1 := wk_of wk0 (fun j => k7.1.2.2.2.1 62 j (zinr_not (by decide +kernel)))
            exact wk1
        · show ∀ x1 : Int, x1 = η 60 (Int.toNat 6) → zok 0 x1 → (¬ x1 = 14) → ∀ x2 : Int, x2 = η 60 (Int.toNat 6) → zok 0 x2 → (1 ≤ x2) → ∀ x3 : Int, x3 = η 60 (Int.toNat 6) → zok 0 x3 → (x3 ≤ 13) → ∀ x4 : Int, x4 = η 60 (Int.toNat 6) → zok 0 x4 → (¬ x4 = 3) → ∀ x5 : Int, x5 = η 60 (Int.toNat 6) → zok 0 x5 → ∀ x6 : Int, x6 = ((ro 2).getD (Int.toNat x5) 0).toInt → (¬ x6 = 4) → ∀ (x7 : Int) (η1 : zE), ((gC2 wl_qe [(nat_lit 0, zPqe_flaw, zOqe_flaw, zMqe_flaw), (nat_lit 1, zPqe_next, zOqe_next, zMqe_next), (nat_lit 2, zPqe_tie, zOqe_tie, zMqe_tie), (nat_lit 3, zPqe_push, zOqe_push, zMqe_push), (nat_lit 4, zPqe_unwind, zOqe_unwind, zMqe_unwind), (nat_lit 5, zPqe_waitingRank, zOqe_waitingRank, zMqe_waitingRank)] pCqe_readSign qCqe_readSign) 4).2 [x6] η x7 η1 → ∀ (x8 : Int) (η2 : zE), ((gC2 wl_qe [(nat_lit 0, zPqe_flaw, zOqe_flaw, zMqe_flaw), (nat_lit 1, zPqe_next, zOqe_next, zMqe_next), (nat_lit 2, zPqe_tie, zOqe_tie, zMqe_tie), (nat_lit 3, zPqe_push, zOqe_push, zMqe_push), (nat_lit 4, zPqe_unwind, zOqe_unwind, zMqe_unwind), (nat_lit 5, zPqe_waitingRank, zOqe_waitingRank, zMqe_waitingRank)] pCqe_readSign qCqe_readSign) 2).2 [] η1 x8 η2 → ∀ x9 : Int, x9 = η2 60 (Int.toNat 6) → zok 0 x9 → ((gC2 wl_qe [(nat_lit 0, zPqe_flaw, zOqe_flaw, zMqe_flaw), (nat_lit 1, zPqe_next, zOqe_next, zMqe_next), (nat_lit 2, zPqe_tie, zOqe_tie, zMqe_tie), (nat_lit 3, zPqe_push, zOqe_push, zMqe_push), (nat_lit 4, zPqe_unwind, zOqe_unwind, zMqe_unwind), (nat_lit 5, zPqe_waitingRank, zOqe_waitingRank, zMqe_waitingRank)] pCqe_readSign qCqe_readSign) 3).1 [x9] η2
          have wk0 : yp_wk η := hpp.2
          have hpp := hpp.1
          intro x1 e1 r1 c1 x2 e2 r2 c2 x3 e3 r3 c3 x4 e4 r4 c4 x5 e5 r5 x6 e6 c5 x7 η1 h7 x8 η2 h8 x9 e9 r9
          have y7 : fQqe_unwind [x6] η x7 η1 := h7.2.2
          have k7 : sQ wl_qe zTr zOqe_unwind zMqe_unwind [x6] η x7 η1 ∧ oQqe_unwind [x6] η x7 η1 := ⟨h7.1, h7.2.1⟩
          have y8 : fQqe_tie [] η1 x8 η2 := h8.2.2
          have k8 : sQ wl_qe zTr zOqe_tie zMqe_tie [] η1 x8 η2 ∧ oQqe_tie [] η1 x8 η2 := ⟨h8.1, h8.2.1⟩
          refine yj_a ?_ ?_
          · have y7 : fQqe_unwind [x6] η x7 η1 := h7.2.2
            have k7 : sQ wl_qe zTr zOqe_unwind zMqe_unwind [x6] η x7 η1 ∧ oQqe_unwind [x6] η x7 η1 := ⟨h7.1, h7.2.1⟩
            have y8 : fQqe_tie [] η1 x8 η2 := h8.2.2
            have k8 : sQ wl_qe zTr zOqe_tie zMqe_tie [] η1 x8 η2 ∧ oQqe_tie [] η1 x8 η2 := ⟨h8.1, h8.2.1⟩
            exact k8.2.1
          · have wk1 : yp_wk η1 := wk_of wk0 (fun j => k7.1.2.2.2.1 62 j (zinr_not (by decide +kernel)))
            have wk2 : yp_wk η2 := wk_of wk1 (fun j => k8.1.2.2.2.1 62 j (zinr_not (by decide +kernel)))
            exact wk2
        · show ∀ x1 : Int, x1 = η 60 (Int.toNat 6) → zok 0 x1 → (¬ x1 = 14) → ∀ x2 : Int, x2 = η 60 (Int.toNat 6) → zok 0 x2 → (1 ≤ x2) → ∀ x3 : Int, x3 = η 60 (Int.toNat 6) → zok 0 x3 → (x3 ≤ 13) → ∀ x4 : Int, x4 = η 60 (Int.toNat 6) → zok 0 x4 → (¬ x4 = 3) → ∀ x5 : Int, x5 = η 60 (Int.toNat 6) → zok 0 x5 → ∀ x6 : Int, x6 = ((ro 2).getD (Int.toNat x5) 0).toInt → (¬ x6 = 4) → ∀ (x7 : Int) (η1 : zE), ((gC2 wl_qe [(nat_lit 0, zPqe_flaw, zOqe_flaw, zMqe_flaw), (nat_lit 1, zPqe_next, zOqe_next, zMqe_next), (nat_lit 2, zPqe_tie, zOqe_tie, zMqe_tie), (nat_lit 3, zPqe_push, zOqe_push, zMqe_push), (nat_lit 4, zPqe_unwind, zOqe_unwind, zMqe_unwind), (nat_lit 5, zPqe_waitingRank, zOqe_waitingRank, zMqe_waitingRank)] pCqe_readSign qCqe_readSign) 4).2 [x6] η x7 η1 → ∀ (x8 : Int) (η2 : zE), ((gC2 wl_qe [(nat_lit 0, zPqe_flaw, zOqe_flaw, zMqe_flaw), (nat_lit 1, zPqe_next, zOqe_next, zMqe_next), (nat_lit 2, zPqe_tie, zOqe_tie, zMqe_tie), (nat_lit 3, zPqe_push, zOqe_push, zMqe_push), (nat_lit 4, zPqe_unwind, zOqe_unwind, zMqe_unwind), (nat_lit 5, zPqe_waitingRank, zOqe_waitingRank, zMqe_waitingRank)] pCqe_readSign qCqe_readSign) 2).2 [] η1 x8 η2 → ∀ x9 : Int, x9 = η2 60 (Int.toNat 6) → zok 0 x9 → ∀ (x10 : Int) (η3 : zE), ((gC2 wl_qe [(nat_lit 0, zPqe_flaw, zOqe_flaw, zMqe_flaw), (nat_lit 1, zPqe_next, zOqe_next, zMqe_next), (nat_lit 2, zPqe_tie, zOqe_tie, zMqe_tie), (nat_lit 3, zPqe_push, zOqe_push, zMqe_push), (nat_lit 4, zPqe_unwind, zOqe_unwind, zMqe_unwind), (nat_lit 5, zPqe_waitingRank, zOqe_waitingRank, zMqe_waitingRank)] pCqe_readSign qCqe_readSign) 3).2 [x9] η2 x10 η3 → ((gC2 wl_qe [(nat_lit 0, zPqe_flaw, zOqe_flaw, zMqe_flaw), (nat_lit 1, zPqe_next, zOqe_next, zMqe_next), (nat_lit 2, zPqe_tie, zOqe_tie, zMqe_tie), (nat_lit 3, zPqe_push, zOqe_push, zMqe_push), (nat_lit 4, zPqe_unwind, zOqe_unwind, zMqe_unwind), (nat_lit 5, zPqe_waitingRank, zOqe_waitingRank, zMqe_waitingRank)] pCqe_readSign qCqe_readSign) 1).1 [] η3
          have wk0 : yp_wk η := hpp.2
          have hpp := hpp.1
          intro x1 e1 r1 c1 x2 e2 r2 c2 x3 e3 r3 c3 x4 e4 r4 c4 x5 e5 r5 x6 e6 c5 x7 η1 h7 x8 η2 h8 x9 e9 r9 x10 η3 h10
          have y7 : fQqe_unwind [x6] η x7 η1 := h7.2.2
          have k7 : sQ wl_qe zTr zOqe_unwind zMqe_unwind [x6] η x7 η1 ∧ oQqe_unwind [x6] η x7 η1 := ⟨h7.1, h7.2.1⟩
          have y8 : fQqe_tie [] η1 x8 η2 := h8.2.2
          have k8 : sQ wl_qe zTr zOqe_tie zMqe_tie [] η1 x8 η2 ∧ oQqe_tie [] η1 x8 η2 := ⟨h8.1, h8.2.1⟩
          have y10 : fQqe_push [x9] η2 x10 η3 := h10.2.2
          have k10 : sQ wl_qe zTr zOqe_push zMqe_push [x9] η2 x10 η3 ∧ oQqe_push [x9] η2 x10 η3 := ⟨h10.1, h10.2.1⟩
          refine yj_a ?_ ?_
          · have y7 : fQqe_unwind [x6] η x7 η1 := h7.2.2
            have k7 : sQ wl_qe zTr zOqe_unwind zMqe_unwind [x6] η x7 η1 ∧ oQqe_unwind [x6] η x7 η1 := ⟨h7.1, h7.2.1⟩
            have y8 : fQqe_tie [] η1 x8 η2 := h8.2.2
            have k8 : sQ wl_qe zTr zOqe_tie zMqe_tie [] η1 x8 η2 ∧ oQqe_tie [] η1 x8 η2 := ⟨h8.1, h8.2.1⟩
            have y10 : fQqe_push [x9] η2 x10 η3 := h10.2.2
            have k10 : sQ wl_qe zTr zOqe_push zMqe_push [x9] η2 x10 η3 ∧ oQqe_push [x9] η2 x10 η3 := ⟨h10.1, h10.2.1⟩
            exact k10.2
          · have wk1 : yp_wk η1 := wk_of wk0 (fun j => k7.1.2.2.2.1 62 j (zinr_not (by decide +kernel)))
            have wk2 : yp_wk η2 := wk_of wk1 (fun j => k8.1.2.2.2.1 62 j (zinr_not (by decide +kernel)))
            have wk3 : yp_wk η3 := wk_of wk2 (fun j => k10.1.2.2.2.1 62 j (zinr_not (by decide +kernel)))
            exact wk3
        · show ∀ x1 : Int, x1 = η 60 (Int.toNat 6) → zok 0 x1 → (¬ x1 = 14) → ∀ x2 : Int, x2 = η 60 (Int.toNat 6) → zok 0 x2 → (1 ≤ x2) → ∀ x3 : Int, x3 = η 60 (Int.toNat 6) → zok 0 x3 → (x3 ≤ 13) → ∀ x4 : Int, x4 = η 60 (Int.toNat 6) → zok 0 x4 → (¬ x4 = 3) → ∀ x5 : Int, x5 = η 60 (Int.toNat 6) → zok 0 x5 → ∀ x6 : Int, x6 = ((ro 2).getD (Int.toNat x5) 0).toInt → (¬ x6 = 4) → ∀ (x7 : Int) (η1 : zE), ((gC2 wl_qe [(nat_lit 0, zPqe_flaw, zOqe_flaw, zMqe_flaw), (nat_lit 1, zPqe_next, zOqe_next, zMqe_next), (nat_lit 2, zPqe_tie, zOqe_tie, zMqe_tie), (nat_lit 3, zPqe_push, zOqe_push, zMqe_push), (nat_lit 4, zPqe_unwind, zOqe_unwind, zMqe_unwind), (nat_lit 5, zPqe_waitingRank, zOqe_waitingRank, zMqe_waitingRank)] pCqe_readSign qCqe_readSign) 4).2 [x6] η x7 η1 → ∀ (x8 : Int) (η2 : zE), ((gC2 wl_qe [(nat_lit 0, zPqe_flaw, zOqe_flaw, zMqe_flaw), (nat_lit 1, zPqe_next, zOqe_next, zMqe_next), (nat_lit 2, zPqe_tie, zOqe_tie, zMqe_tie), (nat_lit 3, zPqe_push, zOqe_push, zMqe_push), (nat_lit 4, zPqe_unwind, zOqe_unwind, zMqe_unwind), (nat_lit 5, zPqe_waitingRank, zOqe_waitingRank, zMqe_waitingRank)] pCqe_readSign qCqe_readSign) 2).2 [] η1 x8 η2 → ∀ x9 : Int, x9 = η2 60 (Int.toNat 6) → zok 0 x9 → ∀ (x10 : Int) (η3 : zE), ((gC2 wl_qe [(nat_lit 0, zPqe_flaw, zOqe_flaw, zMqe_flaw), (nat_lit 1, zPqe_next, zOqe_next, zMqe_next), (nat_lit 2, zPqe_tie, zOqe_tie, zMqe_tie), (nat_lit 3, zPqe_push, zOqe_push, zMqe_push), (nat_lit 4, zPqe_unwind, zOqe_unwind, zMqe_unwind), (nat_lit 5, zPqe_waitingRank, zOqe_waitingRank, zMqe_waitingRank)] pCqe_readSign qCqe_readSign) 3).2 [x9] η2 x10 η3 → ∀ (x11 : Int) (η4 : zE), ((gC2 wl_qe [(nat_lit 0, zPqe_flaw, zOqe_flaw, zMqe_flaw), (nat_lit 1, zPqe_next, zOqe_next, zMqe_next), (nat_lit 2, zPqe_tie, zOqe_tie, zMqe_tie), (nat_lit 3, zPqe_push, zOqe_push, zMqe_push), (nat_lit 4, zPqe_unwind, zOqe_unwind, zMqe_unwind), (nat_lit 5, zPqe_waitingRank, zOqe_waitingRank, zMqe_waitingRank)] pCqe_readSign qCqe_readSign) 1).2 [] η3 x11 η4 → (fun (_ : Nat) (y : Int) (η' : zE) => pQqe_readSign [] η y η') 0 1 η4
          have wk0 : yp_wk η := hpp.2
          have hpp := hpp.1
          intro x1 e1 r1 c1 x2 e2 r2 c2 x3 e3 r3 c3 x4 e4 r4 c4 x5 e5 r5 x6 e6 c5 x7 η1 h7 x8 η2 h8 x9 e9 r9 x10 η3 h10 x11 η4 h11
          have y7 : fQqe_unwind [x6] η x7 η1 := h7.2.2
          have k7 : sQ wl_qe zTr zOqe_unwind zMqe_unwind [x6] η x7 η1 ∧ oQqe_unwind [x6] η x7 η1 := ⟨h7.1, h7.2.1⟩
          have y8 : fQqe_tie [] η1 x8 η2 := h8.2.2
          have k8 : sQ wl_qe zTr zOqe_tie zMqe_tie [] η1 x8 η2 ∧ oQqe_tie [] η1 x8 η2 := ⟨h8.1, h8.2.1⟩
          have y10 : fQqe_push [x9] η2 x10 η3 := h10.2.2
          have k10 : sQ wl_qe zTr zOqe_push zMqe_push [x9] η2 x10 η3 ∧ oQqe_push [x9] η2 x10 η3 := ⟨h10.1, h10.2.1⟩
          have y11 : fQqe_next [] η3 x11 η4 := h11.2.2
          have k11 : sQ wl_qe zTr zOqe_next zMqe_next [] η3 x11 η4 ∧ oQqe_next [] η3 x11 η4 := ⟨h11.1, h11.2.1⟩
          refine yj_a ?_ ?_
          · have y7 : fQqe_unwind [x6] η x7 η1 := h7.2.2
            have k7 : sQ wl_qe zTr zOqe_unwind zMqe_unwind [x6] η x7 η1 ∧ oQqe_unwind [x6] η x7 η1 := ⟨h7.1, h7.2.1⟩
            have y8 : fQqe_tie [] η1 x8 η2 := h8.2.2
            have k8 : sQ wl_qe zTr zOqe_tie zMqe_tie [] η1 x8 η2 ∧ oQqe_tie [] η1 x8 η2 := ⟨h8.1, h8.2.1⟩
            have y10 : fQqe_push [x9] η2 x10 η3 := h10.2.2
            have k10 : sQ wl_qe zTr zOqe_push zMqe_push [x9] η2 x10 η3 ∧ oQqe_push [x9] η2 x10 η3 := ⟨h10.1, h10.2.1⟩
            have y11 : fQqe_next [] η3 x11 η4 := h11.2.2
            have k11 : sQ wl_qe zTr zOqe_next zMqe_next [] η3 x11 η4 ∧ oQqe_next [] η3 x11 η4 := ⟨h11.1, h11.2.1⟩
            exact k11.2
          · have e1 : x1 = η 60 6 := e1
            clear r1
            have e2 : x2 = η 60 6 := e2
            clear r2
            have e3 : x3 = η 60 6 := e3
            clear r3
            have e4 : x4 = η 60 6 := e4
            clear r4
            have e5 : x5 = η 60 6 := e5
            clear r5
            have e6 : x6 = yp_rk x5 := by rw [e6, hro]; rfl
            have b7 : η1 = (yp_unw x6 η) := y7
            clear k7 h7
            have b8 : η2 = (yp_tie η1) := y8
            clear k8 h8
            have e9 : x9 = η2 60 6 := e9
            clear r9
            have b10 : η3 = (yp_psh x9 η2) := y10
            clear k10 h10
            have b11 : η4 = (yp_adv η3) := y11
            clear k11 h11
            show 1 = (yp_sgw η) ∧ η4 = (yp_sgn η)
            subst e1
            subst e2
            subst e3
            subst e4
            subst e5
            subst e6
            subst b7
            subst b8
            subst e9
            subst b10
            subst b11
            refine ⟨?_, ?_⟩
            · unfold yp_sgw
              (repeat' split) <;> first | (exfalso; omega) | rfl
            · unfold yp_sgn yp_sg2
              (repeat' split) <;> first | (exfalso; omega) | rfl
        · show ∀ x1 : Int, x1 = η 60 (Int.toNat 6) → zok 0 x1 → (¬ x1 = 14) → ∀ x2 : Int, x2 = η 60 (Int.toNat 6) → zok 0 x2 → (1 ≤ x2) → ∀ x3 : Int, x3 = η 60 (Int.toNat 6) → zok 0 x3 → (x3 ≤ 13) → ∀ x4 : Int, x4 = η 60 (Int.toNat 6) → zok 0 x4 → (¬ x4 = 3) → ∀ x5 : Int, x5 = η 60 (Int.toNat 6) → zok 0 x5 → ∀ x6 : Int, x6 = ((ro 2).getD (Int.toNat x5) 0).toInt → (x6 = 4) → ∀ x7 : Int, x7 = zd 0 1 x6 1 → ((gC2 wl_qe [(nat_lit 0, zPqe_flaw, zOqe_flaw, zMqe_flaw), (nat_lit 1, zPqe_next, zOqe_next, zMqe_next), (nat_lit 2, zPqe_tie, zOqe_tie, zMqe_tie), (nat_lit 3, zPqe_push, zOqe_push, zMqe_push), (nat_lit 4, zPqe_unwind, zOqe_unwind, zMqe_unwind), (nat_lit 5, zPqe_waitingRank, zOqe_waitingRank, zMqe_waitingRank)] pCqe_readSign qCqe_readSign) 4).1 [x7] η
          have wk0 : yp_wk η := hpp.2
          have hpp := hpp.1
          intro x1 e1 r1 c1 x2 e2 r2 c2 x3 e3 r3 c3 x4 e4 r4 c4 x5 e5 r5 x6 e6 c5 x7 e7
          refine yj_a ?_ ?_
          · have e2 : x2 = η 60 6 := e2
            have e3 : x3 = η 60 6 := e3
            have e5 : x5 = η 60 6 := e5
            have rk := rk_1 x5.toNat (by omega)
            have e6 : x6 = (rk_q.getD x5.toNat 0).toInt := by rw [e6, hro]; rfl
            have h7 : x7 = x6 + 1 := by rw [e7]; exact zd_a ⟨by omega, by omega⟩
            exact ⟨hpp.1, show 1 ≤ x7 by omega⟩
          · exact wk0
        · show ∀ x1 : Int, x1 = η 60 (Int.toNat 6) → zok 0 x1 → (¬ x1 = 14) → ∀ x2 : Int, x2 = η 60 (Int.toNat 6) → zok 0 x2 → (1 ≤ x2) → ∀ x3 : Int, x3 = η 60 (Int.toNat 6) → zok 0 x3 → (x3 ≤ 13) → ∀ x4 : Int, x4 = η 60 (Int.toNat 6) → zok 0 x4 → (¬ x4 = 3) → ∀ x5 : Int, x5 = η 60 (Int.toNat 6) → zok 0 x5 → ∀ x6 : Int, x6 = ((ro 2).getD (Int.toNat x5) 0).toInt → (x6 = 4) → ∀ x7 : Int, x7 = zd 0 1 x6 1 → ∀ (x8 : Int) (η1 : zE), ((gC2 wl_qe [(nat_lit 0, zPqe_flaw, zOqe_flaw, zMqe_flaw), (nat_lit 1, zPqe_next, zOqe_next, zMqe_next), (nat_lit 2, zPqe_tie, zOqe_tie, zMqe_tie), (nat_lit 3, zPqe_push, zOqe_push, zMqe_push), (nat_lit 4, zPqe_unwind, zOqe_unwind, zMqe_unwind), (nat_lit 5, zPqe_waitingRank, zOqe_waitingRank, zMqe_waitingRank)] pCqe_readSign qCqe_readSign) 4).2 [x7] η x8 η1 → ((gC2 wl_qe [(nat_lit 0, zPqe_flaw, zOqe_flaw, zMqe_flaw), (nat_lit 1, zPqe_next, zOqe_next, zMqe_next), (nat_lit 2, zPqe_tie, zOqe_tie, zMqe_tie), (nat_lit 3, zPqe_push, zOqe_push, zMqe_push), (nat_lit 4, zPqe_unwind, zOqe_unwind, zMqe_unwind), (nat_lit 5, zPqe_waitingRank, zOqe_waitingRank, zMqe_waitingRank)] pCqe_readSign qCqe_readSign) 5).1 [] η1
          have wk0 : yp_wk η := hpp.2
          have hpp := hpp.1
          intro x1 e1 r1 c1 x2 e2 r2 c2 x3 e3 r3 c3 x4 e4 r4 c4 x5 e5 r5 x6 e6 c5 x7 e7 x8 η1 h8
          have y8 : fQqe_unwind [x7] η x8 η1 := h8.2.2
          have k8 : sQ wl_qe zTr zOqe_unwind zMqe_unwind [x7] η x8 η1 ∧ oQqe_unwind [x7] η x8 η1 := ⟨h8.1, h8.2.1⟩
          refine yj_a ?_ ?_
          · have y8 : fQqe_unwind [x7] η x8 η1 := h8.2.2
            have k8 : sQ wl_qe zTr zOqe_unwind zMqe_unwind [x7] η x8 η1 ∧ oQqe_unwind [x7] η x8 η1 := ⟨h8.1, h8.2.1⟩
            exact k8.2.1
          · have wk1 : yp_wk η1 := wk_of wk0 (fun j => k8.1.2.2.2.1 62 j (zinr_not (by decide +kernel)))
            exact wk1
        · show ∀ x1 : Int, x1 = η 60 (Int.toNat 6) → zok 0 x1 → (¬ x1 = 14) → ∀ x2 : Int, x2 = η 60 (Int.toNat 6) → zok 0 x2 → (1 ≤ x2) → ∀ x3 : Int, x3 = η 60 (Int.toNat 6) → zok 0 x3 → (x3 ≤ 13) → ∀ x4 : Int, x4 = η 60 (Int.toNat 6) → zok 0 x4 → (¬ x4 = 3) → ∀ x5 : Int, x5 = η 60 (Int.toNat 6) → zok 0 x5 → ∀ x6 : Int, x6 = ((ro 2).getD (Int.toNat x5) 0).toInt → (x6 = 4) → ∀ x7 : Int, x7 = zd 0 1 x6 1 → ∀ (x8 : Int) (η1 : zE), ((gC2 wl_qe [(nat_lit 0, zPqe_flaw, zOqe_flaw, zMqe_flaw), (nat_lit 1, zPqe_next, zOqe_next, zMqe_next), (nat_lit 2, zPqe_tie, zOqe_tie, zMqe_tie), (nat_lit 3, zPqe_push, zOqe_push, zMqe_push), (nat_lit 4, zPqe_unwind, zOqe_unwind, zMqe_unwind), (nat_lit 5, zPqe_waitingRank, zOqe_waitingRank, zMqe_waitingRank)] pCqe_readSign qCqe_readSign) 4).2 [x7] η x8 η1 → ∀ (x9 : Int) (η2 : zE), ((gC2 wl_qe [(nat_lit 0, zPqe_flaw, zOqe_flaw, zMqe_flaw), (nat_lit 1, zPqe_next, zOqe_next, zMqe_next), (nat_lit 2, zPqe_tie, zOqe_tie, zMqe_tie), (nat_lit 3, zPqe_push, zOqe_push, zMqe_push), (nat_lit 4, zPqe_unwind, zOqe_unwind, zMqe_unwind), (nat_lit 5, zPqe_waitingRank, zOqe_waitingRank, zMqe_waitingRank)] pCqe_readSign qCqe_readSign) 5).2 [] η1 x9 η2 → (¬ x9 = 4) → ((gC2 wl_qe [(nat_lit 0, zPqe_flaw, zOqe_flaw, zMqe_flaw), (nat_lit 1, zPqe_next, zOqe_next, zMqe_next), (nat_lit 2, zPqe_tie, zOqe_tie, zMqe_tie), (nat_lit 3, zPqe_push, zOqe_push, zMqe_push), (nat_lit 4, zPqe_unwind, zOqe_unwind, zMqe_unwind), (nat_lit 5, zPqe_waitingRank, zOqe_waitingRank, zMqe_waitingRank)] pCqe_readSign qCqe_readSign) 2).1 [] η2
          have wk0 : yp_wk η := hpp.2
          have hpp := hpp.1
          intro x1 e1 r1 c1 x2 e2 r2 c2 x3 e3 r3 c3 x4 e4 r4 c4 x5 e5 r5 x6 e6 c5 x7 e7 x8 η1 h8 x9 η2 h9 c6
          have y8 : fQqe_unwind [x7] η x8 η1 := h8.2.2
          have k8 : sQ wl_qe zTr zOqe_unwind zMqe_unwind [x7] η x8 η1 ∧ oQqe_unwind [x7] η x8 η1 := ⟨h8.1, h8.2.1⟩
          have y9 : fQqe_waitingRank [] η1 x9 η2 := h9.2.2
          have k9 : sQ wl_qe zTr zOqe_waitingRank zMqe_waitingRank [] η1 x9 η2 ∧ oQqe_waitingRank [] η1 x9 η2 := ⟨h9.1, h9.2.1⟩
          refine yj_a ?_ ?_
          · have y8 : fQqe_unwind [x7] η x8 η1 := h8.2.2
            have k8 : sQ wl_qe zTr zOqe_unwind zMqe_unwind [x7] η x8 η1 ∧ oQqe_unwind [x7] η x8 η1 := ⟨h8.1, h8.2.1⟩
            have y9 : fQqe_waitingRank [] η1 x9 η2 := h9.2.2
            have k9 : sQ wl_qe zTr zOqe_waitingRank zMqe_waitingRank [] η1 x9 η2 ∧ oQqe_waitingRank [] η1 x9 η2 := ⟨h9.1, h9.2.1⟩
            exact k9.2
          · have wk1 : yp_wk η1 := wk_of wk0 (fun j => k8.1.2.2.2.1 62 j (zinr_not (by decide +kernel)))
            have wk2 : yp_wk η2 := wk_of wk1 (fun j => k9.1.2.2.2.1 62 j (zinr_not (by decide +kernel)))
            exact wk2
        · show ∀ x1 : Int, x1 = η 60 (Int.toNat 6) → zok 0 x1 → (¬ x1 = 14) → ∀ x2 : Int, x2 = η 60 (Int.toNat 6) → zok 0 x2 → (1 ≤ x2) → ∀ x3 : Int, x3 = η 60 (Int.toNat 6) → zok 0 x3 → (x3 ≤ 13) → ∀ x4 : Int, x4 = η 60 (Int.toNat 6) → zok 0 x4 → (¬ x4 = 3) → ∀ x5 : Int, x5 = η 60 (Int.toNat 6) → zok 0 x5 → ∀ x6 : Int, x6 = ((ro 2).getD (Int.toNat x5) 0).toInt → (x6 = 4) → ∀ x7 : Int, x7 = zd 0 1 x6 1 → ∀ (x8 : Int) (η1 : zE), ((gC2 wl_qe [(nat_lit 0, zPqe_flaw, zOqe_flaw, zMqe_flaw), (nat_lit 1, zPqe_next, zOqe_next, zMqe_next), (nat_lit 2, zPqe_tie, zOqe_tie, zMqe_tie), (nat_lit 3, zPqe_push, zOqe_push, zMqe_push), (nat_lit 4, zPqe_unwind, zOqe_unwind, zMqe_unwind), (nat_lit 5, zPqe_waitingRank, zOqe_waitingRank, zMqe_waitingRank)] pCqe_readSign qCqe_readSign) 4).2 [x7] η x8 η1 → ∀ (x9 : Int) (η2 : zE), ((gC2 wl_qe [(nat_lit 0, zPqe_flaw, zOqe_flaw, zMqe_flaw), (nat_lit 1, zPqe_next, zOqe_next, zMqe_next), (nat_lit 2, zPqe_tie, zOqe_tie, zMqe_tie), (nat_lit 3, zPqe_push, zOqe_push, zMqe_push), (nat_lit 4, zPqe_unwind, zOqe_unwind, zMqe_unwind), (nat_lit 5, zPqe_waitingRank, zOqe_waitingRank, zMqe_waitingRank)] pCqe_readSign qCqe_readSign) 5).2 [] η1 x9 η2 → (¬ x9 = 4) → ∀ (x10 : Int) (η3 : zE), ((gC2 wl_qe [(nat_lit 0, zPqe_flaw, zOqe_flaw, zMqe_flaw), (nat_lit 1, zPqe_next, zOqe_next, zMqe_next), (nat_lit 2, zPqe_tie, zOqe_tie, zMqe_tie), (nat_lit 3, zPqe_push, zOqe_push, zMqe_push), (nat_lit 4, zPqe_unwind, zOqe_unwind, zMqe_unwind), (nat_lit 5, zPqe_waitingRank, zOqe_waitingRank, zMqe_waitingRank)] pCqe_readSign qCqe_readSign) 2).2 [] η2 x10 η3 → ∀ x11 : Int, x11 = η3 60 (Int.toNat 6) → zok 0 x11 → ((gC2 wl_qe [(nat_lit 0, zPqe_flaw, zOqe_flaw, zMqe_flaw), (nat_lit 1, zPqe_next, zOqe_next, zMqe_next), (nat_lit 2, zPqe_tie, zOqe_tie, zMqe_tie), (nat_lit 3, zPqe_push, zOqe_push, zMqe_push), (nat_lit 4, zPqe_unwind, zOqe_unwind, zMqe_unwind), (nat_lit 5, zPqe_waitingRank, zOqe_waitingRank, zMqe_waitingRank)] pCqe_readSign qCqe_readSign) 3).1 [x11] η3
          have wk0 : yp_wk η := hpp.2
          have hpp := hpp.1
          intro x1 e1 r1 c1 x2 e2 r2 c2 x3 e3 r3 c3 x4 e4 r4 c4 x5 e5 r5 x6 e6 c5 x7 e7 x8 η1 h8 x9 η2 h9 c6 x10 η3 h10 x11 e11 r11
          have y8 : fQqe_unwind [x7] η x8 η1 := h8.2.2
          have k8 : sQ wl_qe zTr zOqe_unwind zMqe_unwind [x7] η x8 η1 ∧ oQqe_unwind [x7] η x8 η1 := ⟨h8.1, h8.2.1⟩
          have y9 : fQqe_waitingRank [] η1 x9 η2 := h9.2.2
          have k9 : sQ wl_qe zTr zOqe_waitingRank zMqe_waitingRank [] η1 x9 η2 ∧ oQqe_waitingRank [] η1 x9 η2 := ⟨h9.1, h9.2.1⟩
          have y10 : fQqe_tie [] η2 x10 η3 := h10.2.2
          have k10 : sQ wl_qe zTr zOqe_tie zMqe_tie [] η2 x10 η3 ∧ oQqe_tie [] η2 x10 η3 := ⟨h10.1, h10.2.1⟩
          refine yj_a ?_ ?_
          · have y8 : fQqe_unwind [x7] η x8 η1 := h8.2.2
            have k8 : sQ wl_qe zTr zOqe_unwind zMqe_unwind [x7] η x8 η1 ∧ oQqe_unwind [x7] η x8 η1 := ⟨h8.1, h8.2.1⟩
            have y9 : fQqe_waitingRank [] η1 x9 η2 := h9.2.2
            have k9 : sQ wl_qe zTr zOqe_waitingRank zMqe_waitingRank [] η1 x9 η2 ∧ oQqe_waitingRank [] η1 x9 η2 := ⟨h9.1, h9.2.1⟩
            have y10 : fQqe_tie [] η2 x10 η3 := h10.2.2
            have k10 : sQ wl_qe zTr zOqe_tie zMqe_tie [] η2 x10 η3 ∧ oQqe_tie [] η2 x10 η3 := ⟨h10.1, h10.2.1⟩
            exact k10.2.1
          · have wk1 : yp_wk η1 := wk_of wk0 (fun j => k8.1.2.2.2.1 62 j (zinr_not (by decide +kernel)))
            have wk2 : yp_wk η2 := wk_of wk1 (fun j => k9.1.2.2.2.1 62 j (zinr_not (by decide +kernel)))
            have wk3 : yp_wk η3 := wk_of wk2 (fun j => k10.1.2.2.2.1 62 j (zinr_not (by decide +kernel)))
            exact wk3
        · show ∀ x1 : Int, x1 = η 60 (Int.toNat 6) → zok 0 x1 → (¬ x1 = 14) → ∀ x2 : Int, x2 = η 60 (Int.toNat 6) → zok 0 x2 → (1 ≤ x2) → ∀ x3 : Int, x3 = η 60 (Int.toNat 6) → zok 0 x3 → (x3 ≤ 13) → ∀ x4 : Int, x4 = η 60 (Int.toNat 6) → zok 0 x4 → (¬ x4 = 3) → ∀ x5 : Int, x5 = η 60 (Int.toNat 6) → zok 0 x5 → ∀ x6 : Int, x6 = ((ro 2).getD (Int.toNat x5) 0).toInt → (x6 = 4) → ∀ x7 : Int, x7 = zd 0 1 x6 1 → ∀ (x8 : Int) (η1 : zE), ((gC2 wl_qe [(nat_lit 0, zPqe_flaw, zOqe_flaw, zMqe_flaw), (nat_lit 1, zPqe_next, zOqe_next, zMqe_next), (nat_lit 2, zPqe_tie, zOqe_tie, zMqe_tie), (nat_lit 3, zPqe_push, zOqe_push, zMqe_push), (nat_lit 4, zPqe_unwind, zOqe_unwind, zMqe_unwind), (nat_lit 5, zPqe_waitingRank, zOqe_waitingRank, zMqe_waitingRank)] pCqe_readSign qCqe_readSign) 4).2 [x7] η x8 η1 → ∀ (x9 : Int) (η2 : zE), ((gC2 wl_qe [(nat_lit 0, zPqe_flaw, zOqe_flaw, zMqe_flaw), (nat_lit 1, zPqe_next, zOqe_next, zMqe_next), (nat_lit 2, zPqe_tie, zOqe_tie, zMqe_tie), (nat_lit 3, zPqe_push, zOqe_push, zMqe_push), (nat_lit 4, zPqe_unwind, zOqe_unwind, zMqe_unwind), (nat_lit 5, zPqe_waitingRank, zOqe_waitingRank, zMqe_waitingRank)] pCqe_readSign qCqe_readSign) 5).2 [] η1 x9 η2 → (¬ x9 = 4) → ∀ (x10 : Int) (η3 : zE), ((gC2 wl_qe [(nat_lit 0, zPqe_flaw, zOqe_flaw, zMqe_flaw), (nat_lit 1, zPqe_next, zOqe_next, zMqe_next), (nat_lit 2, zPqe_tie, zOqe_tie, zMqe_tie), (nat_lit 3, zPqe_push, zOqe_push, zMqe_push), (nat_lit 4, zPqe_unwind, zOqe_unwind, zMqe_unwind), (nat_lit 5, zPqe_waitingRank, zOqe_waitingRank, zMqe_waitingRank)] pCqe_readSign qCqe_readSign) 2).2 [] η2 x10 η3 → ∀ x11 : Int, x11 = η3 60 (Int.toNat 6) → zok 0 x11 → ∀ (x12 : Int) (η4 : zE), ((gC2 wl_qe [(nat_lit 0, zPqe_flaw, zOqe_flaw, zMqe_flaw), (nat_lit 1, zPqe_next, zOqe_next, zMqe_next), (nat_lit 2, zPqe_tie, zOqe_tie, zMqe_tie), (nat_lit 3, zPqe_push, zOqe_push, zMqe_push), (nat_lit 4, zPqe_unwind, zOqe_unwind, zMqe_unwind), (nat_lit 5, zPqe_waitingRank, zOqe_waitingRank, zMqe_waitingRank)] pCqe_readSign qCqe_readSign) 3).2 [x11] η3 x12 η4 → ((gC2 wl_qe [(nat_lit 0, zPqe_flaw, zOqe_flaw, zMqe_flaw), (nat_lit 1, zPqe_next, zOqe_next, zMqe_next), (nat_lit 2, zPqe_tie, zOqe_tie, zMqe_tie), (nat_lit 3, zPqe_push, zOqe_push, zMqe_push), (nat_lit 4, zPqe_unwind, zOqe_unwind, zMqe_unwind), (nat_lit 5, zPqe_waitingRank, zOqe_waitingRank, zMqe_waitingRank)] pCqe_readSign qCqe_readSign) 1).1 [] η4
          have wk0 : yp_wk η := hpp.2
          have hpp := hpp.1
          intro x1 e1 r1 c1 x2 e2 r2 c2 x3 e3 r3 c3 x4 e4 r4 c4 x5 e5 r5 x6 e6 c5 x7 e7 x8 η1 h8 x9 η2 h9 c6 x10 η3 h10 x11 e11 r11 x12 η4 h12
          have y8 : fQqe_unwind [x7] η x8 η1 := h8.2.2
          have k8 : sQ wl_qe zTr zOqe_unwind zMqe_unwind [x7] η x8 η1 ∧ oQqe_unwind [x7] η x8 η1 := ⟨h8.1, h8.2.1⟩
          have y9 : fQqe_waitingRank [] η1 x9 η2 := h9.2.2
          have k9 : sQ wl_qe zTr zOqe_waitingRank zMqe_waitingRank [] η1 x9 η2 ∧ oQqe_waitingRank [] η1 x9 η2 := ⟨h9.1, h9.2.1⟩
          have y10 : fQqe_tie [] η2 x10 η3 := h10.2.2
          have k10 : sQ wl_qe zTr zOqe_tie zMqe_tie [] η2 x10 η3 ∧ oQqe_tie [] η2 x10 η3 := ⟨h10.1, h10.2.1⟩
          have y12 : fQqe_push [x11] η3 x12 η4 := h12.2.2
          have k12 : sQ wl_qe zTr zOqe_push zMqe_push [x11] η3 x12 η4 ∧ oQqe_push [x11] η3 x12 η4 := ⟨h12.1, h12.2.1⟩
          refine yj_a ?_ ?_
          · have y8 : fQqe_unwind [x7] η x8 η1 := h8.2.2
            have k8 : sQ wl_qe zTr zOqe_unwind zMqe_unwind [x7] η x8 η1 ∧ oQqe_unwind [x7] η x8 η1 := ⟨h8.1, h8.2.1⟩
            have y9 : fQqe_waitingRank [] η1 x9 η2 := h9.2.2
            have k9 : sQ wl_qe zTr zOqe_waitingRank zMqe_waitingRank [] η1 x9 η2 ∧ oQqe_waitingRank [] η1 x9 η2 := ⟨h9.1, h9.2.1⟩
            have y10 : fQqe_tie [] η2 x10 η3 := h10.2.2
            have k10 : sQ wl_qe zTr zOqe_tie zMqe_tie [] η2 x10 η3 ∧ oQqe_tie [] η2 x10 η3 := ⟨h10.1, h10.2.1⟩
            have y12 : fQqe_push [x11] η3 x12 η4 := h12.2.2
            have k12 : sQ wl_qe zTr zOqe_push zMqe_push [x11] η3 x12 η4 ∧ oQqe_push [x11] η3 x12 η4 := ⟨h12.1, h12.2.1⟩
            exact k12.2
          · have wk1 : yp_wk η1 := wk_of wk0 (fun j => k8.1.2.2.2.1 62 j (zinr_not (by decide +kernel)))
            have wk2 : yp_wk η2 := wk_of wk1 (fun j => k9.1.2.2.2.1 62 j (zinr_not (by decide +kernel)))
            have wk3 : yp_wk η3 := wk_of wk2 (fun j => k10.1.2.2.2.1 62 j (zinr_not (by decide +kernel)))
            have wk4 : yp_wk η4 := wk_of wk3 (fun j => k12.1.2.2.2.1 62 j (zinr_not (by decide +kernel)))
            exact wk4
        · show ∀ x1 : Int, x1 = η 60 (Int.toNat 6) → zok 0 x1 → (¬ x1 = 14) → ∀ x2 : Int, x2 = η 60 (Int.toNat 6) → zok 0 x2 → (1 ≤ x2) → ∀ x3 : Int, x3 = η 60 (Int.toNat 6) → zok 0 x3 → (x3 ≤ 13) → ∀ x4 : Int, x4 = η 60 (Int.toNat 6) → zok 0 x4 → (¬ x4 = 3) → ∀ x5 : Int, x5 = η 60 (Int.toNat 6) → zok 0 x5 → ∀ x6 : Int, x6 = ((ro 2).getD (Int.toNat x5) 0).toInt → (x6 = 4) → ∀ x7 : Int, x7 = zd 0 1 x6 1 → ∀ (x8 : Int) (η1 : zE), ((gC2 wl_qe [(nat_lit 0, zPqe_flaw, zOqe_flaw, zMqe_flaw), (nat_lit 1, zPqe_next, zOqe_next, zMqe_next), (nat_lit 2, zPqe_tie, zOqe_tie, zMqe_tie), (nat_lit 3, zPqe_push, zOqe_push, zMqe_push), (nat_lit 4, zPqe_unwind, zOqe_unwind, zMqe_unwind), (nat_lit 5, zPqe_waitingRank, zOqe_waitingRank, zMqe_waitingRank)] pCqe_readSign qCqe_readSign) 4).2 [x7] η x8 η1 → ∀ (x9 : Int) (η2 : zE), ((gC2 wl_qe [(nat_lit 0, zPqe_flaw, zOqe_flaw, zMqe_flaw), (nat_lit 1, zPqe_next, zOqe_next, zMqe_next), (nat_lit 2, zPqe_tie, zOqe_tie, zMqe_tie), (nat_lit 3, zPqe_push, zOqe_push, zMqe_push), (nat_lit 4, zPqe_unwind, zOqe_unwind, zMqe_unwind), (nat_lit 5, zPqe_waitingRank, zOqe_waitingRank, zMqe_waitingRank)] pCqe_readSign qCqe_readSign) 5).2 [] η1 x9 η2 → (¬ x9 = 4) → ∀ (x10 : Int) (η3 : zE), ((gC2 wl_qe [(nat_lit 0, zPqe_flaw, zOqe_flaw, zMqe_flaw), (nat_lit 1, zPqe_next, zOqe_next, zMqe_next), (nat_lit 2, zPqe_tie, zOqe_tie, zMqe_tie), (nat_lit 3, zPqe_push, zOqe_push, zMqe_push), (nat_lit 4, zPqe_unwind, zOqe_unwind, zMqe_unwind), (nat_lit 5, zPqe_waitingRank, zOqe_waitingRank, zMqe_waitingRank)] pCqe_readSign qCqe_readSign) 2).2 [] η2 x10 η3 → ∀ x11 : Int, x11 = η3 60 (Int.toNat 6) → zok 0 x11 → ∀ (x12 : Int) (η4 : zE), ((gC2 wl_qe [(nat_lit 0, zPqe_flaw, zOqe_flaw, zMqe_flaw), (nat_lit 1, zPqe_next, zOqe_next, zMqe_next), (nat_lit 2, zPqe_tie, zOqe_tie, zMqe_tie), (nat_lit 3, zPqe_push, zOqe_push, zMqe_push), (nat_lit 4, zPqe_unwind, zOqe_unwind, zMqe_unwind), (nat_lit 5, zPqe_waitingRank, zOqe_waitingRank, zMqe_waitingRank)] pCqe_readSign qCqe_readSign) 3).2 [x11] η3 x12 η4 → ∀ (x13 : Int) (η5 : zE), ((gC2 wl_qe [(nat_lit 0, zPqe_flaw, zOqe_flaw, zMqe_flaw), (nat_lit 1, zPqe_next, zOqe_next, zMqe_next), (nat_lit 2, zPqe_tie, zOqe_tie, zMqe_tie), (nat_lit 3, zPqe_push, zOqe_push, zMqe_push), (nat_lit 4, zPqe_unwind, zOqe_unwind, zMqe_unwind), (nat_lit 5, zPqe_waitingRank, zOqe_waitingRank, zMqe_waitingRank)] pCqe_readSign qCqe_readSign) 1).2 [] η4 x13 η5 → (fun (_ : Nat) (y : Int) (η' : zE) => pQqe_readSign [] η y η') 0 1 η5
          have wk0 : yp_wk η := hpp.2
          have hpp := hpp.1
          intro x1 e1 r1 c1 x2 e2 r2 c2 x3 e3 r3 c3 x4 e4 r4 c4 x5 e5 r5 x6 e6 c5 x7 e7 x8 η1 h8 x9 η2 h9 c6 x10 η3 h10 x11 e11 r11 x12 η4 h12 x13 η5 h13
          have y8 : fQqe_unwind [x7] η x8 η1 := h8.2.2
          have k8 : sQ wl_qe zTr zOqe_unwind zMqe_unwind [x7] η x8 η1 ∧ oQqe_unwind [x7] η x8 η1 := ⟨h8.1, h8.2.1⟩
          have y9 : fQqe_waitingRank [] η1 x9 η2 := h9.2.2
          have k9 : sQ wl_qe zTr zOqe_waitingRank zMqe_waitingRank [] η1 x9 η2 ∧ oQqe_waitingRank [] η1 x9 η2 := ⟨h9.1, h9.2.1⟩
          have y10 : fQqe_tie [] η2 x10 η3 := h10.2.2
          have k10 : sQ wl_qe zTr zOqe_tie zMqe_tie [] η2 x10 η3 ∧ oQqe_tie [] η2 x10 η3 := ⟨h10.1, h10.2.1⟩
          have y12 : fQqe_push [x11] η3 x12 η4 := h12.2.2
          have k12 : sQ wl_qe zTr zOqe_push zMqe_push [x11] η3 x12 η4 ∧ oQqe_push [x11] η3 x12 η4 := ⟨h12.1, h12.2.1⟩
          have y13 : fQqe_next [] η4 x13 η5 := h13.2.2
          have k13 : sQ wl_qe zTr zOqe_next zMqe_next [] η4 x13 η5 ∧ oQqe_next [] η4 x13 η5 := ⟨h13.1, h13.2.1⟩
          refine yj_a ?_ ?_
          · have y8 : fQqe_unwind [x7] η x8 η1 := h8.2.2
            have k8 : sQ wl_qe zTr zOqe_unwind zMqe_unwind [x7] η x8 η1 ∧ oQqe_unwind [x7] η x8 η1 := ⟨h8.1, h8.2.1⟩
            have y9 : fQqe_waitingRank [] η1 x9 η2 := h9.2.2
            have k9 : sQ wl_qe zTr zOqe_waitingRank zMqe_waitingRank [] η1 x9 η2 ∧ oQqe_waitingRank [] η1 x9 η2 := ⟨h9.1, h9.2.1⟩
            have y10 : fQqe_tie [] η2 x10 η3 := h10.2.2
            have k10 : sQ wl_qe zTr zOqe_tie zMqe_tie [] η2 x10 η3 ∧ oQqe_tie [] η2 x10 η3 := ⟨h10.1, h10.2.1⟩
            have y12 : fQqe_push [x11] η3 x12 η4 := h12.2.2
            have k12 : sQ wl_qe zTr zOqe_push zMqe_push [x11] η3 x12 η4 ∧ oQqe_push [x11] η3 x12 η4 := ⟨h12.1, h12.2.1⟩
            have y13 : fQqe_next [] η4 x13 η5 := h13.2.2
            have k13 : sQ wl_qe zTr zOqe_next zMqe_next [] η4 x13 η5 ∧ oQqe_next [] η4 x13 η5 := ⟨h13.1, h13.2.1⟩
            exact k13.2
          · have e1 : x1 = η 60 6 := e1
            clear r1
            have e2 : x2 = η 60 6 := e2
            clear r2
            have e3 : x3 = η 60 6 := e3
            clear r3
            have e4 : x4 = η 60 6 := e4
            clear r4
            have e5 : x5 = η 60 6 := e5
            clear r5
            have e6 : x6 = yp_rk x5 := by rw [e6, hro]; rfl
            have b8 : η1 = (yp_unw x7 η) := y8
            clear k8 h8
            obtain ⟨a9, b9⟩ : x9 = (yp_top η1) ∧ η2 = η1 := y9
            clear k9 h9
            have b10 : η3 = (yp_tie η2) := y10
            clear k10 h10
            have e11 : x11 = η3 60 6 := e11
            clear r11
            have b12 : η4 = (yp_psh x11 η3) := y12
            clear k12 h12
            have b13 : η5 = (yp_adv η4) := y13
            clear k13 h13
            show 1 = (yp_sgw η) ∧ η5 = (yp_sgn η)
            subst e1
            subst e2
            subst e3
            subst e4
            subst e5
            subst e6
            subst e7
            subst b8
            subst a9; subst b9
            subst b10
            subst e11
            subst b12
            subst b13
            have q5 : zd 0 1 (yp_rk (η 60 6)) 1 = 5 := by
              rw [c5]
              rfl
            simp only [q5] at *
            refine ⟨?_, ?_⟩
            · unfold yp_sgw
              (repeat' split) <;> first | (exfalso; omega) | rfl
            · unfold yp_sgn yp_sg2
              (repeat' split) <;> first | (exfalso; omega) | rfl
        · show ∀ x1 : Int, x1 = η 60 (Int.toNat 6) → zok 0 x1 → (¬ x1 = 14) → ∀ x2 : Int, x2 = η 60 (Int.toNat 6) → zok 0 x2 → (1 ≤ x2) → ∀ x3 : Int, x3 = η 60 (Int.toNat 6) → zok 0 x3 → (x3 ≤ 13) → ∀ x4 : Int, x4 = η 60 (Int.toNat 6) → zok 0 x4 → (¬ x4 = 3) → ∀ x5 : Int, x5 = η 60 (Int.toNat 6) → zok 0 x5 → ∀ x6 : Int, x6 = ((ro 2).getD (Int.toNat x5) 0).toInt → (x6 = 4) → ∀ x7 : Int, x7 = zd 0 1 x6 1 → ∀ (x8 : Int) (η1 : zE), ((gC2 wl_qe [(nat_lit 0, zPqe_flaw, zOqe_flaw, zMqe_flaw), (nat_lit 1, zPqe_next, zOqe_next, zMqe_next), (nat_lit 2, zPqe_tie, zOqe_tie, zMqe_tie), (nat_lit 3, zPqe_push, zOqe_push, zMqe_push), (nat_lit 4, zPqe_unwind, zOqe_unwind, zMqe_unwind), (nat_lit 5, zPqe_waitingRank, zOqe_waitingRank, zMqe_waitingRank)] pCqe_readSign qCqe_readSign) 4).2 [x7] η x8 η1 → ∀ (x9 : Int) (η2 : zE), ((gC2 wl_qe [(nat_lit 0, zPqe_flaw, zOqe_flaw, zMqe_flaw), (nat_lit 1, zPqe_next, zOqe_next, zMqe_next), (nat_lit 2, zPqe_tie, zOqe_tie, zMqe_tie), (nat_lit 3, zPqe_push, zOqe_push, zMqe_push), (nat_lit 4, zPqe_unwind, zOqe_unwind, zMqe_unwind), (nat_lit 5, zPqe_waitingRank, zOqe_waitingRank, zMqe_waitingRank)] pCqe_readSign qCqe_readSign) 5).2 [] η1 x9 η2 → (x9 = 4) → ∀ x10 : Int, x10 = η2 60 (Int.toNat 7) → zok 0 x10 → ((gC2 wl_qe [(nat_lit 0, zPqe_flaw, zOqe_flaw, zMqe_flaw), (nat_lit 1, zPqe_next, zOqe_next, zMqe_next), (nat_lit 2, zPqe_tie, zOqe_tie, zMqe_tie), (nat_lit 3, zPqe_push, zOqe_push, zMqe_push), (nat_lit 4, zPqe_unwind, zOqe_unwind, zMqe_unwind), (nat_lit 5, zPqe_waitingRank, zOqe_waitingRank, zMqe_waitingRank)] pCqe_readSign qCqe_readSign) 0).1 [1, x10] η2
          have wk0 : yp_wk η := hpp.2
          have hpp := hpp.1
          intro x1 e1 r1 c1 x2 e2 r2 c2 x3 e3 r3 c3 x4 e4 r4 c4 x5 e5 r5 x6 e6 c5 x7 e7 x8 η1 h8 x9 η2 h9 c6 x10 e10 r10
          have y8 : fQqe_unwind [x7] η x8 η1 := h8.2.2
          have k8 : sQ wl_qe zTr zOqe_unwind zMqe_unwind [x7] η x8 η1 ∧ oQqe_unwind [x7] η x8 η1 := ⟨h8.1, h8.2.1⟩
          have y9 : fQqe_waitingRank [] η1 x9 η2 := h9.2.2
          have k9 : sQ wl_qe zTr zOqe_waitingRank zMqe_waitingRank [] η1 x9 η2 ∧ oQqe_waitingRank [] η1 x9 η2 := ⟨h9.1, h9.2.1⟩
          refine yj_a ?_ ?_
          · have y8 : fQqe_unwind [x7] η x8 η1 := h8.2.2
            have k8 : sQ wl_qe zTr zOqe_unwind zMqe_unwind [x7] η x8 η1 ∧ oQqe_unwind [x7] η x8 η1 := ⟨h8.1, h8.2.1⟩
            have y9 : fQqe_waitingRank [] η1 x9 η2 := h9.2.2
            have k9 : sQ wl_qe zTr zOqe_waitingRank zMqe_waitingRank [] η1 x9 η2 ∧ oQqe_waitingRank [] η1 x9 η2 := ⟨h9.1, h9.2.1⟩
            exact k9.2
          · have wk1 : yp_wk η1 := wk_of wk0 (fun j => k8.1.2.2.2.1 62 j (zinr_not (by decide +kernel)))
            have wk2 : yp_wk η2 := wk_of wk1 (fun j => k9.1.2.2.2.1 62 j (zinr_not (by decide +kernel)))
            exact wk2
        · show ∀ x1 : Int, x1 = η 60 (Int.toNat 6) → zok 0 x1 → (¬ x1 = 14) → ∀ x2 : Int, x2 = η 60 (Int.toNat 6) → zok 0 x2 → (1 ≤ x2) → ∀ x3 : Int, x3 = η 60 (Int.toNat 6) → zok 0 x3 → (x3 ≤ 13) → ∀ x4 : Int, x4 = η 60 (Int.toNat 6) → zok 0 x4 → (¬ x4 = 3) → ∀ x5 : Int, x5 = η 60 (Int.toNat 6) → zok 0 x5 → ∀ x6 : Int, x6 = ((ro 2).getD (Int.toNat x5) 0).toInt → (x6 = 4) → ∀ x7 : Int, x7 = zd 0 1 x6 1 → ∀ (x8 : Int) (η1 : zE), ((gC2 wl_qe [(nat_lit 0, zPqe_flaw, zOqe_flaw, zMqe_flaw), (nat_lit 1, zPqe_next, zOqe_next, zMqe_next), (nat_lit 2, zPqe_tie, zOqe_tie, zMqe_tie), (nat_lit 3, zPqe_push, zOqe_push, zMqe_push), (nat_lit 4, zPqe_unwind, zOqe_unwind, zMqe_unwind), (nat_lit 5, zPqe_waitingRank, zOqe_waitingRank, zMqe_waitingRank)] pCqe_readSign qCqe_readSign) 4).2 [x7] η x8 η1 → ∀ (x9 : Int) (η2 : zE), ((gC2 wl_qe [(nat_lit 0, zPqe_flaw, zOqe_flaw, zMqe_flaw), (nat_lit 1, zPqe_next, zOqe_next, zMqe_next), (nat_lit 2, zPqe_tie, zOqe_tie, zMqe_tie), (nat_lit 3, zPqe_push, zOqe_push, zMqe_push), (nat_lit 4, zPqe_unwind, zOqe_unwind, zMqe_unwind), (nat_lit 5, zPqe_waitingRank, zOqe_waitingRank, zMqe_waitingRank)] pCqe_readSign qCqe_readSign) 5).2 [] η1 x9 η2 → (x9 = 4) → ∀ x10 : Int, x10 = η2 60 (Int.toNat 7) → zok 0 x10 → ∀ (x11 : Int) (η3 : zE), ((gC2 wl_qe [(nat_lit 0, zPqe_flaw, zOqe_flaw, zMqe_flaw), (nat_lit 1, zPqe_next, zOqe_next, zMqe_next), (nat_lit 2, zPqe_tie, zOqe_tie, zMqe_tie), (nat_lit 3, zPqe_push, zOqe_push, zMqe_push), (nat_lit 4, zPqe_unwind, zOqe_unwind, zMqe_unwind), (nat_lit 5, zPqe_waitingRank, zOqe_waitingRank, zMqe_waitingRank)] pCqe_readSign qCqe_readSign) 0).2 [1, x10] η2 x11 η3 → ((gC2 wl_qe [(nat_lit 0, zPqe_flaw, zOqe_flaw, zMqe_flaw), (nat_lit 1, zPqe_next, zOqe_next, zMqe_next), (nat_lit 2, zPqe_tie, zOqe_tie, zMqe_tie), (nat_lit 3, zPqe_push, zOqe_push, zMqe_push), (nat_lit 4, zPqe_unwind, zOqe_unwind, zMqe_unwind), (nat_lit 5, zPqe_waitingRank, zOqe_waitingRank, zMqe_waitingRank)] pCqe_readSign qCqe_readSign) 2).1 [] η3
          have wk0 : yp_wk η := hpp.2
          have hpp := hpp.1
          intro x1 e1 r1 c1 x2 e2 r2 c2 x3 e3 r3 c3 x4 e4 r4 c4 x5 e5 r5 x6 e6 c5 x7 e7 x8 η1 h8 x9 η2 h9 c6 x10 e10 r10 x11 η3 h11
          have y8 : fQqe_unwind [x7] η x8 η1 := h8.2.2
          have k8 : sQ wl_qe zTr zOqe_unwind zMqe_unwind [x7] η x8 η1 ∧ oQqe_unwind [x7] η x8 η1 := ⟨h8.1, h8.2.1⟩
          have y9 : fQqe_waitingRank [] η1 x9 η2 := h9.2.2
          have k9 : sQ wl_qe zTr zOqe_waitingRank zMqe_waitingRank [] η1 x9 η2 ∧ oQqe_waitingRank [] η1 x9 η2 := ⟨h9.1, h9.2.1⟩
          have y11 : fQqe_flaw [1, x10] η2 x11 η3 := h11.2.2
          have k11 : sQ wl_qe zTr zOqe_flaw zMqe_flaw [1, x10] η2 x11 η3 ∧ oQqe_flaw [1, x10] η2 x11 η3 := ⟨h11.1, h11.2.1⟩
          refine yj_a ?_ ?_
          · have y8 : fQqe_unwind [x7] η x8 η1 := h8.2.2
            have k8 : sQ wl_qe zTr zOqe_unwind zMqe_unwind [x7] η x8 η1 ∧ oQqe_unwind [x7] η x8 η1 := ⟨h8.1, h8.2.1⟩
            have y9 : fQqe_waitingRank [] η1 x9 η2 := h9.2.2
            have k9 : sQ wl_qe zTr zOqe_waitingRank zMqe_waitingRank [] η1 x9 η2 ∧ oQqe_waitingRank [] η1 x9 η2 := ⟨h9.1, h9.2.1⟩
            have y11 : fQqe_flaw [1, x10] η2 x11 η3 := h11.2.2
            have k11 : sQ wl_qe zTr zOqe_flaw zMqe_flaw [1, x10] η2 x11 η3 ∧ oQqe_flaw [1, x10] η2 x11 η3 := ⟨h11.1, h11.2.1⟩
            exact k11.2
          · have wk1 : yp_wk η1 := wk_of wk0 (fun j => k8.1.2.2.2.1 62 j (zinr_not (by decide +kernel)))
            have wk2 : yp_wk η2 := wk_of wk1 (fun j => k9.1.2.2.2.1 62 j (zinr_not (by decide +kernel)))
            have wk3 : yp_wk η3 := wk_of wk2 (fun j => k11.1.2.2.2.1 62 j (zinr_not (by decide +kernel)))
            exact wk3
        · show ∀ x1 : Int, x1 = η 60 (Int.toNat 6) → zok 0 x1 → (¬ x1 = 14) → ∀ x2 : Int, x2 = η 60 (Int.toNat 6) → zok 0 x2 → (1 ≤ x2) → ∀ x3 : Int, x3 = η 60 (Int.toNat 6) → zok 0 x3 → (x3 ≤ 13) → ∀ x4 : Int, x4 = η 60 (Int.toNat 6) → zok 0 x4 → (¬ x4 = 3) → ∀ x5 : Int, x5 = η 60 (Int.toNat 6) → zok 0 x5 → ∀ x6 : Int, x6 = ((ro 2).getD (Int.toNat x5) 0).toInt → (x6 = 4) → ∀ x7 : Int, x7 = zd 0 1 x6 1 → ∀ (x8 : Int) (η1 : zE), ((gC2 wl_qe [(nat_lit 0, zPqe_flaw, zOqe_flaw, zMqe_flaw), (nat_lit 1, zPqe_next, zOqe_next, zMqe_next), (nat_lit 2, zPqe_tie, zOqe_tie, zMqe_tie), (nat_lit 3, zPqe_push, zOqe_push, zMqe_push), (nat_lit 4, zPqe_unwind, zOqe_unwind, zMqe_unwind), (nat_lit 5, zPqe_waitingRank, zOqe_waitingRank, zMqe_waitingRank)] pCqe_readSign qCqe_readSign) 4).2 [x7] η x8 η1 → ∀ (x9 : Int) (η2 : zE), ((gC2 wl_qe [(nat_lit 0, zPqe_flaw, zOqe_flaw, zMqe_flaw), (nat_lit 1, zPqe_next, zOqe_next, zMqe_next), (nat_lit 2, zPqe_tie, zOqe_tie, zMqe_tie), (nat_lit 3, zPqe_push, zOqe_push, zMqe_push), (nat_lit 4, zPqe_unwind, zOqe_unwind, zMqe_unwind), (nat_lit 5, zPqe_waitingRank, zOqe_waitingRank, zMqe_waitingRank)] pCqe_readSign qCqe_readSign) 5).2 [] η1 x9 η2 → (x9 = 4) → ∀ x10 : Int, x10 = η2 60 (Int.toNat 7) → zok 0 x10 → ∀ (x11 : Int) (η3 : zE), ((gC2 wl_qe [(nat_lit 0, zPqe_flaw, zOqe_flaw, zMqe_flaw), (nat_lit 1, zPqe_next, zOqe_next, zMqe_next), (nat_lit 2, zPqe_tie, zOqe_tie, zMqe_tie), (nat_lit 3, zPqe_push, zOqe_push, zMqe_push), (nat_lit 4, zPqe_unwind, zOqe_unwind, zMqe_unwind), (nat_lit 5, zPqe_waitingRank, zOqe_waitingRank, zMqe_waitingRank)] pCqe_readSign qCqe_readSign) 0).2 [1, x10] η2 x11 η3 → ∀ (x12 : Int) (η4 : zE), ((gC2 wl_qe [(nat_lit 0, zPqe_flaw, zOqe_flaw, zMqe_flaw), (nat_lit 1, zPqe_next, zOqe_next, zMqe_next), (nat_lit 2, zPqe_tie, zOqe_tie, zMqe_tie), (nat_lit 3, zPqe_push, zOqe_push, zMqe_push), (nat_lit 4, zPqe_unwind, zOqe_unwind, zMqe_unwind), (nat_lit 5, zPqe_waitingRank, zOqe_waitingRank, zMqe_waitingRank)] pCqe_readSign qCqe_readSign) 2).2 [] η3 x12 η4 → ∀ x13 : Int, x13 = η4 60 (Int.toNat 6) → zok 0 x13 → ((gC2 wl_qe [(nat_lit 0, zPqe_flaw, zOqe_flaw, zMqe_flaw), (nat_lit 1, zPqe_next, zOqe_next, zMqe_next), (nat_lit 2, zPqe_tie, zOqe_tie, zMqe_tie), (nat_lit 3, zPqe_push, zOqe_push, zMqe_push), (nat_lit 4, zPqe_unwind, zOqe_unwind, zMqe_unwind), (nat_lit 5, zPqe_waitingRank, zOqe_waitingRank, zMqe_waitingRank)] pCqe_readSign qCqe_readSign) 3).1 [x13] η4
          have wk0 : yp_wk η := hpp.2
          have hpp := hpp.1
          intro x1 e1 r1 c1 x2 e2 r2 c2 x3 e3 r3 c3 x4 e4 r4 c4 x5 e5 r5 x6 e6 c5 x7 e7 x8 η1 h8 x9 η2 h9 c6 x10 e10 r10 x11 η3 h11 x12 η4 h12 x13 e13 r13
          have y8 : fQqe_unwind [x7] η x8 η1 := h8.2.2
          have k8 : sQ wl_qe zTr zOqe_unwind zMqe_unwind [x7] η x8 η1 ∧ oQqe_unwind [x7] η x8 η1 := ⟨h8.1, h8.2.1⟩
          have y9 : fQqe_waitingRank [] η1 x9 η2 := h9.2.2
          have k9 : sQ wl_qe zTr zOqe_waitingRank zMqe_waitingRank [] η1 x9 η2 ∧ oQqe_waitingRank [] η1 x9 η2 := ⟨h9.1, h9.2.1⟩
          have y11 : fQqe_flaw [1, x10] η2 x11 η3 := h11.2.2
          have k11 : sQ wl_qe zTr zOqe_flaw zMqe_flaw [1, x10] η2 x11 η3 ∧ oQqe_flaw [1, x10] η2 x11 η3 := ⟨h11.1, h11.2.1⟩
          have y12 : fQqe_tie [] η3 x12 η4 := h12.2.2
          have k12 : sQ wl_qe zTr zOqe_tie zMqe_tie [] η3 x12 η4 ∧ oQqe_tie [] η3 x12 η4 := ⟨h12.1, h12.2.1⟩
          refine yj_a ?_ ?_
          · have y8 : fQqe_unwind [x7] η x8 η1 := h8.2.2
            have k8 : sQ wl_qe zTr zOqe_unwind zMqe_unwind [x7] η x8 η1 ∧ oQqe_unwind [x7] η x8 η1 := ⟨h8.1, h8.2.1⟩
            have y9 : fQqe_waitingRank [] η1 x9 η2 := h9.2.2
            have k9 : sQ wl_qe zTr zOqe_waitingRank zMqe_waitingRank [] η1 x9 η2 ∧ oQqe_waitingRank [] η1 x9 η2 := ⟨h9.1, h9.2.1⟩
            have y11 : fQqe_flaw [1, x10] η2 x11 η3 := h11.2.2
            have k11 : sQ wl_qe zTr zOqe_flaw zMqe_flaw [1, x10] η2 x11 η3 ∧ oQqe_flaw [1, x10] η2 x11 η3 := ⟨h11.1, h11.2.1⟩
            have y12 : fQqe_tie [] η3 x12 η4 := h12.2.2
            have k12 : sQ wl_qe zTr zOqe_tie zMqe_tie [] η3 x12 η4 ∧ oQqe_tie [] η3 x12 η4 := ⟨h12.1, h12.2.1⟩
            exact k12.2.1
          · have wk1 : yp_wk η1 := wk_of wk0 (fun j => k8.1.2.2.2.1 62 j (zinr_not (by decide +kernel)))
            have wk2 : yp_wk η2 := wk_of wk1 (fun j => k9.1.2.2.2.1 62 j (zinr_not (by decide +kernel)))
            have wk3 : yp_wk η3 := wk_of wk2 (fun j => k11.1.2.2.2.1 62 j (zinr_not (by decide +kernel)))
            have wk4 : yp_wk η4 := wk_of wk3 (fun j => k12.1.2.2.2.1 62 j (zinr_not (by decide +kernel)))
            exact wk4
        · show ∀ x1 : Int, x1 = η 60 (Int.toNat 6) → zok 0 x1 → (¬ x1 = 14) → ∀ x2 : Int, x2 = η 60 (Int.toNat 6) → zok 0 x2 → (1 ≤ x2) → ∀ x3 : Int, x3 = η 60 (Int.toNat 6) → zok 0 x3 → (x3 ≤ 13) → ∀ x4 : Int, x4 = η 60 (Int.toNat 6) → zok 0 x4 → (¬ x4 = 3) → ∀ x5 : Int, x5 = η 60 (Int.toNat 6) → zok 0 x5 → ∀ x6 : Int, x6 = ((ro 2).getD (Int.toNat x5) 0).toInt → (x6 = 4) → ∀ x7 : Int, x7 = zd 0 1 x6 1 → ∀ (x8 : Int) (η1 : zE), ((gC2 wl_qe [(nat_lit 0, zPqe_flaw, zOqe_flaw, zMqe_flaw), (nat_lit 1, zPqe_next, zOqe_next, zMqe_next), (nat_lit 2, zPqe_tie, zOqe_tie, zMqe_tie), (nat_lit 3, zPqe_push, zOqe_push, zMqe_push), (nat_lit 4, zPqe_unwind, zOqe_unwind, zMqe_unwind), (nat_lit 5, zPqe_waitingRank, zOqe_waitingRank, zMqe_waitingRank)] pCqe_readSign qCqe_readSign) 4).2 [x7] η x8 η1 → ∀ (x9 : Int) (η2 : zE), ((gC2 wl_qe [(nat_lit 0, zPqe_flaw, zOqe_flaw, zMqe_flaw), (nat_lit 1, zPqe_next, zOqe_next, zMqe_next), (nat_lit 2, zPqe_tie, zOqe_tie, zMqe_tie), (nat_lit 3, zPqe_push, zOqe_push, zMqe_push), (nat_lit 4, zPqe_unwind, zOqe_unwind, zMqe_unwind), (nat_lit 5, zPqe_waitingRank, zOqe_waitingRank, zMqe_waitingRank)] pCqe_readSign qCqe_readSign) 5).2 [] η1 x9 η2 → (x9 = 4) → ∀ x10 : Int, x10 = η2 60 (Int.toNat 7) → zok 0 x10 → ∀ (x11 : Int) (η3 : zE), ((gC2 wl_qe [(nat_lit 0, zPqe_flaw, zOqe_flaw, zMqe_flaw), (nat_lit 1, zPqe_next, zOqe_next, zMqe_next), (nat_lit 2, zPqe_tie, zOqe_tie, zMqe_tie), (nat_lit 3, zPqe_push, zOqe_push, zMqe_push), (nat_lit 4, zPqe_unwind, zOqe_unwind, zMqe_unwind), (nat_lit 5, zPqe_waitingRank, zOqe_waitingRank, zMqe_waitingRank)] pCqe_readSign qCqe_readSign) 0).2 [1, x10] η2 x11 η3 → ∀ (x12 : Int) (η4 : zE), ((gC2 wl_qe [(nat_lit 0, zPqe_flaw, zOqe_flaw, zMqe_flaw), (nat_lit 1, zPqe_next, zOqe_next, zMqe_next), (nat_lit 2, zPqe_tie, zOqe_tie, zMqe_tie), (nat_lit 3, zPqe_push, zOqe_push, zMqe_push), (nat_lit 4, zPqe_unwind, zOqe_unwind, zMqe_unwind), (nat_lit 5, zPqe_waitingRank, zOqe_waitingRank, zMqe_waitingRank)] pCqe_readSign qCqe_readSign) 2).2 [] η3 x12 η4 → ∀ x13 : Int, x13 = η4 60 (Int.toNat 6) → zok 0 x13 → ∀ (x14 : Int) (η5 : zE), ((gC2 wl_qe [(nat_lit 0, zPqe_flaw, zOqe_flaw, zMqe_flaw), (nat_lit 1, zPqe_next, zOqe_next, zMqe_next), (nat_lit 2, zPqe_tie, zOqe_tie, zMqe_tie), (nat_lit 3, zPqe_push, zOqe_push, zMqe_push), (nat_lit 4, zPqe_unwind, zOqe_unwind, zMqe_unwind), (nat_lit 5, zPqe_waitingRank, zOqe_waitingRank, zMqe_waitingRank)] pCqe_readSign qCqe_readSign) 3).2 [x13] η4 x14 η5 → ((gC2 wl_qe [(nat_lit 0, zPqe_flaw, zOqe_flaw, zMqe_flaw), (nat_lit 1, zPqe_next, zOqe_next, zMqe_next), (nat_lit 2, zPqe_tie, zOqe_tie, zMqe_tie), (nat_lit 3, zPqe_push, zOqe_push, zMqe_push), (nat_lit 4, zPqe_unwind, zOqe_unwind, zMqe_unwind), (nat_lit 5, zPqe_waitingRank, zOqe_waitingRank, zMqe_waitingRank)] pCqe_readSign qCqe_readSign) 1).1 [] η5
          have wk0 : yp_wk η := hpp.2
          have hpp := hpp.1
          intro x1 e1 r1 c1 x2 e2 r2 c2 x3 e3 r3 c3 x4 e4 r4 c4 x5 e5 r5 x6 e6 c5 x7 e7 x8 η1 h8 x9 η2 h9 c6 x10 e10 r10 x11 η3 h11 x12 η4 h12 x13 e13 r13 x14 η5 h14
          have y8 : fQqe_unwind [x7] η x8 η1 := h8.2.2
          have k8 : sQ wl_qe zTr zOqe_unwind zMqe_unwind [x7] η x8 η1 ∧ oQqe_unwind [x7] η x8 η1 := ⟨h8.1, h8.2.1⟩
          have y9 : fQqe_waitingRank [] η1 x9 η2 := h9.2.2
          have k9 : sQ wl_qe zTr zOqe_waitingRank zMqe_waitingRank [] η1 x9 η2 ∧ oQqe_waitingRank [] η1 x9 η2 := ⟨h9.1, h9.2.1⟩
          have y11 : fQqe_flaw [1, x10] η2 x11 η3 := h11.2.2
          have k11 : sQ wl_qe zTr zOqe_flaw zMqe_flaw [1, x10] η2 x11 η3 ∧ oQqe_flaw [1, x10] η2 x11 η3 := ⟨h11.1, h11.2.1⟩
          have y12 : fQqe_tie [] η3 x12 η4 := h12.2.2
          have k12 : sQ wl_qe zTr zOqe_tie zMqe_tie [] η3 x12 η4 ∧ oQqe_tie [] η3 x12 η4 := ⟨h12.1, h12.2.1⟩
          have y14 : fQqe_push [x13] η4 x14 η5 := h14.2.2
          have k14 : sQ wl_qe zTr zOqe_push zMqe_push [x13] η4 x14 η5 ∧ oQqe_push [x13] η4 x14 η5 := ⟨h14.1, h14.2.1⟩
          refine yj_a ?_ ?_
          · have y8 : fQqe_unwind [x7] η x8 η1 := h8.2.2
            have k8 : sQ wl_qe zTr zOqe_unwind zMqe_unwind [x7] η x8 η1 ∧ oQqe_unwind [x7] η x8 η1 := ⟨h8.1, h8.2.1⟩
            have y9 : fQqe_waitingRank [] η1 x9 η2 := h9.2.2
            have k9 : sQ wl_qe zTr zOqe_waitingRank zMqe_waitingRank [] η1 x9 η2 ∧ oQqe_waitingRank [] η1 x9 η2 := ⟨h9.1, h9.2.1⟩
            have y11 : fQqe_flaw [1, x10] η2 x11 η3 := h11.2.2
            have k11 : sQ wl_qe zTr zOqe_flaw zMqe_flaw [1, x10] η2 x11 η3 ∧ oQqe_flaw [1, x10] η2 x11 η3 := ⟨h11.1, h11.2.1⟩
            have y12 : fQqe_tie [] η3 x12 η4 := h12.2.2
            have k12 : sQ wl_qe zTr zOqe_tie zMqe_tie [] η3 x12 η4 ∧ oQqe_tie [] η3 x12 η4 := ⟨h12.1, h12.2.1⟩
            have y14 : fQqe_push [x13] η4 x14 η5 := h14.2.2
            have k14 : sQ wl_qe zTr zOqe_push zMqe_push [x13] η4 x14 η5 ∧ oQqe_push [x13] η4 x14 η5 := ⟨h14.1, h14.2.1⟩
            exact k14.2
          · have wk1 : yp_wk η1 := wk_of wk0 (fun j => k8.1.2.2.2.1 62 j (zinr_not (by decide +kernel)))
            have wk2 : yp_wk η2 := wk_of wk1 (fun j => k9.1.2.2.2.1 62 j (zinr_not (by decide +kernel)))
            have wk3 : yp_wk η3 := wk_of wk2 (fun j => k11.1.2.2.2.1 62 j (zinr_not (by decide +kernel)))
            have wk4 : yp_wk η4 := wk_of wk3 (fun j => k12.1.2.2.2.1 62 j (zinr_not (by decide +kernel)))
            have wk5 : yp_wk η5 := wk_of wk4 (fun j => k14.1.2.2.2.1 62 j (zinr_not (by decide +kernel)))
            exact wk5
        · show ∀ x1 : Int, x1 = η 60 (Int.toNat 6) → zok 0 x1 → (¬ x1 = 14) → ∀ x2 : Int, x2 = η 60 (Int.toNat 6) → zok 0 x2 → (1 ≤ x2) → ∀ x3 : Int, x3 = η 60 (Int.toNat 6) → zok 0 x3 → (x3 ≤ 13) → ∀ x4 : Int, x4 = η 60 (Int.toNat 6) → zok 0 x4 → (¬ x4 = 3) → ∀ x5 : Int, x5 = η 60 (Int.toNat 6) → zok 0 x5 → ∀ x6 : Int, x6 = ((ro 2).getD (Int.toNat x5) 0).toInt → (x6 = 4) → ∀ x7 : Int, x7 = zd 0 1 x6 1 → ∀ (x8 : Int) (η1 : zE), ((gC2 wl_qe [(nat_lit 0, zPqe_flaw, zOqe_flaw, zMqe_flaw), (nat_lit 1, zPqe_next, zOqe_next, zMqe_next), (nat_lit 2, zPqe_tie, zOqe_tie, zMqe_tie), (nat_lit 3, zPqe_push, zOqe_push, zMqe_push), (nat_lit 4, zPqe_unwind, zOqe_unwind, zMqe_unwind), (nat_lit 5, zPqe_waitingRank, zOqe_waitingRank, zMqe_waitingRank)] pCqe_readSign qCqe_readSign) 4).2 [x7] η x8 η1 → ∀ (x9 : Int) (η2 : zE), ((gC2 wl_qe [(nat_lit 0, zPqe_flaw, zOqe_flaw, zMqe_flaw), (nat_lit 1, zPqe_next, zOqe_next, zMqe_next), (nat_lit 2, zPqe_tie, zOqe_tie, zMqe_tie), (nat_lit 3, zPqe_push, zOqe_push, zMqe_push), (nat_lit 4, zPqe_unwind, zOqe_unwind, zMqe_unwind), (nat_lit 5, zPqe_waitingRank, zOqe_waitingRank, zMqe_waitingRank)] pCqe_readSign qCqe_readSign) 5).2 [] η1 x9 η2 → (x9 = 4) → ∀ x10 : Int, x10 = η2 60 (Int.toNat 7) → zok 0 x10 → ∀ (x11 : Int) (η3 : zE), ((gC2 wl_qe [(nat_lit 0, zPqe_flaw, zOqe_flaw, zMqe_flaw), (nat_lit 1, zPqe_next, zOqe_next, zMqe_next), (nat_lit 2, zPqe_tie, zOqe_tie, zMqe_tie), (nat_lit 3, zPqe_push, zOqe_push, zMqe_push), (nat_lit 4, zPqe_unwind, zOqe_unwind, zMqe_unwind), (nat_lit 5, zPqe_waitingRank, zOqe_waitingRank, zMqe_waitingRank)] pCqe_readSign qCqe_readSign) 0).2 [1, x10] η2 x11 η3 → ∀ (x12 : Int) (η4 : zE), ((gC2 wl_qe [(nat_lit 0, zPqe_flaw, zOqe_flaw, zMqe_flaw), (nat_lit 1, zPqe_next, zOqe_next, zMqe_next), (nat_lit 2, zPqe_tie, zOqe_tie, zMqe_tie), (nat_lit 3, zPqe_push, zOqe_push, zMqe_push), (nat_lit 4, zPqe_unwind, zOqe_unwind, zMqe_unwind), (nat_lit 5, zPqe_waitingRank, zOqe_waitingRank, zMqe_waitingRank)] pCqe_readSign qCqe_readSign) 2).2 [] η3 x12 η4 → ∀ x13 : Int, x13 = η4 60 (Int.toNat 6) → zok 0 x13 → ∀ (x14 : Int) (η5 : zE), ((gC2 wl_qe [(nat_lit 0, zPqe_flaw, zOqe_flaw, zMqe_flaw), (nat_lit 1, zPqe_next, zOqe_next, zMqe_next), (nat_lit 2, zPqe_tie, zOqe_tie, zMqe_tie), (nat_lit 3, zPqe_push, zOqe_push, zMqe_push), (nat_lit 4, zPqe_unwind, zOqe_unwind, zMqe_unwind), (nat_lit 5, zPqe_waitingRank, zOqe_waitingRank, zMqe_waitingRank)] pCqe_readSign qCqe_readSign) 3).2 [x13] η4 x14 η5 → ∀ (x15 : Int) (η6 : zE), ((gC2 wl_qe [(nat_lit 0, zPqe_flaw, zOqe_flaw, zMqe_flaw), (nat_lit 1, zPqe_next, zOqe_next, zMqe_next), (nat_lit 2, zPqe_tie, zOqe_tie, zMqe_tie), (nat_lit 3, zPqe_push, zOqe_push, zMqe_push), (nat_lit 4, zPqe_unwind, zOqe_unwind, zMqe_unwind), (nat_lit 5, zPqe_waitingRank, zOqe_waitingRank, zMqe_waitingRank)] pCqe_readSign qCqe_readSign) 1).2 [] η5 x15 η6 → (fun (_ : Nat) (y : Int) (η' : zE) => pQqe_readSign [] η y η') 0 1 η6
          have wk0 : yp_wk η := hpp.2
          have hpp := hpp.1
          intro x1 e1 r1 c1 x2 e2 r2 c2 x3 e3 r3 c3 x4 e4 r4 c4 x5 e5 r5 x6 e6 c5 x7 e7 x8 η1 h8 x9 η2 h9 c6 x10 e10 r10 x11 η3 h11 x12 η4 h12 x13 e13 r13 x14 η5 h14 x15 η6 h15
          have y8 : fQqe_unwind [x7] η x8 η1 := h8.2.2
          have k8 : sQ wl_qe zTr zOqe_unwind zMqe_unwind [x7] η x8 η1 ∧ oQqe_unwind [x7] η x8 η1 := ⟨h8.1, h8.2.1⟩
          have y9 : fQqe_waitingRank [] η1 x9 η2 := h9.2.2
          have k9 : sQ wl_qe zTr zOqe_waitingRank zMqe_waitingRank [] η1 x9 η2 ∧ oQqe_waitingRank [] η1 x9 η2 := ⟨h9.1, h9.2.1⟩
          have y11 : fQqe_flaw [1, x10] η2 x11 η3 := h11.2.2
          have k11 : sQ wl_qe zTr zOqe_flaw zMqe_flaw [1, x10] η2 x11 η3 ∧ oQqe_flaw [1, x10] η2 x11 η3 := ⟨h11.1, h11.2.1⟩
          have y12 : fQqe_tie [] η3 x12 η4 := h12.2.2
          have k12 : sQ wl_qe zTr zOqe_tie zMqe_tie [] η3 x12 η4 ∧ oQqe_tie [] η3 x12 η4 := ⟨h12.1, h12.2.1⟩
          have y14 : fQqe_push [x13] η4 x14 η5 := h14.2.2
          have k14 : sQ wl_qe zTr zOqe_push zMqe_push [x13] η4 x14 η5 ∧ oQqe_push [x13] η4 x14 η5 := ⟨h14.1, h14.2.1⟩
          have y15 : fQqe_next [] η5 x15 η6 := h15.2.2
          have k15 : sQ wl_qe zTr zOqe_next zMqe_next [] η5 x15 η6 ∧ oQqe_next [] η5 x15 η6 := ⟨h15.1, h15.2.1⟩
          refine yj_a ?_ ?_
          · have y8 : fQqe_unwind [x7] η x8 η1 := h8.2.2
            have k8 : sQ wl_qe zTr zOqe_unwind zMqe_unwind [x7] η x8 η1 ∧ oQqe_unwind [x7] η x8 η1 := ⟨h8.1, h8.2.1⟩
            have y9 : fQqe_waitingRank [] η1 x9 η2 := h9.2.2
            have k9 : sQ wl_qe zTr zOqe_waitingRank zMqe_waitingRank [] η1 x9 η2 ∧ oQqe_waitingRank [] η1 x9 η2 := ⟨h9.1, h9.2.1⟩
            have y11 : fQqe_flaw [1, x10] η2 x11 η3 := h11.2.2
            have k11 : sQ wl_qe zTr zOqe_flaw zMqe_flaw [1, x10] η2 x11 η3 ∧ oQqe_flaw [1, x10] η2 x11 η3 := ⟨h11.1, h11.2.1⟩
            have y12 : fQqe_tie [] η3 x12 η4 := h12.2.2
            have k12 : sQ wl_qe zTr zOqe_tie zMqe_tie [] η3 x12 η4 ∧ oQqe_tie [] η3 x12 η4 := ⟨h12.1, h12.2.1⟩
            have y14 : fQqe_push [x13] η4 x14 η5 := h14.2.2
            have k14 : sQ wl_qe zTr zOqe_push zMqe_push [x13] η4 x14 η5 ∧ oQqe_push [x13] η4 x14 η5 := ⟨h14.1, h14.2.1⟩
            have y15 : fQqe_next [] η5 x15 η6 := h15.2.2
            have k15 : sQ wl_qe zTr zOqe_next zMqe_next [] η5 x15 η6 ∧ oQqe_next [] η5 x15 η6 := ⟨h15.1, h15.2.1⟩
            exact k15.2
          · have e1 : x1 = η 60 6 := e1
            clear r1
            have e2 : x2 = η 60 6 := e2
            clear r2
            have e3 : x3 = η 60 6 := e3
            clear r3
            have e4 : x4 = η 60 6 := e4
            clear r4
            have e5 : x5 = η 60 6 := e5
            clear r5
            have e6 : x6 = yp_rk x5 := by rw [e6, hro]; rfl
            have b8 : η1 = (yp_unw x7 η) := y8
            clear k8 h8
            obtain ⟨a9, b9⟩ : x9 = (yp_top η1) ∧ η2 = η1 := y9
            clear k9 h9
            have e10 : x10 = η2 60 7 := e10
            clear r10
            have b11 : η3 = yp_flw 1 x10 η2 := y11
            clear k11 h11
            have b12 : η4 = (yp_tie η3) := y12
            clear k12 h12
            have e13 : x13 = η4 60 6 := e13
            clear r13
            have b14 : η5 = (yp_psh x13 η4) := y14
            clear k14 h14
            have b15 : η6 = (yp_adv η5) := y15
            clear k15 h15
            show 1 = (yp_sgw η) ∧ η6 = (yp_sgn η)
            subst e1
            subst e2
            subst e3
            subst e4
            subst e5
            subst e6
            subst e7
            subst b8
            subst a9; subst b9
            subst e10
            subst b11
            subst b12
            subst e13
            subst b14
            subst b15
            have q5 : zd 0 1 (yp_rk (η 60 6)) 1 = 5 := by
              rw [c5]
              rfl
            simp only [q5] at *
            refine ⟨?_, ?_⟩
            · unfold yp_sgw
              (repeat' split) <;> first | (exfalso; omega) | rfl
            · unfold yp_sgn yp_sg2
              (repeat' split) <;> first | (exfalso; omega) | rfl
        · show ∀ x1 : Int, x1 = η 60 (Int.toNat 6) → zok 0 x1 → (¬ x1 = 14) → ∀ x2 : Int, x2 = η 60 (Int.toNat 6) → zok 0 x2 → (1 ≤ x2) → ∀ x3 : Int, x3 = η 60 (Int.toNat 6) → zok 0 x3 → (x3 ≤ 13) → ∀ x4 : Int, x4 = η 60 (Int.toNat 6) → zok 0 x4 → (x4 = 3) → ∀ x5 : Int, x5 = η 60 (Int.toNat 7) → zok 0 x5 → ((gC2 wl_qe [(nat_lit 0, zPqe_flaw, zOqe_flaw, zMqe_flaw), (nat_lit 1, zPqe_next, zOqe_next, zMqe_next), (nat_lit 2, zPqe_tie, zOqe_tie, zMqe_tie), (nat_lit 3, zPqe_push, zOqe_push, zMqe_push), (nat_lit 4, zPqe_unwind, zOqe_unwind, zMqe_unwind), (nat_lit 5, zPqe_waitingRank, zOqe_waitingRank, zMqe_waitingRank)] pCqe_readSign qCqe_readSign) 0).1 [1, x5] η
          have wk0 : yp_wk η := hpp.2
          have hpp := hpp.1
          intro x1 e1 r1 c1 x2 e2 r2 c2 x3 e3 r3 c3 x4 e4 r4 c4 x5 e5 r5
          refine yj_a ?_ ?_
          · exact hpp.1
          · exact wk0
        · show ∀ x1 : Int, x1 = η 60 (Int.toNat 6) → zok 0 x1 → (¬ x1 = 14) → ∀ x2 : Int, x2 = η 60 (Int.toNat 6) → zok 0 x2 → (1 ≤ x2) → ∀ x3 : Int, x3 = η 60 (Int.toNat 6) → zok 0 x3 → (x3 ≤ 13) → ∀ x4 : Int, x4 = η 60 (Int.toNat 6) → zok 0 x4 → (x4 = 3) → ∀ x5 : Int, x5 = η 60 (Int.toNat 7) → zok 0 x5 → ∀ (x6 : Int) (η1 : zE), ((gC2 wl_qe [(nat_lit 0, zPqe_flaw, zOqe_flaw, zMqe_flaw), (nat_lit 1, zPqe_next, zOqe_next, zMqe_next), (nat_lit 2, zPqe_tie, zOqe_tie, zMqe_tie), (nat_lit 3, zPqe_push, zOqe_push, zMqe_push), (nat_lit 4, zPqe_unwind, zOqe_unwind, zMqe_unwind), (nat_lit 5, zPqe_waitingRank, zOqe_waitingRank, zMqe_waitingRank)] pCqe_readSign qCqe_readSign) 0).2 [1, x5] η x6 η1 → (fun (_ : Nat) (y : Int) (η' : zE) => pQqe_readSign [] η y η') 0 0 η1
          have wk0 : yp_wk η := hpp.2
          have hpp := hpp.1
          intro x1 e1 r1 c1 x2 e2 r2 c2 x3 e3 r3 c3 x4 e4 r4 c4 x5 e5 r5 x6 η1 h6
          have y6 : fQqe_flaw [1, x5] η x6 η1 := h6.2.2
          have k6 : sQ wl_qe zTr zOqe_flaw zMqe_flaw [1, x5] η x6 η1 ∧ oQqe_flaw [1, x5] η x6 η1 := ⟨h6.1, h6.2.1⟩
          refine yj_a ?_ ?_
          · have y6 : fQqe_flaw [1, x5] η x6 η1 := h6.2.2
            have k6 : sQ wl_qe zTr zOqe_flaw zMqe_flaw [1, x5] η x6 η1 ∧ oQqe_flaw [1, x5] η x6 η1 := ⟨h6.1, h6.2.1⟩
            exact k6.2
          · have e1 : x1 = η 60 6 := e1
            clear r1
            have e2 : x2 = η 60 6 := e2
            clear r2
            have e3 : x3 = η 60 6 := e3
            clear r3
            have e4 : x4 = η 60 6 := e4
            clear r4
            have e5 : x5 = η 60 7 := e5
            clear r5
            have b6 : η1 = yp_flw 1 x5 η := y6
            clear k6 h6
            show 0 = (yp_sgw η) ∧ η1 = (yp_sgn η)
            subst e1
            subst e2
            subst e3
            subst e4
            subst e5
            subst b6
            refine ⟨?_, ?_⟩
            · unfold yp_sgw
              (repeat' split) <;> first | (exfalso; omega) | rfl
            · unfold yp_sgn yp_sg2
              (repeat' split) <;> first | (exfalso; omega) | rfl
        · show ∀ x1 : Int, x1 = η 60 (Int.toNat 6) → zok 0 x1 → (x1 = 14) → ∀ x2 : Int, x2 = η 60 (Int.toNat 13) → zok 0 x2 → (x2 ≤ 0) → ∀ x3 : Int, x3 = η 60 (Int.toNat 6) → zok 0 x3 → (1 ≤ x3) → ∀ x4 : Int, x4 = η 60 (Int.toNat 6) → zok 0 x4 → (13 < x4) → ∀ x5 : Int, x5 = η 60 (Int.toNat 7) → zok 0 x5 → ((gC2 wl_qe [(nat_lit 0, zPqe_flaw, zOqe_flaw, zMqe_flaw), (nat_lit 1, zPqe_next, zOqe_next, zMqe_next), (nat_lit 2, zPqe_tie, zOqe_tie, zMqe_tie), (nat_lit 3, zPqe_push, zOqe_push, zMqe_push), (nat_lit 4, zPqe_unwind, zOqe_unwind, zMqe_unwind), (nat_lit 5, zPqe_waitingRank, zOqe_waitingRank, zMqe_waitingRank)] pCqe_readSign qCqe_readSign) 0).1 [1, x5] η
          have wk0 : yp_wk η := hpp.2
          have hpp := hpp.1
          intro x1 e1 r1 c1 x2 e2 r2 c2 x3 e3 r3 c3 x4 e4 r4 c4 x5 e5 r5
          refine yj_a ?_ ?_
          · exact hpp.1
          · exact wk0
        · show ∀ x1 : Int, x1 = η 60 (Int.toNat 6) → zok 0 x1 → (x1 = 14) → ∀ x2 : Int, x2 = η 60 (Int.toNat 13) → zok 0 x2 → (x2 ≤ 0) → ∀ x3 : Int, x3 = η 60 (Int.toNat 6) → zok 0 x3 → (1 ≤ x3) → ∀ x4 : Int, x4 = η 60 (Int.toNat 6) → zok 0 x4 → (13 < x4) → ∀ x5 : Int, x5 = η 60 (Int.toNat 7) → zok 0 x5 → ∀ (x6 : Int) (η1 : zE), ((gC2 wl_qe [(nat_lit 0, zPqe_flaw, zOqe_flaw, zMqe_flaw), (nat_lit 1, zPqe_next, zOqe_next, zMqe_next), (nat_lit 2, zPqe_tie, zOqe_tie, zMqe_tie), (nat_lit 3, zPqe_push, zOqe_push, zMqe_push), (nat_lit 4, zPqe_unwind, zOqe_unwind, zMqe_unwind), (nat_lit 5, zPqe_waitingRank, zOqe_waitingRank, zMqe_waitingRank)] pCqe_readSign qCqe_readSign) 0).2 [1, x5] η x6 η1 → (fun (_ : Nat) (y : Int) (η' : zE) => pQqe_readSign [] η y η') 0 0 η1
          have wk0 : yp_wk η := hpp.2
          have hpp := hpp.1
          intro x1 e1 r1 c1 x2 e2 r2 c2 x3 e3 r3 c3 x4 e4 r4 c4 x5 e5 r5 x6 η1 h6
          have y6 : fQqe_flaw [1, x5] η x6 η1 := h6.2.2
          have k6 : sQ wl_qe zTr zOqe_flaw zMqe_flaw [1, x5] η x6 η1 ∧ oQqe_flaw [1, x5] η x6 η1 := ⟨h6.1, h6.2.1⟩
          refine yj_a ?_ ?_
          · have y6 : fQqe_flaw [1, x5] η x6 η1 := h6.2.2
            have k6 : sQ wl_qe zTr zOqe_flaw zMqe_flaw [1, x5] η x6 η1 ∧ oQqe_flaw [1, x5] η x6 η1 := ⟨h6.1, h6.2.1⟩
            exact k6.2
          · have e1 : x1 = η 60 6 := e1
            clear r1
            have e2 : x2 = η 60 13 := e2
            clear r2
            have e3 : x3 = η 60 6 := e3
            clear r3
            have e4 : x4 = η 60 6 := e4
            clear r4
            have e5 : x5 = η 60 7 := e5
            clear r5
            have b6 : η1 = yp_flw 1 x5 η := y6
            clear k6 h6
            show 0 = (yp_sgw η) ∧ η1 = (yp_sgn η)
            subst e1
            subst e2
            subst e3
            subst e4
            subst e5
            subst b6
            refine ⟨?_, ?_⟩
            · unfold yp_sgw
              (repeat' split) <;> first | (exfalso; omega) | rfl
            · unfold yp_sgn yp_sg2
              (repeat' split) <;> first | (exfalso; omega) | rfl
        · show ∀ x1 : Int, x1 = η 60 (Int.toNat 6) → zok 0 x1 → (x1 = 14) → ∀ x2 : Int, x2 = η 60 (Int.toNat 13) → zok 0 x2 → (0 < x2) → ∀ x3 : Int, x3 = ((ro 2).getD (Int.toNat 1) 0).toInt → ((gC2 wl_qe [(nat_lit 0, zPqe_flaw, zOqe_flaw, zMqe_flaw), (nat_lit 1, zPqe_next, zOqe_next, zMqe_next), (nat_lit 2, zPqe_tie, zOqe_tie, zMqe_tie), (nat_lit 3, zPqe_push, zOqe_push, zMqe_push), (nat_lit 4, zPqe_unwind, zOqe_unwind, zMqe_unwind), (nat_lit 5, zPqe_waitingRank, zOqe_waitingRank, zMqe_waitingRank)] pCqe_readSign qCqe_readSign) 4).1 [x3] η
          have wk0 : yp_wk η := hpp.2
          have hpp := hpp.1
          intro x1 e1 r1 c1 x2 e2 r2 c2 x3 e3
          refine yj_a ?_ ?_
          · have hx3 : x3 = 1 := by rw [e3, hro]; rfl
            exact ⟨hpp.1, show 1 ≤ x3 by omega⟩
          · exact wk0
      )
    (by
      intro xs η hr hl hp hpp
      match xs, hl, hp, hpp with
      | [], _, hp, hpp =>
        refine List.forall_mem_cons.mpr ⟨?_, List.forall_mem_cons.mpr ⟨?_, List.forall_mem_cons.mpr ⟨?_, List.forall_mem_cons.mpr ⟨?_, List.forall_mem_cons.mpr ⟨?_, fun _ h => nomatch h⟩⟩⟩⟩⟩
        · show ∀ x1 : Int, x1 = η 60 (Int.toNat 6) → zok 0 x1 → (¬ x1 = 14) → ∀ x2 : Int, x2 = η 60 (Int.toNat 6) → zok 0 x2 → (1 ≤ x2) → ∀ x3 : Int, x3 = η 60 (Int.toNat 6) → zok 0 x3 → (x3 ≤ 13) → ∀ x4 : Int, x4 = η 60 (Int.toNat 6) → zok 0 x4 → (¬ x4 = 3) → ∀ x5 : Int, x5 = η 60 (Int.toNat 6) → zok 0 x5 → (0 : Int) ≤ x5 ∧ x5 < ((ro 2).length : Int)
          have wk0 : yp_wk η := hpp.2
          have hpp := hpp.1
          intro x1 e1 r1 c1 x2 e2 r2 c2 x3 e3 r3 c3 x4 e4 r4 c4 x5 e5 r5
          have e2 : x2 = η 60 6 := e2
          have e3 : x3 = η 60 6 := e3
          have e5 : x5 = η 60 6 := e5
          rw [hro]
          show 0 ≤ x5 ∧ x5 < (14 : Int)
          omega
        · show ∀ x1 : Int, x1 = η 60 (Int.toNat 6) → zok 0 x1 → (x1 = 14) → ∀ x2 : Int, x2 = η 60 (Int.toNat 13) → zok 0 x2 → (0 < x2) → (0 : Int) ≤ 1 ∧ 1 < ((ro 2).length : Int)
          have wk0 : yp_wk η := hpp.2
          have hpp := hpp.1
          intro x1 e1 r1 c1 x2 e2 r2 c2
          rw [hro]
          exact ⟨by decide, by decide⟩
        · show ∀ x1 : Int, x1 = η 60 (Int.toNat 6) → zok 0 x1 → (x1 = 14) → ∀ x2 : Int, x2 = η 60 (Int.toNat 13) → zok 0 x2 → (0 < x2) → ∀ x3 : Int, x3 = ((ro 2).getD (Int.toNat 1) 0).toInt → ∀ (x4 : Int) (η1 : zE), ((gC wl_qe [(nat_lit 0, zPqe_flaw, zOqe_flaw, zMqe_flaw), (nat_lit 1, zPqe_next, zOqe_next, zMqe_next), (nat_lit 2, zPqe_tie, zOqe_tie, zMqe_tie), (nat_lit 3, zPqe_push, zOqe_push, zMqe_push), (nat_lit 4, zPqe_unwind, zOqe_unwind, zMqe_unwind), (nat_lit 5, zPqe_waitingRank, zOqe_waitingRank, zMqe_waitingRank)] pCqe_readSign qCqe_readSign) 4).2 [x3] η x4 η1 → ∀ x5 : Int, x5 = η1 60 (Int.toNat 12) → zok 0 x5 → ∀ x6 : Int, x6 = zd 0 2 x5 1 → ∀ η2 : zE, η2 = zup η1 60 (Int.toNat 12) x6 → ∀ x7 : Int, x7 = η2 60 (Int.toNat 13) → zok 0 x7 → ∀ x8 : Int, x8 = zd 0 2 x7 1 → ∀ η3 : zE, η3 = zup η2 60 (Int.toNat 13) x8 → ((gC wl_qe [(nat_lit 0, zPqe_flaw, zOqe_flaw, zMqe_flaw), (nat_lit 1, zPqe_next, zOqe_next, zMqe_next), (nat_lit 2, zPqe_tie, zOqe_tie, zMqe_tie), (nat_lit 3, zPqe_push, zOqe_push, zMqe_push), (nat_lit 4, zPqe_unwind, zOqe_unwind, zMqe_unwind), (nat_lit 5, zPqe_waitingRank, zOqe_waitingRank, zMqe_waitingRank)] pCqe_readSign qCqe_readSign) 1).1 [] η3
          have wk0 : yp_wk η := hpp.2
          have hpp := hpp.1
          intro x1 e1 r1 c1 x2 e2 r2 c2 x3 e3 x4 η1 h4 x5 e5 r5 x6 e6 η2 eη2 x7 e7 r7 x8 e8 η3 eη3
          have y4 : fQqe_unwind [x3] η x4 η1 := h4.2.2
          have k4 : sQ wl_qe zTr zOqe_unwind zMqe_unwind [x3] η x4 η1 ∧ oQqe_unwind [x3] η x4 η1 := ⟨h4.1, h4.2.1⟩
          refine yj_b ?_ ?_
          · have y4 : fQqe_unwind [x3] η x4 η1 := h4.2.2
            have k4 : sQ wl_qe zTr zOqe_unwind zMqe_unwind [x3] η x4 η1 ∧ oQqe_unwind [x3] η x4 η1 := ⟨h4.1, h4.2.1⟩
            have hx3 : x3 = 1 := by rw [e3, hro]; rfl
            have e2 : x2 = η 60 13 := e2
            have f1 : η1 60 0 = η 60 0 := k4.1.2.2.2.1 60 0 (by decide +kernel)
            have f2 : η1 60 13 = η 60 13 := k4.1.2.2.2.1 60 13 (by decide +kernel)
            have b1 : (0 : Int) ≤ η1 60 12 ∧ η1 60 12 ≤ 72 := wf_ok (a := 12) (b := 12) (z := (0, 72)) k4.1.1 (by decide +kernel) (Nat.le_refl _) (Nat.le_refl _)
            have cl := close_q k4.2.1 (by rw [f1]; exact hpp.2) (by rw [f2]; omega) b1.1 (k4.2.2 hx3)
            have e5 : x5 = η1 60 12 := e5
            have h6 : x6 = η1 60 12 - 1 := by rw [e6, e5]; exact zd_s ⟨by omega, by omega⟩
            have q2 : η2 60 13 = η1 60 13 := by rw [eη2]; exact zup_ne (fun _ e => absurd e (by decide))
            have e7 : x7 = η2 60 13 := e7
            have r7 : -2147483648 ≤ x7 ∧ x7 ≤ 2147483647 := r7
            have h8 : x8 = η1 60 13 - 1 := by rw [e8, e7, q2]; exact zd_s ⟨by omega, by omega⟩
            have w2 : wB wl_qe zTr η2 := by rw [eη2]; exact wk_ok (a := 12) (b := 12) (z := (0, 71)) zTr_k (GR := []) k4.1.1 (by decide +kernel) (by decide) (by decide) (show (0 : Int) ≤ x6 by omega) (show x6 ≤ 71 by omega)
            have w3 : wB wl_qe zTr η3 := by rw [eη3]; exact wk_ok (a := 13) (b := 13) (z := (-2147483648, 2147483647)) zTr_k (GR := []) w2 (by decide +kernel) (by decide) (by decide) (show -2147483648 ≤ x8 by omega) (show x8 ≤ 2147483647 by omega)
            have g3 : G_q η3 := by rw [eη3, eη2, h8, h6]; exact cl.2
            exact ⟨⟨w3, trivial, fun f hf => nomatch hf⟩, g3⟩
          · have wk1 : yp_wk η1 := wk_of wk0 (fun j => k4.1.2.2.2.1 62 j (zinr_not (by decide +kernel)))
            have wk2 : yp_wk η2 := wk_of wk1 (fun j => by rw [eη2]; rfl)
            have wk3 : yp_wk η3 := wk_of wk2 (fun j => by rw [eη3]; rfl)
            exact wk3
        · show ∀ x1 : Int, x1 = η 60 (Int.toNat 6) → zok 0 x1 → (x1 = 14) → ∀ x2 : Int, x2 = η 60 (Int.toNat 13) → zok 0 x2 → (0 < x2) → ∀ x3 : Int, x3 = ((ro 2).getD (Int.toNat 1) 0).toInt → ∀ (x4 : Int) (η1 : zE), ((gC wl_qe [(nat_lit 0, zPqe_flaw, zOqe_flaw, zMqe_flaw), (nat_lit 1, zPqe_next, zOqe_next, zMqe_next), (nat_lit 2, zPqe_tie, zOqe_tie, zMqe_tie), (nat_lit 3, zPqe_push, zOqe_push, zMqe_push), (nat_lit 4, zPqe_unwind, zOqe_unwind, zMqe_unwind), (nat_lit 5, zPqe_waitingRank, zOqe_waitingRank, zMqe_waitingRank)] pCqe_readSign qCqe_readSign) 4).2 [x3] η x4 η1 → ∀ x5 : Int, x5 = η1 60 (Int.toNat 12) → zok 0 x5 → ∀ x6 : Int, x6 = zd 0 2 x5 1 → ∀ η2 : zE, η2 = zup η1 60 (Int.toNat 12) x6 → ∀ x7 : Int, x7 = η2 60 (Int.toNat 13) → zok 0 x7 → ∀ x8 : Int, x8 = zd 0 2 x7 1 → ∀ η3 : zE, η3 = zup η2 60 (Int.toNat 13) x8 → ∀ (x9 : Int) (η4 : zE), ((gC wl_qe [(nat_lit 0, zPqe_flaw, zOqe_flaw, zMqe_flaw), (nat_lit 1, zPqe_next, zOqe_next, zMqe_next), (nat_lit 2, zPqe_tie, zOqe_tie, zMqe_tie), (nat_lit 3, zPqe_push, zOqe_push, zMqe_push), (nat_lit 4, zPqe_unwind, zOqe_unwind, zMqe_unwind), (nat_lit 5, zPqe_waitingRank, zOqe_waitingRank, zMqe_waitingRank)] pCqe_readSign qCqe_readSign) 1).2 [] η3 x9 η4 → (0 : Int) ≤ 0 ∧ (0 : Int) ≤ 1
          have wk0 : yp_wk η := hpp.2
          have hpp := hpp.1
          intro x1 e1 r1 c1 x2 e2 r2 c2 x3 e3 x4 η1 h4 x5 e5 r5 x6 e6 η2 eη2 x7 e7 r7 x8 e8 η3 eη3 x9 η4 h9
          have y4 : fQqe_unwind [x3] η x4 η1 := h4.2.2
          have k4 : sQ wl_qe zTr zOqe_unwind zMqe_unwind [x3] η x4 η1 ∧ oQqe_unwind [x3] η x4 η1 := ⟨h4.1, h4.2.1⟩
          have y9 : fQqe_next [] η3 x9 η4 := h9.2.2
          have k9 : sQ wl_qe zTr zOqe_next zMqe_next [] η3 x9 η4 ∧ oQqe_next [] η3 x9 η4 := ⟨h9.1, h9.2.1⟩
          exact ⟨by decide, by decide⟩
        · show ∀ x1 : Int, x1 = η 60 (Int.toNat 6) → zok 0 x1 → (x1 = 14) → ∀ x2 : Int, x2 = η 60 (Int.toNat 13) → zok 0 x2 → (0 < x2) → ∀ x3 : Int, x3 = ((ro 2).getD (Int.toNat 1) 0).toInt → ∀ (x4 : Int) (η1 : zE), ((gC wl_qe [(nat_lit 0, zPqe_flaw, zOqe_flaw, zMqe_flaw), (nat_lit 1, zPqe_next, zOqe_next, zMqe_next), (nat_lit 2, zPqe_tie, zOqe_tie, zMqe_tie), (nat_lit 3, zPqe_push, zOqe_push, zMqe_push), (nat_lit 4, zPqe_unwind, zOqe_unwind, zMqe_unwind), (nat_lit 5, zPqe_waitingRank, zOqe_waitingRank, zMqe_waitingRank)] pCqe_readSign qCqe_readSign) 4).2 [x3] η x4 η1 → ∀ x5 : Int, x5 = η1 60 (Int.toNat 12) → zok 0 x5 → ∀ x6 : Int, x6 = zd 0 2 x5 1 → ∀ η2 : zE, η2 = zup η1 60 (Int.toNat 12) x6 → ∀ x7 : Int, x7 = η2 60 (Int.toNat 13) → zok 0 x7 → ∀ x8 : Int, x8 = zd 0 2 x7 1 → ∀ η3 : zE, η3 = zup η2 60 (Int.toNat 13) x8 → ∀ (x9 : Int) (η4 : zE), ((gC wl_qe [(nat_lit 0, zPqe_flaw, zOqe_flaw, zMqe_flaw), (nat_lit 1, zPqe_next, zOqe_next, zMqe_next), (nat_lit 2, zPqe_tie, zOqe_tie, zMqe_tie), (nat_lit 3, zPqe_push, zOqe_push, zMqe_push), (nat_lit 4, zPqe_unwind, zOqe_unwind, zMqe_unwind), (nat_lit 5, zPqe_waitingRank, zOqe_waitingRank, zMqe_waitingRank)] pCqe_readSign qCqe_readSign) 1).2 [] η3 x9 η4 → (fun j y η1 => zsQ wl_qe zTr [zOqe_readSign] zMqe_readSign [] η j y η1 ∧ pQqe_readSign [] η y η1) 0 0 η4
          have wk0 : yp_wk η := hpp.2
          have hpp := hpp.1
          intro x1 e1 r1 c1 x2 e2 r2 c2 x3 e3 x4 η1 h4 x5 e5 r5 x6 e6 η2 eη2 x7 e7 r7 x8 e8 η3 eη3 x9 η4 h9
          have y4 : fQqe_unwind [x3] η x4 η1 := h4.2.2
          have k4 : sQ wl_qe zTr zOqe_unwind zMqe_unwind [x3] η x4 η1 ∧ oQqe_unwind [x3] η x4 η1 := ⟨h4.1, h4.2.1⟩
          have y9 : fQqe_next [] η3 x9 η4 := h9.2.2
          have k9 : sQ wl_qe zTr zOqe_next zMqe_next [] η3 x9 η4 ∧ oQqe_next [] η3 x9 η4 := ⟨h9.1, h9.2.1⟩
          refine yj_b ?_ ?_
          · have y4 : fQqe_unwind [x3] η x4 η1 := h4.2.2
            have k4 : sQ wl_qe zTr zOqe_unwind zMqe_unwind [x3] η x4 η1 ∧ oQqe_unwind [x3] η x4 η1 := ⟨h4.1, h4.2.1⟩
            have y9 : fQqe_next [] η3 x9 η4 := h9.2.2
            have k9 : sQ wl_qe zTr zOqe_next zMqe_next [] η3 x9 η4 ∧ oQqe_next [] η3 x9 η4 := ⟨h9.1, h9.2.1⟩
            have hx3 : x3 = 1 := by rw [e3, hro]; rfl
            have e2 : x2 = η 60 13 := e2
            have f1 : η1 60 0 = η 60 0 := k4.1.2.2.2.1 60 0 (by decide +kernel)
            have f2 : η1 60 13 = η 60 13 := k4.1.2.2.2.1 60 13 (by decide +kernel)
            have b1 : (0 : Int) ≤ η1 60 12 ∧ η1 60 12 ≤ 72 := wf_ok (a := 12) (b := 12) (z := (0, 72)) k4.1.1 (by decide +kernel) (Nat.le_refl _) (Nat.le_refl _)
            have cl := close_q k4.2.1 (by rw [f1]; exact hpp.2) (by rw [f2]; omega) b1.1 (k4.2.2 hx3)
            have e5 : x5 = η1 60 12 := e5
            have h6 : x6 = η1 60 12 - 1 := by rw [e6, e5]; exact zd_s ⟨by omega, by omega⟩
            have q2 : η2 60 13 = η1 60 13 := by rw [eη2]; exact zup_ne (fun _ e => absurd e (by decide))
            have e7 : x7 = η2 60 13 := e7
            have r7 : -2147483648 ≤ x7 ∧ x7 ≤ 2147483647 := r7
            have h8 : x8 = η1 60 13 - 1 := by rw [e8, e7, q2]; exact zd_s ⟨by omega, by omega⟩
            have z3 : zFm zMqe_readSign η η3 := by
              rw [eη3, eη2]
              exact zFm_up (zFm_up (zFm_tr zFm_rf k4.1.2.2.2.1 (by decide +kernel)) rfl) rfl
            exact ⟨⟨k9.1.1, ⟨by decide, by decide⟩, (fun f hf => nomatch hf), zFm_tr z3 k9.1.2.2.2.1 (by decide +kernel), fun _ _ w => nomatch w⟩, k9.2⟩
          · have e1 : x1 = η 60 6 := e1
            clear r1
            have e2 : x2 = η 60 13 := e2
            clear r2
            have e3 : x3 = yp_rk 1 := by rw [e3, hro]; rfl
            have b4 : η1 = (yp_unw x3 η) := y4
            clear k4 h4
            have e5 : x5 = η1 60 12 := e5
            clear r5
            have eη2 : η2 = zup η1 60 12 x6 := eη2
            have e7 : x7 = η2 60 13 := e7
            clear r7
            have eη3 : η3 = zup η2 60 13 x8 := eη3
            have b9 : η4 = (yp_adv η3) := y9
            clear k9 h9
            show 0 = (yp_sgw η) ∧ η4 = (yp_sgn η)
            subst e1
            subst e2
            subst e3
            subst b4
            subst e5
            subst e6
            subst eη2
            subst e7
            subst e8
            subst eη3
            subst b9
            refine ⟨?_, ?_⟩
            · unfold yp_sgw
              (repeat' split) <;> first | (exfalso; omega) | rfl
            · unfold yp_sgn yp_sg2
              (repeat' split) <;> first | (exfalso; omega) | rfl
      )
    (fun _ h => nomatch h))
