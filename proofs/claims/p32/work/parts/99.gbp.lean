def zPqe_read : zPq := ([((.ofNat (nat_lit 0)), (.ofNat (nat_lit 700)))], [])
def zOqe_read : zPo := (((.ofNat (nat_lit 0)), (.ofNat (nat_lit 1))), [], [])
def zMqe_read : List zCe := [(nat_lit 33, nat_lit 0), (nat_lit 34, nat_lit 0), (nat_lit 35, nat_lit 0), (nat_lit 37, nat_lit 0), (nat_lit 38, nat_lit 0), (nat_lit 39, nat_lit 0), (nat_lit 40, nat_lit 0), (nat_lit 42, nat_lit 0), (nat_lit 43, nat_lit 0), (nat_lit 44, nat_lit 0), (nat_lit 45, nat_lit 0), (nat_lit 46, nat_lit 0), (nat_lit 47, nat_lit 0), (nat_lit 48, nat_lit 0), (nat_lit 49, nat_lit 0), (nat_lit 50, nat_lit 0), (nat_lit 60, nat_lit 1), (nat_lit 60, nat_lit 2), (nat_lit 60, nat_lit 13), (nat_lit 60, nat_lit 14), (nat_lit 60, nat_lit 6), (nat_lit 60, nat_lit 7), (nat_lit 60, nat_lit 8), (nat_lit 60, nat_lit 9), (nat_lit 61, nat_lit 0), (nat_lit 63, nat_lit 0), (nat_lit 32, nat_lit 0), (nat_lit 60, nat_lit 5)]
def oPqe_read : List Int → zE → Prop := fun _ η => G_r η
def pPqe_read : List Int → zE → Prop := fun xs η => oPqe_read xs η ∧ yp_wk η
def oQqe_read : List Int → zE → Int → zE → Prop := fun _ _ y η' => Gl_q η' ∧ (¬ y = 0 → η' 60 0 = 0)
def fQqe_read : List Int → zE → Int → zE → Prop := fun xs η y η' => y = (if (yp_rdl ((xs.getD 0 0) + 1).toNat (yp_adv (yp_ini (xs.getD 0 0) η))) 60 0 = 0 then 1 else 0) ∧ η' = (yp_rdl ((xs.getD 0 0) + 1).toNat (yp_adv (yp_ini (xs.getD 0 0) η)))
def pQqe_read : List Int → zE → Int → zE → Prop := fun xs η y η' => oQqe_read xs η y η' ∧ fQqe_read xs η y η'
def pCqe_read : Nat → List Int → zE → Prop := fun c => match c with
  | 0 => pPqe_wipe
  | 1 => pPqe_nextL
  | 2 => pPqe_readLine
  | 3 => pPqe_flawL
  | _ => fun _ _ => True
def qCqe_read : Nat → List Int → zE → Int → zE → Prop := fun c => match c with
  | 0 => pQqe_wipe
  | 1 => pQqe_nextL
  | 2 => pQqe_readLine
  | 3 => pQqe_flawL
  | _ => fun _ _ _ _ => True
def iCqe_read : List Int → zE → Nat → List Int → zE → Prop := fun xs η0 c => match c with
  | 0 => fun ys η => (Gl_q η) ∧ (yp_rJ (xs.getD 0 0) η0 (ys.getD 1 0) η)
  | _ => fun _ _ => True
def zVqe_read : List zIv := [(nat_lit 0, ([((.negSucc (nat_lit 2147483647)), (.ofNat (nat_lit 2147483647))), ((.ofNat (nat_lit 0)), (.ofNat (nat_lit 701)))], []), ((.ofNat (nat_lit 800)), [((.negSucc (nat_lit 0)), nat_lit 0, nat_lit 1, nat_lit 0)]))]
def zUqe_read : List zCu := [(nat_lit 59, nat_lit 0, [(nat_lit 0, (.inr (.inr (.inl (nat_lit 60))))), (nat_lit 1, (.inl (nat_lit 1, (.ofNat (nat_lit 0))))), (nat_lit 2, (.inr (.inr (.inl (nat_lit 32))))), (nat_lit 3, (.inl (nat_lit 2, (.ofNat (nat_lit 0)))))], [(nat_lit 60, nat_lit 2, nat_lit 32)])]
def zDqe_read : List (List zK) := [[(nat_lit 7, nat_lit 0, [(nat_lit 0, (.ofNat (nat_lit 0))), (nat_lit 0, (.ofNat (nat_lit 3)))]), (nat_lit 5, nat_lit 0, [(nat_lit 60, (.ofNat (nat_lit 0))), (nat_lit 0, (.ofNat (nat_lit 1))), (nat_lit 0, (.negSucc (nat_lit 0)))]), (nat_lit 5, nat_lit 0, [(nat_lit 60, (.ofNat (nat_lit 0))), (nat_lit 0, (.ofNat (nat_lit 0))), (nat_lit 0, (.ofNat (nat_lit 0)))]), (nat_lit 5, nat_lit 0, [(nat_lit 60, (.ofNat (nat_lit 0))), (nat_lit 0, (.ofNat (nat_lit 5))), (nat_lit 0, (.ofNat (nat_lit 0)))]), (nat_lit 5, nat_lit 0, [(nat_lit 60, (.ofNat (nat_lit 0))), (nat_lit 0, (.ofNat (nat_lit 4))), (nat_lit 1, (.ofNat (nat_lit 0)))]), (nat_lit 8, nat_lit 0, [])],
  [(nat_lit 7, nat_lit 2, [(nat_lit 0, (.ofNat (nat_lit 0)))]), (nat_lit 5, nat_lit 0, [(nat_lit 60, (.ofNat (nat_lit 0))), (nat_lit 0, (.ofNat (nat_lit 1))), (nat_lit 0, (.negSucc (nat_lit 0)))]), (nat_lit 5, nat_lit 0, [(nat_lit 60, (.ofNat (nat_lit 0))), (nat_lit 0, (.ofNat (nat_lit 0))), (nat_lit 0, (.ofNat (nat_lit 0)))]), (nat_lit 5, nat_lit 0, [(nat_lit 60, (.ofNat (nat_lit 0))), (nat_lit 0, (.ofNat (nat_lit 5))), (nat_lit 0, (.ofNat (nat_lit 0)))]), (nat_lit 5, nat_lit 0, [(nat_lit 60, (.ofNat (nat_lit 0))), (nat_lit 0, (.ofNat (nat_lit 4))), (nat_lit 1, (.ofNat (nat_lit 0)))]), (nat_lit 8, nat_lit 0, [])],
  [(nat_lit 7, nat_lit 0, [(nat_lit 0, (.ofNat (nat_lit 1))), (nat_lit 0, (.ofNat (nat_lit 3)))]), (nat_lit 5, nat_lit 1, [(nat_lit 61, (.ofNat (nat_lit 0))), (nat_lit 0, (.ofNat (nat_lit 0))), (nat_lit 0, (.ofNat (nat_lit 0)))]), (nat_lit 5, nat_lit 0, [(nat_lit 60, (.ofNat (nat_lit 0))), (nat_lit 0, (.ofNat (nat_lit 1))), (nat_lit 0, (.negSucc (nat_lit 0)))]), (nat_lit 5, nat_lit 0, [(nat_lit 60, (.ofNat (nat_lit 0))), (nat_lit 0, (.ofNat (nat_lit 0))), (nat_lit 0, (.ofNat (nat_lit 0)))]), (nat_lit 5, nat_lit 0, [(nat_lit 60, (.ofNat (nat_lit 0))), (nat_lit 0, (.ofNat (nat_lit 5))), (nat_lit 0, (.ofNat (nat_lit 0)))]), (nat_lit 5, nat_lit 0, [(nat_lit 60, (.ofNat (nat_lit 0))), (nat_lit 0, (.ofNat (nat_lit 4))), (nat_lit 1, (.ofNat (nat_lit 0)))]), (nat_lit 8, nat_lit 0, [])],
  [(nat_lit 7, nat_lit 2, [(nat_lit 0, (.ofNat (nat_lit 0)))]), (nat_lit 5, nat_lit 1, [(nat_lit 61, (.ofNat (nat_lit 0))), (nat_lit 0, (.ofNat (nat_lit 0))), (nat_lit 0, (.ofNat (nat_lit 0)))]), (nat_lit 5, nat_lit 0, [(nat_lit 60, (.ofNat (nat_lit 0))), (nat_lit 0, (.ofNat (nat_lit 1))), (nat_lit 0, (.negSucc (nat_lit 0)))]), (nat_lit 5, nat_lit 0, [(nat_lit 60, (.ofNat (nat_lit 0))), (nat_lit 0, (.ofNat (nat_lit 0))), (nat_lit 0, (.ofNat (nat_lit 0)))]), (nat_lit 5, nat_lit 0, [(nat_lit 60, (.ofNat (nat_lit 0))), (nat_lit 0, (.ofNat (nat_lit 5))), (nat_lit 0, (.ofNat (nat_lit 0)))]), (nat_lit 5, nat_lit 0, [(nat_lit 60, (.ofNat (nat_lit 0))), (nat_lit 0, (.ofNat (nat_lit 4))), (nat_lit 1, (.ofNat (nat_lit 0)))]), (nat_lit 8, nat_lit 0, [])],
  [(nat_lit 7, nat_lit 0, [(nat_lit 0, (.ofNat (nat_lit 2))), (nat_lit 0, (.ofNat (nat_lit 3)))]), (nat_lit 5, nat_lit 1, [(nat_lit 61, (.ofNat (nat_lit 0))), (nat_lit 0, (.ofNat (nat_lit 1))), (nat_lit 0, (.ofNat (nat_lit 0)))]), (nat_lit 5, nat_lit 1, [(nat_lit 61, (.ofNat (nat_lit 0))), (nat_lit 0, (.ofNat (nat_lit 0))), (nat_lit 0, (.ofNat (nat_lit 0)))]), (nat_lit 5, nat_lit 0, [(nat_lit 60, (.ofNat (nat_lit 0))), (nat_lit 0, (.ofNat (nat_lit 1))), (nat_lit 0, (.negSucc (nat_lit 0)))]), (nat_lit 5, nat_lit 0, [(nat_lit 60, (.ofNat (nat_lit 0))), (nat_lit 0, (.ofNat (nat_lit 0))), (nat_lit 0, (.ofNat (nat_lit 0)))]), (nat_lit 5, nat_lit 0, [(nat_lit 60, (.ofNat (nat_lit 0))), (nat_lit 0, (.ofNat (nat_lit 5))), (nat_lit 0, (.ofNat (nat_lit 0)))]), (nat_lit 5, nat_lit 0, [(nat_lit 60, (.ofNat (nat_lit 0))), (nat_lit 0, (.ofNat (nat_lit 4))), (nat_lit 1, (.ofNat (nat_lit 0)))]), (nat_lit 8, nat_lit 0, [])],
  [(nat_lit 7, nat_lit 2, [(nat_lit 0, (.ofNat (nat_lit 0)))]), (nat_lit 5, nat_lit 1, [(nat_lit 61, (.ofNat (nat_lit 0))), (nat_lit 0, (.ofNat (nat_lit 1))), (nat_lit 0, (.ofNat (nat_lit 0)))]), (nat_lit 5, nat_lit 1, [(nat_lit 61, (.ofNat (nat_lit 0))), (nat_lit 0, (.ofNat (nat_lit 0))), (nat_lit 0, (.ofNat (nat_lit 0)))]), (nat_lit 5, nat_lit 0, [(nat_lit 60, (.ofNat (nat_lit 0))), (nat_lit 0, (.ofNat (nat_lit 1))), (nat_lit 0, (.negSucc (nat_lit 0)))]), (nat_lit 5, nat_lit 0, [(nat_lit 60, (.ofNat (nat_lit 0))), (nat_lit 0, (.ofNat (nat_lit 0))), (nat_lit 0, (.ofNat (nat_lit 0)))]), (nat_lit 5, nat_lit 0, [(nat_lit 60, (.ofNat (nat_lit 0))), (nat_lit 0, (.ofNat (nat_lit 5))), (nat_lit 0, (.ofNat (nat_lit 0)))]), (nat_lit 5, nat_lit 0, [(nat_lit 60, (.ofNat (nat_lit 0))), (nat_lit 0, (.ofNat (nat_lit 4))), (nat_lit 1, (.ofNat (nat_lit 0)))]), (nat_lit 8, nat_lit 0, [])]]
def zEqe_read : List (List zK) := [[(nat_lit 13, nat_lit 0, [])],
  [(nat_lit 13, nat_lit 1, []), (nat_lit 5, nat_lit 1, [(nat_lit 61, (.ofNat (nat_lit 0))), (nat_lit 0, (.ofNat (nat_lit 2))), (nat_lit 0, (.ofNat (nat_lit 0)))]), (nat_lit 5, nat_lit 1, [(nat_lit 61, (.ofNat (nat_lit 0))), (nat_lit 0, (.ofNat (nat_lit 1))), (nat_lit 0, (.ofNat (nat_lit 0)))]), (nat_lit 5, nat_lit 1, [(nat_lit 61, (.ofNat (nat_lit 0))), (nat_lit 0, (.ofNat (nat_lit 0))), (nat_lit 0, (.ofNat (nat_lit 0)))]), (nat_lit 5, nat_lit 0, [(nat_lit 60, (.ofNat (nat_lit 0))), (nat_lit 0, (.ofNat (nat_lit 1))), (nat_lit 0, (.negSucc (nat_lit 0)))]), (nat_lit 5, nat_lit 0, [(nat_lit 60, (.ofNat (nat_lit 0))), (nat_lit 0, (.ofNat (nat_lit 0))), (nat_lit 0, (.ofNat (nat_lit 0)))]), (nat_lit 5, nat_lit 0, [(nat_lit 60, (.ofNat (nat_lit 0))), (nat_lit 0, (.ofNat (nat_lit 5))), (nat_lit 0, (.ofNat (nat_lit 0)))]), (nat_lit 5, nat_lit 0, [(nat_lit 60, (.ofNat (nat_lit 0))), (nat_lit 0, (.ofNat (nat_lit 4))), (nat_lit 1, (.ofNat (nat_lit 0)))]), (nat_lit 8, nat_lit 0, [])],
  [(nat_lit 12, nat_lit 0, [(nat_lit 1, (.ofNat (nat_lit 0))), (nat_lit 0, (.ofNat (nat_lit 0)))]), (nat_lit 8, nat_lit 1, []), (nat_lit 5, nat_lit 1, [(nat_lit 61, (.ofNat (nat_lit 0))), (nat_lit 0, (.ofNat (nat_lit 2))), (nat_lit 0, (.ofNat (nat_lit 0)))]), (nat_lit 5, nat_lit 1, [(nat_lit 61, (.ofNat (nat_lit 0))), (nat_lit 0, (.ofNat (nat_lit 1))), (nat_lit 0, (.ofNat (nat_lit 0)))]), (nat_lit 5, nat_lit 1, [(nat_lit 61, (.ofNat (nat_lit 0))), (nat_lit 0, (.ofNat (nat_lit 0))), (nat_lit 0, (.ofNat (nat_lit 0)))]), (nat_lit 5, nat_lit 0, [(nat_lit 60, (.ofNat (nat_lit 0))), (nat_lit 0, (.ofNat (nat_lit 1))), (nat_lit 0, (.negSucc (nat_lit 0)))]), (nat_lit 5, nat_lit 0, [(nat_lit 60, (.ofNat (nat_lit 0))), (nat_lit 0, (.ofNat (nat_lit 0))), (nat_lit 0, (.ofNat (nat_lit 0)))]), (nat_lit 5, nat_lit 0, [(nat_lit 60, (.ofNat (nat_lit 0))), (nat_lit 0, (.ofNat (nat_lit 5))), (nat_lit 0, (.ofNat (nat_lit 0)))]), (nat_lit 5, nat_lit 0, [(nat_lit 60, (.ofNat (nat_lit 0))), (nat_lit 0, (.ofNat (nat_lit 4))), (nat_lit 1, (.ofNat (nat_lit 0)))]), (nat_lit 8, nat_lit 0, [])]]
def zFqe_read : List (List zK) := []
def zDqe_read_0 : List (List zK) := [[(nat_lit 7, nat_lit 2, [(nat_lit 0, (.ofNat (nat_lit 0)))]), (nat_lit 6, nat_lit 1, [(nat_lit 4, (.ofNat (nat_lit 0))), (nat_lit 0, (.ofNat (nat_lit 0)))]), (nat_lit 4, nat_lit 0, [(nat_lit 60, (.ofNat (nat_lit 0))), (nat_lit 0, (.ofNat (nat_lit 0)))]), (nat_lit 6, nat_lit 4, [(nat_lit 2, (.ofNat (nat_lit 0))), (nat_lit 3, (.ofNat (nat_lit 0)))]), (nat_lit 4, nat_lit 0, [(nat_lit 60, (.ofNat (nat_lit 0))), (nat_lit 0, (.ofNat (nat_lit 4)))])],
  [(nat_lit 7, nat_lit 2, [(nat_lit 0, (.ofNat (nat_lit 1)))]), (nat_lit 6, nat_lit 0, [(nat_lit 4, (.ofNat (nat_lit 0))), (nat_lit 0, (.ofNat (nat_lit 0)))]), (nat_lit 4, nat_lit 0, [(nat_lit 60, (.ofNat (nat_lit 0))), (nat_lit 0, (.ofNat (nat_lit 0)))]), (nat_lit 6, nat_lit 4, [(nat_lit 2, (.ofNat (nat_lit 0))), (nat_lit 3, (.ofNat (nat_lit 0)))]), (nat_lit 4, nat_lit 0, [(nat_lit 60, (.ofNat (nat_lit 0))), (nat_lit 0, (.ofNat (nat_lit 4)))])],
  [(nat_lit 7, nat_lit 2, [(nat_lit 0, (.ofNat (nat_lit 0)))]), (nat_lit 6, nat_lit 1, [(nat_lit 5, (.ofNat (nat_lit 0))), (nat_lit 0, (.ofNat (nat_lit 0)))]), (nat_lit 4, nat_lit 0, [(nat_lit 60, (.ofNat (nat_lit 0))), (nat_lit 0, (.ofNat (nat_lit 0)))]), (nat_lit 6, nat_lit 0, [(nat_lit 4, (.ofNat (nat_lit 0))), (nat_lit 0, (.ofNat (nat_lit 21)))]), (nat_lit 4, nat_lit 0, [(nat_lit 60, (.ofNat (nat_lit 0))), (nat_lit 0, (.ofNat (nat_lit 6)))]), (nat_lit 6, nat_lit 5, [(nat_lit 2, (.ofNat (nat_lit 0))), (nat_lit 3, (.ofNat (nat_lit 0)))]), (nat_lit 4, nat_lit 0, [(nat_lit 60, (.ofNat (nat_lit 0))), (nat_lit 0, (.ofNat (nat_lit 4)))])],
  [(nat_lit 7, nat_lit 2, [(nat_lit 0, (.ofNat (nat_lit 1)))]), (nat_lit 6, nat_lit 0, [(nat_lit 5, (.ofNat (nat_lit 0))), (nat_lit 0, (.ofNat (nat_lit 0)))]), (nat_lit 4, nat_lit 0, [(nat_lit 60, (.ofNat (nat_lit 0))), (nat_lit 0, (.ofNat (nat_lit 0)))]), (nat_lit 6, nat_lit 0, [(nat_lit 4, (.ofNat (nat_lit 0))), (nat_lit 0, (.ofNat (nat_lit 21)))]), (nat_lit 4, nat_lit 0, [(nat_lit 60, (.ofNat (nat_lit 0))), (nat_lit 0, (.ofNat (nat_lit 6)))]), (nat_lit 6, nat_lit 5, [(nat_lit 2, (.ofNat (nat_lit 0))), (nat_lit 3, (.ofNat (nat_lit 0)))]), (nat_lit 4, nat_lit 0, [(nat_lit 60, (.ofNat (nat_lit 0))), (nat_lit 0, (.ofNat (nat_lit 4)))])],
  [(nat_lit 7, nat_lit 2, [(nat_lit 0, (.ofNat (nat_lit 0)))]), (nat_lit 6, nat_lit 1, [(nat_lit 6, (.ofNat (nat_lit 0))), (nat_lit 0, (.ofNat (nat_lit 0)))]), (nat_lit 4, nat_lit 0, [(nat_lit 60, (.ofNat (nat_lit 0))), (nat_lit 0, (.ofNat (nat_lit 0)))]), (nat_lit 6, nat_lit 1, [(nat_lit 5, (.ofNat (nat_lit 0))), (nat_lit 0, (.ofNat (nat_lit 0)))]), (nat_lit 4, nat_lit 0, [(nat_lit 60, (.ofNat (nat_lit 0))), (nat_lit 0, (.ofNat (nat_lit 0)))]), (nat_lit 6, nat_lit 1, [(nat_lit 4, (.ofNat (nat_lit 0))), (nat_lit 0, (.ofNat (nat_lit 21)))]), (nat_lit 4, nat_lit 0, [(nat_lit 60, (.ofNat (nat_lit 0))), (nat_lit 0, (.ofNat (nat_lit 6)))]), (nat_lit 6, nat_lit 5, [(nat_lit 2, (.ofNat (nat_lit 0))), (nat_lit 3, (.ofNat (nat_lit 0)))]), (nat_lit 4, nat_lit 0, [(nat_lit 60, (.ofNat (nat_lit 0))), (nat_lit 0, (.ofNat (nat_lit 4)))])],
  [(nat_lit 7, nat_lit 3, []), (nat_lit 6, nat_lit 0, [(nat_lit 6, (.ofNat (nat_lit 0))), (nat_lit 0, (.ofNat (nat_lit 0)))]), (nat_lit 4, nat_lit 0, [(nat_lit 60, (.ofNat (nat_lit 0))), (nat_lit 0, (.ofNat (nat_lit 0)))]), (nat_lit 6, nat_lit 1, [(nat_lit 5, (.ofNat (nat_lit 0))), (nat_lit 0, (.ofNat (nat_lit 0)))]), (nat_lit 4, nat_lit 0, [(nat_lit 60, (.ofNat (nat_lit 0))), (nat_lit 0, (.ofNat (nat_lit 0)))]), (nat_lit 6, nat_lit 1, [(nat_lit 4, (.ofNat (nat_lit 0))), (nat_lit 0, (.ofNat (nat_lit 21)))]), (nat_lit 4, nat_lit 0, [(nat_lit 60, (.ofNat (nat_lit 0))), (nat_lit 0, (.ofNat (nat_lit 6)))]), (nat_lit 6, nat_lit 5, [(nat_lit 2, (.ofNat (nat_lit 0))), (nat_lit 3, (.ofNat (nat_lit 0)))]), (nat_lit 4, nat_lit 0, [(nat_lit 60, (.ofNat (nat_lit 0))), (nat_lit 0, (.ofNat (nat_lit 4)))])]]
def zEqe_read_0 : List (List zK) := [[(nat_lit 11, nat_lit 0, [(nat_lit 0, (.ofNat (nat_lit 0)))]), (nat_lit 6, nat_lit 1, [(nat_lit 4, (.ofNat (nat_lit 0))), (nat_lit 0, (.ofNat (nat_lit 0)))]), (nat_lit 4, nat_lit 0, [(nat_lit 60, (.ofNat (nat_lit 0))), (nat_lit 0, (.ofNat (nat_lit 0)))]), (nat_lit 6, nat_lit 4, [(nat_lit 2, (.ofNat (nat_lit 0))), (nat_lit 3, (.ofNat (nat_lit 0)))]), (nat_lit 4, nat_lit 0, [(nat_lit 60, (.ofNat (nat_lit 0))), (nat_lit 0, (.ofNat (nat_lit 4)))])],
  [(nat_lit 11, nat_lit 0, [(nat_lit 0, (.ofNat (nat_lit 1)))]), (nat_lit 6, nat_lit 0, [(nat_lit 4, (.ofNat (nat_lit 0))), (nat_lit 0, (.ofNat (nat_lit 0)))]), (nat_lit 4, nat_lit 0, [(nat_lit 60, (.ofNat (nat_lit 0))), (nat_lit 0, (.ofNat (nat_lit 0)))]), (nat_lit 6, nat_lit 4, [(nat_lit 2, (.ofNat (nat_lit 0))), (nat_lit 3, (.ofNat (nat_lit 0)))]), (nat_lit 4, nat_lit 0, [(nat_lit 60, (.ofNat (nat_lit 0))), (nat_lit 0, (.ofNat (nat_lit 4)))])],
  [(nat_lit 11, nat_lit 0, [(nat_lit 0, (.ofNat (nat_lit 0)))]), (nat_lit 6, nat_lit 1, [(nat_lit 5, (.ofNat (nat_lit 0))), (nat_lit 0, (.ofNat (nat_lit 0)))]), (nat_lit 4, nat_lit 0, [(nat_lit 60, (.ofNat (nat_lit 0))), (nat_lit 0, (.ofNat (nat_lit 0)))]), (nat_lit 6, nat_lit 0, [(nat_lit 4, (.ofNat (nat_lit 0))), (nat_lit 0, (.ofNat (nat_lit 21)))]), (nat_lit 4, nat_lit 0, [(nat_lit 60, (.ofNat (nat_lit 0))), (nat_lit 0, (.ofNat (nat_lit 6)))]), (nat_lit 6, nat_lit 5, [(nat_lit 2, (.ofNat (nat_lit 0))), (nat_lit 3, (.ofNat (nat_lit 0)))]), (nat_lit 4, nat_lit 0, [(nat_lit 60, (.ofNat (nat_lit 0))), (nat_lit 0, (.ofNat (nat_lit 4)))])],
  [(nat_lit 11, nat_lit 0, [(nat_lit 0, (.ofNat (nat_lit 1)))]), (nat_lit 6, nat_lit 0, [(nat_lit 5, (.ofNat (nat_lit 0))), (nat_lit 0, (.ofNat (nat_lit 0)))]), (nat_lit 4, nat_lit 0, [(nat_lit 60, (.ofNat (nat_lit 0))), (nat_lit 0, (.ofNat (nat_lit 0)))]), (nat_lit 6, nat_lit 0, [(nat_lit 4, (.ofNat (nat_lit 0))), (nat_lit 0, (.ofNat (nat_lit 21)))]), (nat_lit 4, nat_lit 0, [(nat_lit 60, (.ofNat (nat_lit 0))), (nat_lit 0, (.ofNat (nat_lit 6)))]), (nat_lit 6, nat_lit 5, [(nat_lit 2, (.ofNat (nat_lit 0))), (nat_lit 3, (.ofNat (nat_lit 0)))]), (nat_lit 4, nat_lit 0, [(nat_lit 60, (.ofNat (nat_lit 0))), (nat_lit 0, (.ofNat (nat_lit 4)))])],
  [(nat_lit 11, nat_lit 0, [(nat_lit 0, (.ofNat (nat_lit 0)))]), (nat_lit 6, nat_lit 1, [(nat_lit 6, (.ofNat (nat_lit 0))), (nat_lit 0, (.ofNat (nat_lit 0)))]), (nat_lit 4, nat_lit 0, [(nat_lit 60, (.ofNat (nat_lit 0))), (nat_lit 0, (.ofNat (nat_lit 0)))]), (nat_lit 6, nat_lit 1, [(nat_lit 5, (.ofNat (nat_lit 0))), (nat_lit 0, (.ofNat (nat_lit 0)))]), (nat_lit 4, nat_lit 0, [(nat_lit 60, (.ofNat (nat_lit 0))), (nat_lit 0, (.ofNat (nat_lit 0)))]), (nat_lit 6, nat_lit 1, [(nat_lit 4, (.ofNat (nat_lit 0))), (nat_lit 0, (.ofNat (nat_lit 21)))]), (nat_lit 4, nat_lit 0, [(nat_lit 60, (.ofNat (nat_lit 0))), (nat_lit 0, (.ofNat (nat_lit 6)))]), (nat_lit 6, nat_lit 5, [(nat_lit 2, (.ofNat (nat_lit 0))), (nat_lit 3, (.ofNat (nat_lit 0)))]), (nat_lit 4, nat_lit 0, [(nat_lit 60, (.ofNat (nat_lit 0))), (nat_lit 0, (.ofNat (nat_lit 4)))])],
  [(nat_lit 13, nat_lit 2, []), (nat_lit 6, nat_lit 0, [(nat_lit 5, (.ofNat (nat_lit 0))), (nat_lit 0, (.ofNat (nat_lit 0)))]), (nat_lit 4, nat_lit 0, [(nat_lit 60, (.ofNat (nat_lit 0))), (nat_lit 0, (.ofNat (nat_lit 0)))]), (nat_lit 6, nat_lit 1, [(nat_lit 4, (.ofNat (nat_lit 0))), (nat_lit 0, (.ofNat (nat_lit 21)))]), (nat_lit 4, nat_lit 0, [(nat_lit 60, (.ofNat (nat_lit 0))), (nat_lit 0, (.ofNat (nat_lit 6)))]), (nat_lit 6, nat_lit 5, [(nat_lit 2, (.ofNat (nat_lit 0))), (nat_lit 3, (.ofNat (nat_lit 0)))]), (nat_lit 4, nat_lit 0, [(nat_lit 60, (.ofNat (nat_lit 0))), (nat_lit 0, (.ofNat (nat_lit 4)))])],
  [(nat_lit 13, nat_lit 1, []), (nat_lit 6, nat_lit 0, [(nat_lit 7, (.ofNat (nat_lit 0))), (nat_lit 0, (.ofNat (nat_lit 15)))]), (nat_lit 4, nat_lit 0, [(nat_lit 60, (.ofNat (nat_lit 0))), (nat_lit 0, (.ofNat (nat_lit 6)))]), (nat_lit 8, nat_lit 2, []), (nat_lit 6, nat_lit 0, [(nat_lit 5, (.ofNat (nat_lit 0))), (nat_lit 0, (.ofNat (nat_lit 0)))]), (nat_lit 4, nat_lit 0, [(nat_lit 60, (.ofNat (nat_lit 0))), (nat_lit 0, (.ofNat (nat_lit 0)))]), (nat_lit 6, nat_lit 1, [(nat_lit 4, (.ofNat (nat_lit 0))), (nat_lit 0, (.ofNat (nat_lit 21)))]), (nat_lit 4, nat_lit 0, [(nat_lit 60, (.ofNat (nat_lit 0))), (nat_lit 0, (.ofNat (nat_lit 6)))]), (nat_lit 6, nat_lit 5, [(nat_lit 2, (.ofNat (nat_lit 0))), (nat_lit 3, (.ofNat (nat_lit 0)))]), (nat_lit 4, nat_lit 0, [(nat_lit 60, (.ofNat (nat_lit 0))), (nat_lit 0, (.ofNat (nat_lit 4)))])],
  [(nat_lit 10, nat_lit 0, [(nat_lit 1, (.ofNat (nat_lit 0))), (nat_lit 11, (.ofNat (nat_lit 0)))]), (nat_lit 0, nat_lit 1, [(nat_lit 2, (.ofNat (nat_lit 0))), (nat_lit 0, (.ofNat (nat_lit 1)))]), (nat_lit 5, nat_lit 0, [(nat_lit 32, (.ofNat (nat_lit 0))), (nat_lit 0, (.ofNat (nat_lit 0))), (nat_lit 10, (.ofNat (nat_lit 0)))]), (nat_lit 0, nat_lit 1, [(nat_lit 9, (.ofNat (nat_lit 0))), (nat_lit 0, (.ofNat (nat_lit 1)))]), (nat_lit 4, nat_lit 0, [(nat_lit 32, (.ofNat (nat_lit 0))), (nat_lit 0, (.ofNat (nat_lit 0)))]), (nat_lit 8, nat_lit 1, []), (nat_lit 6, nat_lit 0, [(nat_lit 7, (.ofNat (nat_lit 0))), (nat_lit 0, (.ofNat (nat_lit 15)))]), (nat_lit 4, nat_lit 0, [(nat_lit 60, (.ofNat (nat_lit 0))), (nat_lit 0, (.ofNat (nat_lit 6)))]), (nat_lit 8, nat_lit 2, []), (nat_lit 6, nat_lit 0, [(nat_lit 5, (.ofNat (nat_lit 0))), (nat_lit 0, (.ofNat (nat_lit 0)))]), (nat_lit 4, nat_lit 0, [(nat_lit 60, (.ofNat (nat_lit 0))), (nat_lit 0, (.ofNat (nat_lit 0)))]), (nat_lit 6, nat_lit 1, [(nat_lit 4, (.ofNat (nat_lit 0))), (nat_lit 0, (.ofNat (nat_lit 21)))]), (nat_lit 4, nat_lit 0, [(nat_lit 60, (.ofNat (nat_lit 0))), (nat_lit 0, (.ofNat (nat_lit 6)))]), (nat_lit 6, nat_lit 5, [(nat_lit 2, (.ofNat (nat_lit 0))), (nat_lit 3, (.ofNat (nat_lit 0)))]), (nat_lit 4, nat_lit 0, [(nat_lit 60, (.ofNat (nat_lit 0))), (nat_lit 0, (.ofNat (nat_lit 4)))])],
  [(nat_lit 13, nat_lit 3, [(nat_lit 0, (.ofNat (nat_lit 1))), (nat_lit 8, (.ofNat (nat_lit 0)))]), (nat_lit 4, nat_lit 0, [(nat_lit 60, (.ofNat (nat_lit 0))), (nat_lit 0, (.ofNat (nat_lit 7)))]), (nat_lit 6, nat_lit 1, [(nat_lit 7, (.ofNat (nat_lit 0))), (nat_lit 0, (.ofNat (nat_lit 15)))]), (nat_lit 4, nat_lit 0, [(nat_lit 60, (.ofNat (nat_lit 0))), (nat_lit 0, (.ofNat (nat_lit 6)))]), (nat_lit 8, nat_lit 2, []), (nat_lit 6, nat_lit 0, [(nat_lit 5, (.ofNat (nat_lit 0))), (nat_lit 0, (.ofNat (nat_lit 0)))]), (nat_lit 4, nat_lit 0, [(nat_lit 60, (.ofNat (nat_lit 0))), (nat_lit 0, (.ofNat (nat_lit 0)))]), (nat_lit 6, nat_lit 1, [(nat_lit 4, (.ofNat (nat_lit 0))), (nat_lit 0, (.ofNat (nat_lit 21)))]), (nat_lit 4, nat_lit 0, [(nat_lit 60, (.ofNat (nat_lit 0))), (nat_lit 0, (.ofNat (nat_lit 6)))]), (nat_lit 6, nat_lit 5, [(nat_lit 2, (.ofNat (nat_lit 0))), (nat_lit 3, (.ofNat (nat_lit 0)))]), (nat_lit 4, nat_lit 0, [(nat_lit 60, (.ofNat (nat_lit 0))), (nat_lit 0, (.ofNat (nat_lit 4)))])],
  [(nat_lit 13, nat_lit 1, []), (nat_lit 8, nat_lit 3, [(nat_lit 0, (.ofNat (nat_lit 1))), (nat_lit 8, (.ofNat (nat_lit 0)))]), (nat_lit 4, nat_lit 0, [(nat_lit 60, (.ofNat (nat_lit 0))), (nat_lit 0, (.ofNat (nat_lit 7)))]), (nat_lit 6, nat_lit 1, [(nat_lit 7, (.ofNat (nat_lit 0))), (nat_lit 0, (.ofNat (nat_lit 15)))]), (nat_lit 4, nat_lit 0, [(nat_lit 60, (.ofNat (nat_lit 0))), (nat_lit 0, (.ofNat (nat_lit 6)))]), (nat_lit 8, nat_lit 2, []), (nat_lit 6, nat_lit 0, [(nat_lit 5, (.ofNat (nat_lit 0))), (nat_lit 0, (.ofNat (nat_lit 0)))]), (nat_lit 4, nat_lit 0, [(nat_lit 60, (.ofNat (nat_lit 0))), (nat_lit 0, (.ofNat (nat_lit 0)))]), (nat_lit 6, nat_lit 1, [(nat_lit 4, (.ofNat (nat_lit 0))), (nat_lit 0, (.ofNat (nat_lit 21)))]), (nat_lit 4, nat_lit 0, [(nat_lit 60, (.ofNat (nat_lit 0))), (nat_lit 0, (.ofNat (nat_lit 6)))]), (nat_lit 6, nat_lit 5, [(nat_lit 2, (.ofNat (nat_lit 0))), (nat_lit 3, (.ofNat (nat_lit 0)))]), (nat_lit 4, nat_lit 0, [(nat_lit 60, (.ofNat (nat_lit 0))), (nat_lit 0, (.ofNat (nat_lit 4)))])],
  [(nat_lit 10, nat_lit 0, [(nat_lit 1, (.ofNat (nat_lit 0))), (nat_lit 13, (.ofNat (nat_lit 0)))]), (nat_lit 0, nat_lit 1, [(nat_lit 2, (.ofNat (nat_lit 0))), (nat_lit 0, (.ofNat (nat_lit 1)))]), (nat_lit 5, nat_lit 0, [(nat_lit 32, (.ofNat (nat_lit 0))), (nat_lit 0, (.ofNat (nat_lit 0))), (nat_lit 12, (.ofNat (nat_lit 0)))]), (nat_lit 0, nat_lit 1, [(nat_lit 11, (.ofNat (nat_lit 0))), (nat_lit 0, (.ofNat (nat_lit 1)))]), (nat_lit 4, nat_lit 0, [(nat_lit 32, (.ofNat (nat_lit 0))), (nat_lit 0, (.ofNat (nat_lit 0)))]), (nat_lit 8, nat_lit 1, []), (nat_lit 8, nat_lit 3, [(nat_lit 0, (.ofNat (nat_lit 1))), (nat_lit 8, (.ofNat (nat_lit 0)))]), (nat_lit 4, nat_lit 0, [(nat_lit 60, (.ofNat (nat_lit 0))), (nat_lit 0, (.ofNat (nat_lit 7)))]), (nat_lit 6, nat_lit 1, [(nat_lit 7, (.ofNat (nat_lit 0))), (nat_lit 0, (.ofNat (nat_lit 15)))]), (nat_lit 4, nat_lit 0, [(nat_lit 60, (.ofNat (nat_lit 0))), (nat_lit 0, (.ofNat (nat_lit 6)))]), (nat_lit 8, nat_lit 2, []), (nat_lit 6, nat_lit 0, [(nat_lit 5, (.ofNat (nat_lit 0))), (nat_lit 0, (.ofNat (nat_lit 0)))]), (nat_lit 4, nat_lit 0, [(nat_lit 60, (.ofNat (nat_lit 0))), (nat_lit 0, (.ofNat (nat_lit 0)))]), (nat_lit 6, nat_lit 1, [(nat_lit 4, (.ofNat (nat_lit 0))), (nat_lit 0, (.ofNat (nat_lit 21)))]), (nat_lit 4, nat_lit 0, [(nat_lit 60, (.ofNat (nat_lit 0))), (nat_lit 0, (.ofNat (nat_lit 6)))]), (nat_lit 6, nat_lit 5, [(nat_lit 2, (.ofNat (nat_lit 0))), (nat_lit 3, (.ofNat (nat_lit 0)))]), (nat_lit 4, nat_lit 0, [(nat_lit 60, (.ofNat (nat_lit 0))), (nat_lit 0, (.ofNat (nat_lit 4)))])]]
def zFqe_read_0 : List (List zK) := []
set_option maxHeartbeats 8000000 in
theorem zqe_read {ro : Nat → List Int32} (hro : ro 2 = [0, 1, 2, 3, 4, 4, 4, 4, 4, 4, 5, 5, 6, 6]) : zMet pr_P pr_K pr_df ro (sm_X0 1 6) 6 30 tm_qe [(.inr (.inr (.inl (nat_lit 60)))), (.inl (nat_lit 1, (.ofNat (nat_lit 0)))), (.inr (.inr (.inl (nat_lit 32))))] 2 [(nat_lit 60, nat_lit 3, nat_lit 1), (nat_lit 60, nat_lit 9, nat_lit 61), (nat_lit 60, nat_lit 10, nat_lit 62), (nat_lit 60, nat_lit 11, nat_lit 63), (nat_lit 32, nat_lit 8, nat_lit 33), (nat_lit 32, nat_lit 9, nat_lit 34), (nat_lit 32, nat_lit 10, nat_lit 35), (nat_lit 32, nat_lit 11, nat_lit 36), (nat_lit 32, nat_lit 12, nat_lit 41), (nat_lit 32, nat_lit 13, nat_lit 46), (nat_lit 32, nat_lit 14, nat_lit 47), (nat_lit 36, nat_lit 0, nat_lit 37), (nat_lit 41, nat_lit 0, nat_lit 42), (nat_lit 36, nat_lit 1, nat_lit 38), (nat_lit 41, nat_lit 1, nat_lit 43), (nat_lit 36, nat_lit 2, nat_lit 39), (nat_lit 41, nat_lit 2, nat_lit 44), (nat_lit 36, nat_lit 3, nat_lit 40), (nat_lit 41, nat_lit 3, nat_lit 45), (nat_lit 47, nat_lit 2, nat_lit 48), (nat_lit 47, nat_lit 3, nat_lit 49), (nat_lit 47, nat_lit 4, nat_lit 50), (nat_lit 47, nat_lit 5, nat_lit 51), (nat_lit 47, nat_lit 6, nat_lit 52)] [(nat_lit 60, nat_lit 2, nat_lit 32)] (fun xs η => sP wl_qe zTr zPqe_read xs η ∧ pPqe_read xs η) (fun xs η y η' => sQ wl_qe zTr zOqe_read zMqe_read xs η y η' ∧ pQqe_read xs η y η') :=
  zmet_alt (zmea_gen (mi := (nat_lit 2, nat_lit 1, nat_lit 3, nat_lit 4, nat_lit 2, tX3_read)) (cd := [(nat_lit 52, nat_lit 0, nat_lit 1, [(.inr (.inr (.inl (nat_lit 32))))], nat_lit 0, [(nat_lit 32, nat_lit 8, nat_lit 33), (nat_lit 32, nat_lit 9, nat_lit 34), (nat_lit 32, nat_lit 10, nat_lit 35), (nat_lit 32, nat_lit 11, nat_lit 36), (nat_lit 32, nat_lit 12, nat_lit 41), (nat_lit 32, nat_lit 13, nat_lit 46), (nat_lit 32, nat_lit 14, nat_lit 47), (nat_lit 47, nat_lit 2, nat_lit 48), (nat_lit 47, nat_lit 3, nat_lit 49), (nat_lit 47, nat_lit 4, nat_lit 50), (nat_lit 47, nat_lit 5, nat_lit 51), (nat_lit 47, nat_lit 6, nat_lit 52)], []), (nat_lit 45, nat_lit 1, nat_lit 2, [(.inr (.inr (.inl (nat_lit 60))))], nat_lit 0, [(nat_lit 60, nat_lit 3, nat_lit 1), (nat_lit 60, nat_lit 9, nat_lit 61), (nat_lit 60, nat_lit 10, nat_lit 62), (nat_lit 60, nat_lit 11, nat_lit 63), (nat_lit 60, nat_lit 2, nat_lit 32), (nat_lit 32, nat_lit 8, nat_lit 33), (nat_lit 32, nat_lit 9, nat_lit 34), (nat_lit 32, nat_lit 10, nat_lit 35), (nat_lit 32, nat_lit 11, nat_lit 36), (nat_lit 32, nat_lit 12, nat_lit 41), (nat_lit 32, nat_lit 13, nat_lit 46), (nat_lit 32, nat_lit 14, nat_lit 47), (nat_lit 36, nat_lit 0, nat_lit 37), (nat_lit 41, nat_lit 0, nat_lit 42), (nat_lit 36, nat_lit 1, nat_lit 38), (nat_lit 41, nat_lit 1, nat_lit 43), (nat_lit 36, nat_lit 2, nat_lit 39), (nat_lit 41, nat_lit 2, nat_lit 44), (nat_lit 36, nat_lit 3, nat_lit 40), (nat_lit 41, nat_lit 3, nat_lit 45), (nat_lit 47, nat_lit 2, nat_lit 48), (nat_lit 47, nat_lit 3, nat_lit 49), (nat_lit 47, nat_lit 4, nat_lit 50), (nat_lit 47, nat_lit 5, nat_lit 51), (nat_lit 47, nat_lit 6, nat_lit 52)], []), (nat_lit 32, nat_lit 2, nat_lit 5, [(.inr (.inr (.inl (nat_lit 60))))], nat_lit 0, [(nat_lit 60, nat_lit 3, nat_lit 1), (nat_lit 60, nat_lit 9, nat_lit 61), (nat_lit 60, nat_lit 10, nat_lit 62), (nat_lit 60, nat_lit 11, nat_lit 63), (nat_lit 60, nat_lit 2, nat_lit 32), (nat_lit 32, nat_lit 8, nat_lit 33), (nat_lit 32, nat_lit 9, nat_lit 34), (nat_lit 32, nat_lit 10, nat_lit 35), (nat_lit 32, nat_lit 11, nat_lit 36), (nat_lit 32, nat_lit 12, nat_lit 41), (nat_lit 32, nat_lit 13, nat_lit 46), (nat_lit 32, nat_lit 14, nat_lit 47), (nat_lit 36, nat_lit 0, nat_lit 37), (nat_lit 41, nat_lit 0, nat_lit 42), (nat_lit 36, nat_lit 1, nat_lit 38), (nat_lit 41, nat_lit 1, nat_lit 43), (nat_lit 36, nat_lit 2, nat_lit 39), (nat_lit 41, nat_lit 2, nat_lit 44), (nat_lit 36, nat_lit 3, nat_lit 40), (nat_lit 41, nat_lit 3, nat_lit 45), (nat_lit 47, nat_lit 2, nat_lit 48), (nat_lit 47, nat_lit 3, nat_lit 49), (nat_lit 47, nat_lit 4, nat_lit 50), (nat_lit 47, nat_lit 5, nat_lit 51), (nat_lit 47, nat_lit 6, nat_lit 52)], []), (nat_lit 31, nat_lit 3, nat_lit 0, [(.inr (.inr (.inl (nat_lit 60)))), (.inl (nat_lit 1, (.ofNat (nat_lit 0)))), (.inl (nat_lit 2, (.ofNat (nat_lit 0))))], nat_lit 0, [(nat_lit 60, nat_lit 3, nat_lit 1), (nat_lit 60, nat_lit 9, nat_lit 61), (nat_lit 60, nat_lit 10, nat_lit 62), (nat_lit 60, nat_lit 11, nat_lit 63), (nat_lit 60, nat_lit 2, nat_lit 32), (nat_lit 32, nat_lit 8, nat_lit 33), (nat_lit 32, nat_lit 9, nat_lit 34), (nat_lit 32, nat_lit 10, nat_lit 35), (nat_lit 32, nat_lit 11, nat_lit 36), (nat_lit 32, nat_lit 12, nat_lit 41), (nat_lit 32, nat_lit 13, nat_lit 46), (nat_lit 32, nat_lit 14, nat_lit 47), (nat_lit 36, nat_lit 0, nat_lit 37), (nat_lit 41, nat_lit 0, nat_lit 42), (nat_lit 36, nat_lit 1, nat_lit 38), (nat_lit 41, nat_lit 1, nat_lit 43), (nat_lit 36, nat_lit 2, nat_lit 39), (nat_lit 41, nat_lit 2, nat_lit 44), (nat_lit 36, nat_lit 3, nat_lit 40), (nat_lit 41, nat_lit 3, nat_lit 45), (nat_lit 47, nat_lit 2, nat_lit 48), (nat_lit 47, nat_lit 3, nat_lit 49), (nat_lit 47, nat_lit 4, nat_lit 50), (nat_lit 47, nat_lit 5, nat_lit 51), (nat_lit 47, nat_lit 6, nat_lit 52)], [])]) (cu := zUqe_read) (cs := [(nat_lit 0, zPqe_wipe, zOqe_wipe, zMqe_wipe), (nat_lit 1, zPqe_nextL, zOqe_nextL, zMqe_nextL), (nat_lit 2, zPqe_readLine, zOqe_readLine, zMqe_readLine), (nat_lit 3, zPqe_flawL, zOqe_flawL, zMqe_flawL)]) (iv := zVqe_read) (po := [zOqe_read]) (pr := zPqe_read) (mods := zMqe_read) (D7 := zDqe_read) (D0 := zEqe_read) (Dm := zFqe_read) (f0 := 42) pCqe_read qCqe_read iCqe_read pPqe_read (fun xs η _ y η' => pQqe_read xs η y η') zX_low pr_mtR rfl (List.forall_mem_cons.mpr ⟨zqe_wipe, List.forall_mem_cons.mpr ⟨zqe_nextL, List.forall_mem_cons.mpr ⟨zqe_readLine hro, List.forall_mem_cons.mpr ⟨zqe_flawL, fun _ h => nomatch h⟩⟩⟩⟩) (by decide +kernel) (by decide +kernel) (by decide +kernel)
    (by
      intro xs η hr hl hp hpp
      match xs, hl, hp, hpp with
      | [x1], _, hp, hpp =>
        refine List.forall_mem_cons.mpr ⟨?_, List.forall_mem_cons.mpr ⟨?_, List.forall_mem_cons.mpr ⟨?_, fun _ h => nomatch h⟩⟩⟩
        · show ((gC2 wl_qe [(nat_lit 0, zPqe_wipe, zOqe_wipe, zMqe_wipe), (nat_lit 1, zPqe_nextL, zOqe_nextL, zMqe_nextL), (nat_lit 2, zPqe_readLine, zOqe_readLine, zMqe_readLine), (nat_lit 3, zPqe_flawL, zOqe_flawL, zMqe_flawL)] pCqe_read qCqe_read) 0).1 [] η
          have wk0 : yp_wk η := hpp.2
          have hpp := hpp.1
          refine yj_a ?_ ?_
          · exact hpp
          · exact wk0
        · show ∀ (x2 : Int) (η1 : zE), ((gC2 wl_qe [(nat_lit 0, zPqe_wipe, zOqe_wipe, zMqe_wipe), (nat_lit 1, zPqe_nextL, zOqe_nextL, zMqe_nextL), (nat_lit 2, zPqe_readLine, zOqe_readLine, zMqe_readLine), (nat_lit 3, zPqe_flawL, zOqe_flawL, zMqe_flawL)] pCqe_read qCqe_read) 0).2 [] η x2 η1 → ∀ η2 : zE, η2 = zup η1 60 (Int.toNat 4) x1 → ∀ η3 : zE, η3 = zup η2 60 (Int.toNat 5) 0 → ∀ η4 : zE, η4 = zup η3 60 (Int.toNat 0) 0 → ∀ η5 : zE, η5 = zup η4 60 (Int.toNat 1) (-1) → ∀ η6 : zE, η6 = zup η5 61 (Int.toNat 0) 0 → ∀ η7 : zE, η7 = zup η6 61 (Int.toNat 1) 0 → ∀ η8 : zE, η8 = zup η7 61 (Int.toNat 2) 0 → ((gC2 wl_qe [(nat_lit 0, zPqe_wipe, zOqe_wipe, zMqe_wipe), (nat_lit 1, zPqe_nextL, zOqe_nextL, zMqe_nextL), (nat_lit 2, zPqe_readLine, zOqe_readLine, zMqe_readLine), (nat_lit 3, zPqe_flawL, zOqe_flawL, zMqe_flawL)] pCqe_read qCqe_read) 1).1 [] η8
          have wk0 : yp_wk η := hpp.2
          have hpp := hpp.1
          intro x2 η1 h2 η2 eη2 η3 eη3 η4 eη4 η5 eη5 η6 eη6 η7 eη7 η8 eη8
          have y2 : fQqe_wipe [] η x2 η1 := h2.2.2
          have k2 : sQ wl_qe zTr zOqe_wipe zMqe_wipe [] η x2 η1 ∧ oQqe_wipe [] η x2 η1 := ⟨h2.1, h2.2.1⟩
          refine yj_a ?_ ?_
          · have y2 : fQqe_wipe [] η x2 η1 := h2.2.2
            have k2 : sQ wl_qe zTr zOqe_wipe zMqe_wipe [] η x2 η1 ∧ oQqe_wipe [] η x2 η1 := ⟨h2.1, h2.2.1⟩
            have e : ∀ r j, ¬ r = 60 → ¬ r = 61 → η8 r j = η1 r j := fun r j a b => by
              rw [eη8, zup_ne (fun w _ => b w), eη7, zup_ne (fun w _ => b w), eη6, zup_ne (fun w _ => b w), eη5, zup_ne (fun w _ => a w), eη4, zup_ne (fun w _ => a w), eη3, zup_ne (fun w _ => a w), eη2, zup_ne (fun w _ => a w)]
            have g : G_r η8 := by
              rw [eη8, eη7, eη6, eη5, eη4, eη3, eη2]
              exact zGk_up gk_r (zGk_up gk_r (zGk_up gk_r (zGk_upc gk_r (zGk_upc gk_r (zGk_upc gk_r (zGk_upc gk_r k2.2.1 (by decide +kernel)) (by decide +kernel)) (by decide +kernel)) (by decide +kernel)) (by decide +kernel)) (by decide +kernel)) (by decide +kernel)
            exact gl_w g (by rw [e _ _ (by decide) (by decide)]; exact k2.2.2.1) (fun k hk => by rw [e _ _ (by decide) (by decide)]; exact k2.2.2.2 k hk)
          · have wk1 : yp_wk η1 := wk_of wk0 (fun j => k2.1.2.2.2.1 62 j (zinr_not (by decide +kernel)))
            have wk2 : yp_wk η2 := wk_of wk1 (fun j => by rw [eη2]; rfl)
            have wk3 : yp_wk η3 := wk_of wk2 (fun j => by rw [eη3]; rfl)
            have wk4 : yp_wk η4 := wk_of wk3 (fun j => by rw [eη4]; rfl)
            have wk5 : yp_wk η5 := wk_of wk4 (fun j => by rw [eη5]; rfl)
            have wk6 : yp_wk η6 := wk_of wk5 (fun j => by rw [eη6]; rfl)
            have wk7 : yp_wk η7 := wk_of wk6 (fun j => by rw [eη7]; rfl)
            have wk8 : yp_wk η8 := wk_of wk7 (fun j => by rw [eη8]; rfl)
            exact wk8
        · show ∀ (x2 : Int) (η1 : zE), ((gC2 wl_qe [(nat_lit 0, zPqe_wipe, zOqe_wipe, zMqe_wipe), (nat_lit 1, zPqe_nextL, zOqe_nextL, zMqe_nextL), (nat_lit 2, zPqe_readLine, zOqe_readLine, zMqe_readLine), (nat_lit 3, zPqe_flawL, zOqe_flawL, zMqe_flawL)] pCqe_read qCqe_read) 0).2 [] η x2 η1 → ∀ η2 : zE, η2 = zup η1 60 (Int.toNat 4) x1 → ∀ η3 : zE, η3 = zup η2 60 (Int.toNat 5) 0 → ∀ η4 : zE, η4 = zup η3 60 (Int.toNat 0) 0 → ∀ η5 : zE, η5 = zup η4 60 (Int.toNat 1) (-1) → ∀ η6 : zE, η6 = zup η5 61 (Int.toNat 0) 0 → ∀ η7 : zE, η7 = zup η6 61 (Int.toNat 1) 0 → ∀ η8 : zE, η8 = zup η7 61 (Int.toNat 2) 0 → ∀ (x3 : Int) (η9 : zE), ((gC2 wl_qe [(nat_lit 0, zPqe_wipe, zOqe_wipe, zMqe_wipe), (nat_lit 1, zPqe_nextL, zOqe_nextL, zMqe_nextL), (nat_lit 2, zPqe_readLine, zOqe_readLine, zMqe_readLine), (nat_lit 3, zPqe_flawL, zOqe_flawL, zMqe_flawL)] pCqe_read qCqe_read) 1).2 [] η8 x3 η9 → (iCqe_read [x1] η) 0 [x1, 0] η9
          have wk0 : yp_wk η := hpp.2
          have hpp := hpp.1
          intro x2 η1 h2 η2 eη2 η3 eη3 η4 eη4 η5 eη5 η6 eη6 η7 eη7 η8 eη8 x3 η9 h3
          have y2 : fQqe_wipe [] η x2 η1 := h2.2.2
          have k2 : sQ wl_qe zTr zOqe_wipe zMqe_wipe [] η x2 η1 ∧ oQqe_wipe [] η x2 η1 := ⟨h2.1, h2.2.1⟩
          have y3 : fQqe_nextL [] η8 x3 η9 := h3.2.2
          have k3 : sQ wl_qe zTr zOqe_nextL zMqe_nextL [] η8 x3 η9 ∧ oQqe_nextL [] η8 x3 η9 := ⟨h3.1, h3.2.1⟩
          refine yj_a ?_ ?_
          · have y2 : fQqe_wipe [] η x2 η1 := h2.2.2
            have k2 : sQ wl_qe zTr zOqe_wipe zMqe_wipe [] η x2 η1 ∧ oQqe_wipe [] η x2 η1 := ⟨h2.1, h2.2.1⟩
            have y3 : fQqe_nextL [] η8 x3 η9 := h3.2.2
            have k3 : sQ wl_qe zTr zOqe_nextL zMqe_nextL [] η8 x3 η9 ∧ oQqe_nextL [] η8 x3 η9 := ⟨h3.1, h3.2.1⟩
            exact k3.2
          · have b2 : η1 = (yp_wip η) := y2
            clear k2 h2
            have eη2 : η2 = zup η1 60 4 x1 := eη2
            have eη3 : η3 = zup η2 60 5 0 := eη3
            have eη4 : η4 = zup η3 60 0 0 := eη4
            have eη5 : η5 = zup η4 60 1 (-1) := eη5
            have eη6 : η6 = zup η5 61 0 0 := eη6
            have eη7 : η7 = zup η6 61 1 0 := eη7
            have eη8 : η8 = zup η7 61 2 0 := eη8
            have b3 : η9 = (yp_adv η8) := y3
            clear k3 h3
            subst b2
            subst eη2
            subst eη3
            subst eη4
            subst eη5
            subst eη6
            subst eη7
            subst eη8
            subst b3
            show yp_rJ x1 η 0 _
            refine ⟨rfl, Int.le_refl _, ?_⟩
            rw [Int.sub_zero]
            rfl
      )
    (fun _ _ _ _ _ _ _ h => nomatch h)
    (List.forall_mem_cons.mpr ⟨⟨zDqe_read_0, zEqe_read_0, zFqe_read_0, 38, by decide +kernel, (by
      intro xs η0 hlx hp hpp ys η hr hl hI hig
      match ys, hl, hI, hig with
      | [x1, x2], _, hI, hig =>
        refine ⟨?_, ?_⟩
        · refine List.forall_mem_cons.mpr ⟨?_, List.forall_mem_cons.mpr ⟨?_, List.forall_mem_cons.mpr ⟨?_, List.forall_mem_cons.mpr ⟨?_, List.forall_mem_cons.mpr ⟨?_, List.forall_mem_cons.mpr ⟨?_, List.forall_mem_cons.mpr ⟨?_, List.forall_mem_cons.mpr ⟨?_, List.forall_mem_cons.mpr ⟨?_, List.forall_mem_cons.mpr ⟨?_, List.forall_mem_cons.mpr ⟨?_, fun _ h => nomatch h⟩⟩⟩⟩⟩⟩⟩⟩⟩⟩⟩
          · show ∀ x3 : Int, x3 = η 60 (Int.toNat 4) → zok 0 x3 → (x3 < x2) → ∀ x4 : Int, x4 = η 60 (Int.toNat 0) → zok 0 x4 → (¬ x4 = 0) → (fun (_ : Nat) (y : Int) (η' : zE) => pQqe_read xs η0 y η') 0 0 η
            have wk0 : yp_wk η := wk_of hpp.2 (fun j => hI.2 62 j (zinr_not (by decide +kernel)))
            have hpp := hpp.1
            have fig := hig.2
            have hig := hig.1
            intro x3 e3 r3 c1 x4 e4 r4 c2
            refine yj_a ?_ ?_
            · exact ⟨hig, fun w => absurd rfl w⟩
            · have fig : yp_rJ (xs.getD 0 0) η0 x2 η := fig
              have e3 : x3 = η 60 4 := e3
              have e4 : x4 = η 60 0 := e4
              have g := rdl_e fig (Or.inl (by omega))
              refine ⟨?_, g⟩
              show (0 : Int) = if (yp_rdl (xs.getD 0 0 + 1).toNat (yp_adv (yp_ini (xs.getD 0 0) η0))) 60 0 = 0 then 1 else 0
              rw [← g]
              exact (if_neg (by omega)).symm
          · show ∀ x3 : Int, x3 = η 60 (Int.toNat 4) → zok 0 x3 → (x3 < x2) → ∀ x4 : Int, x4 = η 60 (Int.toNat 0) → zok 0 x4 → (x4 = 0) → (fun (_ : Nat) (y : Int) (η' : zE) => pQqe_read xs η0 y η') 0 1 η
            have wk0 : yp_wk η := wk_of hpp.2 (fun j => hI.2 62 j (zinr_not (by decide +kernel)))
            have hpp := hpp.1
            have fig := hig.2
            have hig := hig.1
            intro x3 e3 r3 c1 x4 e4 r4 c2
            refine yj_a ?_ ?_
            · exact ⟨hig, fun _ => e4.symm.trans c2⟩
            · have fig : yp_rJ (xs.getD 0 0) η0 x2 η := fig
              have e3 : x3 = η 60 4 := e3
              have e4 : x4 = η 60 0 := e4
              have g := rdl_e fig (Or.inl (by omega))
              refine ⟨?_, g⟩
              show (1 : Int) = if (yp_rdl (xs.getD 0 0 + 1).toNat (yp_adv (yp_ini (xs.getD 0 0) η0))) 60 0 = 0 then 1 else 0
              rw [← g]
              exact (if_pos (by omega)).symm
          · show ∀ x3 : Int, x3 = η 60 (Int.toNat 4) → zok 0 x3 → (x2 ≤ x3) → ∀ x4 : Int, x4 = η 60 (Int.toNat 6) → zok 0 x4 → (x4 = 21) → ∀ x5 : Int, x5 = η 60 (Int.toNat 0) → zok 0 x5 → (¬ x5 = 0) → (fun (_ : Nat) (y : Int) (η' : zE) => pQqe_read xs η0 y η') 0 0 η
            have wk0 : yp_wk η := wk_of hpp.2 (fun j => hI.2 62 j (zinr_not (by decide +kernel)))
            have hpp := hpp.1
            have fig := hig.2
            have hig := hig.1
            intro x3 e3 r3 c1 x4 e4 r4 c2 x5 e5 r5 c3
            refine yj_a ?_ ?_
            · exact ⟨hig, fun w => absurd rfl w⟩
            · have fig : yp_rJ (xs.getD 0 0) η0 x2 η := fig
              have e3 : x3 = η 60 4 := e3
              have e4 : x4 = η 60 6 := e4
              have e5 : x5 = η 60 0 := e5
              have g := rdl_e fig (Or.inr (Or.inl (by omega)))
              refine ⟨?_, g⟩
              show (0 : Int) = if (yp_rdl (xs.getD 0 0 + 1).toNat (yp_adv (yp_ini (xs.getD 0 0) η0))) 60 0 = 0 then 1 else 0
              rw [← g]
              exact (if_neg (by omega)).symm
          · show ∀ x3 : Int, x3 = η 60 (Int.toNat 4) → zok 0 x3 → (x2 ≤ x3) → ∀ x4 : Int, x4 = η 60 (Int.toNat 6) → zok 0 x4 → (x4 = 21) → ∀ x5 : Int, x5 = η 60 (Int.toNat 0) → zok 0 x5 → (x5 = 0) → (fun (_ : Nat) (y : Int) (η' : zE) => pQqe_read xs η0 y η') 0 1 η
            have wk0 : yp_wk η := wk_of hpp.2 (fun j => hI.2 62 j (zinr_not (by decide +kernel)))
            have hpp := hpp.1
            have fig := hig.2
            have hig := hig.1
            intro x3 e3 r3 c1 x4 e4 r4 c2 x5 e5 r5 c3
            refine yj_a ?_ ?_
            · exact ⟨hig, fun _ => e5.symm.trans c3⟩
            · have fig : yp_rJ (xs.getD 0 0) η0 x2 η := fig
              have e3 : x3 = η 60 4 := e3
              have e4 : x4 = η 60 6 := e4
              have e5 : x5 = η 60 0 := e5
              have g := rdl_e fig (Or.inr (Or.inl (by omega)))
              refine ⟨?_, g⟩
              show (1 : Int) = if (yp_rdl (xs.getD 0 0 + 1).toNat (yp_adv (yp_ini (xs.getD 0 0) η0))) 60 0 = 0 then 1 else 0
              rw [← g]
              exact (if_pos (by omega)).symm
          · show ∀ x3 : Int, x3 = η 60 (Int.toNat 4) → zok 0 x3 → (x2 ≤ x3) → ∀ x4 : Int, x4 = η 60 (Int.toNat 6) → zok 0 x4 → (¬ x4 = 21) → ∀ x5 : Int, x5 = η 60 (Int.toNat 0) → zok 0 x5 → (¬ x5 = 0) → ∀ x6 : Int, x6 = η 60 (Int.toNat 0) → zok 0 x6 → (¬ x6 = 0) → (fun (_ : Nat) (y : Int) (η' : zE) => pQqe_read xs η0 y η') 0 0 η
            have wk0 : yp_wk η := wk_of hpp.2 (fun j => hI.2 62 j (zinr_not (by decide +kernel)))
            have hpp := hpp.1
            have fig := hig.2
            have hig := hig.1
            intro x3 e3 r3 c1 x4 e4 r4 c2 x5 e5 r5 c3 x6 e6 r6 c4
            refine yj_a ?_ ?_
            · exact ⟨hig, fun w => absurd rfl w⟩
            · have fig : yp_rJ (xs.getD 0 0) η0 x2 η := fig
              have e3 : x3 = η 60 4 := e3
              have e4 : x4 = η 60 6 := e4
              have e5 : x5 = η 60 0 := e5
              have g := rdl_e fig (Or.inr (Or.inr (by omega)))
              refine ⟨?_, g⟩
              show (0 : Int) = if (yp_rdl (xs.getD 0 0 + 1).toNat (yp_adv (yp_ini (xs.getD 0 0) η0))) 60 0 = 0 then 1 else 0
              rw [← g]
              exact (if_neg (by omega)).symm
          · show ∀ x3 : Int, x3 = η 60 (Int.toNat 4) → zok 0 x3 → (x2 ≤ x3) → ∀ x4 : Int, x4 = η 60 (Int.toNat 6) → zok 0 x4 → (¬ x4 = 21) → ∀ x5 : Int, x5 = η 60 (Int.toNat 0) → zok 0 x5 → (x5 = 0) → ((gC2 wl_qe [(nat_lit 0, zPqe_wipe, zOqe_wipe, zMqe_wipe), (nat_lit 1, zPqe_nextL, zOqe_nextL, zMqe_nextL), (nat_lit 2, zPqe_readLine, zOqe_readLine, zMqe_readLine), (nat_lit 3, zPqe_flawL, zOqe_flawL, zMqe_flawL)] pCqe_read qCqe_read) 2).1 [] η
            have wk0 : yp_wk η := wk_of hpp.2 (fun j => hI.2 62 j (zinr_not (by decide +kernel)))
            have hpp := hpp.1
            have fig := hig.2
            have hig := hig.1
            intro x3 e3 r3 c1 x4 e4 r4 c2 x5 e5 r5 c3
            refine yj_a ?_ ?_
            · exact ⟨hig, e5.symm.trans c3⟩
            · exact wk0
          · show ∀ x3 : Int, x3 = η 60 (Int.toNat 4) → zok 0 x3 → (x2 ≤ x3) → ∀ x4 : Int, x4 = η 60 (Int.toNat 6) → zok 0 x4 → (¬ x4 = 21) → ∀ x5 : Int, x5 = η 60 (Int.toNat 0) → zok 0 x5 → (x5 = 0) → ∀ (x6 : Int) (η1 : zE), ((gC2 wl_qe [(nat_lit 0, zPqe_wipe, zOqe_wipe, zMqe_wipe), (nat_lit 1, zPqe_nextL, zOqe_nextL, zMqe_nextL), (nat_lit 2, zPqe_readLine, zOqe_readLine, zMqe_readLine), (nat_lit 3, zPqe_flawL, zOqe_flawL, zMqe_flawL)] pCqe_read qCqe_read) 2).2 [] η x6 η1 → ∀ x7 : Int, x7 = η1 60 (Int.toNat 6) → zok 0 x7 → (x7 = 15) → ((gC2 wl_qe [(nat_lit 0, zPqe_wipe, zOqe_wipe, zMqe_wipe), (nat_lit 1, zPqe_nextL, zOqe_nextL, zMqe_nextL), (nat_lit 2, zPqe_readLine, zOqe_readLine, zMqe_readLine), (nat_lit 3, zPqe_flawL, zOqe_flawL, zMqe_flawL)] pCqe_read qCqe_read) 1).1 [] η1
            have wk0 : yp_wk η := wk_of hpp.2 (fun j => hI.2 62 j (zinr_not (by decide +kernel)))
            have hpp := hpp.1
            have fig := hig.2
            have hig := hig.1
            intro x3 e3 r3 c1 x4 e4 r4 c2 x5 e5 r5 c3 x6 η1 h6 x7 e7 r7 c4
            have y6 : fQqe_readLine [] η x6 η1 := h6.2.2
            have k6 : sQ wl_qe zTr zOqe_readLine zMqe_readLine [] η x6 η1 ∧ oQqe_readLine [] η x6 η1 := ⟨h6.1, h6.2.1⟩
            refine yj_a ?_ ?_
            · have y6 : fQqe_readLine [] η x6 η1 := h6.2.2
              have k6 : sQ wl_qe zTr zOqe_readLine zMqe_readLine [] η x6 η1 ∧ oQqe_readLine [] η x6 η1 := ⟨h6.1, h6.2.1⟩
              exact k6.2
            · have wk1 : yp_wk η1 := wk_of wk0 (fun j => k6.1.2.2.2.1 62 j (zinr_not (by decide +kernel)))
              exact wk1
          · show ∀ x3 : Int, x3 = η 60 (Int.toNat 4) → zok 0 x3 → (x2 ≤ x3) → ∀ x4 : Int, x4 = η 60 (Int.toNat 6) → zok 0 x4 → (¬ x4 = 21) → ∀ x5 : Int, x5 = η 60 (Int.toNat 0) → zok 0 x5 → (x5 = 0) → ∀ (x6 : Int) (η1 : zE), ((gC2 wl_qe [(nat_lit 0, zPqe_wipe, zOqe_wipe, zMqe_wipe), (nat_lit 1, zPqe_nextL, zOqe_nextL, zMqe_nextL), (nat_lit 2, zPqe_readLine, zOqe_readLine, zMqe_readLine), (nat_lit 3, zPqe_flawL, zOqe_flawL, zMqe_flawL)] pCqe_read qCqe_read) 2).2 [] η x6 η1 → ∀ x7 : Int, x7 = η1 60 (Int.toNat 6) → zok 0 x7 → (x7 = 15) → ∀ (x8 : Int) (η2 : zE), ((gC2 wl_qe [(nat_lit 0, zPqe_wipe, zOqe_wipe, zMqe_wipe), (nat_lit 1, zPqe_nextL, zOqe_nextL, zMqe_nextL), (nat_lit 2, zPqe_readLine, zOqe_readLine, zMqe_readLine), (nat_lit 3, zPqe_flawL, zOqe_flawL, zMqe_flawL)] pCqe_read qCqe_read) 1).2 [] η1 x8 η2 → ∀ x9 : Int, x9 = η2 32 (Int.toNat 0) → zok 0 x9 → ∀ x10 : Int, x10 = zd 0 1 x9 1 → ∀ η3 : zE, η3 = zup η2 32 (Int.toNat 0) x10 → ∀ x11 : Int, x11 = zd 0 1 x2 1 → (iCqe_read xs η0) 0 [x1, x11] η3 ∧ (fun (_ : Nat) (_ : List Int) (_ : zE) => (0 : Nat)) 0 [x1, x11] η3 < 1
            have wk0 : yp_wk η := wk_of hpp.2 (fun j => hI.2 62 j (zinr_not (by decide +kernel)))
            have hpp := hpp.1
            have fig := hig.2
            have hig := hig.1
            intro x3 e3 r3 c1 x4 e4 r4 c2 x5 e5 r5 c3 x6 η1 h6 x7 e7 r7 c4 x8 η2 h8 x9 e9 r9 x10 e10 η3 eη3 x11 e11
            have y6 : fQqe_readLine [] η x6 η1 := h6.2.2
            have k6 : sQ wl_qe zTr zOqe_readLine zMqe_readLine [] η x6 η1 ∧ oQqe_readLine [] η x6 η1 := ⟨h6.1, h6.2.1⟩
            have y8 : fQqe_nextL [] η1 x8 η2 := h8.2.2
            have k8 : sQ wl_qe zTr zOqe_nextL zMqe_nextL [] η1 x8 η2 ∧ oQqe_nextL [] η1 x8 η2 := ⟨h8.1, h8.2.1⟩
            refine yj_c ?_ ?_
            · have y6 : fQqe_readLine [] η x6 η1 := h6.2.2
              have k6 : sQ wl_qe zTr zOqe_readLine zMqe_readLine [] η x6 η1 ∧ oQqe_readLine [] η x6 η1 := ⟨h6.1, h6.2.1⟩
              have y8 : fQqe_nextL [] η1 x8 η2 := h8.2.2
              have k8 : sQ wl_qe zTr zOqe_nextL zMqe_nextL [] η1 x8 η2 ∧ oQqe_nextL [] η1 x8 η2 := ⟨h8.1, h8.2.1⟩
              have g : Gl_q η3 := gl_s (m := [(32, 0)]) k8.2 (by rw [eη3]; exact zFm_up zFm_rf rfl) (by rw [eη3]; exact zGk_up gk_r k8.2.1 (by decide +kernel)) (by decide +kernel)
              exact ⟨g, Nat.zero_lt_one⟩
            · have fig : yp_rJ (xs.getD 0 0) η0 x2 η := fig
              have e3 : x3 = η 60 4 := e3
              have e4 : x4 = η 60 6 := e4
              have e5 : x5 = η 60 0 := e5
              have bx2 : (0 : Int) ≤ x2 ∧ x2 ≤ 701 := hI.1.2.1.2.1
              have z6 : η1 = yp_lin η := y6
              have e7 : x7 = η1 60 6 := e7
              have z8 : η2 = yp_adv η1 := y8
              have e9 : x9 = η2 32 0 := e9
              rw [zd_a ⟨by omega, by omega⟩] at e11
              show yp_rJ (xs.getD 0 0) η0 x11 η3
              rw [e11]
              refine rdl_s fig (by omega) (by omega) (by omega) ?_ (by rw [eη3]; exact (k8.1.2.2.2.1 60 4 (by decide +kernel)).trans (k6.1.2.2.2.1 60 4 (by decide +kernel)))
              rw [eη3, e10, e9, z8]
              unfold yp_end
              rw [if_neg (fun w => w (by rw [← z6, ← e7]; assumption)), ← z6]
              rfl
          · show ∀ x3 : Int, x3 = η 60 (Int.toNat 4) → zok 0 x3 → (x2 ≤ x3) → ∀ x4 : Int, x4 = η 60 (Int.toNat 6) → zok 0 x4 → (¬ x4 = 21) → ∀ x5 : Int, x5 = η 60 (Int.toNat 0) → zok 0 x5 → (x5 = 0) → ∀ (x6 : Int) (η1 : zE), ((gC2 wl_qe [(nat_lit 0, zPqe_wipe, zOqe_wipe, zMqe_wipe), (nat_lit 1, zPqe_nextL, zOqe_nextL, zMqe_nextL), (nat_lit 2, zPqe_readLine, zOqe_readLine, zMqe_readLine), (nat_lit 3, zPqe_flawL, zOqe_flawL, zMqe_flawL)] pCqe_read qCqe_read) 2).2 [] η x6 η1 → ∀ x7 : Int, x7 = η1 60 (Int.toNat 6) → zok 0 x7 → (¬ x7 = 15) → ∀ x8 : Int, x8 = η1 60 (Int.toNat 7) → zok 0 x8 → ((gC2 wl_qe [(nat_lit 0, zPqe_wipe, zOqe_wipe, zMqe_wipe), (nat_lit 1, zPqe_nextL, zOqe_nextL, zMqe_nextL), (nat_lit 2, zPqe_readLine, zOqe_readLine, zMqe_readLine), (nat_lit 3, zPqe_flawL, zOqe_flawL, zMqe_flawL)] pCqe_read qCqe_read) 3).1 [1, x8] η1
            have wk0 : yp_wk η := wk_of hpp.2 (fun j => hI.2 62 j (zinr_not (by decide +kernel)))
            have hpp := hpp.1
            have fig := hig.2
            have hig := hig.1
            intro x3 e3 r3 c1 x4 e4 r4 c2 x5 e5 r5 c3 x6 η1 h6 x7 e7 r7 c4 x8 e8 r8
            have y6 : fQqe_readLine [] η x6 η1 := h6.2.2
            have k6 : sQ wl_qe zTr zOqe_readLine zMqe_readLine [] η x6 η1 ∧ oQqe_readLine [] η x6 η1 := ⟨h6.1, h6.2.1⟩
            refine yj_a ?_ ?_
            · have y6 : fQqe_readLine [] η x6 η1 := h6.2.2
              have k6 : sQ wl_qe zTr zOqe_readLine zMqe_readLine [] η x6 η1 ∧ oQqe_readLine [] η x6 η1 := ⟨h6.1, h6.2.1⟩
              exact k6.2
            · have wk1 : yp_wk η1 := wk_of wk0 (fun j => k6.1.2.2.2.1 62 j (zinr_not (by decide +kernel)))
              exact wk1
          · show ∀ x3 : Int, x3 = η 60 (Int.toNat 4) → zok 0 x3 → (x2 ≤ x3) → ∀ x4 : Int, x4 = η 60 (Int.toNat 6) → zok 0 x4 → (¬ x4 = 21) → ∀ x5 : Int, x5 = η 60 (Int.toNat 0) → zok 0 x5 → (x5 = 0) → ∀ (x6 : Int) (η1 : zE), ((gC2 wl_qe [(nat_lit 0, zPqe_wipe, zOqe_wipe, zMqe_wipe), (nat_lit 1, zPqe_nextL, zOqe_nextL, zMqe_nextL), (nat_lit 2, zPqe_readLine, zOqe_readLine, zMqe_readLine), (nat_lit 3, zPqe_flawL, zOqe_flawL, zMqe_flawL)] pCqe_read qCqe_read) 2).2 [] η x6 η1 → ∀ x7 : Int, x7 = η1 60 (Int.toNat 6) → zok 0 x7 → (¬ x7 = 15) → ∀ x8 : Int, x8 = η1 60 (Int.toNat 7) → zok 0 x8 → ∀ (x9 : Int) (η2 : zE), ((gC2 wl_qe [(nat_lit 0, zPqe_wipe, zOqe_wipe, zMqe_wipe), (nat_lit 1, zPqe_nextL, zOqe_nextL, zMqe_nextL), (nat_lit 2, zPqe_readLine, zOqe_readLine, zMqe_readLine), (nat_lit 3, zPqe_flawL, zOqe_flawL, zMqe_flawL)] pCqe_read qCqe_read) 3).2 [1, x8] η1 x9 η2 → ((gC2 wl_qe [(nat_lit 0, zPqe_wipe, zOqe_wipe, zMqe_wipe), (nat_lit 1, zPqe_nextL, zOqe_nextL, zMqe_nextL), (nat_lit 2, zPqe_readLine, zOqe_readLine, zMqe_readLine), (nat_lit 3, zPqe_flawL, zOqe_flawL, zMqe_flawL)] pCqe_read qCqe_read) 1).1 [] η2
            have wk0 : yp_wk η := wk_of hpp.2 (fun j => hI.2 62 j (zinr_not (by decide +kernel)))
            have hpp := hpp.1
            have fig := hig.2
            have hig := hig.1
            intro x3 e3 r3 c1 x4 e4 r4 c2 x5 e5 r5 c3 x6 η1 h6 x7 e7 r7 c4 x8 e8 r8 x9 η2 h9
            have y6 : fQqe_readLine [] η x6 η1 := h6.2.2
            have k6 : sQ wl_qe zTr zOqe_readLine zMqe_readLine [] η x6 η1 ∧ oQqe_readLine [] η x6 η1 := ⟨h6.1, h6.2.1⟩
            have y9 : fQqe_flawL [1, x8] η1 x9 η2 := h9.2.2
            have k9 : sQ wl_qe zTr zOqe_flawL zMqe_flawL [1, x8] η1 x9 η2 ∧ oQqe_flawL [1, x8] η1 x9 η2 := ⟨h9.1, h9.2.1⟩
            refine yj_a ?_ ?_
            · have y6 : fQqe_readLine [] η x6 η1 := h6.2.2
              have k6 : sQ wl_qe zTr zOqe_readLine zMqe_readLine [] η x6 η1 ∧ oQqe_readLine [] η x6 η1 := ⟨h6.1, h6.2.1⟩
              have y9 : fQqe_flawL [1, x8] η1 x9 η2 := h9.2.2
              have k9 : sQ wl_qe zTr zOqe_flawL zMqe_flawL [1, x8] η1 x9 η2 ∧ oQqe_flawL [1, x8] η1 x9 η2 := ⟨h9.1, h9.2.1⟩
              exact k9.2
            · have wk1 : yp_wk η1 := wk_of wk0 (fun j => k6.1.2.2.2.1 62 j (zinr_not (by decide +kernel)))
              have wk2 : yp_wk η2 := wk_of wk1 (fun j => k9.1.2.2.2.1 62 j (zinr_not (by decide +kernel)))
              exact wk2
          · show ∀ x3 : Int, x3 = η 60 (Int.toNat 4) → zok 0 x3 → (x2 ≤ x3) → ∀ x4 : Int, x4 = η 60 (Int.toNat 6) → zok 0 x4 → (¬ x4 = 21) → ∀ x5 : Int, x5 = η 60 (Int.toNat 0) → zok 0 x5 → (x5 = 0) → ∀ (x6 : Int) (η1 : zE), ((gC2 wl_qe [(nat_lit 0, zPqe_wipe, zOqe_wipe, zMqe_wipe), (nat_lit 1, zPqe_nextL, zOqe_nextL, zMqe_nextL), (nat_lit 2, zPqe_readLine, zOqe_readLine, zMqe_readLine), (nat_lit 3, zPqe_flawL, zOqe_flawL, zMqe_flawL)] pCqe_read qCqe_read) 2).2 [] η x6 η1 → ∀ x7 : Int, x7 = η1 60 (Int.toNat 6) → zok 0 x7 → (¬ x7 = 15) → ∀ x8 : Int, x8 = η1 60 (Int.toNat 7) → zok 0 x8 → ∀ (x9 : Int) (η2 : zE), ((gC2 wl_qe [(nat_lit 0, zPqe_wipe, zOqe_wipe, zMqe_wipe), (nat_lit 1, zPqe_nextL, zOqe_nextL, zMqe_nextL), (nat_lit 2, zPqe_readLine, zOqe_readLine, zMqe_readLine), (nat_lit 3, zPqe_flawL, zOqe_flawL, zMqe_flawL)] pCqe_read qCqe_read) 3).2 [1, x8] η1 x9 η2 → ∀ (x10 : Int) (η3 : zE), ((gC2 wl_qe [(nat_lit 0, zPqe_wipe, zOqe_wipe, zMqe_wipe), (nat_lit 1, zPqe_nextL, zOqe_nextL, zMqe_nextL), (nat_lit 2, zPqe_readLine, zOqe_readLine, zMqe_readLine), (nat_lit 3, zPqe_flawL, zOqe_flawL, zMqe_flawL)] pCqe_read qCqe_read) 1).2 [] η2 x10 η3 → ∀ x11 : Int, x11 = η3 32 (Int.toNat 0) → zok 0 x11 → ∀ x12 : Int, x12 = zd 0 1 x11 1 → ∀ η4 : zE, η4 = zup η3 32 (Int.toNat 0) x12 → ∀ x13 : Int, x13 = zd 0 1 x2 1 → (iCqe_read xs η0) 0 [x1, x13] η4 ∧ (fun (_ : Nat) (_ : List Int) (_ : zE) => (0 : Nat)) 0 [x1, x13] η4 < 1
            have wk0 : yp_wk η := wk_of hpp.2 (fun j => hI.2 62 j (zinr_not (by decide +kernel)))
            have hpp := hpp.1
            have fig := hig.2
            have hig := hig.1
            intro x3 e3 r3 c1 x4 e4 r4 c2 x5 e5 r5 c3 x6 η1 h6 x7 e7 r7 c4 x8 e8 r8 x9 η2 h9 x10 η3 h10 x11 e11 r11 x12 e12 η4 eη4 x13 e13
            have y6 : fQqe_readLine [] η x6 η1 := h6.2.2
            have k6 : sQ wl_qe zTr zOqe_readLine zMqe_readLine [] η x6 η1 ∧ oQqe_readLine [] η x6 η1 := ⟨h6.1, h6.2.1⟩
            have y9 : fQqe_flawL [1, x8] η1 x9 η2 := h9.2.2
            have k9 : sQ wl_qe zTr zOqe_flawL zMqe_flawL [1, x8] η1 x9 η2 ∧ oQqe_flawL [1, x8] η1 x9 η2 := ⟨h9.1, h9.2.1⟩
            have y10 : fQqe_nextL [] η2 x10 η3 := h10.2.2
            have k10 : sQ wl_qe zTr zOqe_nextL zMqe_nextL [] η2 x10 η3 ∧ oQqe_nextL [] η2 x10 η3 := ⟨h10.1, h10.2.1⟩
            refine yj_c ?_ ?_
            · have y6 : fQqe_readLine [] η x6 η1 := h6.2.2
              have k6 : sQ wl_qe zTr zOqe_readLine zMqe_readLine [] η x6 η1 ∧ oQqe_readLine [] η x6 η1 := ⟨h6.1, h6.2.1⟩
              have y9 : fQqe_flawL [1, x8] η1 x9 η2 := h9.2.2
              have k9 : sQ wl_qe zTr zOqe_flawL zMqe_flawL [1, x8] η1 x9 η2 ∧ oQqe_flawL [1, x8] η1 x9 η2 := ⟨h9.1, h9.2.1⟩
              have y10 : fQqe_nextL [] η2 x10 η3 := h10.2.2
              have k10 : sQ wl_qe zTr zOqe_nextL zMqe_nextL [] η2 x10 η3 ∧ oQqe_nextL [] η2 x10 η3 := ⟨h10.1, h10.2.1⟩
              have g : Gl_q η4 := gl_s (m := [(32, 0)]) k10.2 (by rw [eη4]; exact zFm_up zFm_rf rfl) (by rw [eη4]; exact zGk_up gk_r k10.2.1 (by decide +kernel)) (by decide +kernel)
              exact ⟨g, Nat.zero_lt_one⟩
            · have fig : yp_rJ (xs.getD 0 0) η0 x2 η := fig
              have e3 : x3 = η 60 4 := e3
              have e4 : x4 = η 60 6 := e4
              have e5 : x5 = η 60 0 := e5
              have bx2 : (0 : Int) ≤ x2 ∧ x2 ≤ 701 := hI.1.2.1.2.1
              have z6 : η1 = yp_lin η := y6
              have e7 : x7 = η1 60 6 := e7
              have e8 : x8 = η1 60 7 := e8
              have z9 : η2 = yp_flw 1 x8 η1 := y9
              have z10 : η3 = yp_adv η2 := y10
              have e11 : x11 = η3 32 0 := e11
              rw [zd_a ⟨by omega, by omega⟩] at e13
              show yp_rJ (xs.getD 0 0) η0 x13 η4
              rw [e13]
              refine rdl_s fig (by omega) (by omega) (by omega) ?_ (by rw [eη4]; exact ((k10.1.2.2.2.1 60 4 (by decide +kernel)).trans (k9.1.2.2.2.1 60 4 (by decide +kernel))).trans (k6.1.2.2.2.1 60 4 (by decide +kernel)))
              rw [eη4, e12, e11, z10, z9, e8]
              unfold yp_end
              rw [if_pos (fun w => absurd (by rw [e7, z6]; exact w) (show ¬ x7 = 15 by assumption)), ← z6]
              rfl
        · exact fun _ h => nomatch h
      )⟩, (fun _ h => nomatch h)⟩))
def zPqe_startB : zPq := zPr_startB
def zOqe_startB : zPo := zOr_startB
def zMqe_startB : List zCe := zMr_startB
def pPqe_startB : List Int → zE → Prop := fun _ η => GB_q η ∧ G_r η
def pQqe_startB : List Int → zE → Int → zE → Prop := fun _ _ _ η' => GB_q η' ∧ G_r η'
theorem zqe_startB {ro : Nat → List Int32} : zMet pr_P pr_K pr_df ro (sm_X0 1 6) 1 7 tm_qe [(.inr (.inr (.inl (nat_lit 70)))), (.inr (.inr (.inl (nat_lit 32))))] 0 [(nat_lit 70, nat_lit 8, nat_lit 71), (nat_lit 70, nat_lit 9, nat_lit 72), (nat_lit 70, nat_lit 10, nat_lit 73)] [] (fun xs η => sP wl_qe zTr zPqe_startB xs η ∧ pPqe_startB xs η) (fun xs η y η' => sQ wl_qe zTr zOqe_startB zMqe_startB xs η y η' ∧ pQqe_startB xs η y η') :=
  zmet_g (L := wl_r) (G := G_r) zr_startB (fun xs η _ h => h.2) (fun xs η y η' h g w => ⟨zGk_fm gkB_q h.1 g.2.2.2.1 (by decide +kernel), w⟩)
