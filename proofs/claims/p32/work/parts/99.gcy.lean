def tm_he : zTm := tm_k
def wl_he : wL := wl_k
def zPhe_feed : zPq := ([((.negSucc (nat_lit 2147483647)), (.ofNat (nat_lit 2147483647))), ((.negSucc (nat_lit 2147483647)), (.ofNat (nat_lit 2147483647))), ((.negSucc (nat_lit 2147483647)), (.ofNat (nat_lit 2147483647))), ((.negSucc (nat_lit 2147483647)), (.ofNat (nat_lit 2147483647))), ((.negSucc (nat_lit 2147483647)), (.ofNat (nat_lit 2147483647)))], [])
def zOhe_feed : zPo := (((.negSucc (nat_lit 2147483647)), (.ofNat (nat_lit 2147483647))), [], [])
def zMhe_feed : List zCe := [(nat_lit 0, nat_lit 3), (nat_lit 0, nat_lit 2), (nat_lit 1, nat_lit 0)]
def pPhe_feed : List Int → zE → Prop := fun _ _ => True
def oQhe_feed : List Int → zE → Int → zE → Prop := fun _ η y η' => (700 < η 0 1 + 20 → y = -1 ∧ η' 0 1 = η 0 1) ∧ (η 0 1 + 20 ≤ 700 → y = η 0 1 + 20 ∧ η' 0 1 = η 0 1 + 20)
def fQhe_feed : List Int → zE → Int → zE → Prop := fun xs η y η' => (700 < η 0 1 + 20 → y = -1 ∧ η' 1 = η 1) ∧ (η 0 1 + 20 ≤ 700 → y = yf_q (xs.getD 0 0) (xs.getD 1 0) (xs.getD 2 0) (xs.getD 3 0) (xs.getD 4 0) η 0 1 ∧ η' = yf_q (xs.getD 0 0) (xs.getD 1 0) (xs.getD 2 0) (xs.getD 3 0) (xs.getD 4 0) η)
def pQhe_feed : List Int → zE → Int → zE → Prop := fun xs η y η' => oQhe_feed xs η y η' ∧ fQhe_feed xs η y η'
def pChe_feed : Nat → List Int → zE → Prop := fun c => match c with
  | _ => fun _ _ => True
def qChe_feed : Nat → List Int → zE → Int → zE → Prop := fun c => match c with
  | _ => fun _ _ _ _ => True
def iChe_feed : List Int → zE → Nat → List Int → zE → Prop := fun xs η0 c => match c with
  | 0 => fun ys η => (η 0 1 = η0 0 1 ∧ η0 0 1 + 20 ≤ 700) ∧ (ys.getD 0 0 = xs.getD 0 0 ∧ ys.getD 1 0 = xs.getD 1 0 ∧ ys.getD 2 0 = xs.getD 2 0 ∧ ys.getD 3 0 = xs.getD 3 0 ∧ ys.getD 4 0 = xs.getD 4 0 ∧ ∃ q : Nat, ys.getD 5 0 = q ∧ η = yf_m (xs.getD 0 0) (xs.getD 1 0) (xs.getD 2 0) (xs.getD 3 0) (xs.getD 4 0) η0 q)
  | _ => fun _ _ => True
def zVhe_feed : List zIv := [(nat_lit 0, ([((.negSucc (nat_lit 2147483647)), (.ofNat (nat_lit 2147483647))), ((.negSucc (nat_lit 2147483647)), (.ofNat (nat_lit 2147483647))), ((.negSucc (nat_lit 2147483647)), (.ofNat (nat_lit 2147483647))), ((.negSucc (nat_lit 2147483647)), (.ofNat (nat_lit 2147483647))), ((.negSucc (nat_lit 2147483647)), (.ofNat (nat_lit 2147483647))), ((.ofNat (nat_lit 0)), (.ofNat (nat_lit 20)))], [(nat_lit 0, nat_lit 1, (.ofNat (nat_lit 0)), (.ofNat (nat_lit 680)))]), ((.ofNat (nat_lit 20)), [((.negSucc (nat_lit 0)), nat_lit 0, nat_lit 5, nat_lit 0)]))]
def zUhe_feed : List zCu := [(nat_lit 23, nat_lit 0, [(nat_lit 0, (.inr (.inr (.inl (nat_lit 0))))), (nat_lit 1, (.inl (nat_lit 1, (.ofNat (nat_lit 0))))), (nat_lit 2, (.inl (nat_lit 2, (.ofNat (nat_lit 0))))), (nat_lit 3, (.inl (nat_lit 3, (.ofNat (nat_lit 0))))), (nat_lit 4, (.inl (nat_lit 4, (.ofNat (nat_lit 0))))), (nat_lit 5, (.inl (nat_lit 5, (.ofNat (nat_lit 0))))), (nat_lit 6, (.inl (nat_lit 6, (.ofNat (nat_lit 0)))))], [])]
def zDhe_feed : List (List zK) := []
def zEhe_feed : List (List zK) := [[(nat_lit 12, nat_lit 0, [(nat_lit 1, (.ofNat (nat_lit 0))), (nat_lit 2, (.ofNat (nat_lit 0))), (nat_lit 3, (.ofNat (nat_lit 0))), (nat_lit 4, (.ofNat (nat_lit 0))), (nat_lit 5, (.ofNat (nat_lit 0))), (nat_lit 0, (.ofNat (nat_lit 0)))]), (nat_lit 6, nat_lit 5, [(nat_lit 7, (.ofNat (nat_lit 0))), (nat_lit 0, (.ofNat (nat_lit 700)))]), (nat_lit 0, nat_lit 1, [(nat_lit 6, (.ofNat (nat_lit 0))), (nat_lit 0, (.ofNat (nat_lit 20)))]), (nat_lit 4, nat_lit 0, [(nat_lit 0, (.ofNat (nat_lit 0))), (nat_lit 0, (.ofNat (nat_lit 1)))]), (nat_lit 5, nat_lit 0, [(nat_lit 0, (.ofNat (nat_lit 0))), (nat_lit 0, (.ofNat (nat_lit 2))), (nat_lit 0, (.ofNat (nat_lit 0)))])],
  [(nat_lit 11, nat_lit 0, [(nat_lit 0, (.negSucc (nat_lit 0)))]), (nat_lit 6, nat_lit 4, [(nat_lit 7, (.ofNat (nat_lit 0))), (nat_lit 0, (.ofNat (nat_lit 700)))]), (nat_lit 0, nat_lit 1, [(nat_lit 6, (.ofNat (nat_lit 0))), (nat_lit 0, (.ofNat (nat_lit 20)))]), (nat_lit 4, nat_lit 0, [(nat_lit 0, (.ofNat (nat_lit 0))), (nat_lit 0, (.ofNat (nat_lit 1)))]), (nat_lit 5, nat_lit 0, [(nat_lit 0, (.ofNat (nat_lit 0))), (nat_lit 0, (.ofNat (nat_lit 2))), (nat_lit 0, (.ofNat (nat_lit 0)))])]]
def zFhe_feed : List (List zK) := []
def zDhe_feed_0 : List (List zK) := [[(nat_lit 7, nat_lit 1, [(nat_lit 0, (.ofNat (nat_lit 4)))]), (nat_lit 0, nat_lit 1, [(nat_lit 7, (.ofNat (nat_lit 0))), (nat_lit 6, (.ofNat (nat_lit 0)))]), (nat_lit 4, nat_lit 0, [(nat_lit 0, (.ofNat (nat_lit 0))), (nat_lit 0, (.ofNat (nat_lit 1)))]), (nat_lit 6, nat_lit 3, [(nat_lit 6, (.ofNat (nat_lit 0))), (nat_lit 0, (.ofNat (nat_lit 16)))]), (nat_lit 6, nat_lit 3, [(nat_lit 6, (.ofNat (nat_lit 0))), (nat_lit 0, (.ofNat (nat_lit 12)))]), (nat_lit 6, nat_lit 3, [(nat_lit 6, (.ofNat (nat_lit 0))), (nat_lit 0, (.ofNat (nat_lit 8)))]), (nat_lit 6, nat_lit 3, [(nat_lit 6, (.ofNat (nat_lit 0))), (nat_lit 0, (.ofNat (nat_lit 4)))]), (nat_lit 6, nat_lit 2, [(nat_lit 6, (.ofNat (nat_lit 0))), (nat_lit 0, (.ofNat (nat_lit 20)))])],
  [(nat_lit 7, nat_lit 0, [(nat_lit 8, (.ofNat (nat_lit 0))), (nat_lit 0, (.ofNat (nat_lit 700)))]), (nat_lit 0, nat_lit 4, [(nat_lit 12, (.ofNat (nat_lit 0))), (nat_lit 0, (.ofNat (nat_lit 255)))]), (nat_lit 0, nat_lit 7, [(nat_lit 5, (.ofNat (nat_lit 0))), (nat_lit 11, (.ofNat (nat_lit 0)))]), (nat_lit 0, nat_lit 2, [(nat_lit 0, (.ofNat (nat_lit 24))), (nat_lit 10, (.ofNat (nat_lit 0)))]), (nat_lit 0, nat_lit 3, [(nat_lit 0, (.ofNat (nat_lit 8))), (nat_lit 9, (.ofNat (nat_lit 0)))]), (nat_lit 0, nat_lit 10, [(nat_lit 6, (.ofNat (nat_lit 0))), (nat_lit 0, (.ofNat (nat_lit 4)))]), (nat_lit 0, nat_lit 1, [(nat_lit 7, (.ofNat (nat_lit 0))), (nat_lit 6, (.ofNat (nat_lit 0)))]), (nat_lit 4, nat_lit 0, [(nat_lit 0, (.ofNat (nat_lit 0))), (nat_lit 0, (.ofNat (nat_lit 1)))]), (nat_lit 6, nat_lit 3, [(nat_lit 6, (.ofNat (nat_lit 0))), (nat_lit 0, (.ofNat (nat_lit 16)))]), (nat_lit 6, nat_lit 3, [(nat_lit 6, (.ofNat (nat_lit 0))), (nat_lit 0, (.ofNat (nat_lit 12)))]), (nat_lit 6, nat_lit 3, [(nat_lit 6, (.ofNat (nat_lit 0))), (nat_lit 0, (.ofNat (nat_lit 8)))]), (nat_lit 6, nat_lit 3, [(nat_lit 6, (.ofNat (nat_lit 0))), (nat_lit 0, (.ofNat (nat_lit 4)))]), (nat_lit 6, nat_lit 2, [(nat_lit 6, (.ofNat (nat_lit 0))), (nat_lit 0, (.ofNat (nat_lit 20)))])],
  [(nat_lit 7, nat_lit 1, [(nat_lit 0, (.ofNat (nat_lit 4)))]), (nat_lit 0, nat_lit 1, [(nat_lit 7, (.ofNat (nat_lit 0))), (nat_lit 6, (.ofNat (nat_lit 0)))]), (nat_lit 4, nat_lit 0, [(nat_lit 0, (.ofNat (nat_lit 0))), (nat_lit 0, (.ofNat (nat_lit 1)))]), (nat_lit 6, nat_lit 2, [(nat_lit 6, (.ofNat (nat_lit 0))), (nat_lit 0, (.ofNat (nat_lit 16)))]), (nat_lit 6, nat_lit 3, [(nat_lit 6, (.ofNat (nat_lit 0))), (nat_lit 0, (.ofNat (nat_lit 12)))]), (nat_lit 6, nat_lit 3, [(nat_lit 6, (.ofNat (nat_lit 0))), (nat_lit 0, (.ofNat (nat_lit 8)))]), (nat_lit 6, nat_lit 3, [(nat_lit 6, (.ofNat (nat_lit 0))), (nat_lit 0, (.ofNat (nat_lit 4)))]), (nat_lit 6, nat_lit 2, [(nat_lit 6, (.ofNat (nat_lit 0))), (nat_lit 0, (.ofNat (nat_lit 20)))])],
  [(nat_lit 7, nat_lit 0, [(nat_lit 8, (.ofNat (nat_lit 0))), (nat_lit 0, (.ofNat (nat_lit 700)))]), (nat_lit 0, nat_lit 4, [(nat_lit 12, (.ofNat (nat_lit 0))), (nat_lit 0, (.ofNat (nat_lit 255)))]), (nat_lit 0, nat_lit 7, [(nat_lit 4, (.ofNat (nat_lit 0))), (nat_lit 11, (.ofNat (nat_lit 0)))]), (nat_lit 0, nat_lit 2, [(nat_lit 0, (.ofNat (nat_lit 24))), (nat_lit 10, (.ofNat (nat_lit 0)))]), (nat_lit 0, nat_lit 3, [(nat_lit 0, (.ofNat (nat_lit 8))), (nat_lit 9, (.ofNat (nat_lit 0)))]), (nat_lit 0, nat_lit 10, [(nat_lit 6, (.ofNat (nat_lit 0))), (nat_lit 0, (.ofNat (nat_lit 4)))]), (nat_lit 0, nat_lit 1, [(nat_lit 7, (.ofNat (nat_lit 0))), (nat_lit 6, (.ofNat (nat_lit 0)))]), (nat_lit 4, nat_lit 0, [(nat_lit 0, (.ofNat (nat_lit 0))), (nat_lit 0, (.ofNat (nat_lit 1)))]), (nat_lit 6, nat_lit 2, [(nat_lit 6, (.ofNat (nat_lit 0))), (nat_lit 0, (.ofNat (nat_lit 16)))]), (nat_lit 6, nat_lit 3, [(nat_lit 6, (.ofNat (nat_lit 0))), (nat_lit 0, (.ofNat (nat_lit 12)))]), (nat_lit 6, nat_lit 3, [(nat_lit 6, (.ofNat (nat_lit 0))), (nat_lit 0, (.ofNat (nat_lit 8)))]), (nat_lit 6, nat_lit 3, [(nat_lit 6, (.ofNat (nat_lit 0))), (nat_lit 0, (.ofNat (nat_lit 4)))]), (nat_lit 6, nat_lit 2, [(nat_lit 6, (.ofNat (nat_lit 0))), (nat_lit 0, (.ofNat (nat_lit 20)))])],
  [(nat_lit 7, nat_lit 1, [(nat_lit 0, (.ofNat (nat_lit 4)))]), (nat_lit 0, nat_lit 1, [(nat_lit 7, (.ofNat (nat_lit 0))), (nat_lit 6, (.ofNat (nat_lit 0)))]), (nat_lit 4, nat_lit 0, [(nat_lit 0, (.ofNat (nat_lit 0))), (nat_lit 0, (.ofNat (nat_lit 1)))]), (nat_lit 6, nat_lit 2, [(nat_lit 6, (.ofNat (nat_lit 0))), (nat_lit 0, (.ofNat (nat_lit 12)))]), (nat_lit 6, nat_lit 3, [(nat_lit 6, (.ofNat (nat_lit 0))), (nat_lit 0, (.ofNat (nat_lit 8)))]), (nat_lit 6, nat_lit 3, [(nat_lit 6, (.ofNat (nat_lit 0))), (nat_lit 0, (.ofNat (nat_lit 4)))]), (nat_lit 6, nat_lit 2, [(nat_lit 6, (.ofNat (nat_lit 0))), (nat_lit 0, (.ofNat (nat_lit 20)))])],
  [(nat_lit 7, nat_lit 0, [(nat_lit 8, (.ofNat (nat_lit 0))), (nat_lit 0, (.ofNat (nat_lit 700)))]), (nat_lit 0, nat_lit 4, [(nat_lit 12, (.ofNat (nat_lit 0))), (nat_lit 0, (.ofNat (nat_lit 255)))]), (nat_lit 0, nat_lit 7, [(nat_lit 3, (.ofNat (nat_lit 0))), (nat_lit 11, (.ofNat (nat_lit 0)))]), (nat_lit 0, nat_lit 2, [(nat_lit 0, (.ofNat (nat_lit 24))), (nat_lit 10, (.ofNat (nat_lit 0)))]), (nat_lit 0, nat_lit 3, [(nat_lit 0, (.ofNat (nat_lit 8))), (nat_lit 9, (.ofNat (nat_lit 0)))]), (nat_lit 0, nat_lit 10, [(nat_lit 6, (.ofNat (nat_lit 0))), (nat_lit 0, (.ofNat (nat_lit 4)))]), (nat_lit 0, nat_lit 1, [(nat_lit 7, (.ofNat (nat_lit 0))), (nat_lit 6, (.ofNat (nat_lit 0)))]), (nat_lit 4, nat_lit 0, [(nat_lit 0, (.ofNat (nat_lit 0))), (nat_lit 0, (.ofNat (nat_lit 1)))]), (nat_lit 6, nat_lit 2, [(nat_lit 6, (.ofNat (nat_lit 0))), (nat_lit 0, (.ofNat (nat_lit 12)))]), (nat_lit 6, nat_lit 3, [(nat_lit 6, (.ofNat (nat_lit 0))), (nat_lit 0, (.ofNat (nat_lit 8)))]), (nat_lit 6, nat_lit 3, [(nat_lit 6, (.ofNat (nat_lit 0))), (nat_lit 0, (.ofNat (nat_lit 4)))]), (nat_lit 6, nat_lit 2, [(nat_lit 6, (.ofNat (nat_lit 0))), (nat_lit 0, (.ofNat (nat_lit 20)))])],
  [(nat_lit 7, nat_lit 1, [(nat_lit 0, (.ofNat (nat_lit 4)))]), (nat_lit 0, nat_lit 1, [(nat_lit 7, (.ofNat (nat_lit 0))), (nat_lit 6, (.ofNat (nat_lit 0)))]), (nat_lit 4, nat_lit 0, [(nat_lit 0, (.ofNat (nat_lit 0))), (nat_lit 0, (.ofNat (nat_lit 1)))]), (nat_lit 6, nat_lit 2, [(nat_lit 6, (.ofNat (nat_lit 0))), (nat_lit 0, (.ofNat (nat_lit 8)))]), (nat_lit 6, nat_lit 3, [(nat_lit 6, (.ofNat (nat_lit 0))), (nat_lit 0, (.ofNat (nat_lit 4)))]), (nat_lit 6, nat_lit 2, [(nat_lit 6, (.ofNat (nat_lit 0))), (nat_lit 0, (.ofNat (nat_lit 20)))])],
  [(nat_lit 7, nat_lit 0, [(nat_lit 8, (.ofNat (nat_lit 0))), (nat_lit 0, (.ofNat (nat_lit 700)))]), (nat_lit 0, nat_lit 4, [(nat_lit 12, (.ofNat (nat_lit 0))), (nat_lit 0, (.ofNat (nat_lit 255)))]), (nat_lit 0, nat_lit 7, [(nat_lit 2, (.ofNat (nat_lit 0))), (nat_lit 11, (.ofNat (nat_lit 0)))]), (nat_lit 0, nat_lit 2, [(nat_lit 0, (.ofNat (nat_lit 24))), (nat_lit 10, (.ofNat (nat_lit 0)))]), (nat_lit 0, nat_lit 3, [(nat_lit 0, (.ofNat (nat_lit 8))), (nat_lit 9, (.ofNat (nat_lit 0)))]), (nat_lit 0, nat_lit 10, [(nat_lit 6, (.ofNat (nat_lit 0))), (nat_lit 0, (.ofNat (nat_lit 4)))]), (nat_lit 0, nat_lit 1, [(nat_lit 7, (.ofNat (nat_lit 0))), (nat_lit 6, (.ofNat (nat_lit 0)))]), (nat_lit 4, nat_lit 0, [(nat_lit 0, (.ofNat (nat_lit 0))), (nat_lit 0, (.ofNat (nat_lit 1)))]), (nat_lit 6, nat_lit 2, [(nat_lit 6, (.ofNat (nat_lit 0))), (nat_lit 0, (.ofNat (nat_lit 8)))]), (nat_lit 6, nat_lit 3, [(nat_lit 6, (.ofNat (nat_lit 0))), (nat_lit 0, (.ofNat (nat_lit 4)))]), (nat_lit 6, nat_lit 2, [(nat_lit 6, (.ofNat (nat_lit 0))), (nat_lit 0, (.ofNat (nat_lit 20)))])],
  [(nat_lit 7, nat_lit 1, [(nat_lit 0, (.ofNat (nat_lit 4)))]), (nat_lit 0, nat_lit 1, [(nat_lit 7, (.ofNat (nat_lit 0))), (nat_lit 6, (.ofNat (nat_lit 0)))]), (nat_lit 4, nat_lit 0, [(nat_lit 0, (.ofNat (nat_lit 0))), (nat_lit 0, (.ofNat (nat_lit 1)))]), (nat_lit 6, nat_lit 2, [(nat_lit 6, (.ofNat (nat_lit 0))), (nat_lit 0, (.ofNat (nat_lit 4)))]), (nat_lit 6, nat_lit 2, [(nat_lit 6, (.ofNat (nat_lit 0))), (nat_lit 0, (.ofNat (nat_lit 20)))])],
  [(nat_lit 7, nat_lit 0, [(nat_lit 8, (.ofNat (nat_lit 0))), (nat_lit 0, (.ofNat (nat_lit 700)))]), (nat_lit 0, nat_lit 4, [(nat_lit 12, (.ofNat (nat_lit 0))), (nat_lit 0, (.ofNat (nat_lit 255)))]), (nat_lit 0, nat_lit 7, [(nat_lit 1, (.ofNat (nat_lit 0))), (nat_lit 11, (.ofNat (nat_lit 0)))]), (nat_lit 0, nat_lit 2, [(nat_lit 0, (.ofNat (nat_lit 24))), (nat_lit 10, (.ofNat (nat_lit 0)))]), (nat_lit 0, nat_lit 3, [(nat_lit 0, (.ofNat (nat_lit 8))), (nat_lit 9, (.ofNat (nat_lit 0)))]), (nat_lit 0, nat_lit 10, [(nat_lit 6, (.ofNat (nat_lit 0))), (nat_lit 0, (.ofNat (nat_lit 4)))]), (nat_lit 0, nat_lit 1, [(nat_lit 7, (.ofNat (nat_lit 0))), (nat_lit 6, (.ofNat (nat_lit 0)))]), (nat_lit 4, nat_lit 0, [(nat_lit 0, (.ofNat (nat_lit 0))), (nat_lit 0, (.ofNat (nat_lit 1)))]), (nat_lit 6, nat_lit 2, [(nat_lit 6, (.ofNat (nat_lit 0))), (nat_lit 0, (.ofNat (nat_lit 4)))]), (nat_lit 6, nat_lit 2, [(nat_lit 6, (.ofNat (nat_lit 0))), (nat_lit 0, (.ofNat (nat_lit 20)))])]]
def zEhe_feed_0 : List (List zK) := [[(nat_lit 11, nat_lit 0, [(nat_lit 9, (.ofNat (nat_lit 0)))]), (nat_lit 4, nat_lit 0, [(nat_lit 0, (.ofNat (nat_lit 0))), (nat_lit 0, (.ofNat (nat_lit 1)))]), (nat_lit 5, nat_lit 0, [(nat_lit 0, (.ofNat (nat_lit 0))), (nat_lit 0, (.ofNat (nat_lit 1))), (nat_lit 8, (.ofNat (nat_lit 0)))]), (nat_lit 0, nat_lit 1, [(nat_lit 7, (.ofNat (nat_lit 0))), (nat_lit 0, (.ofNat (nat_lit 20)))]), (nat_lit 4, nat_lit 0, [(nat_lit 0, (.ofNat (nat_lit 0))), (nat_lit 0, (.ofNat (nat_lit 1)))]), (nat_lit 6, nat_lit 3, [(nat_lit 6, (.ofNat (nat_lit 0))), (nat_lit 0, (.ofNat (nat_lit 20)))])],
  [(nat_lit 10, nat_lit 0, [(nat_lit 1, (.ofNat (nat_lit 0))), (nat_lit 2, (.ofNat (nat_lit 0))), (nat_lit 3, (.ofNat (nat_lit 0))), (nat_lit 4, (.ofNat (nat_lit 0))), (nat_lit 5, (.ofNat (nat_lit 0))), (nat_lit 14, (.ofNat (nat_lit 0)))]), (nat_lit 0, nat_lit 1, [(nat_lit 6, (.ofNat (nat_lit 0))), (nat_lit 0, (.ofNat (nat_lit 1)))]), (nat_lit 5, nat_lit 0, [(nat_lit 1, (.ofNat (nat_lit 0))), (nat_lit 8, (.ofNat (nat_lit 0))), (nat_lit 13, (.ofNat (nat_lit 0)))]), (nat_lit 0, nat_lit 4, [(nat_lit 12, (.ofNat (nat_lit 0))), (nat_lit 0, (.ofNat (nat_lit 255)))]), (nat_lit 0, nat_lit 7, [(nat_lit 5, (.ofNat (nat_lit 0))), (nat_lit 11, (.ofNat (nat_lit 0)))]), (nat_lit 0, nat_lit 2, [(nat_lit 0, (.ofNat (nat_lit 24))), (nat_lit 10, (.ofNat (nat_lit 0)))]), (nat_lit 0, nat_lit 3, [(nat_lit 0, (.ofNat (nat_lit 8))), (nat_lit 9, (.ofNat (nat_lit 0)))]), (nat_lit 0, nat_lit 10, [(nat_lit 6, (.ofNat (nat_lit 0))), (nat_lit 0, (.ofNat (nat_lit 4)))]), (nat_lit 0, nat_lit 1, [(nat_lit 7, (.ofNat (nat_lit 0))), (nat_lit 6, (.ofNat (nat_lit 0)))]), (nat_lit 4, nat_lit 0, [(nat_lit 0, (.ofNat (nat_lit 0))), (nat_lit 0, (.ofNat (nat_lit 1)))]), (nat_lit 6, nat_lit 3, [(nat_lit 6, (.ofNat (nat_lit 0))), (nat_lit 0, (.ofNat (nat_lit 16)))]), (nat_lit 6, nat_lit 3, [(nat_lit 6, (.ofNat (nat_lit 0))), (nat_lit 0, (.ofNat (nat_lit 12)))]), (nat_lit 6, nat_lit 3, [(nat_lit 6, (.ofNat (nat_lit 0))), (nat_lit 0, (.ofNat (nat_lit 8)))]), (nat_lit 6, nat_lit 3, [(nat_lit 6, (.ofNat (nat_lit 0))), (nat_lit 0, (.ofNat (nat_lit 4)))]), (nat_lit 6, nat_lit 2, [(nat_lit 6, (.ofNat (nat_lit 0))), (nat_lit 0, (.ofNat (nat_lit 20)))])],
  [(nat_lit 10, nat_lit 0, [(nat_lit 1, (.ofNat (nat_lit 0))), (nat_lit 2, (.ofNat (nat_lit 0))), (nat_lit 3, (.ofNat (nat_lit 0))), (nat_lit 4, (.ofNat (nat_lit 0))), (nat_lit 5, (.ofNat (nat_lit 0))), (nat_lit 14, (.ofNat (nat_lit 0)))]), (nat_lit 0, nat_lit 1, [(nat_lit 6, (.ofNat (nat_lit 0))), (nat_lit 0, (.ofNat (nat_lit 1)))]), (nat_lit 5, nat_lit 0, [(nat_lit 1, (.ofNat (nat_lit 0))), (nat_lit 8, (.ofNat (nat_lit 0))), (nat_lit 13, (.ofNat (nat_lit 0)))]), (nat_lit 0, nat_lit 4, [(nat_lit 12, (.ofNat (nat_lit 0))), (nat_lit 0, (.ofNat (nat_lit 255)))]), (nat_lit 0, nat_lit 7, [(nat_lit 4, (.ofNat (nat_lit 0))), (nat_lit 11, (.ofNat (nat_lit 0)))]), (nat_lit 0, nat_lit 2, [(nat_lit 0, (.ofNat (nat_lit 24))), (nat_lit 10, (.ofNat (nat_lit 0)))]), (nat_lit 0, nat_lit 3, [(nat_lit 0, (.ofNat (nat_lit 8))), (nat_lit 9, (.ofNat (nat_lit 0)))]), (nat_lit 0, nat_lit 10, [(nat_lit 6, (.ofNat (nat_lit 0))), (nat_lit 0, (.ofNat (nat_lit 4)))]), (nat_lit 0, nat_lit 1, [(nat_lit 7, (.ofNat (nat_lit 0))), (nat_lit 6, (.ofNat (nat_lit 0)))]), (nat_lit 4, nat_lit 0, [(nat_lit 0, (.ofNat (nat_lit 0))), (nat_lit 0, (.ofNat (nat_lit 1)))]), (nat_lit 6, nat_lit 2, [(nat_lit 6, (.ofNat (nat_lit 0))), (nat_lit 0, (.ofNat (nat_lit 16)))]), (nat_lit 6, nat_lit 3, [(nat_lit 6, (.ofNat (nat_lit 0))), (nat_lit 0, (.ofNat (nat_lit 12)))]), (nat_lit 6, nat_lit 3, [(nat_lit 6, (.ofNat (nat_lit 0))), (nat_lit 0, (.ofNat (nat_lit 8)))]), (nat_lit 6, nat_lit 3, [(nat_lit 6, (.ofNat (nat_lit 0))), (nat_lit 0, (.ofNat (nat_lit 4)))]), (nat_lit 6, nat_lit 2, [(nat_lit 6, (.ofNat (nat_lit 0))), (nat_lit 0, (.ofNat (nat_lit 20)))])],
  [(nat_lit 10, nat_lit 0, [(nat_lit 1, (.ofNat (nat_lit 0))), (nat_lit 2, (.ofNat (nat_lit 0))), (nat_lit 3, (.ofNat (nat_lit 0))), (nat_lit 4, (.ofNat (nat_lit 0))), (nat_lit 5, (.ofNat (nat_lit 0))), (nat_lit 14, (.ofNat (nat_lit 0)))]), (nat_lit 0, nat_lit 1, [(nat_lit 6, (.ofNat (nat_lit 0))), (nat_lit 0, (.ofNat (nat_lit 1)))]), (nat_lit 5, nat_lit 0, [(nat_lit 1, (.ofNat (nat_lit 0))), (nat_lit 8, (.ofNat (nat_lit 0))), (nat_lit 13, (.ofNat (nat_lit 0)))]), (nat_lit 0, nat_lit 4, [(nat_lit 12, (.ofNat (nat_lit 0))), (nat_lit 0, (.ofNat (nat_lit 255)))]), (nat_lit 0, nat_lit 7, [(nat_lit 3, (.ofNat (nat_lit 0))), (nat_lit 11, (.ofNat (nat_lit 0)))]), (nat_lit 0, nat_lit 2, [(nat_lit 0, (.ofNat (nat_lit 24))), (nat_lit 10, (.ofNat (nat_lit 0)))]), (nat_lit 0, nat_lit 3, [(nat_lit 0, (.ofNat (nat_lit 8))), (nat_lit 9, (.ofNat (nat_lit 0)))]), (nat_lit 0, nat_lit 10, [(nat_lit 6, (.ofNat (nat_lit 0))), (nat_lit 0, (.ofNat (nat_lit 4)))]), (nat_lit 0, nat_lit 1, [(nat_lit 7, (.ofNat (nat_lit 0))), (nat_lit 6, (.ofNat (nat_lit 0)))]), (nat_lit 4, nat_lit 0, [(nat_lit 0, (.ofNat (nat_lit 0))), (nat_lit 0, (.ofNat (nat_lit 1)))]), (nat_lit 6, nat_lit 2, [(nat_lit 6, (.ofNat (nat_lit 0))), (nat_lit 0, (.ofNat (nat_lit 12)))]), (nat_lit 6, nat_lit 3, [(nat_lit 6, (.ofNat (nat_lit 0))), (nat_lit 0, (.ofNat (nat_lit 8)))]), (nat_lit 6, nat_lit 3, [(nat_lit 6, (.ofNat (nat_lit 0))), (nat_lit 0, (.ofNat (nat_lit 4)))]), (nat_lit 6, nat_lit 2, [(nat_lit 6, (.ofNat (nat_lit 0))), (nat_lit 0, (.ofNat (nat_lit 20)))])],
  [(nat_lit 10, nat_lit 0, [(nat_lit 1, (.ofNat (nat_lit 0))), (nat_lit 2, (.ofNat (nat_lit 0))), (nat_lit 3, (.ofNat (nat_lit 0))), (nat_lit 4, (.ofNat (nat_lit 0))), (nat_lit 5, (.ofNat (nat_lit 0))), (nat_lit 14, (.ofNat (nat_lit 0)))]), (nat_lit 0, nat_lit 1, [(nat_lit 6, (.ofNat (nat_lit 0))), (nat_lit 0, (.ofNat (nat_lit 1)))]), (nat_lit 5, nat_lit 0, [(nat_lit 1, (.ofNat (nat_lit 0))), (nat_lit 8, (.ofNat (nat_lit 0))), (nat_lit 13, (.ofNat (nat_lit 0)))]), (nat_lit 0, nat_lit 4, [(nat_lit 12, (.ofNat (nat_lit 0))), (nat_lit 0, (.ofNat (nat_lit 255)))]), (nat_lit 0, nat_lit 7, [(nat_lit 2, (.ofNat (nat_lit 0))), (nat_lit 11, (.ofNat (nat_lit 0)))]), (nat_lit 0, nat_lit 2, [(nat_lit 0, (.ofNat (nat_lit 24))), (nat_lit 10, (.ofNat (nat_lit 0)))]), (nat_lit 0, nat_lit 3, [(nat_lit 0, (.ofNat (nat_lit 8))), (nat_lit 9, (.ofNat (nat_lit 0)))]), (nat_lit 0, nat_lit 10, [(nat_lit 6, (.ofNat (nat_lit 0))), (nat_lit 0, (.ofNat (nat_lit 4)))]), (nat_lit 0, nat_lit 1, [(nat_lit 7, (.ofNat (nat_lit 0))), (nat_lit 6, (.ofNat (nat_lit 0)))]), (nat_lit 4, nat_lit 0, [(nat_lit 0, (.ofNat (nat_lit 0))), (nat_lit 0, (.ofNat (nat_lit 1)))]), (nat_lit 6, nat_lit 2, [(nat_lit 6, (.ofNat (nat_lit 0))), (nat_lit 0, (.ofNat (nat_lit 8)))]), (nat_lit 6, nat_lit 3, [(nat_lit 6, (.ofNat (nat_lit 0))), (nat_lit 0, (.ofNat (nat_lit 4)))]), (nat_lit 6, nat_lit 2, [(nat_lit 6, (.ofNat (nat_lit 0))), (nat_lit 0, (.ofNat (nat_lit 20)))])],
  [(nat_lit 10, nat_lit 0, [(nat_lit 1, (.ofNat (nat_lit 0))), (nat_lit 2, (.ofNat (nat_lit 0))), (nat_lit 3, (.ofNat (nat_lit 0))), (nat_lit 4, (.ofNat (nat_lit 0))), (nat_lit 5, (.ofNat (nat_lit 0))), (nat_lit 14, (.ofNat (nat_lit 0)))]), (nat_lit 0, nat_lit 1, [(nat_lit 6, (.ofNat (nat_lit 0))), (nat_lit 0, (.ofNat (nat_lit 1)))]), (nat_lit 5, nat_lit 0, [(nat_lit 1, (.ofNat (nat_lit 0))), (nat_lit 8, (.ofNat (nat_lit 0))), (nat_lit 13, (.ofNat (nat_lit 0)))]), (nat_lit 0, nat_lit 4, [(nat_lit 12, (.ofNat (nat_lit 0))), (nat_lit 0, (.ofNat (nat_lit 255)))]), (nat_lit 0, nat_lit 7, [(nat_lit 1, (.ofNat (nat_lit 0))), (nat_lit 11, (.ofNat (nat_lit 0)))]), (nat_lit 0, nat_lit 2, [(nat_lit 0, (.ofNat (nat_lit 24))), (nat_lit 10, (.ofNat (nat_lit 0)))]), (nat_lit 0, nat_lit 3, [(nat_lit 0, (.ofNat (nat_lit 8))), (nat_lit 9, (.ofNat (nat_lit 0)))]), (nat_lit 0, nat_lit 10, [(nat_lit 6, (.ofNat (nat_lit 0))), (nat_lit 0, (.ofNat (nat_lit 4)))]), (nat_lit 0, nat_lit 1, [(nat_lit 7, (.ofNat (nat_lit 0))), (nat_lit 6, (.ofNat (nat_lit 0)))]), (nat_lit 4, nat_lit 0, [(nat_lit 0, (.ofNat (nat_lit 0))), (nat_lit 0, (.ofNat (nat_lit 1)))]), (nat_lit 6, nat_lit 2, [(nat_lit 6, (.ofNat (nat_lit 0))), (nat_lit 0, (.ofNat (nat_lit 4)))]), (nat_lit 6, nat_lit 2, [(nat_lit 6, (.ofNat (nat_lit 0))), (nat_lit 0, (.ofNat (nat_lit 20)))])]]
def zFhe_feed_0 : List (List zK) := []
set_option maxHeartbeats 8000000 in
theorem zhe_feed {ro : Nat → List Int32} : zMet pr_P pr_K pr_df ro (sm_X0 1 6) 0 116 tm_he [(.inr (.inr (.inl (nat_lit 0)))), (.inl (nat_lit 1, (.ofNat (nat_lit 0)))), (.inl (nat_lit 2, (.ofNat (nat_lit 0)))), (.inl (nat_lit 3, (.ofNat (nat_lit 0)))), (.inl (nat_lit 4, (.ofNat (nat_lit 0)))), (.inl (nat_lit 5, (.ofNat (nat_lit 0))))] 1 [(nat_lit 0, nat_lit 0, nat_lit 1), (nat_lit 0, nat_lit 3, nat_lit 2), (nat_lit 0, nat_lit 20, nat_lit 3), (nat_lit 0, nat_lit 21, nat_lit 4), (nat_lit 0, nat_lit 22, nat_lit 5), (nat_lit 0, nat_lit 23, nat_lit 6), (nat_lit 0, nat_lit 24, nat_lit 7), (nat_lit 0, nat_lit 25, nat_lit 8), (nat_lit 0, nat_lit 26, nat_lit 9), (nat_lit 0, nat_lit 27, nat_lit 10), (nat_lit 0, nat_lit 28, nat_lit 11), (nat_lit 0, nat_lit 29, nat_lit 12), (nat_lit 0, nat_lit 30, nat_lit 13), (nat_lit 0, nat_lit 31, nat_lit 14), (nat_lit 0, nat_lit 32, nat_lit 15), (nat_lit 0, nat_lit 33, nat_lit 16), (nat_lit 0, nat_lit 34, nat_lit 17), (nat_lit 0, nat_lit 35, nat_lit 18), (nat_lit 0, nat_lit 36, nat_lit 19), (nat_lit 0, nat_lit 37, nat_lit 20), (nat_lit 0, nat_lit 38, nat_lit 21), (nat_lit 0, nat_lit 39, nat_lit 22), (nat_lit 0, nat_lit 40, nat_lit 23), (nat_lit 0, nat_lit 47, nat_lit 24), (nat_lit 0, nat_lit 48, nat_lit 25), (nat_lit 0, nat_lit 50, nat_lit 26), (nat_lit 0, nat_lit 51, nat_lit 27), (nat_lit 0, nat_lit 52, nat_lit 28), (nat_lit 0, nat_lit 53, nat_lit 29), (nat_lit 0, nat_lit 54, nat_lit 30), (nat_lit 0, nat_lit 55, nat_lit 31), (nat_lit 0, nat_lit 56, nat_lit 32), (nat_lit 0, nat_lit 57, nat_lit 33), (nat_lit 0, nat_lit 58, nat_lit 34), (nat_lit 0, nat_lit 59, nat_lit 35), (nat_lit 0, nat_lit 72, nat_lit 36), (nat_lit 0, nat_lit 73, nat_lit 37), (nat_lit 0, nat_lit 76, nat_lit 38), (nat_lit 0, nat_lit 77, nat_lit 39), (nat_lit 0, nat_lit 79, nat_lit 40), (nat_lit 0, nat_lit 81, nat_lit 41), (nat_lit 0, nat_lit 82, nat_lit 42)] [] (fun xs η => sP wl_he zTr zPhe_feed xs η ∧ pPhe_feed xs η) (fun xs η y η' => sQ wl_he zTr zOhe_feed zMhe_feed xs η y η' ∧ pQhe_feed xs η y η') :=
  zmet_alt (zmea_gen (mi := (nat_lit 5, nat_lit 1, nat_lit 8, nat_lit 8, nat_lit 1, tX8_feed)) (cd := []) (cu := zUhe_feed) (cs := []) (iv := zVhe_feed) (po := [zOhe_feed]) (pr := zPhe_feed) (mods := zMhe_feed) (D7 := zDhe_feed) (D0 := zEhe_feed) (Dm := zFhe_feed) (f0 := 16) pChe_feed qChe_feed iChe_feed pPhe_feed (fun xs η _ y η' => pQhe_feed xs η y η') zX_low pr_mtR rfl (fun _ h => nomatch h) (by decide +kernel) (by decide +kernel) (by decide +kernel)
    (by
      intro xs η hr hl hp hpp
      match xs, hl, hp, hpp with
      | [x1, x2, x3, x4, x5], _, hp, hpp =>
        refine List.forall_mem_cons.mpr ⟨?_, List.forall_mem_cons.mpr ⟨?_, fun _ h => nomatch h⟩⟩
        · refine zden_L (n := 6) (ρ := [x5, x4, x3, x2, x1, 0]) rfl ?_
          show ∀ η1 : zE, η1 = zup η 0 (Int.toNat 2) 0 → ∀ x6 : Int, x6 = η1 0 (Int.toNat 1) → zok 0 x6 → ∀ x7 : Int, x7 = zd 0 1 x6 20 → (x7 ≤ 700) → (iChe_feed [x1, x2, x3, x4, x5] η) 0 [x1, x2, x3, x4, x5, 0] η1
          intro η1 eη1 x6 e6 r6 x7 e7 c1
          refine yj_a ?_ ?_
          · have hb : (0 : Int) ≤ η 0 1 ∧ η 0 1 ≤ 700 := wf_ok (a := 1) (b := 1) (z := (0, 700)) hp.1 (by decide +kernel) (Nat.le_refl _) (Nat.le_refl _)
            replace e7 := zEq_i e7
            have bx1 : ((-2147483648) : Int) ≤ x1 ∧ x1 ≤ 2147483647 := hp.2.1.1
            have bx2 : ((-2147483648) : Int) ≤ x2 ∧ x2 ≤ 2147483647 := hp.2.1.2.1
            have bx3 : ((-2147483648) : Int) ≤ x3 ∧ x3 ≤ 2147483647 := hp.2.1.2.2.1
            have bx4 : ((-2147483648) : Int) ≤ x4 ∧ x4 ≤ 2147483647 := hp.2.1.2.2.2.1
            have bx5 : ((-2147483648) : Int) ≤ x5 ∧ x5 ≤ 2147483647 := hp.2.1.2.2.2.2.1
            have w0_0_1 : (0 : Int) ≤ η 0 1 ∧ η 0 1 ≤ 700 := wf_ok (a := 1) (b := 1) (z := (0, 700)) hp.1 (by decide +kernel) (Nat.le_refl _) (Nat.le_refl _)
            have v1 : zEq (η1 0 1) (η 0 1) := by rw [eη1]; exact (zup_ne (fun _ e => absurd e (by decide))).trans rfl
            replace e6 : x6 = η 0 1 := e6.trans v1
            replace r6 : -2147483648 ≤ x6 ∧ x6 ≤ 2147483647 := r6
            first
            | replace e7 : x7 = x6 + 20 := zd_a2 (zEq_o e7) (by clear e7; exact ⟨by omega, by omega⟩)
            | clear e7
            have f0_1 : η1 0 1 = η 0 1 := v1
            exact ⟨show η1 0 1 = η 0 1 by omega, show η 0 1 + 20 ≤ 700 by omega⟩
          · have hb : (0 : Int) ≤ η 0 1 ∧ η 0 1 ≤ 700 := wf_ok (a := 1) (b := 1) (z := (0, 700)) hp.1 (by decide +kernel) (Nat.le_refl _) (Nat.le_refl _)
            have eη1 : η1 = zup η 0 2 0 := eη1
            have g6 : x6 = η 0 1 := by rw [e6, eη1]; rfl
            have e7 : x7 = zd 0 1 x6 20 := e7
            rw [zd_a ⟨by omega, by omega⟩] at e7
            refine ⟨rfl, rfl, rfl, rfl, rfl, 0, rfl, ?_⟩
            show η1 = zup η 0 2 0
            exact eη1
        · refine zden_L (n := 6) (ρ := [x5, x4, x3, x2, x1, 0]) rfl ?_
          show ∀ η1 : zE, η1 = zup η 0 (Int.toNat 2) 0 → ∀ x6 : Int, x6 = η1 0 (Int.toNat 1) → zok 0 x6 → ∀ x7 : Int, x7 = zd 0 1 x6 20 → (700 < x7) → (fun (_ : Nat) (y : Int) (η' : zE) => pQhe_feed [x1, x2, x3, x4, x5] η y η') 0 (-1) η1
          intro η1 eη1 x6 e6 r6 x7 e7 c1
          refine yj_a ?_ ?_
          · have hb : (0 : Int) ≤ η 0 1 ∧ η 0 1 ≤ 700 := wf_ok (a := 1) (b := 1) (z := (0, 700)) hp.1 (by decide +kernel) (Nat.le_refl _) (Nat.le_refl _)
            replace e7 := zEq_i e7
            have bx1 : ((-2147483648) : Int) ≤ x1 ∧ x1 ≤ 2147483647 := hp.2.1.1
            have bx2 : ((-2147483648) : Int) ≤ x2 ∧ x2 ≤ 2147483647 := hp.2.1.2.1
            have bx3 : ((-2147483648) : Int) ≤ x3 ∧ x3 ≤ 2147483647 := hp.2.1.2.2.1
            have bx4 : ((-2147483648) : Int) ≤ x4 ∧ x4 ≤ 2147483647 := hp.2.1.2.2.2.1
            have bx5 : ((-2147483648) : Int) ≤ x5 ∧ x5 ≤ 2147483647 := hp.2.1.2.2.2.2.1
            have w0_0_1 : (0 : Int) ≤ η 0 1 ∧ η 0 1 ≤ 700 := wf_ok (a := 1) (b := 1) (z := (0, 700)) hp.1 (by decide +kernel) (Nat.le_refl _) (Nat.le_refl _)
            have v1 : zEq (η1 0 1) (η 0 1) := by rw [eη1]; exact (zup_ne (fun _ e => absurd e (by decide))).trans rfl
            replace e6 : x6 = η 0 1 := e6.trans v1
            replace r6 : -2147483648 ≤ x6 ∧ x6 ≤ 2147483647 := r6
            first
            | replace e7 : x7 = x6 + 20 := zd_a2 (zEq_o e7) (by clear e7; exact ⟨by omega, by omega⟩)
            | clear e7
            have f0_1 : η1 0 1 = η 0 1 := v1
            exact ⟨fun w => by
              have w : 700 < η 0 1 + 20 := w
              first
              | (exfalso; omega)
              | exact ⟨show (-1) = -1 by omega, show η1 0 1 = η 0 1 by omega⟩, fun w => by
              have w : η 0 1 + 20 ≤ 700 := w
              first
              | (exfalso; omega)
              | exact ⟨show (-1) = η 0 1 + 20 by omega, show η1 0 1 = η 0 1 + 20 by omega⟩⟩
          · have hb : (0 : Int) ≤ η 0 1 ∧ η 0 1 ≤ 700 := wf_ok (a := 1) (b := 1) (z := (0, 700)) hp.1 (by decide +kernel) (Nat.le_refl _) (Nat.le_refl _)
            have eη1 : η1 = zup η 0 2 0 := eη1
            have g6 : x6 = η 0 1 := by rw [e6, eη1]; rfl
            have e7 : x7 = zd 0 1 x6 20 := e7
            rw [zd_a ⟨by omega, by omega⟩] at e7
            refine ⟨fun _ => ⟨rfl, ?_⟩, fun w => ?_⟩
            · show η1 1 = η 1
              rw [eη1]
              rfl
            · have w : η 0 1 + 20 ≤ 700 := w
              omega
      )
    (fun _ _ _ _ _ _ _ h => nomatch h)
    (List.forall_mem_cons.mpr ⟨⟨zDhe_feed_0, zEhe_feed_0, zFhe_feed_0, 43, by decide +kernel, (by
      intro xs η0 hlx hp hpp ys η hr hl hI hig
      match ys, hl, hI, hig with
      | [x1, x2, x3, x4, x5, x6], _, hI, hig =>
        refine ⟨?_, ?_⟩
        · refine List.forall_mem_cons.mpr ⟨?_, List.forall_mem_cons.mpr ⟨?_, List.forall_mem_cons.mpr ⟨?_, List.forall_mem_cons.mpr ⟨?_, List.forall_mem_cons.mpr ⟨?_, List.forall_mem_cons.mpr ⟨?_, fun _ h => nomatch h⟩⟩⟩⟩⟩⟩
          · refine zden_L (n := 7) (ρ := [x6, x5, x4, x3, x2, x1, 0]) rfl ?_
            show (20 ≤ x6) → ∀ x7 : Int, x7 = η 0 (Int.toNat 1) → zok 0 x7 → ∀ x8 : Int, x8 = zd 0 1 x7 20 → ∀ η1 : zE, η1 = zup η 0 (Int.toNat 1) x8 → ∀ x9 : Int, x9 = η1 0 (Int.toNat 1) → zok 0 x9 → (fun (_ : Nat) (y : Int) (η' : zE) => pQhe_feed xs η0 y η') 0 x9 η1
            have fig := hig.2
            have hig := hig.1
            intro c1 x7 e7 r7 x8 e8 η1 eη1 x9 e9 r9
            refine yj_a ?_ ?_
            · have hb : (0 : Int) ≤ η 0 1 ∧ η 0 1 ≤ 700 := wf_ok (a := 1) (b := 1) (z := (0, 700)) hI.1.1 (by decide +kernel) (Nat.le_refl _) (Nat.le_refl _)
              have hq : η 0 1 = η0 0 1 ∧ η0 0 1 + 20 ≤ 700 := hig
              replace e8 := zEq_i e8
              have bx1 : ((-2147483648) : Int) ≤ x1 ∧ x1 ≤ 2147483647 := hI.1.2.1.1
              have bx2 : ((-2147483648) : Int) ≤ x2 ∧ x2 ≤ 2147483647 := hI.1.2.1.2.1
              have bx3 : ((-2147483648) : Int) ≤ x3 ∧ x3 ≤ 2147483647 := hI.1.2.1.2.2.1
              have bx4 : ((-2147483648) : Int) ≤ x4 ∧ x4 ≤ 2147483647 := hI.1.2.1.2.2.2.1
              have bx5 : ((-2147483648) : Int) ≤ x5 ∧ x5 ≤ 2147483647 := hI.1.2.1.2.2.2.2.1
              have bx6 : (0 : Int) ≤ x6 ∧ x6 ≤ 20 := hI.1.2.1.2.2.2.2.2.1
              have w0_0_1 : (0 : Int) ≤ η 0 1 ∧ η 0 1 ≤ 680 := hI.1.2.2 _ (List.mem_of_getElem? (i := 0) rfl)
              replace e7 : x7 = η 0 1 := e7
              replace r7 : -2147483648 ≤ x7 ∧ x7 ≤ 2147483647 := r7
              first
              | replace e8 : x8 = x7 + 20 := zd_a2 (zEq_o e8) (by clear e8; exact ⟨by omega, by omega⟩)
              | clear e8
              have c0_0_1 : η 0 1 = η 0 1 := rfl
              have v1 : zEq (η1 0 1) (x8) := by rw [eη1]; exact zup_eq
              replace e9 : x9 = x8 := e9.trans v1
              replace r9 : -2147483648 ≤ x9 ∧ x9 ≤ 2147483647 := r9
              have f0_1 : η1 0 1 = x8 := v1
              exact ⟨fun w => by
                have w : 700 < η0 0 1 + 20 := w
                first
                | (exfalso; omega)
                | exact ⟨show x9 = -1 by omega, show η1 0 1 = η0 0 1 by omega⟩, fun w => by
                have w : η0 0 1 + 20 ≤ 700 := w
                first
                | (exfalso; omega)
                | exact ⟨show x9 = η0 0 1 + 20 by omega, show η1 0 1 = η0 0 1 + 20 by omega⟩⟩
            · obtain ⟨f1, f2, f3, f4, f5, q, fq, fe⟩ : x1 = xs.getD 0 0 ∧ x2 = xs.getD 1 0 ∧ x3 = xs.getD 2 0 ∧ x4 = xs.getD 3 0 ∧ x5 = xs.getD 4 0 ∧ ∃ q : Nat, x6 = q ∧ η = yf_m (xs.getD 0 0) (xs.getD 1 0) (xs.getD 2 0) (xs.getD 3 0) (xs.getD 4 0) η0 q := fig
              rw [← f1, ← f2, ← f3, ← f4, ← f5] at fe
              have hq : η 0 1 = η0 0 1 ∧ η0 0 1 + 20 ≤ 700 := hig
              have b6 : (0 : Int) ≤ x6 ∧ x6 ≤ 20 := hI.1.2.1.2.2.2.2.2.1
              have e7 : x7 = η 0 1 := e7
              clear r7
              have eη1 : η1 = zup η 0 1 x8 := eη1
              have e9 : x9 = η1 0 1 := e9
              clear r9
              refine ⟨fun w => ?_, fun _ => ?_⟩
              · have w : 700 < η0 0 1 + 20 := w
                omega
              rw [← f1, ← f2, ← f3, ← f4, ← f5]
              have q20 : q = 20 := by omega
              have ee : η1 = yf_q x1 x2 x3 x4 x5 η0 := by
                rw [eη1, e8, e7]
                unfold yf_q
                rw [← q20, ← fe]
              refine ⟨?_, ee⟩
              show x9 = yf_q x1 x2 x3 x4 x5 η0 0 1
              rw [← ee]
              exact e9
          · refine zden_L (n := 7) (ρ := [x6, x5, x4, x3, x2, x1, 0]) rfl ?_
            show (x6 < 20) → (4 ≤ x6) → (8 ≤ x6) → (12 ≤ x6) → (16 ≤ x6) → ∀ x7 : Int, x7 = η 0 (Int.toNat 1) → zok 0 x7 → ∀ x8 : Int, x8 = zd 0 1 x7 x6 → ∀ x9 : Int, x9 = zd 0 10 x6 4 → ∀ x10 : Int, x10 = zd 0 3 8 x9 → ∀ x11 : Int, x11 = zd 0 2 24 x10 → ∀ x12 : Int, x12 = zd 0 7 x5 x11 → ∀ x13 : Int, x13 = zd 0 4 x12 255 → ∀ η1 : zE, η1 = zup η 1 (Int.toNat x8) x13 → ∀ x14 : Int, x14 = zd 0 1 x6 1 → (iChe_feed xs η0) 0 [x1, x2, x3, x4, x5, x14] η1 ∧ (fun (_ : Nat) (_ : List Int) (_ : zE) => (0 : Nat)) 0 [x1, x2, x3, x4, x5, x14] η1 < 1
            have fig := hig.2
            have hig := hig.1
            intro c1 c2 c3 c4 c5 x7 e7 r7 x8 e8 x9 e9 x10 e10 x11 e11 x12 e12 x13 e13 η1 eη1 x14 e14
            refine yj_c ?_ ?_
            · have hb : (0 : Int) ≤ η 0 1 ∧ η 0 1 ≤ 700 := wf_ok (a := 1) (b := 1) (z := (0, 700)) hI.1.1 (by decide +kernel) (Nat.le_refl _) (Nat.le_refl _)
              have hq : η 0 1 = η0 0 1 ∧ η0 0 1 + 20 ≤ 700 := hig
              replace e8 := zEq_i e8
              replace e9 := zEq_i e9
              replace e10 := zEq_i e10
              replace e11 := zEq_i e11
              replace e12 := zEq_i e12
              replace e13 := zEq_i e13
              replace e14 := zEq_i e14
              have bx1 : ((-2147483648) : Int) ≤ x1 ∧ x1 ≤ 2147483647 := hI.1.2.1.1
              have bx2 : ((-2147483648) : Int) ≤ x2 ∧ x2 ≤ 2147483647 := hI.1.2.1.2.1
              have bx3 : ((-2147483648) : Int) ≤ x3 ∧ x3 ≤ 2147483647 := hI.1.2.1.2.2.1
              have bx4 : ((-2147483648) : Int) ≤ x4 ∧ x4 ≤ 2147483647 := hI.1.2.1.2.2.2.1
              have bx5 : ((-2147483648) : Int) ≤ x5 ∧ x5 ≤ 2147483647 := hI.1.2.1.2.2.2.2.1
              have bx6 : (0 : Int) ≤ x6 ∧ x6 ≤ 20 := hI.1.2.1.2.2.2.2.2.1
              have w0_0_1 : (0 : Int) ≤ η 0 1 ∧ η 0 1 ≤ 680 := hI.1.2.2 _ (List.mem_of_getElem? (i := 0) rfl)
              replace e7 : x7 = η 0 1 := e7
              replace r7 : -2147483648 ≤ x7 ∧ x7 ≤ 2147483647 := r7
              first
              | replace e8 : x8 = x7 + x6 := zd_a2 (zEq_o e8) (by clear e8; exact ⟨by omega, by omega⟩)
              | clear e8
              clear e9
              clear e10
              first
              | replace e11 : x11 = 24 - x10 := zd_s2 (zEq_o e11) (by clear e11; exact ⟨by omega, by omega⟩)
              | clear e11
              clear e12
              clear e13
              first
              | replace e14 : x14 = x6 + 1 := zd_a2 (zEq_o e14) (by clear e14; exact ⟨by omega, by omega⟩)
              | clear e14
              have v1 : zEq (η1 0 1) (η 0 1) := by rw [eη1]; exact (zup_ne (fun e _ => absurd e (by decide))).trans rfl
              have f0_1 : η1 0 1 = η 0 1 := v1
              exact ⟨⟨show η1 0 1 = η0 0 1 by omega, show η0 0 1 + 20 ≤ 700 by omega⟩, Nat.zero_lt_one⟩
            · obtain ⟨f1, f2, f3, f4, f5, q, fq, fe⟩ : x1 = xs.getD 0 0 ∧ x2 = xs.getD 1 0 ∧ x3 = xs.getD 2 0 ∧ x4 = xs.getD 3 0 ∧ x5 = xs.getD 4 0 ∧ ∃ q : Nat, x6 = q ∧ η = yf_m (xs.getD 0 0) (xs.getD 1 0) (xs.getD 2 0) (xs.getD 3 0) (xs.getD 4 0) η0 q := fig
              rw [← f1, ← f2, ← f3, ← f4, ← f5] at fe
              have hq : η 0 1 = η0 0 1 ∧ η0 0 1 + 20 ≤ 700 := hig
              have b6 : (0 : Int) ≤ x6 ∧ x6 ≤ 20 := hI.1.2.1.2.2.2.2.2.1
              have e7 : x7 = η 0 1 := e7
              clear r7
              have eη1 : η1 = zup η 1 (Int.toNat x8) x13 := eη1
              have w1 : x13 = yf_v x1 x2 x3 x4 x5 x6 := by
                rw [e13, e12, e11, e10, e9]
                unfold yf_v yf_ar
                (repeat' split) <;> first | (exfalso; omega) | rfl
              have w2 : x14 = x6 + 1 := by
                rw [e14]
                exact zd_a ⟨by omega, by omega⟩
              have w3 : x8 = zd 0 1 (η 0 1) x6 := by
                rw [e8, e7]
              refine ⟨f1, f2, f3, f4, f5, q + 1, ?_, ?_⟩
              · show x14 = ((q + 1 : Nat) : Int)
                omega
              · show η1 = yf_m (xs.getD 0 0) (xs.getD 1 0) (xs.getD 2 0) (xs.getD 3 0) (xs.getD 4 0) η0 (q + 1)
                rw [yf_m, ← f1, ← f2, ← f3, ← f4, ← f5, ← fe, ← fq, ← w3, ← w1]
                exact eη1
          · refine zden_L (n := 7) (ρ := [x6, x5, x4, x3, x2, x1, 0]) rfl ?_
            show (x6 < 20) → (4 ≤ x6) → (8 ≤ x6) → (12 ≤ x6) → (x6 < 16) → ∀ x7 : Int, x7 = η 0 (Int.toNat 1) → zok 0 x7 → ∀ x8 : Int, x8 = zd 0 1 x7 x6 → ∀ x9 : Int, x9 = zd 0 10 x6 4 → ∀ x10 : Int, x10 = zd 0 3 8 x9 → ∀ x11 : Int, x11 = zd 0 2 24 x10 → ∀ x12 : Int, x12 = zd 0 7 x4 x11 → ∀ x13 : Int, x13 = zd 0 4 x12 255 → ∀ η1 : zE, η1 = zup η 1 (Int.toNat x8) x13 → ∀ x14 : Int, x14 = zd 0 1 x6 1 → (iChe_feed xs η0) 0 [x1, x2, x3, x4, x5, x14] η1 ∧ (fun (_ : Nat) (_ : List Int) (_ : zE) => (0 : Nat)) 0 [x1, x2, x3, x4, x5, x14] η1 < 1
            have fig := hig.2
            have hig := hig.1
            intro c1 c2 c3 c4 c5 x7 e7 r7 x8 e8 x9 e9 x10 e10 x11 e11 x12 e12 x13 e13 η1 eη1 x14 e14
            refine yj_c ?_ ?_
            · have hb : (0 : Int) ≤ η 0 1 ∧ η 0 1 ≤ 700 := wf_ok (a := 1) (b := 1) (z := (0, 700)) hI.1.1 (by decide +kernel) (Nat.le_refl _) (Nat.le_refl _)
              have hq : η 0 1 = η0 0 1 ∧ η0 0 1 + 20 ≤ 700 := hig
              replace e8 := zEq_i e8
              replace e9 := zEq_i e9
              replace e10 := zEq_i e10
              replace e11 := zEq_i e11
              replace e12 := zEq_i e12
              replace e13 := zEq_i e13
              replace e14 := zEq_i e14
              have bx1 : ((-2147483648) : Int) ≤ x1 ∧ x1 ≤ 2147483647 := hI.1.2.1.1
              have bx2 : ((-2147483648) : Int) ≤ x2 ∧ x2 ≤ 2147483647 := hI.1.2.1.2.1
              have bx3 : ((-2147483648) : Int) ≤ x3 ∧ x3 ≤ 2147483647 := hI.1.2.1.2.2.1
              have bx4 : ((-2147483648) : Int) ≤ x4 ∧ x4 ≤ 2147483647 := hI.1.2.1.2.2.2.1
              have bx5 : ((-2147483648) : Int) ≤ x5 ∧ x5 ≤ 2147483647 := hI.1.2.1.2.2.2.2.1
              have bx6 : (0 : Int) ≤ x6 ∧ x6 ≤ 20 := hI.1.2.1.2.2.2.2.2.1
              have w0_0_1 : (0 : Int) ≤ η 0 1 ∧ η 0 1 ≤ 680 := hI.1.2.2 _ (List.mem_of_getElem? (i := 0) rfl)
              replace e7 : x7 = η 0 1 := e7
              replace r7 : -2147483648 ≤ x7 ∧ x7 ≤ 2147483647 := r7
              first
              | replace e8 : x8 = x7 + x6 := zd_a2 (zEq_o e8) (by clear e8; exact ⟨by omega, by omega⟩)
              | clear e8
              clear e9
              clear e10
              first
              | replace e11 : x11 = 24 - x10 := zd_s2 (zEq_o e11) (by clear e11; exact ⟨by omega, by omega⟩)
              | clear e11
              clear e12
              clear e13
              first
              | replace e14 : x14 = x6 + 1 := zd_a2 (zEq_o e14) (by clear e14; exact ⟨by omega, by omega⟩)
              | clear e14
              have v1 : zEq (η1 0 1) (η 0 1) := by rw [eη1]; exact (zup_ne (fun e _ => absurd e (by decide))).trans rfl
              have f0_1 : η1 0 1 = η 0 1 := v1
              exact ⟨⟨show η1 0 1 = η0 0 1 by omega, show η0 0 1 + 20 ≤ 700 by omega⟩, Nat.zero_lt_one⟩
            · obtain ⟨f1, f2, f3, f4, f5, q, fq, fe⟩ : x1 = xs.getD 0 0 ∧ x2 = xs.getD 1 0 ∧ x3 = xs.getD 2 0 ∧ x4 = xs.getD 3 0 ∧ x5 = xs.getD 4 0 ∧ ∃ q : Nat, x6 = q ∧ η = yf_m (xs.getD 0 0) (xs.getD 1 0) (xs.getD 2 0) (xs.getD 3 0) (xs.getD 4 0) η0 q := fig
              rw [← f1, ← f2, ← f3, ← f4, ← f5] at fe
              have hq : η 0 1 = η0 0 1 ∧ η0 0 1 + 20 ≤ 700 := hig
              have b6 : (0 : Int) ≤ x6 ∧ x6 ≤ 20 := hI.1.2.1.2.2.2.2.2.1
              have e7 : x7 = η 0 1 := e7
              clear r7
              have eη1 : η1 = zup η 1 (Int.toNat x8) x13 := eη1
              have w1 : x13 = yf_v x1 x2 x3 x4 x5 x6 := by
                rw [e13, e12, e11, e10, e9]
                unfold yf_v yf_ar
                (repeat' split) <;> first | (exfalso; omega) | rfl
              have w2 : x14 = x6 + 1 := by
                rw [e14]
                exact zd_a ⟨by omega, by omega⟩
              have w3 : x8 = zd 0 1 (η 0 1) x6 := by
                rw [e8, e7]
              refine ⟨f1, f2, f3, f4, f5, q + 1, ?_, ?_⟩
              · show x14 = ((q + 1 : Nat) : Int)
                omega
              · show η1 = yf_m (xs.getD 0 0) (xs.getD 1 0) (xs.getD 2 0) (xs.getD 3 0) (xs.getD 4 0) η0 (q + 1)
                rw [yf_m, ← f1, ← f2, ← f3, ← f4, ← f5, ← fe, ← fq, ← w3, ← w1]
                exact eη1
          · refine zden_L (n := 7) (ρ := [x6, x5, x4, x3, x2, x1, 0]) rfl ?_
            show (x6 < 20) → (4 ≤ x6) → (8 ≤ x6) → (x6 < 12) → ∀ x7 : Int, x7 = η 0 (Int.toNat 1) → zok 0 x7 → ∀ x8 : Int, x8 = zd 0 1 x7 x6 → ∀ x9 : Int, x9 = zd 0 10 x6 4 → ∀ x10 : Int, x10 = zd 0 3 8 x9 → ∀ x11 : Int, x11 = zd 0 2 24 x10 → ∀ x12 : Int, x12 = zd 0 7 x3 x11 → ∀ x13 : Int, x13 = zd 0 4 x12 255 → ∀ η1 : zE, η1 = zup η 1 (Int.toNat x8) x13 → ∀ x14 : Int, x14 = zd 0 1 x6 1 → (iChe_feed xs η0) 0 [x1, x2, x3, x4, x5, x14] η1 ∧ (fun (_ : Nat) (_ : List Int) (_ : zE) => (0 : Nat)) 0 [x1, x2, x3, x4, x5, x14] η1 < 1
            have fig := hig.2
            have hig := hig.1
            intro c1 c2 c3 c4 x7 e7 r7 x8 e8 x9 e9 x10 e10 x11 e11 x12 e12 x13 e13 η1 eη1 x14 e14
            refine yj_c ?_ ?_
            · have hb : (0 : Int) ≤ η 0 1 ∧ η 0 1 ≤ 700 := wf_ok (a := 1) (b := 1) (z := (0, 700)) hI.1.1 (by decide +kernel) (Nat.le_refl _) (Nat.le_refl _)
              have hq : η 0 1 = η0 0 1 ∧ η0 0 1 + 20 ≤ 700 := hig
              replace e8 := zEq_i e8
              replace e9 := zEq_i e9
              replace e10 := zEq_i e10
              replace e11 := zEq_i e11
              replace e12 := zEq_i e12
              replace e13 := zEq_i e13
              replace e14 := zEq_i e14
              have bx1 : ((-2147483648) : Int) ≤ x1 ∧ x1 ≤ 2147483647 := hI.1.2.1.1
              have bx2 : ((-2147483648) : Int) ≤ x2 ∧ x2 ≤ 2147483647 := hI.1.2.1.2.1
              have bx3 : ((-2147483648) : Int) ≤ x3 ∧ x3 ≤ 2147483647 := hI.1.2.1.2.2.1
              have bx4 : ((-2147483648) : Int) ≤ x4 ∧ x4 ≤ 2147483647 := hI.1.2.1.2.2.2.1
              have bx5 : ((-2147483648) : Int) ≤ x5 ∧ x5 ≤ 2147483647 := hI.1.2.1.2.2.2.2.1
              have bx6 : (0 : Int) ≤ x6 ∧ x6 ≤ 20 := hI.1.2.1.2.2.2.2.2.1
              have w0_0_1 : (0 : Int) ≤ η 0 1 ∧ η 0 1 ≤ 680 := hI.1.2.2 _ (List.mem_of_getElem? (i := 0) rfl)
              replace e7 : x7 = η 0 1 := e7
              replace r7 : -2147483648 ≤ x7 ∧ x7 ≤ 2147483647 := r7
              first
              | replace e8 : x8 = x7 + x6 := zd_a2 (zEq_o e8) (by clear e8; exact ⟨by omega, by omega⟩)
              | clear e8
              clear e9
              clear e10
              first
              | replace e11 : x11 = 24 - x10 := zd_s2 (zEq_o e11) (by clear e11; exact ⟨by omega, by omega⟩)
              | clear e11
              clear e12
              clear e13
              first
              | replace e14 : x14 = x6 + 1 := zd_a2 (zEq_o e14) (by clear e14; exact ⟨by omega, by omega⟩)
              | clear e14
              have v1 : zEq (η1 0 1) (η 0 1) := by rw [eη1]; exact (zup_ne (fun e _ => absurd e (by decide))).trans rfl
              have f0_1 : η1 0 1 = η 0 1 := v1
              exact ⟨⟨show η1 0 1 = η0 0 1 by omega, show η0 0 1 + 20 ≤ 700 by omega⟩, Nat.zero_lt_one⟩
            · obtain ⟨f1, f2, f3, f4, f5, q, fq, fe⟩ : x1 = xs.getD 0 0 ∧ x2 = xs.getD 1 0 ∧ x3 = xs.getD 2 0 ∧ x4 = xs.getD 3 0 ∧ x5 = xs.getD 4 0 ∧ ∃ q : Nat, x6 = q ∧ η = yf_m (xs.getD 0 0) (xs.getD 1 0) (xs.getD 2 0) (xs.getD 3 0) (xs.getD 4 0) η0 q := fig
              rw [← f1, ← f2, ← f3, ← f4, ← f5] at fe
              have hq : η 0 1 = η0 0 1 ∧ η0 0 1 + 20 ≤ 700 := hig
              have b6 : (0 : Int) ≤ x6 ∧ x6 ≤ 20 := hI.1.2.1.2.2.2.2.2.1
              have e7 : x7 = η 0 1 := e7
              clear r7
              have eη1 : η1 = zup η 1 (Int.toNat x8) x13 := eη1
              have w1 : x13 = yf_v x1 x2 x3 x4 x5 x6 := by
                rw [e13, e12, e11, e10, e9]
                unfold yf_v yf_ar
                (repeat' split) <;> first | (exfalso; omega) | rfl
              have w2 : x14 = x6 + 1 := by
                rw [e14]
                exact zd_a ⟨by omega, by omega⟩
              have w3 : x8 = zd 0 1 (η 0 1) x6 := by
                rw [e8, e7]
              refine ⟨f1, f2, f3, f4, f5, q + 1, ?_, ?_⟩
              · show x14 = ((q + 1 : Nat) : Int)
                omega
              · show η1 = yf_m (xs.getD 0 0) (xs.getD 1 0) (xs.getD 2 0) (xs.getD 3 0) (xs.getD 4 0) η0 (q + 1)
                rw [yf_m, ← f1, ← f2, ← f3, ← f4, ← f5, ← fe, ← fq, ← w3, ← w1]
                exact eη1
          · refine zden_L (n := 7) (ρ := [x6, x5, x4, x3, x2, x1, 0]) rfl ?_
            show (x6 < 20) → (4 ≤ x6) → (x6 < 8) → ∀ x7 : Int, x7 = η 0 (Int.toNat 1) → zok 0 x7 → ∀ x8 : Int, x8 = zd 0 1 x7 x6 → ∀ x9 : Int, x9 = zd 0 10 x6 4 → ∀ x10 : Int, x10 = zd 0 3 8 x9 → ∀ x11 : Int, x11 = zd 0 2 24 x10 → ∀ x12 : Int, x12 = zd 0 7 x2 x11 → ∀ x13 : Int, x13 = zd 0 4 x12 255 → ∀ η1 : zE, η1 = zup η 1 (Int.toNat x8) x13 → ∀ x14 : Int, x14 = zd 0 1 x6 1 → (iChe_feed xs η0) 0 [x1, x2, x3, x4, x5, x14] η1 ∧ (fun (_ : Nat) (_ : List Int) (_ : zE) => (0 : Nat)) 0 [x1, x2, x3, x4, x5, x14] η1 < 1
            have fig := hig.2
            have hig := hig.1
            intro c1 c2 c3 x7 e7 r7 x8 e8 x9 e9 x10 e10 x11 e11 x12 e12 x13 e13 η1 eη1 x14 e14
            refine yj_c ?_ ?_
            · have hb : (0 : Int) ≤ η 0 1 ∧ η 0 1 ≤ 700 := wf_ok (a := 1) (b := 1) (z := (0, 700)) hI.1.1 (by decide +kernel) (Nat.le_refl _) (Nat.le_refl _)
              have hq : η 0 1 = η0 0 1 ∧ η0 0 1 + 20 ≤ 700 := hig
              replace e8 := zEq_i e8
              replace e9 := zEq_i e9
              replace e10 := zEq_i e10
              replace e11 := zEq_i e11
              replace e12 := zEq_i e12
              replace e13 := zEq_i e13
              replace e14 := zEq_i e14
              have bx1 : ((-2147483648) : Int) ≤ x1 ∧ x1 ≤ 2147483647 := hI.1.2.1.1
              have bx2 : ((-2147483648) : Int) ≤ x2 ∧ x2 ≤ 2147483647 := hI.1.2.1.2.1
              have bx3 : ((-2147483648) : Int) ≤ x3 ∧ x3 ≤ 2147483647 := hI.1.2.1.2.2.1
              have bx4 : ((-2147483648) : Int) ≤ x4 ∧ x4 ≤ 2147483647 := hI.1.2.1.2.2.2.1
              have bx5 : ((-2147483648) : Int) ≤ x5 ∧ x5 ≤ 2147483647 := hI.1.2.1.2.2.2.2.1
              have bx6 : (0 : Int) ≤ x6 ∧ x6 ≤ 20 := hI.1.2.1.2.2.2.2.2.1
              have w0_0_1 : (0 : Int) ≤ η 0 1 ∧ η 0 1 ≤ 680 := hI.1.2.2 _ (List.mem_of_getElem? (i := 0) rfl)
              replace e7 : x7 = η 0 1 := e7
              replace r7 : -2147483648 ≤ x7 ∧ x7 ≤ 2147483647 := r7
              first
              | replace e8 : x8 = x7 + x6 := zd_a2 (zEq_o e8) (by clear e8; exact ⟨by omega, by omega⟩)
              | clear e8
              clear e9
              clear e10
              first
              | replace e11 : x11 = 24 - x10 := zd_s2 (zEq_o e11) (by clear e11; exact ⟨by omega, by omega⟩)
              | clear e11
              clear e12
              clear e13
              first
              | replace e14 : x14 = x6 + 1 := zd_a2 (zEq_o e14) (by clear e14; exact ⟨by omega, by omega⟩)
              | clear e14
              have v1 : zEq (η1 0 1) (η 0 1) := by rw [eη1]; exact (zup_ne (fun e _ => absurd e (by decide))).trans rfl
              have f0_1 : η1 0 1 = η 0 1 := v1
              exact ⟨⟨show η1 0 1 = η0 0 1 by omega, show η0 0 1 + 20 ≤ 700 by omega⟩, Nat.zero_lt_one⟩
            · obtain ⟨f1, f2, f3, f4, f5, q, fq, fe⟩ : x1 = xs.getD 0 0 ∧ x2 = xs.getD 1 0 ∧ x3 = xs.getD 2 0 ∧ x4 = xs.getD 3 0 ∧ x5 = xs.getD 4 0 ∧ ∃ q : Nat, x6 = q ∧ η = yf_m (xs.getD 0 0) (xs.getD 1 0) (xs.getD 2 0) (xs.getD 3 0) (xs.getD 4 0) η0 q := fig
              rw [← f1, ← f2, ← f3, ← f4, ← f5] at fe
              have hq : η 0 1 = η0 0 1 ∧ η0 0 1 + 20 ≤ 700 := hig
              have b6 : (0 : Int) ≤ x6 ∧ x6 ≤ 20 := hI.1.2.1.2.2.2.2.2.1
              have e7 : x7 = η 0 1 := e7
              clear r7
              have eη1 : η1 = zup η 1 (Int.toNat x8) x13 := eη1
              have w1 : x13 = yf_v x1 x2 x3 x4 x5 x6 := by
                rw [e13, e12, e11, e10, e9]
                unfold yf_v yf_ar
                (repeat' split) <;> first | (exfalso; omega) | rfl
              have w2 : x14 = x6 + 1 := by
                rw [e14]
                exact zd_a ⟨by omega, by omega⟩
              have w3 : x8 = zd 0 1 (η 0 1) x6 := by
                rw [e8, e7]
              refine ⟨f1, f2, f3, f4, f5, q + 1, ?_, ?_⟩
              · show x14 = ((q + 1 : Nat) : Int)
                omega
              · show η1 = yf_m (xs.getD 0 0) (xs.getD 1 0) (xs.getD 2 0) (xs.getD 3 0) (xs.getD 4 0) η0 (q + 1)
                rw [yf_m, ← f1, ← f2, ← f3, ← f4, ← f5, ← fe, ← fq, ← w3, ← w1]
                exact eη1
          · refine zden_L (n := 7) (ρ := [x6, x5, x4, x3, x2, x1, 0]) rfl ?_
            show (x6 < 20) → (x6 < 4) → ∀ x7 : Int, x7 = η 0 (Int.toNat 1) → zok 0 x7 → ∀ x8 : Int, x8 = zd 0 1 x7 x6 → ∀ x9 : Int, x9 = zd 0 10 x6 4 → ∀ x10 : Int, x10 = zd 0 3 8 x9 → ∀ x11 : Int, x11 = zd 0 2 24 x10 → ∀ x12 : Int, x12 = zd 0 7 x1 x11 → ∀ x13 : Int, x13 = zd 0 4 x12 255 → ∀ η1 : zE, η1 = zup η 1 (Int.toNat x8) x13 → ∀ x14 : Int, x14 = zd 0 1 x6 1 → (iChe_feed xs η0) 0 [x1, x2, x3, x4, x5, x14] η1 ∧ (fun (_ : Nat) (_ : List Int) (_ : zE) => (0 : Nat)) 0 [x1, x2, x3, x4, x5, x14] η1 < 1
            have fig := hig.2
            have hig := hig.1
            intro c1 c2 x7 e7 r7 x8 e8 x9 e9 x10 e10 x11 e11 x12 e12 x13 e13 η1 eη1 x14 e14
            refine yj_c ?_ ?_
            · have hb : (0 : Int) ≤ η 0 1 ∧ η 0 1 ≤ 700 := wf_ok (a := 1) (b := 1) (z := (0, 700)) hI.1.1 (by decide +kernel) (Nat.le_refl _) (Nat.le_refl _)
              have hq : η 0 1 = η0 0 1 ∧ η0 0 1 + 20 ≤ 700 := hig
              replace e8 := zEq_i e8
              replace e9 := zEq_i e9
              replace e10 := zEq_i e10
              replace e11 := zEq_i e11
              replace e12 := zEq_i e12
              replace e13 := zEq_i e13
              replace e14 := zEq_i e14
              have bx1 : ((-2147483648) : Int) ≤ x1 ∧ x1 ≤ 2147483647 := hI.1.2.1.1
              have bx2 : ((-2147483648) : Int) ≤ x2 ∧ x2 ≤ 2147483647 := hI.1.2.1.2.1
              have bx3 : ((-2147483648) : Int) ≤ x3 ∧ x3 ≤ 2147483647 := hI.1.2.1.2.2.1
              have bx4 : ((-2147483648) : Int) ≤ x4 ∧ x4 ≤ 2147483647 := hI.1.2.1.2.2.2.1
              have bx5 : ((-2147483648) : Int) ≤ x5 ∧ x5 ≤ 2147483647 := hI.1.2.1.2.2.2.2.1
              have bx6 : (0 : Int) ≤ x6 ∧ x6 ≤ 20 := hI.1.2.1.2.2.2.2.2.1
              have w0_0_1 : (0 : Int) ≤ η 0 1 ∧ η 0 1 ≤ 680 := hI.1.2.2 _ (List.mem_of_getElem? (i := 0) rfl)
              replace e7 : x7 = η 0 1 := e7
              replace r7 : -2147483648 ≤ x7 ∧ x7 ≤ 2147483647 := r7
              first
              | replace e8 : x8 = x7 + x6 := zd_a2 (zEq_o e8) (by clear e8; exact ⟨by omega, by omega⟩)
              | clear e8
              clear e9
              clear e10
              first
              | replace e11 : x11 = 24 - x10 := zd_s2 (zEq_o e11) (by clear e11; exact ⟨by omega, by omega⟩)
              | clear e11
              clear e12
              clear e13
              first
              | replace e14 : x14 = x6 + 1 := zd_a2 (zEq_o e14) (by clear e14; exact ⟨by omega, by omega⟩)
              | clear e14
              have v1 : zEq (η1 0 1) (η 0 1) := by rw [eη1]; exact (zup_ne (fun e _ => absurd e (by decide))).trans rfl
              have f0_1 : η1 0 1 = η 0 1 := v1
              exact ⟨⟨show η1 0 1 = η0 0 1 by omega, show η0 0 1 + 20 ≤ 700 by omega⟩, Nat.zero_lt_one⟩
            · obtain ⟨f1, f2, f3, f4, f5, q, fq, fe⟩ : x1 = xs.getD 0 0 ∧ x2 = xs.getD 1 0 ∧ x3 = xs.getD 2 0 ∧ x4 = xs.getD 3 0 ∧ x5 = xs.getD 4 0 ∧ ∃ q : Nat, x6 = q ∧ η = yf_m (xs.getD 0 0) (xs.getD 1 0) (xs.getD 2 0) (xs.getD 3 0) (xs.getD 4 0) η0 q := fig
              rw [← f1, ← f2, ← f3, ← f4, ← f5] at fe
              have hq : η 0 1 = η0 0 1 ∧ η0 0 1 + 20 ≤ 700 := hig
              have b6 : (0 : Int) ≤ x6 ∧ x6 ≤ 20 := hI.1.2.1.2.2.2.2.2.1
              have e7 : x7 = η 0 1 := e7
              clear r7
              have eη1 : η1 = zup η 1 (Int.toNat x8) x13 := eη1
              have w1 : x13 = yf_v x1 x2 x3 x4 x5 x6 := by
                rw [e13, e12, e11, e10, e9]
                unfold yf_v yf_ar
                (repeat' split) <;> first | (exfalso; omega) | rfl
              have w2 : x14 = x6 + 1 := by
                rw [e14]
                exact zd_a ⟨by omega, by omega⟩
              have w3 : x8 = zd 0 1 (η 0 1) x6 := by
                rw [e8, e7]
              refine ⟨f1, f2, f3, f4, f5, q + 1, ?_, ?_⟩
              · show x14 = ((q + 1 : Nat) : Int)
                omega
              · show η1 = yf_m (xs.getD 0 0) (xs.getD 1 0) (xs.getD 2 0) (xs.getD 3 0) (xs.getD 4 0) η0 (q + 1)
                rw [yf_m, ← f1, ← f2, ← f3, ← f4, ← f5, ← fe, ← fq, ← w3, ← w1]
                exact eη1
        · exact fun _ h => nomatch h
      )⟩, (fun _ h => nomatch h)⟩))
