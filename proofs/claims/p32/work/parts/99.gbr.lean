/-! What the model's reader makes of a text, as functions of its cells (0 the object: 4 fault, 5 its place, 6 stop, 7 next, 8 kind, 9 which, 10 at, 11 got; rows 1 tape, 2 words and on). -/
def yq_wr (w : Int) (s : zE) : zE := zup (zup s 0 4 w) 0 5 (s 0 10)
def yq_num (b : Nat → Int) (p : Nat) : Nat → Int
  | 0 => 0
  | m + 1 => if 99999 < yq_num b p m then yq_num b p m else 10 * yq_num b p m + b (p + m) - 48
/-- the letters of i places from p on, m of them told -/
def yq_pk (b : Nat → Int) (p m : Nat) : Nat → Int
  | 0 => 0
  | i + 1 => yq_pk b p m i * 32 + (if i < m then b (p + i) - 96 else 0)
def yq_sm (b : Nat → Int) (a k : Nat) (f : Nat) : Nat → Bool
  | 0 => true
  | i + 1 => yq_sm b a k f i && decide (wd_k.getD (f + i) 0 = b (a + i))
/-- is word k from a on, m letters -/
def yq_is (b : Nat → Int) (a m k : Nat) : Bool := decide (sw_k.getD k 0 + m + 1 = sw_k.getD (k + 1) 0) && yq_sm b a k (sw_k.getD k 0) m
def yq_wa (b : Nat → Int) (a m : Nat) : Nat → Int
  | 0 => -1
  | r + 1 => if yq_is b a m (20 - (r + 1)) = true then ((20 - (r + 1) : Nat) : Int) else yq_wa b a m r
def yq_sg (c d : Int) : Int × Int × Nat :=
  if c = 60 then (if d = 61 then (5, 1, 1) else if d = 62 then (5, 3, 1) else (5, 0, 0)) else if c = 62 then (if d = 61 then (5, 4, 1) else (5, 5, 0)) else if c = 61 then (5, 2, 0)
  else if c = 59 ∨ c = 40 ∨ c = 41 ∨ c = 43 ∨ c = 45 ∨ c = 42 ∨ c = 47 ∨ c = 37 then (4, c, 0) else (6, c, 0)
def yq_wk (w : Int) (m : Nat) : Int := if 0 ≤ w then 1 else if 6 < m then 6 else 2
/-- kind, which, at, next of the token from a on (w: which as it was) -/
def yq_tk2 (b : Nat → Int) (n a : Nat) (w : Int) : Int × Int × Nat × Nat :=
  if n ≤ a then (0, w, a, a)
  else if yp_le (b a) = true then
    (yq_wk (yq_wa b a (yp_scn yp_le b n (n - a) - a) 20) (yp_scn yp_le b n (n - a) - a), if yq_wk (yq_wa b a (yp_scn yp_le b n (n - a) - a) 20) (yp_scn yp_le b n (n - a) - a) = 2 then yq_pk b a (yp_scn yp_le b n (n - a) - a) 6 else yq_wa b a (yp_scn yp_le b n (n - a) - a) 20, a, yp_scn yp_le b n (n - a))
  else if yp_di (b a) = true then (3, yq_num b a (yp_scn yp_di b n (n - a) - a), a, yp_scn yp_di b n (n - a))
  else ((yq_sg (b a) (if a + 1 < n then b (a + 1) else 0)).1, (yq_sg (b a) (if a + 1 < n then b (a + 1) else 0)).2.1, a, a + 1 + (yq_sg (b a) (if a + 1 < n then b (a + 1) else 0)).2.2)
def yq_lay (s : zE) (t : Int × Int × Nat × Nat) : zE := zup (zup (zup (zup s 0 10 t.2.2.1) 0 9 t.2.1) 0 8 t.1) 0 7 t.2.2.2
def yq_tk (b : Nat → Int) (n p : Nat) (w : Int) : Int × Int × Nat × Nat := yq_tk2 b n (yp_skp b n p) w
def yq_tok (s : zE) : zE := yq_lay s (yq_tk (s 1) (s 0 6).toNat (s 0 7).toNat (s 0 9))
def yq_inc (r j : Nat) (s : zE) : zE := zup s r j (zd 0 1 (s r j) 1)
def yq_dec (r j : Nat) (s : zE) : zE := zup s r j (zd 0 2 (s r j) 1)
def yq_isK (k : Int) (s : zE) : Int := if s 0 8 = 1 ∧ s 0 9 = k then 1 else 0
def yq_isS (c : Int) (s : zE) : Int := if s 0 8 = 4 ∧ s 0 9 = c then 1 else 0
/-- a number: 1 and read, or 0 and wrong -/
def yq_ny (lo hi : Int) (s : zE) : Int := if ¬ s 0 8 = 3 then 0 else if s 0 9 < lo ∨ hi < s 0 9 then 0 else 1
def yq_ns (lo hi : Int) (s : zE) : zE := if ¬ s 0 8 = 3 then yq_wr 1 s else if s 0 9 < lo ∨ hi < s 0 9 then yq_wr 2 s else yq_tok (zup s 0 11 (s 0 9))
