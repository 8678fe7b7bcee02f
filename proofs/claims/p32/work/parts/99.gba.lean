/-! What the class's reader makes of a text, as functions of cells (60 the reader, 32 and on its sheet, 1 the bytes). -/
def yp_flw (w p : Int) (s : zE) : zE := if s 60 0 = 0 then zup (zup s 60 0 w) 60 1 p else s
/-- the first place from n - k on, n at most, that is none of P -/
def yp_scn (P : Int → Bool) (b : Nat → Int) (n : Nat) : Nat → Nat
  | 0 => n
  | k + 1 => if P (b (n - (k + 1))) = true then yp_scn P b n k else n - (k + 1)
def yp_bl (c : Int) : Bool := decide (c = 10 ∨ c = 32)
def yp_le (c : Int) : Bool := decide (97 ≤ c ∧ c ≤ 122)
def yp_di (c : Int) : Bool := decide (48 ≤ c ∧ c ≤ 57)
def yp_num (b : Nat → Int) (p : Nat) : Nat → Int
  | 0 => 0
  | m + 1 => if yp_num b p m < 1000000 then yp_num b p m * 10 + b (p + m) - 48 else yp_num b p m
def yp_pw (m : Nat) : Int := match m with
  | 0 => 33554432
  | 1 => 1048576
  | 2 => 32768
  | 3 => 1024
  | 4 => 32
  | _ => 1
def yp_pk (b : Nat → Int) (p : Nat) : Nat → Int
  | 0 => 0
  | m + 1 => if m < 6 then yp_pk b p m + (b (p + m) - 96) * yp_pw m else yp_pk b p m
def yp_wd : List Int := [254262981, 641271424, 257085056, 52854784, 556043424, 642945024, 404455424, 68267008, 777046016, 788091136, 522190848, 48365568, 486146048, 549489824, 507661312, 788084736, 273734432, 620411008, 273729664, 693712896]
def yp_lang (i : Nat) (L : Int) : Int × Int := if 13 ≤ i then (17, (i : Int) - 13) else if 10 ≤ i then ((i : Int) - 9, L) else if 7 ≤ i then (19, (i : Int) - 7) else (18, (i : Int))
def yp_kw (L : Int) : Nat → Int × Int
  | 0 => (20, L)
  | i + 1 => if yp_wd.getD i 0 = L then yp_lang i L else yp_kw L i
def yp_sg (c d : Int) : Int × Nat :=
  if c = 59 then (15, 0) else if c = 40 then (0, 0) else if c = 41 then (14, 0) else if c = 43 then (10, 0) else if c = 45 then (11, 0) else if c = 42 then (12, 0) else if c = 47 then (13, 0) else if c = 61 then (6, 0)
  else if c = 60 then (if d = 62 then (7, 1) else if d = 61 then (5, 1) else (4, 0)) else if c = 62 then (if d = 61 then (8, 1) else (9, 0)) else (22, 0)
def yp_skp (b : Nat → Int) (n p : Nat) : Nat := if n ≤ p then p else yp_scn yp_bl b n (n - p)
/-- kind, value, start, next of the token from p on (a: where it begins) -/
def yp_tk2 (b : Nat → Int) (n a : Nat) : Int × Int × Nat × Nat :=
  if n ≤ a then (21, 0, a, a)
  else if yp_le (b a) = true then
    if 6 < yp_scn yp_le b n (n - a) - a then (22, 0, a, yp_scn yp_le b n (n - a)) else ((yp_kw (yp_pk b a (yp_scn yp_le b n (n - a) - a)) 20).1, (yp_kw (yp_pk b a (yp_scn yp_le b n (n - a) - a)) 20).2, a, yp_scn yp_le b n (n - a))
  else if yp_di (b a) = true then (16, yp_num b a (yp_scn yp_di b n (n - a) - a), a, yp_scn yp_di b n (n - a))
  else ((yp_sg (b a) (if a + 1 < n then b (a + 1) else 0)).1, 0, a, a + 1 + (yp_sg (b a) (if a + 1 < n then b (a + 1) else 0)).2)
def yp_tk (b : Nat → Int) (n p : Nat) : Int × Int × Nat × Nat := yp_tk2 b n (yp_skp b n p)
def yp_lay (s : zE) (t : Int × Int × Nat × Nat) : zE := zup (zup (zup (zup s 60 7 t.2.2.1) 60 8 t.2.1) 60 6 t.1) 60 5 t.2.2.2
def yp_adv (s : zE) : zE := yp_lay s (yp_tk (s 1) (s 60 4).toNat (s 60 5).toNat)
def yp_rd (lo hi : Int) (s : zE) : zE := if ¬ s 60 0 = 0 then s else if ¬ s 60 6 = 16 then yp_flw 1 (s 60 7) s else if s 60 8 < lo ∨ hi < s 60 8 then yp_flw 2 (s 60 7) s else yp_adv s
def yp_ry (lo hi : Int) (s : zE) : Int := if ¬ s 60 0 = 0 then 0 else if ¬ s 60 6 = 16 then 0 else if s 60 8 < lo ∨ hi < s 60 8 then 0 else s 60 8
/-- a number is read and laid -/
def yp_rw (lo hi : Int) (r j : Nat) (s : zE) : zE := zup (yp_rd lo hi s) r j (yp_ry lo hi s)
def yp_inc (r j : Nat) (s : zE) : zE := zup s r j (zd 0 1 (s r j) 1)
def yp_dec (r j : Nat) (s : zE) : zE := zup s r j (zd 0 2 (s r j) 1)
def yp_grv (s : zE) : zE := if 12 ≤ s 32 1 then yp_flw 2 (s 60 7) s else yp_inc 32 1 (yp_rw 0 9 34 (s 32 1).toNat (yp_rw 1 9 33 (s 32 1).toNat (yp_adv s)))
def yp_scr4 (k : Nat) (s : zE) : zE := yp_rw 1 9 (37 + k) 4 (yp_rw 0 (zd 0 2 100 (s (37 + k) 1)) (37 + k) 3 s)
def yp_scr3 (k : Nat) (g : Int) (s : zE) : zE := yp_inc 32 2 (zup (yp_scr4 k (yp_rw 1 9 (37 + k) 2 (yp_rw 0 100 (37 + k) 1 (zup s (37 + k) 0 g)))) 35 g.toNat k)
def yp_scr2 (k : Nat) (g p : Int) (s : zE) : zE := if ¬ s 60 0 = 0 then s else if ¬ s 35 g.toNat = -1 then yp_flw 3 p s else yp_scr3 k g s
def yp_scr (s : zE) : zE := if 4 ≤ s 32 2 then yp_flw 2 (s 60 7) s else yp_scr2 (s 32 2).toNat (yp_ry 0 11 (yp_adv s)) (yp_adv s 60 7) (yp_rd 0 11 (yp_adv s))
def yp_fd (f : Nat → Int) (x : Int) (n : Nat) : Nat → Int
  | 0 => -1
  | k + 1 => if f (n - (k + 1)) = x then ((n - (k + 1) : Nat) : Int) else yp_fd f x n k
def yp_gst3 (i : Nat) (s : zE) : zE := yp_inc 32 3 (yp_rw 0 99 (42 + i) 2 (yp_rw 0 9 (42 + i) 1 (yp_rw 1 9 (42 + i) 0 (yp_adv (zup s 46 i (s 60 8))))))
def yp_gst2 (i : Nat) (s : zE) : zE := if ¬ s 60 6 = 20 then yp_flw 1 (s 60 7) s else if ¬ yp_fd (s 46) (s 60 8) i i = -1 then yp_flw 3 (s 60 7) s else yp_gst3 i s
def yp_gst (s : zE) : zE := if 4 ≤ s 32 3 then yp_flw 2 (s 60 7) s else yp_gst2 (s 32 3).toNat (yp_adv s)
def yp_onc2 (w : Int) (s : zE) : zE := if w = 0 then yp_rw 0 9 32 4 s else if w = 1 then yp_rw 0 9 32 6 (yp_rw 0 99 32 5 s) else yp_rw 0 99999 32 7 s
def yp_onc (w : Int) (s : zE) : zE := if w < 0 ∨ 2 < w ∨ ¬ s 61 w.toNat = 0 then yp_flw 3 (s 60 7) s else yp_onc2 w (yp_adv (zup s 61 w.toNat 1))
def yp_rk (k : Int) : Int := (([0, 1, 2, 3, 4, 4, 4, 4, 4, 4, 5, 5, 6, 6] : List Int32).getD k.toNat 0).toInt
def yp_top (s : zE) : Int := if 0 < s 60 12 then yp_rk (s 63 (zd 0 2 (s 60 12) 1).toNat) else 0
def yp_add (x : Int) (s : zE) : zE := if s 47 1 < 64 then yp_inc 47 1 (zup s 48 (s 47 1).toNat x) else s
def yp_tie (s : zE) : zE := if 64 ≤ s 47 0 then yp_flw 2 (s 60 7) s else yp_inc 47 0 s
def yp_psh (x : Int) (s : zE) : zE := if s 60 0 = 0 ∧ s 60 12 < 72 then yp_inc 60 12 (zup s 63 (s 60 12).toNat x) else s
def yp_ad2 (s : zE) : zE := yp_add (zd 0 11 (s 63 (s 60 12).toNat) (s 63 (s 60 12).toNat)) s
def yp_unk (rk : Int) : Nat → zE → zE
  | 0, s => s
  | k + 1, s => if 0 < s 60 12 ∧ rk ≤ yp_top s then yp_unk rk k (yp_ad2 (yp_dec 60 12 s)) else s
def yp_unw (rk : Int) (s : zE) : zE := yp_unk rk (s 60 12).toNat s
def yp_nm1 (s : zE) : zE := yp_adv (yp_add (s 60 8) s)
def yp_nm2 (s : zE) : zE := yp_adv (yp_add (zd 0 1 10000 (s 60 8)) s)
def yp_opn (s : zE) : zE := yp_adv (yp_psh 0 (yp_inc 60 13 (if 8 ≤ s 60 13 then yp_flw 2 (s 60 7) s else s)))
/-- an operand; and whether one is wanted still -/
def yp_opd (s : zE) : zE :=
  if s 60 6 = 0 then yp_opn s
  else if s 60 6 = 3 ∧ yp_top s ≤ 3 then yp_adv (yp_psh 3 (yp_tie s))
  else if s 60 6 = 16 then yp_nm1 (yp_tie (if 10000 ≤ s 60 8 then yp_flw 2 (s 60 7) s else s))
  else if s 60 6 = 17 then yp_nm2 (yp_tie s) else yp_adv (yp_flw 1 (s 60 7) s)
def yp_opw (s : zE) : Int := if s 60 6 = 0 ∨ (s 60 6 = 3 ∧ yp_top s ≤ 3) then 1 else 0
def yp_sg2 (s : zE) : zE := if yp_rk (s 60 6) = 4 then (if yp_top (yp_unw 5 s) = 4 then yp_flw 1 (yp_unw 5 s 60 7) (yp_unw 5 s) else yp_unw 5 s) else yp_unw (yp_rk (s 60 6)) s
def yp_sg3 (s : zE) : zE := yp_adv (yp_psh (s 60 6) s)
def yp_sgn (s : zE) : zE :=
  if s 60 6 = 14 ∧ 0 < s 60 13 then yp_adv (yp_dec 60 13 (yp_dec 60 12 (yp_unw 1 s)))
  else if s 60 6 < 1 ∨ 13 < s 60 6 ∨ s 60 6 = 3 then yp_flw 1 (s 60 7) s
  else yp_sg3 (yp_tie (yp_sg2 s))
def yp_sgw (s : zE) : Int := if (s 60 6 = 14 ∧ 0 < s 60 13) ∨ s 60 6 < 1 ∨ 13 < s 60 6 ∨ s 60 6 = 3 then 0 else 1
/-- the loop over an E: how often at most, whether an operand is wanted -/
def yp_lwl : Nat → Int → zE → zE
  | 0, _, s => s
  | k + 1, w, s => if ¬ s 60 0 = 0 then s else if ¬ w = 0 then yp_lwl k (yp_opw s) (yp_opd s) else if s 60 6 = 15 ∧ s 60 13 = 0 then s else yp_lwl k (yp_sgw s) (yp_sgn s)
def yp_law3 (l : Nat) (s : zE) : zE := zup s 50 l (s 47 1)
def yp_law2 (l : Nat) (s : zE) : zE := zup (zup (zup s 49 l (s 47 1)) 60 12 0) 60 13 0
def yp_law (s : zE) : zE := if ¬ s 60 6 = 19 then yp_flw 1 (s 60 7) s else if s 49 (s 60 8).toNat < s 50 (s 60 8).toNat then yp_flw 3 (s 60 7) s else
  yp_law3 (s 60 8).toNat (yp_unw 1 (yp_lwl ((s 60 4).toNat + 1) 1 (yp_law2 (s 60 8).toNat (yp_adv s))))
def yp_lin (s : zE) : zE := if ¬ s 60 6 = 18 then yp_flw 1 (s 60 7) s else if s 60 8 = 0 then yp_grv s else if s 60 8 = 1 then yp_scr s else if s 60 8 = 2 then yp_gst s else if s 60 8 = 6 then yp_law (yp_adv s) else yp_onc (zd 0 2 (s 60 8) 3) s
def yp_end (s : zE) : zE := yp_inc 32 0 (yp_adv (if ¬ s 60 6 = 15 then yp_flw 1 (s 60 7) s else s))
def yp_rdl : Nat → zE → zE
  | 0, s => s
  | k + 1, s => if s 60 6 = 21 ∨ ¬ s 60 0 = 0 then s else yp_rdl k (yp_end (yp_lin s))
