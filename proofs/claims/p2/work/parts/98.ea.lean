theorem br_up {d e f x : Int} {η : zE} (h : H_l d e f η) (hx : x = η 0 43 + 1) : H_l d (e + 1) f (zup η 0 43 x) := by
  have cc := cz_zup (η := η) (r := 0) (j := 43) (x := x) (by decide)
  obtain ⟨j1, j2, j3, j4⟩ := h.2
  have n1 : ∀ n, ¬ n = 43 → zup η 0 43 x 0 n = η 0 n := fun n hn => zup_ne (fun _ e => hn e)
  exact h_w (zGk_upc g0k_l h.1 (by decide +kernel)) (n1 41 (by decide)) zup_eq (n1 42 (by decide)) (n1 45 (by decide)) (n1 19 (by decide)) (n1 44 (by decide)) (by rw [(cc _).1, (cc _).2]; exact ⟨by omega, by omega, by omega, by omega⟩)
theorem br_dn {d e f x : Int} {η : zE} (h : H_l d e f η) (hx : x = η 0 43 - 1) : H_l d (e - 1) f (zup η 0 43 x) := by
  have cc := cz_zup (η := η) (r := 0) (j := 43) (x := x) (by decide)
  obtain ⟨j1, j2, j3, j4⟩ := h.2
  have n1 : ∀ n, ¬ n = 43 → zup η 0 43 x 0 n = η 0 n := fun n hn => zup_ne (fun _ e => hn e)
  exact h_w (zGk_upc g0k_l h.1 (by decide +kernel)) (n1 41 (by decide)) zup_eq (n1 42 (by decide)) (n1 45 (by decide)) (n1 19 (by decide)) (n1 44 (by decide)) (by rw [(cc _).1, (cc _).2]; exact ⟨by omega, by omega, by omega, by omega⟩)
theorem wn_up {d e f x : Int} {η : zE} (h : H_l d e f η) : H_l d e (f + x - η 0 45) (zup η 0 45 x) := by
  have cc := cz_zup (η := η) (r := 0) (j := 45) (x := x) (by decide)
  obtain ⟨j1, j2, j3, j4⟩ := h.2
  have n1 : ∀ n, ¬ n = 45 → zup η 0 45 x 0 n = η 0 n := fun n hn => zup_ne (fun _ e => hn e)
  exact h_w (zGk_upc g0k_l h.1 (by decide +kernel)) (n1 41 (by decide)) (n1 43 (by decide)) (n1 42 (by decide)) zup_eq (n1 19 (by decide)) (n1 44 (by decide)) (by rw [(cc _).1, (cc _).2]; exact ⟨by omega, by omega, by omega, by omega⟩)
theorem wa_pop {d e f x : Int} {η : zE} (h : H_l d e f η) (hw : 1 ≤ η 0 41) (ht : η 22 (η 0 41 - 1).toNat ≤ 1) (hx : x = η 0 41 - 1) : H_l d (e + 1) f (zup η 0 41 x) := by
  have cc := cz_zup (η := η) (r := 0) (j := 41) (x := x) (by decide)
  obtain ⟨j1, j2, j3, j4⟩ := h.2
  have n1 : ∀ n, ¬ n = 41 → zup η 0 41 x 0 n = η 0 n := fun n hn => zup_ne (fun _ e => hn e)
  have cp := cz_pop0 (η := η) hw ht
  rw [← hx] at cp
  exact h_w (zGk_upc g0k_l h.1 (by decide +kernel)) zup_eq (n1 43 (by decide)) (n1 42 (by decide)) (n1 45 (by decide)) (n1 19 (by decide)) (n1 44 (by decide)) (by rw [(cc _).1, (cc _).2]; exact ⟨by omega, by omega, by omega, by omega⟩)
theorem h_eq {d e f d' e' f' : Int} {η : zE} (h : H_l d e f η) (h1 : d = d') (h2 : e = e') (h3 : f = f') : H_l d' e' f' η := by
  subst h1 h2 h3
  exact h
theorem close_l {η : zE} {x y : Int} (h : G_l η) (hb : 0 < η 0 43) (ht : η 0 41 = 0 ∨ η 22 (η 0 41 - 1).toNat ≤ 1) (hx : x = η 0 41 - 1) (hy : y = η 0 43 - 1) : G_l (zup (zup η 0 41 x) 0 43 y) := by
  obtain ⟨j1, j2, j3, j4⟩ := h.2
  have p : 1 ≤ η 0 41 := by
    by_cases q : η 0 41 = 0
    · rw [q] at j2
      have : cz_l η (Int.toNat 0) = 0 := rfl
      omega
    · omega
  have ht : η 22 (η 0 41 - 1).toNat ≤ 1 := by
    rcases ht with h | h
    · omega
    · exact h
  exact h_eq (br_dn (wa_pop h p ht hx) (by rw [zup_ne (fun _ e => (show ¬ ((43 : Nat) = 41) by decide) e)]; exact hy)) rfl (by omega) rfl

def zPl_leafRead : zPq := ([], [])
def zOl_leafRead : zPo := (((.ofNat (nat_lit 0)), (.ofNat (nat_lit 1))), [], [])
def zMl_leafRead : List zCe := [(nat_lit 0, nat_lit 44), (nat_lit 0, nat_lit 45), (nat_lit 0, nat_lit 42), (nat_lit 0, nat_lit 47), (nat_lit 0, nat_lit 46), (nat_lit 0, nat_lit 43), (nat_lit 0, nat_lit 20), (nat_lit 0, nat_lit 8), (nat_lit 0, nat_lit 9), (nat_lit 0, nat_lit 10), (nat_lit 0, nat_lit 11), (nat_lit 0, nat_lit 5), (nat_lit 0, nat_lit 6), (nat_lit 22, nat_lit 0), (nat_lit 19, nat_lit 0), (nat_lit 20, nat_lit 0), (nat_lit 21, nat_lit 0), (nat_lit 23, nat_lit 0)]
def pPl_leafRead : List Int → zE → Prop := fun _ η => G_l η ∧ η 0 45 = 1
def pQl_leafRead : List Int → zE → Int → zE → Prop := fun _ η y η' => G0_l η' ∧ (¬ y = 0 → G_l η' ∧ 10 * (η' 0 6 - η' 0 7) + η' 0 8 < 10 * (η 0 6 - η 0 7) + η 0 8 ∧ (η' 0 45 = 0 → 1 ≤ η' 0 19))
def pCl_leafRead : Nat → List Int → zE → Prop := fun c => match c with
  | 0 => pPl_isSign
  | 1 => pPl_wrong
  | 2 => pPl_waitsFor0
  | 3 => pPl_token
  | 4 => pPl_isKey
  | 5 => pPl_isCounted
  | 6 => pPl_waitsFor2
  | 7 => pPl_nameMet
  | 8 => pPl_grown
  | _ => fun _ _ => True
def qCl_leafRead : Nat → List Int → zE → Int → zE → Prop := fun c => match c with
  | 0 => pQl_isSign
  | 1 => pQl_wrong
  | 2 => pQl_waitsFor0
  | 3 => pQl_token
  | 4 => pQl_isKey
  | 5 => pQl_isCounted
  | 6 => pQl_waitsFor2
  | 7 => pQl_nameMet
  | 8 => pQl_grown
  | _ => fun _ _ _ _ => True
def iCl_leafRead : List Int → zE → Nat → List Int → zE → Prop := fun xs η0 c => match c with
  | _ => fun _ _ => True
def zVl_leafRead : List zIv := []
def zDl_leafRead : List (List zK) := [[(nat_lit 7, nat_lit 3, []), (nat_lit 6, nat_lit 2, [(nat_lit 3, (.ofNat (nat_lit 0))), (nat_lit 0, (.ofNat (nat_lit 0)))]), (nat_lit 6, nat_lit 1, [(nat_lit 4, (.ofNat (nat_lit 0))), (nat_lit 0, (.ofNat (nat_lit 0)))]), (nat_lit 8, nat_lit 5, []), (nat_lit 6, nat_lit 3, [(nat_lit 3, (.ofNat (nat_lit 0))), (nat_lit 0, (.ofNat (nat_lit 0)))]), (nat_lit 6, nat_lit 3, [(nat_lit 3, (.ofNat (nat_lit 0))), (nat_lit 0, (.ofNat (nat_lit 0)))]), (nat_lit 8, nat_lit 7, []), (nat_lit 6, nat_lit 0, [(nat_lit 2, (.ofNat (nat_lit 0))), (nat_lit 0, (.ofNat (nat_lit 0)))]), (nat_lit 8, nat_lit 4, [(nat_lit 0, (.ofNat (nat_lit 12)))]), (nat_lit 6, nat_lit 0, [(nat_lit 1, (.ofNat (nat_lit 0))), (nat_lit 0, (.ofNat (nat_lit 0)))]), (nat_lit 8, nat_lit 0, [(nat_lit 0, (.ofNat (nat_lit 40)))])],
  [(nat_lit 7, nat_lit 3, []), (nat_lit 6, nat_lit 2, [(nat_lit 3, (.ofNat (nat_lit 0))), (nat_lit 0, (.ofNat (nat_lit 0)))]), (nat_lit 6, nat_lit 3, [(nat_lit 3, (.ofNat (nat_lit 0))), (nat_lit 0, (.ofNat (nat_lit 0)))]), (nat_lit 6, nat_lit 1, [(nat_lit 4, (.ofNat (nat_lit 0))), (nat_lit 0, (.ofNat (nat_lit 0)))]), (nat_lit 8, nat_lit 5, []), (nat_lit 6, nat_lit 3, [(nat_lit 3, (.ofNat (nat_lit 0))), (nat_lit 0, (.ofNat (nat_lit 0)))]), (nat_lit 6, nat_lit 3, [(nat_lit 3, (.ofNat (nat_lit 0))), (nat_lit 0, (.ofNat (nat_lit 0)))]), (nat_lit 8, nat_lit 7, []), (nat_lit 6, nat_lit 0, [(nat_lit 2, (.ofNat (nat_lit 0))), (nat_lit 0, (.ofNat (nat_lit 0)))]), (nat_lit 8, nat_lit 4, [(nat_lit 0, (.ofNat (nat_lit 12)))]), (nat_lit 6, nat_lit 0, [(nat_lit 1, (.ofNat (nat_lit 0))), (nat_lit 0, (.ofNat (nat_lit 0)))]), (nat_lit 8, nat_lit 0, [(nat_lit 0, (.ofNat (nat_lit 40)))])],
  [(nat_lit 7, nat_lit 2, [(nat_lit 0, (.ofNat (nat_lit 0)))]), (nat_lit 8, nat_lit 8, [(nat_lit 0, (.ofNat (nat_lit 1))), (nat_lit 3, (.ofNat (nat_lit 0))), (nat_lit 0, (.ofNat (nat_lit 0)))]), (nat_lit 6, nat_lit 3, [(nat_lit 3, (.ofNat (nat_lit 0))), (nat_lit 0, (.ofNat (nat_lit 0)))]), (nat_lit 6, nat_lit 3, [(nat_lit 3, (.ofNat (nat_lit 0))), (nat_lit 0, (.ofNat (nat_lit 0)))]), (nat_lit 6, nat_lit 1, [(nat_lit 4, (.ofNat (nat_lit 0))), (nat_lit 0, (.ofNat (nat_lit 0)))]), (nat_lit 8, nat_lit 5, []), (nat_lit 6, nat_lit 3, [(nat_lit 3, (.ofNat (nat_lit 0))), (nat_lit 0, (.ofNat (nat_lit 0)))]), (nat_lit 6, nat_lit 3, [(nat_lit 3, (.ofNat (nat_lit 0))), (nat_lit 0, (.ofNat (nat_lit 0)))]), (nat_lit 8, nat_lit 7, []), (nat_lit 6, nat_lit 0, [(nat_lit 2, (.ofNat (nat_lit 0))), (nat_lit 0, (.ofNat (nat_lit 0)))]), (nat_lit 8, nat_lit 4, [(nat_lit 0, (.ofNat (nat_lit 12)))]), (nat_lit 6, nat_lit 0, [(nat_lit 1, (.ofNat (nat_lit 0))), (nat_lit 0, (.ofNat (nat_lit 0)))]), (nat_lit 8, nat_lit 0, [(nat_lit 0, (.ofNat (nat_lit 40)))])],
  [(nat_lit 7, nat_lit 2, [(nat_lit 0, (.ofNat (nat_lit 1)))]), (nat_lit 8, nat_lit 3, []), (nat_lit 5, nat_lit 1, [(nat_lit 0, (.ofNat (nat_lit 0))), (nat_lit 0, (.ofNat (nat_lit 45))), (nat_lit 0, (.ofNat (nat_lit 0)))]), (nat_lit 8, nat_lit 8, [(nat_lit 0, (.ofNat (nat_lit 1))), (nat_lit 3, (.ofNat (nat_lit 0))), (nat_lit 0, (.ofNat (nat_lit 0)))]), (nat_lit 6, nat_lit 3, [(nat_lit 3, (.ofNat (nat_lit 0))), (nat_lit 0, (.ofNat (nat_lit 0)))]), (nat_lit 6, nat_lit 3, [(nat_lit 3, (.ofNat (nat_lit 0))), (nat_lit 0, (.ofNat (nat_lit 0)))]), (nat_lit 6, nat_lit 1, [(nat_lit 4, (.ofNat (nat_lit 0))), (nat_lit 0, (.ofNat (nat_lit 0)))]), (nat_lit 8, nat_lit 5, []), (nat_lit 6, nat_lit 3, [(nat_lit 3, (.ofNat (nat_lit 0))), (nat_lit 0, (.ofNat (nat_lit 0)))]), (nat_lit 6, nat_lit 3, [(nat_lit 3, (.ofNat (nat_lit 0))), (nat_lit 0, (.ofNat (nat_lit 0)))]), (nat_lit 8, nat_lit 7, []), (nat_lit 6, nat_lit 0, [(nat_lit 2, (.ofNat (nat_lit 0))), (nat_lit 0, (.ofNat (nat_lit 0)))]), (nat_lit 8, nat_lit 4, [(nat_lit 0, (.ofNat (nat_lit 12)))]), (nat_lit 6, nat_lit 0, [(nat_lit 1, (.ofNat (nat_lit 0))), (nat_lit 0, (.ofNat (nat_lit 0)))]), (nat_lit 8, nat_lit 0, [(nat_lit 0, (.ofNat (nat_lit 40)))])],
  [(nat_lit 7, nat_lit 2, [(nat_lit 0, (.ofNat (nat_lit 0)))]), (nat_lit 6, nat_lit 0, [(nat_lit 4, (.ofNat (nat_lit 0))), (nat_lit 0, (.ofNat (nat_lit 0)))]), (nat_lit 8, nat_lit 5, []), (nat_lit 6, nat_lit 3, [(nat_lit 3, (.ofNat (nat_lit 0))), (nat_lit 0, (.ofNat (nat_lit 0)))]), (nat_lit 6, nat_lit 3, [(nat_lit 3, (.ofNat (nat_lit 0))), (nat_lit 0, (.ofNat (nat_lit 0)))]), (nat_lit 8, nat_lit 7, []), (nat_lit 6, nat_lit 0, [(nat_lit 2, (.ofNat (nat_lit 0))), (nat_lit 0, (.ofNat (nat_lit 0)))]), (nat_lit 8, nat_lit 4, [(nat_lit 0, (.ofNat (nat_lit 12)))]), (nat_lit 6, nat_lit 0, [(nat_lit 1, (.ofNat (nat_lit 0))), (nat_lit 0, (.ofNat (nat_lit 0)))]), (nat_lit 8, nat_lit 0, [(nat_lit 0, (.ofNat (nat_lit 40)))])],
  [(nat_lit 7, nat_lit 3, []), (nat_lit 6, nat_lit 2, [(nat_lit 3, (.ofNat (nat_lit 0))), (nat_lit 0, (.ofNat (nat_lit 0)))]), (nat_lit 6, nat_lit 3, [(nat_lit 3, (.ofNat (nat_lit 0))), (nat_lit 0, (.ofNat (nat_lit 0)))]), (nat_lit 8, nat_lit 7, []), (nat_lit 6, nat_lit 0, [(nat_lit 2, (.ofNat (nat_lit 0))), (nat_lit 0, (.ofNat (nat_lit 0)))]), (nat_lit 8, nat_lit 4, [(nat_lit 0, (.ofNat (nat_lit 12)))]), (nat_lit 6, nat_lit 0, [(nat_lit 1, (.ofNat (nat_lit 0))), (nat_lit 0, (.ofNat (nat_lit 0)))]), (nat_lit 8, nat_lit 0, [(nat_lit 0, (.ofNat (nat_lit 40)))])],
  [(nat_lit 7, nat_lit 3, []), (nat_lit 6, nat_lit 3, [(nat_lit 3, (.ofNat (nat_lit 0))), (nat_lit 0, (.ofNat (nat_lit 0)))]), (nat_lit 6, nat_lit 0, [(nat_lit 4, (.ofNat (nat_lit 0))), (nat_lit 0, (.ofNat (nat_lit 3)))]), (nat_lit 4, nat_lit 0, [(nat_lit 0, (.ofNat (nat_lit 0))), (nat_lit 0, (.ofNat (nat_lit 8)))]), (nat_lit 6, nat_lit 2, [(nat_lit 3, (.ofNat (nat_lit 0))), (nat_lit 0, (.ofNat (nat_lit 0)))]), (nat_lit 8, nat_lit 7, []), (nat_lit 6, nat_lit 0, [(nat_lit 2, (.ofNat (nat_lit 0))), (nat_lit 0, (.ofNat (nat_lit 0)))]), (nat_lit 8, nat_lit 4, [(nat_lit 0, (.ofNat (nat_lit 12)))]), (nat_lit 6, nat_lit 0, [(nat_lit 1, (.ofNat (nat_lit 0))), (nat_lit 0, (.ofNat (nat_lit 0)))]), (nat_lit 8, nat_lit 0, [(nat_lit 0, (.ofNat (nat_lit 40)))])],
  [(nat_lit 7, nat_lit 2, [(nat_lit 0, (.ofNat (nat_lit 0)))]), (nat_lit 8, nat_lit 8, [(nat_lit 0, (.ofNat (nat_lit 0))), (nat_lit 7, (.ofNat (nat_lit 0))), (nat_lit 0, (.ofNat (nat_lit 0)))]), (nat_lit 4, nat_lit 0, [(nat_lit 0, (.ofNat (nat_lit 0))), (nat_lit 0, (.ofNat (nat_lit 9)))]), (nat_lit 6, nat_lit 2, [(nat_lit 3, (.ofNat (nat_lit 0))), (nat_lit 0, (.ofNat (nat_lit 0)))]), (nat_lit 6, nat_lit 2, [(nat_lit 3, (.ofNat (nat_lit 0))), (nat_lit 0, (.ofNat (nat_lit 0)))]), (nat_lit 6, nat_lit 1, [(nat_lit 6, (.ofNat (nat_lit 0))), (nat_lit 0, (.ofNat (nat_lit 0)))]), (nat_lit 8, nat_lit 5, []), (nat_lit 6, nat_lit 5, [(nat_lit 5, (.ofNat (nat_lit 0))), (nat_lit 0, (.ofNat (nat_lit 9999)))]), (nat_lit 4, nat_lit 0, [(nat_lit 0, (.ofNat (nat_lit 0))), (nat_lit 0, (.ofNat (nat_lit 9)))]), (nat_lit 6, nat_lit 2, [(nat_lit 3, (.ofNat (nat_lit 0))), (nat_lit 0, (.ofNat (nat_lit 0)))]), (nat_lit 6, nat_lit 0, [(nat_lit 4, (.ofNat (nat_lit 0))), (nat_lit 0, (.ofNat (nat_lit 3)))]), (nat_lit 4, nat_lit 0, [(nat_lit 0, (.ofNat (nat_lit 0))), (nat_lit 0, (.ofNat (nat_lit 8)))]), (nat_lit 6, nat_lit 2, [(nat_lit 3, (.ofNat (nat_lit 0))), (nat_lit 0, (.ofNat (nat_lit 0)))]), (nat_lit 8, nat_lit 7, []), (nat_lit 6, nat_lit 0, [(nat_lit 2, (.ofNat (nat_lit 0))), (nat_lit 0, (.ofNat (nat_lit 0)))]), (nat_lit 8, nat_lit 4, [(nat_lit 0, (.ofNat (nat_lit 12)))]), (nat_lit 6, nat_lit 0, [(nat_lit 1, (.ofNat (nat_lit 0))), (nat_lit 0, (.ofNat (nat_lit 0)))]), (nat_lit 8, nat_lit 0, [(nat_lit 0, (.ofNat (nat_lit 40)))])],
  [(nat_lit 7, nat_lit 2, [(nat_lit 0, (.ofNat (nat_lit 1)))]), (nat_lit 8, nat_lit 3, []), (nat_lit 5, nat_lit 1, [(nat_lit 0, (.ofNat (nat_lit 0))), (nat_lit 0, (.ofNat (nat_lit 45))), (nat_lit 0, (.ofNat (nat_lit 0)))]), (nat_lit 8, nat_lit 8, [(nat_lit 0, (.ofNat (nat_lit 0))), (nat_lit 7, (.ofNat (nat_lit 0))), (nat_lit 0, (.ofNat (nat_lit 0)))]), (nat_lit 4, nat_lit 0, [(nat_lit 0, (.ofNat (nat_lit 0))), (nat_lit 0, (.ofNat (nat_lit 9)))]), (nat_lit 6, nat_lit 2, [(nat_lit 3, (.ofNat (nat_lit 0))), (nat_lit 0, (.ofNat (nat_lit 0)))]), (nat_lit 6, nat_lit 2, [(nat_lit 3, (.ofNat (nat_lit 0))), (nat_lit 0, (.ofNat (nat_lit 0)))]), (nat_lit 6, nat_lit 1, [(nat_lit 6, (.ofNat (nat_lit 0))), (nat_lit 0, (.ofNat (nat_lit 0)))]), (nat_lit 8, nat_lit 5, []), (nat_lit 6, nat_lit 5, [(nat_lit 5, (.ofNat (nat_lit 0))), (nat_lit 0, (.ofNat (nat_lit 9999)))]), (nat_lit 4, nat_lit 0, [(nat_lit 0, (.ofNat (nat_lit 0))), (nat_lit 0, (.ofNat (nat_lit 9)))]), (nat_lit 6, nat_lit 2, [(nat_lit 3, (.ofNat (nat_lit 0))), (nat_lit 0, (.ofNat (nat_lit 0)))]), (nat_lit 6, nat_lit 0, [(nat_lit 4, (.ofNat (nat_lit 0))), (nat_lit 0, (.ofNat (nat_lit 3)))]), (nat_lit 4, nat_lit 0, [(nat_lit 0, (.ofNat (nat_lit 0))), (nat_lit 0, (.ofNat (nat_lit 8)))]), (nat_lit 6, nat_lit 2, [(nat_lit 3, (.ofNat (nat_lit 0))), (nat_lit 0, (.ofNat (nat_lit 0)))]), (nat_lit 8, nat_lit 7, []), (nat_lit 6, nat_lit 0, [(nat_lit 2, (.ofNat (nat_lit 0))), (nat_lit 0, (.ofNat (nat_lit 0)))]), (nat_lit 8, nat_lit 4, [(nat_lit 0, (.ofNat (nat_lit 12)))]), (nat_lit 6, nat_lit 0, [(nat_lit 1, (.ofNat (nat_lit 0))), (nat_lit 0, (.ofNat (nat_lit 0)))]), (nat_lit 8, nat_lit 0, [(nat_lit 0, (.ofNat (nat_lit 40)))])],
  [(nat_lit 7, nat_lit 3, []), (nat_lit 6, nat_lit 3, [(nat_lit 3, (.ofNat (nat_lit 0))), (nat_lit 0, (.ofNat (nat_lit 0)))]), (nat_lit 6, nat_lit 2, [(nat_lit 3, (.ofNat (nat_lit 0))), (nat_lit 0, (.ofNat (nat_lit 0)))]), (nat_lit 6, nat_lit 1, [(nat_lit 6, (.ofNat (nat_lit 0))), (nat_lit 0, (.ofNat (nat_lit 0)))]), (nat_lit 8, nat_lit 5, []), (nat_lit 6, nat_lit 5, [(nat_lit 5, (.ofNat (nat_lit 0))), (nat_lit 0, (.ofNat (nat_lit 9999)))]), (nat_lit 4, nat_lit 0, [(nat_lit 0, (.ofNat (nat_lit 0))), (nat_lit 0, (.ofNat (nat_lit 9)))]), (nat_lit 6, nat_lit 2, [(nat_lit 3, (.ofNat (nat_lit 0))), (nat_lit 0, (.ofNat (nat_lit 0)))]), (nat_lit 6, nat_lit 0, [(nat_lit 4, (.ofNat (nat_lit 0))), (nat_lit 0, (.ofNat (nat_lit 3)))]), (nat_lit 4, nat_lit 0, [(nat_lit 0, (.ofNat (nat_lit 0))), (nat_lit 0, (.ofNat (nat_lit 8)))]), (nat_lit 6, nat_lit 2, [(nat_lit 3, (.ofNat (nat_lit 0))), (nat_lit 0, (.ofNat (nat_lit 0)))]), (nat_lit 8, nat_lit 7, []), (nat_lit 6, nat_lit 0, [(nat_lit 2, (.ofNat (nat_lit 0))), (nat_lit 0, (.ofNat (nat_lit 0)))]), (nat_lit 8, nat_lit 4, [(nat_lit 0, (.ofNat (nat_lit 12)))]), (nat_lit 6, nat_lit 0, [(nat_lit 1, (.ofNat (nat_lit 0))), (nat_lit 0, (.ofNat (nat_lit 0)))]), (nat_lit 8, nat_lit 0, [(nat_lit 0, (.ofNat (nat_lit 40)))])],
  [(nat_lit 7, nat_lit 3, []), (nat_lit 6, nat_lit 3, [(nat_lit 3, (.ofNat (nat_lit 0))), (nat_lit 0, (.ofNat (nat_lit 0)))]), (nat_lit 6, nat_lit 1, [(nat_lit 6, (.ofNat (nat_lit 0))), (nat_lit 0, (.ofNat (nat_lit 0)))]), (nat_lit 8, nat_lit 5, []), (nat_lit 6, nat_lit 5, [(nat_lit 5, (.ofNat (nat_lit 0))), (nat_lit 0, (.ofNat (nat_lit 9999)))]), (nat_lit 4, nat_lit 0, [(nat_lit 0, (.ofNat (nat_lit 0))), (nat_lit 0, (.ofNat (nat_lit 9)))]), (nat_lit 6, nat_lit 2, [(nat_lit 3, (.ofNat (nat_lit 0))), (nat_lit 0, (.ofNat (nat_lit 0)))]), (nat_lit 6, nat_lit 0, [(nat_lit 4, (.ofNat (nat_lit 0))), (nat_lit 0, (.ofNat (nat_lit 3)))]), (nat_lit 4, nat_lit 0, [(nat_lit 0, (.ofNat (nat_lit 0))), (nat_lit 0, (.ofNat (nat_lit 8)))]), (nat_lit 6, nat_lit 2, [(nat_lit 3, (.ofNat (nat_lit 0))), (nat_lit 0, (.ofNat (nat_lit 0)))]), (nat_lit 8, nat_lit 7, []), (nat_lit 6, nat_lit 0, [(nat_lit 2, (.ofNat (nat_lit 0))), (nat_lit 0, (.ofNat (nat_lit 0)))]), (nat_lit 8, nat_lit 4, [(nat_lit 0, (.ofNat (nat_lit 12)))]), (nat_lit 6, nat_lit 0, [(nat_lit 1, (.ofNat (nat_lit 0))), (nat_lit 0, (.ofNat (nat_lit 0)))]), (nat_lit 8, nat_lit 0, [(nat_lit 0, (.ofNat (nat_lit 40)))])],
  [(nat_lit 7, nat_lit 2, [(nat_lit 0, (.ofNat (nat_lit 0)))]), (nat_lit 6, nat_lit 0, [(nat_lit 6, (.ofNat (nat_lit 0))), (nat_lit 0, (.ofNat (nat_lit 0)))]), (nat_lit 8, nat_lit 5, []), (nat_lit 6, nat_lit 5, [(nat_lit 5, (.ofNat (nat_lit 0))), (nat_lit 0, (.ofNat (nat_lit 9999)))]), (nat_lit 4, nat_lit 0, [(nat_lit 0, (.ofNat (nat_lit 0))), (nat_lit 0, (.ofNat (nat_lit 9)))]), (nat_lit 6, nat_lit 2, [(nat_lit 3, (.ofNat (nat_lit 0))), (nat_lit 0, (.ofNat (nat_lit 0)))]), (nat_lit 6, nat_lit 0, [(nat_lit 4, (.ofNat (nat_lit 0))), (nat_lit 0, (.ofNat (nat_lit 3)))]), (nat_lit 4, nat_lit 0, [(nat_lit 0, (.ofNat (nat_lit 0))), (nat_lit 0, (.ofNat (nat_lit 8)))]), (nat_lit 6, nat_lit 2, [(nat_lit 3, (.ofNat (nat_lit 0))), (nat_lit 0, (.ofNat (nat_lit 0)))]), (nat_lit 8, nat_lit 7, []), (nat_lit 6, nat_lit 0, [(nat_lit 2, (.ofNat (nat_lit 0))), (nat_lit 0, (.ofNat (nat_lit 0)))]), (nat_lit 8, nat_lit 4, [(nat_lit 0, (.ofNat (nat_lit 12)))]), (nat_lit 6, nat_lit 0, [(nat_lit 1, (.ofNat (nat_lit 0))), (nat_lit 0, (.ofNat (nat_lit 0)))]), (nat_lit 8, nat_lit 0, [(nat_lit 0, (.ofNat (nat_lit 40)))])],
  [(nat_lit 7, nat_lit 2, [(nat_lit 6, (.ofNat (nat_lit 0)))]), (nat_lit 8, nat_lit 1, [(nat_lit 0, (.ofNat (nat_lit 2)))]), (nat_lit 6, nat_lit 4, [(nat_lit 5, (.ofNat (nat_lit 0))), (nat_lit 0, (.ofNat (nat_lit 9999)))]), (nat_lit 4, nat_lit 0, [(nat_lit 0, (.ofNat (nat_lit 0))), (nat_lit 0, (.ofNat (nat_lit 9)))]), (nat_lit 6, nat_lit 2, [(nat_lit 3, (.ofNat (nat_lit 0))), (nat_lit 0, (.ofNat (nat_lit 0)))]), (nat_lit 6, nat_lit 0, [(nat_lit 4, (.ofNat (nat_lit 0))), (nat_lit 0, (.ofNat (nat_lit 3)))]), (nat_lit 4, nat_lit 0, [(nat_lit 0, (.ofNat (nat_lit 0))), (nat_lit 0, (.ofNat (nat_lit 8)))]), (nat_lit 6, nat_lit 2, [(nat_lit 3, (.ofNat (nat_lit 0))), (nat_lit 0, (.ofNat (nat_lit 0)))]), (nat_lit 8, nat_lit 7, []), (nat_lit 6, nat_lit 0, [(nat_lit 2, (.ofNat (nat_lit 0))), (nat_lit 0, (.ofNat (nat_lit 0)))]), (nat_lit 8, nat_lit 4, [(nat_lit 0, (.ofNat (nat_lit 12)))]), (nat_lit 6, nat_lit 0, [(nat_lit 1, (.ofNat (nat_lit 0))), (nat_lit 0, (.ofNat (nat_lit 0)))]), (nat_lit 8, nat_lit 0, [(nat_lit 0, (.ofNat (nat_lit 40)))])],
  [(nat_lit 7, nat_lit 2, [(nat_lit 5, (.ofNat (nat_lit 0)))]), (nat_lit 8, nat_lit 1, [(nat_lit 0, (.ofNat (nat_lit 1)))]), (nat_lit 6, nat_lit 1, [(nat_lit 4, (.ofNat (nat_lit 0))), (nat_lit 0, (.ofNat (nat_lit 3)))]), (nat_lit 4, nat_lit 0, [(nat_lit 0, (.ofNat (nat_lit 0))), (nat_lit 0, (.ofNat (nat_lit 8)))]), (nat_lit 6, nat_lit 2, [(nat_lit 3, (.ofNat (nat_lit 0))), (nat_lit 0, (.ofNat (nat_lit 0)))]), (nat_lit 8, nat_lit 7, []), (nat_lit 6, nat_lit 0, [(nat_lit 2, (.ofNat (nat_lit 0))), (nat_lit 0, (.ofNat (nat_lit 0)))]), (nat_lit 8, nat_lit 4, [(nat_lit 0, (.ofNat (nat_lit 12)))]), (nat_lit 6, nat_lit 0, [(nat_lit 1, (.ofNat (nat_lit 0))), (nat_lit 0, (.ofNat (nat_lit 0)))]), (nat_lit 8, nat_lit 0, [(nat_lit 0, (.ofNat (nat_lit 40)))])],
  [(nat_lit 7, nat_lit 3, []), (nat_lit 6, nat_lit 2, [(nat_lit 4, (.ofNat (nat_lit 0))), (nat_lit 0, (.ofNat (nat_lit 0)))]), (nat_lit 6, nat_lit 1, [(nat_lit 5, (.ofNat (nat_lit 0))), (nat_lit 0, (.ofNat (nat_lit 0)))]), (nat_lit 8, nat_lit 5, []), (nat_lit 6, nat_lit 3, [(nat_lit 4, (.ofNat (nat_lit 0))), (nat_lit 0, (.ofNat (nat_lit 0)))]), (nat_lit 6, nat_lit 3, [(nat_lit 4, (.ofNat (nat_lit 0))), (nat_lit 0, (.ofNat (nat_lit 0)))]), (nat_lit 8, nat_lit 7, []), (nat_lit 6, nat_lit 0, [(nat_lit 3, (.ofNat (nat_lit 0))), (nat_lit 0, (.ofNat (nat_lit 0)))]), (nat_lit 4, nat_lit 1, [(nat_lit 0, (.ofNat (nat_lit 0))), (nat_lit 0, (.ofNat (nat_lit 46)))]), (nat_lit 6, nat_lit 1, [(nat_lit 2, (.ofNat (nat_lit 0))), (nat_lit 0, (.ofNat (nat_lit 0)))]), (nat_lit 8, nat_lit 4, [(nat_lit 0, (.ofNat (nat_lit 12)))]), (nat_lit 6, nat_lit 0, [(nat_lit 1, (.ofNat (nat_lit 0))), (nat_lit 0, (.ofNat (nat_lit 0)))]), (nat_lit 8, nat_lit 0, [(nat_lit 0, (.ofNat (nat_lit 40)))])],
  [(nat_lit 7, nat_lit 3, []), (nat_lit 6, nat_lit 2, [(nat_lit 4, (.ofNat (nat_lit 0))), (nat_lit 0, (.ofNat (nat_lit 0)))]), (nat_lit 6, nat_lit 3, [(nat_lit 4, (.ofNat (nat_lit 0))), (nat_lit 0, (.ofNat (nat_lit 0)))]), (nat_lit 6, nat_lit 1, [(nat_lit 5, (.ofNat (nat_lit 0))), (nat_lit 0, (.ofNat (nat_lit 0)))]), (nat_lit 8, nat_lit 5, []), (nat_lit 6, nat_lit 3, [(nat_lit 4, (.ofNat (nat_lit 0))), (nat_lit 0, (.ofNat (nat_lit 0)))]), (nat_lit 6, nat_lit 3, [(nat_lit 4, (.ofNat (nat_lit 0))), (nat_lit 0, (.ofNat (nat_lit 0)))]), (nat_lit 8, nat_lit 7, []), (nat_lit 6, nat_lit 0, [(nat_lit 3, (.ofNat (nat_lit 0))), (nat_lit 0, (.ofNat (nat_lit 0)))]), (nat_lit 4, nat_lit 1, [(nat_lit 0, (.ofNat (nat_lit 0))), (nat_lit 0, (.ofNat (nat_lit 46)))]), (nat_lit 6, nat_lit 1, [(nat_lit 2, (.ofNat (nat_lit 0))), (nat_lit 0, (.ofNat (nat_lit 0)))]), (nat_lit 8, nat_lit 4, [(nat_lit 0, (.ofNat (nat_lit 12)))]), (nat_lit 6, nat_lit 0, [(nat_lit 1, (.ofNat (nat_lit 0))), (nat_lit 0, (.ofNat (nat_lit 0)))]), (nat_lit 8, nat_lit 0, [(nat_lit 0, (.ofNat (nat_lit 40)))])],
  [(nat_lit 7, nat_lit 2, [(nat_lit 0, (.ofNat (nat_lit 0)))]), (nat_lit 8, nat_lit 8, [(nat_lit 0, (.ofNat (nat_lit 1))), (nat_lit 4, (.ofNat (nat_lit 0))), (nat_lit 0, (.ofNat (nat_lit 0)))]), (nat_lit 6, nat_lit 3, [(nat_lit 4, (.ofNat (nat_lit 0))), (nat_lit 0, (.ofNat (nat_lit 0)))]), (nat_lit 6, nat_lit 3, [(nat_lit 4, (.ofNat (nat_lit 0))), (nat_lit 0, (.ofNat (nat_lit 0)))]), (nat_lit 6, nat_lit 1, [(nat_lit 5, (.ofNat (nat_lit 0))), (nat_lit 0, (.ofNat (nat_lit 0)))]), (nat_lit 8, nat_lit 5, []), (nat_lit 6, nat_lit 3, [(nat_lit 4, (.ofNat (nat_lit 0))), (nat_lit 0, (.ofNat (nat_lit 0)))]), (nat_lit 6, nat_lit 3, [(nat_lit 4, (.ofNat (nat_lit 0))), (nat_lit 0, (.ofNat (nat_lit 0)))]), (nat_lit 8, nat_lit 7, []), (nat_lit 6, nat_lit 0, [(nat_lit 3, (.ofNat (nat_lit 0))), (nat_lit 0, (.ofNat (nat_lit 0)))]), (nat_lit 4, nat_lit 1, [(nat_lit 0, (.ofNat (nat_lit 0))), (nat_lit 0, (.ofNat (nat_lit 46)))]), (nat_lit 6, nat_lit 1, [(nat_lit 2, (.ofNat (nat_lit 0))), (nat_lit 0, (.ofNat (nat_lit 0)))]), (nat_lit 8, nat_lit 4, [(nat_lit 0, (.ofNat (nat_lit 12)))]), (nat_lit 6, nat_lit 0, [(nat_lit 1, (.ofNat (nat_lit 0))), (nat_lit 0, (.ofNat (nat_lit 0)))]), (nat_lit 8, nat_lit 0, [(nat_lit 0, (.ofNat (nat_lit 40)))])],
  [(nat_lit 7, nat_lit 2, [(nat_lit 0, (.ofNat (nat_lit 1)))]), (nat_lit 8, nat_lit 3, []), (nat_lit 5, nat_lit 1, [(nat_lit 0, (.ofNat (nat_lit 0))), (nat_lit 0, (.ofNat (nat_lit 45))), (nat_lit 0, (.ofNat (nat_lit 0)))]), (nat_lit 8, nat_lit 8, [(nat_lit 0, (.ofNat (nat_lit 1))), (nat_lit 4, (.ofNat (nat_lit 0))), (nat_lit 0, (.ofNat (nat_lit 0)))]), (nat_lit 6, nat_lit 3, [(nat_lit 4, (.ofNat (nat_lit 0))), (nat_lit 0, (.ofNat (nat_lit 0)))]), (nat_lit 6, nat_lit 3, [(nat_lit 4, (.ofNat (nat_lit 0))), (nat_lit 0, (.ofNat (nat_lit 0)))]), (nat_lit 6, nat_lit 1, [(nat_lit 5, (.ofNat (nat_lit 0))), (nat_lit 0, (.ofNat (nat_lit 0)))]), (nat_lit 8, nat_lit 5, []), (nat_lit 6, nat_lit 3, [(nat_lit 4, (.ofNat (nat_lit 0))), (nat_lit 0, (.ofNat (nat_lit 0)))]), (nat_lit 6, nat_lit 3, [(nat_lit 4, (.ofNat (nat_lit 0))), (nat_lit 0, (.ofNat (nat_lit 0)))]), (nat_lit 8, nat_lit 7, []), (nat_lit 6, nat_lit 0, [(nat_lit 3, (.ofNat (nat_lit 0))), (nat_lit 0, (.ofNat (nat_lit 0)))]), (nat_lit 4, nat_lit 1, [(nat_lit 0, (.ofNat (nat_lit 0))), (nat_lit 0, (.ofNat (nat_lit 46)))]), (nat_lit 6, nat_lit 1, [(nat_lit 2, (.ofNat (nat_lit 0))), (nat_lit 0, (.ofNat (nat_lit 0)))]), (nat_lit 8, nat_lit 4, [(nat_lit 0, (.ofNat (nat_lit 12)))]), (nat_lit 6, nat_lit 0, [(nat_lit 1, (.ofNat (nat_lit 0))), (nat_lit 0, (.ofNat (nat_lit 0)))]), (nat_lit 8, nat_lit 0, [(nat_lit 0, (.ofNat (nat_lit 40)))])],
  [(nat_lit 7, nat_lit 2, [(nat_lit 0, (.ofNat (nat_lit 0)))]), (nat_lit 6, nat_lit 0, [(nat_lit 5, (.ofNat (nat_lit 0))), (nat_lit 0, (.ofNat (nat_lit 0)))]), (nat_lit 8, nat_lit 5, []), (nat_lit 6, nat_lit 3, [(nat_lit 4, (.ofNat (nat_lit 0))), (nat_lit 0, (.ofNat (nat_lit 0)))]), (nat_lit 6, nat_lit 3, [(nat_lit 4, (.ofNat (nat_lit 0))), (nat_lit 0, (.ofNat (nat_lit 0)))]), (nat_lit 8, nat_lit 7, []), (nat_lit 6, nat_lit 0, [(nat_lit 3, (.ofNat (nat_lit 0))), (nat_lit 0, (.ofNat (nat_lit 0)))]), (nat_lit 4, nat_lit 1, [(nat_lit 0, (.ofNat (nat_lit 0))), (nat_lit 0, (.ofNat (nat_lit 46)))]), (nat_lit 6, nat_lit 1, [(nat_lit 2, (.ofNat (nat_lit 0))), (nat_lit 0, (.ofNat (nat_lit 0)))]), (nat_lit 8, nat_lit 4, [(nat_lit 0, (.ofNat (nat_lit 12)))]), (nat_lit 6, nat_lit 0, [(nat_lit 1, (.ofNat (nat_lit 0))), (nat_lit 0, (.ofNat (nat_lit 0)))]), (nat_lit 8, nat_lit 0, [(nat_lit 0, (.ofNat (nat_lit 40)))])],
  [(nat_lit 7, nat_lit 3, []), (nat_lit 6, nat_lit 2, [(nat_lit 4, (.ofNat (nat_lit 0))), (nat_lit 0, (.ofNat (nat_lit 0)))]), (nat_lit 6, nat_lit 3, [(nat_lit 4, (.ofNat (nat_lit 0))), (nat_lit 0, (.ofNat (nat_lit 0)))]), (nat_lit 8, nat_lit 7, []), (nat_lit 6, nat_lit 0, [(nat_lit 3, (.ofNat (nat_lit 0))), (nat_lit 0, (.ofNat (nat_lit 0)))]), (nat_lit 4, nat_lit 1, [(nat_lit 0, (.ofNat (nat_lit 0))), (nat_lit 0, (.ofNat (nat_lit 46)))]), (nat_lit 6, nat_lit 1, [(nat_lit 2, (.ofNat (nat_lit 0))), (nat_lit 0, (.ofNat (nat_lit 0)))]), (nat_lit 8, nat_lit 4, [(nat_lit 0, (.ofNat (nat_lit 12)))]), (nat_lit 6, nat_lit 0, [(nat_lit 1, (.ofNat (nat_lit 0))), (nat_lit 0, (.ofNat (nat_lit 0)))]), (nat_lit 8, nat_lit 0, [(nat_lit 0, (.ofNat (nat_lit 40)))])],
  [(nat_lit 7, nat_lit 3, []), (nat_lit 6, nat_lit 3, [(nat_lit 4, (.ofNat (nat_lit 0))), (nat_lit 0, (.ofNat (nat_lit 0)))]), (nat_lit 6, nat_lit 0, [(nat_lit 5, (.ofNat (nat_lit 0))), (nat_lit 0, (.ofNat (nat_lit 3)))]), (nat_lit 4, nat_lit 0, [(nat_lit 0, (.ofNat (nat_lit 0))), (nat_lit 0, (.ofNat (nat_lit 8)))]), (nat_lit 6, nat_lit 2, [(nat_lit 4, (.ofNat (nat_lit 0))), (nat_lit 0, (.ofNat (nat_lit 0)))]), (nat_lit 8, nat_lit 7, []), (nat_lit 6, nat_lit 0, [(nat_lit 3, (.ofNat (nat_lit 0))), (nat_lit 0, (.ofNat (nat_lit 0)))]), (nat_lit 4, nat_lit 1, [(nat_lit 0, (.ofNat (nat_lit 0))), (nat_lit 0, (.ofNat (nat_lit 46)))]), (nat_lit 6, nat_lit 1, [(nat_lit 2, (.ofNat (nat_lit 0))), (nat_lit 0, (.ofNat (nat_lit 0)))]), (nat_lit 8, nat_lit 4, [(nat_lit 0, (.ofNat (nat_lit 12)))]), (nat_lit 6, nat_lit 0, [(nat_lit 1, (.ofNat (nat_lit 0))), (nat_lit 0, (.ofNat (nat_lit 0)))]), (nat_lit 8, nat_lit 0, [(nat_lit 0, (.ofNat (nat_lit 40)))])],
  [(nat_lit 7, nat_lit 2, [(nat_lit 0, (.ofNat (nat_lit 0)))]), (nat_lit 8, nat_lit 8, [(nat_lit 0, (.ofNat (nat_lit 0))), (nat_lit 8, (.ofNat (nat_lit 0))), (nat_lit 0, (.ofNat (nat_lit 0)))]), (nat_lit 4, nat_lit 0, [(nat_lit 0, (.ofNat (nat_lit 0))), (nat_lit 0, (.ofNat (nat_lit 9)))]), (nat_lit 6, nat_lit 2, [(nat_lit 4, (.ofNat (nat_lit 0))), (nat_lit 0, (.ofNat (nat_lit 0)))]), (nat_lit 6, nat_lit 2, [(nat_lit 4, (.ofNat (nat_lit 0))), (nat_lit 0, (.ofNat (nat_lit 0)))]), (nat_lit 6, nat_lit 1, [(nat_lit 7, (.ofNat (nat_lit 0))), (nat_lit 0, (.ofNat (nat_lit 0)))]), (nat_lit 8, nat_lit 5, []), (nat_lit 6, nat_lit 5, [(nat_lit 6, (.ofNat (nat_lit 0))), (nat_lit 0, (.ofNat (nat_lit 9999)))]), (nat_lit 4, nat_lit 0, [(nat_lit 0, (.ofNat (nat_lit 0))), (nat_lit 0, (.ofNat (nat_lit 9)))]), (nat_lit 6, nat_lit 2, [(nat_lit 4, (.ofNat (nat_lit 0))), (nat_lit 0, (.ofNat (nat_lit 0)))]), (nat_lit 6, nat_lit 0, [(nat_lit 5, (.ofNat (nat_lit 0))), (nat_lit 0, (.ofNat (nat_lit 3)))]), (nat_lit 4, nat_lit 0, [(nat_lit 0, (.ofNat (nat_lit 0))), (nat_lit 0, (.ofNat (nat_lit 8)))]), (nat_lit 6, nat_lit 2, [(nat_lit 4, (.ofNat (nat_lit 0))), (nat_lit 0, (.ofNat (nat_lit 0)))]), (nat_lit 8, nat_lit 7, []), (nat_lit 6, nat_lit 0, [(nat_lit 3, (.ofNat (nat_lit 0))), (nat_lit 0, (.ofNat (nat_lit 0)))]), (nat_lit 4, nat_lit 1, [(nat_lit 0, (.ofNat (nat_lit 0))), (nat_lit 0, (.ofNat (nat_lit 46)))]), (nat_lit 6, nat_lit 1, [(nat_lit 2, (.ofNat (nat_lit 0))), (nat_lit 0, (.ofNat (nat_lit 0)))]), (nat_lit 8, nat_lit 4, [(nat_lit 0, (.ofNat (nat_lit 12)))]), (nat_lit 6, nat_lit 0, [(nat_lit 1, (.ofNat (nat_lit 0))), (nat_lit 0, (.ofNat (nat_lit 0)))]), (nat_lit 8, nat_lit 0, [(nat_lit 0, (.ofNat (nat_lit 40)))])],
  [(nat_lit 7, nat_lit 2, [(nat_lit 0, (.ofNat (nat_lit 1)))]), (nat_lit 8, nat_lit 3, []), (nat_lit 5, nat_lit 1, [(nat_lit 0, (.ofNat (nat_lit 0))), (nat_lit 0, (.ofNat (nat_lit 45))), (nat_lit 0, (.ofNat (nat_lit 0)))]), (nat_lit 8, nat_lit 8, [(nat_lit 0, (.ofNat (nat_lit 0))), (nat_lit 8, (.ofNat (nat_lit 0))), (nat_lit 0, (.ofNat (nat_lit 0)))]), (nat_lit 4, nat_lit 0, [(nat_lit 0, (.ofNat (nat_lit 0))), (nat_lit 0, (.ofNat (nat_lit 9)))]), (nat_lit 6, nat_lit 2, [(nat_lit 4, (.ofNat (nat_lit 0))), (nat_lit 0, (.ofNat (nat_lit 0)))]), (nat_lit 6, nat_lit 2, [(nat_lit 4, (.ofNat (nat_lit 0))), (nat_lit 0, (.ofNat (nat_lit 0)))]), (nat_lit 6, nat_lit 1, [(nat_lit 7, (.ofNat (nat_lit 0))), (nat_lit 0, (.ofNat (nat_lit 0)))]), (nat_lit 8, nat_lit 5, []), (nat_lit 6, nat_lit 5, [(nat_lit 6, (.ofNat (nat_lit 0))), (nat_lit 0, (.ofNat (nat_lit 9999)))]), (nat_lit 4, nat_lit 0, [(nat_lit 0, (.ofNat (nat_lit 0))), (nat_lit 0, (.ofNat (nat_lit 9)))]), (nat_lit 6, nat_lit 2, [(nat_lit 4, (.ofNat (nat_lit 0))), (nat_lit 0, (.ofNat (nat_lit 0)))]), (nat_lit 6, nat_lit 0, [(nat_lit 5, (.ofNat (nat_lit 0))), (nat_lit 0, (.ofNat (nat_lit 3)))]), (nat_lit 4, nat_lit 0, [(nat_lit 0, (.ofNat (nat_lit 0))), (nat_lit 0, (.ofNat (nat_lit 8)))]), (nat_lit 6, nat_lit 2, [(nat_lit 4, (.ofNat (nat_lit 0))), (nat_lit 0, (.ofNat (nat_lit 0)))]), (nat_lit 8, nat_lit 7, []), (nat_lit 6, nat_lit 0, [(nat_lit 3, (.ofNat (nat_lit 0))), (nat_lit 0, (.ofNat (nat_lit 0)))]), (nat_lit 4, nat_lit 1, [(nat_lit 0, (.ofNat (nat_lit 0))), (nat_lit 0, (.ofNat (nat_lit 46)))]), (nat_lit 6, nat_lit 1, [(nat_lit 2, (.ofNat (nat_lit 0))), (nat_lit 0, (.ofNat (nat_lit 0)))]), (nat_lit 8, nat_lit 4, [(nat_lit 0, (.ofNat (nat_lit 12)))]), (nat_lit 6, nat_lit 0, [(nat_lit 1, (.ofNat (nat_lit 0))), (nat_lit 0, (.ofNat (nat_lit 0)))]), (nat_lit 8, nat_lit 0, [(nat_lit 0, (.ofNat (nat_lit 40)))])],
  [(nat_lit 7, nat_lit 3, []), (nat_lit 6, nat_lit 3, [(nat_lit 4, (.ofNat (nat_lit 0))), (nat_lit 0, (.ofNat (nat_lit 0)))]), (nat_lit 6, nat_lit 2, [(nat_lit 4, (.ofNat (nat_lit 0))), (nat_lit 0, (.ofNat (nat_lit 0)))]), (nat_lit 6, nat_lit 1, [(nat_lit 7, (.ofNat (nat_lit 0))), (nat_lit 0, (.ofNat (nat_lit 0)))]), (nat_lit 8, nat_lit 5, []), (nat_lit 6, nat_lit 5, [(nat_lit 6, (.ofNat (nat_lit 0))), (nat_lit 0, (.ofNat (nat_lit 9999)))]), (nat_lit 4, nat_lit 0, [(nat_lit 0, (.ofNat (nat_lit 0))), (nat_lit 0, (.ofNat (nat_lit 9)))]), (nat_lit 6, nat_lit 2, [(nat_lit 4, (.ofNat (nat_lit 0))), (nat_lit 0, (.ofNat (nat_lit 0)))]), (nat_lit 6, nat_lit 0, [(nat_lit 5, (.ofNat (nat_lit 0))), (nat_lit 0, (.ofNat (nat_lit 3)))]), (nat_lit 4, nat_lit 0, [(nat_lit 0, (.ofNat (nat_lit 0))), (nat_lit 0, (.ofNat (nat_lit 8)))]), (nat_lit 6, nat_lit 2, [(nat_lit 4, (.ofNat (nat_lit 0))), (nat_lit 0, (.ofNat (nat_lit 0)))]), (nat_lit 8, nat_lit 7, []), (nat_lit 6, nat_lit 0, [(nat_lit 3, (.ofNat (nat_lit 0))), (nat_lit 0, (.ofNat (nat_lit 0)))]), (nat_lit 4, nat_lit 1, [(nat_lit 0, (.ofNat (nat_lit 0))), (nat_lit 0, (.ofNat (nat_lit 46)))]), (nat_lit 6, nat_lit 1, [(nat_lit 2, (.ofNat (nat_lit 0))), (nat_lit 0, (.ofNat (nat_lit 0)))]), (nat_lit 8, nat_lit 4, [(nat_lit 0, (.ofNat (nat_lit 12)))]), (nat_lit 6, nat_lit 0, [(nat_lit 1, (.ofNat (nat_lit 0))), (nat_lit 0, (.ofNat (nat_lit 0)))]), (nat_lit 8, nat_lit 0, [(nat_lit 0, (.ofNat (nat_lit 40)))])],
  [(nat_lit 7, nat_lit 3, []), (nat_lit 6, nat_lit 3, [(nat_lit 4, (.ofNat (nat_lit 0))), (nat_lit 0, (.ofNat (nat_lit 0)))]), (nat_lit 6, nat_lit 1, [(nat_lit 7, (.ofNat (nat_lit 0))), (nat_lit 0, (.ofNat (nat_lit 0)))]), (nat_lit 8, nat_lit 5, []), (nat_lit 6, nat_lit 5, [(nat_lit 6, (.ofNat (nat_lit 0))), (nat_lit 0, (.ofNat (nat_lit 9999)))]), (nat_lit 4, nat_lit 0, [(nat_lit 0, (.ofNat (nat_lit 0))), (nat_lit 0, (.ofNat (nat_lit 9)))]), (nat_lit 6, nat_lit 2, [(nat_lit 4, (.ofNat (nat_lit 0))), (nat_lit 0, (.ofNat (nat_lit 0)))]), (nat_lit 6, nat_lit 0, [(nat_lit 5, (.ofNat (nat_lit 0))), (nat_lit 0, (.ofNat (nat_lit 3)))]), (nat_lit 4, nat_lit 0, [(nat_lit 0, (.ofNat (nat_lit 0))), (nat_lit 0, (.ofNat (nat_lit 8)))]), (nat_lit 6, nat_lit 2, [(nat_lit 4, (.ofNat (nat_lit 0))), (nat_lit 0, (.ofNat (nat_lit 0)))]), (nat_lit 8, nat_lit 7, []), (nat_lit 6, nat_lit 0, [(nat_lit 3, (.ofNat (nat_lit 0))), (nat_lit 0, (.ofNat (nat_lit 0)))]), (nat_lit 4, nat_lit 1, [(nat_lit 0, (.ofNat (nat_lit 0))), (nat_lit 0, (.ofNat (nat_lit 46)))]), (nat_lit 6, nat_lit 1, [(nat_lit 2, (.ofNat (nat_lit 0))), (nat_lit 0, (.ofNat (nat_lit 0)))]), (nat_lit 8, nat_lit 4, [(nat_lit 0, (.ofNat (nat_lit 12)))]), (nat_lit 6, nat_lit 0, [(nat_lit 1, (.ofNat (nat_lit 0))), (nat_lit 0, (.ofNat (nat_lit 0)))]), (nat_lit 8, nat_lit 0, [(nat_lit 0, (.ofNat (nat_lit 40)))])],
  [(nat_lit 7, nat_lit 2, [(nat_lit 0, (.ofNat (nat_lit 0)))]), (nat_lit 6, nat_lit 0, [(nat_lit 7, (.ofNat (nat_lit 0))), (nat_lit 0, (.ofNat (nat_lit 0)))]), (nat_lit 8, nat_lit 5, []), (nat_lit 6, nat_lit 5, [(nat_lit 6, (.ofNat (nat_lit 0))), (nat_lit 0, (.ofNat (nat_lit 9999)))]), (nat_lit 4, nat_lit 0, [(nat_lit 0, (.ofNat (nat_lit 0))), (nat_lit 0, (.ofNat (nat_lit 9)))]), (nat_lit 6, nat_lit 2, [(nat_lit 4, (.ofNat (nat_lit 0))), (nat_lit 0, (.ofNat (nat_lit 0)))]), (nat_lit 6, nat_lit 0, [(nat_lit 5, (.ofNat (nat_lit 0))), (nat_lit 0, (.ofNat (nat_lit 3)))]), (nat_lit 4, nat_lit 0, [(nat_lit 0, (.ofNat (nat_lit 0))), (nat_lit 0, (.ofNat (nat_lit 8)))]), (nat_lit 6, nat_lit 2, [(nat_lit 4, (.ofNat (nat_lit 0))), (nat_lit 0, (.ofNat (nat_lit 0)))]), (nat_lit 8, nat_lit 7, []), (nat_lit 6, nat_lit 0, [(nat_lit 3, (.ofNat (nat_lit 0))), (nat_lit 0, (.ofNat (nat_lit 0)))]), (nat_lit 4, nat_lit 1, [(nat_lit 0, (.ofNat (nat_lit 0))), (nat_lit 0, (.ofNat (nat_lit 46)))]), (nat_lit 6, nat_lit 1, [(nat_lit 2, (.ofNat (nat_lit 0))), (nat_lit 0, (.ofNat (nat_lit 0)))]), (nat_lit 8, nat_lit 4, [(nat_lit 0, (.ofNat (nat_lit 12)))]), (nat_lit 6, nat_lit 0, [(nat_lit 1, (.ofNat (nat_lit 0))), (nat_lit 0, (.ofNat (nat_lit 0)))]), (nat_lit 8, nat_lit 0, [(nat_lit 0, (.ofNat (nat_lit 40)))])],
  [(nat_lit 7, nat_lit 2, [(nat_lit 7, (.ofNat (nat_lit 0)))]), (nat_lit 8, nat_lit 1, [(nat_lit 0, (.ofNat (nat_lit 2)))]), (nat_lit 6, nat_lit 4, [(nat_lit 6, (.ofNat (nat_lit 0))), (nat_lit 0, (.ofNat (nat_lit 9999)))]), (nat_lit 4, nat_lit 0, [(nat_lit 0, (.ofNat (nat_lit 0))), (nat_lit 0, (.ofNat (nat_lit 9)))]), (nat_lit 6, nat_lit 2, [(nat_lit 4, (.ofNat (nat_lit 0))), (nat_lit 0, (.ofNat (nat_lit 0)))]), (nat_lit 6, nat_lit 0, [(nat_lit 5, (.ofNat (nat_lit 0))), (nat_lit 0, (.ofNat (nat_lit 3)))]), (nat_lit 4, nat_lit 0, [(nat_lit 0, (.ofNat (nat_lit 0))), (nat_lit 0, (.ofNat (nat_lit 8)))]), (nat_lit 6, nat_lit 2, [(nat_lit 4, (.ofNat (nat_lit 0))), (nat_lit 0, (.ofNat (nat_lit 0)))]), (nat_lit 8, nat_lit 7, []), (nat_lit 6, nat_lit 0, [(nat_lit 3, (.ofNat (nat_lit 0))), (nat_lit 0, (.ofNat (nat_lit 0)))]), (nat_lit 4, nat_lit 1, [(nat_lit 0, (.ofNat (nat_lit 0))), (nat_lit 0, (.ofNat (nat_lit 46)))]), (nat_lit 6, nat_lit 1, [(nat_lit 2, (.ofNat (nat_lit 0))), (nat_lit 0, (.ofNat (nat_lit 0)))]), (nat_lit 8, nat_lit 4, [(nat_lit 0, (.ofNat (nat_lit 12)))]), (nat_lit 6, nat_lit 0, [(nat_lit 1, (.ofNat (nat_lit 0))), (nat_lit 0, (.ofNat (nat_lit 0)))]), (nat_lit 8, nat_lit 0, [(nat_lit 0, (.ofNat (nat_lit 40)))])],
  [(nat_lit 7, nat_lit 2, [(nat_lit 6, (.ofNat (nat_lit 0)))]), (nat_lit 8, nat_lit 1, [(nat_lit 0, (.ofNat (nat_lit 1)))]), (nat_lit 6, nat_lit 1, [(nat_lit 5, (.ofNat (nat_lit 0))), (nat_lit 0, (.ofNat (nat_lit 3)))]), (nat_lit 4, nat_lit 0, [(nat_lit 0, (.ofNat (nat_lit 0))), (nat_lit 0, (.ofNat (nat_lit 8)))]), (nat_lit 6, nat_lit 2, [(nat_lit 4, (.ofNat (nat_lit 0))), (nat_lit 0, (.ofNat (nat_lit 0)))]), (nat_lit 8, nat_lit 7, []), (nat_lit 6, nat_lit 0, [(nat_lit 3, (.ofNat (nat_lit 0))), (nat_lit 0, (.ofNat (nat_lit 0)))]), (nat_lit 4, nat_lit 1, [(nat_lit 0, (.ofNat (nat_lit 0))), (nat_lit 0, (.ofNat (nat_lit 46)))]), (nat_lit 6, nat_lit 1, [(nat_lit 2, (.ofNat (nat_lit 0))), (nat_lit 0, (.ofNat (nat_lit 0)))]), (nat_lit 8, nat_lit 4, [(nat_lit 0, (.ofNat (nat_lit 12)))]), (nat_lit 6, nat_lit 0, [(nat_lit 1, (.ofNat (nat_lit 0))), (nat_lit 0, (.ofNat (nat_lit 0)))]), (nat_lit 8, nat_lit 0, [(nat_lit 0, (.ofNat (nat_lit 40)))])],
  [(nat_lit 7, nat_lit 2, [(nat_lit 0, (.ofNat (nat_lit 1)))]), (nat_lit 8, nat_lit 3, []), (nat_lit 8, nat_lit 6, []), (nat_lit 6, nat_lit 1, [(nat_lit 4, (.ofNat (nat_lit 0))), (nat_lit 0, (.ofNat (nat_lit 0)))]), (nat_lit 8, nat_lit 5, []), (nat_lit 6, nat_lit 1, [(nat_lit 3, (.ofNat (nat_lit 0))), (nat_lit 0, (.ofNat (nat_lit 0)))]), (nat_lit 4, nat_lit 1, [(nat_lit 0, (.ofNat (nat_lit 0))), (nat_lit 0, (.ofNat (nat_lit 46)))]), (nat_lit 6, nat_lit 1, [(nat_lit 2, (.ofNat (nat_lit 0))), (nat_lit 0, (.ofNat (nat_lit 0)))]), (nat_lit 8, nat_lit 4, [(nat_lit 0, (.ofNat (nat_lit 12)))]), (nat_lit 6, nat_lit 0, [(nat_lit 1, (.ofNat (nat_lit 0))), (nat_lit 0, (.ofNat (nat_lit 0)))]), (nat_lit 8, nat_lit 0, [(nat_lit 0, (.ofNat (nat_lit 40)))])],
  [(nat_lit 7, nat_lit 2, [(nat_lit 0, (.ofNat (nat_lit 0)))]), (nat_lit 6, nat_lit 0, [(nat_lit 4, (.ofNat (nat_lit 0))), (nat_lit 0, (.ofNat (nat_lit 0)))]), (nat_lit 8, nat_lit 5, []), (nat_lit 6, nat_lit 1, [(nat_lit 3, (.ofNat (nat_lit 0))), (nat_lit 0, (.ofNat (nat_lit 0)))]), (nat_lit 4, nat_lit 1, [(nat_lit 0, (.ofNat (nat_lit 0))), (nat_lit 0, (.ofNat (nat_lit 46)))]), (nat_lit 6, nat_lit 1, [(nat_lit 2, (.ofNat (nat_lit 0))), (nat_lit 0, (.ofNat (nat_lit 0)))]), (nat_lit 8, nat_lit 4, [(nat_lit 0, (.ofNat (nat_lit 12)))]), (nat_lit 6, nat_lit 0, [(nat_lit 1, (.ofNat (nat_lit 0))), (nat_lit 0, (.ofNat (nat_lit 0)))]), (nat_lit 8, nat_lit 0, [(nat_lit 0, (.ofNat (nat_lit 40)))])],
  [(nat_lit 7, nat_lit 2, [(nat_lit 0, (.ofNat (nat_lit 1)))]), (nat_lit 8, nat_lit 2, []), (nat_lit 5, nat_lit 0, [(nat_lit 0, (.ofNat (nat_lit 0))), (nat_lit 0, (.ofNat (nat_lit 43))), (nat_lit 4, (.ofNat (nat_lit 0)))]), (nat_lit 0, nat_lit 1, [(nat_lit 3, (.ofNat (nat_lit 0))), (nat_lit 0, (.ofNat (nat_lit 1)))]), (nat_lit 4, nat_lit 0, [(nat_lit 0, (.ofNat (nat_lit 0))), (nat_lit 0, (.ofNat (nat_lit 43)))]), (nat_lit 6, nat_lit 1, [(nat_lit 2, (.ofNat (nat_lit 0))), (nat_lit 0, (.ofNat (nat_lit 8)))]), (nat_lit 4, nat_lit 0, [(nat_lit 0, (.ofNat (nat_lit 0))), (nat_lit 0, (.ofNat (nat_lit 43)))]), (nat_lit 6, nat_lit 1, [(nat_lit 1, (.ofNat (nat_lit 0))), (nat_lit 0, (.ofNat (nat_lit 0)))]), (nat_lit 8, nat_lit 0, [(nat_lit 0, (.ofNat (nat_lit 40)))])],
  [(nat_lit 7, nat_lit 2, [(nat_lit 0, (.ofNat (nat_lit 1)))]), (nat_lit 8, nat_lit 3, []), (nat_lit 5, nat_lit 1, [(nat_lit 0, (.ofNat (nat_lit 0))), (nat_lit 0, (.ofNat (nat_lit 46))), (nat_lit 0, (.ofNat (nat_lit 1)))]), (nat_lit 8, nat_lit 2, []), (nat_lit 5, nat_lit 0, [(nat_lit 0, (.ofNat (nat_lit 0))), (nat_lit 0, (.ofNat (nat_lit 43))), (nat_lit 4, (.ofNat (nat_lit 0)))]), (nat_lit 0, nat_lit 1, [(nat_lit 3, (.ofNat (nat_lit 0))), (nat_lit 0, (.ofNat (nat_lit 1)))]), (nat_lit 4, nat_lit 0, [(nat_lit 0, (.ofNat (nat_lit 0))), (nat_lit 0, (.ofNat (nat_lit 43)))]), (nat_lit 6, nat_lit 1, [(nat_lit 2, (.ofNat (nat_lit 0))), (nat_lit 0, (.ofNat (nat_lit 8)))]), (nat_lit 4, nat_lit 0, [(nat_lit 0, (.ofNat (nat_lit 0))), (nat_lit 0, (.ofNat (nat_lit 43)))]), (nat_lit 6, nat_lit 1, [(nat_lit 1, (.ofNat (nat_lit 0))), (nat_lit 0, (.ofNat (nat_lit 0)))]), (nat_lit 8, nat_lit 0, [(nat_lit 0, (.ofNat (nat_lit 40)))])],
  [(nat_lit 7, nat_lit 2, [(nat_lit 3, (.ofNat (nat_lit 0)))]), (nat_lit 8, nat_lit 1, [(nat_lit 0, (.ofNat (nat_lit 2)))]), (nat_lit 6, nat_lit 0, [(nat_lit 2, (.ofNat (nat_lit 0))), (nat_lit 0, (.ofNat (nat_lit 8)))]), (nat_lit 4, nat_lit 0, [(nat_lit 0, (.ofNat (nat_lit 0))), (nat_lit 0, (.ofNat (nat_lit 43)))]), (nat_lit 6, nat_lit 1, [(nat_lit 1, (.ofNat (nat_lit 0))), (nat_lit 0, (.ofNat (nat_lit 0)))]), (nat_lit 8, nat_lit 0, [(nat_lit 0, (.ofNat (nat_lit 40)))])]]
def zEl_leafRead : List (List zK) := [[(nat_lit 13, nat_lit 0, [(nat_lit 0, (.ofNat (nat_lit 40)))])],
  [(nat_lit 13, nat_lit 4, [(nat_lit 0, (.ofNat (nat_lit 12)))]), (nat_lit 6, nat_lit 0, [(nat_lit 1, (.ofNat (nat_lit 0))), (nat_lit 0, (.ofNat (nat_lit 0)))]), (nat_lit 8, nat_lit 0, [(nat_lit 0, (.ofNat (nat_lit 40)))])],
  [(nat_lit 13, nat_lit 7, []), (nat_lit 6, nat_lit 0, [(nat_lit 2, (.ofNat (nat_lit 0))), (nat_lit 0, (.ofNat (nat_lit 0)))]), (nat_lit 8, nat_lit 4, [(nat_lit 0, (.ofNat (nat_lit 12)))]), (nat_lit 6, nat_lit 0, [(nat_lit 1, (.ofNat (nat_lit 0))), (nat_lit 0, (.ofNat (nat_lit 0)))]), (nat_lit 8, nat_lit 0, [(nat_lit 0, (.ofNat (nat_lit 40)))])],
  [(nat_lit 13, nat_lit 5, []), (nat_lit 6, nat_lit 3, [(nat_lit 3, (.ofNat (nat_lit 0))), (nat_lit 0, (.ofNat (nat_lit 0)))]), (nat_lit 6, nat_lit 3, [(nat_lit 3, (.ofNat (nat_lit 0))), (nat_lit 0, (.ofNat (nat_lit 0)))]), (nat_lit 8, nat_lit 7, []), (nat_lit 6, nat_lit 0, [(nat_lit 2, (.ofNat (nat_lit 0))), (nat_lit 0, (.ofNat (nat_lit 0)))]), (nat_lit 8, nat_lit 4, [(nat_lit 0, (.ofNat (nat_lit 12)))]), (nat_lit 6, nat_lit 0, [(nat_lit 1, (.ofNat (nat_lit 0))), (nat_lit 0, (.ofNat (nat_lit 0)))]), (nat_lit 8, nat_lit 0, [(nat_lit 0, (.ofNat (nat_lit 40)))])],
  [(nat_lit 13, nat_lit 8, [(nat_lit 0, (.ofNat (nat_lit 1))), (nat_lit 3, (.ofNat (nat_lit 0))), (nat_lit 0, (.ofNat (nat_lit 0)))]), (nat_lit 6, nat_lit 3, [(nat_lit 3, (.ofNat (nat_lit 0))), (nat_lit 0, (.ofNat (nat_lit 0)))]), (nat_lit 6, nat_lit 3, [(nat_lit 3, (.ofNat (nat_lit 0))), (nat_lit 0, (.ofNat (nat_lit 0)))]), (nat_lit 6, nat_lit 1, [(nat_lit 4, (.ofNat (nat_lit 0))), (nat_lit 0, (.ofNat (nat_lit 0)))]), (nat_lit 8, nat_lit 5, []), (nat_lit 6, nat_lit 3, [(nat_lit 3, (.ofNat (nat_lit 0))), (nat_lit 0, (.ofNat (nat_lit 0)))]), (nat_lit 6, nat_lit 3, [(nat_lit 3, (.ofNat (nat_lit 0))), (nat_lit 0, (.ofNat (nat_lit 0)))]), (nat_lit 8, nat_lit 7, []), (nat_lit 6, nat_lit 0, [(nat_lit 2, (.ofNat (nat_lit 0))), (nat_lit 0, (.ofNat (nat_lit 0)))]), (nat_lit 8, nat_lit 4, [(nat_lit 0, (.ofNat (nat_lit 12)))]), (nat_lit 6, nat_lit 0, [(nat_lit 1, (.ofNat (nat_lit 0))), (nat_lit 0, (.ofNat (nat_lit 0)))]), (nat_lit 8, nat_lit 0, [(nat_lit 0, (.ofNat (nat_lit 40)))])],
  [(nat_lit 13, nat_lit 3, []), (nat_lit 5, nat_lit 1, [(nat_lit 0, (.ofNat (nat_lit 0))), (nat_lit 0, (.ofNat (nat_lit 45))), (nat_lit 0, (.ofNat (nat_lit 0)))]), (nat_lit 8, nat_lit 8, [(nat_lit 0, (.ofNat (nat_lit 1))), (nat_lit 3, (.ofNat (nat_lit 0))), (nat_lit 0, (.ofNat (nat_lit 0)))]), (nat_lit 6, nat_lit 3, [(nat_lit 3, (.ofNat (nat_lit 0))), (nat_lit 0, (.ofNat (nat_lit 0)))]), (nat_lit 6, nat_lit 3, [(nat_lit 3, (.ofNat (nat_lit 0))), (nat_lit 0, (.ofNat (nat_lit 0)))]), (nat_lit 6, nat_lit 1, [(nat_lit 4, (.ofNat (nat_lit 0))), (nat_lit 0, (.ofNat (nat_lit 0)))]), (nat_lit 8, nat_lit 5, []), (nat_lit 6, nat_lit 3, [(nat_lit 3, (.ofNat (nat_lit 0))), (nat_lit 0, (.ofNat (nat_lit 0)))]), (nat_lit 6, nat_lit 3, [(nat_lit 3, (.ofNat (nat_lit 0))), (nat_lit 0, (.ofNat (nat_lit 0)))]), (nat_lit 8, nat_lit 7, []), (nat_lit 6, nat_lit 0, [(nat_lit 2, (.ofNat (nat_lit 0))), (nat_lit 0, (.ofNat (nat_lit 0)))]), (nat_lit 8, nat_lit 4, [(nat_lit 0, (.ofNat (nat_lit 12)))]), (nat_lit 6, nat_lit 0, [(nat_lit 1, (.ofNat (nat_lit 0))), (nat_lit 0, (.ofNat (nat_lit 0)))]), (nat_lit 8, nat_lit 0, [(nat_lit 0, (.ofNat (nat_lit 40)))])],
  [(nat_lit 11, nat_lit 0, [(nat_lit 0, (.ofNat (nat_lit 1)))]), (nat_lit 8, nat_lit 3, []), (nat_lit 5, nat_lit 1, [(nat_lit 0, (.ofNat (nat_lit 0))), (nat_lit 0, (.ofNat (nat_lit 45))), (nat_lit 0, (.ofNat (nat_lit 0)))]), (nat_lit 8, nat_lit 8, [(nat_lit 0, (.ofNat (nat_lit 1))), (nat_lit 3, (.ofNat (nat_lit 0))), (nat_lit 0, (.ofNat (nat_lit 0)))]), (nat_lit 6, nat_lit 3, [(nat_lit 3, (.ofNat (nat_lit 0))), (nat_lit 0, (.ofNat (nat_lit 0)))]), (nat_lit 6, nat_lit 3, [(nat_lit 3, (.ofNat (nat_lit 0))), (nat_lit 0, (.ofNat (nat_lit 0)))]), (nat_lit 6, nat_lit 1, [(nat_lit 4, (.ofNat (nat_lit 0))), (nat_lit 0, (.ofNat (nat_lit 0)))]), (nat_lit 8, nat_lit 5, []), (nat_lit 6, nat_lit 3, [(nat_lit 3, (.ofNat (nat_lit 0))), (nat_lit 0, (.ofNat (nat_lit 0)))]), (nat_lit 6, nat_lit 3, [(nat_lit 3, (.ofNat (nat_lit 0))), (nat_lit 0, (.ofNat (nat_lit 0)))]), (nat_lit 8, nat_lit 7, []), (nat_lit 6, nat_lit 0, [(nat_lit 2, (.ofNat (nat_lit 0))), (nat_lit 0, (.ofNat (nat_lit 0)))]), (nat_lit 8, nat_lit 4, [(nat_lit 0, (.ofNat (nat_lit 12)))]), (nat_lit 6, nat_lit 0, [(nat_lit 1, (.ofNat (nat_lit 0))), (nat_lit 0, (.ofNat (nat_lit 0)))]), (nat_lit 8, nat_lit 0, [(nat_lit 0, (.ofNat (nat_lit 40)))])],
  [(nat_lit 11, nat_lit 0, [(nat_lit 0, (.ofNat (nat_lit 0)))]), (nat_lit 6, nat_lit 0, [(nat_lit 4, (.ofNat (nat_lit 0))), (nat_lit 0, (.ofNat (nat_lit 0)))]), (nat_lit 8, nat_lit 5, []), (nat_lit 6, nat_lit 3, [(nat_lit 3, (.ofNat (nat_lit 0))), (nat_lit 0, (.ofNat (nat_lit 0)))]), (nat_lit 6, nat_lit 3, [(nat_lit 3, (.ofNat (nat_lit 0))), (nat_lit 0, (.ofNat (nat_lit 0)))]), (nat_lit 8, nat_lit 7, []), (nat_lit 6, nat_lit 0, [(nat_lit 2, (.ofNat (nat_lit 0))), (nat_lit 0, (.ofNat (nat_lit 0)))]), (nat_lit 8, nat_lit 4, [(nat_lit 0, (.ofNat (nat_lit 12)))]), (nat_lit 6, nat_lit 0, [(nat_lit 1, (.ofNat (nat_lit 0))), (nat_lit 0, (.ofNat (nat_lit 0)))]), (nat_lit 8, nat_lit 0, [(nat_lit 0, (.ofNat (nat_lit 40)))])],
  [(nat_lit 13, nat_lit 5, []), (nat_lit 6, nat_lit 5, [(nat_lit 5, (.ofNat (nat_lit 0))), (nat_lit 0, (.ofNat (nat_lit 9999)))]), (nat_lit 4, nat_lit 0, [(nat_lit 0, (.ofNat (nat_lit 0))), (nat_lit 0, (.ofNat (nat_lit 9)))]), (nat_lit 6, nat_lit 2, [(nat_lit 3, (.ofNat (nat_lit 0))), (nat_lit 0, (.ofNat (nat_lit 0)))]), (nat_lit 6, nat_lit 0, [(nat_lit 4, (.ofNat (nat_lit 0))), (nat_lit 0, (.ofNat (nat_lit 3)))]), (nat_lit 4, nat_lit 0, [(nat_lit 0, (.ofNat (nat_lit 0))), (nat_lit 0, (.ofNat (nat_lit 8)))]), (nat_lit 6, nat_lit 2, [(nat_lit 3, (.ofNat (nat_lit 0))), (nat_lit 0, (.ofNat (nat_lit 0)))]), (nat_lit 8, nat_lit 7, []), (nat_lit 6, nat_lit 0, [(nat_lit 2, (.ofNat (nat_lit 0))), (nat_lit 0, (.ofNat (nat_lit 0)))]), (nat_lit 8, nat_lit 4, [(nat_lit 0, (.ofNat (nat_lit 12)))]), (nat_lit 6, nat_lit 0, [(nat_lit 1, (.ofNat (nat_lit 0))), (nat_lit 0, (.ofNat (nat_lit 0)))]), (nat_lit 8, nat_lit 0, [(nat_lit 0, (.ofNat (nat_lit 40)))])],
  [(nat_lit 13, nat_lit 8, [(nat_lit 0, (.ofNat (nat_lit 0))), (nat_lit 7, (.ofNat (nat_lit 0))), (nat_lit 0, (.ofNat (nat_lit 0)))]), (nat_lit 4, nat_lit 0, [(nat_lit 0, (.ofNat (nat_lit 0))), (nat_lit 0, (.ofNat (nat_lit 9)))]), (nat_lit 6, nat_lit 2, [(nat_lit 3, (.ofNat (nat_lit 0))), (nat_lit 0, (.ofNat (nat_lit 0)))]), (nat_lit 6, nat_lit 2, [(nat_lit 3, (.ofNat (nat_lit 0))), (nat_lit 0, (.ofNat (nat_lit 0)))]), (nat_lit 6, nat_lit 1, [(nat_lit 6, (.ofNat (nat_lit 0))), (nat_lit 0, (.ofNat (nat_lit 0)))]), (nat_lit 8, nat_lit 5, []), (nat_lit 6, nat_lit 5, [(nat_lit 5, (.ofNat (nat_lit 0))), (nat_lit 0, (.ofNat (nat_lit 9999)))]), (nat_lit 4, nat_lit 0, [(nat_lit 0, (.ofNat (nat_lit 0))), (nat_lit 0, (.ofNat (nat_lit 9)))]), (nat_lit 6, nat_lit 2, [(nat_lit 3, (.ofNat (nat_lit 0))), (nat_lit 0, (.ofNat (nat_lit 0)))]), (nat_lit 6, nat_lit 0, [(nat_lit 4, (.ofNat (nat_lit 0))), (nat_lit 0, (.ofNat (nat_lit 3)))]), (nat_lit 4, nat_lit 0, [(nat_lit 0, (.ofNat (nat_lit 0))), (nat_lit 0, (.ofNat (nat_lit 8)))]), (nat_lit 6, nat_lit 2, [(nat_lit 3, (.ofNat (nat_lit 0))), (nat_lit 0, (.ofNat (nat_lit 0)))]), (nat_lit 8, nat_lit 7, []), (nat_lit 6, nat_lit 0, [(nat_lit 2, (.ofNat (nat_lit 0))), (nat_lit 0, (.ofNat (nat_lit 0)))]), (nat_lit 8, nat_lit 4, [(nat_lit 0, (.ofNat (nat_lit 12)))]), (nat_lit 6, nat_lit 0, [(nat_lit 1, (.ofNat (nat_lit 0))), (nat_lit 0, (.ofNat (nat_lit 0)))]), (nat_lit 8, nat_lit 0, [(nat_lit 0, (.ofNat (nat_lit 40)))])],
  [(nat_lit 13, nat_lit 3, []), (nat_lit 5, nat_lit 1, [(nat_lit 0, (.ofNat (nat_lit 0))), (nat_lit 0, (.ofNat (nat_lit 45))), (nat_lit 0, (.ofNat (nat_lit 0)))]), (nat_lit 8, nat_lit 8, [(nat_lit 0, (.ofNat (nat_lit 0))), (nat_lit 7, (.ofNat (nat_lit 0))), (nat_lit 0, (.ofNat (nat_lit 0)))]), (nat_lit 4, nat_lit 0, [(nat_lit 0, (.ofNat (nat_lit 0))), (nat_lit 0, (.ofNat (nat_lit 9)))]), (nat_lit 6, nat_lit 2, [(nat_lit 3, (.ofNat (nat_lit 0))), (nat_lit 0, (.ofNat (nat_lit 0)))]), (nat_lit 6, nat_lit 2, [(nat_lit 3, (.ofNat (nat_lit 0))), (nat_lit 0, (.ofNat (nat_lit 0)))]), (nat_lit 6, nat_lit 1, [(nat_lit 6, (.ofNat (nat_lit 0))), (nat_lit 0, (.ofNat (nat_lit 0)))]), (nat_lit 8, nat_lit 5, []), (nat_lit 6, nat_lit 5, [(nat_lit 5, (.ofNat (nat_lit 0))), (nat_lit 0, (.ofNat (nat_lit 9999)))]), (nat_lit 4, nat_lit 0, [(nat_lit 0, (.ofNat (nat_lit 0))), (nat_lit 0, (.ofNat (nat_lit 9)))]), (nat_lit 6, nat_lit 2, [(nat_lit 3, (.ofNat (nat_lit 0))), (nat_lit 0, (.ofNat (nat_lit 0)))]), (nat_lit 6, nat_lit 0, [(nat_lit 4, (.ofNat (nat_lit 0))), (nat_lit 0, (.ofNat (nat_lit 3)))]), (nat_lit 4, nat_lit 0, [(nat_lit 0, (.ofNat (nat_lit 0))), (nat_lit 0, (.ofNat (nat_lit 8)))]), (nat_lit 6, nat_lit 2, [(nat_lit 3, (.ofNat (nat_lit 0))), (nat_lit 0, (.ofNat (nat_lit 0)))]), (nat_lit 8, nat_lit 7, []), (nat_lit 6, nat_lit 0, [(nat_lit 2, (.ofNat (nat_lit 0))), (nat_lit 0, (.ofNat (nat_lit 0)))]), (nat_lit 8, nat_lit 4, [(nat_lit 0, (.ofNat (nat_lit 12)))]), (nat_lit 6, nat_lit 0, [(nat_lit 1, (.ofNat (nat_lit 0))), (nat_lit 0, (.ofNat (nat_lit 0)))]), (nat_lit 8, nat_lit 0, [(nat_lit 0, (.ofNat (nat_lit 40)))])],
  [(nat_lit 11, nat_lit 0, [(nat_lit 0, (.ofNat (nat_lit 1)))]), (nat_lit 8, nat_lit 3, []), (nat_lit 5, nat_lit 1, [(nat_lit 0, (.ofNat (nat_lit 0))), (nat_lit 0, (.ofNat (nat_lit 45))), (nat_lit 0, (.ofNat (nat_lit 0)))]), (nat_lit 8, nat_lit 8, [(nat_lit 0, (.ofNat (nat_lit 0))), (nat_lit 7, (.ofNat (nat_lit 0))), (nat_lit 0, (.ofNat (nat_lit 0)))]), (nat_lit 4, nat_lit 0, [(nat_lit 0, (.ofNat (nat_lit 0))), (nat_lit 0, (.ofNat (nat_lit 9)))]), (nat_lit 6, nat_lit 2, [(nat_lit 3, (.ofNat (nat_lit 0))), (nat_lit 0, (.ofNat (nat_lit 0)))]), (nat_lit 6, nat_lit 2, [(nat_lit 3, (.ofNat (nat_lit 0))), (nat_lit 0, (.ofNat (nat_lit 0)))]), (nat_lit 6, nat_lit 1, [(nat_lit 6, (.ofNat (nat_lit 0))), (nat_lit 0, (.ofNat (nat_lit 0)))]), (nat_lit 8, nat_lit 5, []), (nat_lit 6, nat_lit 5, [(nat_lit 5, (.ofNat (nat_lit 0))), (nat_lit 0, (.ofNat (nat_lit 9999)))]), (nat_lit 4, nat_lit 0, [(nat_lit 0, (.ofNat (nat_lit 0))), (nat_lit 0, (.ofNat (nat_lit 9)))]), (nat_lit 6, nat_lit 2, [(nat_lit 3, (.ofNat (nat_lit 0))), (nat_lit 0, (.ofNat (nat_lit 0)))]), (nat_lit 6, nat_lit 0, [(nat_lit 4, (.ofNat (nat_lit 0))), (nat_lit 0, (.ofNat (nat_lit 3)))]), (nat_lit 4, nat_lit 0, [(nat_lit 0, (.ofNat (nat_lit 0))), (nat_lit 0, (.ofNat (nat_lit 8)))]), (nat_lit 6, nat_lit 2, [(nat_lit 3, (.ofNat (nat_lit 0))), (nat_lit 0, (.ofNat (nat_lit 0)))]), (nat_lit 8, nat_lit 7, []), (nat_lit 6, nat_lit 0, [(nat_lit 2, (.ofNat (nat_lit 0))), (nat_lit 0, (.ofNat (nat_lit 0)))]), (nat_lit 8, nat_lit 4, [(nat_lit 0, (.ofNat (nat_lit 12)))]), (nat_lit 6, nat_lit 0, [(nat_lit 1, (.ofNat (nat_lit 0))), (nat_lit 0, (.ofNat (nat_lit 0)))]), (nat_lit 8, nat_lit 0, [(nat_lit 0, (.ofNat (nat_lit 40)))])],
  [(nat_lit 11, nat_lit 0, [(nat_lit 0, (.ofNat (nat_lit 0)))]), (nat_lit 6, nat_lit 0, [(nat_lit 6, (.ofNat (nat_lit 0))), (nat_lit 0, (.ofNat (nat_lit 0)))]), (nat_lit 8, nat_lit 5, []), (nat_lit 6, nat_lit 5, [(nat_lit 5, (.ofNat (nat_lit 0))), (nat_lit 0, (.ofNat (nat_lit 9999)))]), (nat_lit 4, nat_lit 0, [(nat_lit 0, (.ofNat (nat_lit 0))), (nat_lit 0, (.ofNat (nat_lit 9)))]), (nat_lit 6, nat_lit 2, [(nat_lit 3, (.ofNat (nat_lit 0))), (nat_lit 0, (.ofNat (nat_lit 0)))]), (nat_lit 6, nat_lit 0, [(nat_lit 4, (.ofNat (nat_lit 0))), (nat_lit 0, (.ofNat (nat_lit 3)))]), (nat_lit 4, nat_lit 0, [(nat_lit 0, (.ofNat (nat_lit 0))), (nat_lit 0, (.ofNat (nat_lit 8)))]), (nat_lit 6, nat_lit 2, [(nat_lit 3, (.ofNat (nat_lit 0))), (nat_lit 0, (.ofNat (nat_lit 0)))]), (nat_lit 8, nat_lit 7, []), (nat_lit 6, nat_lit 0, [(nat_lit 2, (.ofNat (nat_lit 0))), (nat_lit 0, (.ofNat (nat_lit 0)))]), (nat_lit 8, nat_lit 4, [(nat_lit 0, (.ofNat (nat_lit 12)))]), (nat_lit 6, nat_lit 0, [(nat_lit 1, (.ofNat (nat_lit 0))), (nat_lit 0, (.ofNat (nat_lit 0)))]), (nat_lit 8, nat_lit 0, [(nat_lit 0, (.ofNat (nat_lit 40)))])],
  [(nat_lit 13, nat_lit 1, [(nat_lit 0, (.ofNat (nat_lit 2)))]), (nat_lit 6, nat_lit 4, [(nat_lit 5, (.ofNat (nat_lit 0))), (nat_lit 0, (.ofNat (nat_lit 9999)))]), (nat_lit 4, nat_lit 0, [(nat_lit 0, (.ofNat (nat_lit 0))), (nat_lit 0, (.ofNat (nat_lit 9)))]), (nat_lit 6, nat_lit 2, [(nat_lit 3, (.ofNat (nat_lit 0))), (nat_lit 0, (.ofNat (nat_lit 0)))]), (nat_lit 6, nat_lit 0, [(nat_lit 4, (.ofNat (nat_lit 0))), (nat_lit 0, (.ofNat (nat_lit 3)))]), (nat_lit 4, nat_lit 0, [(nat_lit 0, (.ofNat (nat_lit 0))), (nat_lit 0, (.ofNat (nat_lit 8)))]), (nat_lit 6, nat_lit 2, [(nat_lit 3, (.ofNat (nat_lit 0))), (nat_lit 0, (.ofNat (nat_lit 0)))]), (nat_lit 8, nat_lit 7, []), (nat_lit 6, nat_lit 0, [(nat_lit 2, (.ofNat (nat_lit 0))), (nat_lit 0, (.ofNat (nat_lit 0)))]), (nat_lit 8, nat_lit 4, [(nat_lit 0, (.ofNat (nat_lit 12)))]), (nat_lit 6, nat_lit 0, [(nat_lit 1, (.ofNat (nat_lit 0))), (nat_lit 0, (.ofNat (nat_lit 0)))]), (nat_lit 8, nat_lit 0, [(nat_lit 0, (.ofNat (nat_lit 40)))])],
  [(nat_lit 11, nat_lit 0, [(nat_lit 6, (.ofNat (nat_lit 0)))]), (nat_lit 8, nat_lit 1, [(nat_lit 0, (.ofNat (nat_lit 2)))]), (nat_lit 6, nat_lit 4, [(nat_lit 5, (.ofNat (nat_lit 0))), (nat_lit 0, (.ofNat (nat_lit 9999)))]), (nat_lit 4, nat_lit 0, [(nat_lit 0, (.ofNat (nat_lit 0))), (nat_lit 0, (.ofNat (nat_lit 9)))]), (nat_lit 6, nat_lit 2, [(nat_lit 3, (.ofNat (nat_lit 0))), (nat_lit 0, (.ofNat (nat_lit 0)))]), (nat_lit 6, nat_lit 0, [(nat_lit 4, (.ofNat (nat_lit 0))), (nat_lit 0, (.ofNat (nat_lit 3)))]), (nat_lit 4, nat_lit 0, [(nat_lit 0, (.ofNat (nat_lit 0))), (nat_lit 0, (.ofNat (nat_lit 8)))]), (nat_lit 6, nat_lit 2, [(nat_lit 3, (.ofNat (nat_lit 0))), (nat_lit 0, (.ofNat (nat_lit 0)))]), (nat_lit 8, nat_lit 7, []), (nat_lit 6, nat_lit 0, [(nat_lit 2, (.ofNat (nat_lit 0))), (nat_lit 0, (.ofNat (nat_lit 0)))]), (nat_lit 8, nat_lit 4, [(nat_lit 0, (.ofNat (nat_lit 12)))]), (nat_lit 6, nat_lit 0, [(nat_lit 1, (.ofNat (nat_lit 0))), (nat_lit 0, (.ofNat (nat_lit 0)))]), (nat_lit 8, nat_lit 0, [(nat_lit 0, (.ofNat (nat_lit 40)))])],
  [(nat_lit 13, nat_lit 1, [(nat_lit 0, (.ofNat (nat_lit 1)))]), (nat_lit 6, nat_lit 1, [(nat_lit 4, (.ofNat (nat_lit 0))), (nat_lit 0, (.ofNat (nat_lit 3)))]), (nat_lit 4, nat_lit 0, [(nat_lit 0, (.ofNat (nat_lit 0))), (nat_lit 0, (.ofNat (nat_lit 8)))]), (nat_lit 6, nat_lit 2, [(nat_lit 3, (.ofNat (nat_lit 0))), (nat_lit 0, (.ofNat (nat_lit 0)))]), (nat_lit 8, nat_lit 7, []), (nat_lit 6, nat_lit 0, [(nat_lit 2, (.ofNat (nat_lit 0))), (nat_lit 0, (.ofNat (nat_lit 0)))]), (nat_lit 8, nat_lit 4, [(nat_lit 0, (.ofNat (nat_lit 12)))]), (nat_lit 6, nat_lit 0, [(nat_lit 1, (.ofNat (nat_lit 0))), (nat_lit 0, (.ofNat (nat_lit 0)))]), (nat_lit 8, nat_lit 0, [(nat_lit 0, (.ofNat (nat_lit 40)))])],
  [(nat_lit 11, nat_lit 0, [(nat_lit 5, (.ofNat (nat_lit 0)))]), (nat_lit 8, nat_lit 1, [(nat_lit 0, (.ofNat (nat_lit 1)))]), (nat_lit 6, nat_lit 1, [(nat_lit 4, (.ofNat (nat_lit 0))), (nat_lit 0, (.ofNat (nat_lit 3)))]), (nat_lit 4, nat_lit 0, [(nat_lit 0, (.ofNat (nat_lit 0))), (nat_lit 0, (.ofNat (nat_lit 8)))]), (nat_lit 6, nat_lit 2, [(nat_lit 3, (.ofNat (nat_lit 0))), (nat_lit 0, (.ofNat (nat_lit 0)))]), (nat_lit 8, nat_lit 7, []), (nat_lit 6, nat_lit 0, [(nat_lit 2, (.ofNat (nat_lit 0))), (nat_lit 0, (.ofNat (nat_lit 0)))]), (nat_lit 8, nat_lit 4, [(nat_lit 0, (.ofNat (nat_lit 12)))]), (nat_lit 6, nat_lit 0, [(nat_lit 1, (.ofNat (nat_lit 0))), (nat_lit 0, (.ofNat (nat_lit 0)))]), (nat_lit 8, nat_lit 0, [(nat_lit 0, (.ofNat (nat_lit 40)))])],
  [(nat_lit 13, nat_lit 7, []), (nat_lit 6, nat_lit 0, [(nat_lit 3, (.ofNat (nat_lit 0))), (nat_lit 0, (.ofNat (nat_lit 0)))]), (nat_lit 4, nat_lit 1, [(nat_lit 0, (.ofNat (nat_lit 0))), (nat_lit 0, (.ofNat (nat_lit 46)))]), (nat_lit 6, nat_lit 1, [(nat_lit 2, (.ofNat (nat_lit 0))), (nat_lit 0, (.ofNat (nat_lit 0)))]), (nat_lit 8, nat_lit 4, [(nat_lit 0, (.ofNat (nat_lit 12)))]), (nat_lit 6, nat_lit 0, [(nat_lit 1, (.ofNat (nat_lit 0))), (nat_lit 0, (.ofNat (nat_lit 0)))]), (nat_lit 8, nat_lit 0, [(nat_lit 0, (.ofNat (nat_lit 40)))])],
  [(nat_lit 13, nat_lit 5, []), (nat_lit 6, nat_lit 3, [(nat_lit 4, (.ofNat (nat_lit 0))), (nat_lit 0, (.ofNat (nat_lit 0)))]), (nat_lit 6, nat_lit 3, [(nat_lit 4, (.ofNat (nat_lit 0))), (nat_lit 0, (.ofNat (nat_lit 0)))]), (nat_lit 8, nat_lit 7, []), (nat_lit 6, nat_lit 0, [(nat_lit 3, (.ofNat (nat_lit 0))), (nat_lit 0, (.ofNat (nat_lit 0)))]), (nat_lit 4, nat_lit 1, [(nat_lit 0, (.ofNat (nat_lit 0))), (nat_lit 0, (.ofNat (nat_lit 46)))]), (nat_lit 6, nat_lit 1, [(nat_lit 2, (.ofNat (nat_lit 0))), (nat_lit 0, (.ofNat (nat_lit 0)))]), (nat_lit 8, nat_lit 4, [(nat_lit 0, (.ofNat (nat_lit 12)))]), (nat_lit 6, nat_lit 0, [(nat_lit 1, (.ofNat (nat_lit 0))), (nat_lit 0, (.ofNat (nat_lit 0)))]), (nat_lit 8, nat_lit 0, [(nat_lit 0, (.ofNat (nat_lit 40)))])],
  [(nat_lit 13, nat_lit 8, [(nat_lit 0, (.ofNat (nat_lit 1))), (nat_lit 4, (.ofNat (nat_lit 0))), (nat_lit 0, (.ofNat (nat_lit 0)))]), (nat_lit 6, nat_lit 3, [(nat_lit 4, (.ofNat (nat_lit 0))), (nat_lit 0, (.ofNat (nat_lit 0)))]), (nat_lit 6, nat_lit 3, [(nat_lit 4, (.ofNat (nat_lit 0))), (nat_lit 0, (.ofNat (nat_lit 0)))]), (nat_lit 6, nat_lit 1, [(nat_lit 5, (.ofNat (nat_lit 0))), (nat_lit 0, (.ofNat (nat_lit 0)))]), (nat_lit 8, nat_lit 5, []), (nat_lit 6, nat_lit 3, [(nat_lit 4, (.ofNat (nat_lit 0))), (nat_lit 0, (.ofNat (nat_lit 0)))]), (nat_lit 6, nat_lit 3, [(nat_lit 4, (.ofNat (nat_lit 0))), (nat_lit 0, (.ofNat (nat_lit 0)))]), (nat_lit 8, nat_lit 7, []), (nat_lit 6, nat_lit 0, [(nat_lit 3, (.ofNat (nat_lit 0))), (nat_lit 0, (.ofNat (nat_lit 0)))]), (nat_lit 4, nat_lit 1, [(nat_lit 0, (.ofNat (nat_lit 0))), (nat_lit 0, (.ofNat (nat_lit 46)))]), (nat_lit 6, nat_lit 1, [(nat_lit 2, (.ofNat (nat_lit 0))), (nat_lit 0, (.ofNat (nat_lit 0)))]), (nat_lit 8, nat_lit 4, [(nat_lit 0, (.ofNat (nat_lit 12)))]), (nat_lit 6, nat_lit 0, [(nat_lit 1, (.ofNat (nat_lit 0))), (nat_lit 0, (.ofNat (nat_lit 0)))]), (nat_lit 8, nat_lit 0, [(nat_lit 0, (.ofNat (nat_lit 40)))])],
  [(nat_lit 13, nat_lit 3, []), (nat_lit 5, nat_lit 1, [(nat_lit 0, (.ofNat (nat_lit 0))), (nat_lit 0, (.ofNat (nat_lit 45))), (nat_lit 0, (.ofNat (nat_lit 0)))]), (nat_lit 8, nat_lit 8, [(nat_lit 0, (.ofNat (nat_lit 1))), (nat_lit 4, (.ofNat (nat_lit 0))), (nat_lit 0, (.ofNat (nat_lit 0)))]), (nat_lit 6, nat_lit 3, [(nat_lit 4, (.ofNat (nat_lit 0))), (nat_lit 0, (.ofNat (nat_lit 0)))]), (nat_lit 6, nat_lit 3, [(nat_lit 4, (.ofNat (nat_lit 0))), (nat_lit 0, (.ofNat (nat_lit 0)))]), (nat_lit 6, nat_lit 1, [(nat_lit 5, (.ofNat (nat_lit 0))), (nat_lit 0, (.ofNat (nat_lit 0)))]), (nat_lit 8, nat_lit 5, []), (nat_lit 6, nat_lit 3, [(nat_lit 4, (.ofNat (nat_lit 0))), (nat_lit 0, (.ofNat (nat_lit 0)))]), (nat_lit 6, nat_lit 3, [(nat_lit 4, (.ofNat (nat_lit 0))), (nat_lit 0, (.ofNat (nat_lit 0)))]), (nat_lit 8, nat_lit 7, []), (nat_lit 6, nat_lit 0, [(nat_lit 3, (.ofNat (nat_lit 0))), (nat_lit 0, (.ofNat (nat_lit 0)))]), (nat_lit 4, nat_lit 1, [(nat_lit 0, (.ofNat (nat_lit 0))), (nat_lit 0, (.ofNat (nat_lit 46)))]), (nat_lit 6, nat_lit 1, [(nat_lit 2, (.ofNat (nat_lit 0))), (nat_lit 0, (.ofNat (nat_lit 0)))]), (nat_lit 8, nat_lit 4, [(nat_lit 0, (.ofNat (nat_lit 12)))]), (nat_lit 6, nat_lit 0, [(nat_lit 1, (.ofNat (nat_lit 0))), (nat_lit 0, (.ofNat (nat_lit 0)))]), (nat_lit 8, nat_lit 0, [(nat_lit 0, (.ofNat (nat_lit 40)))])],
  [(nat_lit 11, nat_lit 0, [(nat_lit 0, (.ofNat (nat_lit 1)))]), (nat_lit 8, nat_lit 3, []), (nat_lit 5, nat_lit 1, [(nat_lit 0, (.ofNat (nat_lit 0))), (nat_lit 0, (.ofNat (nat_lit 45))), (nat_lit 0, (.ofNat (nat_lit 0)))]), (nat_lit 8, nat_lit 8, [(nat_lit 0, (.ofNat (nat_lit 1))), (nat_lit 4, (.ofNat (nat_lit 0))), (nat_lit 0, (.ofNat (nat_lit 0)))]), (nat_lit 6, nat_lit 3, [(nat_lit 4, (.ofNat (nat_lit 0))), (nat_lit 0, (.ofNat (nat_lit 0)))]), (nat_lit 6, nat_lit 3, [(nat_lit 4, (.ofNat (nat_lit 0))), (nat_lit 0, (.ofNat (nat_lit 0)))]), (nat_lit 6, nat_lit 1, [(nat_lit 5, (.ofNat (nat_lit 0))), (nat_lit 0, (.ofNat (nat_lit 0)))]), (nat_lit 8, nat_lit 5, []), (nat_lit 6, nat_lit 3, [(nat_lit 4, (.ofNat (nat_lit 0))), (nat_lit 0, (.ofNat (nat_lit 0)))]), (nat_lit 6, nat_lit 3, [(nat_lit 4, (.ofNat (nat_lit 0))), (nat_lit 0, (.ofNat (nat_lit 0)))]), (nat_lit 8, nat_lit 7, []), (nat_lit 6, nat_lit 0, [(nat_lit 3, (.ofNat (nat_lit 0))), (nat_lit 0, (.ofNat (nat_lit 0)))]), (nat_lit 4, nat_lit 1, [(nat_lit 0, (.ofNat (nat_lit 0))), (nat_lit 0, (.ofNat (nat_lit 46)))]), (nat_lit 6, nat_lit 1, [(nat_lit 2, (.ofNat (nat_lit 0))), (nat_lit 0, (.ofNat (nat_lit 0)))]), (nat_lit 8, nat_lit 4, [(nat_lit 0, (.ofNat (nat_lit 12)))]), (nat_lit 6, nat_lit 0, [(nat_lit 1, (.ofNat (nat_lit 0))), (nat_lit 0, (.ofNat (nat_lit 0)))]), (nat_lit 8, nat_lit 0, [(nat_lit 0, (.ofNat (nat_lit 40)))])],
  [(nat_lit 11, nat_lit 0, [(nat_lit 0, (.ofNat (nat_lit 0)))]), (nat_lit 6, nat_lit 0, [(nat_lit 5, (.ofNat (nat_lit 0))), (nat_lit 0, (.ofNat (nat_lit 0)))]), (nat_lit 8, nat_lit 5, []), (nat_lit 6, nat_lit 3, [(nat_lit 4, (.ofNat (nat_lit 0))), (nat_lit 0, (.ofNat (nat_lit 0)))]), (nat_lit 6, nat_lit 3, [(nat_lit 4, (.ofNat (nat_lit 0))), (nat_lit 0, (.ofNat (nat_lit 0)))]), (nat_lit 8, nat_lit 7, []), (nat_lit 6, nat_lit 0, [(nat_lit 3, (.ofNat (nat_lit 0))), (nat_lit 0, (.ofNat (nat_lit 0)))]), (nat_lit 4, nat_lit 1, [(nat_lit 0, (.ofNat (nat_lit 0))), (nat_lit 0, (.ofNat (nat_lit 46)))]), (nat_lit 6, nat_lit 1, [(nat_lit 2, (.ofNat (nat_lit 0))), (nat_lit 0, (.ofNat (nat_lit 0)))]), (nat_lit 8, nat_lit 4, [(nat_lit 0, (.ofNat (nat_lit 12)))]), (nat_lit 6, nat_lit 0, [(nat_lit 1, (.ofNat (nat_lit 0))), (nat_lit 0, (.ofNat (nat_lit 0)))]), (nat_lit 8, nat_lit 0, [(nat_lit 0, (.ofNat (nat_lit 40)))])],
  [(nat_lit 13, nat_lit 5, []), (nat_lit 6, nat_lit 5, [(nat_lit 6, (.ofNat (nat_lit 0))), (nat_lit 0, (.ofNat (nat_lit 9999)))]), (nat_lit 4, nat_lit 0, [(nat_lit 0, (.ofNat (nat_lit 0))), (nat_lit 0, (.ofNat (nat_lit 9)))]), (nat_lit 6, nat_lit 2, [(nat_lit 4, (.ofNat (nat_lit 0))), (nat_lit 0, (.ofNat (nat_lit 0)))]), (nat_lit 6, nat_lit 0, [(nat_lit 5, (.ofNat (nat_lit 0))), (nat_lit 0, (.ofNat (nat_lit 3)))]), (nat_lit 4, nat_lit 0, [(nat_lit 0, (.ofNat (nat_lit 0))), (nat_lit 0, (.ofNat (nat_lit 8)))]), (nat_lit 6, nat_lit 2, [(nat_lit 4, (.ofNat (nat_lit 0))), (nat_lit 0, (.ofNat (nat_lit 0)))]), (nat_lit 8, nat_lit 7, []), (nat_lit 6, nat_lit 0, [(nat_lit 3, (.ofNat (nat_lit 0))), (nat_lit 0, (.ofNat (nat_lit 0)))]), (nat_lit 4, nat_lit 1, [(nat_lit 0, (.ofNat (nat_lit 0))), (nat_lit 0, (.ofNat (nat_lit 46)))]), (nat_lit 6, nat_lit 1, [(nat_lit 2, (.ofNat (nat_lit 0))), (nat_lit 0, (.ofNat (nat_lit 0)))]), (nat_lit 8, nat_lit 4, [(nat_lit 0, (.ofNat (nat_lit 12)))]), (nat_lit 6, nat_lit 0, [(nat_lit 1, (.ofNat (nat_lit 0))), (nat_lit 0, (.ofNat (nat_lit 0)))]), (nat_lit 8, nat_lit 0, [(nat_lit 0, (.ofNat (nat_lit 40)))])],
  [(nat_lit 13, nat_lit 8, [(nat_lit 0, (.ofNat (nat_lit 0))), (nat_lit 8, (.ofNat (nat_lit 0))), (nat_lit 0, (.ofNat (nat_lit 0)))]), (nat_lit 4, nat_lit 0, [(nat_lit 0, (.ofNat (nat_lit 0))), (nat_lit 0, (.ofNat (nat_lit 9)))]), (nat_lit 6, nat_lit 2, [(nat_lit 4, (.ofNat (nat_lit 0))), (nat_lit 0, (.ofNat (nat_lit 0)))]), (nat_lit 6, nat_lit 2, [(nat_lit 4, (.ofNat (nat_lit 0))), (nat_lit 0, (.ofNat (nat_lit 0)))]), (nat_lit 6, nat_lit 1, [(nat_lit 7, (.ofNat (nat_lit 0))), (nat_lit 0, (.ofNat (nat_lit 0)))]), (nat_lit 8, nat_lit 5, []), (nat_lit 6, nat_lit 5, [(nat_lit 6, (.ofNat (nat_lit 0))), (nat_lit 0, (.ofNat (nat_lit 9999)))]), (nat_lit 4, nat_lit 0, [(nat_lit 0, (.ofNat (nat_lit 0))), (nat_lit 0, (.ofNat (nat_lit 9)))]), (nat_lit 6, nat_lit 2, [(nat_lit 4, (.ofNat (nat_lit 0))), (nat_lit 0, (.ofNat (nat_lit 0)))]), (nat_lit 6, nat_lit 0, [(nat_lit 5, (.ofNat (nat_lit 0))), (nat_lit 0, (.ofNat (nat_lit 3)))]), (nat_lit 4, nat_lit 0, [(nat_lit 0, (.ofNat (nat_lit 0))), (nat_lit 0, (.ofNat (nat_lit 8)))]), (nat_lit 6, nat_lit 2, [(nat_lit 4, (.ofNat (nat_lit 0))), (nat_lit 0, (.ofNat (nat_lit 0)))]), (nat_lit 8, nat_lit 7, []), (nat_lit 6, nat_lit 0, [(nat_lit 3, (.ofNat (nat_lit 0))), (nat_lit 0, (.ofNat (nat_lit 0)))]), (nat_lit 4, nat_lit 1, [(nat_lit 0, (.ofNat (nat_lit 0))), (nat_lit 0, (.ofNat (nat_lit 46)))]), (nat_lit 6, nat_lit 1, [(nat_lit 2, (.ofNat (nat_lit 0))), (nat_lit 0, (.ofNat (nat_lit 0)))]), (nat_lit 8, nat_lit 4, [(nat_lit 0, (.ofNat (nat_lit 12)))]), (nat_lit 6, nat_lit 0, [(nat_lit 1, (.ofNat (nat_lit 0))), (nat_lit 0, (.ofNat (nat_lit 0)))]), (nat_lit 8, nat_lit 0, [(nat_lit 0, (.ofNat (nat_lit 40)))])],
  [(nat_lit 13, nat_lit 3, []), (nat_lit 5, nat_lit 1, [(nat_lit 0, (.ofNat (nat_lit 0))), (nat_lit 0, (.ofNat (nat_lit 45))), (nat_lit 0, (.ofNat (nat_lit 0)))]), (nat_lit 8, nat_lit 8, [(nat_lit 0, (.ofNat (nat_lit 0))), (nat_lit 8, (.ofNat (nat_lit 0))), (nat_lit 0, (.ofNat (nat_lit 0)))]), (nat_lit 4, nat_lit 0, [(nat_lit 0, (.ofNat (nat_lit 0))), (nat_lit 0, (.ofNat (nat_lit 9)))]), (nat_lit 6, nat_lit 2, [(nat_lit 4, (.ofNat (nat_lit 0))), (nat_lit 0, (.ofNat (nat_lit 0)))]), (nat_lit 6, nat_lit 2, [(nat_lit 4, (.ofNat (nat_lit 0))), (nat_lit 0, (.ofNat (nat_lit 0)))]), (nat_lit 6, nat_lit 1, [(nat_lit 7, (.ofNat (nat_lit 0))), (nat_lit 0, (.ofNat (nat_lit 0)))]), (nat_lit 8, nat_lit 5, []), (nat_lit 6, nat_lit 5, [(nat_lit 6, (.ofNat (nat_lit 0))), (nat_lit 0, (.ofNat (nat_lit 9999)))]), (nat_lit 4, nat_lit 0, [(nat_lit 0, (.ofNat (nat_lit 0))), (nat_lit 0, (.ofNat (nat_lit 9)))]), (nat_lit 6, nat_lit 2, [(nat_lit 4, (.ofNat (nat_lit 0))), (nat_lit 0, (.ofNat (nat_lit 0)))]), (nat_lit 6, nat_lit 0, [(nat_lit 5, (.ofNat (nat_lit 0))), (nat_lit 0, (.ofNat (nat_lit 3)))]), (nat_lit 4, nat_lit 0, [(nat_lit 0, (.ofNat (nat_lit 0))), (nat_lit 0, (.ofNat (nat_lit 8)))]), (nat_lit 6, nat_lit 2, [(nat_lit 4, (.ofNat (nat_lit 0))), (nat_lit 0, (.ofNat (nat_lit 0)))]), (nat_lit 8, nat_lit 7, []), (nat_lit 6, nat_lit 0, [(nat_lit 3, (.ofNat (nat_lit 0))), (nat_lit 0, (.ofNat (nat_lit 0)))]), (nat_lit 4, nat_lit 1, [(nat_lit 0, (.ofNat (nat_lit 0))), (nat_lit 0, (.ofNat (nat_lit 46)))]), (nat_lit 6, nat_lit 1, [(nat_lit 2, (.ofNat (nat_lit 0))), (nat_lit 0, (.ofNat (nat_lit 0)))]), (nat_lit 8, nat_lit 4, [(nat_lit 0, (.ofNat (nat_lit 12)))]), (nat_lit 6, nat_lit 0, [(nat_lit 1, (.ofNat (nat_lit 0))), (nat_lit 0, (.ofNat (nat_lit 0)))]), (nat_lit 8, nat_lit 0, [(nat_lit 0, (.ofNat (nat_lit 40)))])],
  [(nat_lit 11, nat_lit 0, [(nat_lit 0, (.ofNat (nat_lit 1)))]), (nat_lit 8, nat_lit 3, []), (nat_lit 5, nat_lit 1, [(nat_lit 0, (.ofNat (nat_lit 0))), (nat_lit 0, (.ofNat (nat_lit 45))), (nat_lit 0, (.ofNat (nat_lit 0)))]), (nat_lit 8, nat_lit 8, [(nat_lit 0, (.ofNat (nat_lit 0))), (nat_lit 8, (.ofNat (nat_lit 0))), (nat_lit 0, (.ofNat (nat_lit 0)))]), (nat_lit 4, nat_lit 0, [(nat_lit 0, (.ofNat (nat_lit 0))), (nat_lit 0, (.ofNat (nat_lit 9)))]), (nat_lit 6, nat_lit 2, [(nat_lit 4, (.ofNat (nat_lit 0))), (nat_lit 0, (.ofNat (nat_lit 0)))]), (nat_lit 6, nat_lit 2, [(nat_lit 4, (.ofNat (nat_lit 0))), (nat_lit 0, (.ofNat (nat_lit 0)))]), (nat_lit 6, nat_lit 1, [(nat_lit 7, (.ofNat (nat_lit 0))), (nat_lit 0, (.ofNat (nat_lit 0)))]), (nat_lit 8, nat_lit 5, []), (nat_lit 6, nat_lit 5, [(nat_lit 6, (.ofNat (nat_lit 0))), (nat_lit 0, (.ofNat (nat_lit 9999)))]), (nat_lit 4, nat_lit 0, [(nat_lit 0, (.ofNat (nat_lit 0))), (nat_lit 0, (.ofNat (nat_lit 9)))]), (nat_lit 6, nat_lit 2, [(nat_lit 4, (.ofNat (nat_lit 0))), (nat_lit 0, (.ofNat (nat_lit 0)))]), (nat_lit 6, nat_lit 0, [(nat_lit 5, (.ofNat (nat_lit 0))), (nat_lit 0, (.ofNat (nat_lit 3)))]), (nat_lit 4, nat_lit 0, [(nat_lit 0, (.ofNat (nat_lit 0))), (nat_lit 0, (.ofNat (nat_lit 8)))]), (nat_lit 6, nat_lit 2, [(nat_lit 4, (.ofNat (nat_lit 0))), (nat_lit 0, (.ofNat (nat_lit 0)))]), (nat_lit 8, nat_lit 7, []), (nat_lit 6, nat_lit 0, [(nat_lit 3, (.ofNat (nat_lit 0))), (nat_lit 0, (.ofNat (nat_lit 0)))]), (nat_lit 4, nat_lit 1, [(nat_lit 0, (.ofNat (nat_lit 0))), (nat_lit 0, (.ofNat (nat_lit 46)))]), (nat_lit 6, nat_lit 1, [(nat_lit 2, (.ofNat (nat_lit 0))), (nat_lit 0, (.ofNat (nat_lit 0)))]), (nat_lit 8, nat_lit 4, [(nat_lit 0, (.ofNat (nat_lit 12)))]), (nat_lit 6, nat_lit 0, [(nat_lit 1, (.ofNat (nat_lit 0))), (nat_lit 0, (.ofNat (nat_lit 0)))]), (nat_lit 8, nat_lit 0, [(nat_lit 0, (.ofNat (nat_lit 40)))])],
  [(nat_lit 11, nat_lit 0, [(nat_lit 0, (.ofNat (nat_lit 0)))]), (nat_lit 6, nat_lit 0, [(nat_lit 7, (.ofNat (nat_lit 0))), (nat_lit 0, (.ofNat (nat_lit 0)))]), (nat_lit 8, nat_lit 5, []), (nat_lit 6, nat_lit 5, [(nat_lit 6, (.ofNat (nat_lit 0))), (nat_lit 0, (.ofNat (nat_lit 9999)))]), (nat_lit 4, nat_lit 0, [(nat_lit 0, (.ofNat (nat_lit 0))), (nat_lit 0, (.ofNat (nat_lit 9)))]), (nat_lit 6, nat_lit 2, [(nat_lit 4, (.ofNat (nat_lit 0))), (nat_lit 0, (.ofNat (nat_lit 0)))]), (nat_lit 6, nat_lit 0, [(nat_lit 5, (.ofNat (nat_lit 0))), (nat_lit 0, (.ofNat (nat_lit 3)))]), (nat_lit 4, nat_lit 0, [(nat_lit 0, (.ofNat (nat_lit 0))), (nat_lit 0, (.ofNat (nat_lit 8)))]), (nat_lit 6, nat_lit 2, [(nat_lit 4, (.ofNat (nat_lit 0))), (nat_lit 0, (.ofNat (nat_lit 0)))]), (nat_lit 8, nat_lit 7, []), (nat_lit 6, nat_lit 0, [(nat_lit 3, (.ofNat (nat_lit 0))), (nat_lit 0, (.ofNat (nat_lit 0)))]), (nat_lit 4, nat_lit 1, [(nat_lit 0, (.ofNat (nat_lit 0))), (nat_lit 0, (.ofNat (nat_lit 46)))]), (nat_lit 6, nat_lit 1, [(nat_lit 2, (.ofNat (nat_lit 0))), (nat_lit 0, (.ofNat (nat_lit 0)))]), (nat_lit 8, nat_lit 4, [(nat_lit 0, (.ofNat (nat_lit 12)))]), (nat_lit 6, nat_lit 0, [(nat_lit 1, (.ofNat (nat_lit 0))), (nat_lit 0, (.ofNat (nat_lit 0)))]), (nat_lit 8, nat_lit 0, [(nat_lit 0, (.ofNat (nat_lit 40)))])],
  [(nat_lit 13, nat_lit 1, [(nat_lit 0, (.ofNat (nat_lit 2)))]), (nat_lit 6, nat_lit 4, [(nat_lit 6, (.ofNat (nat_lit 0))), (nat_lit 0, (.ofNat (nat_lit 9999)))]), (nat_lit 4, nat_lit 0, [(nat_lit 0, (.ofNat (nat_lit 0))), (nat_lit 0, (.ofNat (nat_lit 9)))]), (nat_lit 6, nat_lit 2, [(nat_lit 4, (.ofNat (nat_lit 0))), (nat_lit 0, (.ofNat (nat_lit 0)))]), (nat_lit 6, nat_lit 0, [(nat_lit 5, (.ofNat (nat_lit 0))), (nat_lit 0, (.ofNat (nat_lit 3)))]), (nat_lit 4, nat_lit 0, [(nat_lit 0, (.ofNat (nat_lit 0))), (nat_lit 0, (.ofNat (nat_lit 8)))]), (nat_lit 6, nat_lit 2, [(nat_lit 4, (.ofNat (nat_lit 0))), (nat_lit 0, (.ofNat (nat_lit 0)))]), (nat_lit 8, nat_lit 7, []), (nat_lit 6, nat_lit 0, [(nat_lit 3, (.ofNat (nat_lit 0))), (nat_lit 0, (.ofNat (nat_lit 0)))]), (nat_lit 4, nat_lit 1, [(nat_lit 0, (.ofNat (nat_lit 0))), (nat_lit 0, (.ofNat (nat_lit 46)))]), (nat_lit 6, nat_lit 1, [(nat_lit 2, (.ofNat (nat_lit 0))), (nat_lit 0, (.ofNat (nat_lit 0)))]), (nat_lit 8, nat_lit 4, [(nat_lit 0, (.ofNat (nat_lit 12)))]), (nat_lit 6, nat_lit 0, [(nat_lit 1, (.ofNat (nat_lit 0))), (nat_lit 0, (.ofNat (nat_lit 0)))]), (nat_lit 8, nat_lit 0, [(nat_lit 0, (.ofNat (nat_lit 40)))])],
  [(nat_lit 11, nat_lit 0, [(nat_lit 7, (.ofNat (nat_lit 0)))]), (nat_lit 8, nat_lit 1, [(nat_lit 0, (.ofNat (nat_lit 2)))]), (nat_lit 6, nat_lit 4, [(nat_lit 6, (.ofNat (nat_lit 0))), (nat_lit 0, (.ofNat (nat_lit 9999)))]), (nat_lit 4, nat_lit 0, [(nat_lit 0, (.ofNat (nat_lit 0))), (nat_lit 0, (.ofNat (nat_lit 9)))]), (nat_lit 6, nat_lit 2, [(nat_lit 4, (.ofNat (nat_lit 0))), (nat_lit 0, (.ofNat (nat_lit 0)))]), (nat_lit 6, nat_lit 0, [(nat_lit 5, (.ofNat (nat_lit 0))), (nat_lit 0, (.ofNat (nat_lit 3)))]), (nat_lit 4, nat_lit 0, [(nat_lit 0, (.ofNat (nat_lit 0))), (nat_lit 0, (.ofNat (nat_lit 8)))]), (nat_lit 6, nat_lit 2, [(nat_lit 4, (.ofNat (nat_lit 0))), (nat_lit 0, (.ofNat (nat_lit 0)))]), (nat_lit 8, nat_lit 7, []), (nat_lit 6, nat_lit 0, [(nat_lit 3, (.ofNat (nat_lit 0))), (nat_lit 0, (.ofNat (nat_lit 0)))]), (nat_lit 4, nat_lit 1, [(nat_lit 0, (.ofNat (nat_lit 0))), (nat_lit 0, (.ofNat (nat_lit 46)))]), (nat_lit 6, nat_lit 1, [(nat_lit 2, (.ofNat (nat_lit 0))), (nat_lit 0, (.ofNat (nat_lit 0)))]), (nat_lit 8, nat_lit 4, [(nat_lit 0, (.ofNat (nat_lit 12)))]), (nat_lit 6, nat_lit 0, [(nat_lit 1, (.ofNat (nat_lit 0))), (nat_lit 0, (.ofNat (nat_lit 0)))]), (nat_lit 8, nat_lit 0, [(nat_lit 0, (.ofNat (nat_lit 40)))])],
  [(nat_lit 13, nat_lit 1, [(nat_lit 0, (.ofNat (nat_lit 1)))]), (nat_lit 6, nat_lit 1, [(nat_lit 5, (.ofNat (nat_lit 0))), (nat_lit 0, (.ofNat (nat_lit 3)))]), (nat_lit 4, nat_lit 0, [(nat_lit 0, (.ofNat (nat_lit 0))), (nat_lit 0, (.ofNat (nat_lit 8)))]), (nat_lit 6, nat_lit 2, [(nat_lit 4, (.ofNat (nat_lit 0))), (nat_lit 0, (.ofNat (nat_lit 0)))]), (nat_lit 8, nat_lit 7, []), (nat_lit 6, nat_lit 0, [(nat_lit 3, (.ofNat (nat_lit 0))), (nat_lit 0, (.ofNat (nat_lit 0)))]), (nat_lit 4, nat_lit 1, [(nat_lit 0, (.ofNat (nat_lit 0))), (nat_lit 0, (.ofNat (nat_lit 46)))]), (nat_lit 6, nat_lit 1, [(nat_lit 2, (.ofNat (nat_lit 0))), (nat_lit 0, (.ofNat (nat_lit 0)))]), (nat_lit 8, nat_lit 4, [(nat_lit 0, (.ofNat (nat_lit 12)))]), (nat_lit 6, nat_lit 0, [(nat_lit 1, (.ofNat (nat_lit 0))), (nat_lit 0, (.ofNat (nat_lit 0)))]), (nat_lit 8, nat_lit 0, [(nat_lit 0, (.ofNat (nat_lit 40)))])],
  [(nat_lit 11, nat_lit 0, [(nat_lit 6, (.ofNat (nat_lit 0)))]), (nat_lit 8, nat_lit 1, [(nat_lit 0, (.ofNat (nat_lit 1)))]), (nat_lit 6, nat_lit 1, [(nat_lit 5, (.ofNat (nat_lit 0))), (nat_lit 0, (.ofNat (nat_lit 3)))]), (nat_lit 4, nat_lit 0, [(nat_lit 0, (.ofNat (nat_lit 0))), (nat_lit 0, (.ofNat (nat_lit 8)))]), (nat_lit 6, nat_lit 2, [(nat_lit 4, (.ofNat (nat_lit 0))), (nat_lit 0, (.ofNat (nat_lit 0)))]), (nat_lit 8, nat_lit 7, []), (nat_lit 6, nat_lit 0, [(nat_lit 3, (.ofNat (nat_lit 0))), (nat_lit 0, (.ofNat (nat_lit 0)))]), (nat_lit 4, nat_lit 1, [(nat_lit 0, (.ofNat (nat_lit 0))), (nat_lit 0, (.ofNat (nat_lit 46)))]), (nat_lit 6, nat_lit 1, [(nat_lit 2, (.ofNat (nat_lit 0))), (nat_lit 0, (.ofNat (nat_lit 0)))]), (nat_lit 8, nat_lit 4, [(nat_lit 0, (.ofNat (nat_lit 12)))]), (nat_lit 6, nat_lit 0, [(nat_lit 1, (.ofNat (nat_lit 0))), (nat_lit 0, (.ofNat (nat_lit 0)))]), (nat_lit 8, nat_lit 0, [(nat_lit 0, (.ofNat (nat_lit 40)))])],
  [(nat_lit 13, nat_lit 5, []), (nat_lit 6, nat_lit 1, [(nat_lit 3, (.ofNat (nat_lit 0))), (nat_lit 0, (.ofNat (nat_lit 0)))]), (nat_lit 4, nat_lit 1, [(nat_lit 0, (.ofNat (nat_lit 0))), (nat_lit 0, (.ofNat (nat_lit 46)))]), (nat_lit 6, nat_lit 1, [(nat_lit 2, (.ofNat (nat_lit 0))), (nat_lit 0, (.ofNat (nat_lit 0)))]), (nat_lit 8, nat_lit 4, [(nat_lit 0, (.ofNat (nat_lit 12)))]), (nat_lit 6, nat_lit 0, [(nat_lit 1, (.ofNat (nat_lit 0))), (nat_lit 0, (.ofNat (nat_lit 0)))]), (nat_lit 8, nat_lit 0, [(nat_lit 0, (.ofNat (nat_lit 40)))])],
  [(nat_lit 13, nat_lit 6, []), (nat_lit 6, nat_lit 1, [(nat_lit 4, (.ofNat (nat_lit 0))), (nat_lit 0, (.ofNat (nat_lit 0)))]), (nat_lit 8, nat_lit 5, []), (nat_lit 6, nat_lit 1, [(nat_lit 3, (.ofNat (nat_lit 0))), (nat_lit 0, (.ofNat (nat_lit 0)))]), (nat_lit 4, nat_lit 1, [(nat_lit 0, (.ofNat (nat_lit 0))), (nat_lit 0, (.ofNat (nat_lit 46)))]), (nat_lit 6, nat_lit 1, [(nat_lit 2, (.ofNat (nat_lit 0))), (nat_lit 0, (.ofNat (nat_lit 0)))]), (nat_lit 8, nat_lit 4, [(nat_lit 0, (.ofNat (nat_lit 12)))]), (nat_lit 6, nat_lit 0, [(nat_lit 1, (.ofNat (nat_lit 0))), (nat_lit 0, (.ofNat (nat_lit 0)))]), (nat_lit 8, nat_lit 0, [(nat_lit 0, (.ofNat (nat_lit 40)))])],
  [(nat_lit 13, nat_lit 3, []), (nat_lit 8, nat_lit 6, []), (nat_lit 6, nat_lit 1, [(nat_lit 4, (.ofNat (nat_lit 0))), (nat_lit 0, (.ofNat (nat_lit 0)))]), (nat_lit 8, nat_lit 5, []), (nat_lit 6, nat_lit 1, [(nat_lit 3, (.ofNat (nat_lit 0))), (nat_lit 0, (.ofNat (nat_lit 0)))]), (nat_lit 4, nat_lit 1, [(nat_lit 0, (.ofNat (nat_lit 0))), (nat_lit 0, (.ofNat (nat_lit 46)))]), (nat_lit 6, nat_lit 1, [(nat_lit 2, (.ofNat (nat_lit 0))), (nat_lit 0, (.ofNat (nat_lit 0)))]), (nat_lit 8, nat_lit 4, [(nat_lit 0, (.ofNat (nat_lit 12)))]), (nat_lit 6, nat_lit 0, [(nat_lit 1, (.ofNat (nat_lit 0))), (nat_lit 0, (.ofNat (nat_lit 0)))]), (nat_lit 8, nat_lit 0, [(nat_lit 0, (.ofNat (nat_lit 40)))])],
  [(nat_lit 11, nat_lit 0, [(nat_lit 0, (.ofNat (nat_lit 1)))]), (nat_lit 8, nat_lit 3, []), (nat_lit 8, nat_lit 6, []), (nat_lit 6, nat_lit 1, [(nat_lit 4, (.ofNat (nat_lit 0))), (nat_lit 0, (.ofNat (nat_lit 0)))]), (nat_lit 8, nat_lit 5, []), (nat_lit 6, nat_lit 1, [(nat_lit 3, (.ofNat (nat_lit 0))), (nat_lit 0, (.ofNat (nat_lit 0)))]), (nat_lit 4, nat_lit 1, [(nat_lit 0, (.ofNat (nat_lit 0))), (nat_lit 0, (.ofNat (nat_lit 46)))]), (nat_lit 6, nat_lit 1, [(nat_lit 2, (.ofNat (nat_lit 0))), (nat_lit 0, (.ofNat (nat_lit 0)))]), (nat_lit 8, nat_lit 4, [(nat_lit 0, (.ofNat (nat_lit 12)))]), (nat_lit 6, nat_lit 0, [(nat_lit 1, (.ofNat (nat_lit 0))), (nat_lit 0, (.ofNat (nat_lit 0)))]), (nat_lit 8, nat_lit 0, [(nat_lit 0, (.ofNat (nat_lit 40)))])],
  [(nat_lit 11, nat_lit 0, [(nat_lit 0, (.ofNat (nat_lit 0)))]), (nat_lit 6, nat_lit 0, [(nat_lit 4, (.ofNat (nat_lit 0))), (nat_lit 0, (.ofNat (nat_lit 0)))]), (nat_lit 8, nat_lit 5, []), (nat_lit 6, nat_lit 1, [(nat_lit 3, (.ofNat (nat_lit 0))), (nat_lit 0, (.ofNat (nat_lit 0)))]), (nat_lit 4, nat_lit 1, [(nat_lit 0, (.ofNat (nat_lit 0))), (nat_lit 0, (.ofNat (nat_lit 46)))]), (nat_lit 6, nat_lit 1, [(nat_lit 2, (.ofNat (nat_lit 0))), (nat_lit 0, (.ofNat (nat_lit 0)))]), (nat_lit 8, nat_lit 4, [(nat_lit 0, (.ofNat (nat_lit 12)))]), (nat_lit 6, nat_lit 0, [(nat_lit 1, (.ofNat (nat_lit 0))), (nat_lit 0, (.ofNat (nat_lit 0)))]), (nat_lit 8, nat_lit 0, [(nat_lit 0, (.ofNat (nat_lit 40)))])],
  [(nat_lit 13, nat_lit 2, []), (nat_lit 5, nat_lit 0, [(nat_lit 0, (.ofNat (nat_lit 0))), (nat_lit 0, (.ofNat (nat_lit 43))), (nat_lit 4, (.ofNat (nat_lit 0)))]), (nat_lit 0, nat_lit 1, [(nat_lit 3, (.ofNat (nat_lit 0))), (nat_lit 0, (.ofNat (nat_lit 1)))]), (nat_lit 4, nat_lit 0, [(nat_lit 0, (.ofNat (nat_lit 0))), (nat_lit 0, (.ofNat (nat_lit 43)))]), (nat_lit 6, nat_lit 1, [(nat_lit 2, (.ofNat (nat_lit 0))), (nat_lit 0, (.ofNat (nat_lit 8)))]), (nat_lit 4, nat_lit 0, [(nat_lit 0, (.ofNat (nat_lit 0))), (nat_lit 0, (.ofNat (nat_lit 43)))]), (nat_lit 6, nat_lit 1, [(nat_lit 1, (.ofNat (nat_lit 0))), (nat_lit 0, (.ofNat (nat_lit 0)))]), (nat_lit 8, nat_lit 0, [(nat_lit 0, (.ofNat (nat_lit 40)))])],
  [(nat_lit 13, nat_lit 3, []), (nat_lit 5, nat_lit 1, [(nat_lit 0, (.ofNat (nat_lit 0))), (nat_lit 0, (.ofNat (nat_lit 46))), (nat_lit 0, (.ofNat (nat_lit 1)))]), (nat_lit 8, nat_lit 2, []), (nat_lit 5, nat_lit 0, [(nat_lit 0, (.ofNat (nat_lit 0))), (nat_lit 0, (.ofNat (nat_lit 43))), (nat_lit 4, (.ofNat (nat_lit 0)))]), (nat_lit 0, nat_lit 1, [(nat_lit 3, (.ofNat (nat_lit 0))), (nat_lit 0, (.ofNat (nat_lit 1)))]), (nat_lit 4, nat_lit 0, [(nat_lit 0, (.ofNat (nat_lit 0))), (nat_lit 0, (.ofNat (nat_lit 43)))]), (nat_lit 6, nat_lit 1, [(nat_lit 2, (.ofNat (nat_lit 0))), (nat_lit 0, (.ofNat (nat_lit 8)))]), (nat_lit 4, nat_lit 0, [(nat_lit 0, (.ofNat (nat_lit 0))), (nat_lit 0, (.ofNat (nat_lit 43)))]), (nat_lit 6, nat_lit 1, [(nat_lit 1, (.ofNat (nat_lit 0))), (nat_lit 0, (.ofNat (nat_lit 0)))]), (nat_lit 8, nat_lit 0, [(nat_lit 0, (.ofNat (nat_lit 40)))])],
  [(nat_lit 11, nat_lit 0, [(nat_lit 0, (.ofNat (nat_lit 1)))]), (nat_lit 8, nat_lit 3, []), (nat_lit 5, nat_lit 1, [(nat_lit 0, (.ofNat (nat_lit 0))), (nat_lit 0, (.ofNat (nat_lit 46))), (nat_lit 0, (.ofNat (nat_lit 1)))]), (nat_lit 8, nat_lit 2, []), (nat_lit 5, nat_lit 0, [(nat_lit 0, (.ofNat (nat_lit 0))), (nat_lit 0, (.ofNat (nat_lit 43))), (nat_lit 4, (.ofNat (nat_lit 0)))]), (nat_lit 0, nat_lit 1, [(nat_lit 3, (.ofNat (nat_lit 0))), (nat_lit 0, (.ofNat (nat_lit 1)))]), (nat_lit 4, nat_lit 0, [(nat_lit 0, (.ofNat (nat_lit 0))), (nat_lit 0, (.ofNat (nat_lit 43)))]), (nat_lit 6, nat_lit 1, [(nat_lit 2, (.ofNat (nat_lit 0))), (nat_lit 0, (.ofNat (nat_lit 8)))]), (nat_lit 4, nat_lit 0, [(nat_lit 0, (.ofNat (nat_lit 0))), (nat_lit 0, (.ofNat (nat_lit 43)))]), (nat_lit 6, nat_lit 1, [(nat_lit 1, (.ofNat (nat_lit 0))), (nat_lit 0, (.ofNat (nat_lit 0)))]), (nat_lit 8, nat_lit 0, [(nat_lit 0, (.ofNat (nat_lit 40)))])],
  [(nat_lit 13, nat_lit 1, [(nat_lit 0, (.ofNat (nat_lit 2)))]), (nat_lit 6, nat_lit 0, [(nat_lit 2, (.ofNat (nat_lit 0))), (nat_lit 0, (.ofNat (nat_lit 8)))]), (nat_lit 4, nat_lit 0, [(nat_lit 0, (.ofNat (nat_lit 0))), (nat_lit 0, (.ofNat (nat_lit 43)))]), (nat_lit 6, nat_lit 1, [(nat_lit 1, (.ofNat (nat_lit 0))), (nat_lit 0, (.ofNat (nat_lit 0)))]), (nat_lit 8, nat_lit 0, [(nat_lit 0, (.ofNat (nat_lit 40)))])],
  [(nat_lit 11, nat_lit 0, [(nat_lit 3, (.ofNat (nat_lit 0)))]), (nat_lit 8, nat_lit 1, [(nat_lit 0, (.ofNat (nat_lit 2)))]), (nat_lit 6, nat_lit 0, [(nat_lit 2, (.ofNat (nat_lit 0))), (nat_lit 0, (.ofNat (nat_lit 8)))]), (nat_lit 4, nat_lit 0, [(nat_lit 0, (.ofNat (nat_lit 0))), (nat_lit 0, (.ofNat (nat_lit 43)))]), (nat_lit 6, nat_lit 1, [(nat_lit 1, (.ofNat (nat_lit 0))), (nat_lit 0, (.ofNat (nat_lit 0)))]), (nat_lit 8, nat_lit 0, [(nat_lit 0, (.ofNat (nat_lit 40)))])]]
def zFl_leafRead : List (List zK) := []
set_option maxHeartbeats 8000000 in
theorem zl_leafRead {ro : Nat → List Int32} : zMet pr_P pr_K pr_df ro (sm_X0 1 6) 2 147 tm_l [(.inr (.inr (.inl (nat_lit 0))))] 2 [(nat_lit 0, nat_lit 0, nat_lit 1), (nat_lit 0, nat_lit 3, nat_lit 2), (nat_lit 0, nat_lit 20, nat_lit 3), (nat_lit 0, nat_lit 21, nat_lit 4), (nat_lit 0, nat_lit 22, nat_lit 5), (nat_lit 0, nat_lit 23, nat_lit 6), (nat_lit 0, nat_lit 24, nat_lit 7), (nat_lit 0, nat_lit 25, nat_lit 8), (nat_lit 0, nat_lit 26, nat_lit 9), (nat_lit 0, nat_lit 27, nat_lit 10), (nat_lit 0, nat_lit 28, nat_lit 11), (nat_lit 0, nat_lit 29, nat_lit 12), (nat_lit 0, nat_lit 30, nat_lit 13), (nat_lit 0, nat_lit 31, nat_lit 14), (nat_lit 0, nat_lit 32, nat_lit 15), (nat_lit 0, nat_lit 33, nat_lit 16), (nat_lit 0, nat_lit 34, nat_lit 17), (nat_lit 0, nat_lit 35, nat_lit 18), (nat_lit 0, nat_lit 36, nat_lit 19), (nat_lit 0, nat_lit 37, nat_lit 20), (nat_lit 0, nat_lit 38, nat_lit 21), (nat_lit 0, nat_lit 39, nat_lit 22), (nat_lit 0, nat_lit 40, nat_lit 23), (nat_lit 0, nat_lit 47, nat_lit 24), (nat_lit 0, nat_lit 48, nat_lit 25), (nat_lit 0, nat_lit 50, nat_lit 26), (nat_lit 0, nat_lit 51, nat_lit 27), (nat_lit 0, nat_lit 52, nat_lit 28), (nat_lit 0, nat_lit 53, nat_lit 29), (nat_lit 0, nat_lit 54, nat_lit 30), (nat_lit 0, nat_lit 55, nat_lit 31), (nat_lit 0, nat_lit 56, nat_lit 32), (nat_lit 0, nat_lit 57, nat_lit 33), (nat_lit 0, nat_lit 58, nat_lit 34), (nat_lit 0, nat_lit 59, nat_lit 35), (nat_lit 0, nat_lit 72, nat_lit 36), (nat_lit 0, nat_lit 73, nat_lit 37), (nat_lit 0, nat_lit 76, nat_lit 38), (nat_lit 0, nat_lit 77, nat_lit 39), (nat_lit 0, nat_lit 79, nat_lit 40), (nat_lit 0, nat_lit 81, nat_lit 41), (nat_lit 0, nat_lit 82, nat_lit 42)] [] (fun xs η => sP wl_l zTr zPl_leafRead xs η ∧ pPl_leafRead xs η) (fun xs η y η' => sQ wl_l zTr zOl_leafRead zMl_leafRead xs η y η' ∧ pQl_leafRead xs η y η') :=
  zmet_alt (zmea_gen (mi := (nat_lit 0, nat_lit 1, nat_lit 8, nat_lit 2, nat_lit 2, tX8_leafRead)) (cd := [(nat_lit 126, nat_lit 0, nat_lit 0, [(.inr (.inr (.inl (nat_lit 0)))), (.inl (nat_lit 1, (.ofNat (nat_lit 0))))], nat_lit 2, [(nat_lit 0, nat_lit 0, nat_lit 1), (nat_lit 0, nat_lit 3, nat_lit 2), (nat_lit 0, nat_lit 20, nat_lit 3), (nat_lit 0, nat_lit 21, nat_lit 4), (nat_lit 0, nat_lit 22, nat_lit 5), (nat_lit 0, nat_lit 23, nat_lit 6), (nat_lit 0, nat_lit 24, nat_lit 7), (nat_lit 0, nat_lit 25, nat_lit 8), (nat_lit 0, nat_lit 26, nat_lit 9), (nat_lit 0, nat_lit 27, nat_lit 10), (nat_lit 0, nat_lit 28, nat_lit 11), (nat_lit 0, nat_lit 29, nat_lit 12), (nat_lit 0, nat_lit 30, nat_lit 13), (nat_lit 0, nat_lit 31, nat_lit 14), (nat_lit 0, nat_lit 32, nat_lit 15), (nat_lit 0, nat_lit 33, nat_lit 16), (nat_lit 0, nat_lit 34, nat_lit 17), (nat_lit 0, nat_lit 35, nat_lit 18), (nat_lit 0, nat_lit 36, nat_lit 19), (nat_lit 0, nat_lit 37, nat_lit 20), (nat_lit 0, nat_lit 38, nat_lit 21), (nat_lit 0, nat_lit 39, nat_lit 22), (nat_lit 0, nat_lit 40, nat_lit 23), (nat_lit 0, nat_lit 47, nat_lit 24), (nat_lit 0, nat_lit 48, nat_lit 25), (nat_lit 0, nat_lit 50, nat_lit 26), (nat_lit 0, nat_lit 51, nat_lit 27), (nat_lit 0, nat_lit 52, nat_lit 28), (nat_lit 0, nat_lit 53, nat_lit 29), (nat_lit 0, nat_lit 54, nat_lit 30), (nat_lit 0, nat_lit 55, nat_lit 31), (nat_lit 0, nat_lit 56, nat_lit 32), (nat_lit 0, nat_lit 57, nat_lit 33), (nat_lit 0, nat_lit 58, nat_lit 34), (nat_lit 0, nat_lit 59, nat_lit 35), (nat_lit 0, nat_lit 72, nat_lit 36), (nat_lit 0, nat_lit 73, nat_lit 37), (nat_lit 0, nat_lit 76, nat_lit 38), (nat_lit 0, nat_lit 77, nat_lit 39), (nat_lit 0, nat_lit 79, nat_lit 40), (nat_lit 0, nat_lit 81, nat_lit 41), (nat_lit 0, nat_lit 82, nat_lit 42)], []), (nat_lit 118, nat_lit 1, nat_lit 0, [(.inr (.inr (.inl (nat_lit 0)))), (.inl (nat_lit 1, (.ofNat (nat_lit 0))))], nat_lit 2, [(nat_lit 0, nat_lit 0, nat_lit 1), (nat_lit 0, nat_lit 3, nat_lit 2), (nat_lit 0, nat_lit 20, nat_lit 3), (nat_lit 0, nat_lit 21, nat_lit 4), (nat_lit 0, nat_lit 22, nat_lit 5), (nat_lit 0, nat_lit 23, nat_lit 6), (nat_lit 0, nat_lit 24, nat_lit 7), (nat_lit 0, nat_lit 25, nat_lit 8), (nat_lit 0, nat_lit 26, nat_lit 9), (nat_lit 0, nat_lit 27, nat_lit 10), (nat_lit 0, nat_lit 28, nat_lit 11), (nat_lit 0, nat_lit 29, nat_lit 12), (nat_lit 0, nat_lit 30, nat_lit 13), (nat_lit 0, nat_lit 31, nat_lit 14), (nat_lit 0, nat_lit 32, nat_lit 15), (nat_lit 0, nat_lit 33, nat_lit 16), (nat_lit 0, nat_lit 34, nat_lit 17), (nat_lit 0, nat_lit 35, nat_lit 18), (nat_lit 0, nat_lit 36, nat_lit 19), (nat_lit 0, nat_lit 37, nat_lit 20), (nat_lit 0, nat_lit 38, nat_lit 21), (nat_lit 0, nat_lit 39, nat_lit 22), (nat_lit 0, nat_lit 40, nat_lit 23), (nat_lit 0, nat_lit 47, nat_lit 24), (nat_lit 0, nat_lit 48, nat_lit 25), (nat_lit 0, nat_lit 50, nat_lit 26), (nat_lit 0, nat_lit 51, nat_lit 27), (nat_lit 0, nat_lit 52, nat_lit 28), (nat_lit 0, nat_lit 53, nat_lit 29), (nat_lit 0, nat_lit 54, nat_lit 30), (nat_lit 0, nat_lit 55, nat_lit 31), (nat_lit 0, nat_lit 56, nat_lit 32), (nat_lit 0, nat_lit 57, nat_lit 33), (nat_lit 0, nat_lit 58, nat_lit 34), (nat_lit 0, nat_lit 59, nat_lit 35), (nat_lit 0, nat_lit 72, nat_lit 36), (nat_lit 0, nat_lit 73, nat_lit 37), (nat_lit 0, nat_lit 76, nat_lit 38), (nat_lit 0, nat_lit 77, nat_lit 39), (nat_lit 0, nat_lit 79, nat_lit 40), (nat_lit 0, nat_lit 81, nat_lit 41), (nat_lit 0, nat_lit 82, nat_lit 42)], []), (nat_lit 145, nat_lit 2, nat_lit 0, [(.inr (.inr (.inl (nat_lit 0)))), (.inl (nat_lit 0, (.ofNat (nat_lit 0))))], nat_lit 0, [(nat_lit 0, nat_lit 0, nat_lit 1), (nat_lit 0, nat_lit 3, nat_lit 2), (nat_lit 0, nat_lit 20, nat_lit 3), (nat_lit 0, nat_lit 21, nat_lit 4), (nat_lit 0, nat_lit 22, nat_lit 5), (nat_lit 0, nat_lit 23, nat_lit 6), (nat_lit 0, nat_lit 24, nat_lit 7), (nat_lit 0, nat_lit 25, nat_lit 8), (nat_lit 0, nat_lit 26, nat_lit 9), (nat_lit 0, nat_lit 27, nat_lit 10), (nat_lit 0, nat_lit 28, nat_lit 11), (nat_lit 0, nat_lit 29, nat_lit 12), (nat_lit 0, nat_lit 30, nat_lit 13), (nat_lit 0, nat_lit 31, nat_lit 14), (nat_lit 0, nat_lit 32, nat_lit 15), (nat_lit 0, nat_lit 33, nat_lit 16), (nat_lit 0, nat_lit 34, nat_lit 17), (nat_lit 0, nat_lit 35, nat_lit 18), (nat_lit 0, nat_lit 36, nat_lit 19), (nat_lit 0, nat_lit 37, nat_lit 20), (nat_lit 0, nat_lit 38, nat_lit 21), (nat_lit 0, nat_lit 39, nat_lit 22), (nat_lit 0, nat_lit 40, nat_lit 23), (nat_lit 0, nat_lit 47, nat_lit 24), (nat_lit 0, nat_lit 48, nat_lit 25), (nat_lit 0, nat_lit 50, nat_lit 26), (nat_lit 0, nat_lit 51, nat_lit 27), (nat_lit 0, nat_lit 52, nat_lit 28), (nat_lit 0, nat_lit 53, nat_lit 29), (nat_lit 0, nat_lit 54, nat_lit 30), (nat_lit 0, nat_lit 55, nat_lit 31), (nat_lit 0, nat_lit 56, nat_lit 32), (nat_lit 0, nat_lit 57, nat_lit 33), (nat_lit 0, nat_lit 58, nat_lit 34), (nat_lit 0, nat_lit 59, nat_lit 35), (nat_lit 0, nat_lit 72, nat_lit 36), (nat_lit 0, nat_lit 73, nat_lit 37), (nat_lit 0, nat_lit 76, nat_lit 38), (nat_lit 0, nat_lit 77, nat_lit 39), (nat_lit 0, nat_lit 79, nat_lit 40), (nat_lit 0, nat_lit 81, nat_lit 41), (nat_lit 0, nat_lit 82, nat_lit 42)], []), (nat_lit 122, nat_lit 3, nat_lit 1, [(.inr (.inr (.inl (nat_lit 0))))], nat_lit 0, [(nat_lit 0, nat_lit 0, nat_lit 1), (nat_lit 0, nat_lit 3, nat_lit 2), (nat_lit 0, nat_lit 20, nat_lit 3), (nat_lit 0, nat_lit 21, nat_lit 4), (nat_lit 0, nat_lit 22, nat_lit 5), (nat_lit 0, nat_lit 23, nat_lit 6), (nat_lit 0, nat_lit 24, nat_lit 7), (nat_lit 0, nat_lit 25, nat_lit 8), (nat_lit 0, nat_lit 26, nat_lit 9), (nat_lit 0, nat_lit 27, nat_lit 10), (nat_lit 0, nat_lit 28, nat_lit 11), (nat_lit 0, nat_lit 29, nat_lit 12), (nat_lit 0, nat_lit 30, nat_lit 13), (nat_lit 0, nat_lit 31, nat_lit 14), (nat_lit 0, nat_lit 32, nat_lit 15), (nat_lit 0, nat_lit 33, nat_lit 16), (nat_lit 0, nat_lit 34, nat_lit 17), (nat_lit 0, nat_lit 35, nat_lit 18), (nat_lit 0, nat_lit 36, nat_lit 19), (nat_lit 0, nat_lit 37, nat_lit 20), (nat_lit 0, nat_lit 38, nat_lit 21), (nat_lit 0, nat_lit 39, nat_lit 22), (nat_lit 0, nat_lit 40, nat_lit 23), (nat_lit 0, nat_lit 47, nat_lit 24), (nat_lit 0, nat_lit 48, nat_lit 25), (nat_lit 0, nat_lit 50, nat_lit 26), (nat_lit 0, nat_lit 51, nat_lit 27), (nat_lit 0, nat_lit 52, nat_lit 28), (nat_lit 0, nat_lit 53, nat_lit 29), (nat_lit 0, nat_lit 54, nat_lit 30), (nat_lit 0, nat_lit 55, nat_lit 31), (nat_lit 0, nat_lit 56, nat_lit 32), (nat_lit 0, nat_lit 57, nat_lit 33), (nat_lit 0, nat_lit 58, nat_lit 34), (nat_lit 0, nat_lit 59, nat_lit 35), (nat_lit 0, nat_lit 72, nat_lit 36), (nat_lit 0, nat_lit 73, nat_lit 37), (nat_lit 0, nat_lit 76, nat_lit 38), (nat_lit 0, nat_lit 77, nat_lit 39), (nat_lit 0, nat_lit 79, nat_lit 40), (nat_lit 0, nat_lit 81, nat_lit 41), (nat_lit 0, nat_lit 82, nat_lit 42)], []), (nat_lit 125, nat_lit 4, nat_lit 0, [(.inr (.inr (.inl (nat_lit 0)))), (.inl (nat_lit 1, (.ofNat (nat_lit 0))))], nat_lit 2, [(nat_lit 0, nat_lit 0, nat_lit 1), (nat_lit 0, nat_lit 3, nat_lit 2), (nat_lit 0, nat_lit 20, nat_lit 3), (nat_lit 0, nat_lit 21, nat_lit 4), (nat_lit 0, nat_lit 22, nat_lit 5), (nat_lit 0, nat_lit 23, nat_lit 6), (nat_lit 0, nat_lit 24, nat_lit 7), (nat_lit 0, nat_lit 25, nat_lit 8), (nat_lit 0, nat_lit 26, nat_lit 9), (nat_lit 0, nat_lit 27, nat_lit 10), (nat_lit 0, nat_lit 28, nat_lit 11), (nat_lit 0, nat_lit 29, nat_lit 12), (nat_lit 0, nat_lit 30, nat_lit 13), (nat_lit 0, nat_lit 31, nat_lit 14), (nat_lit 0, nat_lit 32, nat_lit 15), (nat_lit 0, nat_lit 33, nat_lit 16), (nat_lit 0, nat_lit 34, nat_lit 17), (nat_lit 0, nat_lit 35, nat_lit 18), (nat_lit 0, nat_lit 36, nat_lit 19), (nat_lit 0, nat_lit 37, nat_lit 20), (nat_lit 0, nat_lit 38, nat_lit 21), (nat_lit 0, nat_lit 39, nat_lit 22), (nat_lit 0, nat_lit 40, nat_lit 23), (nat_lit 0, nat_lit 47, nat_lit 24), (nat_lit 0, nat_lit 48, nat_lit 25), (nat_lit 0, nat_lit 50, nat_lit 26), (nat_lit 0, nat_lit 51, nat_lit 27), (nat_lit 0, nat_lit 52, nat_lit 28), (nat_lit 0, nat_lit 53, nat_lit 29), (nat_lit 0, nat_lit 54, nat_lit 30), (nat_lit 0, nat_lit 55, nat_lit 31), (nat_lit 0, nat_lit 56, nat_lit 32), (nat_lit 0, nat_lit 57, nat_lit 33), (nat_lit 0, nat_lit 58, nat_lit 34), (nat_lit 0, nat_lit 59, nat_lit 35), (nat_lit 0, nat_lit 72, nat_lit 36), (nat_lit 0, nat_lit 73, nat_lit 37), (nat_lit 0, nat_lit 76, nat_lit 38), (nat_lit 0, nat_lit 77, nat_lit 39), (nat_lit 0, nat_lit 79, nat_lit 40), (nat_lit 0, nat_lit 81, nat_lit 41), (nat_lit 0, nat_lit 82, nat_lit 42)], []), (nat_lit 144, nat_lit 5, nat_lit 1, [(.inr (.inr (.inl (nat_lit 0))))], nat_lit 2, [(nat_lit 0, nat_lit 0, nat_lit 1), (nat_lit 0, nat_lit 3, nat_lit 2), (nat_lit 0, nat_lit 20, nat_lit 3), (nat_lit 0, nat_lit 21, nat_lit 4), (nat_lit 0, nat_lit 22, nat_lit 5), (nat_lit 0, nat_lit 23, nat_lit 6), (nat_lit 0, nat_lit 24, nat_lit 7), (nat_lit 0, nat_lit 25, nat_lit 8), (nat_lit 0, nat_lit 26, nat_lit 9), (nat_lit 0, nat_lit 27, nat_lit 10), (nat_lit 0, nat_lit 28, nat_lit 11), (nat_lit 0, nat_lit 29, nat_lit 12), (nat_lit 0, nat_lit 30, nat_lit 13), (nat_lit 0, nat_lit 31, nat_lit 14), (nat_lit 0, nat_lit 32, nat_lit 15), (nat_lit 0, nat_lit 33, nat_lit 16), (nat_lit 0, nat_lit 34, nat_lit 17), (nat_lit 0, nat_lit 35, nat_lit 18), (nat_lit 0, nat_lit 36, nat_lit 19), (nat_lit 0, nat_lit 37, nat_lit 20), (nat_lit 0, nat_lit 38, nat_lit 21), (nat_lit 0, nat_lit 39, nat_lit 22), (nat_lit 0, nat_lit 40, nat_lit 23), (nat_lit 0, nat_lit 47, nat_lit 24), (nat_lit 0, nat_lit 48, nat_lit 25), (nat_lit 0, nat_lit 50, nat_lit 26), (nat_lit 0, nat_lit 51, nat_lit 27), (nat_lit 0, nat_lit 52, nat_lit 28), (nat_lit 0, nat_lit 53, nat_lit 29), (nat_lit 0, nat_lit 54, nat_lit 30), (nat_lit 0, nat_lit 55, nat_lit 31), (nat_lit 0, nat_lit 56, nat_lit 32), (nat_lit 0, nat_lit 57, nat_lit 33), (nat_lit 0, nat_lit 58, nat_lit 34), (nat_lit 0, nat_lit 59, nat_lit 35), (nat_lit 0, nat_lit 72, nat_lit 36), (nat_lit 0, nat_lit 73, nat_lit 37), (nat_lit 0, nat_lit 76, nat_lit 38), (nat_lit 0, nat_lit 77, nat_lit 39), (nat_lit 0, nat_lit 79, nat_lit 40), (nat_lit 0, nat_lit 81, nat_lit 41), (nat_lit 0, nat_lit 82, nat_lit 42)], []), (nat_lit 145, nat_lit 6, nat_lit 0, [(.inr (.inr (.inl (nat_lit 0)))), (.inl (nat_lit 0, (.ofNat (nat_lit 2))))], nat_lit 0, [(nat_lit 0, nat_lit 0, nat_lit 1), (nat_lit 0, nat_lit 3, nat_lit 2), (nat_lit 0, nat_lit 20, nat_lit 3), (nat_lit 0, nat_lit 21, nat_lit 4), (nat_lit 0, nat_lit 22, nat_lit 5), (nat_lit 0, nat_lit 23, nat_lit 6), (nat_lit 0, nat_lit 24, nat_lit 7), (nat_lit 0, nat_lit 25, nat_lit 8), (nat_lit 0, nat_lit 26, nat_lit 9), (nat_lit 0, nat_lit 27, nat_lit 10), (nat_lit 0, nat_lit 28, nat_lit 11), (nat_lit 0, nat_lit 29, nat_lit 12), (nat_lit 0, nat_lit 30, nat_lit 13), (nat_lit 0, nat_lit 31, nat_lit 14), (nat_lit 0, nat_lit 32, nat_lit 15), (nat_lit 0, nat_lit 33, nat_lit 16), (nat_lit 0, nat_lit 34, nat_lit 17), (nat_lit 0, nat_lit 35, nat_lit 18), (nat_lit 0, nat_lit 36, nat_lit 19), (nat_lit 0, nat_lit 37, nat_lit 20), (nat_lit 0, nat_lit 38, nat_lit 21), (nat_lit 0, nat_lit 39, nat_lit 22), (nat_lit 0, nat_lit 40, nat_lit 23), (nat_lit 0, nat_lit 47, nat_lit 24), (nat_lit 0, nat_lit 48, nat_lit 25), (nat_lit 0, nat_lit 50, nat_lit 26), (nat_lit 0, nat_lit 51, nat_lit 27), (nat_lit 0, nat_lit 52, nat_lit 28), (nat_lit 0, nat_lit 53, nat_lit 29), (nat_lit 0, nat_lit 54, nat_lit 30), (nat_lit 0, nat_lit 55, nat_lit 31), (nat_lit 0, nat_lit 56, nat_lit 32), (nat_lit 0, nat_lit 57, nat_lit 33), (nat_lit 0, nat_lit 58, nat_lit 34), (nat_lit 0, nat_lit 59, nat_lit 35), (nat_lit 0, nat_lit 72, nat_lit 36), (nat_lit 0, nat_lit 73, nat_lit 37), (nat_lit 0, nat_lit 76, nat_lit 38), (nat_lit 0, nat_lit 77, nat_lit 39), (nat_lit 0, nat_lit 79, nat_lit 40), (nat_lit 0, nat_lit 81, nat_lit 41), (nat_lit 0, nat_lit 82, nat_lit 42)], []), (nat_lit 146, nat_lit 7, nat_lit 0, [(.inr (.inr (.inl (nat_lit 0))))], nat_lit 1, [(nat_lit 0, nat_lit 0, nat_lit 1), (nat_lit 0, nat_lit 3, nat_lit 2), (nat_lit 0, nat_lit 20, nat_lit 3), (nat_lit 0, nat_lit 21, nat_lit 4), (nat_lit 0, nat_lit 22, nat_lit 5), (nat_lit 0, nat_lit 23, nat_lit 6), (nat_lit 0, nat_lit 24, nat_lit 7), (nat_lit 0, nat_lit 25, nat_lit 8), (nat_lit 0, nat_lit 26, nat_lit 9), (nat_lit 0, nat_lit 27, nat_lit 10), (nat_lit 0, nat_lit 28, nat_lit 11), (nat_lit 0, nat_lit 29, nat_lit 12), (nat_lit 0, nat_lit 30, nat_lit 13), (nat_lit 0, nat_lit 31, nat_lit 14), (nat_lit 0, nat_lit 32, nat_lit 15), (nat_lit 0, nat_lit 33, nat_lit 16), (nat_lit 0, nat_lit 34, nat_lit 17), (nat_lit 0, nat_lit 35, nat_lit 18), (nat_lit 0, nat_lit 36, nat_lit 19), (nat_lit 0, nat_lit 37, nat_lit 20), (nat_lit 0, nat_lit 38, nat_lit 21), (nat_lit 0, nat_lit 39, nat_lit 22), (nat_lit 0, nat_lit 40, nat_lit 23), (nat_lit 0, nat_lit 47, nat_lit 24), (nat_lit 0, nat_lit 48, nat_lit 25), (nat_lit 0, nat_lit 50, nat_lit 26), (nat_lit 0, nat_lit 51, nat_lit 27), (nat_lit 0, nat_lit 52, nat_lit 28), (nat_lit 0, nat_lit 53, nat_lit 29), (nat_lit 0, nat_lit 54, nat_lit 30), (nat_lit 0, nat_lit 55, nat_lit 31), (nat_lit 0, nat_lit 56, nat_lit 32), (nat_lit 0, nat_lit 57, nat_lit 33), (nat_lit 0, nat_lit 58, nat_lit 34), (nat_lit 0, nat_lit 59, nat_lit 35), (nat_lit 0, nat_lit 72, nat_lit 36), (nat_lit 0, nat_lit 73, nat_lit 37), (nat_lit 0, nat_lit 76, nat_lit 38), (nat_lit 0, nat_lit 77, nat_lit 39), (nat_lit 0, nat_lit 79, nat_lit 40), (nat_lit 0, nat_lit 81, nat_lit 41), (nat_lit 0, nat_lit 82, nat_lit 42)], []), (nat_lit 141, nat_lit 8, nat_lit 0, [(.inr (.inr (.inl (nat_lit 0)))), (.inl (nat_lit 1, (.ofNat (nat_lit 0)))), (.inl (nat_lit 2, (.ofNat (nat_lit 0)))), (.inl (nat_lit 3, (.ofNat (nat_lit 0))))], nat_lit 0, [(nat_lit 0, nat_lit 0, nat_lit 1), (nat_lit 0, nat_lit 3, nat_lit 2), (nat_lit 0, nat_lit 20, nat_lit 3), (nat_lit 0, nat_lit 21, nat_lit 4), (nat_lit 0, nat_lit 22, nat_lit 5), (nat_lit 0, nat_lit 23, nat_lit 6), (nat_lit 0, nat_lit 24, nat_lit 7), (nat_lit 0, nat_lit 25, nat_lit 8), (nat_lit 0, nat_lit 26, nat_lit 9), (nat_lit 0, nat_lit 27, nat_lit 10), (nat_lit 0, nat_lit 28, nat_lit 11), (nat_lit 0, nat_lit 29, nat_lit 12), (nat_lit 0, nat_lit 30, nat_lit 13), (nat_lit 0, nat_lit 31, nat_lit 14), (nat_lit 0, nat_lit 32, nat_lit 15), (nat_lit 0, nat_lit 33, nat_lit 16), (nat_lit 0, nat_lit 34, nat_lit 17), (nat_lit 0, nat_lit 35, nat_lit 18), (nat_lit 0, nat_lit 36, nat_lit 19), (nat_lit 0, nat_lit 37, nat_lit 20), (nat_lit 0, nat_lit 38, nat_lit 21), (nat_lit 0, nat_lit 39, nat_lit 22), (nat_lit 0, nat_lit 40, nat_lit 23), (nat_lit 0, nat_lit 47, nat_lit 24), (nat_lit 0, nat_lit 48, nat_lit 25), (nat_lit 0, nat_lit 50, nat_lit 26), (nat_lit 0, nat_lit 51, nat_lit 27), (nat_lit 0, nat_lit 52, nat_lit 28), (nat_lit 0, nat_lit 53, nat_lit 29), (nat_lit 0, nat_lit 54, nat_lit 30), (nat_lit 0, nat_lit 55, nat_lit 31), (nat_lit 0, nat_lit 56, nat_lit 32), (nat_lit 0, nat_lit 57, nat_lit 33), (nat_lit 0, nat_lit 58, nat_lit 34), (nat_lit 0, nat_lit 59, nat_lit 35), (nat_lit 0, nat_lit 72, nat_lit 36), (nat_lit 0, nat_lit 73, nat_lit 37), (nat_lit 0, nat_lit 76, nat_lit 38), (nat_lit 0, nat_lit 77, nat_lit 39), (nat_lit 0, nat_lit 79, nat_lit 40), (nat_lit 0, nat_lit 81, nat_lit 41), (nat_lit 0, nat_lit 82, nat_lit 42)], [])]) (cu := []) (cs := [(nat_lit 0, zPl_isSign, zOl_isSign, zMl_isSign), (nat_lit 1, zPl_wrong, zOl_wrong, zMl_wrong), (nat_lit 2, zPl_waitsFor0, zOl_waitsFor0, zMl_waitsFor0), (nat_lit 3, zPl_token, zOl_token, zMl_token), (nat_lit 4, zPl_isKey, zOl_isKey, zMl_isKey), (nat_lit 5, zPl_isCounted, zOl_isCounted, zMl_isCounted), (nat_lit 6, zPl_waitsFor2, zOl_waitsFor2, zMl_waitsFor2), (nat_lit 7, zPl_nameMet, zOl_nameMet, zMl_nameMet), (nat_lit 8, zPl_grown, zOl_grown, zMl_grown)]) (iv := zVl_leafRead) (po := [zOl_leafRead]) (pr := zPl_leafRead) (mods := zMl_leafRead) (D7 := zDl_leafRead) (D0 := zEl_leafRead) (Dm := zFl_leafRead) (f0 := 50) pCl_leafRead qCl_leafRead iCl_leafRead pPl_leafRead (fun xs η _ y η' => pQl_leafRead xs η y η') zX_low pr_mtR rfl (List.forall_mem_cons.mpr ⟨zl_isSign, List.forall_mem_cons.mpr ⟨zl_wrong, List.forall_mem_cons.mpr ⟨zl_waitsFor0, List.forall_mem_cons.mpr ⟨zl_token, List.forall_mem_cons.mpr ⟨zl_isKey, List.forall_mem_cons.mpr ⟨zl_isCounted, List.forall_mem_cons.mpr ⟨zl_waitsFor2, List.forall_mem_cons.mpr ⟨zl_nameMet, List.forall_mem_cons.mpr ⟨zl_grown, fun _ h => nomatch h⟩⟩⟩⟩⟩⟩⟩⟩⟩) (by decide +kernel) (by decide +kernel) (by decide +kernel)
    (by
      intro xs η hr hl hp hpp
      match xs, hl, hp, hpp with
      | [], _, hp, hpp =>
        refine List.forall_mem_cons.mpr ⟨?_, List.forall_mem_cons.mpr ⟨?_, List.forall_mem_cons.mpr ⟨?_, List.forall_mem_cons.mpr ⟨?_, List.forall_mem_cons.mpr ⟨?_, List.forall_mem_cons.mpr ⟨?_, List.forall_mem_cons.mpr ⟨?_, List.forall_mem_cons.mpr ⟨?_, List.forall_mem_cons.mpr ⟨?_, List.forall_mem_cons.mpr ⟨?_, List.forall_mem_cons.mpr ⟨?_, List.forall_mem_cons.mpr ⟨?_, List.forall_mem_cons.mpr ⟨?_, List.forall_mem_cons.mpr ⟨?_, List.forall_mem_cons.mpr ⟨?_, List.forall_mem_cons.mpr ⟨?_, List.forall_mem_cons.mpr ⟨?_, List.forall_mem_cons.mpr ⟨?_, List.forall_mem_cons.mpr ⟨?_, List.forall_mem_cons.mpr ⟨?_, List.forall_mem_cons.mpr ⟨?_, List.forall_mem_cons.mpr ⟨?_, List.forall_mem_cons.mpr ⟨?_, List.forall_mem_cons.mpr ⟨?_, List.forall_mem_cons.mpr ⟨?_, List.forall_mem_cons.mpr ⟨?_, List.forall_mem_cons.mpr ⟨?_, List.forall_mem_cons.mpr ⟨?_, List.forall_mem_cons.mpr ⟨?_, List.forall_mem_cons.mpr ⟨?_, List.forall_mem_cons.mpr ⟨?_, List.forall_mem_cons.mpr ⟨?_, List.forall_mem_cons.mpr ⟨?_, List.forall_mem_cons.mpr ⟨?_, List.forall_mem_cons.mpr ⟨?_, List.forall_mem_cons.mpr ⟨?_, List.forall_mem_cons.mpr ⟨?_, List.forall_mem_cons.mpr ⟨?_, List.forall_mem_cons.mpr ⟨?_, List.forall_mem_cons.mpr ⟨?_, List.forall_mem_cons.mpr ⟨?_, List.forall_mem_cons.mpr ⟨?_, fun _ h => nomatch h⟩⟩⟩⟩⟩⟩⟩⟩⟩⟩⟩⟩⟩⟩⟩⟩⟩⟩⟩⟩⟩⟩⟩⟩⟩⟩⟩⟩⟩⟩⟩⟩⟩⟩⟩⟩⟩⟩⟩⟩⟩⟩
        · show ((gC2 wl_l [(nat_lit 0, zPl_isSign, zOl_isSign, zMl_isSign), (nat_lit 1, zPl_wrong, zOl_wrong, zMl_wrong), (nat_lit 2, zPl_waitsFor0, zOl_waitsFor0, zMl_waitsFor0), (nat_lit 3, zPl_token, zOl_token, zMl_token), (nat_lit 4, zPl_isKey, zOl_isKey, zMl_isKey), (nat_lit 5, zPl_isCounted, zOl_isCounted, zMl_isCounted), (nat_lit 6, zPl_waitsFor2, zOl_waitsFor2, zMl_waitsFor2), (nat_lit 7, zPl_nameMet, zOl_nameMet, zMl_nameMet), (nat_lit 8, zPl_grown, zOl_grown, zMl_grown)] pCl_leafRead qCl_leafRead) 0).1 [40] η
          have hw : η 0 45 = 1 := hpp.2
          have hs : η 0 7 ≤ η 0 6 := hpp.1.1.1.1
          have bd43 : (0 : Int) ≤ η 0 43 ∧ η 0 43 ≤ 8 := wf_ok (a := 43) (b := 43) (z := (0, 8)) hp.1 (by decide +kernel) (Nat.le_refl _) (Nat.le_refl _)
          have bd44 : (0 : Int) ≤ η 0 44 ∧ η 0 44 ≤ 64 := wf_ok (a := 44) (b := 44) (z := (0, 64)) hp.1 (by decide +kernel) (Nat.le_refl _) (Nat.le_refl _)
          have bd19 : (0 : Int) ≤ η 0 19 ∧ η 0 19 ≤ 64 := wf_ok (a := 19) (b := 19) (z := (0, 64)) hp.1 (by decide +kernel) (Nat.le_refl _) (Nat.le_refl _)
          have fmE : zFm zMl_leafRead η η := zFm_rf
          have fr22_0 : ∀ j, η 22 j = η 22 j := fun _ => rfl
          have fr22 : ∀ j, η 22 j = η 22 j := fun _ => rfl
          have f0_41 : η 0 41 = η 0 41 := rfl
          have w0_0_43 : (0 : Int) ≤ η 0 43 ∧ η 0 43 ≤ 8 := wf_ok (a := 43) (b := 43) (z := (0, 8)) hp.1 (by decide +kernel) (Nat.le_refl _) (Nat.le_refl _)
          have f0_43 : η 0 43 = η 0 43 := rfl
          have f0_42 : η 0 42 = η 0 42 := rfl
          have f0_45 : η 0 45 = η 0 45 := rfl
          have w0_0_19 : (0 : Int) ≤ η 0 19 ∧ η 0 19 ≤ 64 := wf_ok (a := 19) (b := 19) (z := (0, 64)) hp.1 (by decide +kernel) (Nat.le_refl _) (Nat.le_refl _)
          have f0_19 : η 0 19 = η 0 19 := rfl
          have w0_0_44 : (0 : Int) ≤ η 0 44 ∧ η 0 44 ≤ 64 := wf_ok (a := 44) (b := 44) (z := (0, 64)) hp.1 (by decide +kernel) (Nat.le_refl _) (Nat.le_refl _)
          have f0_44 : η 0 44 = η 0 44 := rfl
          have w0_0_7 : (0 : Int) ≤ η 0 7 ∧ η 0 7 ≤ 700 := wf_ok (a := 7) (b := 7) (z := (0, 700)) hp.1 (by decide +kernel) (Nat.le_refl _) (Nat.le_refl _)
          have f0_7 : η 0 7 = η 0 7 := rfl
          have w0_0_6 : (0 : Int) ≤ η 0 6 ∧ η 0 6 ≤ 700 := wf_ok (a := 6) (b := 6) (z := (0, 700)) hp.1 (by decide +kernel) (Nat.le_refl _) (Nat.le_refl _)
          have f0_6 : η 0 6 = η 0 6 := rfl
          have w0_0_8 : (0 : Int) ≤ η 0 8 ∧ η 0 8 ≤ 6 := wf_ok (a := 8) (b := 8) (z := (0, 6)) hp.1 (by decide +kernel) (Nat.le_refl _) (Nat.le_refl _)
          have f0_8 : η 0 8 = η 0 8 := rfl
          have wbE : wB wl_l zTr η := hp.1
          have I0 : H_l 0 0 0 η := hpp.1
          exact I0
        · show ∀ (x1 : Int) (η1 : zE), ((gC2 wl_l [(nat_lit 0, zPl_isSign, zOl_isSign, zMl_isSign), (nat_lit 1, zPl_wrong, zOl_wrong, zMl_wrong), (nat_lit 2, zPl_waitsFor0, zOl_waitsFor0, zMl_waitsFor0), (nat_lit 3, zPl_token, zOl_token, zMl_token), (nat_lit 4, zPl_isKey, zOl_isKey, zMl_isKey), (nat_lit 5, zPl_isCounted, zOl_isCounted, zMl_isCounted), (nat_lit 6, zPl_waitsFor2, zOl_waitsFor2, zMl_waitsFor2), (nat_lit 7, zPl_nameMet, zOl_nameMet, zMl_nameMet), (nat_lit 8, zPl_grown, zOl_grown, zMl_grown)] pCl_leafRead qCl_leafRead) 0).2 [40] η x1 η1 → (x1 = 0) → ((gC2 wl_l [(nat_lit 0, zPl_isSign, zOl_isSign, zMl_isSign), (nat_lit 1, zPl_wrong, zOl_wrong, zMl_wrong), (nat_lit 2, zPl_waitsFor0, zOl_waitsFor0, zMl_waitsFor0), (nat_lit 3, zPl_token, zOl_token, zMl_token), (nat_lit 4, zPl_isKey, zOl_isKey, zMl_isKey), (nat_lit 5, zPl_isCounted, zOl_isCounted, zMl_isCounted), (nat_lit 6, zPl_waitsFor2, zOl_waitsFor2, zMl_waitsFor2), (nat_lit 7, zPl_nameMet, zOl_nameMet, zMl_nameMet), (nat_lit 8, zPl_grown, zOl_grown, zMl_grown)] pCl_leafRead qCl_leafRead) 4).1 [12] η1
          have hw : η 0 45 = 1 := hpp.2
          have hs : η 0 7 ≤ η 0 6 := hpp.1.1.1.1
          have bd43 : (0 : Int) ≤ η 0 43 ∧ η 0 43 ≤ 8 := wf_ok (a := 43) (b := 43) (z := (0, 8)) hp.1 (by decide +kernel) (Nat.le_refl _) (Nat.le_refl _)
          have bd44 : (0 : Int) ≤ η 0 44 ∧ η 0 44 ≤ 64 := wf_ok (a := 44) (b := 44) (z := (0, 64)) hp.1 (by decide +kernel) (Nat.le_refl _) (Nat.le_refl _)
          have bd19 : (0 : Int) ≤ η 0 19 ∧ η 0 19 ≤ 64 := wf_ok (a := 19) (b := 19) (z := (0, 64)) hp.1 (by decide +kernel) (Nat.le_refl _) (Nat.le_refl _)
          intro x1 η1 h1 c1
          have k1 : sQ wl_l zTr zOl_isSign zMl_isSign [40] η x1 η1 ∧ pQl_isSign [40] η x1 η1 := h1
          have c0_0_41 : η 0 41 = η 0 41 := rfl
          have w0_0_43 : (0 : Int) ≤ η 0 43 ∧ η 0 43 ≤ 8 := wf_ok (a := 43) (b := 43) (z := (0, 8)) hp.1 (by decide +kernel) (Nat.le_refl _) (Nat.le_refl _)
          have c0_0_43 : η 0 43 = η 0 43 := rfl
          have c0_0_42 : η 0 42 = η 0 42 := rfl
          have c0_0_45 : η 0 45 = η 0 45 := rfl
          have w0_0_19 : (0 : Int) ≤ η 0 19 ∧ η 0 19 ≤ 64 := wf_ok (a := 19) (b := 19) (z := (0, 64)) hp.1 (by decide +kernel) (Nat.le_refl _) (Nat.le_refl _)
          have c0_0_19 : η 0 19 = η 0 19 := rfl
          have w0_0_44 : (0 : Int) ≤ η 0 44 ∧ η 0 44 ≤ 64 := wf_ok (a := 44) (b := 44) (z := (0, 64)) hp.1 (by decide +kernel) (Nat.le_refl _) (Nat.le_refl _)
          have c0_0_44 : η 0 44 = η 0 44 := rfl
          have w0_0_7 : (0 : Int) ≤ η 0 7 ∧ η 0 7 ≤ 700 := wf_ok (a := 7) (b := 7) (z := (0, 700)) hp.1 (by decide +kernel) (Nat.le_refl _) (Nat.le_refl _)
          have c0_0_7 : η 0 7 = η 0 7 := rfl
          have w0_0_6 : (0 : Int) ≤ η 0 6 ∧ η 0 6 ≤ 700 := wf_ok (a := 6) (b := 6) (z := (0, 700)) hp.1 (by decide +kernel) (Nat.le_refl _) (Nat.le_refl _)
          have c0_0_6 : η 0 6 = η 0 6 := rfl
          have w0_0_8 : (0 : Int) ≤ η 0 8 ∧ η 0 8 ≤ 6 := wf_ok (a := 8) (b := 8) (z := (0, 6)) hp.1 (by decide +kernel) (Nat.le_refl _) (Nat.le_refl _)
          have c0_0_8 : η 0 8 = η 0 8 := rfl
          have bx1 : (0 : Int) ≤ x1 ∧ x1 ≤ 1 := k1.1.2.1
          have fm1 : zFm zMl_leafRead η η1 := zFm_tr2 zFm_rf k1.1.2.2.2.1 (by decide +kernel)
          have fmE : zFm zMl_leafRead η η1 := fm1
          have fr22_0 : ∀ j, η 22 j = η 22 j := fun _ => rfl
          have v9 : ∀ j, η1 22 j = η 22 j := fun j => k1.1.2.2.2.1 22 _ (zinr_not (by decide +kernel))
          have fr22_1 : ∀ j, η1 22 j = η 22 j := v9
          have fr22 : ∀ j, η1 22 j = η 22 j := v9
          have v10 : η1 0 41 = η 0 41 := (k1.1.2.2.2.1 0 41 (by decide +kernel)).trans rfl
          have f0_41 : η1 0 41 = η 0 41 := v10
          have v11 : η1 0 43 = η 0 43 := (k1.1.2.2.2.1 0 43 (by decide +kernel)).trans rfl
          have f0_43 : η1 0 43 = η 0 43 := v11
          have v12 : η1 0 42 = η 0 42 := (k1.1.2.2.2.1 0 42 (by decide +kernel)).trans rfl
          have f0_42 : η1 0 42 = η 0 42 := v12
          have v13 : η1 0 45 = η 0 45 := (k1.1.2.2.2.1 0 45 (by decide +kernel)).trans rfl
          have f0_45 : η1 0 45 = η 0 45 := v13
          have v14 : η1 0 19 = η 0 19 := (k1.1.2.2.2.1 0 19 (by decide +kernel)).trans rfl
          have f0_19 : η1 0 19 = η 0 19 := v14
          have v15 : η1 0 44 = η 0 44 := (k1.1.2.2.2.1 0 44 (by decide +kernel)).trans rfl
          have f0_44 : η1 0 44 = η 0 44 := v15
          have v16 : η1 0 7 = η 0 7 := (k1.1.2.2.2.1 0 7 (by decide +kernel)).trans rfl
          have f0_7 : η1 0 7 = η 0 7 := v16
          have v17 : η1 0 6 = η 0 6 := (k1.1.2.2.2.1 0 6 (by decide +kernel)).trans rfl
          have f0_6 : η1 0 6 = η 0 6 := v17
          have v18 : η1 0 8 = η 0 8 := (k1.1.2.2.2.1 0 8 (by decide +kernel)).trans rfl
          have f0_8 : η1 0 8 = η 0 8 := v18
          have wb1 : wB wl_l zTr η1 := k1.1.1
          have wbE : wB wl_l zTr η1 := wb1
          have I0 : H_l 0 0 0 η := hpp.1
          have I1 : H_l 0 0 0 η1 := k1.2.1
          exact I1
        · show ∀ (x1 : Int) (η1 : zE), ((gC2 wl_l [(nat_lit 0, zPl_isSign, zOl_isSign, zMl_isSign), (nat_lit 1, zPl_wrong, zOl_wrong, zMl_wrong), (nat_lit 2, zPl_waitsFor0, zOl_waitsFor0, zMl_waitsFor0), (nat_lit 3, zPl_token, zOl_token, zMl_token), (nat_lit 4, zPl_isKey, zOl_isKey, zMl_isKey), (nat_lit 5, zPl_isCounted, zOl_isCounted, zMl_isCounted), (nat_lit 6, zPl_waitsFor2, zOl_waitsFor2, zMl_waitsFor2), (nat_lit 7, zPl_nameMet, zOl_nameMet, zMl_nameMet), (nat_lit 8, zPl_grown, zOl_grown, zMl_grown)] pCl_leafRead qCl_leafRead) 0).2 [40] η x1 η1 → (x1 = 0) → ∀ (x2 : Int) (η2 : zE), ((gC2 wl_l [(nat_lit 0, zPl_isSign, zOl_isSign, zMl_isSign), (nat_lit 1, zPl_wrong, zOl_wrong, zMl_wrong), (nat_lit 2, zPl_waitsFor0, zOl_waitsFor0, zMl_waitsFor0), (nat_lit 3, zPl_token, zOl_token, zMl_token), (nat_lit 4, zPl_isKey, zOl_isKey, zMl_isKey), (nat_lit 5, zPl_isCounted, zOl_isCounted, zMl_isCounted), (nat_lit 6, zPl_waitsFor2, zOl_waitsFor2, zMl_waitsFor2), (nat_lit 7, zPl_nameMet, zOl_nameMet, zMl_nameMet), (nat_lit 8, zPl_grown, zOl_grown, zMl_grown)] pCl_leafRead qCl_leafRead) 4).2 [12] η1 x2 η2 → (x2 = 0) → ((gC2 wl_l [(nat_lit 0, zPl_isSign, zOl_isSign, zMl_isSign), (nat_lit 1, zPl_wrong, zOl_wrong, zMl_wrong), (nat_lit 2, zPl_waitsFor0, zOl_waitsFor0, zMl_waitsFor0), (nat_lit 3, zPl_token, zOl_token, zMl_token), (nat_lit 4, zPl_isKey, zOl_isKey, zMl_isKey), (nat_lit 5, zPl_isCounted, zOl_isCounted, zMl_isCounted), (nat_lit 6, zPl_waitsFor2, zOl_waitsFor2, zMl_waitsFor2), (nat_lit 7, zPl_nameMet, zOl_nameMet, zMl_nameMet), (nat_lit 8, zPl_grown, zOl_grown, zMl_grown)] pCl_leafRead qCl_leafRead) 7).1 [] η2
          have hw : η 0 45 = 1 := hpp.2
          have hs : η 0 7 ≤ η 0 6 := hpp.1.1.1.1
          have bd43 : (0 : Int) ≤ η 0 43 ∧ η 0 43 ≤ 8 := wf_ok (a := 43) (b := 43) (z := (0, 8)) hp.1 (by decide +kernel) (Nat.le_refl _) (Nat.le_refl _)
          have bd44 : (0 : Int) ≤ η 0 44 ∧ η 0 44 ≤ 64 := wf_ok (a := 44) (b := 44) (z := (0, 64)) hp.1 (by decide +kernel) (Nat.le_refl _) (Nat.le_refl _)
          have bd19 : (0 : Int) ≤ η 0 19 ∧ η 0 19 ≤ 64 := wf_ok (a := 19) (b := 19) (z := (0, 64)) hp.1 (by decide +kernel) (Nat.le_refl _) (Nat.le_refl _)
          intro x1 η1 h1 c1 x2 η2 h2 c2
          have k1 : sQ wl_l zTr zOl_isSign zMl_isSign [40] η x1 η1 ∧ pQl_isSign [40] η x1 η1 := h1
          have k2 : sQ wl_l zTr zOl_isKey zMl_isKey [12] η1 x2 η2 ∧ pQl_isKey [12] η1 x2 η2 := h2
          have c0_0_41 : η 0 41 = η 0 41 := rfl
          have w0_0_43 : (0 : Int) ≤ η 0 43 ∧ η 0 43 ≤ 8 := wf_ok (a := 43) (b := 43) (z := (0, 8)) hp.1 (by decide +kernel) (Nat.le_refl _) (Nat.le_refl _)
          have c0_0_43 : η 0 43 = η 0 43 := rfl
          have c0_0_42 : η 0 42 = η 0 42 := rfl
          have c0_0_45 : η 0 45 = η 0 45 := rfl
          have w0_0_19 : (0 : Int) ≤ η 0 19 ∧ η 0 19 ≤ 64 := wf_ok (a := 19) (b := 19) (z := (0, 64)) hp.1 (by decide +kernel) (Nat.le_refl _) (Nat.le_refl _)
          have c0_0_19 : η 0 19 = η 0 19 := rfl
          have w0_0_44 : (0 : Int) ≤ η 0 44 ∧ η 0 44 ≤ 64 := wf_ok (a := 44) (b := 44) (z := (0, 64)) hp.1 (by decide +kernel) (Nat.le_refl _) (Nat.le_refl _)
          have c0_0_44 : η 0 44 = η 0 44 := rfl
          have w0_0_7 : (0 : Int) ≤ η 0 7 ∧ η 0 7 ≤ 700 := wf_ok (a := 7) (b := 7) (z := (0, 700)) hp.1 (by decide +kernel) (Nat.le_refl _) (Nat.le_refl _)
          have c0_0_7 : η 0 7 = η 0 7 := rfl
          have w0_0_6 : (0 : Int) ≤ η 0 6 ∧ η 0 6 ≤ 700 := wf_ok (a := 6) (b := 6) (z := (0, 700)) hp.1 (by decide +kernel) (Nat.le_refl _) (Nat.le_refl _)
          have c0_0_6 : η 0 6 = η 0 6 := rfl
          have w0_0_8 : (0 : Int) ≤ η 0 8 ∧ η 0 8 ≤ 6 := wf_ok (a := 8) (b := 8) (z := (0, 6)) hp.1 (by decide +kernel) (Nat.le_refl _) (Nat.le_refl _)
          have c0_0_8 : η 0 8 = η 0 8 := rfl
          have bx1 : (0 : Int) ≤ x1 ∧ x1 ≤ 1 := k1.1.2.1
          have v9 : η1 0 41 = η 0 41 := (k1.1.2.2.2.1 0 41 (by decide +kernel)).trans rfl
          have c1_0_41 : η1 0 41 = η 0 41 := v9
          have v10 : η1 0 43 = η 0 43 := (k1.1.2.2.2.1 0 43 (by decide +kernel)).trans rfl
          have c1_0_43 : η1 0 43 = η 0 43 := v10
          have v11 : η1 0 42 = η 0 42 := (k1.1.2.2.2.1 0 42 (by decide +kernel)).trans rfl
          have c1_0_42 : η1 0 42 = η 0 42 := v11
          have v12 : η1 0 45 = η 0 45 := (k1.1.2.2.2.1 0 45 (by decide +kernel)).trans rfl
          have c1_0_45 : η1 0 45 = η 0 45 := v12
          have v13 : η1 0 19 = η 0 19 := (k1.1.2.2.2.1 0 19 (by decide +kernel)).trans rfl
          have c1_0_19 : η1 0 19 = η 0 19 := v13
          have v14 : η1 0 44 = η 0 44 := (k1.1.2.2.2.1 0 44 (by decide +kernel)).trans rfl
          have c1_0_44 : η1 0 44 = η 0 44 := v14
          have v15 : η1 0 7 = η 0 7 := (k1.1.2.2.2.1 0 7 (by decide +kernel)).trans rfl
          have c1_0_7 : η1 0 7 = η 0 7 := v15
          have v16 : η1 0 6 = η 0 6 := (k1.1.2.2.2.1 0 6 (by decide +kernel)).trans rfl
          have c1_0_6 : η1 0 6 = η 0 6 := v16
          have v17 : η1 0 8 = η 0 8 := (k1.1.2.2.2.1 0 8 (by decide +kernel)).trans rfl
          have c1_0_8 : η1 0 8 = η 0 8 := v17
          have bx2 : (0 : Int) ≤ x2 ∧ x2 ≤ 1 := k2.1.2.1
          have fm1 : zFm zMl_leafRead η η1 := zFm_tr2 zFm_rf k1.1.2.2.2.1 (by decide +kernel)
          have fm2 : zFm zMl_leafRead η η2 := zFm_tr2 fm1 k2.1.2.2.2.1 (by decide +kernel)
          have fmE : zFm zMl_leafRead η η2 := fm2
          have fr22_0 : ∀ j, η 22 j = η 22 j := fun _ => rfl
          have v18 : ∀ j, η1 22 j = η 22 j := fun j => k1.1.2.2.2.1 22 _ (zinr_not (by decide +kernel))
          have fr22_1 : ∀ j, η1 22 j = η 22 j := v18
          have v19 : ∀ j, η2 22 j = η 22 j := fun j => (k2.1.2.2.2.1 22 _ (zinr_not (by decide +kernel))).trans (v18 j)
          have fr22_2 : ∀ j, η2 22 j = η 22 j := v19
          have fr22 : ∀ j, η2 22 j = η 22 j := v19
          have v20 : η2 0 41 = η 0 41 := (k2.1.2.2.2.1 0 41 (by decide +kernel)).trans v9
          have f0_41 : η2 0 41 = η 0 41 := v20
          have v21 : η2 0 43 = η 0 43 := (k2.1.2.2.2.1 0 43 (by decide +kernel)).trans v10
          have f0_43 : η2 0 43 = η 0 43 := v21
          have v22 : η2 0 42 = η 0 42 := (k2.1.2.2.2.1 0 42 (by decide +kernel)).trans v11
          have f0_42 : η2 0 42 = η 0 42 := v22
          have v23 : η2 0 45 = η 0 45 := (k2.1.2.2.2.1 0 45 (by decide +kernel)).trans v12
          have f0_45 : η2 0 45 = η 0 45 := v23
          have v24 : η2 0 19 = η 0 19 := (k2.1.2.2.2.1 0 19 (by decide +kernel)).trans v13
          have f0_19 : η2 0 19 = η 0 19 := v24
          have v25 : η2 0 44 = η 0 44 := (k2.1.2.2.2.1 0 44 (by decide +kernel)).trans v14
          have f0_44 : η2 0 44 = η 0 44 := v25
          have v26 : η2 0 7 = η 0 7 := (k2.1.2.2.2.1 0 7 (by decide +kernel)).trans v15
          have f0_7 : η2 0 7 = η 0 7 := v26
          have v27 : η2 0 6 = η 0 6 := (k2.1.2.2.2.1 0 6 (by decide +kernel)).trans v16
          have f0_6 : η2 0 6 = η 0 6 := v27
          have v28 : η2 0 8 = η 0 8 := (k2.1.2.2.2.1 0 8 (by decide +kernel)).trans v17
          have f0_8 : η2 0 8 = η 0 8 := v28
          have wb1 : wB wl_l zTr η1 := k1.1.1
          have wb2 : wB wl_l zTr η2 := k2.1.1
          have wbE : wB wl_l zTr η2 := wb2
          have I0 : H_l 0 0 0 η := hpp.1
          have I1 : H_l 0 0 0 η1 := k1.2.1
          have I2 : H_l 0 0 0 η2 := k2.2.1
          exact I2
        · show ∀ (x1 : Int) (η1 : zE), ((gC2 wl_l [(nat_lit 0, zPl_isSign, zOl_isSign, zMl_isSign), (nat_lit 1, zPl_wrong, zOl_wrong, zMl_wrong), (nat_lit 2, zPl_waitsFor0, zOl_waitsFor0, zMl_waitsFor0), (nat_lit 3, zPl_token, zOl_token, zMl_token), (nat_lit 4, zPl_isKey, zOl_isKey, zMl_isKey), (nat_lit 5, zPl_isCounted, zOl_isCounted, zMl_isCounted), (nat_lit 6, zPl_waitsFor2, zOl_waitsFor2, zMl_waitsFor2), (nat_lit 7, zPl_nameMet, zOl_nameMet, zMl_nameMet), (nat_lit 8, zPl_grown, zOl_grown, zMl_grown)] pCl_leafRead qCl_leafRead) 0).2 [40] η x1 η1 → (x1 = 0) → ∀ (x2 : Int) (η2 : zE), ((gC2 wl_l [(nat_lit 0, zPl_isSign, zOl_isSign, zMl_isSign), (nat_lit 1, zPl_wrong, zOl_wrong, zMl_wrong), (nat_lit 2, zPl_waitsFor0, zOl_waitsFor0, zMl_waitsFor0), (nat_lit 3, zPl_token, zOl_token, zMl_token), (nat_lit 4, zPl_isKey, zOl_isKey, zMl_isKey), (nat_lit 5, zPl_isCounted, zOl_isCounted, zMl_isCounted), (nat_lit 6, zPl_waitsFor2, zOl_waitsFor2, zMl_waitsFor2), (nat_lit 7, zPl_nameMet, zOl_nameMet, zMl_nameMet), (nat_lit 8, zPl_grown, zOl_grown, zMl_grown)] pCl_leafRead qCl_leafRead) 4).2 [12] η1 x2 η2 → (x2 = 0) → ∀ (x3 : Int) (η3 : zE), ((gC2 wl_l [(nat_lit 0, zPl_isSign, zOl_isSign, zMl_isSign), (nat_lit 1, zPl_wrong, zOl_wrong, zMl_wrong), (nat_lit 2, zPl_waitsFor0, zOl_waitsFor0, zMl_waitsFor0), (nat_lit 3, zPl_token, zOl_token, zMl_token), (nat_lit 4, zPl_isKey, zOl_isKey, zMl_isKey), (nat_lit 5, zPl_isCounted, zOl_isCounted, zMl_isCounted), (nat_lit 6, zPl_waitsFor2, zOl_waitsFor2, zMl_waitsFor2), (nat_lit 7, zPl_nameMet, zOl_nameMet, zMl_nameMet), (nat_lit 8, zPl_grown, zOl_grown, zMl_grown)] pCl_leafRead qCl_leafRead) 7).2 [] η2 x3 η3 → (0 ≤ x3) → (0 ≤ x3) → ((gC2 wl_l [(nat_lit 0, zPl_isSign, zOl_isSign, zMl_isSign), (nat_lit 1, zPl_wrong, zOl_wrong, zMl_wrong), (nat_lit 2, zPl_waitsFor0, zOl_waitsFor0, zMl_waitsFor0), (nat_lit 3, zPl_token, zOl_token, zMl_token), (nat_lit 4, zPl_isKey, zOl_isKey, zMl_isKey), (nat_lit 5, zPl_isCounted, zOl_isCounted, zMl_isCounted), (nat_lit 6, zPl_waitsFor2, zOl_waitsFor2, zMl_waitsFor2), (nat_lit 7, zPl_nameMet, zOl_nameMet, zMl_nameMet), (nat_lit 8, zPl_grown, zOl_grown, zMl_grown)] pCl_leafRead qCl_leafRead) 5).1 [] η3
          have hw : η 0 45 = 1 := hpp.2
          have hs : η 0 7 ≤ η 0 6 := hpp.1.1.1.1
          have bd43 : (0 : Int) ≤ η 0 43 ∧ η 0 43 ≤ 8 := wf_ok (a := 43) (b := 43) (z := (0, 8)) hp.1 (by decide +kernel) (Nat.le_refl _) (Nat.le_refl _)
          have bd44 : (0 : Int) ≤ η 0 44 ∧ η 0 44 ≤ 64 := wf_ok (a := 44) (b := 44) (z := (0, 64)) hp.1 (by decide +kernel) (Nat.le_refl _) (Nat.le_refl _)
          have bd19 : (0 : Int) ≤ η 0 19 ∧ η 0 19 ≤ 64 := wf_ok (a := 19) (b := 19) (z := (0, 64)) hp.1 (by decide +kernel) (Nat.le_refl _) (Nat.le_refl _)
          intro x1 η1 h1 c1 x2 η2 h2 c2 x3 η3 h3 c3 c4
          have k1 : sQ wl_l zTr zOl_isSign zMl_isSign [40] η x1 η1 ∧ pQl_isSign [40] η x1 η1 := h1
          have k2 : sQ wl_l zTr zOl_isKey zMl_isKey [12] η1 x2 η2 ∧ pQl_isKey [12] η1 x2 η2 := h2
          have k3 : sQ wl_l zTr zOl_nameMet zMl_nameMet [] η2 x3 η3 ∧ pQl_nameMet [] η2 x3 η3 := h3
          have c0_0_41 : η 0 41 = η 0 41 := rfl
          have w0_0_43 : (0 : Int) ≤ η 0 43 ∧ η 0 43 ≤ 8 := wf_ok (a := 43) (b := 43) (z := (0, 8)) hp.1 (by decide +kernel) (Nat.le_refl _) (Nat.le_refl _)
          have c0_0_43 : η 0 43 = η 0 43 := rfl
          have c0_0_42 : η 0 42 = η 0 42 := rfl
          have c0_0_45 : η 0 45 = η 0 45 := rfl
          have w0_0_19 : (0 : Int) ≤ η 0 19 ∧ η 0 19 ≤ 64 := wf_ok (a := 19) (b := 19) (z := (0, 64)) hp.1 (by decide +kernel) (Nat.le_refl _) (Nat.le_refl _)
          have c0_0_19 : η 0 19 = η 0 19 := rfl
          have w0_0_44 : (0 : Int) ≤ η 0 44 ∧ η 0 44 ≤ 64 := wf_ok (a := 44) (b := 44) (z := (0, 64)) hp.1 (by decide +kernel) (Nat.le_refl _) (Nat.le_refl _)
          have c0_0_44 : η 0 44 = η 0 44 := rfl
          have w0_0_7 : (0 : Int) ≤ η 0 7 ∧ η 0 7 ≤ 700 := wf_ok (a := 7) (b := 7) (z := (0, 700)) hp.1 (by decide +kernel) (Nat.le_refl _) (Nat.le_refl _)
          have c0_0_7 : η 0 7 = η 0 7 := rfl
          have w0_0_6 : (0 : Int) ≤ η 0 6 ∧ η 0 6 ≤ 700 := wf_ok (a := 6) (b := 6) (z := (0, 700)) hp.1 (by decide +kernel) (Nat.le_refl _) (Nat.le_refl _)
          have c0_0_6 : η 0 6 = η 0 6 := rfl
          have w0_0_8 : (0 : Int) ≤ η 0 8 ∧ η 0 8 ≤ 6 := wf_ok (a := 8) (b := 8) (z := (0, 6)) hp.1 (by decide +kernel) (Nat.le_refl _) (Nat.le_refl _)
          have c0_0_8 : η 0 8 = η 0 8 := rfl
          have bx1 : (0 : Int) ≤ x1 ∧ x1 ≤ 1 := k1.1.2.1
          have v9 : η1 0 41 = η 0 41 := (k1.1.2.2.2.1 0 41 (by decide +kernel)).trans rfl
          have c1_0_41 : η1 0 41 = η 0 41 := v9
          have v10 : η1 0 43 = η 0 43 := (k1.1.2.2.2.1 0 43 (by decide +kernel)).trans rfl
          have c1_0_43 : η1 0 43 = η 0 43 := v10
          have v11 : η1 0 42 = η 0 42 := (k1.1.2.2.2.1 0 42 (by decide +kernel)).trans rfl
          have c1_0_42 : η1 0 42 = η 0 42 := v11
          have v12 : η1 0 45 = η 0 45 := (k1.1.2.2.2.1 0 45 (by decide +kernel)).trans rfl
          have c1_0_45 : η1 0 45 = η 0 45 := v12
          have v13 : η1 0 19 = η 0 19 := (k1.1.2.2.2.1 0 19 (by decide +kernel)).trans rfl
          have c1_0_19 : η1 0 19 = η 0 19 := v13
          have v14 : η1 0 44 = η 0 44 := (k1.1.2.2.2.1 0 44 (by decide +kernel)).trans rfl
          have c1_0_44 : η1 0 44 = η 0 44 := v14
          have v15 : η1 0 7 = η 0 7 := (k1.1.2.2.2.1 0 7 (by decide +kernel)).trans rfl
          have c1_0_7 : η1 0 7 = η 0 7 := v15
          have v16 : η1 0 6 = η 0 6 := (k1.1.2.2.2.1 0 6 (by decide +kernel)).trans rfl
          have c1_0_6 : η1 0 6 = η 0 6 := v16
          have v17 : η1 0 8 = η 0 8 := (k1.1.2.2.2.1 0 8 (by decide +kernel)).trans rfl
          have c1_0_8 : η1 0 8 = η 0 8 := v17
          have bx2 : (0 : Int) ≤ x2 ∧ x2 ≤ 1 := k2.1.2.1
          have v18 : η2 0 41 = η 0 41 := (k2.1.2.2.2.1 0 41 (by decide +kernel)).trans v9
          have c2_0_41 : η2 0 41 = η 0 41 := v18
          have v19 : η2 0 43 = η 0 43 := (k2.1.2.2.2.1 0 43 (by decide +kernel)).trans v10
          have c2_0_43 : η2 0 43 = η 0 43 := v19
          have v20 : η2 0 42 = η 0 42 := (k2.1.2.2.2.1 0 42 (by decide +kernel)).trans v11
          have c2_0_42 : η2 0 42 = η 0 42 := v20
          have v21 : η2 0 45 = η 0 45 := (k2.1.2.2.2.1 0 45 (by decide +kernel)).trans v12
          have c2_0_45 : η2 0 45 = η 0 45 := v21
          have v22 : η2 0 19 = η 0 19 := (k2.1.2.2.2.1 0 19 (by decide +kernel)).trans v13
          have c2_0_19 : η2 0 19 = η 0 19 := v22
          have v23 : η2 0 44 = η 0 44 := (k2.1.2.2.2.1 0 44 (by decide +kernel)).trans v14
          have c2_0_44 : η2 0 44 = η 0 44 := v23
          have v24 : η2 0 7 = η 0 7 := (k2.1.2.2.2.1 0 7 (by decide +kernel)).trans v15
          have c2_0_7 : η2 0 7 = η 0 7 := v24
          have v25 : η2 0 6 = η 0 6 := (k2.1.2.2.2.1 0 6 (by decide +kernel)).trans v16
          have c2_0_6 : η2 0 6 = η 0 6 := v25
          have v26 : η2 0 8 = η 0 8 := (k2.1.2.2.2.1 0 8 (by decide +kernel)).trans v17
          have c2_0_8 : η2 0 8 = η 0 8 := v26
          have bx3 : ((-1) : Int) ≤ x3 ∧ x3 ≤ 6 := k3.1.2.1
          have fm1 : zFm zMl_leafRead η η1 := zFm_tr2 zFm_rf k1.1.2.2.2.1 (by decide +kernel)
          have fm2 : zFm zMl_leafRead η η2 := zFm_tr2 fm1 k2.1.2.2.2.1 (by decide +kernel)
          have fm3 : zFm zMl_leafRead η η3 := zFm_tr2 fm2 k3.1.2.2.2.1 (by decide +kernel)
          have fmE : zFm zMl_leafRead η η3 := fm3
          have fr22_0 : ∀ j, η 22 j = η 22 j := fun _ => rfl
          have v27 : ∀ j, η1 22 j = η 22 j := fun j => k1.1.2.2.2.1 22 _ (zinr_not (by decide +kernel))
          have fr22_1 : ∀ j, η1 22 j = η 22 j := v27
          have v28 : ∀ j, η2 22 j = η 22 j := fun j => (k2.1.2.2.2.1 22 _ (zinr_not (by decide +kernel))).trans (v27 j)
          have fr22_2 : ∀ j, η2 22 j = η 22 j := v28
          have v29 : ∀ j, η3 22 j = η 22 j := fun j => (k3.1.2.2.2.1 22 _ (zinr_not (by decide +kernel))).trans (v28 j)
          have fr22_3 : ∀ j, η3 22 j = η 22 j := v29
          have fr22 : ∀ j, η3 22 j = η 22 j := v29
          have v30 : η3 0 41 = η 0 41 := (k3.1.2.2.2.1 0 41 (by decide +kernel)).trans v18
          have f0_41 : η3 0 41 = η 0 41 := v30
          have v31 : η3 0 43 = η 0 43 := (k3.1.2.2.2.1 0 43 (by decide +kernel)).trans v19
          have f0_43 : η3 0 43 = η 0 43 := v31
          have v32 : η3 0 42 = η 0 42 := (k3.1.2.2.2.1 0 42 (by decide +kernel)).trans v20
          have f0_42 : η3 0 42 = η 0 42 := v32
          have v33 : η3 0 45 = η 0 45 := (k3.1.2.2.2.1 0 45 (by decide +kernel)).trans v21
          have f0_45 : η3 0 45 = η 0 45 := v33
          have v34 : η3 0 19 = η 0 19 := (k3.1.2.2.2.1 0 19 (by decide +kernel)).trans v22
          have f0_19 : η3 0 19 = η 0 19 := v34
          have v35 : η3 0 44 = η 0 44 := (k3.1.2.2.2.1 0 44 (by decide +kernel)).trans v23
          have f0_44 : η3 0 44 = η 0 44 := v35
          have v36 : η3 0 7 = η 0 7 := (k3.1.2.2.2.1 0 7 (by decide +kernel)).trans v24
          have f0_7 : η3 0 7 = η 0 7 := v36
          have v37 : η3 0 6 = η 0 6 := (k3.1.2.2.2.1 0 6 (by decide +kernel)).trans v25
          have f0_6 : η3 0 6 = η 0 6 := v37
          have v38 : η3 0 8 = η 0 8 := (k3.1.2.2.2.1 0 8 (by decide +kernel)).trans v26
          have f0_8 : η3 0 8 = η 0 8 := v38
          have wb1 : wB wl_l zTr η1 := k1.1.1
          have wb2 : wB wl_l zTr η2 := k2.1.1
          have wb3 : wB wl_l zTr η3 := k3.1.1
          have wbE : wB wl_l zTr η3 := wb3
          have I0 : H_l 0 0 0 η := hpp.1
          have I1 : H_l 0 0 0 η1 := k1.2.1
          have I2 : H_l 0 0 0 η2 := k2.2.1
          have I3 : H_l 0 0 0 η3 := k3.2.1
          have qk3 : η2 0 8 = 1 := k3.2.2 c3
          exact I3
        · show ∀ (x1 : Int) (η1 : zE), ((gC2 wl_l [(nat_lit 0, zPl_isSign, zOl_isSign, zMl_isSign), (nat_lit 1, zPl_wrong, zOl_wrong, zMl_wrong), (nat_lit 2, zPl_waitsFor0, zOl_waitsFor0, zMl_waitsFor0), (nat_lit 3, zPl_token, zOl_token, zMl_token), (nat_lit 4, zPl_isKey, zOl_isKey, zMl_isKey), (nat_lit 5, zPl_isCounted, zOl_isCounted, zMl_isCounted), (nat_lit 6, zPl_waitsFor2, zOl_waitsFor2, zMl_waitsFor2), (nat_lit 7, zPl_nameMet, zOl_nameMet, zMl_nameMet), (nat_lit 8, zPl_grown, zOl_grown, zMl_grown)] pCl_leafRead qCl_leafRead) 0).2 [40] η x1 η1 → (x1 = 0) → ∀ (x2 : Int) (η2 : zE), ((gC2 wl_l [(nat_lit 0, zPl_isSign, zOl_isSign, zMl_isSign), (nat_lit 1, zPl_wrong, zOl_wrong, zMl_wrong), (nat_lit 2, zPl_waitsFor0, zOl_waitsFor0, zMl_waitsFor0), (nat_lit 3, zPl_token, zOl_token, zMl_token), (nat_lit 4, zPl_isKey, zOl_isKey, zMl_isKey), (nat_lit 5, zPl_isCounted, zOl_isCounted, zMl_isCounted), (nat_lit 6, zPl_waitsFor2, zOl_waitsFor2, zMl_waitsFor2), (nat_lit 7, zPl_nameMet, zOl_nameMet, zMl_nameMet), (nat_lit 8, zPl_grown, zOl_grown, zMl_grown)] pCl_leafRead qCl_leafRead) 4).2 [12] η1 x2 η2 → (x2 = 0) → ∀ (x3 : Int) (η3 : zE), ((gC2 wl_l [(nat_lit 0, zPl_isSign, zOl_isSign, zMl_isSign), (nat_lit 1, zPl_wrong, zOl_wrong, zMl_wrong), (nat_lit 2, zPl_waitsFor0, zOl_waitsFor0, zMl_waitsFor0), (nat_lit 3, zPl_token, zOl_token, zMl_token), (nat_lit 4, zPl_isKey, zOl_isKey, zMl_isKey), (nat_lit 5, zPl_isCounted, zOl_isCounted, zMl_isCounted), (nat_lit 6, zPl_waitsFor2, zOl_waitsFor2, zMl_waitsFor2), (nat_lit 7, zPl_nameMet, zOl_nameMet, zMl_nameMet), (nat_lit 8, zPl_grown, zOl_grown, zMl_grown)] pCl_leafRead qCl_leafRead) 7).2 [] η2 x3 η3 → (0 ≤ x3) → (0 ≤ x3) → ∀ (x4 : Int) (η4 : zE), ((gC2 wl_l [(nat_lit 0, zPl_isSign, zOl_isSign, zMl_isSign), (nat_lit 1, zPl_wrong, zOl_wrong, zMl_wrong), (nat_lit 2, zPl_waitsFor0, zOl_waitsFor0, zMl_waitsFor0), (nat_lit 3, zPl_token, zOl_token, zMl_token), (nat_lit 4, zPl_isKey, zOl_isKey, zMl_isKey), (nat_lit 5, zPl_isCounted, zOl_isCounted, zMl_isCounted), (nat_lit 6, zPl_waitsFor2, zOl_waitsFor2, zMl_waitsFor2), (nat_lit 7, zPl_nameMet, zOl_nameMet, zMl_nameMet), (nat_lit 8, zPl_grown, zOl_grown, zMl_grown)] pCl_leafRead qCl_leafRead) 5).2 [] η3 x4 η4 → (¬ x4 = 0) → (0 ≤ x3) → (0 ≤ x3) → ((gC2 wl_l [(nat_lit 0, zPl_isSign, zOl_isSign, zMl_isSign), (nat_lit 1, zPl_wrong, zOl_wrong, zMl_wrong), (nat_lit 2, zPl_waitsFor0, zOl_waitsFor0, zMl_waitsFor0), (nat_lit 3, zPl_token, zOl_token, zMl_token), (nat_lit 4, zPl_isKey, zOl_isKey, zMl_isKey), (nat_lit 5, zPl_isCounted, zOl_isCounted, zMl_isCounted), (nat_lit 6, zPl_waitsFor2, zOl_waitsFor2, zMl_waitsFor2), (nat_lit 7, zPl_nameMet, zOl_nameMet, zMl_nameMet), (nat_lit 8, zPl_grown, zOl_grown, zMl_grown)] pCl_leafRead qCl_leafRead) 8).1 [1, x3, 0] η4
          have hw : η 0 45 = 1 := hpp.2
          have hs : η 0 7 ≤ η 0 6 := hpp.1.1.1.1
          have bd43 : (0 : Int) ≤ η 0 43 ∧ η 0 43 ≤ 8 := wf_ok (a := 43) (b := 43) (z := (0, 8)) hp.1 (by decide +kernel) (Nat.le_refl _) (Nat.le_refl _)
          have bd44 : (0 : Int) ≤ η 0 44 ∧ η 0 44 ≤ 64 := wf_ok (a := 44) (b := 44) (z := (0, 64)) hp.1 (by decide +kernel) (Nat.le_refl _) (Nat.le_refl _)
          have bd19 : (0 : Int) ≤ η 0 19 ∧ η 0 19 ≤ 64 := wf_ok (a := 19) (b := 19) (z := (0, 64)) hp.1 (by decide +kernel) (Nat.le_refl _) (Nat.le_refl _)
          intro x1 η1 h1 c1 x2 η2 h2 c2 x3 η3 h3 c3 c4 x4 η4 h4 c5 c6 c7
          have k1 : sQ wl_l zTr zOl_isSign zMl_isSign [40] η x1 η1 ∧ pQl_isSign [40] η x1 η1 := h1
          have k2 : sQ wl_l zTr zOl_isKey zMl_isKey [12] η1 x2 η2 ∧ pQl_isKey [12] η1 x2 η2 := h2
          have k3 : sQ wl_l zTr zOl_nameMet zMl_nameMet [] η2 x3 η3 ∧ pQl_nameMet [] η2 x3 η3 := h3
          have k4 : sQ wl_l zTr zOl_isCounted zMl_isCounted [] η3 x4 η4 ∧ pQl_isCounted [] η3 x4 η4 := h4
          have c0_0_41 : η 0 41 = η 0 41 := rfl
          have w0_0_43 : (0 : Int) ≤ η 0 43 ∧ η 0 43 ≤ 8 := wf_ok (a := 43) (b := 43) (z := (0, 8)) hp.1 (by decide +kernel) (Nat.le_refl _) (Nat.le_refl _)
          have c0_0_43 : η 0 43 = η 0 43 := rfl
          have c0_0_42 : η 0 42 = η 0 42 := rfl
          have c0_0_45 : η 0 45 = η 0 45 := rfl
          have w0_0_19 : (0 : Int) ≤ η 0 19 ∧ η 0 19 ≤ 64 := wf_ok (a := 19) (b := 19) (z := (0, 64)) hp.1 (by decide +kernel) (Nat.le_refl _) (Nat.le_refl _)
          have c0_0_19 : η 0 19 = η 0 19 := rfl
          have w0_0_44 : (0 : Int) ≤ η 0 44 ∧ η 0 44 ≤ 64 := wf_ok (a := 44) (b := 44) (z := (0, 64)) hp.1 (by decide +kernel) (Nat.le_refl _) (Nat.le_refl _)
          have c0_0_44 : η 0 44 = η 0 44 := rfl
          have w0_0_7 : (0 : Int) ≤ η 0 7 ∧ η 0 7 ≤ 700 := wf_ok (a := 7) (b := 7) (z := (0, 700)) hp.1 (by decide +kernel) (Nat.le_refl _) (Nat.le_refl _)
          have c0_0_7 : η 0 7 = η 0 7 := rfl
          have w0_0_6 : (0 : Int) ≤ η 0 6 ∧ η 0 6 ≤ 700 := wf_ok (a := 6) (b := 6) (z := (0, 700)) hp.1 (by decide +kernel) (Nat.le_refl _) (Nat.le_refl _)
          have c0_0_6 : η 0 6 = η 0 6 := rfl
          have w0_0_8 : (0 : Int) ≤ η 0 8 ∧ η 0 8 ≤ 6 := wf_ok (a := 8) (b := 8) (z := (0, 6)) hp.1 (by decide +kernel) (Nat.le_refl _) (Nat.le_refl _)
          have c0_0_8 : η 0 8 = η 0 8 := rfl
          have bx1 : (0 : Int) ≤ x1 ∧ x1 ≤ 1 := k1.1.2.1
          have v9 : η1 0 41 = η 0 41 := (k1.1.2.2.2.1 0 41 (by decide +kernel)).trans rfl
          have c1_0_41 : η1 0 41 = η 0 41 := v9
          have v10 : η1 0 43 = η 0 43 := (k1.1.2.2.2.1 0 43 (by decide +kernel)).trans rfl
          have c1_0_43 : η1 0 43 = η 0 43 := v10
          have v11 : η1 0 42 = η 0 42 := (k1.1.2.2.2.1 0 42 (by decide +kernel)).trans rfl
          have c1_0_42 : η1 0 42 = η 0 42 := v11
          have v12 : η1 0 45 = η 0 45 := (k1.1.2.2.2.1 0 45 (by decide +kernel)).trans rfl
          have c1_0_45 : η1 0 45 = η 0 45 := v12
          have v13 : η1 0 19 = η 0 19 := (k1.1.2.2.2.1 0 19 (by decide +kernel)).trans rfl
          have c1_0_19 : η1 0 19 = η 0 19 := v13
          have v14 : η1 0 44 = η 0 44 := (k1.1.2.2.2.1 0 44 (by decide +kernel)).trans rfl
          have c1_0_44 : η1 0 44 = η 0 44 := v14
          have v15 : η1 0 7 = η 0 7 := (k1.1.2.2.2.1 0 7 (by decide +kernel)).trans rfl
          have c1_0_7 : η1 0 7 = η 0 7 := v15
          have v16 : η1 0 6 = η 0 6 := (k1.1.2.2.2.1 0 6 (by decide +kernel)).trans rfl
          have c1_0_6 : η1 0 6 = η 0 6 := v16
          have v17 : η1 0 8 = η 0 8 := (k1.1.2.2.2.1 0 8 (by decide +kernel)).trans rfl
          have c1_0_8 : η1 0 8 = η 0 8 := v17
          have bx2 : (0 : Int) ≤ x2 ∧ x2 ≤ 1 := k2.1.2.1
          have v18 : η2 0 41 = η 0 41 := (k2.1.2.2.2.1 0 41 (by decide +kernel)).trans v9
          have c2_0_41 : η2 0 41 = η 0 41 := v18
          have v19 : η2 0 43 = η 0 43 := (k2.1.2.2.2.1 0 43 (by decide +kernel)).trans v10
          have c2_0_43 : η2 0 43 = η 0 43 := v19
          have v20 : η2 0 42 = η 0 42 := (k2.1.2.2.2.1 0 42 (by decide +kernel)).trans v11
          have c2_0_42 : η2 0 42 = η 0 42 := v20
          have v21 : η2 0 45 = η 0 45 := (k2.1.2.2.2.1 0 45 (by decide +kernel)).trans v12
          have c2_0_45 : η2 0 45 = η 0 45 := v21
          have v22 : η2 0 19 = η 0 19 := (k2.1.2.2.2.1 0 19 (by decide +kernel)).trans v13
          have c2_0_19 : η2 0 19 = η 0 19 := v22
          have v23 : η2 0 44 = η 0 44 := (k2.1.2.2.2.1 0 44 (by decide +kernel)).trans v14
          have c2_0_44 : η2 0 44 = η 0 44 := v23
          have v24 : η2 0 7 = η 0 7 := (k2.1.2.2.2.1 0 7 (by decide +kernel)).trans v15
          have c2_0_7 : η2 0 7 = η 0 7 := v24
          have v25 : η2 0 6 = η 0 6 := (k2.1.2.2.2.1 0 6 (by decide +kernel)).trans v16
          have c2_0_6 : η2 0 6 = η 0 6 := v25
          have v26 : η2 0 8 = η 0 8 := (k2.1.2.2.2.1 0 8 (by decide +kernel)).trans v17
          have c2_0_8 : η2 0 8 = η 0 8 := v26
          have bx3 : ((-1) : Int) ≤ x3 ∧ x3 ≤ 6 := k3.1.2.1
          have v27 : η3 0 41 = η 0 41 := (k3.1.2.2.2.1 0 41 (by decide +kernel)).trans v18
          have c3_0_41 : η3 0 41 = η 0 41 := v27
          have v28 : η3 0 43 = η 0 43 := (k3.1.2.2.2.1 0 43 (by decide +kernel)).trans v19
          have c3_0_43 : η3 0 43 = η 0 43 := v28
          have v29 : η3 0 42 = η 0 42 := (k3.1.2.2.2.1 0 42 (by decide +kernel)).trans v20
          have c3_0_42 : η3 0 42 = η 0 42 := v29
          have v30 : η3 0 45 = η 0 45 := (k3.1.2.2.2.1 0 45 (by decide +kernel)).trans v21
          have c3_0_45 : η3 0 45 = η 0 45 := v30
          have v31 : η3 0 19 = η 0 19 := (k3.1.2.2.2.1 0 19 (by decide +kernel)).trans v22
          have c3_0_19 : η3 0 19 = η 0 19 := v31
          have v32 : η3 0 44 = η 0 44 := (k3.1.2.2.2.1 0 44 (by decide +kernel)).trans v23
          have c3_0_44 : η3 0 44 = η 0 44 := v32
          have v33 : η3 0 7 = η 0 7 := (k3.1.2.2.2.1 0 7 (by decide +kernel)).trans v24
          have c3_0_7 : η3 0 7 = η 0 7 := v33
          have v34 : η3 0 6 = η 0 6 := (k3.1.2.2.2.1 0 6 (by decide +kernel)).trans v25
          have c3_0_6 : η3 0 6 = η 0 6 := v34
          have v35 : η3 0 8 = η 0 8 := (k3.1.2.2.2.1 0 8 (by decide +kernel)).trans v26
          have c3_0_8 : η3 0 8 = η 0 8 := v35
          have bx4 : (0 : Int) ≤ x4 ∧ x4 ≤ 1 := k4.1.2.1
          have fm1 : zFm zMl_leafRead η η1 := zFm_tr2 zFm_rf k1.1.2.2.2.1 (by decide +kernel)
          have fm2 : zFm zMl_leafRead η η2 := zFm_tr2 fm1 k2.1.2.2.2.1 (by decide +kernel)
          have fm3 : zFm zMl_leafRead η η3 := zFm_tr2 fm2 k3.1.2.2.2.1 (by decide +kernel)
          have fm4 : zFm zMl_leafRead η η4 := zFm_tr2 fm3 k4.1.2.2.2.1 (by decide +kernel)
          have fmE : zFm zMl_leafRead η η4 := fm4
          have fr22_0 : ∀ j, η 22 j = η 22 j := fun _ => rfl
          have v36 : ∀ j, η1 22 j = η 22 j := fun j => k1.1.2.2.2.1 22 _ (zinr_not (by decide +kernel))
          have fr22_1 : ∀ j, η1 22 j = η 22 j := v36
          have v37 : ∀ j, η2 22 j = η 22 j := fun j => (k2.1.2.2.2.1 22 _ (zinr_not (by decide +kernel))).trans (v36 j)
          have fr22_2 : ∀ j, η2 22 j = η 22 j := v37
          have v38 : ∀ j, η3 22 j = η 22 j := fun j => (k3.1.2.2.2.1 22 _ (zinr_not (by decide +kernel))).trans (v37 j)
          have fr22_3 : ∀ j, η3 22 j = η 22 j := v38
          have v39 : ∀ j, η4 22 j = η 22 j := fun j => (k4.1.2.2.2.1 22 _ (zinr_not (by decide +kernel))).trans (v38 j)
          have fr22_4 : ∀ j, η4 22 j = η 22 j := v39
          have fr22 : ∀ j, η4 22 j = η 22 j := v39
          have v40 : η4 0 41 = η 0 41 := (k4.1.2.2.2.1 0 41 (by decide +kernel)).trans v27
          have f0_41 : η4 0 41 = η 0 41 := v40
          have v41 : η4 0 43 = η 0 43 := (k4.1.2.2.2.1 0 43 (by decide +kernel)).trans v28
          have f0_43 : η4 0 43 = η 0 43 := v41
          have v42 : η4 0 42 = η 0 42 := (k4.1.2.2.2.1 0 42 (by decide +kernel)).trans v29
          have f0_42 : η4 0 42 = η 0 42 := v42
          have v43 : η4 0 45 = η 0 45 := (k4.1.2.2.2.1 0 45 (by decide +kernel)).trans v30
          have f0_45 : η4 0 45 = η 0 45 := v43
          have v44 : η4 0 19 = η 0 19 := (k4.1.2.2.2.1 0 19 (by decide +kernel)).trans v31
          have f0_19 : η4 0 19 = η 0 19 := v44
          have w4_0_44 : (0 : Int) ≤ η4 0 44 ∧ η4 0 44 ≤ 64 := wf_ok (a := 44) (b := 44) (z := (0, 64)) k4.1.1 (by decide +kernel) (Nat.le_refl _) (Nat.le_refl _)
          have f0_44 : η4 0 44 = η4 0 44 := rfl
          have v46 : η4 0 7 = η 0 7 := (k4.1.2.2.2.1 0 7 (by decide +kernel)).trans v33
          have f0_7 : η4 0 7 = η 0 7 := v46
          have v47 : η4 0 6 = η 0 6 := (k4.1.2.2.2.1 0 6 (by decide +kernel)).trans v34
          have f0_6 : η4 0 6 = η 0 6 := v47
          have v48 : η4 0 8 = η 0 8 := (k4.1.2.2.2.1 0 8 (by decide +kernel)).trans v35
          have f0_8 : η4 0 8 = η 0 8 := v48
          have wb1 : wB wl_l zTr η1 := k1.1.1
          have wb2 : wB wl_l zTr η2 := k2.1.1
          have wb3 : wB wl_l zTr η3 := k3.1.1
          have wb4 : wB wl_l zTr η4 := k4.1.1
          have wbE : wB wl_l zTr η4 := wb4
          have I0 : H_l 0 0 0 η := hpp.1
          have I1 : H_l 0 0 0 η1 := k1.2.1
          have I2 : H_l 0 0 0 η2 := k2.2.1
          have I3 : H_l 0 0 0 η3 := k3.2.1
          have qk3 : η2 0 8 = 1 := k3.2.2 c3
          have I4 : H_l 1 0 0 η4 := k4.2.1 c5
          obtain ⟨j1, j2, j3, j4⟩ := I4.2
          have cn := cz_n (η := η4) (η4 0 41).toNat
          exact ⟨Or.inl I4, ⟨fun _ => ⟨show 0 ≤ x3 by omega, show x3 ≤ 6 by omega⟩, fun _ w => absurd rfl w, fun _ w => absurd rfl w⟩, show 0 ≤ η4 0 42 by omega, show η4 0 42 ≤ 95 by omega⟩
        · show ∀ (x1 : Int) (η1 : zE), ((gC2 wl_l [(nat_lit 0, zPl_isSign, zOl_isSign, zMl_isSign), (nat_lit 1, zPl_wrong, zOl_wrong, zMl_wrong), (nat_lit 2, zPl_waitsFor0, zOl_waitsFor0, zMl_waitsFor0), (nat_lit 3, zPl_token, zOl_token, zMl_token), (nat_lit 4, zPl_isKey, zOl_isKey, zMl_isKey), (nat_lit 5, zPl_isCounted, zOl_isCounted, zMl_isCounted), (nat_lit 6, zPl_waitsFor2, zOl_waitsFor2, zMl_waitsFor2), (nat_lit 7, zPl_nameMet, zOl_nameMet, zMl_nameMet), (nat_lit 8, zPl_grown, zOl_grown, zMl_grown)] pCl_leafRead qCl_leafRead) 0).2 [40] η x1 η1 → (x1 = 0) → ∀ (x2 : Int) (η2 : zE), ((gC2 wl_l [(nat_lit 0, zPl_isSign, zOl_isSign, zMl_isSign), (nat_lit 1, zPl_wrong, zOl_wrong, zMl_wrong), (nat_lit 2, zPl_waitsFor0, zOl_waitsFor0, zMl_waitsFor0), (nat_lit 3, zPl_token, zOl_token, zMl_token), (nat_lit 4, zPl_isKey, zOl_isKey, zMl_isKey), (nat_lit 5, zPl_isCounted, zOl_isCounted, zMl_isCounted), (nat_lit 6, zPl_waitsFor2, zOl_waitsFor2, zMl_waitsFor2), (nat_lit 7, zPl_nameMet, zOl_nameMet, zMl_nameMet), (nat_lit 8, zPl_grown, zOl_grown, zMl_grown)] pCl_leafRead qCl_leafRead) 4).2 [12] η1 x2 η2 → (x2 = 0) → ∀ (x3 : Int) (η3 : zE), ((gC2 wl_l [(nat_lit 0, zPl_isSign, zOl_isSign, zMl_isSign), (nat_lit 1, zPl_wrong, zOl_wrong, zMl_wrong), (nat_lit 2, zPl_waitsFor0, zOl_waitsFor0, zMl_waitsFor0), (nat_lit 3, zPl_token, zOl_token, zMl_token), (nat_lit 4, zPl_isKey, zOl_isKey, zMl_isKey), (nat_lit 5, zPl_isCounted, zOl_isCounted, zMl_isCounted), (nat_lit 6, zPl_waitsFor2, zOl_waitsFor2, zMl_waitsFor2), (nat_lit 7, zPl_nameMet, zOl_nameMet, zMl_nameMet), (nat_lit 8, zPl_grown, zOl_grown, zMl_grown)] pCl_leafRead qCl_leafRead) 7).2 [] η2 x3 η3 → (0 ≤ x3) → (0 ≤ x3) → ∀ (x4 : Int) (η4 : zE), ((gC2 wl_l [(nat_lit 0, zPl_isSign, zOl_isSign, zMl_isSign), (nat_lit 1, zPl_wrong, zOl_wrong, zMl_wrong), (nat_lit 2, zPl_waitsFor0, zOl_waitsFor0, zMl_waitsFor0), (nat_lit 3, zPl_token, zOl_token, zMl_token), (nat_lit 4, zPl_isKey, zOl_isKey, zMl_isKey), (nat_lit 5, zPl_isCounted, zOl_isCounted, zMl_isCounted), (nat_lit 6, zPl_waitsFor2, zOl_waitsFor2, zMl_waitsFor2), (nat_lit 7, zPl_nameMet, zOl_nameMet, zMl_nameMet), (nat_lit 8, zPl_grown, zOl_grown, zMl_grown)] pCl_leafRead qCl_leafRead) 5).2 [] η3 x4 η4 → (¬ x4 = 0) → (0 ≤ x3) → (0 ≤ x3) → ∀ (x5 : Int) (η5 : zE), ((gC2 wl_l [(nat_lit 0, zPl_isSign, zOl_isSign, zMl_isSign), (nat_lit 1, zPl_wrong, zOl_wrong, zMl_wrong), (nat_lit 2, zPl_waitsFor0, zOl_waitsFor0, zMl_waitsFor0), (nat_lit 3, zPl_token, zOl_token, zMl_token), (nat_lit 4, zPl_isKey, zOl_isKey, zMl_isKey), (nat_lit 5, zPl_isCounted, zOl_isCounted, zMl_isCounted), (nat_lit 6, zPl_waitsFor2, zOl_waitsFor2, zMl_waitsFor2), (nat_lit 7, zPl_nameMet, zOl_nameMet, zMl_nameMet), (nat_lit 8, zPl_grown, zOl_grown, zMl_grown)] pCl_leafRead qCl_leafRead) 8).2 [1, x3, 0] η4 x5 η5 → ∀ η6 : zE, η6 = zup η5 0 (Int.toNat 45) 0 → ((gC2 wl_l [(nat_lit 0, zPl_isSign, zOl_isSign, zMl_isSign), (nat_lit 1, zPl_wrong, zOl_wrong, zMl_wrong), (nat_lit 2, zPl_waitsFor0, zOl_waitsFor0, zMl_waitsFor0), (nat_lit 3, zPl_token, zOl_token, zMl_token), (nat_lit 4, zPl_isKey, zOl_isKey, zMl_isKey), (nat_lit 5, zPl_isCounted, zOl_isCounted, zMl_isCounted), (nat_lit 6, zPl_waitsFor2, zOl_waitsFor2, zMl_waitsFor2), (nat_lit 7, zPl_nameMet, zOl_nameMet, zMl_nameMet), (nat_lit 8, zPl_grown, zOl_grown, zMl_grown)] pCl_leafRead qCl_leafRead) 3).1 [] η6
          have hw : η 0 45 = 1 := hpp.2
          have hs : η 0 7 ≤ η 0 6 := hpp.1.1.1.1
          have bd43 : (0 : Int) ≤ η 0 43 ∧ η 0 43 ≤ 8 := wf_ok (a := 43) (b := 43) (z := (0, 8)) hp.1 (by decide +kernel) (Nat.le_refl _) (Nat.le_refl _)
          have bd44 : (0 : Int) ≤ η 0 44 ∧ η 0 44 ≤ 64 := wf_ok (a := 44) (b := 44) (z := (0, 64)) hp.1 (by decide +kernel) (Nat.le_refl _) (Nat.le_refl _)
          have bd19 : (0 : Int) ≤ η 0 19 ∧ η 0 19 ≤ 64 := wf_ok (a := 19) (b := 19) (z := (0, 64)) hp.1 (by decide +kernel) (Nat.le_refl _) (Nat.le_refl _)
          intro x1 η1 h1 c1 x2 η2 h2 c2 x3 η3 h3 c3 c4 x4 η4 h4 c5 c6 c7 x5 η5 h5 η6 eη6
          have k1 : sQ wl_l zTr zOl_isSign zMl_isSign [40] η x1 η1 ∧ pQl_isSign [40] η x1 η1 := h1
          have k2 : sQ wl_l zTr zOl_isKey zMl_isKey [12] η1 x2 η2 ∧ pQl_isKey [12] η1 x2 η2 := h2
          have k3 : sQ wl_l zTr zOl_nameMet zMl_nameMet [] η2 x3 η3 ∧ pQl_nameMet [] η2 x3 η3 := h3
          have k4 : sQ wl_l zTr zOl_isCounted zMl_isCounted [] η3 x4 η4 ∧ pQl_isCounted [] η3 x4 η4 := h4
          have k5 : sQ wl_l zTr zOl_grown zMl_grown [1, x3, 0] η4 x5 η5 ∧ pQl_grown [1, x3, 0] η4 x5 η5 := h5
          have c0_0_41 : η 0 41 = η 0 41 := rfl
          have w0_0_43 : (0 : Int) ≤ η 0 43 ∧ η 0 43 ≤ 8 := wf_ok (a := 43) (b := 43) (z := (0, 8)) hp.1 (by decide +kernel) (Nat.le_refl _) (Nat.le_refl _)
          have c0_0_43 : η 0 43 = η 0 43 := rfl
          have c0_0_42 : η 0 42 = η 0 42 := rfl
          have c0_0_45 : η 0 45 = η 0 45 := rfl
          have w0_0_19 : (0 : Int) ≤ η 0 19 ∧ η 0 19 ≤ 64 := wf_ok (a := 19) (b := 19) (z := (0, 64)) hp.1 (by decide +kernel) (Nat.le_refl _) (Nat.le_refl _)
          have c0_0_19 : η 0 19 = η 0 19 := rfl
          have w0_0_44 : (0 : Int) ≤ η 0 44 ∧ η 0 44 ≤ 64 := wf_ok (a := 44) (b := 44) (z := (0, 64)) hp.1 (by decide +kernel) (Nat.le_refl _) (Nat.le_refl _)
          have c0_0_44 : η 0 44 = η 0 44 := rfl
          have w0_0_7 : (0 : Int) ≤ η 0 7 ∧ η 0 7 ≤ 700 := wf_ok (a := 7) (b := 7) (z := (0, 700)) hp.1 (by decide +kernel) (Nat.le_refl _) (Nat.le_refl _)
          have c0_0_7 : η 0 7 = η 0 7 := rfl
          have w0_0_6 : (0 : Int) ≤ η 0 6 ∧ η 0 6 ≤ 700 := wf_ok (a := 6) (b := 6) (z := (0, 700)) hp.1 (by decide +kernel) (Nat.le_refl _) (Nat.le_refl _)
          have c0_0_6 : η 0 6 = η 0 6 := rfl
          have w0_0_8 : (0 : Int) ≤ η 0 8 ∧ η 0 8 ≤ 6 := wf_ok (a := 8) (b := 8) (z := (0, 6)) hp.1 (by decide +kernel) (Nat.le_refl _) (Nat.le_refl _)
          have c0_0_8 : η 0 8 = η 0 8 := rfl
          have bx1 : (0 : Int) ≤ x1 ∧ x1 ≤ 1 := k1.1.2.1
          have v9 : η1 0 41 = η 0 41 := (k1.1.2.2.2.1 0 41 (by decide +kernel)).trans rfl
          have c1_0_41 : η1 0 41 = η 0 41 := v9
          have v10 : η1 0 43 = η 0 43 := (k1.1.2.2.2.1 0 43 (by decide +kernel)).trans rfl
          have c1_0_43 : η1 0 43 = η 0 43 := v10
          have v11 : η1 0 42 = η 0 42 := (k1.1.2.2.2.1 0 42 (by decide +kernel)).trans rfl
          have c1_0_42 : η1 0 42 = η 0 42 := v11
          have v12 : η1 0 45 = η 0 45 := (k1.1.2.2.2.1 0 45 (by decide +kernel)).trans rfl
          have c1_0_45 : η1 0 45 = η 0 45 := v12
          have v13 : η1 0 19 = η 0 19 := (k1.1.2.2.2.1 0 19 (by decide +kernel)).trans rfl
          have c1_0_19 : η1 0 19 = η 0 19 := v13
          have v14 : η1 0 44 = η 0 44 := (k1.1.2.2.2.1 0 44 (by decide +kernel)).trans rfl
          have c1_0_44 : η1 0 44 = η 0 44 := v14
          have v15 : η1 0 7 = η 0 7 := (k1.1.2.2.2.1 0 7 (by decide +kernel)).trans rfl
          have c1_0_7 : η1 0 7 = η 0 7 := v15
          have v16 : η1 0 6 = η 0 6 := (k1.1.2.2.2.1 0 6 (by decide +kernel)).trans rfl
          have c1_0_6 : η1 0 6 = η 0 6 := v16
          have v17 : η1 0 8 = η 0 8 := (k1.1.2.2.2.1 0 8 (by decide +kernel)).trans rfl
          have c1_0_8 : η1 0 8 = η 0 8 := v17
          have bx2 : (0 : Int) ≤ x2 ∧ x2 ≤ 1 := k2.1.2.1
          have v18 : η2 0 41 = η 0 41 := (k2.1.2.2.2.1 0 41 (by decide +kernel)).trans v9
          have c2_0_41 : η2 0 41 = η 0 41 := v18
          have v19 : η2 0 43 = η 0 43 := (k2.1.2.2.2.1 0 43 (by decide +kernel)).trans v10
          have c2_0_43 : η2 0 43 = η 0 43 := v19
          have v20 : η2 0 42 = η 0 42 := (k2.1.2.2.2.1 0 42 (by decide +kernel)).trans v11
          have c2_0_42 : η2 0 42 = η 0 42 := v20
          have v21 : η2 0 45 = η 0 45 := (k2.1.2.2.2.1 0 45 (by decide +kernel)).trans v12
          have c2_0_45 : η2 0 45 = η 0 45 := v21
          have v22 : η2 0 19 = η 0 19 := (k2.1.2.2.2.1 0 19 (by decide +kernel)).trans v13
          have c2_0_19 : η2 0 19 = η 0 19 := v22
          have v23 : η2 0 44 = η 0 44 := (k2.1.2.2.2.1 0 44 (by decide +kernel)).trans v14
          have c2_0_44 : η2 0 44 = η 0 44 := v23
          have v24 : η2 0 7 = η 0 7 := (k2.1.2.2.2.1 0 7 (by decide +kernel)).trans v15
          have c2_0_7 : η2 0 7 = η 0 7 := v24
          have v25 : η2 0 6 = η 0 6 := (k2.1.2.2.2.1 0 6 (by decide +kernel)).trans v16
          have c2_0_6 : η2 0 6 = η 0 6 := v25
          have v26 : η2 0 8 = η 0 8 := (k2.1.2.2.2.1 0 8 (by decide +kernel)).trans v17
          have c2_0_8 : η2 0 8 = η 0 8 := v26
          have bx3 : ((-1) : Int) ≤ x3 ∧ x3 ≤ 6 := k3.1.2.1
          have v27 : η3 0 41 = η 0 41 := (k3.1.2.2.2.1 0 41 (by decide +kernel)).trans v18
          have c3_0_41 : η3 0 41 = η 0 41 := v27
          have v28 : η3 0 43 = η 0 43 := (k3.1.2.2.2.1 0 43 (by decide +kernel)).trans v19
          have c3_0_43 : η3 0 43 = η 0 43 := v28
          have v29 : η3 0 42 = η 0 42 := (k3.1.2.2.2.1 0 42 (by decide +kernel)).trans v20
          have c3_0_42 : η3 0 42 = η 0 42 := v29
          have v30 : η3 0 45 = η 0 45 := (k3.1.2.2.2.1 0 45 (by decide +kernel)).trans v21
          have c3_0_45 : η3 0 45 = η 0 45 := v30
          have v31 : η3 0 19 = η 0 19 := (k3.1.2.2.2.1 0 19 (by decide +kernel)).trans v22
          have c3_0_19 : η3 0 19 = η 0 19 := v31
          have v32 : η3 0 44 = η 0 44 := (k3.1.2.2.2.1 0 44 (by decide +kernel)).trans v23
          have c3_0_44 : η3 0 44 = η 0 44 := v32
          have v33 : η3 0 7 = η 0 7 := (k3.1.2.2.2.1 0 7 (by decide +kernel)).trans v24
          have c3_0_7 : η3 0 7 = η 0 7 := v33
          have v34 : η3 0 6 = η 0 6 := (k3.1.2.2.2.1 0 6 (by decide +kernel)).trans v25
          have c3_0_6 : η3 0 6 = η 0 6 := v34
          have v35 : η3 0 8 = η 0 8 := (k3.1.2.2.2.1 0 8 (by decide +kernel)).trans v26
          have c3_0_8 : η3 0 8 = η 0 8 := v35
          have bx4 : (0 : Int) ≤ x4 ∧ x4 ≤ 1 := k4.1.2.1
          have v36 : η4 0 41 = η 0 41 := (k4.1.2.2.2.1 0 41 (by decide +kernel)).trans v27
          have c4_0_41 : η4 0 41 = η 0 41 := v36
          have v37 : η4 0 43 = η 0 43 := (k4.1.2.2.2.1 0 43 (by decide +kernel)).trans v28
          have c4_0_43 : η4 0 43 = η 0 43 := v37
          have v38 : η4 0 42 = η 0 42 := (k4.1.2.2.2.1 0 42 (by decide +kernel)).trans v29
          have c4_0_42 : η4 0 42 = η 0 42 := v38
          have v39 : η4 0 45 = η 0 45 := (k4.1.2.2.2.1 0 45 (by decide +kernel)).trans v30
          have c4_0_45 : η4 0 45 = η 0 45 := v39
          have v40 : η4 0 19 = η 0 19 := (k4.1.2.2.2.1 0 19 (by decide +kernel)).trans v31
          have c4_0_19 : η4 0 19 = η 0 19 := v40
          have w4_0_44 : (0 : Int) ≤ η4 0 44 ∧ η4 0 44 ≤ 64 := wf_ok (a := 44) (b := 44) (z := (0, 64)) k4.1.1 (by decide +kernel) (Nat.le_refl _) (Nat.le_refl _)
          have c4_0_44 : η4 0 44 = η4 0 44 := rfl
          have v42 : η4 0 7 = η 0 7 := (k4.1.2.2.2.1 0 7 (by decide +kernel)).trans v33
          have c4_0_7 : η4 0 7 = η 0 7 := v42
          have v43 : η4 0 6 = η 0 6 := (k4.1.2.2.2.1 0 6 (by decide +kernel)).trans v34
          have c4_0_6 : η4 0 6 = η 0 6 := v43
          have v44 : η4 0 8 = η 0 8 := (k4.1.2.2.2.1 0 8 (by decide +kernel)).trans v35
          have c4_0_8 : η4 0 8 = η 0 8 := v44
          have bx5 : (0 : Int) ≤ x5 ∧ x5 ≤ 0 := k5.1.2.1
          have fm1 : zFm zMl_leafRead η η1 := zFm_tr2 zFm_rf k1.1.2.2.2.1 (by decide +kernel)
          have fm2 : zFm zMl_leafRead η η2 := zFm_tr2 fm1 k2.1.2.2.2.1 (by decide +kernel)
          have fm3 : zFm zMl_leafRead η η3 := zFm_tr2 fm2 k3.1.2.2.2.1 (by decide +kernel)
          have fm4 : zFm zMl_leafRead η η4 := zFm_tr2 fm3 k4.1.2.2.2.1 (by decide +kernel)
          have fm5 : zFm zMl_leafRead η η5 := zFm_tr2 fm4 k5.1.2.2.2.1 (by decide +kernel)
          have fm6 : zFm zMl_leafRead η η6 := by rw [eη6]; exact zFm_up fm5 rfl
          have fmE : zFm zMl_leafRead η η6 := fm6
          have fr22_0 : ∀ j, η 22 j = η 22 j := fun _ => rfl
          have v45 : ∀ j, η1 22 j = η 22 j := fun j => k1.1.2.2.2.1 22 _ (zinr_not (by decide +kernel))
          have fr22_1 : ∀ j, η1 22 j = η 22 j := v45
          have v46 : ∀ j, η2 22 j = η 22 j := fun j => (k2.1.2.2.2.1 22 _ (zinr_not (by decide +kernel))).trans (v45 j)
          have fr22_2 : ∀ j, η2 22 j = η 22 j := v46
          have v47 : ∀ j, η3 22 j = η 22 j := fun j => (k3.1.2.2.2.1 22 _ (zinr_not (by decide +kernel))).trans (v46 j)
          have fr22_3 : ∀ j, η3 22 j = η 22 j := v47
          have v48 : ∀ j, η4 22 j = η 22 j := fun j => (k4.1.2.2.2.1 22 _ (zinr_not (by decide +kernel))).trans (v47 j)
          have fr22_4 : ∀ j, η4 22 j = η 22 j := v48
          have v49 : ∀ j, η5 22 j = η 22 j := fun j => (k5.1.2.2.2.1 22 _ (zinr_not (by decide +kernel))).trans (v48 j)
          have fr22_5 : ∀ j, η5 22 j = η 22 j := v49
          have v50 : ∀ j, η6 22 j = η 22 j := fun j => by rw [eη6]; exact (zup_ne (fun e _ => absurd e (by decide))).trans (v49 j)
          have fr22_6 : ∀ j, η6 22 j = η 22 j := v50
          have fr22 : ∀ j, η6 22 j = η 22 j := v50
          have v51 : η5 0 41 = η 0 41 := (k5.1.2.2.2.1 0 41 (by decide +kernel)).trans v36
          have v52 : η6 0 41 = η 0 41 := by rw [eη6]; exact (zup_ne (fun _ e => absurd e (by decide))).trans v51
          have f0_41 : η6 0 41 = η 0 41 := v52
          have v53 : η5 0 43 = η 0 43 := (k5.1.2.2.2.1 0 43 (by decide +kernel)).trans v37
          have v54 : η6 0 43 = η 0 43 := by rw [eη6]; exact (zup_ne (fun _ e => absurd e (by decide))).trans v53
          have f0_43 : η6 0 43 = η 0 43 := v54
          have v56 : η6 0 42 = η5 0 42 := by rw [eη6]; exact (zup_ne (fun _ e => absurd e (by decide))).trans rfl
          have f0_42 : η6 0 42 = η5 0 42 := v56
          have v57 : η6 0 45 = 0 := by rw [eη6]; exact zup_eq
          have f0_45 : η6 0 45 = 0 := v57
          have w5_0_19 : (0 : Int) ≤ η5 0 19 ∧ η5 0 19 ≤ 64 := wf_ok (a := 19) (b := 19) (z := (0, 64)) k5.1.1 (by decide +kernel) (Nat.le_refl _) (Nat.le_refl _)
          have v59 : η6 0 19 = η5 0 19 := by rw [eη6]; exact (zup_ne (fun _ e => absurd e (by decide))).trans rfl
          have f0_19 : η6 0 19 = η5 0 19 := v59
          have v60 : η5 0 44 = η4 0 44 := (k5.1.2.2.2.1 0 44 (by decide +kernel)).trans rfl
          have v61 : η6 0 44 = η4 0 44 := by rw [eη6]; exact (zup_ne (fun _ e => absurd e (by decide))).trans v60
          have f0_44 : η6 0 44 = η4 0 44 := v61
          have v62 : η5 0 7 = η 0 7 := (k5.1.2.2.2.1 0 7 (by decide +kernel)).trans v42
          have v63 : η6 0 7 = η 0 7 := by rw [eη6]; exact (zup_ne (fun _ e => absurd e (by decide))).trans v62
          have f0_7 : η6 0 7 = η 0 7 := v63
          have v64 : η5 0 6 = η 0 6 := (k5.1.2.2.2.1 0 6 (by decide +kernel)).trans v43
          have v65 : η6 0 6 = η 0 6 := by rw [eη6]; exact (zup_ne (fun _ e => absurd e (by decide))).trans v64
          have f0_6 : η6 0 6 = η 0 6 := v65
          have v66 : η5 0 8 = η 0 8 := (k5.1.2.2.2.1 0 8 (by decide +kernel)).trans v44
          have v67 : η6 0 8 = η 0 8 := by rw [eη6]; exact (zup_ne (fun _ e => absurd e (by decide))).trans v66
          have f0_8 : η6 0 8 = η 0 8 := v67
          have wb1 : wB wl_l zTr η1 := k1.1.1
          have wb2 : wB wl_l zTr η2 := k2.1.1
          have wb3 : wB wl_l zTr η3 := k3.1.1
          have wb4 : wB wl_l zTr η4 := k4.1.1
          have wb5 : wB wl_l zTr η5 := k5.1.1
          have wb6 : wB wl_l zTr η6 := by rw [eη6]; exact wk_ok (a := 45) (b := 45) (z := ((-2147483648), 2147483647)) zTr_k (GR := []) wb5 (by decide +kernel) (by decide) (by decide) (show ((-2147483648) : Int) ≤ 0 by omega) (show 0 ≤ (2147483647 : Int) by omega)
          have wbE : wB wl_l zTr η6 := wb6
          have I0 : H_l 0 0 0 η := hpp.1
          have I1 : H_l 0 0 0 η1 := k1.2.1
          have I2 : H_l 0 0 0 η2 := k2.2.1
          have I3 : H_l 0 0 0 η3 := k3.2.1
          have qk3 : η2 0 8 = 1 := k3.2.2 c3
          have I4 : H_l 1 0 0 η4 := k4.2.1 c5
          have I5 : H_l 0 0 1 η5 := k5.2.1 I4
          have qg5 : η5 0 19 = η4 0 19 + 1 := k5.2.2.2
          have I6 : H_l 0 0 0 η6 := by rw [eη6]; exact h_eq (wn_up I5) rfl rfl (by omega)
          exact I6
        · show ∀ (x1 : Int) (η1 : zE), ((gC2 wl_l [(nat_lit 0, zPl_isSign, zOl_isSign, zMl_isSign), (nat_lit 1, zPl_wrong, zOl_wrong, zMl_wrong), (nat_lit 2, zPl_waitsFor0, zOl_waitsFor0, zMl_waitsFor0), (nat_lit 3, zPl_token, zOl_token, zMl_token), (nat_lit 4, zPl_isKey, zOl_isKey, zMl_isKey), (nat_lit 5, zPl_isCounted, zOl_isCounted, zMl_isCounted), (nat_lit 6, zPl_waitsFor2, zOl_waitsFor2, zMl_waitsFor2), (nat_lit 7, zPl_nameMet, zOl_nameMet, zMl_nameMet), (nat_lit 8, zPl_grown, zOl_grown, zMl_grown)] pCl_leafRead qCl_leafRead) 0).2 [40] η x1 η1 → (x1 = 0) → ∀ (x2 : Int) (η2 : zE), ((gC2 wl_l [(nat_lit 0, zPl_isSign, zOl_isSign, zMl_isSign), (nat_lit 1, zPl_wrong, zOl_wrong, zMl_wrong), (nat_lit 2, zPl_waitsFor0, zOl_waitsFor0, zMl_waitsFor0), (nat_lit 3, zPl_token, zOl_token, zMl_token), (nat_lit 4, zPl_isKey, zOl_isKey, zMl_isKey), (nat_lit 5, zPl_isCounted, zOl_isCounted, zMl_isCounted), (nat_lit 6, zPl_waitsFor2, zOl_waitsFor2, zMl_waitsFor2), (nat_lit 7, zPl_nameMet, zOl_nameMet, zMl_nameMet), (nat_lit 8, zPl_grown, zOl_grown, zMl_grown)] pCl_leafRead qCl_leafRead) 4).2 [12] η1 x2 η2 → (x2 = 0) → ∀ (x3 : Int) (η3 : zE), ((gC2 wl_l [(nat_lit 0, zPl_isSign, zOl_isSign, zMl_isSign), (nat_lit 1, zPl_wrong, zOl_wrong, zMl_wrong), (nat_lit 2, zPl_waitsFor0, zOl_waitsFor0, zMl_waitsFor0), (nat_lit 3, zPl_token, zOl_token, zMl_token), (nat_lit 4, zPl_isKey, zOl_isKey, zMl_isKey), (nat_lit 5, zPl_isCounted, zOl_isCounted, zMl_isCounted), (nat_lit 6, zPl_waitsFor2, zOl_waitsFor2, zMl_waitsFor2), (nat_lit 7, zPl_nameMet, zOl_nameMet, zMl_nameMet), (nat_lit 8, zPl_grown, zOl_grown, zMl_grown)] pCl_leafRead qCl_leafRead) 7).2 [] η2 x3 η3 → (0 ≤ x3) → (0 ≤ x3) → ∀ (x4 : Int) (η4 : zE), ((gC2 wl_l [(nat_lit 0, zPl_isSign, zOl_isSign, zMl_isSign), (nat_lit 1, zPl_wrong, zOl_wrong, zMl_wrong), (nat_lit 2, zPl_waitsFor0, zOl_waitsFor0, zMl_waitsFor0), (nat_lit 3, zPl_token, zOl_token, zMl_token), (nat_lit 4, zPl_isKey, zOl_isKey, zMl_isKey), (nat_lit 5, zPl_isCounted, zOl_isCounted, zMl_isCounted), (nat_lit 6, zPl_waitsFor2, zOl_waitsFor2, zMl_waitsFor2), (nat_lit 7, zPl_nameMet, zOl_nameMet, zMl_nameMet), (nat_lit 8, zPl_grown, zOl_grown, zMl_grown)] pCl_leafRead qCl_leafRead) 5).2 [] η3 x4 η4 → (¬ x4 = 0) → (0 ≤ x3) → (0 ≤ x3) → ∀ (x5 : Int) (η5 : zE), ((gC2 wl_l [(nat_lit 0, zPl_isSign, zOl_isSign, zMl_isSign), (nat_lit 1, zPl_wrong, zOl_wrong, zMl_wrong), (nat_lit 2, zPl_waitsFor0, zOl_waitsFor0, zMl_waitsFor0), (nat_lit 3, zPl_token, zOl_token, zMl_token), (nat_lit 4, zPl_isKey, zOl_isKey, zMl_isKey), (nat_lit 5, zPl_isCounted, zOl_isCounted, zMl_isCounted), (nat_lit 6, zPl_waitsFor2, zOl_waitsFor2, zMl_waitsFor2), (nat_lit 7, zPl_nameMet, zOl_nameMet, zMl_nameMet), (nat_lit 8, zPl_grown, zOl_grown, zMl_grown)] pCl_leafRead qCl_leafRead) 8).2 [1, x3, 0] η4 x5 η5 → ∀ η6 : zE, η6 = zup η5 0 (Int.toNat 45) 0 → ∀ (x6 : Int) (η7 : zE), ((gC2 wl_l [(nat_lit 0, zPl_isSign, zOl_isSign, zMl_isSign), (nat_lit 1, zPl_wrong, zOl_wrong, zMl_wrong), (nat_lit 2, zPl_waitsFor0, zOl_waitsFor0, zMl_waitsFor0), (nat_lit 3, zPl_token, zOl_token, zMl_token), (nat_lit 4, zPl_isKey, zOl_isKey, zMl_isKey), (nat_lit 5, zPl_isCounted, zOl_isCounted, zMl_isCounted), (nat_lit 6, zPl_waitsFor2, zOl_waitsFor2, zMl_waitsFor2), (nat_lit 7, zPl_nameMet, zOl_nameMet, zMl_nameMet), (nat_lit 8, zPl_grown, zOl_grown, zMl_grown)] pCl_leafRead qCl_leafRead) 3).2 [] η6 x6 η7 → (fun (_ : Nat) (y : Int) (η' : zE) => pQl_leafRead [] η y η') 0 1 η7
          have hw : η 0 45 = 1 := hpp.2
          have hs : η 0 7 ≤ η 0 6 := hpp.1.1.1.1
          have bd43 : (0 : Int) ≤ η 0 43 ∧ η 0 43 ≤ 8 := wf_ok (a := 43) (b := 43) (z := (0, 8)) hp.1 (by decide +kernel) (Nat.le_refl _) (Nat.le_refl _)
          have bd44 : (0 : Int) ≤ η 0 44 ∧ η 0 44 ≤ 64 := wf_ok (a := 44) (b := 44) (z := (0, 64)) hp.1 (by decide +kernel) (Nat.le_refl _) (Nat.le_refl _)
          have bd19 : (0 : Int) ≤ η 0 19 ∧ η 0 19 ≤ 64 := wf_ok (a := 19) (b := 19) (z := (0, 64)) hp.1 (by decide +kernel) (Nat.le_refl _) (Nat.le_refl _)
          intro x1 η1 h1 c1 x2 η2 h2 c2 x3 η3 h3 c3 c4 x4 η4 h4 c5 c6 c7 x5 η5 h5 η6 eη6 x6 η7 h6
          have k1 : sQ wl_l zTr zOl_isSign zMl_isSign [40] η x1 η1 ∧ pQl_isSign [40] η x1 η1 := h1
          have k2 : sQ wl_l zTr zOl_isKey zMl_isKey [12] η1 x2 η2 ∧ pQl_isKey [12] η1 x2 η2 := h2
          have k3 : sQ wl_l zTr zOl_nameMet zMl_nameMet [] η2 x3 η3 ∧ pQl_nameMet [] η2 x3 η3 := h3
          have k4 : sQ wl_l zTr zOl_isCounted zMl_isCounted [] η3 x4 η4 ∧ pQl_isCounted [] η3 x4 η4 := h4
          have k5 : sQ wl_l zTr zOl_grown zMl_grown [1, x3, 0] η4 x5 η5 ∧ pQl_grown [1, x3, 0] η4 x5 η5 := h5
          have k6 : sQ wl_l zTr zOl_token zMl_token [] η6 x6 η7 ∧ pQl_token [] η6 x6 η7 := h6
          have c0_0_41 : η 0 41 = η 0 41 := rfl
          have w0_0_43 : (0 : Int) ≤ η 0 43 ∧ η 0 43 ≤ 8 := wf_ok (a := 43) (b := 43) (z := (0, 8)) hp.1 (by decide +kernel) (Nat.le_refl _) (Nat.le_refl _)
          have c0_0_43 : η 0 43 = η 0 43 := rfl
          have c0_0_42 : η 0 42 = η 0 42 := rfl
          have c0_0_45 : η 0 45 = η 0 45 := rfl
          have w0_0_19 : (0 : Int) ≤ η 0 19 ∧ η 0 19 ≤ 64 := wf_ok (a := 19) (b := 19) (z := (0, 64)) hp.1 (by decide +kernel) (Nat.le_refl _) (Nat.le_refl _)
          have c0_0_19 : η 0 19 = η 0 19 := rfl
          have w0_0_44 : (0 : Int) ≤ η 0 44 ∧ η 0 44 ≤ 64 := wf_ok (a := 44) (b := 44) (z := (0, 64)) hp.1 (by decide +kernel) (Nat.le_refl _) (Nat.le_refl _)
          have c0_0_44 : η 0 44 = η 0 44 := rfl
          have w0_0_7 : (0 : Int) ≤ η 0 7 ∧ η 0 7 ≤ 700 := wf_ok (a := 7) (b := 7) (z := (0, 700)) hp.1 (by decide +kernel) (Nat.le_refl _) (Nat.le_refl _)
          have c0_0_7 : η 0 7 = η 0 7 := rfl
          have w0_0_6 : (0 : Int) ≤ η 0 6 ∧ η 0 6 ≤ 700 := wf_ok (a := 6) (b := 6) (z := (0, 700)) hp.1 (by decide +kernel) (Nat.le_refl _) (Nat.le_refl _)
          have c0_0_6 : η 0 6 = η 0 6 := rfl
          have w0_0_8 : (0 : Int) ≤ η 0 8 ∧ η 0 8 ≤ 6 := wf_ok (a := 8) (b := 8) (z := (0, 6)) hp.1 (by decide +kernel) (Nat.le_refl _) (Nat.le_refl _)
          have c0_0_8 : η 0 8 = η 0 8 := rfl
          have bx1 : (0 : Int) ≤ x1 ∧ x1 ≤ 1 := k1.1.2.1
          have v9 : η1 0 41 = η 0 41 := (k1.1.2.2.2.1 0 41 (by decide +kernel)).trans rfl
          have c1_0_41 : η1 0 41 = η 0 41 := v9
          have v10 : η1 0 43 = η 0 43 := (k1.1.2.2.2.1 0 43 (by decide +kernel)).trans rfl
          have c1_0_43 : η1 0 43 = η 0 43 := v10
          have v11 : η1 0 42 = η 0 42 := (k1.1.2.2.2.1 0 42 (by decide +kernel)).trans rfl
          have c1_0_42 : η1 0 42 = η 0 42 := v11
          have v12 : η1 0 45 = η 0 45 := (k1.1.2.2.2.1 0 45 (by decide +kernel)).trans rfl
          have c1_0_45 : η1 0 45 = η 0 45 := v12
          have v13 : η1 0 19 = η 0 19 := (k1.1.2.2.2.1 0 19 (by decide +kernel)).trans rfl
          have c1_0_19 : η1 0 19 = η 0 19 := v13
          have v14 : η1 0 44 = η 0 44 := (k1.1.2.2.2.1 0 44 (by decide +kernel)).trans rfl
          have c1_0_44 : η1 0 44 = η 0 44 := v14
          have v15 : η1 0 7 = η 0 7 := (k1.1.2.2.2.1 0 7 (by decide +kernel)).trans rfl
          have c1_0_7 : η1 0 7 = η 0 7 := v15
          have v16 : η1 0 6 = η 0 6 := (k1.1.2.2.2.1 0 6 (by decide +kernel)).trans rfl
          have c1_0_6 : η1 0 6 = η 0 6 := v16
          have v17 : η1 0 8 = η 0 8 := (k1.1.2.2.2.1 0 8 (by decide +kernel)).trans rfl
          have c1_0_8 : η1 0 8 = η 0 8 := v17
          have bx2 : (0 : Int) ≤ x2 ∧ x2 ≤ 1 := k2.1.2.1
          have v18 : η2 0 41 = η 0 41 := (k2.1.2.2.2.1 0 41 (by decide +kernel)).trans v9
          have c2_0_41 : η2 0 41 = η 0 41 := v18
          have v19 : η2 0 43 = η 0 43 := (k2.1.2.2.2.1 0 43 (by decide +kernel)).trans v10
          have c2_0_43 : η2 0 43 = η 0 43 := v19
          have v20 : η2 0 42 = η 0 42 := (k2.1.2.2.2.1 0 42 (by decide +kernel)).trans v11
          have c2_0_42 : η2 0 42 = η 0 42 := v20
          have v21 : η2 0 45 = η 0 45 := (k2.1.2.2.2.1 0 45 (by decide +kernel)).trans v12
          have c2_0_45 : η2 0 45 = η 0 45 := v21
          have v22 : η2 0 19 = η 0 19 := (k2.1.2.2.2.1 0 19 (by decide +kernel)).trans v13
          have c2_0_19 : η2 0 19 = η 0 19 := v22
          have v23 : η2 0 44 = η 0 44 := (k2.1.2.2.2.1 0 44 (by decide +kernel)).trans v14
          have c2_0_44 : η2 0 44 = η 0 44 := v23
          have v24 : η2 0 7 = η 0 7 := (k2.1.2.2.2.1 0 7 (by decide +kernel)).trans v15
          have c2_0_7 : η2 0 7 = η 0 7 := v24
          have v25 : η2 0 6 = η 0 6 := (k2.1.2.2.2.1 0 6 (by decide +kernel)).trans v16
          have c2_0_6 : η2 0 6 = η 0 6 := v25
          have v26 : η2 0 8 = η 0 8 := (k2.1.2.2.2.1 0 8 (by decide +kernel)).trans v17
          have c2_0_8 : η2 0 8 = η 0 8 := v26
          have bx3 : ((-1) : Int) ≤ x3 ∧ x3 ≤ 6 := k3.1.2.1
          have v27 : η3 0 41 = η 0 41 := (k3.1.2.2.2.1 0 41 (by decide +kernel)).trans v18
          have c3_0_41 : η3 0 41 = η 0 41 := v27
          have v28 : η3 0 43 = η 0 43 := (k3.1.2.2.2.1 0 43 (by decide +kernel)).trans v19
          have c3_0_43 : η3 0 43 = η 0 43 := v28
          have v29 : η3 0 42 = η 0 42 := (k3.1.2.2.2.1 0 42 (by decide +kernel)).trans v20
          have c3_0_42 : η3 0 42 = η 0 42 := v29
          have v30 : η3 0 45 = η 0 45 := (k3.1.2.2.2.1 0 45 (by decide +kernel)).trans v21
          have c3_0_45 : η3 0 45 = η 0 45 := v30
          have v31 : η3 0 19 = η 0 19 := (k3.1.2.2.2.1 0 19 (by decide +kernel)).trans v22
          have c3_0_19 : η3 0 19 = η 0 19 := v31
          have v32 : η3 0 44 = η 0 44 := (k3.1.2.2.2.1 0 44 (by decide +kernel)).trans v23
          have c3_0_44 : η3 0 44 = η 0 44 := v32
          have v33 : η3 0 7 = η 0 7 := (k3.1.2.2.2.1 0 7 (by decide +kernel)).trans v24
          have c3_0_7 : η3 0 7 = η 0 7 := v33
          have v34 : η3 0 6 = η 0 6 := (k3.1.2.2.2.1 0 6 (by decide +kernel)).trans v25
          have c3_0_6 : η3 0 6 = η 0 6 := v34
          have v35 : η3 0 8 = η 0 8 := (k3.1.2.2.2.1 0 8 (by decide +kernel)).trans v26
          have c3_0_8 : η3 0 8 = η 0 8 := v35
          have bx4 : (0 : Int) ≤ x4 ∧ x4 ≤ 1 := k4.1.2.1
          have v36 : η4 0 41 = η 0 41 := (k4.1.2.2.2.1 0 41 (by decide +kernel)).trans v27
          have c4_0_41 : η4 0 41 = η 0 41 := v36
          have v37 : η4 0 43 = η 0 43 := (k4.1.2.2.2.1 0 43 (by decide +kernel)).trans v28
          have c4_0_43 : η4 0 43 = η 0 43 := v37
          have v38 : η4 0 42 = η 0 42 := (k4.1.2.2.2.1 0 42 (by decide +kernel)).trans v29
          have c4_0_42 : η4 0 42 = η 0 42 := v38
          have v39 : η4 0 45 = η 0 45 := (k4.1.2.2.2.1 0 45 (by decide +kernel)).trans v30
          have c4_0_45 : η4 0 45 = η 0 45 := v39
          have v40 : η4 0 19 = η 0 19 := (k4.1.2.2.2.1 0 19 (by decide +kernel)).trans v31
          have c4_0_19 : η4 0 19 = η 0 19 := v40
          have w4_0_44 : (0 : Int) ≤ η4 0 44 ∧ η4 0 44 ≤ 64 := wf_ok (a := 44) (b := 44) (z := (0, 64)) k4.1.1 (by decide +kernel) (Nat.le_refl _) (Nat.le_refl _)
          have c4_0_44 : η4 0 44 = η4 0 44 := rfl
          have v42 : η4 0 7 = η 0 7 := (k4.1.2.2.2.1 0 7 (by decide +kernel)).trans v33
          have c4_0_7 : η4 0 7 = η 0 7 := v42
          have v43 : η4 0 6 = η 0 6 := (k4.1.2.2.2.1 0 6 (by decide +kernel)).trans v34
          have c4_0_6 : η4 0 6 = η 0 6 := v43
          have v44 : η4 0 8 = η 0 8 := (k4.1.2.2.2.1 0 8 (by decide +kernel)).trans v35
          have c4_0_8 : η4 0 8 = η 0 8 := v44
          have bx5 : (0 : Int) ≤ x5 ∧ x5 ≤ 0 := k5.1.2.1
          have v45 : η5 0 41 = η 0 41 := (k5.1.2.2.2.1 0 41 (by decide +kernel)).trans v36
          have v46 : η6 0 41 = η 0 41 := by rw [eη6]; exact (zup_ne (fun _ e => absurd e (by decide))).trans v45
          have c6_0_41 : η6 0 41 = η 0 41 := v46
          have v47 : η5 0 43 = η 0 43 := (k5.1.2.2.2.1 0 43 (by decide +kernel)).trans v37
          have v48 : η6 0 43 = η 0 43 := by rw [eη6]; exact (zup_ne (fun _ e => absurd e (by decide))).trans v47
          have c6_0_43 : η6 0 43 = η 0 43 := v48
          have v50 : η6 0 42 = η5 0 42 := by rw [eη6]; exact (zup_ne (fun _ e => absurd e (by decide))).trans rfl
          have c6_0_42 : η6 0 42 = η5 0 42 := v50
          have v51 : η6 0 45 = 0 := by rw [eη6]; exact zup_eq
          have c6_0_45 : η6 0 45 = 0 := v51
          have w5_0_19 : (0 : Int) ≤ η5 0 19 ∧ η5 0 19 ≤ 64 := wf_ok (a := 19) (b := 19) (z := (0, 64)) k5.1.1 (by decide +kernel) (Nat.le_refl _) (Nat.le_refl _)
          have v53 : η6 0 19 = η5 0 19 := by rw [eη6]; exact (zup_ne (fun _ e => absurd e (by decide))).trans rfl
          have c6_0_19 : η6 0 19 = η5 0 19 := v53
          have v54 : η5 0 44 = η4 0 44 := (k5.1.2.2.2.1 0 44 (by decide +kernel)).trans rfl
          have v55 : η6 0 44 = η4 0 44 := by rw [eη6]; exact (zup_ne (fun _ e => absurd e (by decide))).trans v54
          have c6_0_44 : η6 0 44 = η4 0 44 := v55
          have v56 : η5 0 7 = η 0 7 := (k5.1.2.2.2.1 0 7 (by decide +kernel)).trans v42
          have v57 : η6 0 7 = η 0 7 := by rw [eη6]; exact (zup_ne (fun _ e => absurd e (by decide))).trans v56
          have c6_0_7 : η6 0 7 = η 0 7 := v57
          have v58 : η5 0 6 = η 0 6 := (k5.1.2.2.2.1 0 6 (by decide +kernel)).trans v43
          have v59 : η6 0 6 = η 0 6 := by rw [eη6]; exact (zup_ne (fun _ e => absurd e (by decide))).trans v58
          have c6_0_6 : η6 0 6 = η 0 6 := v59
          have v60 : η5 0 8 = η 0 8 := (k5.1.2.2.2.1 0 8 (by decide +kernel)).trans v44
          have v61 : η6 0 8 = η 0 8 := by rw [eη6]; exact (zup_ne (fun _ e => absurd e (by decide))).trans v60
          have c6_0_8 : η6 0 8 = η 0 8 := v61
          have bx6 : (0 : Int) ≤ x6 ∧ x6 ≤ 0 := k6.1.2.1
          have fm1 : zFm zMl_leafRead η η1 := zFm_tr2 zFm_rf k1.1.2.2.2.1 (by decide +kernel)
          have fm2 : zFm zMl_leafRead η η2 := zFm_tr2 fm1 k2.1.2.2.2.1 (by decide +kernel)
          have fm3 : zFm zMl_leafRead η η3 := zFm_tr2 fm2 k3.1.2.2.2.1 (by decide +kernel)
          have fm4 : zFm zMl_leafRead η η4 := zFm_tr2 fm3 k4.1.2.2.2.1 (by decide +kernel)
          have fm5 : zFm zMl_leafRead η η5 := zFm_tr2 fm4 k5.1.2.2.2.1 (by decide +kernel)
          have fm6 : zFm zMl_leafRead η η6 := by rw [eη6]; exact zFm_up fm5 rfl
          have fm7 : zFm zMl_leafRead η η7 := zFm_tr2 fm6 k6.1.2.2.2.1 (by decide +kernel)
          have fmE : zFm zMl_leafRead η η7 := fm7
          have fr22_0 : ∀ j, η 22 j = η 22 j := fun _ => rfl
          have v62 : ∀ j, η1 22 j = η 22 j := fun j => k1.1.2.2.2.1 22 _ (zinr_not (by decide +kernel))
          have fr22_1 : ∀ j, η1 22 j = η 22 j := v62
          have v63 : ∀ j, η2 22 j = η 22 j := fun j => (k2.1.2.2.2.1 22 _ (zinr_not (by decide +kernel))).trans (v62 j)
          have fr22_2 : ∀ j, η2 22 j = η 22 j := v63
          have v64 : ∀ j, η3 22 j = η 22 j := fun j => (k3.1.2.2.2.1 22 _ (zinr_not (by decide +kernel))).trans (v63 j)
          have fr22_3 : ∀ j, η3 22 j = η 22 j := v64
          have v65 : ∀ j, η4 22 j = η 22 j := fun j => (k4.1.2.2.2.1 22 _ (zinr_not (by decide +kernel))).trans (v64 j)
          have fr22_4 : ∀ j, η4 22 j = η 22 j := v65
          have v66 : ∀ j, η5 22 j = η 22 j := fun j => (k5.1.2.2.2.1 22 _ (zinr_not (by decide +kernel))).trans (v65 j)
          have fr22_5 : ∀ j, η5 22 j = η 22 j := v66
          have v67 : ∀ j, η6 22 j = η 22 j := fun j => by rw [eη6]; exact (zup_ne (fun e _ => absurd e (by decide))).trans (v66 j)
          have fr22_6 : ∀ j, η6 22 j = η 22 j := v67
          have v68 : ∀ j, η7 22 j = η 22 j := fun j => (k6.1.2.2.2.1 22 _ (zinr_not (by decide +kernel))).trans (v67 j)
          have fr22_7 : ∀ j, η7 22 j = η 22 j := v68
          have fr22 : ∀ j, η7 22 j = η 22 j := v68
          have v69 : η7 0 41 = η 0 41 := (k6.1.2.2.2.1 0 41 (by decide +kernel)).trans v46
          have f0_41 : η7 0 41 = η 0 41 := v69
          have v70 : η7 0 43 = η 0 43 := (k6.1.2.2.2.1 0 43 (by decide +kernel)).trans v48
          have f0_43 : η7 0 43 = η 0 43 := v70
          have v71 : η7 0 42 = η5 0 42 := (k6.1.2.2.2.1 0 42 (by decide +kernel)).trans v50
          have f0_42 : η7 0 42 = η5 0 42 := v71
          have v72 : η7 0 45 = 0 := (k6.1.2.2.2.1 0 45 (by decide +kernel)).trans v51
          have f0_45 : η7 0 45 = 0 := v72
          have v73 : η7 0 19 = η5 0 19 := (k6.1.2.2.2.1 0 19 (by decide +kernel)).trans v53
          have f0_19 : η7 0 19 = η5 0 19 := v73
          have v74 : η7 0 44 = η4 0 44 := (k6.1.2.2.2.1 0 44 (by decide +kernel)).trans v55
          have f0_44 : η7 0 44 = η4 0 44 := v74
          have w7_0_7 : (0 : Int) ≤ η7 0 7 ∧ η7 0 7 ≤ 700 := wf_ok (a := 7) (b := 7) (z := (0, 700)) k6.1.1 (by decide +kernel) (Nat.le_refl _) (Nat.le_refl _)
          have f0_7 : η7 0 7 = η7 0 7 := rfl
          have v76 : η7 0 6 = η 0 6 := (k6.1.2.2.2.1 0 6 (by decide +kernel)).trans v59
          have f0_6 : η7 0 6 = η 0 6 := v76
          have w7_0_8 : (0 : Int) ≤ η7 0 8 ∧ η7 0 8 ≤ 6 := wf_ok (a := 8) (b := 8) (z := (0, 6)) k6.1.1 (by decide +kernel) (Nat.le_refl _) (Nat.le_refl _)
          have f0_8 : η7 0 8 = η7 0 8 := rfl
          have wb1 : wB wl_l zTr η1 := k1.1.1
          have wb2 : wB wl_l zTr η2 := k2.1.1
          have wb3 : wB wl_l zTr η3 := k3.1.1
          have wb4 : wB wl_l zTr η4 := k4.1.1
          have wb5 : wB wl_l zTr η5 := k5.1.1
          have wb6 : wB wl_l zTr η6 := by rw [eη6]; exact wk_ok (a := 45) (b := 45) (z := ((-2147483648), 2147483647)) zTr_k (GR := []) wb5 (by decide +kernel) (by decide) (by decide) (show ((-2147483648) : Int) ≤ 0 by omega) (show 0 ≤ (2147483647 : Int) by omega)
          have wb7 : wB wl_l zTr η7 := k6.1.1
          have wbE : wB wl_l zTr η7 := wb7
          have I0 : H_l 0 0 0 η := hpp.1
          have I1 : H_l 0 0 0 η1 := k1.2.1
          have I2 : H_l 0 0 0 η2 := k2.2.1
          have I3 : H_l 0 0 0 η3 := k3.2.1
          have qk3 : η2 0 8 = 1 := k3.2.2 c3
          have I4 : H_l 1 0 0 η4 := k4.2.1 c5
          have I5 : H_l 0 0 1 η5 := k5.2.1 I4
          have qg5 : η5 0 19 = η4 0 19 + 1 := k5.2.2.2
          have I6 : H_l 0 0 0 η6 := by rw [eη6]; exact h_eq (wn_up I5) rfl rfl (by omega)
          have I7 : H_l 0 0 0 η7 := k6.2.1
          have qt6 : ¬ η6 0 8 = 0 → 10 * (η7 0 6 - η7 0 7) + η7 0 8 < 10 * (η6 0 6 - η6 0 7) + η6 0 8 := k6.2.2
          refine ⟨I7.1, fun _ => ⟨I7, show 10 * (η7 0 6 - η7 0 7) + η7 0 8 < 10 * (η 0 6 - η 0 7) + η 0 8 by omega, fun w => ?_⟩⟩
          have w : η7 0 45 = 0 := w
          omega
        · show ∀ (x1 : Int) (η1 : zE), ((gC2 wl_l [(nat_lit 0, zPl_isSign, zOl_isSign, zMl_isSign), (nat_lit 1, zPl_wrong, zOl_wrong, zMl_wrong), (nat_lit 2, zPl_waitsFor0, zOl_waitsFor0, zMl_waitsFor0), (nat_lit 3, zPl_token, zOl_token, zMl_token), (nat_lit 4, zPl_isKey, zOl_isKey, zMl_isKey), (nat_lit 5, zPl_isCounted, zOl_isCounted, zMl_isCounted), (nat_lit 6, zPl_waitsFor2, zOl_waitsFor2, zMl_waitsFor2), (nat_lit 7, zPl_nameMet, zOl_nameMet, zMl_nameMet), (nat_lit 8, zPl_grown, zOl_grown, zMl_grown)] pCl_leafRead qCl_leafRead) 0).2 [40] η x1 η1 → (x1 = 0) → ∀ (x2 : Int) (η2 : zE), ((gC2 wl_l [(nat_lit 0, zPl_isSign, zOl_isSign, zMl_isSign), (nat_lit 1, zPl_wrong, zOl_wrong, zMl_wrong), (nat_lit 2, zPl_waitsFor0, zOl_waitsFor0, zMl_waitsFor0), (nat_lit 3, zPl_token, zOl_token, zMl_token), (nat_lit 4, zPl_isKey, zOl_isKey, zMl_isKey), (nat_lit 5, zPl_isCounted, zOl_isCounted, zMl_isCounted), (nat_lit 6, zPl_waitsFor2, zOl_waitsFor2, zMl_waitsFor2), (nat_lit 7, zPl_nameMet, zOl_nameMet, zMl_nameMet), (nat_lit 8, zPl_grown, zOl_grown, zMl_grown)] pCl_leafRead qCl_leafRead) 4).2 [12] η1 x2 η2 → (x2 = 0) → ∀ (x3 : Int) (η3 : zE), ((gC2 wl_l [(nat_lit 0, zPl_isSign, zOl_isSign, zMl_isSign), (nat_lit 1, zPl_wrong, zOl_wrong, zMl_wrong), (nat_lit 2, zPl_waitsFor0, zOl_waitsFor0, zMl_waitsFor0), (nat_lit 3, zPl_token, zOl_token, zMl_token), (nat_lit 4, zPl_isKey, zOl_isKey, zMl_isKey), (nat_lit 5, zPl_isCounted, zOl_isCounted, zMl_isCounted), (nat_lit 6, zPl_waitsFor2, zOl_waitsFor2, zMl_waitsFor2), (nat_lit 7, zPl_nameMet, zOl_nameMet, zMl_nameMet), (nat_lit 8, zPl_grown, zOl_grown, zMl_grown)] pCl_leafRead qCl_leafRead) 7).2 [] η2 x3 η3 → (0 ≤ x3) → (0 ≤ x3) → ∀ (x4 : Int) (η4 : zE), ((gC2 wl_l [(nat_lit 0, zPl_isSign, zOl_isSign, zMl_isSign), (nat_lit 1, zPl_wrong, zOl_wrong, zMl_wrong), (nat_lit 2, zPl_waitsFor0, zOl_waitsFor0, zMl_waitsFor0), (nat_lit 3, zPl_token, zOl_token, zMl_token), (nat_lit 4, zPl_isKey, zOl_isKey, zMl_isKey), (nat_lit 5, zPl_isCounted, zOl_isCounted, zMl_isCounted), (nat_lit 6, zPl_waitsFor2, zOl_waitsFor2, zMl_waitsFor2), (nat_lit 7, zPl_nameMet, zOl_nameMet, zMl_nameMet), (nat_lit 8, zPl_grown, zOl_grown, zMl_grown)] pCl_leafRead qCl_leafRead) 5).2 [] η3 x4 η4 → (x4 = 0) → (fun (_ : Nat) (y : Int) (η' : zE) => pQl_leafRead [] η y η') 0 0 η4
          have hw : η 0 45 = 1 := hpp.2
          have hs : η 0 7 ≤ η 0 6 := hpp.1.1.1.1
          have bd43 : (0 : Int) ≤ η 0 43 ∧ η 0 43 ≤ 8 := wf_ok (a := 43) (b := 43) (z := (0, 8)) hp.1 (by decide +kernel) (Nat.le_refl _) (Nat.le_refl _)
          have bd44 : (0 : Int) ≤ η 0 44 ∧ η 0 44 ≤ 64 := wf_ok (a := 44) (b := 44) (z := (0, 64)) hp.1 (by decide +kernel) (Nat.le_refl _) (Nat.le_refl _)
          have bd19 : (0 : Int) ≤ η 0 19 ∧ η 0 19 ≤ 64 := wf_ok (a := 19) (b := 19) (z := (0, 64)) hp.1 (by decide +kernel) (Nat.le_refl _) (Nat.le_refl _)
          intro x1 η1 h1 c1 x2 η2 h2 c2 x3 η3 h3 c3 c4 x4 η4 h4 c5
          have k1 : sQ wl_l zTr zOl_isSign zMl_isSign [40] η x1 η1 ∧ pQl_isSign [40] η x1 η1 := h1
          have k2 : sQ wl_l zTr zOl_isKey zMl_isKey [12] η1 x2 η2 ∧ pQl_isKey [12] η1 x2 η2 := h2
          have k3 : sQ wl_l zTr zOl_nameMet zMl_nameMet [] η2 x3 η3 ∧ pQl_nameMet [] η2 x3 η3 := h3
          have k4 : sQ wl_l zTr zOl_isCounted zMl_isCounted [] η3 x4 η4 ∧ pQl_isCounted [] η3 x4 η4 := h4
          have c0_0_41 : η 0 41 = η 0 41 := rfl
          have w0_0_43 : (0 : Int) ≤ η 0 43 ∧ η 0 43 ≤ 8 := wf_ok (a := 43) (b := 43) (z := (0, 8)) hp.1 (by decide +kernel) (Nat.le_refl _) (Nat.le_refl _)
          have c0_0_43 : η 0 43 = η 0 43 := rfl
          have c0_0_42 : η 0 42 = η 0 42 := rfl
          have c0_0_45 : η 0 45 = η 0 45 := rfl
          have w0_0_19 : (0 : Int) ≤ η 0 19 ∧ η 0 19 ≤ 64 := wf_ok (a := 19) (b := 19) (z := (0, 64)) hp.1 (by decide +kernel) (Nat.le_refl _) (Nat.le_refl _)
          have c0_0_19 : η 0 19 = η 0 19 := rfl
          have w0_0_44 : (0 : Int) ≤ η 0 44 ∧ η 0 44 ≤ 64 := wf_ok (a := 44) (b := 44) (z := (0, 64)) hp.1 (by decide +kernel) (Nat.le_refl _) (Nat.le_refl _)
          have c0_0_44 : η 0 44 = η 0 44 := rfl
          have w0_0_7 : (0 : Int) ≤ η 0 7 ∧ η 0 7 ≤ 700 := wf_ok (a := 7) (b := 7) (z := (0, 700)) hp.1 (by decide +kernel) (Nat.le_refl _) (Nat.le_refl _)
          have c0_0_7 : η 0 7 = η 0 7 := rfl
          have w0_0_6 : (0 : Int) ≤ η 0 6 ∧ η 0 6 ≤ 700 := wf_ok (a := 6) (b := 6) (z := (0, 700)) hp.1 (by decide +kernel) (Nat.le_refl _) (Nat.le_refl _)
          have c0_0_6 : η 0 6 = η 0 6 := rfl
          have w0_0_8 : (0 : Int) ≤ η 0 8 ∧ η 0 8 ≤ 6 := wf_ok (a := 8) (b := 8) (z := (0, 6)) hp.1 (by decide +kernel) (Nat.le_refl _) (Nat.le_refl _)
          have c0_0_8 : η 0 8 = η 0 8 := rfl
          have bx1 : (0 : Int) ≤ x1 ∧ x1 ≤ 1 := k1.1.2.1
          have v9 : η1 0 41 = η 0 41 := (k1.1.2.2.2.1 0 41 (by decide +kernel)).trans rfl
          have c1_0_41 : η1 0 41 = η 0 41 := v9
          have v10 : η1 0 43 = η 0 43 := (k1.1.2.2.2.1 0 43 (by decide +kernel)).trans rfl
          have c1_0_43 : η1 0 43 = η 0 43 := v10
          have v11 : η1 0 42 = η 0 42 := (k1.1.2.2.2.1 0 42 (by decide +kernel)).trans rfl
          have c1_0_42 : η1 0 42 = η 0 42 := v11
          have v12 : η1 0 45 = η 0 45 := (k1.1.2.2.2.1 0 45 (by decide +kernel)).trans rfl
          have c1_0_45 : η1 0 45 = η 0 45 := v12
          have v13 : η1 0 19 = η 0 19 := (k1.1.2.2.2.1 0 19 (by decide +kernel)).trans rfl
          have c1_0_19 : η1 0 19 = η 0 19 := v13
          have v14 : η1 0 44 = η 0 44 := (k1.1.2.2.2.1 0 44 (by decide +kernel)).trans rfl
          have c1_0_44 : η1 0 44 = η 0 44 := v14
          have v15 : η1 0 7 = η 0 7 := (k1.1.2.2.2.1 0 7 (by decide +kernel)).trans rfl
          have c1_0_7 : η1 0 7 = η 0 7 := v15
          have v16 : η1 0 6 = η 0 6 := (k1.1.2.2.2.1 0 6 (by decide +kernel)).trans rfl
          have c1_0_6 : η1 0 6 = η 0 6 := v16
          have v17 : η1 0 8 = η 0 8 := (k1.1.2.2.2.1 0 8 (by decide +kernel)).trans rfl
          have c1_0_8 : η1 0 8 = η 0 8 := v17
          have bx2 : (0 : Int) ≤ x2 ∧ x2 ≤ 1 := k2.1.2.1
          have v18 : η2 0 41 = η 0 41 := (k2.1.2.2.2.1 0 41 (by decide +kernel)).trans v9
          have c2_0_41 : η2 0 41 = η 0 41 := v18
          have v19 : η2 0 43 = η 0 43 := (k2.1.2.2.2.1 0 43 (by decide +kernel)).trans v10
          have c2_0_43 : η2 0 43 = η 0 43 := v19
          have v20 : η2 0 42 = η 0 42 := (k2.1.2.2.2.1 0 42 (by decide +kernel)).trans v11
          have c2_0_42 : η2 0 42 = η 0 42 := v20
          have v21 : η2 0 45 = η 0 45 := (k2.1.2.2.2.1 0 45 (by decide +kernel)).trans v12
          have c2_0_45 : η2 0 45 = η 0 45 := v21
          have v22 : η2 0 19 = η 0 19 := (k2.1.2.2.2.1 0 19 (by decide +kernel)).trans v13
          have c2_0_19 : η2 0 19 = η 0 19 := v22
          have v23 : η2 0 44 = η 0 44 := (k2.1.2.2.2.1 0 44 (by decide +kernel)).trans v14
          have c2_0_44 : η2 0 44 = η 0 44 := v23
          have v24 : η2 0 7 = η 0 7 := (k2.1.2.2.2.1 0 7 (by decide +kernel)).trans v15
          have c2_0_7 : η2 0 7 = η 0 7 := v24
          have v25 : η2 0 6 = η 0 6 := (k2.1.2.2.2.1 0 6 (by decide +kernel)).trans v16
          have c2_0_6 : η2 0 6 = η 0 6 := v25
          have v26 : η2 0 8 = η 0 8 := (k2.1.2.2.2.1 0 8 (by decide +kernel)).trans v17
          have c2_0_8 : η2 0 8 = η 0 8 := v26
          have bx3 : ((-1) : Int) ≤ x3 ∧ x3 ≤ 6 := k3.1.2.1
          have v27 : η3 0 41 = η 0 41 := (k3.1.2.2.2.1 0 41 (by decide +kernel)).trans v18
          have c3_0_41 : η3 0 41 = η 0 41 := v27
          have v28 : η3 0 43 = η 0 43 := (k3.1.2.2.2.1 0 43 (by decide +kernel)).trans v19
          have c3_0_43 : η3 0 43 = η 0 43 := v28
          have v29 : η3 0 42 = η 0 42 := (k3.1.2.2.2.1 0 42 (by decide +kernel)).trans v20
          have c3_0_42 : η3 0 42 = η 0 42 := v29
          have v30 : η3 0 45 = η 0 45 := (k3.1.2.2.2.1 0 45 (by decide +kernel)).trans v21
          have c3_0_45 : η3 0 45 = η 0 45 := v30
          have v31 : η3 0 19 = η 0 19 := (k3.1.2.2.2.1 0 19 (by decide +kernel)).trans v22
          have c3_0_19 : η3 0 19 = η 0 19 := v31
          have v32 : η3 0 44 = η 0 44 := (k3.1.2.2.2.1 0 44 (by decide +kernel)).trans v23
          have c3_0_44 : η3 0 44 = η 0 44 := v32
          have v33 : η3 0 7 = η 0 7 := (k3.1.2.2.2.1 0 7 (by decide +kernel)).trans v24
          have c3_0_7 : η3 0 7 = η 0 7 := v33
          have v34 : η3 0 6 = η 0 6 := (k3.1.2.2.2.1 0 6 (by decide +kernel)).trans v25
          have c3_0_6 : η3 0 6 = η 0 6 := v34
          have v35 : η3 0 8 = η 0 8 := (k3.1.2.2.2.1 0 8 (by decide +kernel)).trans v26
          have c3_0_8 : η3 0 8 = η 0 8 := v35
          have bx4 : (0 : Int) ≤ x4 ∧ x4 ≤ 1 := k4.1.2.1
          have fm1 : zFm zMl_leafRead η η1 := zFm_tr2 zFm_rf k1.1.2.2.2.1 (by decide +kernel)
          have fm2 : zFm zMl_leafRead η η2 := zFm_tr2 fm1 k2.1.2.2.2.1 (by decide +kernel)
          have fm3 : zFm zMl_leafRead η η3 := zFm_tr2 fm2 k3.1.2.2.2.1 (by decide +kernel)
          have fm4 : zFm zMl_leafRead η η4 := zFm_tr2 fm3 k4.1.2.2.2.1 (by decide +kernel)
          have fmE : zFm zMl_leafRead η η4 := fm4
          have fr22_0 : ∀ j, η 22 j = η 22 j := fun _ => rfl
          have v36 : ∀ j, η1 22 j = η 22 j := fun j => k1.1.2.2.2.1 22 _ (zinr_not (by decide +kernel))
          have fr22_1 : ∀ j, η1 22 j = η 22 j := v36
          have v37 : ∀ j, η2 22 j = η 22 j := fun j => (k2.1.2.2.2.1 22 _ (zinr_not (by decide +kernel))).trans (v36 j)
          have fr22_2 : ∀ j, η2 22 j = η 22 j := v37
          have v38 : ∀ j, η3 22 j = η 22 j := fun j => (k3.1.2.2.2.1 22 _ (zinr_not (by decide +kernel))).trans (v37 j)
          have fr22_3 : ∀ j, η3 22 j = η 22 j := v38
          have v39 : ∀ j, η4 22 j = η 22 j := fun j => (k4.1.2.2.2.1 22 _ (zinr_not (by decide +kernel))).trans (v38 j)
          have fr22_4 : ∀ j, η4 22 j = η 22 j := v39
          have fr22 : ∀ j, η4 22 j = η 22 j := v39
          have v40 : η4 0 41 = η 0 41 := (k4.1.2.2.2.1 0 41 (by decide +kernel)).trans v27
          have f0_41 : η4 0 41 = η 0 41 := v40
          have v41 : η4 0 43 = η 0 43 := (k4.1.2.2.2.1 0 43 (by decide +kernel)).trans v28
          have f0_43 : η4 0 43 = η 0 43 := v41
          have v42 : η4 0 42 = η 0 42 := (k4.1.2.2.2.1 0 42 (by decide +kernel)).trans v29
          have f0_42 : η4 0 42 = η 0 42 := v42
          have v43 : η4 0 45 = η 0 45 := (k4.1.2.2.2.1 0 45 (by decide +kernel)).trans v30
          have f0_45 : η4 0 45 = η 0 45 := v43
          have v44 : η4 0 19 = η 0 19 := (k4.1.2.2.2.1 0 19 (by decide +kernel)).trans v31
          have f0_19 : η4 0 19 = η 0 19 := v44
          have w4_0_44 : (0 : Int) ≤ η4 0 44 ∧ η4 0 44 ≤ 64 := wf_ok (a := 44) (b := 44) (z := (0, 64)) k4.1.1 (by decide +kernel) (Nat.le_refl _) (Nat.le_refl _)
          have f0_44 : η4 0 44 = η4 0 44 := rfl
          have v46 : η4 0 7 = η 0 7 := (k4.1.2.2.2.1 0 7 (by decide +kernel)).trans v33
          have f0_7 : η4 0 7 = η 0 7 := v46
          have v47 : η4 0 6 = η 0 6 := (k4.1.2.2.2.1 0 6 (by decide +kernel)).trans v34
          have f0_6 : η4 0 6 = η 0 6 := v47
          have v48 : η4 0 8 = η 0 8 := (k4.1.2.2.2.1 0 8 (by decide +kernel)).trans v35
          have f0_8 : η4 0 8 = η 0 8 := v48
          have wb1 : wB wl_l zTr η1 := k1.1.1
          have wb2 : wB wl_l zTr η2 := k2.1.1
          have wb3 : wB wl_l zTr η3 := k3.1.1
          have wb4 : wB wl_l zTr η4 := k4.1.1
          have wbE : wB wl_l zTr η4 := wb4
          have I0 : H_l 0 0 0 η := hpp.1
          have I1 : H_l 0 0 0 η1 := k1.2.1
          have I2 : H_l 0 0 0 η2 := k2.2.1
          have I3 : H_l 0 0 0 η3 := k3.2.1
          have qk3 : η2 0 8 = 1 := k3.2.2 c3
          have I4 : H_l 0 0 0 η4 := k4.2.2 c5
          exact ⟨I4.1, fun w => absurd (show (0 : Int) = 0 by omega) w⟩
        · show ∀ (x1 : Int) (η1 : zE), ((gC2 wl_l [(nat_lit 0, zPl_isSign, zOl_isSign, zMl_isSign), (nat_lit 1, zPl_wrong, zOl_wrong, zMl_wrong), (nat_lit 2, zPl_waitsFor0, zOl_waitsFor0, zMl_waitsFor0), (nat_lit 3, zPl_token, zOl_token, zMl_token), (nat_lit 4, zPl_isKey, zOl_isKey, zMl_isKey), (nat_lit 5, zPl_isCounted, zOl_isCounted, zMl_isCounted), (nat_lit 6, zPl_waitsFor2, zOl_waitsFor2, zMl_waitsFor2), (nat_lit 7, zPl_nameMet, zOl_nameMet, zMl_nameMet), (nat_lit 8, zPl_grown, zOl_grown, zMl_grown)] pCl_leafRead qCl_leafRead) 0).2 [40] η x1 η1 → (x1 = 0) → ∀ (x2 : Int) (η2 : zE), ((gC2 wl_l [(nat_lit 0, zPl_isSign, zOl_isSign, zMl_isSign), (nat_lit 1, zPl_wrong, zOl_wrong, zMl_wrong), (nat_lit 2, zPl_waitsFor0, zOl_waitsFor0, zMl_waitsFor0), (nat_lit 3, zPl_token, zOl_token, zMl_token), (nat_lit 4, zPl_isKey, zOl_isKey, zMl_isKey), (nat_lit 5, zPl_isCounted, zOl_isCounted, zMl_isCounted), (nat_lit 6, zPl_waitsFor2, zOl_waitsFor2, zMl_waitsFor2), (nat_lit 7, zPl_nameMet, zOl_nameMet, zMl_nameMet), (nat_lit 8, zPl_grown, zOl_grown, zMl_grown)] pCl_leafRead qCl_leafRead) 4).2 [12] η1 x2 η2 → (x2 = 0) → ∀ (x3 : Int) (η3 : zE), ((gC2 wl_l [(nat_lit 0, zPl_isSign, zOl_isSign, zMl_isSign), (nat_lit 1, zPl_wrong, zOl_wrong, zMl_wrong), (nat_lit 2, zPl_waitsFor0, zOl_waitsFor0, zMl_waitsFor0), (nat_lit 3, zPl_token, zOl_token, zMl_token), (nat_lit 4, zPl_isKey, zOl_isKey, zMl_isKey), (nat_lit 5, zPl_isCounted, zOl_isCounted, zMl_isCounted), (nat_lit 6, zPl_waitsFor2, zOl_waitsFor2, zMl_waitsFor2), (nat_lit 7, zPl_nameMet, zOl_nameMet, zMl_nameMet), (nat_lit 8, zPl_grown, zOl_grown, zMl_grown)] pCl_leafRead qCl_leafRead) 7).2 [] η2 x3 η3 → (x3 < 0) → ∀ x4 : Int, x4 = η3 0 (Int.toNat 8) → zok 0 x4 → (x4 = 3) → (x3 < 0) → ∀ x5 : Int, x5 = η3 0 (Int.toNat 9) → zok 0 x5 → (x5 ≤ 9999) → ((gC2 wl_l [(nat_lit 0, zPl_isSign, zOl_isSign, zMl_isSign), (nat_lit 1, zPl_wrong, zOl_wrong, zMl_wrong), (nat_lit 2, zPl_waitsFor0, zOl_waitsFor0, zMl_waitsFor0), (nat_lit 3, zPl_token, zOl_token, zMl_token), (nat_lit 4, zPl_isKey, zOl_isKey, zMl_isKey), (nat_lit 5, zPl_isCounted, zOl_isCounted, zMl_isCounted), (nat_lit 6, zPl_waitsFor2, zOl_waitsFor2, zMl_waitsFor2), (nat_lit 7, zPl_nameMet, zOl_nameMet, zMl_nameMet), (nat_lit 8, zPl_grown, zOl_grown, zMl_grown)] pCl_leafRead qCl_leafRead) 5).1 [] η3
          have hw : η 0 45 = 1 := hpp.2
          have hs : η 0 7 ≤ η 0 6 := hpp.1.1.1.1
          have bd43 : (0 : Int) ≤ η 0 43 ∧ η 0 43 ≤ 8 := wf_ok (a := 43) (b := 43) (z := (0, 8)) hp.1 (by decide +kernel) (Nat.le_refl _) (Nat.le_refl _)
          have bd44 : (0 : Int) ≤ η 0 44 ∧ η 0 44 ≤ 64 := wf_ok (a := 44) (b := 44) (z := (0, 64)) hp.1 (by decide +kernel) (Nat.le_refl _) (Nat.le_refl _)
          have bd19 : (0 : Int) ≤ η 0 19 ∧ η 0 19 ≤ 64 := wf_ok (a := 19) (b := 19) (z := (0, 64)) hp.1 (by decide +kernel) (Nat.le_refl _) (Nat.le_refl _)
          intro x1 η1 h1 c1 x2 η2 h2 c2 x3 η3 h3 c3 x4 e4 r4 c4 c5 x5 e5 r5 c6
          have k1 : sQ wl_l zTr zOl_isSign zMl_isSign [40] η x1 η1 ∧ pQl_isSign [40] η x1 η1 := h1
          have k2 : sQ wl_l zTr zOl_isKey zMl_isKey [12] η1 x2 η2 ∧ pQl_isKey [12] η1 x2 η2 := h2
          have k3 : sQ wl_l zTr zOl_nameMet zMl_nameMet [] η2 x3 η3 ∧ pQl_nameMet [] η2 x3 η3 := h3
          have c0_0_41 : η 0 41 = η 0 41 := rfl
          have w0_0_43 : (0 : Int) ≤ η 0 43 ∧ η 0 43 ≤ 8 := wf_ok (a := 43) (b := 43) (z := (0, 8)) hp.1 (by decide +kernel) (Nat.le_refl _) (Nat.le_refl _)
          have c0_0_43 : η 0 43 = η 0 43 := rfl
          have c0_0_42 : η 0 42 = η 0 42 := rfl
          have c0_0_45 : η 0 45 = η 0 45 := rfl
          have w0_0_19 : (0 : Int) ≤ η 0 19 ∧ η 0 19 ≤ 64 := wf_ok (a := 19) (b := 19) (z := (0, 64)) hp.1 (by decide +kernel) (Nat.le_refl _) (Nat.le_refl _)
          have c0_0_19 : η 0 19 = η 0 19 := rfl
          have w0_0_44 : (0 : Int) ≤ η 0 44 ∧ η 0 44 ≤ 64 := wf_ok (a := 44) (b := 44) (z := (0, 64)) hp.1 (by decide +kernel) (Nat.le_refl _) (Nat.le_refl _)
          have c0_0_44 : η 0 44 = η 0 44 := rfl
          have w0_0_7 : (0 : Int) ≤ η 0 7 ∧ η 0 7 ≤ 700 := wf_ok (a := 7) (b := 7) (z := (0, 700)) hp.1 (by decide +kernel) (Nat.le_refl _) (Nat.le_refl _)
          have c0_0_7 : η 0 7 = η 0 7 := rfl
          have w0_0_6 : (0 : Int) ≤ η 0 6 ∧ η 0 6 ≤ 700 := wf_ok (a := 6) (b := 6) (z := (0, 700)) hp.1 (by decide +kernel) (Nat.le_refl _) (Nat.le_refl _)
          have c0_0_6 : η 0 6 = η 0 6 := rfl
          have w0_0_8 : (0 : Int) ≤ η 0 8 ∧ η 0 8 ≤ 6 := wf_ok (a := 8) (b := 8) (z := (0, 6)) hp.1 (by decide +kernel) (Nat.le_refl _) (Nat.le_refl _)
          have c0_0_8 : η 0 8 = η 0 8 := rfl
          have bx1 : (0 : Int) ≤ x1 ∧ x1 ≤ 1 := k1.1.2.1
          have v9 : η1 0 41 = η 0 41 := (k1.1.2.2.2.1 0 41 (by decide +kernel)).trans rfl
          have c1_0_41 : η1 0 41 = η 0 41 := v9
          have v10 : η1 0 43 = η 0 43 := (k1.1.2.2.2.1 0 43 (by decide +kernel)).trans rfl
          have c1_0_43 : η1 0 43 = η 0 43 := v10
          have v11 : η1 0 42 = η 0 42 := (k1.1.2.2.2.1 0 42 (by decide +kernel)).trans rfl
          have c1_0_42 : η1 0 42 = η 0 42 := v11
          have v12 : η1 0 45 = η 0 45 := (k1.1.2.2.2.1 0 45 (by decide +kernel)).trans rfl
          have c1_0_45 : η1 0 45 = η 0 45 := v12
          have v13 : η1 0 19 = η 0 19 := (k1.1.2.2.2.1 0 19 (by decide +kernel)).trans rfl
          have c1_0_19 : η1 0 19 = η 0 19 := v13
          have v14 : η1 0 44 = η 0 44 := (k1.1.2.2.2.1 0 44 (by decide +kernel)).trans rfl
          have c1_0_44 : η1 0 44 = η 0 44 := v14
          have v15 : η1 0 7 = η 0 7 := (k1.1.2.2.2.1 0 7 (by decide +kernel)).trans rfl
          have c1_0_7 : η1 0 7 = η 0 7 := v15
          have v16 : η1 0 6 = η 0 6 := (k1.1.2.2.2.1 0 6 (by decide +kernel)).trans rfl
          have c1_0_6 : η1 0 6 = η 0 6 := v16
          have v17 : η1 0 8 = η 0 8 := (k1.1.2.2.2.1 0 8 (by decide +kernel)).trans rfl
          have c1_0_8 : η1 0 8 = η 0 8 := v17
          have bx2 : (0 : Int) ≤ x2 ∧ x2 ≤ 1 := k2.1.2.1
          have v18 : η2 0 41 = η 0 41 := (k2.1.2.2.2.1 0 41 (by decide +kernel)).trans v9
          have c2_0_41 : η2 0 41 = η 0 41 := v18
          have v19 : η2 0 43 = η 0 43 := (k2.1.2.2.2.1 0 43 (by decide +kernel)).trans v10
          have c2_0_43 : η2 0 43 = η 0 43 := v19
          have v20 : η2 0 42 = η 0 42 := (k2.1.2.2.2.1 0 42 (by decide +kernel)).trans v11
          have c2_0_42 : η2 0 42 = η 0 42 := v20
          have v21 : η2 0 45 = η 0 45 := (k2.1.2.2.2.1 0 45 (by decide +kernel)).trans v12
          have c2_0_45 : η2 0 45 = η 0 45 := v21
          have v22 : η2 0 19 = η 0 19 := (k2.1.2.2.2.1 0 19 (by decide +kernel)).trans v13
          have c2_0_19 : η2 0 19 = η 0 19 := v22
          have v23 : η2 0 44 = η 0 44 := (k2.1.2.2.2.1 0 44 (by decide +kernel)).trans v14
          have c2_0_44 : η2 0 44 = η 0 44 := v23
          have v24 : η2 0 7 = η 0 7 := (k2.1.2.2.2.1 0 7 (by decide +kernel)).trans v15
          have c2_0_7 : η2 0 7 = η 0 7 := v24
          have v25 : η2 0 6 = η 0 6 := (k2.1.2.2.2.1 0 6 (by decide +kernel)).trans v16
          have c2_0_6 : η2 0 6 = η 0 6 := v25
          have v26 : η2 0 8 = η 0 8 := (k2.1.2.2.2.1 0 8 (by decide +kernel)).trans v17
          have c2_0_8 : η2 0 8 = η 0 8 := v26
          have bx3 : ((-1) : Int) ≤ x3 ∧ x3 ≤ 6 := k3.1.2.1
          have v27 : η3 0 8 = η 0 8 := (k3.1.2.2.2.1 0 8 (by decide +kernel)).trans v26
          replace e4 : x4 = η 0 8 := e4.trans v27
          replace r4 : -2147483648 ≤ x4 ∧ x4 ≤ 2147483647 := r4
          have v29 : η1 0 9 = η 0 9 := (k1.1.2.2.2.1 0 9 (by decide +kernel)).trans rfl
          have v30 : η2 0 9 = η 0 9 := (k2.1.2.2.2.1 0 9 (by decide +kernel)).trans v29
          have v31 : η3 0 9 = η 0 9 := (k3.1.2.2.2.1 0 9 (by decide +kernel)).trans v30
          replace e5 : x5 = η 0 9 := e5.trans v31
          replace r5 : -2147483648 ≤ x5 ∧ x5 ≤ 2147483647 := r5
          have fm1 : zFm zMl_leafRead η η1 := zFm_tr2 zFm_rf k1.1.2.2.2.1 (by decide +kernel)
          have fm2 : zFm zMl_leafRead η η2 := zFm_tr2 fm1 k2.1.2.2.2.1 (by decide +kernel)
          have fm3 : zFm zMl_leafRead η η3 := zFm_tr2 fm2 k3.1.2.2.2.1 (by decide +kernel)
          have fmE : zFm zMl_leafRead η η3 := fm3
          have fr22_0 : ∀ j, η 22 j = η 22 j := fun _ => rfl
          have v32 : ∀ j, η1 22 j = η 22 j := fun j => k1.1.2.2.2.1 22 _ (zinr_not (by decide +kernel))
          have fr22_1 : ∀ j, η1 22 j = η 22 j := v32
          have v33 : ∀ j, η2 22 j = η 22 j := fun j => (k2.1.2.2.2.1 22 _ (zinr_not (by decide +kernel))).trans (v32 j)
          have fr22_2 : ∀ j, η2 22 j = η 22 j := v33
          have v34 : ∀ j, η3 22 j = η 22 j := fun j => (k3.1.2.2.2.1 22 _ (zinr_not (by decide +kernel))).trans (v33 j)
          have fr22_3 : ∀ j, η3 22 j = η 22 j := v34
          have fr22 : ∀ j, η3 22 j = η 22 j := v34
          have v35 : η3 0 41 = η 0 41 := (k3.1.2.2.2.1 0 41 (by decide +kernel)).trans v18
          have f0_41 : η3 0 41 = η 0 41 := v35
          have v36 : η3 0 43 = η 0 43 := (k3.1.2.2.2.1 0 43 (by decide +kernel)).trans v19
          have f0_43 : η3 0 43 = η 0 43 := v36
          have v37 : η3 0 42 = η 0 42 := (k3.1.2.2.2.1 0 42 (by decide +kernel)).trans v20
          have f0_42 : η3 0 42 = η 0 42 := v37
          have v38 : η3 0 45 = η 0 45 := (k3.1.2.2.2.1 0 45 (by decide +kernel)).trans v21
          have f0_45 : η3 0 45 = η 0 45 := v38
          have v39 : η3 0 19 = η 0 19 := (k3.1.2.2.2.1 0 19 (by decide +kernel)).trans v22
          have f0_19 : η3 0 19 = η 0 19 := v39
          have v40 : η3 0 44 = η 0 44 := (k3.1.2.2.2.1 0 44 (by decide +kernel)).trans v23
          have f0_44 : η3 0 44 = η 0 44 := v40
          have v41 : η3 0 7 = η 0 7 := (k3.1.2.2.2.1 0 7 (by decide +kernel)).trans v24
          have f0_7 : η3 0 7 = η 0 7 := v41
          have v42 : η3 0 6 = η 0 6 := (k3.1.2.2.2.1 0 6 (by decide +kernel)).trans v25
          have f0_6 : η3 0 6 = η 0 6 := v42
          have f0_8 : η3 0 8 = η 0 8 := v27
          have wb1 : wB wl_l zTr η1 := k1.1.1
          have wb2 : wB wl_l zTr η2 := k2.1.1
          have wb3 : wB wl_l zTr η3 := k3.1.1
          have wbE : wB wl_l zTr η3 := wb3
          have I0 : H_l 0 0 0 η := hpp.1
          have I1 : H_l 0 0 0 η1 := k1.2.1
          have I2 : H_l 0 0 0 η2 := k2.2.1
          have I3 : H_l 0 0 0 η3 := k3.2.1
          exact I3
        · show ∀ (x1 : Int) (η1 : zE), ((gC2 wl_l [(nat_lit 0, zPl_isSign, zOl_isSign, zMl_isSign), (nat_lit 1, zPl_wrong, zOl_wrong, zMl_wrong), (nat_lit 2, zPl_waitsFor0, zOl_waitsFor0, zMl_waitsFor0), (nat_lit 3, zPl_token, zOl_token, zMl_token), (nat_lit 4, zPl_isKey, zOl_isKey, zMl_isKey), (nat_lit 5, zPl_isCounted, zOl_isCounted, zMl_isCounted), (nat_lit 6, zPl_waitsFor2, zOl_waitsFor2, zMl_waitsFor2), (nat_lit 7, zPl_nameMet, zOl_nameMet, zMl_nameMet), (nat_lit 8, zPl_grown, zOl_grown, zMl_grown)] pCl_leafRead qCl_leafRead) 0).2 [40] η x1 η1 → (x1 = 0) → ∀ (x2 : Int) (η2 : zE), ((gC2 wl_l [(nat_lit 0, zPl_isSign, zOl_isSign, zMl_isSign), (nat_lit 1, zPl_wrong, zOl_wrong, zMl_wrong), (nat_lit 2, zPl_waitsFor0, zOl_waitsFor0, zMl_waitsFor0), (nat_lit 3, zPl_token, zOl_token, zMl_token), (nat_lit 4, zPl_isKey, zOl_isKey, zMl_isKey), (nat_lit 5, zPl_isCounted, zOl_isCounted, zMl_isCounted), (nat_lit 6, zPl_waitsFor2, zOl_waitsFor2, zMl_waitsFor2), (nat_lit 7, zPl_nameMet, zOl_nameMet, zMl_nameMet), (nat_lit 8, zPl_grown, zOl_grown, zMl_grown)] pCl_leafRead qCl_leafRead) 4).2 [12] η1 x2 η2 → (x2 = 0) → ∀ (x3 : Int) (η3 : zE), ((gC2 wl_l [(nat_lit 0, zPl_isSign, zOl_isSign, zMl_isSign), (nat_lit 1, zPl_wrong, zOl_wrong, zMl_wrong), (nat_lit 2, zPl_waitsFor0, zOl_waitsFor0, zMl_waitsFor0), (nat_lit 3, zPl_token, zOl_token, zMl_token), (nat_lit 4, zPl_isKey, zOl_isKey, zMl_isKey), (nat_lit 5, zPl_isCounted, zOl_isCounted, zMl_isCounted), (nat_lit 6, zPl_waitsFor2, zOl_waitsFor2, zMl_waitsFor2), (nat_lit 7, zPl_nameMet, zOl_nameMet, zMl_nameMet), (nat_lit 8, zPl_grown, zOl_grown, zMl_grown)] pCl_leafRead qCl_leafRead) 7).2 [] η2 x3 η3 → (x3 < 0) → ∀ x4 : Int, x4 = η3 0 (Int.toNat 8) → zok 0 x4 → (x4 = 3) → (x3 < 0) → ∀ x5 : Int, x5 = η3 0 (Int.toNat 9) → zok 0 x5 → (x5 ≤ 9999) → ∀ (x6 : Int) (η4 : zE), ((gC2 wl_l [(nat_lit 0, zPl_isSign, zOl_isSign, zMl_isSign), (nat_lit 1, zPl_wrong, zOl_wrong, zMl_wrong), (nat_lit 2, zPl_waitsFor0, zOl_waitsFor0, zMl_waitsFor0), (nat_lit 3, zPl_token, zOl_token, zMl_token), (nat_lit 4, zPl_isKey, zOl_isKey, zMl_isKey), (nat_lit 5, zPl_isCounted, zOl_isCounted, zMl_isCounted), (nat_lit 6, zPl_waitsFor2, zOl_waitsFor2, zMl_waitsFor2), (nat_lit 7, zPl_nameMet, zOl_nameMet, zMl_nameMet), (nat_lit 8, zPl_grown, zOl_grown, zMl_grown)] pCl_leafRead qCl_leafRead) 5).2 [] η3 x6 η4 → (¬ x6 = 0) → (x3 < 0) → (x3 < 0) → ∀ x7 : Int, x7 = η4 0 (Int.toNat 9) → zok 0 x7 → ((gC2 wl_l [(nat_lit 0, zPl_isSign, zOl_isSign, zMl_isSign), (nat_lit 1, zPl_wrong, zOl_wrong, zMl_wrong), (nat_lit 2, zPl_waitsFor0, zOl_waitsFor0, zMl_waitsFor0), (nat_lit 3, zPl_token, zOl_token, zMl_token), (nat_lit 4, zPl_isKey, zOl_isKey, zMl_isKey), (nat_lit 5, zPl_isCounted, zOl_isCounted, zMl_isCounted), (nat_lit 6, zPl_waitsFor2, zOl_waitsFor2, zMl_waitsFor2), (nat_lit 7, zPl_nameMet, zOl_nameMet, zMl_nameMet), (nat_lit 8, zPl_grown, zOl_grown, zMl_grown)] pCl_leafRead qCl_leafRead) 8).1 [0, x7, 0] η4
          have hw : η 0 45 = 1 := hpp.2
          have hs : η 0 7 ≤ η 0 6 := hpp.1.1.1.1
          have bd43 : (0 : Int) ≤ η 0 43 ∧ η 0 43 ≤ 8 := wf_ok (a := 43) (b := 43) (z := (0, 8)) hp.1 (by decide +kernel) (Nat.le_refl _) (Nat.le_refl _)
          have bd44 : (0 : Int) ≤ η 0 44 ∧ η 0 44 ≤ 64 := wf_ok (a := 44) (b := 44) (z := (0, 64)) hp.1 (by decide +kernel) (Nat.le_refl _) (Nat.le_refl _)
          have bd19 : (0 : Int) ≤ η 0 19 ∧ η 0 19 ≤ 64 := wf_ok (a := 19) (b := 19) (z := (0, 64)) hp.1 (by decide +kernel) (Nat.le_refl _) (Nat.le_refl _)
          intro x1 η1 h1 c1 x2 η2 h2 c2 x3 η3 h3 c3 x4 e4 r4 c4 c5 x5 e5 r5 c6 x6 η4 h6 c7 c8 c9 x7 e7 r7
          have k1 : sQ wl_l zTr zOl_isSign zMl_isSign [40] η x1 η1 ∧ pQl_isSign [40] η x1 η1 := h1
          have k2 : sQ wl_l zTr zOl_isKey zMl_isKey [12] η1 x2 η2 ∧ pQl_isKey [12] η1 x2 η2 := h2
          have k3 : sQ wl_l zTr zOl_nameMet zMl_nameMet [] η2 x3 η3 ∧ pQl_nameMet [] η2 x3 η3 := h3
          have k6 : sQ wl_l zTr zOl_isCounted zMl_isCounted [] η3 x6 η4 ∧ pQl_isCounted [] η3 x6 η4 := h6
          have c0_0_41 : η 0 41 = η 0 41 := rfl
          have w0_0_43 : (0 : Int) ≤ η 0 43 ∧ η 0 43 ≤ 8 := wf_ok (a := 43) (b := 43) (z := (0, 8)) hp.1 (by decide +kernel) (Nat.le_refl _) (Nat.le_refl _)
          have c0_0_43 : η 0 43 = η 0 43 := rfl
          have c0_0_42 : η 0 42 = η 0 42 := rfl
          have c0_0_45 : η 0 45 = η 0 45 := rfl
          have w0_0_19 : (0 : Int) ≤ η 0 19 ∧ η 0 19 ≤ 64 := wf_ok (a := 19) (b := 19) (z := (0, 64)) hp.1 (by decide +kernel) (Nat.le_refl _) (Nat.le_refl _)
          have c0_0_19 : η 0 19 = η 0 19 := rfl
          have w0_0_44 : (0 : Int) ≤ η 0 44 ∧ η 0 44 ≤ 64 := wf_ok (a := 44) (b := 44) (z := (0, 64)) hp.1 (by decide +kernel) (Nat.le_refl _) (Nat.le_refl _)
          have c0_0_44 : η 0 44 = η 0 44 := rfl
          have w0_0_7 : (0 : Int) ≤ η 0 7 ∧ η 0 7 ≤ 700 := wf_ok (a := 7) (b := 7) (z := (0, 700)) hp.1 (by decide +kernel) (Nat.le_refl _) (Nat.le_refl _)
          have c0_0_7 : η 0 7 = η 0 7 := rfl
          have w0_0_6 : (0 : Int) ≤ η 0 6 ∧ η 0 6 ≤ 700 := wf_ok (a := 6) (b := 6) (z := (0, 700)) hp.1 (by decide +kernel) (Nat.le_refl _) (Nat.le_refl _)
          have c0_0_6 : η 0 6 = η 0 6 := rfl
          have w0_0_8 : (0 : Int) ≤ η 0 8 ∧ η 0 8 ≤ 6 := wf_ok (a := 8) (b := 8) (z := (0, 6)) hp.1 (by decide +kernel) (Nat.le_refl _) (Nat.le_refl _)
          have c0_0_8 : η 0 8 = η 0 8 := rfl
          have bx1 : (0 : Int) ≤ x1 ∧ x1 ≤ 1 := k1.1.2.1
          have v9 : η1 0 41 = η 0 41 := (k1.1.2.2.2.1 0 41 (by decide +kernel)).trans rfl
          have c1_0_41 : η1 0 41 = η 0 41 := v9
          have v10 : η1 0 43 = η 0 43 := (k1.1.2.2.2.1 0 43 (by decide +kernel)).trans rfl
          have c1_0_43 : η1 0 43 = η 0 43 := v10
          have v11 : η1 0 42 = η 0 42 := (k1.1.2.2.2.1 0 42 (by decide +kernel)).trans rfl
          have c1_0_42 : η1 0 42 = η 0 42 := v11
          have v12 : η1 0 45 = η 0 45 := (k1.1.2.2.2.1 0 45 (by decide +kernel)).trans rfl
          have c1_0_45 : η1 0 45 = η 0 45 := v12
          have v13 : η1 0 19 = η 0 19 := (k1.1.2.2.2.1 0 19 (by decide +kernel)).trans rfl
          have c1_0_19 : η1 0 19 = η 0 19 := v13
          have v14 : η1 0 44 = η 0 44 := (k1.1.2.2.2.1 0 44 (by decide +kernel)).trans rfl
          have c1_0_44 : η1 0 44 = η 0 44 := v14
          have v15 : η1 0 7 = η 0 7 := (k1.1.2.2.2.1 0 7 (by decide +kernel)).trans rfl
          have c1_0_7 : η1 0 7 = η 0 7 := v15
          have v16 : η1 0 6 = η 0 6 := (k1.1.2.2.2.1 0 6 (by decide +kernel)).trans rfl
          have c1_0_6 : η1 0 6 = η 0 6 := v16
          have v17 : η1 0 8 = η 0 8 := (k1.1.2.2.2.1 0 8 (by decide +kernel)).trans rfl
          have c1_0_8 : η1 0 8 = η 0 8 := v17
          have bx2 : (0 : Int) ≤ x2 ∧ x2 ≤ 1 := k2.1.2.1
          have v18 : η2 0 41 = η 0 41 := (k2.1.2.2.2.1 0 41 (by decide +kernel)).trans v9
          have c2_0_41 : η2 0 41 = η 0 41 := v18
          have v19 : η2 0 43 = η 0 43 := (k2.1.2.2.2.1 0 43 (by decide +kernel)).trans v10
          have c2_0_43 : η2 0 43 = η 0 43 := v19
          have v20 : η2 0 42 = η 0 42 := (k2.1.2.2.2.1 0 42 (by decide +kernel)).trans v11
          have c2_0_42 : η2 0 42 = η 0 42 := v20
          have v21 : η2 0 45 = η 0 45 := (k2.1.2.2.2.1 0 45 (by decide +kernel)).trans v12
          have c2_0_45 : η2 0 45 = η 0 45 := v21
          have v22 : η2 0 19 = η 0 19 := (k2.1.2.2.2.1 0 19 (by decide +kernel)).trans v13
          have c2_0_19 : η2 0 19 = η 0 19 := v22
          have v23 : η2 0 44 = η 0 44 := (k2.1.2.2.2.1 0 44 (by decide +kernel)).trans v14
          have c2_0_44 : η2 0 44 = η 0 44 := v23
          have v24 : η2 0 7 = η 0 7 := (k2.1.2.2.2.1 0 7 (by decide +kernel)).trans v15
          have c2_0_7 : η2 0 7 = η 0 7 := v24
          have v25 : η2 0 6 = η 0 6 := (k2.1.2.2.2.1 0 6 (by decide +kernel)).trans v16
          have c2_0_6 : η2 0 6 = η 0 6 := v25
          have v26 : η2 0 8 = η 0 8 := (k2.1.2.2.2.1 0 8 (by decide +kernel)).trans v17
          have c2_0_8 : η2 0 8 = η 0 8 := v26
          have bx3 : ((-1) : Int) ≤ x3 ∧ x3 ≤ 6 := k3.1.2.1
          have v27 : η3 0 8 = η 0 8 := (k3.1.2.2.2.1 0 8 (by decide +kernel)).trans v26
          replace e4 : x4 = η 0 8 := e4.trans v27
          replace r4 : -2147483648 ≤ x4 ∧ x4 ≤ 2147483647 := r4
          have v29 : η1 0 9 = η 0 9 := (k1.1.2.2.2.1 0 9 (by decide +kernel)).trans rfl
          have v30 : η2 0 9 = η 0 9 := (k2.1.2.2.2.1 0 9 (by decide +kernel)).trans v29
          have v31 : η3 0 9 = η 0 9 := (k3.1.2.2.2.1 0 9 (by decide +kernel)).trans v30
          replace e5 : x5 = η 0 9 := e5.trans v31
          replace r5 : -2147483648 ≤ x5 ∧ x5 ≤ 2147483647 := r5
          have v32 : η3 0 41 = η 0 41 := (k3.1.2.2.2.1 0 41 (by decide +kernel)).trans v18
          have c3_0_41 : η3 0 41 = η 0 41 := v32
          have v33 : η3 0 43 = η 0 43 := (k3.1.2.2.2.1 0 43 (by decide +kernel)).trans v19
          have c3_0_43 : η3 0 43 = η 0 43 := v33
          have v34 : η3 0 42 = η 0 42 := (k3.1.2.2.2.1 0 42 (by decide +kernel)).trans v20
          have c3_0_42 : η3 0 42 = η 0 42 := v34
          have v35 : η3 0 45 = η 0 45 := (k3.1.2.2.2.1 0 45 (by decide +kernel)).trans v21
          have c3_0_45 : η3 0 45 = η 0 45 := v35
          have v36 : η3 0 19 = η 0 19 := (k3.1.2.2.2.1 0 19 (by decide +kernel)).trans v22
          have c3_0_19 : η3 0 19 = η 0 19 := v36
          have v37 : η3 0 44 = η 0 44 := (k3.1.2.2.2.1 0 44 (by decide +kernel)).trans v23
          have c3_0_44 : η3 0 44 = η 0 44 := v37
          have v38 : η3 0 7 = η 0 7 := (k3.1.2.2.2.1 0 7 (by decide +kernel)).trans v24
          have c3_0_7 : η3 0 7 = η 0 7 := v38
          have v39 : η3 0 6 = η 0 6 := (k3.1.2.2.2.1 0 6 (by decide +kernel)).trans v25
          have c3_0_6 : η3 0 6 = η 0 6 := v39
          have c3_0_8 : η3 0 8 = η 0 8 := v27
          have bx6 : (0 : Int) ≤ x6 ∧ x6 ≤ 1 := k6.1.2.1
          have v40 : η4 0 9 = η 0 9 := (k6.1.2.2.2.1 0 9 (by decide +kernel)).trans v31
          replace e7 : x7 = η 0 9 := e7.trans v40
          replace r7 : -2147483648 ≤ x7 ∧ x7 ≤ 2147483647 := r7
          have fm1 : zFm zMl_leafRead η η1 := zFm_tr2 zFm_rf k1.1.2.2.2.1 (by decide +kernel)
          have fm2 : zFm zMl_leafRead η η2 := zFm_tr2 fm1 k2.1.2.2.2.1 (by decide +kernel)
          have fm3 : zFm zMl_leafRead η η3 := zFm_tr2 fm2 k3.1.2.2.2.1 (by decide +kernel)
          have fm4 : zFm zMl_leafRead η η4 := zFm_tr2 fm3 k6.1.2.2.2.1 (by decide +kernel)
          have fmE : zFm zMl_leafRead η η4 := fm4
          have fr22_0 : ∀ j, η 22 j = η 22 j := fun _ => rfl
          have v41 : ∀ j, η1 22 j = η 22 j := fun j => k1.1.2.2.2.1 22 _ (zinr_not (by decide +kernel))
          have fr22_1 : ∀ j, η1 22 j = η 22 j := v41
          have v42 : ∀ j, η2 22 j = η 22 j := fun j => (k2.1.2.2.2.1 22 _ (zinr_not (by decide +kernel))).trans (v41 j)
          have fr22_2 : ∀ j, η2 22 j = η 22 j := v42
          have v43 : ∀ j, η3 22 j = η 22 j := fun j => (k3.1.2.2.2.1 22 _ (zinr_not (by decide +kernel))).trans (v42 j)
          have fr22_3 : ∀ j, η3 22 j = η 22 j := v43
          have v44 : ∀ j, η4 22 j = η 22 j := fun j => (k6.1.2.2.2.1 22 _ (zinr_not (by decide +kernel))).trans (v43 j)
          have fr22_4 : ∀ j, η4 22 j = η 22 j := v44
          have fr22 : ∀ j, η4 22 j = η 22 j := v44
          have v45 : η4 0 41 = η 0 41 := (k6.1.2.2.2.1 0 41 (by decide +kernel)).trans v32
          have f0_41 : η4 0 41 = η 0 41 := v45
          have v46 : η4 0 43 = η 0 43 := (k6.1.2.2.2.1 0 43 (by decide +kernel)).trans v33
          have f0_43 : η4 0 43 = η 0 43 := v46
          have v47 : η4 0 42 = η 0 42 := (k6.1.2.2.2.1 0 42 (by decide +kernel)).trans v34
          have f0_42 : η4 0 42 = η 0 42 := v47
          have v48 : η4 0 45 = η 0 45 := (k6.1.2.2.2.1 0 45 (by decide +kernel)).trans v35
          have f0_45 : η4 0 45 = η 0 45 := v48
          have v49 : η4 0 19 = η 0 19 := (k6.1.2.2.2.1 0 19 (by decide +kernel)).trans v36
          have f0_19 : η4 0 19 = η 0 19 := v49
          have w4_0_44 : (0 : Int) ≤ η4 0 44 ∧ η4 0 44 ≤ 64 := wf_ok (a := 44) (b := 44) (z := (0, 64)) k6.1.1 (by decide +kernel) (Nat.le_refl _) (Nat.le_refl _)
          have f0_44 : η4 0 44 = η4 0 44 := rfl
          have v51 : η4 0 7 = η 0 7 := (k6.1.2.2.2.1 0 7 (by decide +kernel)).trans v38
          have f0_7 : η4 0 7 = η 0 7 := v51
          have v52 : η4 0 6 = η 0 6 := (k6.1.2.2.2.1 0 6 (by decide +kernel)).trans v39
          have f0_6 : η4 0 6 = η 0 6 := v52
          have v53 : η4 0 8 = η 0 8 := (k6.1.2.2.2.1 0 8 (by decide +kernel)).trans v27
          have f0_8 : η4 0 8 = η 0 8 := v53
          have wb1 : wB wl_l zTr η1 := k1.1.1
          have wb2 : wB wl_l zTr η2 := k2.1.1
          have wb3 : wB wl_l zTr η3 := k3.1.1
          have wb4 : wB wl_l zTr η4 := k6.1.1
          have wbE : wB wl_l zTr η4 := wb4
          have I0 : H_l 0 0 0 η := hpp.1
          have I1 : H_l 0 0 0 η1 := k1.2.1
          have I2 : H_l 0 0 0 η2 := k2.2.1
          have I3 : H_l 0 0 0 η3 := k3.2.1
          have I4 : H_l 1 0 0 η4 := k6.2.1 c7
          obtain ⟨j1, j2, j3, j4⟩ := I4.2
          have cn := cz_n (η := η4) (η4 0 41).toNat
          exact ⟨Or.inl I4, ⟨fun w => absurd w (by decide), fun w => absurd rfl w, fun w => absurd rfl w⟩, show 0 ≤ η4 0 42 by omega, show η4 0 42 ≤ 95 by omega⟩
        · show ∀ (x1 : Int) (η1 : zE), ((gC2 wl_l [(nat_lit 0, zPl_isSign, zOl_isSign, zMl_isSign), (nat_lit 1, zPl_wrong, zOl_wrong, zMl_wrong), (nat_lit 2, zPl_waitsFor0, zOl_waitsFor0, zMl_waitsFor0), (nat_lit 3, zPl_token, zOl_token, zMl_token), (nat_lit 4, zPl_isKey, zOl_isKey, zMl_isKey), (nat_lit 5, zPl_isCounted, zOl_isCounted, zMl_isCounted), (nat_lit 6, zPl_waitsFor2, zOl_waitsFor2, zMl_waitsFor2), (nat_lit 7, zPl_nameMet, zOl_nameMet, zMl_nameMet), (nat_lit 8, zPl_grown, zOl_grown, zMl_grown)] pCl_leafRead qCl_leafRead) 0).2 [40] η x1 η1 → (x1 = 0) → ∀ (x2 : Int) (η2 : zE), ((gC2 wl_l [(nat_lit 0, zPl_isSign, zOl_isSign, zMl_isSign), (nat_lit 1, zPl_wrong, zOl_wrong, zMl_wrong), (nat_lit 2, zPl_waitsFor0, zOl_waitsFor0, zMl_waitsFor0), (nat_lit 3, zPl_token, zOl_token, zMl_token), (nat_lit 4, zPl_isKey, zOl_isKey, zMl_isKey), (nat_lit 5, zPl_isCounted, zOl_isCounted, zMl_isCounted), (nat_lit 6, zPl_waitsFor2, zOl_waitsFor2, zMl_waitsFor2), (nat_lit 7, zPl_nameMet, zOl_nameMet, zMl_nameMet), (nat_lit 8, zPl_grown, zOl_grown, zMl_grown)] pCl_leafRead qCl_leafRead) 4).2 [12] η1 x2 η2 → (x2 = 0) → ∀ (x3 : Int) (η3 : zE), ((gC2 wl_l [(nat_lit 0, zPl_isSign, zOl_isSign, zMl_isSign), (nat_lit 1, zPl_wrong, zOl_wrong, zMl_wrong), (nat_lit 2, zPl_waitsFor0, zOl_waitsFor0, zMl_waitsFor0), (nat_lit 3, zPl_token, zOl_token, zMl_token), (nat_lit 4, zPl_isKey, zOl_isKey, zMl_isKey), (nat_lit 5, zPl_isCounted, zOl_isCounted, zMl_isCounted), (nat_lit 6, zPl_waitsFor2, zOl_waitsFor2, zMl_waitsFor2), (nat_lit 7, zPl_nameMet, zOl_nameMet, zMl_nameMet), (nat_lit 8, zPl_grown, zOl_grown, zMl_grown)] pCl_leafRead qCl_leafRead) 7).2 [] η2 x3 η3 → (x3 < 0) → ∀ x4 : Int, x4 = η3 0 (Int.toNat 8) → zok 0 x4 → (x4 = 3) → (x3 < 0) → ∀ x5 : Int, x5 = η3 0 (Int.toNat 9) → zok 0 x5 → (x5 ≤ 9999) → ∀ (x6 : Int) (η4 : zE), ((gC2 wl_l [(nat_lit 0, zPl_isSign, zOl_isSign, zMl_isSign), (nat_lit 1, zPl_wrong, zOl_wrong, zMl_wrong), (nat_lit 2, zPl_waitsFor0, zOl_waitsFor0, zMl_waitsFor0), (nat_lit 3, zPl_token, zOl_token, zMl_token), (nat_lit 4, zPl_isKey, zOl_isKey, zMl_isKey), (nat_lit 5, zPl_isCounted, zOl_isCounted, zMl_isCounted), (nat_lit 6, zPl_waitsFor2, zOl_waitsFor2, zMl_waitsFor2), (nat_lit 7, zPl_nameMet, zOl_nameMet, zMl_nameMet), (nat_lit 8, zPl_grown, zOl_grown, zMl_grown)] pCl_leafRead qCl_leafRead) 5).2 [] η3 x6 η4 → (¬ x6 = 0) → (x3 < 0) → (x3 < 0) → ∀ x7 : Int, x7 = η4 0 (Int.toNat 9) → zok 0 x7 → ∀ (x8 : Int) (η5 : zE), ((gC2 wl_l [(nat_lit 0, zPl_isSign, zOl_isSign, zMl_isSign), (nat_lit 1, zPl_wrong, zOl_wrong, zMl_wrong), (nat_lit 2, zPl_waitsFor0, zOl_waitsFor0, zMl_waitsFor0), (nat_lit 3, zPl_token, zOl_token, zMl_token), (nat_lit 4, zPl_isKey, zOl_isKey, zMl_isKey), (nat_lit 5, zPl_isCounted, zOl_isCounted, zMl_isCounted), (nat_lit 6, zPl_waitsFor2, zOl_waitsFor2, zMl_waitsFor2), (nat_lit 7, zPl_nameMet, zOl_nameMet, zMl_nameMet), (nat_lit 8, zPl_grown, zOl_grown, zMl_grown)] pCl_leafRead qCl_leafRead) 8).2 [0, x7, 0] η4 x8 η5 → ∀ η6 : zE, η6 = zup η5 0 (Int.toNat 45) 0 → ((gC2 wl_l [(nat_lit 0, zPl_isSign, zOl_isSign, zMl_isSign), (nat_lit 1, zPl_wrong, zOl_wrong, zMl_wrong), (nat_lit 2, zPl_waitsFor0, zOl_waitsFor0, zMl_waitsFor0), (nat_lit 3, zPl_token, zOl_token, zMl_token), (nat_lit 4, zPl_isKey, zOl_isKey, zMl_isKey), (nat_lit 5, zPl_isCounted, zOl_isCounted, zMl_isCounted), (nat_lit 6, zPl_waitsFor2, zOl_waitsFor2, zMl_waitsFor2), (nat_lit 7, zPl_nameMet, zOl_nameMet, zMl_nameMet), (nat_lit 8, zPl_grown, zOl_grown, zMl_grown)] pCl_leafRead qCl_leafRead) 3).1 [] η6
          have hw : η 0 45 = 1 := hpp.2
          have hs : η 0 7 ≤ η 0 6 := hpp.1.1.1.1
          have bd43 : (0 : Int) ≤ η 0 43 ∧ η 0 43 ≤ 8 := wf_ok (a := 43) (b := 43) (z := (0, 8)) hp.1 (by decide +kernel) (Nat.le_refl _) (Nat.le_refl _)
          have bd44 : (0 : Int) ≤ η 0 44 ∧ η 0 44 ≤ 64 := wf_ok (a := 44) (b := 44) (z := (0, 64)) hp.1 (by decide +kernel) (Nat.le_refl _) (Nat.le_refl _)
          have bd19 : (0 : Int) ≤ η 0 19 ∧ η 0 19 ≤ 64 := wf_ok (a := 19) (b := 19) (z := (0, 64)) hp.1 (by decide +kernel) (Nat.le_refl _) (Nat.le_refl _)
          intro x1 η1 h1 c1 x2 η2 h2 c2 x3 η3 h3 c3 x4 e4 r4 c4 c5 x5 e5 r5 c6 x6 η4 h6 c7 c8 c9 x7 e7 r7 x8 η5 h8 η6 eη6
          have k1 : sQ wl_l zTr zOl_isSign zMl_isSign [40] η x1 η1 ∧ pQl_isSign [40] η x1 η1 := h1
          have k2 : sQ wl_l zTr zOl_isKey zMl_isKey [12] η1 x2 η2 ∧ pQl_isKey [12] η1 x2 η2 := h2
          have k3 : sQ wl_l zTr zOl_nameMet zMl_nameMet [] η2 x3 η3 ∧ pQl_nameMet [] η2 x3 η3 := h3
          have k6 : sQ wl_l zTr zOl_isCounted zMl_isCounted [] η3 x6 η4 ∧ pQl_isCounted [] η3 x6 η4 := h6
          have k8 : sQ wl_l zTr zOl_grown zMl_grown [0, x7, 0] η4 x8 η5 ∧ pQl_grown [0, x7, 0] η4 x8 η5 := h8
          have c0_0_41 : η 0 41 = η 0 41 := rfl
          have w0_0_43 : (0 : Int) ≤ η 0 43 ∧ η 0 43 ≤ 8 := wf_ok (a := 43) (b := 43) (z := (0, 8)) hp.1 (by decide +kernel) (Nat.le_refl _) (Nat.le_refl _)
          have c0_0_43 : η 0 43 = η 0 43 := rfl
          have c0_0_42 : η 0 42 = η 0 42 := rfl
          have c0_0_45 : η 0 45 = η 0 45 := rfl
          have w0_0_19 : (0 : Int) ≤ η 0 19 ∧ η 0 19 ≤ 64 := wf_ok (a := 19) (b := 19) (z := (0, 64)) hp.1 (by decide +kernel) (Nat.le_refl _) (Nat.le_refl _)
          have c0_0_19 : η 0 19 = η 0 19 := rfl
          have w0_0_44 : (0 : Int) ≤ η 0 44 ∧ η 0 44 ≤ 64 := wf_ok (a := 44) (b := 44) (z := (0, 64)) hp.1 (by decide +kernel) (Nat.le_refl _) (Nat.le_refl _)
          have c0_0_44 : η 0 44 = η 0 44 := rfl
          have w0_0_7 : (0 : Int) ≤ η 0 7 ∧ η 0 7 ≤ 700 := wf_ok (a := 7) (b := 7) (z := (0, 700)) hp.1 (by decide +kernel) (Nat.le_refl _) (Nat.le_refl _)
          have c0_0_7 : η 0 7 = η 0 7 := rfl
          have w0_0_6 : (0 : Int) ≤ η 0 6 ∧ η 0 6 ≤ 700 := wf_ok (a := 6) (b := 6) (z := (0, 700)) hp.1 (by decide +kernel) (Nat.le_refl _) (Nat.le_refl _)
          have c0_0_6 : η 0 6 = η 0 6 := rfl
          have w0_0_8 : (0 : Int) ≤ η 0 8 ∧ η 0 8 ≤ 6 := wf_ok (a := 8) (b := 8) (z := (0, 6)) hp.1 (by decide +kernel) (Nat.le_refl _) (Nat.le_refl _)
          have c0_0_8 : η 0 8 = η 0 8 := rfl
          have bx1 : (0 : Int) ≤ x1 ∧ x1 ≤ 1 := k1.1.2.1
          have v9 : η1 0 41 = η 0 41 := (k1.1.2.2.2.1 0 41 (by decide +kernel)).trans rfl
          have c1_0_41 : η1 0 41 = η 0 41 := v9
          have v10 : η1 0 43 = η 0 43 := (k1.1.2.2.2.1 0 43 (by decide +kernel)).trans rfl
          have c1_0_43 : η1 0 43 = η 0 43 := v10
          have v11 : η1 0 42 = η 0 42 := (k1.1.2.2.2.1 0 42 (by decide +kernel)).trans rfl
          have c1_0_42 : η1 0 42 = η 0 42 := v11
          have v12 : η1 0 45 = η 0 45 := (k1.1.2.2.2.1 0 45 (by decide +kernel)).trans rfl
          have c1_0_45 : η1 0 45 = η 0 45 := v12
          have v13 : η1 0 19 = η 0 19 := (k1.1.2.2.2.1 0 19 (by decide +kernel)).trans rfl
          have c1_0_19 : η1 0 19 = η 0 19 := v13
          have v14 : η1 0 44 = η 0 44 := (k1.1.2.2.2.1 0 44 (by decide +kernel)).trans rfl
          have c1_0_44 : η1 0 44 = η 0 44 := v14
          have v15 : η1 0 7 = η 0 7 := (k1.1.2.2.2.1 0 7 (by decide +kernel)).trans rfl
          have c1_0_7 : η1 0 7 = η 0 7 := v15
          have v16 : η1 0 6 = η 0 6 := (k1.1.2.2.2.1 0 6 (by decide +kernel)).trans rfl
          have c1_0_6 : η1 0 6 = η 0 6 := v16
          have v17 : η1 0 8 = η 0 8 := (k1.1.2.2.2.1 0 8 (by decide +kernel)).trans rfl
          have c1_0_8 : η1 0 8 = η 0 8 := v17
          have bx2 : (0 : Int) ≤ x2 ∧ x2 ≤ 1 := k2.1.2.1
          have v18 : η2 0 41 = η 0 41 := (k2.1.2.2.2.1 0 41 (by decide +kernel)).trans v9
          have c2_0_41 : η2 0 41 = η 0 41 := v18
          have v19 : η2 0 43 = η 0 43 := (k2.1.2.2.2.1 0 43 (by decide +kernel)).trans v10
          have c2_0_43 : η2 0 43 = η 0 43 := v19
          have v20 : η2 0 42 = η 0 42 := (k2.1.2.2.2.1 0 42 (by decide +kernel)).trans v11
          have c2_0_42 : η2 0 42 = η 0 42 := v20
          have v21 : η2 0 45 = η 0 45 := (k2.1.2.2.2.1 0 45 (by decide +kernel)).trans v12
          have c2_0_45 : η2 0 45 = η 0 45 := v21
          have v22 : η2 0 19 = η 0 19 := (k2.1.2.2.2.1 0 19 (by decide +kernel)).trans v13
          have c2_0_19 : η2 0 19 = η 0 19 := v22
          have v23 : η2 0 44 = η 0 44 := (k2.1.2.2.2.1 0 44 (by decide +kernel)).trans v14
          have c2_0_44 : η2 0 44 = η 0 44 := v23
          have v24 : η2 0 7 = η 0 7 := (k2.1.2.2.2.1 0 7 (by decide +kernel)).trans v15
          have c2_0_7 : η2 0 7 = η 0 7 := v24
          have v25 : η2 0 6 = η 0 6 := (k2.1.2.2.2.1 0 6 (by decide +kernel)).trans v16
          have c2_0_6 : η2 0 6 = η 0 6 := v25
          have v26 : η2 0 8 = η 0 8 := (k2.1.2.2.2.1 0 8 (by decide +kernel)).trans v17
          have c2_0_8 : η2 0 8 = η 0 8 := v26
          have bx3 : ((-1) : Int) ≤ x3 ∧ x3 ≤ 6 := k3.1.2.1
          have v27 : η3 0 8 = η 0 8 := (k3.1.2.2.2.1 0 8 (by decide +kernel)).trans v26
          replace e4 : x4 = η 0 8 := e4.trans v27
          replace r4 : -2147483648 ≤ x4 ∧ x4 ≤ 2147483647 := r4
          have v29 : η1 0 9 = η 0 9 := (k1.1.2.2.2.1 0 9 (by decide +kernel)).trans rfl
          have v30 : η2 0 9 = η 0 9 := (k2.1.2.2.2.1 0 9 (by decide +kernel)).trans v29
          have v31 : η3 0 9 = η 0 9 := (k3.1.2.2.2.1 0 9 (by decide +kernel)).trans v30
          replace e5 : x5 = η 0 9 := e5.trans v31
          replace r5 : -2147483648 ≤ x5 ∧ x5 ≤ 2147483647 := r5
          have v32 : η3 0 41 = η 0 41 := (k3.1.2.2.2.1 0 41 (by decide +kernel)).trans v18
          have c3_0_41 : η3 0 41 = η 0 41 := v32
          have v33 : η3 0 43 = η 0 43 := (k3.1.2.2.2.1 0 43 (by decide +kernel)).trans v19
          have c3_0_43 : η3 0 43 = η 0 43 := v33
          have v34 : η3 0 42 = η 0 42 := (k3.1.2.2.2.1 0 42 (by decide +kernel)).trans v20
          have c3_0_42 : η3 0 42 = η 0 42 := v34
          have v35 : η3 0 45 = η 0 45 := (k3.1.2.2.2.1 0 45 (by decide +kernel)).trans v21
          have c3_0_45 : η3 0 45 = η 0 45 := v35
          have v36 : η3 0 19 = η 0 19 := (k3.1.2.2.2.1 0 19 (by decide +kernel)).trans v22
          have c3_0_19 : η3 0 19 = η 0 19 := v36
          have v37 : η3 0 44 = η 0 44 := (k3.1.2.2.2.1 0 44 (by decide +kernel)).trans v23
          have c3_0_44 : η3 0 44 = η 0 44 := v37
          have v38 : η3 0 7 = η 0 7 := (k3.1.2.2.2.1 0 7 (by decide +kernel)).trans v24
          have c3_0_7 : η3 0 7 = η 0 7 := v38
          have v39 : η3 0 6 = η 0 6 := (k3.1.2.2.2.1 0 6 (by decide +kernel)).trans v25
          have c3_0_6 : η3 0 6 = η 0 6 := v39
          have c3_0_8 : η3 0 8 = η 0 8 := v27
          have bx6 : (0 : Int) ≤ x6 ∧ x6 ≤ 1 := k6.1.2.1
          have v40 : η4 0 9 = η 0 9 := (k6.1.2.2.2.1 0 9 (by decide +kernel)).trans v31
          replace e7 : x7 = η 0 9 := e7.trans v40
          replace r7 : -2147483648 ≤ x7 ∧ x7 ≤ 2147483647 := r7
          have v41 : η4 0 41 = η 0 41 := (k6.1.2.2.2.1 0 41 (by decide +kernel)).trans v32
          have c4_0_41 : η4 0 41 = η 0 41 := v41
          have v42 : η4 0 43 = η 0 43 := (k6.1.2.2.2.1 0 43 (by decide +kernel)).trans v33
          have c4_0_43 : η4 0 43 = η 0 43 := v42
          have v43 : η4 0 42 = η 0 42 := (k6.1.2.2.2.1 0 42 (by decide +kernel)).trans v34
          have c4_0_42 : η4 0 42 = η 0 42 := v43
          have v44 : η4 0 45 = η 0 45 := (k6.1.2.2.2.1 0 45 (by decide +kernel)).trans v35
          have c4_0_45 : η4 0 45 = η 0 45 := v44
          have v45 : η4 0 19 = η 0 19 := (k6.1.2.2.2.1 0 19 (by decide +kernel)).trans v36
          have c4_0_19 : η4 0 19 = η 0 19 := v45
          have w4_0_44 : (0 : Int) ≤ η4 0 44 ∧ η4 0 44 ≤ 64 := wf_ok (a := 44) (b := 44) (z := (0, 64)) k6.1.1 (by decide +kernel) (Nat.le_refl _) (Nat.le_refl _)
          have c4_0_44 : η4 0 44 = η4 0 44 := rfl
          have v47 : η4 0 7 = η 0 7 := (k6.1.2.2.2.1 0 7 (by decide +kernel)).trans v38
          have c4_0_7 : η4 0 7 = η 0 7 := v47
          have v48 : η4 0 6 = η 0 6 := (k6.1.2.2.2.1 0 6 (by decide +kernel)).trans v39
          have c4_0_6 : η4 0 6 = η 0 6 := v48
          have v49 : η4 0 8 = η 0 8 := (k6.1.2.2.2.1 0 8 (by decide +kernel)).trans v27
          have c4_0_8 : η4 0 8 = η 0 8 := v49
          have bx8 : (0 : Int) ≤ x8 ∧ x8 ≤ 0 := k8.1.2.1
          have fm1 : zFm zMl_leafRead η η1 := zFm_tr2 zFm_rf k1.1.2.2.2.1 (by decide +kernel)
          have fm2 : zFm zMl_leafRead η η2 := zFm_tr2 fm1 k2.1.2.2.2.1 (by decide +kernel)
          have fm3 : zFm zMl_leafRead η η3 := zFm_tr2 fm2 k3.1.2.2.2.1 (by decide +kernel)
          have fm4 : zFm zMl_leafRead η η4 := zFm_tr2 fm3 k6.1.2.2.2.1 (by decide +kernel)
          have fm5 : zFm zMl_leafRead η η5 := zFm_tr2 fm4 k8.1.2.2.2.1 (by decide +kernel)
          have fm6 : zFm zMl_leafRead η η6 := by rw [eη6]; exact zFm_up fm5 rfl
          have fmE : zFm zMl_leafRead η η6 := fm6
          have fr22_0 : ∀ j, η 22 j = η 22 j := fun _ => rfl
          have v50 : ∀ j, η1 22 j = η 22 j := fun j => k1.1.2.2.2.1 22 _ (zinr_not (by decide +kernel))
          have fr22_1 : ∀ j, η1 22 j = η 22 j := v50
          have v51 : ∀ j, η2 22 j = η 22 j := fun j => (k2.1.2.2.2.1 22 _ (zinr_not (by decide +kernel))).trans (v50 j)
          have fr22_2 : ∀ j, η2 22 j = η 22 j := v51
          have v52 : ∀ j, η3 22 j = η 22 j := fun j => (k3.1.2.2.2.1 22 _ (zinr_not (by decide +kernel))).trans (v51 j)
          have fr22_3 : ∀ j, η3 22 j = η 22 j := v52
          have v53 : ∀ j, η4 22 j = η 22 j := fun j => (k6.1.2.2.2.1 22 _ (zinr_not (by decide +kernel))).trans (v52 j)
          have fr22_4 : ∀ j, η4 22 j = η 22 j := v53
          have v54 : ∀ j, η5 22 j = η 22 j := fun j => (k8.1.2.2.2.1 22 _ (zinr_not (by decide +kernel))).trans (v53 j)
          have fr22_5 : ∀ j, η5 22 j = η 22 j := v54
          have v55 : ∀ j, η6 22 j = η 22 j := fun j => by rw [eη6]; exact (zup_ne (fun e _ => absurd e (by decide))).trans (v54 j)
          have fr22_6 : ∀ j, η6 22 j = η 22 j := v55
          have fr22 : ∀ j, η6 22 j = η 22 j := v55
          have v56 : η5 0 41 = η 0 41 := (k8.1.2.2.2.1 0 41 (by decide +kernel)).trans v41
          have v57 : η6 0 41 = η 0 41 := by rw [eη6]; exact (zup_ne (fun _ e => absurd e (by decide))).trans v56
          have f0_41 : η6 0 41 = η 0 41 := v57
          have v58 : η5 0 43 = η 0 43 := (k8.1.2.2.2.1 0 43 (by decide +kernel)).trans v42
          have v59 : η6 0 43 = η 0 43 := by rw [eη6]; exact (zup_ne (fun _ e => absurd e (by decide))).trans v58
          have f0_43 : η6 0 43 = η 0 43 := v59
          have v61 : η6 0 42 = η5 0 42 := by rw [eη6]; exact (zup_ne (fun _ e => absurd e (by decide))).trans rfl
          have f0_42 : η6 0 42 = η5 0 42 := v61
          have v62 : η6 0 45 = 0 := by rw [eη6]; exact zup_eq
          have f0_45 : η6 0 45 = 0 := v62
          have w5_0_19 : (0 : Int) ≤ η5 0 19 ∧ η5 0 19 ≤ 64 := wf_ok (a := 19) (b := 19) (z := (0, 64)) k8.1.1 (by decide +kernel) (Nat.le_refl _) (Nat.le_refl _)
          have v64 : η6 0 19 = η5 0 19 := by rw [eη6]; exact (zup_ne (fun _ e => absurd e (by decide))).trans rfl
          have f0_19 : η6 0 19 = η5 0 19 := v64
          have v65 : η5 0 44 = η4 0 44 := (k8.1.2.2.2.1 0 44 (by decide +kernel)).trans rfl
          have v66 : η6 0 44 = η4 0 44 := by rw [eη6]; exact (zup_ne (fun _ e => absurd e (by decide))).trans v65
          have f0_44 : η6 0 44 = η4 0 44 := v66
          have v67 : η5 0 7 = η 0 7 := (k8.1.2.2.2.1 0 7 (by decide +kernel)).trans v47
          have v68 : η6 0 7 = η 0 7 := by rw [eη6]; exact (zup_ne (fun _ e => absurd e (by decide))).trans v67
          have f0_7 : η6 0 7 = η 0 7 := v68
          have v69 : η5 0 6 = η 0 6 := (k8.1.2.2.2.1 0 6 (by decide +kernel)).trans v48
          have v70 : η6 0 6 = η 0 6 := by rw [eη6]; exact (zup_ne (fun _ e => absurd e (by decide))).trans v69
          have f0_6 : η6 0 6 = η 0 6 := v70
          have v71 : η5 0 8 = η 0 8 := (k8.1.2.2.2.1 0 8 (by decide +kernel)).trans v49
          have v72 : η6 0 8 = η 0 8 := by rw [eη6]; exact (zup_ne (fun _ e => absurd e (by decide))).trans v71
          have f0_8 : η6 0 8 = η 0 8 := v72
          have wb1 : wB wl_l zTr η1 := k1.1.1
          have wb2 : wB wl_l zTr η2 := k2.1.1
          have wb3 : wB wl_l zTr η3 := k3.1.1
          have wb4 : wB wl_l zTr η4 := k6.1.1
          have wb5 : wB wl_l zTr η5 := k8.1.1
          have wb6 : wB wl_l zTr η6 := by rw [eη6]; exact wk_ok (a := 45) (b := 45) (z := ((-2147483648), 2147483647)) zTr_k (GR := []) wb5 (by decide +kernel) (by decide) (by decide) (show ((-2147483648) : Int) ≤ 0 by omega) (show 0 ≤ (2147483647 : Int) by omega)
          have wbE : wB wl_l zTr η6 := wb6
          have I0 : H_l 0 0 0 η := hpp.1
          have I1 : H_l 0 0 0 η1 := k1.2.1
          have I2 : H_l 0 0 0 η2 := k2.2.1
          have I3 : H_l 0 0 0 η3 := k3.2.1
          have I4 : H_l 1 0 0 η4 := k6.2.1 c7
          have I5 : H_l 0 0 1 η5 := k8.2.1 I4
          have qg8 : η5 0 19 = η4 0 19 + 1 := k8.2.2.2
          have I6 : H_l 0 0 0 η6 := by rw [eη6]; exact h_eq (wn_up I5) rfl rfl (by omega)
          exact I6
        · show ∀ (x1 : Int) (η1 : zE), ((gC2 wl_l [(nat_lit 0, zPl_isSign, zOl_isSign, zMl_isSign), (nat_lit 1, zPl_wrong, zOl_wrong, zMl_wrong), (nat_lit 2, zPl_waitsFor0, zOl_waitsFor0, zMl_waitsFor0), (nat_lit 3, zPl_token, zOl_token, zMl_token), (nat_lit 4, zPl_isKey, zOl_isKey, zMl_isKey), (nat_lit 5, zPl_isCounted, zOl_isCounted, zMl_isCounted), (nat_lit 6, zPl_waitsFor2, zOl_waitsFor2, zMl_waitsFor2), (nat_lit 7, zPl_nameMet, zOl_nameMet, zMl_nameMet), (nat_lit 8, zPl_grown, zOl_grown, zMl_grown)] pCl_leafRead qCl_leafRead) 0).2 [40] η x1 η1 → (x1 = 0) → ∀ (x2 : Int) (η2 : zE), ((gC2 wl_l [(nat_lit 0, zPl_isSign, zOl_isSign, zMl_isSign), (nat_lit 1, zPl_wrong, zOl_wrong, zMl_wrong), (nat_lit 2, zPl_waitsFor0, zOl_waitsFor0, zMl_waitsFor0), (nat_lit 3, zPl_token, zOl_token, zMl_token), (nat_lit 4, zPl_isKey, zOl_isKey, zMl_isKey), (nat_lit 5, zPl_isCounted, zOl_isCounted, zMl_isCounted), (nat_lit 6, zPl_waitsFor2, zOl_waitsFor2, zMl_waitsFor2), (nat_lit 7, zPl_nameMet, zOl_nameMet, zMl_nameMet), (nat_lit 8, zPl_grown, zOl_grown, zMl_grown)] pCl_leafRead qCl_leafRead) 4).2 [12] η1 x2 η2 → (x2 = 0) → ∀ (x3 : Int) (η3 : zE), ((gC2 wl_l [(nat_lit 0, zPl_isSign, zOl_isSign, zMl_isSign), (nat_lit 1, zPl_wrong, zOl_wrong, zMl_wrong), (nat_lit 2, zPl_waitsFor0, zOl_waitsFor0, zMl_waitsFor0), (nat_lit 3, zPl_token, zOl_token, zMl_token), (nat_lit 4, zPl_isKey, zOl_isKey, zMl_isKey), (nat_lit 5, zPl_isCounted, zOl_isCounted, zMl_isCounted), (nat_lit 6, zPl_waitsFor2, zOl_waitsFor2, zMl_waitsFor2), (nat_lit 7, zPl_nameMet, zOl_nameMet, zMl_nameMet), (nat_lit 8, zPl_grown, zOl_grown, zMl_grown)] pCl_leafRead qCl_leafRead) 7).2 [] η2 x3 η3 → (x3 < 0) → ∀ x4 : Int, x4 = η3 0 (Int.toNat 8) → zok 0 x4 → (x4 = 3) → (x3 < 0) → ∀ x5 : Int, x5 = η3 0 (Int.toNat 9) → zok 0 x5 → (x5 ≤ 9999) → ∀ (x6 : Int) (η4 : zE), ((gC2 wl_l [(nat_lit 0, zPl_isSign, zOl_isSign, zMl_isSign), (nat_lit 1, zPl_wrong, zOl_wrong, zMl_wrong), (nat_lit 2, zPl_waitsFor0, zOl_waitsFor0, zMl_waitsFor0), (nat_lit 3, zPl_token, zOl_token, zMl_token), (nat_lit 4, zPl_isKey, zOl_isKey, zMl_isKey), (nat_lit 5, zPl_isCounted, zOl_isCounted, zMl_isCounted), (nat_lit 6, zPl_waitsFor2, zOl_waitsFor2, zMl_waitsFor2), (nat_lit 7, zPl_nameMet, zOl_nameMet, zMl_nameMet), (nat_lit 8, zPl_grown, zOl_grown, zMl_grown)] pCl_leafRead qCl_leafRead) 5).2 [] η3 x6 η4 → (¬ x6 = 0) → (x3 < 0) → (x3 < 0) → ∀ x7 : Int, x7 = η4 0 (Int.toNat 9) → zok 0 x7 → ∀ (x8 : Int) (η5 : zE), ((gC2 wl_l [(nat_lit 0, zPl_isSign, zOl_isSign, zMl_isSign), (nat_lit 1, zPl_wrong, zOl_wrong, zMl_wrong), (nat_lit 2, zPl_waitsFor0, zOl_waitsFor0, zMl_waitsFor0), (nat_lit 3, zPl_token, zOl_token, zMl_token), (nat_lit 4, zPl_isKey, zOl_isKey, zMl_isKey), (nat_lit 5, zPl_isCounted, zOl_isCounted, zMl_isCounted), (nat_lit 6, zPl_waitsFor2, zOl_waitsFor2, zMl_waitsFor2), (nat_lit 7, zPl_nameMet, zOl_nameMet, zMl_nameMet), (nat_lit 8, zPl_grown, zOl_grown, zMl_grown)] pCl_leafRead qCl_leafRead) 8).2 [0, x7, 0] η4 x8 η5 → ∀ η6 : zE, η6 = zup η5 0 (Int.toNat 45) 0 → ∀ (x9 : Int) (η7 : zE), ((gC2 wl_l [(nat_lit 0, zPl_isSign, zOl_isSign, zMl_isSign), (nat_lit 1, zPl_wrong, zOl_wrong, zMl_wrong), (nat_lit 2, zPl_waitsFor0, zOl_waitsFor0, zMl_waitsFor0), (nat_lit 3, zPl_token, zOl_token, zMl_token), (nat_lit 4, zPl_isKey, zOl_isKey, zMl_isKey), (nat_lit 5, zPl_isCounted, zOl_isCounted, zMl_isCounted), (nat_lit 6, zPl_waitsFor2, zOl_waitsFor2, zMl_waitsFor2), (nat_lit 7, zPl_nameMet, zOl_nameMet, zMl_nameMet), (nat_lit 8, zPl_grown, zOl_grown, zMl_grown)] pCl_leafRead qCl_leafRead) 3).2 [] η6 x9 η7 → (fun (_ : Nat) (y : Int) (η' : zE) => pQl_leafRead [] η y η') 0 1 η7
          have hw : η 0 45 = 1 := hpp.2
          have hs : η 0 7 ≤ η 0 6 := hpp.1.1.1.1
          have bd43 : (0 : Int) ≤ η 0 43 ∧ η 0 43 ≤ 8 := wf_ok (a := 43) (b := 43) (z := (0, 8)) hp.1 (by decide +kernel) (Nat.le_refl _) (Nat.le_refl _)
          have bd44 : (0 : Int) ≤ η 0 44 ∧ η 0 44 ≤ 64 := wf_ok (a := 44) (b := 44) (z := (0, 64)) hp.1 (by decide +kernel) (Nat.le_refl _) (Nat.le_refl _)
          have bd19 : (0 : Int) ≤ η 0 19 ∧ η 0 19 ≤ 64 := wf_ok (a := 19) (b := 19) (z := (0, 64)) hp.1 (by decide +kernel) (Nat.le_refl _) (Nat.le_refl _)
          intro x1 η1 h1 c1 x2 η2 h2 c2 x3 η3 h3 c3 x4 e4 r4 c4 c5 x5 e5 r5 c6 x6 η4 h6 c7 c8 c9 x7 e7 r7 x8 η5 h8 η6 eη6 x9 η7 h9
          have k1 : sQ wl_l zTr zOl_isSign zMl_isSign [40] η x1 η1 ∧ pQl_isSign [40] η x1 η1 := h1
          have k2 : sQ wl_l zTr zOl_isKey zMl_isKey [12] η1 x2 η2 ∧ pQl_isKey [12] η1 x2 η2 := h2
          have k3 : sQ wl_l zTr zOl_nameMet zMl_nameMet [] η2 x3 η3 ∧ pQl_nameMet [] η2 x3 η3 := h3
          have k6 : sQ wl_l zTr zOl_isCounted zMl_isCounted [] η3 x6 η4 ∧ pQl_isCounted [] η3 x6 η4 := h6
          have k8 : sQ wl_l zTr zOl_grown zMl_grown [0, x7, 0] η4 x8 η5 ∧ pQl_grown [0, x7, 0] η4 x8 η5 := h8
          have k9 : sQ wl_l zTr zOl_token zMl_token [] η6 x9 η7 ∧ pQl_token [] η6 x9 η7 := h9
          have c0_0_41 : η 0 41 = η 0 41 := rfl
          have w0_0_43 : (0 : Int) ≤ η 0 43 ∧ η 0 43 ≤ 8 := wf_ok (a := 43) (b := 43) (z := (0, 8)) hp.1 (by decide +kernel) (Nat.le_refl _) (Nat.le_refl _)
          have c0_0_43 : η 0 43 = η 0 43 := rfl
          have c0_0_42 : η 0 42 = η 0 42 := rfl
          have c0_0_45 : η 0 45 = η 0 45 := rfl
          have w0_0_19 : (0 : Int) ≤ η 0 19 ∧ η 0 19 ≤ 64 := wf_ok (a := 19) (b := 19) (z := (0, 64)) hp.1 (by decide +kernel) (Nat.le_refl _) (Nat.le_refl _)
          have c0_0_19 : η 0 19 = η 0 19 := rfl
          have w0_0_44 : (0 : Int) ≤ η 0 44 ∧ η 0 44 ≤ 64 := wf_ok (a := 44) (b := 44) (z := (0, 64)) hp.1 (by decide +kernel) (Nat.le_refl _) (Nat.le_refl _)
          have c0_0_44 : η 0 44 = η 0 44 := rfl
          have w0_0_7 : (0 : Int) ≤ η 0 7 ∧ η 0 7 ≤ 700 := wf_ok (a := 7) (b := 7) (z := (0, 700)) hp.1 (by decide +kernel) (Nat.le_refl _) (Nat.le_refl _)
          have c0_0_7 : η 0 7 = η 0 7 := rfl
          have w0_0_6 : (0 : Int) ≤ η 0 6 ∧ η 0 6 ≤ 700 := wf_ok (a := 6) (b := 6) (z := (0, 700)) hp.1 (by decide +kernel) (Nat.le_refl _) (Nat.le_refl _)
          have c0_0_6 : η 0 6 = η 0 6 := rfl
          have w0_0_8 : (0 : Int) ≤ η 0 8 ∧ η 0 8 ≤ 6 := wf_ok (a := 8) (b := 8) (z := (0, 6)) hp.1 (by decide +kernel) (Nat.le_refl _) (Nat.le_refl _)
          have c0_0_8 : η 0 8 = η 0 8 := rfl
          have bx1 : (0 : Int) ≤ x1 ∧ x1 ≤ 1 := k1.1.2.1
          have v9 : η1 0 41 = η 0 41 := (k1.1.2.2.2.1 0 41 (by decide +kernel)).trans rfl
          have c1_0_41 : η1 0 41 = η 0 41 := v9
          have v10 : η1 0 43 = η 0 43 := (k1.1.2.2.2.1 0 43 (by decide +kernel)).trans rfl
          have c1_0_43 : η1 0 43 = η 0 43 := v10
          have v11 : η1 0 42 = η 0 42 := (k1.1.2.2.2.1 0 42 (by decide +kernel)).trans rfl
          have c1_0_42 : η1 0 42 = η 0 42 := v11
          have v12 : η1 0 45 = η 0 45 := (k1.1.2.2.2.1 0 45 (by decide +kernel)).trans rfl
          have c1_0_45 : η1 0 45 = η 0 45 := v12
          have v13 : η1 0 19 = η 0 19 := (k1.1.2.2.2.1 0 19 (by decide +kernel)).trans rfl
          have c1_0_19 : η1 0 19 = η 0 19 := v13
          have v14 : η1 0 44 = η 0 44 := (k1.1.2.2.2.1 0 44 (by decide +kernel)).trans rfl
          have c1_0_44 : η1 0 44 = η 0 44 := v14
          have v15 : η1 0 7 = η 0 7 := (k1.1.2.2.2.1 0 7 (by decide +kernel)).trans rfl
          have c1_0_7 : η1 0 7 = η 0 7 := v15
          have v16 : η1 0 6 = η 0 6 := (k1.1.2.2.2.1 0 6 (by decide +kernel)).trans rfl
          have c1_0_6 : η1 0 6 = η 0 6 := v16
          have v17 : η1 0 8 = η 0 8 := (k1.1.2.2.2.1 0 8 (by decide +kernel)).trans rfl
          have c1_0_8 : η1 0 8 = η 0 8 := v17
          have bx2 : (0 : Int) ≤ x2 ∧ x2 ≤ 1 := k2.1.2.1
          have v18 : η2 0 41 = η 0 41 := (k2.1.2.2.2.1 0 41 (by decide +kernel)).trans v9
          have c2_0_41 : η2 0 41 = η 0 41 := v18
          have v19 : η2 0 43 = η 0 43 := (k2.1.2.2.2.1 0 43 (by decide +kernel)).trans v10
          have c2_0_43 : η2 0 43 = η 0 43 := v19
          have v20 : η2 0 42 = η 0 42 := (k2.1.2.2.2.1 0 42 (by decide +kernel)).trans v11
          have c2_0_42 : η2 0 42 = η 0 42 := v20
          have v21 : η2 0 45 = η 0 45 := (k2.1.2.2.2.1 0 45 (by decide +kernel)).trans v12
          have c2_0_45 : η2 0 45 = η 0 45 := v21
          have v22 : η2 0 19 = η 0 19 := (k2.1.2.2.2.1 0 19 (by decide +kernel)).trans v13
          have c2_0_19 : η2 0 19 = η 0 19 := v22
          have v23 : η2 0 44 = η 0 44 := (k2.1.2.2.2.1 0 44 (by decide +kernel)).trans v14
          have c2_0_44 : η2 0 44 = η 0 44 := v23
          have v24 : η2 0 7 = η 0 7 := (k2.1.2.2.2.1 0 7 (by decide +kernel)).trans v15
          have c2_0_7 : η2 0 7 = η 0 7 := v24
          have v25 : η2 0 6 = η 0 6 := (k2.1.2.2.2.1 0 6 (by decide +kernel)).trans v16
          have c2_0_6 : η2 0 6 = η 0 6 := v25
          have v26 : η2 0 8 = η 0 8 := (k2.1.2.2.2.1 0 8 (by decide +kernel)).trans v17
          have c2_0_8 : η2 0 8 = η 0 8 := v26
          have bx3 : ((-1) : Int) ≤ x3 ∧ x3 ≤ 6 := k3.1.2.1
          have v27 : η3 0 8 = η 0 8 := (k3.1.2.2.2.1 0 8 (by decide +kernel)).trans v26
          replace e4 : x4 = η 0 8 := e4.trans v27
          replace r4 : -2147483648 ≤ x4 ∧ x4 ≤ 2147483647 := r4
          have v29 : η1 0 9 = η 0 9 := (k1.1.2.2.2.1 0 9 (by decide +kernel)).trans rfl
          have v30 : η2 0 9 = η 0 9 := (k2.1.2.2.2.1 0 9 (by decide +kernel)).trans v29
          have v31 : η3 0 9 = η 0 9 := (k3.1.2.2.2.1 0 9 (by decide +kernel)).trans v30
          replace e5 : x5 = η 0 9 := e5.trans v31
          replace r5 : -2147483648 ≤ x5 ∧ x5 ≤ 2147483647 := r5
          have v32 : η3 0 41 = η 0 41 := (k3.1.2.2.2.1 0 41 (by decide +kernel)).trans v18
          have c3_0_41 : η3 0 41 = η 0 41 := v32
          have v33 : η3 0 43 = η 0 43 := (k3.1.2.2.2.1 0 43 (by decide +kernel)).trans v19
          have c3_0_43 : η3 0 43 = η 0 43 := v33
          have v34 : η3 0 42 = η 0 42 := (k3.1.2.2.2.1 0 42 (by decide +kernel)).trans v20
          have c3_0_42 : η3 0 42 = η 0 42 := v34
          have v35 : η3 0 45 = η 0 45 := (k3.1.2.2.2.1 0 45 (by decide +kernel)).trans v21
          have c3_0_45 : η3 0 45 = η 0 45 := v35
          have v36 : η3 0 19 = η 0 19 := (k3.1.2.2.2.1 0 19 (by decide +kernel)).trans v22
          have c3_0_19 : η3 0 19 = η 0 19 := v36
          have v37 : η3 0 44 = η 0 44 := (k3.1.2.2.2.1 0 44 (by decide +kernel)).trans v23
          have c3_0_44 : η3 0 44 = η 0 44 := v37
          have v38 : η3 0 7 = η 0 7 := (k3.1.2.2.2.1 0 7 (by decide +kernel)).trans v24
          have c3_0_7 : η3 0 7 = η 0 7 := v38
          have v39 : η3 0 6 = η 0 6 := (k3.1.2.2.2.1 0 6 (by decide +kernel)).trans v25
          have c3_0_6 : η3 0 6 = η 0 6 := v39
          have c3_0_8 : η3 0 8 = η 0 8 := v27
          have bx6 : (0 : Int) ≤ x6 ∧ x6 ≤ 1 := k6.1.2.1
          have v40 : η4 0 9 = η 0 9 := (k6.1.2.2.2.1 0 9 (by decide +kernel)).trans v31
          replace e7 : x7 = η 0 9 := e7.trans v40
          replace r7 : -2147483648 ≤ x7 ∧ x7 ≤ 2147483647 := r7
          have v41 : η4 0 41 = η 0 41 := (k6.1.2.2.2.1 0 41 (by decide +kernel)).trans v32
          have c4_0_41 : η4 0 41 = η 0 41 := v41
          have v42 : η4 0 43 = η 0 43 := (k6.1.2.2.2.1 0 43 (by decide +kernel)).trans v33
          have c4_0_43 : η4 0 43 = η 0 43 := v42
          have v43 : η4 0 42 = η 0 42 := (k6.1.2.2.2.1 0 42 (by decide +kernel)).trans v34
          have c4_0_42 : η4 0 42 = η 0 42 := v43
          have v44 : η4 0 45 = η 0 45 := (k6.1.2.2.2.1 0 45 (by decide +kernel)).trans v35
          have c4_0_45 : η4 0 45 = η 0 45 := v44
          have v45 : η4 0 19 = η 0 19 := (k6.1.2.2.2.1 0 19 (by decide +kernel)).trans v36
          have c4_0_19 : η4 0 19 = η 0 19 := v45
          have w4_0_44 : (0 : Int) ≤ η4 0 44 ∧ η4 0 44 ≤ 64 := wf_ok (a := 44) (b := 44) (z := (0, 64)) k6.1.1 (by decide +kernel) (Nat.le_refl _) (Nat.le_refl _)
          have c4_0_44 : η4 0 44 = η4 0 44 := rfl
          have v47 : η4 0 7 = η 0 7 := (k6.1.2.2.2.1 0 7 (by decide +kernel)).trans v38
          have c4_0_7 : η4 0 7 = η 0 7 := v47
          have v48 : η4 0 6 = η 0 6 := (k6.1.2.2.2.1 0 6 (by decide +kernel)).trans v39
          have c4_0_6 : η4 0 6 = η 0 6 := v48
          have v49 : η4 0 8 = η 0 8 := (k6.1.2.2.2.1 0 8 (by decide +kernel)).trans v27
          have c4_0_8 : η4 0 8 = η 0 8 := v49
          have bx8 : (0 : Int) ≤ x8 ∧ x8 ≤ 0 := k8.1.2.1
          have v50 : η5 0 41 = η 0 41 := (k8.1.2.2.2.1 0 41 (by decide +kernel)).trans v41
          have v51 : η6 0 41 = η 0 41 := by rw [eη6]; exact (zup_ne (fun _ e => absurd e (by decide))).trans v50
          have c6_0_41 : η6 0 41 = η 0 41 := v51
          have v52 : η5 0 43 = η 0 43 := (k8.1.2.2.2.1 0 43 (by decide +kernel)).trans v42
          have v53 : η6 0 43 = η 0 43 := by rw [eη6]; exact (zup_ne (fun _ e => absurd e (by decide))).trans v52
          have c6_0_43 : η6 0 43 = η 0 43 := v53
          have v55 : η6 0 42 = η5 0 42 := by rw [eη6]; exact (zup_ne (fun _ e => absurd e (by decide))).trans rfl
          have c6_0_42 : η6 0 42 = η5 0 42 := v55
          have v56 : η6 0 45 = 0 := by rw [eη6]; exact zup_eq
          have c6_0_45 : η6 0 45 = 0 := v56
          have w5_0_19 : (0 : Int) ≤ η5 0 19 ∧ η5 0 19 ≤ 64 := wf_ok (a := 19) (b := 19) (z := (0, 64)) k8.1.1 (by decide +kernel) (Nat.le_refl _) (Nat.le_refl _)
          have v58 : η6 0 19 = η5 0 19 := by rw [eη6]; exact (zup_ne (fun _ e => absurd e (by decide))).trans rfl
          have c6_0_19 : η6 0 19 = η5 0 19 := v58
          have v59 : η5 0 44 = η4 0 44 := (k8.1.2.2.2.1 0 44 (by decide +kernel)).trans rfl
          have v60 : η6 0 44 = η4 0 44 := by rw [eη6]; exact (zup_ne (fun _ e => absurd e (by decide))).trans v59
          have c6_0_44 : η6 0 44 = η4 0 44 := v60
          have v61 : η5 0 7 = η 0 7 := (k8.1.2.2.2.1 0 7 (by decide +kernel)).trans v47
          have v62 : η6 0 7 = η 0 7 := by rw [eη6]; exact (zup_ne (fun _ e => absurd e (by decide))).trans v61
          have c6_0_7 : η6 0 7 = η 0 7 := v62
          have v63 : η5 0 6 = η 0 6 := (k8.1.2.2.2.1 0 6 (by decide +kernel)).trans v48
          have v64 : η6 0 6 = η 0 6 := by rw [eη6]; exact (zup_ne (fun _ e => absurd e (by decide))).trans v63
          have c6_0_6 : η6 0 6 = η 0 6 := v64
          have v65 : η5 0 8 = η 0 8 := (k8.1.2.2.2.1 0 8 (by decide +kernel)).trans v49
          have v66 : η6 0 8 = η 0 8 := by rw [eη6]; exact (zup_ne (fun _ e => absurd e (by decide))).trans v65
          have c6_0_8 : η6 0 8 = η 0 8 := v66
          have bx9 : (0 : Int) ≤ x9 ∧ x9 ≤ 0 := k9.1.2.1
          have fm1 : zFm zMl_leafRead η η1 := zFm_tr2 zFm_rf k1.1.2.2.2.1 (by decide +kernel)
          have fm2 : zFm zMl_leafRead η η2 := zFm_tr2 fm1 k2.1.2.2.2.1 (by decide +kernel)
          have fm3 : zFm zMl_leafRead η η3 := zFm_tr2 fm2 k3.1.2.2.2.1 (by decide +kernel)
          have fm4 : zFm zMl_leafRead η η4 := zFm_tr2 fm3 k6.1.2.2.2.1 (by decide +kernel)
          have fm5 : zFm zMl_leafRead η η5 := zFm_tr2 fm4 k8.1.2.2.2.1 (by decide +kernel)
          have fm6 : zFm zMl_leafRead η η6 := by rw [eη6]; exact zFm_up fm5 rfl
          have fm7 : zFm zMl_leafRead η η7 := zFm_tr2 fm6 k9.1.2.2.2.1 (by decide +kernel)
          have fmE : zFm zMl_leafRead η η7 := fm7
          have fr22_0 : ∀ j, η 22 j = η 22 j := fun _ => rfl
          have v67 : ∀ j, η1 22 j = η 22 j := fun j => k1.1.2.2.2.1 22 _ (zinr_not (by decide +kernel))
          have fr22_1 : ∀ j, η1 22 j = η 22 j := v67
          have v68 : ∀ j, η2 22 j = η 22 j := fun j => (k2.1.2.2.2.1 22 _ (zinr_not (by decide +kernel))).trans (v67 j)
          have fr22_2 : ∀ j, η2 22 j = η 22 j := v68
          have v69 : ∀ j, η3 22 j = η 22 j := fun j => (k3.1.2.2.2.1 22 _ (zinr_not (by decide +kernel))).trans (v68 j)
          have fr22_3 : ∀ j, η3 22 j = η 22 j := v69
          have v70 : ∀ j, η4 22 j = η 22 j := fun j => (k6.1.2.2.2.1 22 _ (zinr_not (by decide +kernel))).trans (v69 j)
          have fr22_4 : ∀ j, η4 22 j = η 22 j := v70
          have v71 : ∀ j, η5 22 j = η 22 j := fun j => (k8.1.2.2.2.1 22 _ (zinr_not (by decide +kernel))).trans (v70 j)
          have fr22_5 : ∀ j, η5 22 j = η 22 j := v71
          have v72 : ∀ j, η6 22 j = η 22 j := fun j => by rw [eη6]; exact (zup_ne (fun e _ => absurd e (by decide))).trans (v71 j)
          have fr22_6 : ∀ j, η6 22 j = η 22 j := v72
          have v73 : ∀ j, η7 22 j = η 22 j := fun j => (k9.1.2.2.2.1 22 _ (zinr_not (by decide +kernel))).trans (v72 j)
          have fr22_7 : ∀ j, η7 22 j = η 22 j := v73
          have fr22 : ∀ j, η7 22 j = η 22 j := v73
          have v74 : η7 0 41 = η 0 41 := (k9.1.2.2.2.1 0 41 (by decide +kernel)).trans v51
          have f0_41 : η7 0 41 = η 0 41 := v74
          have v75 : η7 0 43 = η 0 43 := (k9.1.2.2.2.1 0 43 (by decide +kernel)).trans v53
          have f0_43 : η7 0 43 = η 0 43 := v75
          have v76 : η7 0 42 = η5 0 42 := (k9.1.2.2.2.1 0 42 (by decide +kernel)).trans v55
          have f0_42 : η7 0 42 = η5 0 42 := v76
          have v77 : η7 0 45 = 0 := (k9.1.2.2.2.1 0 45 (by decide +kernel)).trans v56
          have f0_45 : η7 0 45 = 0 := v77
          have v78 : η7 0 19 = η5 0 19 := (k9.1.2.2.2.1 0 19 (by decide +kernel)).trans v58
          have f0_19 : η7 0 19 = η5 0 19 := v78
          have v79 : η7 0 44 = η4 0 44 := (k9.1.2.2.2.1 0 44 (by decide +kernel)).trans v60
          have f0_44 : η7 0 44 = η4 0 44 := v79
          have w7_0_7 : (0 : Int) ≤ η7 0 7 ∧ η7 0 7 ≤ 700 := wf_ok (a := 7) (b := 7) (z := (0, 700)) k9.1.1 (by decide +kernel) (Nat.le_refl _) (Nat.le_refl _)
          have f0_7 : η7 0 7 = η7 0 7 := rfl
          have v81 : η7 0 6 = η 0 6 := (k9.1.2.2.2.1 0 6 (by decide +kernel)).trans v64
          have f0_6 : η7 0 6 = η 0 6 := v81
          have w7_0_8 : (0 : Int) ≤ η7 0 8 ∧ η7 0 8 ≤ 6 := wf_ok (a := 8) (b := 8) (z := (0, 6)) k9.1.1 (by decide +kernel) (Nat.le_refl _) (Nat.le_refl _)
          have f0_8 : η7 0 8 = η7 0 8 := rfl
          have wb1 : wB wl_l zTr η1 := k1.1.1
          have wb2 : wB wl_l zTr η2 := k2.1.1
          have wb3 : wB wl_l zTr η3 := k3.1.1
          have wb4 : wB wl_l zTr η4 := k6.1.1
          have wb5 : wB wl_l zTr η5 := k8.1.1
          have wb6 : wB wl_l zTr η6 := by rw [eη6]; exact wk_ok (a := 45) (b := 45) (z := ((-2147483648), 2147483647)) zTr_k (GR := []) wb5 (by decide +kernel) (by decide) (by decide) (show ((-2147483648) : Int) ≤ 0 by omega) (show 0 ≤ (2147483647 : Int) by omega)
          have wb7 : wB wl_l zTr η7 := k9.1.1
          have wbE : wB wl_l zTr η7 := wb7
          have I0 : H_l 0 0 0 η := hpp.1
          have I1 : H_l 0 0 0 η1 := k1.2.1
          have I2 : H_l 0 0 0 η2 := k2.2.1
          have I3 : H_l 0 0 0 η3 := k3.2.1
          have I4 : H_l 1 0 0 η4 := k6.2.1 c7
          have I5 : H_l 0 0 1 η5 := k8.2.1 I4
          have qg8 : η5 0 19 = η4 0 19 + 1 := k8.2.2.2
          have I6 : H_l 0 0 0 η6 := by rw [eη6]; exact h_eq (wn_up I5) rfl rfl (by omega)
          have I7 : H_l 0 0 0 η7 := k9.2.1
          have qt9 : ¬ η6 0 8 = 0 → 10 * (η7 0 6 - η7 0 7) + η7 0 8 < 10 * (η6 0 6 - η6 0 7) + η6 0 8 := k9.2.2
          refine ⟨I7.1, fun _ => ⟨I7, show 10 * (η7 0 6 - η7 0 7) + η7 0 8 < 10 * (η 0 6 - η 0 7) + η 0 8 by omega, fun w => ?_⟩⟩
          have w : η7 0 45 = 0 := w
          omega
        · show ∀ (x1 : Int) (η1 : zE), ((gC2 wl_l [(nat_lit 0, zPl_isSign, zOl_isSign, zMl_isSign), (nat_lit 1, zPl_wrong, zOl_wrong, zMl_wrong), (nat_lit 2, zPl_waitsFor0, zOl_waitsFor0, zMl_waitsFor0), (nat_lit 3, zPl_token, zOl_token, zMl_token), (nat_lit 4, zPl_isKey, zOl_isKey, zMl_isKey), (nat_lit 5, zPl_isCounted, zOl_isCounted, zMl_isCounted), (nat_lit 6, zPl_waitsFor2, zOl_waitsFor2, zMl_waitsFor2), (nat_lit 7, zPl_nameMet, zOl_nameMet, zMl_nameMet), (nat_lit 8, zPl_grown, zOl_grown, zMl_grown)] pCl_leafRead qCl_leafRead) 0).2 [40] η x1 η1 → (x1 = 0) → ∀ (x2 : Int) (η2 : zE), ((gC2 wl_l [(nat_lit 0, zPl_isSign, zOl_isSign, zMl_isSign), (nat_lit 1, zPl_wrong, zOl_wrong, zMl_wrong), (nat_lit 2, zPl_waitsFor0, zOl_waitsFor0, zMl_waitsFor0), (nat_lit 3, zPl_token, zOl_token, zMl_token), (nat_lit 4, zPl_isKey, zOl_isKey, zMl_isKey), (nat_lit 5, zPl_isCounted, zOl_isCounted, zMl_isCounted), (nat_lit 6, zPl_waitsFor2, zOl_waitsFor2, zMl_waitsFor2), (nat_lit 7, zPl_nameMet, zOl_nameMet, zMl_nameMet), (nat_lit 8, zPl_grown, zOl_grown, zMl_grown)] pCl_leafRead qCl_leafRead) 4).2 [12] η1 x2 η2 → (x2 = 0) → ∀ (x3 : Int) (η3 : zE), ((gC2 wl_l [(nat_lit 0, zPl_isSign, zOl_isSign, zMl_isSign), (nat_lit 1, zPl_wrong, zOl_wrong, zMl_wrong), (nat_lit 2, zPl_waitsFor0, zOl_waitsFor0, zMl_waitsFor0), (nat_lit 3, zPl_token, zOl_token, zMl_token), (nat_lit 4, zPl_isKey, zOl_isKey, zMl_isKey), (nat_lit 5, zPl_isCounted, zOl_isCounted, zMl_isCounted), (nat_lit 6, zPl_waitsFor2, zOl_waitsFor2, zMl_waitsFor2), (nat_lit 7, zPl_nameMet, zOl_nameMet, zMl_nameMet), (nat_lit 8, zPl_grown, zOl_grown, zMl_grown)] pCl_leafRead qCl_leafRead) 7).2 [] η2 x3 η3 → (x3 < 0) → ∀ x4 : Int, x4 = η3 0 (Int.toNat 8) → zok 0 x4 → (x4 = 3) → (x3 < 0) → ∀ x5 : Int, x5 = η3 0 (Int.toNat 9) → zok 0 x5 → (x5 ≤ 9999) → ∀ (x6 : Int) (η4 : zE), ((gC2 wl_l [(nat_lit 0, zPl_isSign, zOl_isSign, zMl_isSign), (nat_lit 1, zPl_wrong, zOl_wrong, zMl_wrong), (nat_lit 2, zPl_waitsFor0, zOl_waitsFor0, zMl_waitsFor0), (nat_lit 3, zPl_token, zOl_token, zMl_token), (nat_lit 4, zPl_isKey, zOl_isKey, zMl_isKey), (nat_lit 5, zPl_isCounted, zOl_isCounted, zMl_isCounted), (nat_lit 6, zPl_waitsFor2, zOl_waitsFor2, zMl_waitsFor2), (nat_lit 7, zPl_nameMet, zOl_nameMet, zMl_nameMet), (nat_lit 8, zPl_grown, zOl_grown, zMl_grown)] pCl_leafRead qCl_leafRead) 5).2 [] η3 x6 η4 → (x6 = 0) → (fun (_ : Nat) (y : Int) (η' : zE) => pQl_leafRead [] η y η') 0 0 η4
          have hw : η 0 45 = 1 := hpp.2
          have hs : η 0 7 ≤ η 0 6 := hpp.1.1.1.1
          have bd43 : (0 : Int) ≤ η 0 43 ∧ η 0 43 ≤ 8 := wf_ok (a := 43) (b := 43) (z := (0, 8)) hp.1 (by decide +kernel) (Nat.le_refl _) (Nat.le_refl _)
          have bd44 : (0 : Int) ≤ η 0 44 ∧ η 0 44 ≤ 64 := wf_ok (a := 44) (b := 44) (z := (0, 64)) hp.1 (by decide +kernel) (Nat.le_refl _) (Nat.le_refl _)
          have bd19 : (0 : Int) ≤ η 0 19 ∧ η 0 19 ≤ 64 := wf_ok (a := 19) (b := 19) (z := (0, 64)) hp.1 (by decide +kernel) (Nat.le_refl _) (Nat.le_refl _)
          intro x1 η1 h1 c1 x2 η2 h2 c2 x3 η3 h3 c3 x4 e4 r4 c4 c5 x5 e5 r5 c6 x6 η4 h6 c7
          have k1 : sQ wl_l zTr zOl_isSign zMl_isSign [40] η x1 η1 ∧ pQl_isSign [40] η x1 η1 := h1
          have k2 : sQ wl_l zTr zOl_isKey zMl_isKey [12] η1 x2 η2 ∧ pQl_isKey [12] η1 x2 η2 := h2
          have k3 : sQ wl_l zTr zOl_nameMet zMl_nameMet [] η2 x3 η3 ∧ pQl_nameMet [] η2 x3 η3 := h3
          have k6 : sQ wl_l zTr zOl_isCounted zMl_isCounted [] η3 x6 η4 ∧ pQl_isCounted [] η3 x6 η4 := h6
          have c0_0_41 : η 0 41 = η 0 41 := rfl
          have w0_0_43 : (0 : Int) ≤ η 0 43 ∧ η 0 43 ≤ 8 := wf_ok (a := 43) (b := 43) (z := (0, 8)) hp.1 (by decide +kernel) (Nat.le_refl _) (Nat.le_refl _)
          have c0_0_43 : η 0 43 = η 0 43 := rfl
          have c0_0_42 : η 0 42 = η 0 42 := rfl
          have c0_0_45 : η 0 45 = η 0 45 := rfl
          have w0_0_19 : (0 : Int) ≤ η 0 19 ∧ η 0 19 ≤ 64 := wf_ok (a := 19) (b := 19) (z := (0, 64)) hp.1 (by decide +kernel) (Nat.le_refl _) (Nat.le_refl _)
          have c0_0_19 : η 0 19 = η 0 19 := rfl
          have w0_0_44 : (0 : Int) ≤ η 0 44 ∧ η 0 44 ≤ 64 := wf_ok (a := 44) (b := 44) (z := (0, 64)) hp.1 (by decide +kernel) (Nat.le_refl _) (Nat.le_refl _)
          have c0_0_44 : η 0 44 = η 0 44 := rfl
          have w0_0_7 : (0 : Int) ≤ η 0 7 ∧ η 0 7 ≤ 700 := wf_ok (a := 7) (b := 7) (z := (0, 700)) hp.1 (by decide +kernel) (Nat.le_refl _) (Nat.le_refl _)
          have c0_0_7 : η 0 7 = η 0 7 := rfl
          have w0_0_6 : (0 : Int) ≤ η 0 6 ∧ η 0 6 ≤ 700 := wf_ok (a := 6) (b := 6) (z := (0, 700)) hp.1 (by decide +kernel) (Nat.le_refl _) (Nat.le_refl _)
          have c0_0_6 : η 0 6 = η 0 6 := rfl
          have w0_0_8 : (0 : Int) ≤ η 0 8 ∧ η 0 8 ≤ 6 := wf_ok (a := 8) (b := 8) (z := (0, 6)) hp.1 (by decide +kernel) (Nat.le_refl _) (Nat.le_refl _)
          have c0_0_8 : η 0 8 = η 0 8 := rfl
          have bx1 : (0 : Int) ≤ x1 ∧ x1 ≤ 1 := k1.1.2.1
          have v9 : η1 0 41 = η 0 41 := (k1.1.2.2.2.1 0 41 (by decide +kernel)).trans rfl
          have c1_0_41 : η1 0 41 = η 0 41 := v9
          have v10 : η1 0 43 = η 0 43 := (k1.1.2.2.2.1 0 43 (by decide +kernel)).trans rfl
          have c1_0_43 : η1 0 43 = η 0 43 := v10
          have v11 : η1 0 42 = η 0 42 := (k1.1.2.2.2.1 0 42 (by decide +kernel)).trans rfl
          have c1_0_42 : η1 0 42 = η 0 42 := v11
          have v12 : η1 0 45 = η 0 45 := (k1.1.2.2.2.1 0 45 (by decide +kernel)).trans rfl
          have c1_0_45 : η1 0 45 = η 0 45 := v12
          have v13 : η1 0 19 = η 0 19 := (k1.1.2.2.2.1 0 19 (by decide +kernel)).trans rfl
          have c1_0_19 : η1 0 19 = η 0 19 := v13
          have v14 : η1 0 44 = η 0 44 := (k1.1.2.2.2.1 0 44 (by decide +kernel)).trans rfl
          have c1_0_44 : η1 0 44 = η 0 44 := v14
          have v15 : η1 0 7 = η 0 7 := (k1.1.2.2.2.1 0 7 (by decide +kernel)).trans rfl
          have c1_0_7 : η1 0 7 = η 0 7 := v15
          have v16 : η1 0 6 = η 0 6 := (k1.1.2.2.2.1 0 6 (by decide +kernel)).trans rfl
          have c1_0_6 : η1 0 6 = η 0 6 := v16
          have v17 : η1 0 8 = η 0 8 := (k1.1.2.2.2.1 0 8 (by decide +kernel)).trans rfl
          have c1_0_8 : η1 0 8 = η 0 8 := v17
          have bx2 : (0 : Int) ≤ x2 ∧ x2 ≤ 1 := k2.1.2.1
          have v18 : η2 0 41 = η 0 41 := (k2.1.2.2.2.1 0 41 (by decide +kernel)).trans v9
          have c2_0_41 : η2 0 41 = η 0 41 := v18
          have v19 : η2 0 43 = η 0 43 := (k2.1.2.2.2.1 0 43 (by decide +kernel)).trans v10
          have c2_0_43 : η2 0 43 = η 0 43 := v19
          have v20 : η2 0 42 = η 0 42 := (k2.1.2.2.2.1 0 42 (by decide +kernel)).trans v11
          have c2_0_42 : η2 0 42 = η 0 42 := v20
          have v21 : η2 0 45 = η 0 45 := (k2.1.2.2.2.1 0 45 (by decide +kernel)).trans v12
          have c2_0_45 : η2 0 45 = η 0 45 := v21
          have v22 : η2 0 19 = η 0 19 := (k2.1.2.2.2.1 0 19 (by decide +kernel)).trans v13
          have c2_0_19 : η2 0 19 = η 0 19 := v22
          have v23 : η2 0 44 = η 0 44 := (k2.1.2.2.2.1 0 44 (by decide +kernel)).trans v14
          have c2_0_44 : η2 0 44 = η 0 44 := v23
          have v24 : η2 0 7 = η 0 7 := (k2.1.2.2.2.1 0 7 (by decide +kernel)).trans v15
          have c2_0_7 : η2 0 7 = η 0 7 := v24
          have v25 : η2 0 6 = η 0 6 := (k2.1.2.2.2.1 0 6 (by decide +kernel)).trans v16
          have c2_0_6 : η2 0 6 = η 0 6 := v25
          have v26 : η2 0 8 = η 0 8 := (k2.1.2.2.2.1 0 8 (by decide +kernel)).trans v17
          have c2_0_8 : η2 0 8 = η 0 8 := v26
          have bx3 : ((-1) : Int) ≤ x3 ∧ x3 ≤ 6 := k3.1.2.1
          have v27 : η3 0 8 = η 0 8 := (k3.1.2.2.2.1 0 8 (by decide +kernel)).trans v26
          replace e4 : x4 = η 0 8 := e4.trans v27
          replace r4 : -2147483648 ≤ x4 ∧ x4 ≤ 2147483647 := r4
          have v29 : η1 0 9 = η 0 9 := (k1.1.2.2.2.1 0 9 (by decide +kernel)).trans rfl
          have v30 : η2 0 9 = η 0 9 := (k2.1.2.2.2.1 0 9 (by decide +kernel)).trans v29
          have v31 : η3 0 9 = η 0 9 := (k3.1.2.2.2.1 0 9 (by decide +kernel)).trans v30
          replace e5 : x5 = η 0 9 := e5.trans v31
          replace r5 : -2147483648 ≤ x5 ∧ x5 ≤ 2147483647 := r5
          have v32 : η3 0 41 = η 0 41 := (k3.1.2.2.2.1 0 41 (by decide +kernel)).trans v18
          have c3_0_41 : η3 0 41 = η 0 41 := v32
          have v33 : η3 0 43 = η 0 43 := (k3.1.2.2.2.1 0 43 (by decide +kernel)).trans v19
          have c3_0_43 : η3 0 43 = η 0 43 := v33
          have v34 : η3 0 42 = η 0 42 := (k3.1.2.2.2.1 0 42 (by decide +kernel)).trans v20
          have c3_0_42 : η3 0 42 = η 0 42 := v34
          have v35 : η3 0 45 = η 0 45 := (k3.1.2.2.2.1 0 45 (by decide +kernel)).trans v21
          have c3_0_45 : η3 0 45 = η 0 45 := v35
          have v36 : η3 0 19 = η 0 19 := (k3.1.2.2.2.1 0 19 (by decide +kernel)).trans v22
          have c3_0_19 : η3 0 19 = η 0 19 := v36
          have v37 : η3 0 44 = η 0 44 := (k3.1.2.2.2.1 0 44 (by decide +kernel)).trans v23
          have c3_0_44 : η3 0 44 = η 0 44 := v37
          have v38 : η3 0 7 = η 0 7 := (k3.1.2.2.2.1 0 7 (by decide +kernel)).trans v24
          have c3_0_7 : η3 0 7 = η 0 7 := v38
          have v39 : η3 0 6 = η 0 6 := (k3.1.2.2.2.1 0 6 (by decide +kernel)).trans v25
          have c3_0_6 : η3 0 6 = η 0 6 := v39
          have c3_0_8 : η3 0 8 = η 0 8 := v27
          have bx6 : (0 : Int) ≤ x6 ∧ x6 ≤ 1 := k6.1.2.1
          have fm1 : zFm zMl_leafRead η η1 := zFm_tr2 zFm_rf k1.1.2.2.2.1 (by decide +kernel)
          have fm2 : zFm zMl_leafRead η η2 := zFm_tr2 fm1 k2.1.2.2.2.1 (by decide +kernel)
          have fm3 : zFm zMl_leafRead η η3 := zFm_tr2 fm2 k3.1.2.2.2.1 (by decide +kernel)
          have fm4 : zFm zMl_leafRead η η4 := zFm_tr2 fm3 k6.1.2.2.2.1 (by decide +kernel)
          have fmE : zFm zMl_leafRead η η4 := fm4
          have fr22_0 : ∀ j, η 22 j = η 22 j := fun _ => rfl
          have v40 : ∀ j, η1 22 j = η 22 j := fun j => k1.1.2.2.2.1 22 _ (zinr_not (by decide +kernel))
          have fr22_1 : ∀ j, η1 22 j = η 22 j := v40
          have v41 : ∀ j, η2 22 j = η 22 j := fun j => (k2.1.2.2.2.1 22 _ (zinr_not (by decide +kernel))).trans (v40 j)
          have fr22_2 : ∀ j, η2 22 j = η 22 j := v41
          have v42 : ∀ j, η3 22 j = η 22 j := fun j => (k3.1.2.2.2.1 22 _ (zinr_not (by decide +kernel))).trans (v41 j)
          have fr22_3 : ∀ j, η3 22 j = η 22 j := v42
          have v43 : ∀ j, η4 22 j = η 22 j := fun j => (k6.1.2.2.2.1 22 _ (zinr_not (by decide +kernel))).trans (v42 j)
          have fr22_4 : ∀ j, η4 22 j = η 22 j := v43
          have fr22 : ∀ j, η4 22 j = η 22 j := v43
          have v44 : η4 0 41 = η 0 41 := (k6.1.2.2.2.1 0 41 (by decide +kernel)).trans v32
          have f0_41 : η4 0 41 = η 0 41 := v44
          have v45 : η4 0 43 = η 0 43 := (k6.1.2.2.2.1 0 43 (by decide +kernel)).trans v33
          have f0_43 : η4 0 43 = η 0 43 := v45
          have v46 : η4 0 42 = η 0 42 := (k6.1.2.2.2.1 0 42 (by decide +kernel)).trans v34
          have f0_42 : η4 0 42 = η 0 42 := v46
          have v47 : η4 0 45 = η 0 45 := (k6.1.2.2.2.1 0 45 (by decide +kernel)).trans v35
          have f0_45 : η4 0 45 = η 0 45 := v47
          have v48 : η4 0 19 = η 0 19 := (k6.1.2.2.2.1 0 19 (by decide +kernel)).trans v36
          have f0_19 : η4 0 19 = η 0 19 := v48
          have w4_0_44 : (0 : Int) ≤ η4 0 44 ∧ η4 0 44 ≤ 64 := wf_ok (a := 44) (b := 44) (z := (0, 64)) k6.1.1 (by decide +kernel) (Nat.le_refl _) (Nat.le_refl _)
          have f0_44 : η4 0 44 = η4 0 44 := rfl
          have v50 : η4 0 7 = η 0 7 := (k6.1.2.2.2.1 0 7 (by decide +kernel)).trans v38
          have f0_7 : η4 0 7 = η 0 7 := v50
          have v51 : η4 0 6 = η 0 6 := (k6.1.2.2.2.1 0 6 (by decide +kernel)).trans v39
          have f0_6 : η4 0 6 = η 0 6 := v51
          have v52 : η4 0 8 = η 0 8 := (k6.1.2.2.2.1 0 8 (by decide +kernel)).trans v27
          have f0_8 : η4 0 8 = η 0 8 := v52
          have wb1 : wB wl_l zTr η1 := k1.1.1
          have wb2 : wB wl_l zTr η2 := k2.1.1
          have wb3 : wB wl_l zTr η3 := k3.1.1
          have wb4 : wB wl_l zTr η4 := k6.1.1
          have wbE : wB wl_l zTr η4 := wb4
          have I0 : H_l 0 0 0 η := hpp.1
          have I1 : H_l 0 0 0 η1 := k1.2.1
          have I2 : H_l 0 0 0 η2 := k2.2.1
          have I3 : H_l 0 0 0 η3 := k3.2.1
          have I4 : H_l 0 0 0 η4 := k6.2.2 c7
          exact ⟨I4.1, fun w => absurd (show (0 : Int) = 0 by omega) w⟩
        · show ∀ (x1 : Int) (η1 : zE), ((gC2 wl_l [(nat_lit 0, zPl_isSign, zOl_isSign, zMl_isSign), (nat_lit 1, zPl_wrong, zOl_wrong, zMl_wrong), (nat_lit 2, zPl_waitsFor0, zOl_waitsFor0, zMl_waitsFor0), (nat_lit 3, zPl_token, zOl_token, zMl_token), (nat_lit 4, zPl_isKey, zOl_isKey, zMl_isKey), (nat_lit 5, zPl_isCounted, zOl_isCounted, zMl_isCounted), (nat_lit 6, zPl_waitsFor2, zOl_waitsFor2, zMl_waitsFor2), (nat_lit 7, zPl_nameMet, zOl_nameMet, zMl_nameMet), (nat_lit 8, zPl_grown, zOl_grown, zMl_grown)] pCl_leafRead qCl_leafRead) 0).2 [40] η x1 η1 → (x1 = 0) → ∀ (x2 : Int) (η2 : zE), ((gC2 wl_l [(nat_lit 0, zPl_isSign, zOl_isSign, zMl_isSign), (nat_lit 1, zPl_wrong, zOl_wrong, zMl_wrong), (nat_lit 2, zPl_waitsFor0, zOl_waitsFor0, zMl_waitsFor0), (nat_lit 3, zPl_token, zOl_token, zMl_token), (nat_lit 4, zPl_isKey, zOl_isKey, zMl_isKey), (nat_lit 5, zPl_isCounted, zOl_isCounted, zMl_isCounted), (nat_lit 6, zPl_waitsFor2, zOl_waitsFor2, zMl_waitsFor2), (nat_lit 7, zPl_nameMet, zOl_nameMet, zMl_nameMet), (nat_lit 8, zPl_grown, zOl_grown, zMl_grown)] pCl_leafRead qCl_leafRead) 4).2 [12] η1 x2 η2 → (x2 = 0) → ∀ (x3 : Int) (η3 : zE), ((gC2 wl_l [(nat_lit 0, zPl_isSign, zOl_isSign, zMl_isSign), (nat_lit 1, zPl_wrong, zOl_wrong, zMl_wrong), (nat_lit 2, zPl_waitsFor0, zOl_waitsFor0, zMl_waitsFor0), (nat_lit 3, zPl_token, zOl_token, zMl_token), (nat_lit 4, zPl_isKey, zOl_isKey, zMl_isKey), (nat_lit 5, zPl_isCounted, zOl_isCounted, zMl_isCounted), (nat_lit 6, zPl_waitsFor2, zOl_waitsFor2, zMl_waitsFor2), (nat_lit 7, zPl_nameMet, zOl_nameMet, zMl_nameMet), (nat_lit 8, zPl_grown, zOl_grown, zMl_grown)] pCl_leafRead qCl_leafRead) 7).2 [] η2 x3 η3 → (x3 < 0) → ∀ x4 : Int, x4 = η3 0 (Int.toNat 8) → zok 0 x4 → (x4 = 3) → (x3 < 0) → ∀ x5 : Int, x5 = η3 0 (Int.toNat 9) → zok 0 x5 → (9999 < x5) → ((gC2 wl_l [(nat_lit 0, zPl_isSign, zOl_isSign, zMl_isSign), (nat_lit 1, zPl_wrong, zOl_wrong, zMl_wrong), (nat_lit 2, zPl_waitsFor0, zOl_waitsFor0, zMl_waitsFor0), (nat_lit 3, zPl_token, zOl_token, zMl_token), (nat_lit 4, zPl_isKey, zOl_isKey, zMl_isKey), (nat_lit 5, zPl_isCounted, zOl_isCounted, zMl_isCounted), (nat_lit 6, zPl_waitsFor2, zOl_waitsFor2, zMl_waitsFor2), (nat_lit 7, zPl_nameMet, zOl_nameMet, zMl_nameMet), (nat_lit 8, zPl_grown, zOl_grown, zMl_grown)] pCl_leafRead qCl_leafRead) 1).1 [2] η3
          have hw : η 0 45 = 1 := hpp.2
          have hs : η 0 7 ≤ η 0 6 := hpp.1.1.1.1
          have bd43 : (0 : Int) ≤ η 0 43 ∧ η 0 43 ≤ 8 := wf_ok (a := 43) (b := 43) (z := (0, 8)) hp.1 (by decide +kernel) (Nat.le_refl _) (Nat.le_refl _)
          have bd44 : (0 : Int) ≤ η 0 44 ∧ η 0 44 ≤ 64 := wf_ok (a := 44) (b := 44) (z := (0, 64)) hp.1 (by decide +kernel) (Nat.le_refl _) (Nat.le_refl _)
          have bd19 : (0 : Int) ≤ η 0 19 ∧ η 0 19 ≤ 64 := wf_ok (a := 19) (b := 19) (z := (0, 64)) hp.1 (by decide +kernel) (Nat.le_refl _) (Nat.le_refl _)
          intro x1 η1 h1 c1 x2 η2 h2 c2 x3 η3 h3 c3 x4 e4 r4 c4 c5 x5 e5 r5 c6
          have k1 : sQ wl_l zTr zOl_isSign zMl_isSign [40] η x1 η1 ∧ pQl_isSign [40] η x1 η1 := h1
          have k2 : sQ wl_l zTr zOl_isKey zMl_isKey [12] η1 x2 η2 ∧ pQl_isKey [12] η1 x2 η2 := h2
          have k3 : sQ wl_l zTr zOl_nameMet zMl_nameMet [] η2 x3 η3 ∧ pQl_nameMet [] η2 x3 η3 := h3
          have c0_0_41 : η 0 41 = η 0 41 := rfl
          have w0_0_43 : (0 : Int) ≤ η 0 43 ∧ η 0 43 ≤ 8 := wf_ok (a := 43) (b := 43) (z := (0, 8)) hp.1 (by decide +kernel) (Nat.le_refl _) (Nat.le_refl _)
          have c0_0_43 : η 0 43 = η 0 43 := rfl
          have c0_0_42 : η 0 42 = η 0 42 := rfl
          have c0_0_45 : η 0 45 = η 0 45 := rfl
          have w0_0_19 : (0 : Int) ≤ η 0 19 ∧ η 0 19 ≤ 64 := wf_ok (a := 19) (b := 19) (z := (0, 64)) hp.1 (by decide +kernel) (Nat.le_refl _) (Nat.le_refl _)
          have c0_0_19 : η 0 19 = η 0 19 := rfl
          have w0_0_44 : (0 : Int) ≤ η 0 44 ∧ η 0 44 ≤ 64 := wf_ok (a := 44) (b := 44) (z := (0, 64)) hp.1 (by decide +kernel) (Nat.le_refl _) (Nat.le_refl _)
          have c0_0_44 : η 0 44 = η 0 44 := rfl
          have w0_0_7 : (0 : Int) ≤ η 0 7 ∧ η 0 7 ≤ 700 := wf_ok (a := 7) (b := 7) (z := (0, 700)) hp.1 (by decide +kernel) (Nat.le_refl _) (Nat.le_refl _)
          have c0_0_7 : η 0 7 = η 0 7 := rfl
          have w0_0_6 : (0 : Int) ≤ η 0 6 ∧ η 0 6 ≤ 700 := wf_ok (a := 6) (b := 6) (z := (0, 700)) hp.1 (by decide +kernel) (Nat.le_refl _) (Nat.le_refl _)
          have c0_0_6 : η 0 6 = η 0 6 := rfl
          have w0_0_8 : (0 : Int) ≤ η 0 8 ∧ η 0 8 ≤ 6 := wf_ok (a := 8) (b := 8) (z := (0, 6)) hp.1 (by decide +kernel) (Nat.le_refl _) (Nat.le_refl _)
          have c0_0_8 : η 0 8 = η 0 8 := rfl
          have bx1 : (0 : Int) ≤ x1 ∧ x1 ≤ 1 := k1.1.2.1
          have v9 : η1 0 41 = η 0 41 := (k1.1.2.2.2.1 0 41 (by decide +kernel)).trans rfl
          have c1_0_41 : η1 0 41 = η 0 41 := v9
          have v10 : η1 0 43 = η 0 43 := (k1.1.2.2.2.1 0 43 (by decide +kernel)).trans rfl
          have c1_0_43 : η1 0 43 = η 0 43 := v10
          have v11 : η1 0 42 = η 0 42 := (k1.1.2.2.2.1 0 42 (by decide +kernel)).trans rfl
          have c1_0_42 : η1 0 42 = η 0 42 := v11
          have v12 : η1 0 45 = η 0 45 := (k1.1.2.2.2.1 0 45 (by decide +kernel)).trans rfl
          have c1_0_45 : η1 0 45 = η 0 45 := v12
          have v13 : η1 0 19 = η 0 19 := (k1.1.2.2.2.1 0 19 (by decide +kernel)).trans rfl
          have c1_0_19 : η1 0 19 = η 0 19 := v13
          have v14 : η1 0 44 = η 0 44 := (k1.1.2.2.2.1 0 44 (by decide +kernel)).trans rfl
          have c1_0_44 : η1 0 44 = η 0 44 := v14
          have v15 : η1 0 7 = η 0 7 := (k1.1.2.2.2.1 0 7 (by decide +kernel)).trans rfl
          have c1_0_7 : η1 0 7 = η 0 7 := v15
          have v16 : η1 0 6 = η 0 6 := (k1.1.2.2.2.1 0 6 (by decide +kernel)).trans rfl
          have c1_0_6 : η1 0 6 = η 0 6 := v16
          have v17 : η1 0 8 = η 0 8 := (k1.1.2.2.2.1 0 8 (by decide +kernel)).trans rfl
          have c1_0_8 : η1 0 8 = η 0 8 := v17
          have bx2 : (0 : Int) ≤ x2 ∧ x2 ≤ 1 := k2.1.2.1
          have v18 : η2 0 41 = η 0 41 := (k2.1.2.2.2.1 0 41 (by decide +kernel)).trans v9
          have c2_0_41 : η2 0 41 = η 0 41 := v18
          have v19 : η2 0 43 = η 0 43 := (k2.1.2.2.2.1 0 43 (by decide +kernel)).trans v10
          have c2_0_43 : η2 0 43 = η 0 43 := v19
          have v20 : η2 0 42 = η 0 42 := (k2.1.2.2.2.1 0 42 (by decide +kernel)).trans v11
          have c2_0_42 : η2 0 42 = η 0 42 := v20
          have v21 : η2 0 45 = η 0 45 := (k2.1.2.2.2.1 0 45 (by decide +kernel)).trans v12
          have c2_0_45 : η2 0 45 = η 0 45 := v21
          have v22 : η2 0 19 = η 0 19 := (k2.1.2.2.2.1 0 19 (by decide +kernel)).trans v13
          have c2_0_19 : η2 0 19 = η 0 19 := v22
          have v23 : η2 0 44 = η 0 44 := (k2.1.2.2.2.1 0 44 (by decide +kernel)).trans v14
          have c2_0_44 : η2 0 44 = η 0 44 := v23
          have v24 : η2 0 7 = η 0 7 := (k2.1.2.2.2.1 0 7 (by decide +kernel)).trans v15
          have c2_0_7 : η2 0 7 = η 0 7 := v24
          have v25 : η2 0 6 = η 0 6 := (k2.1.2.2.2.1 0 6 (by decide +kernel)).trans v16
          have c2_0_6 : η2 0 6 = η 0 6 := v25
          have v26 : η2 0 8 = η 0 8 := (k2.1.2.2.2.1 0 8 (by decide +kernel)).trans v17
          have c2_0_8 : η2 0 8 = η 0 8 := v26
          have bx3 : ((-1) : Int) ≤ x3 ∧ x3 ≤ 6 := k3.1.2.1
          have v27 : η3 0 8 = η 0 8 := (k3.1.2.2.2.1 0 8 (by decide +kernel)).trans v26
          replace e4 : x4 = η 0 8 := e4.trans v27
          replace r4 : -2147483648 ≤ x4 ∧ x4 ≤ 2147483647 := r4
          have v29 : η1 0 9 = η 0 9 := (k1.1.2.2.2.1 0 9 (by decide +kernel)).trans rfl
          have v30 : η2 0 9 = η 0 9 := (k2.1.2.2.2.1 0 9 (by decide +kernel)).trans v29
          have v31 : η3 0 9 = η 0 9 := (k3.1.2.2.2.1 0 9 (by decide +kernel)).trans v30
          replace e5 : x5 = η 0 9 := e5.trans v31
          replace r5 : -2147483648 ≤ x5 ∧ x5 ≤ 2147483647 := r5
          have fm1 : zFm zMl_leafRead η η1 := zFm_tr2 zFm_rf k1.1.2.2.2.1 (by decide +kernel)
          have fm2 : zFm zMl_leafRead η η2 := zFm_tr2 fm1 k2.1.2.2.2.1 (by decide +kernel)
          have fm3 : zFm zMl_leafRead η η3 := zFm_tr2 fm2 k3.1.2.2.2.1 (by decide +kernel)
          have fmE : zFm zMl_leafRead η η3 := fm3
          have fr22_0 : ∀ j, η 22 j = η 22 j := fun _ => rfl
          have v32 : ∀ j, η1 22 j = η 22 j := fun j => k1.1.2.2.2.1 22 _ (zinr_not (by decide +kernel))
          have fr22_1 : ∀ j, η1 22 j = η 22 j := v32
          have v33 : ∀ j, η2 22 j = η 22 j := fun j => (k2.1.2.2.2.1 22 _ (zinr_not (by decide +kernel))).trans (v32 j)
          have fr22_2 : ∀ j, η2 22 j = η 22 j := v33
          have v34 : ∀ j, η3 22 j = η 22 j := fun j => (k3.1.2.2.2.1 22 _ (zinr_not (by decide +kernel))).trans (v33 j)
          have fr22_3 : ∀ j, η3 22 j = η 22 j := v34
          have fr22 : ∀ j, η3 22 j = η 22 j := v34
          have v35 : η3 0 41 = η 0 41 := (k3.1.2.2.2.1 0 41 (by decide +kernel)).trans v18
          have f0_41 : η3 0 41 = η 0 41 := v35
          have v36 : η3 0 43 = η 0 43 := (k3.1.2.2.2.1 0 43 (by decide +kernel)).trans v19
          have f0_43 : η3 0 43 = η 0 43 := v36
          have v37 : η3 0 42 = η 0 42 := (k3.1.2.2.2.1 0 42 (by decide +kernel)).trans v20
          have f0_42 : η3 0 42 = η 0 42 := v37
          have v38 : η3 0 45 = η 0 45 := (k3.1.2.2.2.1 0 45 (by decide +kernel)).trans v21
          have f0_45 : η3 0 45 = η 0 45 := v38
          have v39 : η3 0 19 = η 0 19 := (k3.1.2.2.2.1 0 19 (by decide +kernel)).trans v22
          have f0_19 : η3 0 19 = η 0 19 := v39
          have v40 : η3 0 44 = η 0 44 := (k3.1.2.2.2.1 0 44 (by decide +kernel)).trans v23
          have f0_44 : η3 0 44 = η 0 44 := v40
          have v41 : η3 0 7 = η 0 7 := (k3.1.2.2.2.1 0 7 (by decide +kernel)).trans v24
          have f0_7 : η3 0 7 = η 0 7 := v41
          have v42 : η3 0 6 = η 0 6 := (k3.1.2.2.2.1 0 6 (by decide +kernel)).trans v25
          have f0_6 : η3 0 6 = η 0 6 := v42
          have f0_8 : η3 0 8 = η 0 8 := v27
          have wb1 : wB wl_l zTr η1 := k1.1.1
          have wb2 : wB wl_l zTr η2 := k2.1.1
          have wb3 : wB wl_l zTr η3 := k3.1.1
          have wbE : wB wl_l zTr η3 := wb3
          have I0 : H_l 0 0 0 η := hpp.1
          have I1 : H_l 0 0 0 η1 := k1.2.1
          have I2 : H_l 0 0 0 η2 := k2.2.1
          have I3 : H_l 0 0 0 η3 := k3.2.1
          exact I3
        · show ∀ (x1 : Int) (η1 : zE), ((gC2 wl_l [(nat_lit 0, zPl_isSign, zOl_isSign, zMl_isSign), (nat_lit 1, zPl_wrong, zOl_wrong, zMl_wrong), (nat_lit 2, zPl_waitsFor0, zOl_waitsFor0, zMl_waitsFor0), (nat_lit 3, zPl_token, zOl_token, zMl_token), (nat_lit 4, zPl_isKey, zOl_isKey, zMl_isKey), (nat_lit 5, zPl_isCounted, zOl_isCounted, zMl_isCounted), (nat_lit 6, zPl_waitsFor2, zOl_waitsFor2, zMl_waitsFor2), (nat_lit 7, zPl_nameMet, zOl_nameMet, zMl_nameMet), (nat_lit 8, zPl_grown, zOl_grown, zMl_grown)] pCl_leafRead qCl_leafRead) 0).2 [40] η x1 η1 → (x1 = 0) → ∀ (x2 : Int) (η2 : zE), ((gC2 wl_l [(nat_lit 0, zPl_isSign, zOl_isSign, zMl_isSign), (nat_lit 1, zPl_wrong, zOl_wrong, zMl_wrong), (nat_lit 2, zPl_waitsFor0, zOl_waitsFor0, zMl_waitsFor0), (nat_lit 3, zPl_token, zOl_token, zMl_token), (nat_lit 4, zPl_isKey, zOl_isKey, zMl_isKey), (nat_lit 5, zPl_isCounted, zOl_isCounted, zMl_isCounted), (nat_lit 6, zPl_waitsFor2, zOl_waitsFor2, zMl_waitsFor2), (nat_lit 7, zPl_nameMet, zOl_nameMet, zMl_nameMet), (nat_lit 8, zPl_grown, zOl_grown, zMl_grown)] pCl_leafRead qCl_leafRead) 4).2 [12] η1 x2 η2 → (x2 = 0) → ∀ (x3 : Int) (η3 : zE), ((gC2 wl_l [(nat_lit 0, zPl_isSign, zOl_isSign, zMl_isSign), (nat_lit 1, zPl_wrong, zOl_wrong, zMl_wrong), (nat_lit 2, zPl_waitsFor0, zOl_waitsFor0, zMl_waitsFor0), (nat_lit 3, zPl_token, zOl_token, zMl_token), (nat_lit 4, zPl_isKey, zOl_isKey, zMl_isKey), (nat_lit 5, zPl_isCounted, zOl_isCounted, zMl_isCounted), (nat_lit 6, zPl_waitsFor2, zOl_waitsFor2, zMl_waitsFor2), (nat_lit 7, zPl_nameMet, zOl_nameMet, zMl_nameMet), (nat_lit 8, zPl_grown, zOl_grown, zMl_grown)] pCl_leafRead qCl_leafRead) 7).2 [] η2 x3 η3 → (x3 < 0) → ∀ x4 : Int, x4 = η3 0 (Int.toNat 8) → zok 0 x4 → (x4 = 3) → (x3 < 0) → ∀ x5 : Int, x5 = η3 0 (Int.toNat 9) → zok 0 x5 → (9999 < x5) → ∀ (x6 : Int) (η4 : zE), ((gC2 wl_l [(nat_lit 0, zPl_isSign, zOl_isSign, zMl_isSign), (nat_lit 1, zPl_wrong, zOl_wrong, zMl_wrong), (nat_lit 2, zPl_waitsFor0, zOl_waitsFor0, zMl_waitsFor0), (nat_lit 3, zPl_token, zOl_token, zMl_token), (nat_lit 4, zPl_isKey, zOl_isKey, zMl_isKey), (nat_lit 5, zPl_isCounted, zOl_isCounted, zMl_isCounted), (nat_lit 6, zPl_waitsFor2, zOl_waitsFor2, zMl_waitsFor2), (nat_lit 7, zPl_nameMet, zOl_nameMet, zMl_nameMet), (nat_lit 8, zPl_grown, zOl_grown, zMl_grown)] pCl_leafRead qCl_leafRead) 1).2 [2] η3 x6 η4 → (fun (_ : Nat) (y : Int) (η' : zE) => pQl_leafRead [] η y η') 0 x6 η4
          have hw : η 0 45 = 1 := hpp.2
          have hs : η 0 7 ≤ η 0 6 := hpp.1.1.1.1
          have bd43 : (0 : Int) ≤ η 0 43 ∧ η 0 43 ≤ 8 := wf_ok (a := 43) (b := 43) (z := (0, 8)) hp.1 (by decide +kernel) (Nat.le_refl _) (Nat.le_refl _)
          have bd44 : (0 : Int) ≤ η 0 44 ∧ η 0 44 ≤ 64 := wf_ok (a := 44) (b := 44) (z := (0, 64)) hp.1 (by decide +kernel) (Nat.le_refl _) (Nat.le_refl _)
          have bd19 : (0 : Int) ≤ η 0 19 ∧ η 0 19 ≤ 64 := wf_ok (a := 19) (b := 19) (z := (0, 64)) hp.1 (by decide +kernel) (Nat.le_refl _) (Nat.le_refl _)
          intro x1 η1 h1 c1 x2 η2 h2 c2 x3 η3 h3 c3 x4 e4 r4 c4 c5 x5 e5 r5 c6 x6 η4 h6
          have k1 : sQ wl_l zTr zOl_isSign zMl_isSign [40] η x1 η1 ∧ pQl_isSign [40] η x1 η1 := h1
          have k2 : sQ wl_l zTr zOl_isKey zMl_isKey [12] η1 x2 η2 ∧ pQl_isKey [12] η1 x2 η2 := h2
          have k3 : sQ wl_l zTr zOl_nameMet zMl_nameMet [] η2 x3 η3 ∧ pQl_nameMet [] η2 x3 η3 := h3
          have k6 : sQ wl_l zTr zOl_wrong zMl_wrong [2] η3 x6 η4 ∧ pQl_wrong [2] η3 x6 η4 := h6
          have c0_0_41 : η 0 41 = η 0 41 := rfl
          have w0_0_43 : (0 : Int) ≤ η 0 43 ∧ η 0 43 ≤ 8 := wf_ok (a := 43) (b := 43) (z := (0, 8)) hp.1 (by decide +kernel) (Nat.le_refl _) (Nat.le_refl _)
          have c0_0_43 : η 0 43 = η 0 43 := rfl
          have c0_0_42 : η 0 42 = η 0 42 := rfl
          have c0_0_45 : η 0 45 = η 0 45 := rfl
          have w0_0_19 : (0 : Int) ≤ η 0 19 ∧ η 0 19 ≤ 64 := wf_ok (a := 19) (b := 19) (z := (0, 64)) hp.1 (by decide +kernel) (Nat.le_refl _) (Nat.le_refl _)
          have c0_0_19 : η 0 19 = η 0 19 := rfl
          have w0_0_44 : (0 : Int) ≤ η 0 44 ∧ η 0 44 ≤ 64 := wf_ok (a := 44) (b := 44) (z := (0, 64)) hp.1 (by decide +kernel) (Nat.le_refl _) (Nat.le_refl _)
          have c0_0_44 : η 0 44 = η 0 44 := rfl
          have w0_0_7 : (0 : Int) ≤ η 0 7 ∧ η 0 7 ≤ 700 := wf_ok (a := 7) (b := 7) (z := (0, 700)) hp.1 (by decide +kernel) (Nat.le_refl _) (Nat.le_refl _)
          have c0_0_7 : η 0 7 = η 0 7 := rfl
          have w0_0_6 : (0 : Int) ≤ η 0 6 ∧ η 0 6 ≤ 700 := wf_ok (a := 6) (b := 6) (z := (0, 700)) hp.1 (by decide +kernel) (Nat.le_refl _) (Nat.le_refl _)
          have c0_0_6 : η 0 6 = η 0 6 := rfl
          have w0_0_8 : (0 : Int) ≤ η 0 8 ∧ η 0 8 ≤ 6 := wf_ok (a := 8) (b := 8) (z := (0, 6)) hp.1 (by decide +kernel) (Nat.le_refl _) (Nat.le_refl _)
          have c0_0_8 : η 0 8 = η 0 8 := rfl
          have bx1 : (0 : Int) ≤ x1 ∧ x1 ≤ 1 := k1.1.2.1
          have v9 : η1 0 41 = η 0 41 := (k1.1.2.2.2.1 0 41 (by decide +kernel)).trans rfl
          have c1_0_41 : η1 0 41 = η 0 41 := v9
          have v10 : η1 0 43 = η 0 43 := (k1.1.2.2.2.1 0 43 (by decide +kernel)).trans rfl
          have c1_0_43 : η1 0 43 = η 0 43 := v10
          have v11 : η1 0 42 = η 0 42 := (k1.1.2.2.2.1 0 42 (by decide +kernel)).trans rfl
          have c1_0_42 : η1 0 42 = η 0 42 := v11
          have v12 : η1 0 45 = η 0 45 := (k1.1.2.2.2.1 0 45 (by decide +kernel)).trans rfl
          have c1_0_45 : η1 0 45 = η 0 45 := v12
          have v13 : η1 0 19 = η 0 19 := (k1.1.2.2.2.1 0 19 (by decide +kernel)).trans rfl
          have c1_0_19 : η1 0 19 = η 0 19 := v13
          have v14 : η1 0 44 = η 0 44 := (k1.1.2.2.2.1 0 44 (by decide +kernel)).trans rfl
          have c1_0_44 : η1 0 44 = η 0 44 := v14
          have v15 : η1 0 7 = η 0 7 := (k1.1.2.2.2.1 0 7 (by decide +kernel)).trans rfl
          have c1_0_7 : η1 0 7 = η 0 7 := v15
          have v16 : η1 0 6 = η 0 6 := (k1.1.2.2.2.1 0 6 (by decide +kernel)).trans rfl
          have c1_0_6 : η1 0 6 = η 0 6 := v16
          have v17 : η1 0 8 = η 0 8 := (k1.1.2.2.2.1 0 8 (by decide +kernel)).trans rfl
          have c1_0_8 : η1 0 8 = η 0 8 := v17
          have bx2 : (0 : Int) ≤ x2 ∧ x2 ≤ 1 := k2.1.2.1
          have v18 : η2 0 41 = η 0 41 := (k2.1.2.2.2.1 0 41 (by decide +kernel)).trans v9
          have c2_0_41 : η2 0 41 = η 0 41 := v18
          have v19 : η2 0 43 = η 0 43 := (k2.1.2.2.2.1 0 43 (by decide +kernel)).trans v10
          have c2_0_43 : η2 0 43 = η 0 43 := v19
          have v20 : η2 0 42 = η 0 42 := (k2.1.2.2.2.1 0 42 (by decide +kernel)).trans v11
          have c2_0_42 : η2 0 42 = η 0 42 := v20
          have v21 : η2 0 45 = η 0 45 := (k2.1.2.2.2.1 0 45 (by decide +kernel)).trans v12
          have c2_0_45 : η2 0 45 = η 0 45 := v21
          have v22 : η2 0 19 = η 0 19 := (k2.1.2.2.2.1 0 19 (by decide +kernel)).trans v13
          have c2_0_19 : η2 0 19 = η 0 19 := v22
          have v23 : η2 0 44 = η 0 44 := (k2.1.2.2.2.1 0 44 (by decide +kernel)).trans v14
          have c2_0_44 : η2 0 44 = η 0 44 := v23
          have v24 : η2 0 7 = η 0 7 := (k2.1.2.2.2.1 0 7 (by decide +kernel)).trans v15
          have c2_0_7 : η2 0 7 = η 0 7 := v24
          have v25 : η2 0 6 = η 0 6 := (k2.1.2.2.2.1 0 6 (by decide +kernel)).trans v16
          have c2_0_6 : η2 0 6 = η 0 6 := v25
          have v26 : η2 0 8 = η 0 8 := (k2.1.2.2.2.1 0 8 (by decide +kernel)).trans v17
          have c2_0_8 : η2 0 8 = η 0 8 := v26
          have bx3 : ((-1) : Int) ≤ x3 ∧ x3 ≤ 6 := k3.1.2.1
          have v27 : η3 0 8 = η 0 8 := (k3.1.2.2.2.1 0 8 (by decide +kernel)).trans v26
          replace e4 : x4 = η 0 8 := e4.trans v27
          replace r4 : -2147483648 ≤ x4 ∧ x4 ≤ 2147483647 := r4
          have v29 : η1 0 9 = η 0 9 := (k1.1.2.2.2.1 0 9 (by decide +kernel)).trans rfl
          have v30 : η2 0 9 = η 0 9 := (k2.1.2.2.2.1 0 9 (by decide +kernel)).trans v29
          have v31 : η3 0 9 = η 0 9 := (k3.1.2.2.2.1 0 9 (by decide +kernel)).trans v30
          replace e5 : x5 = η 0 9 := e5.trans v31
          replace r5 : -2147483648 ≤ x5 ∧ x5 ≤ 2147483647 := r5
          have v32 : η3 0 41 = η 0 41 := (k3.1.2.2.2.1 0 41 (by decide +kernel)).trans v18
          have c3_0_41 : η3 0 41 = η 0 41 := v32
          have v33 : η3 0 43 = η 0 43 := (k3.1.2.2.2.1 0 43 (by decide +kernel)).trans v19
          have c3_0_43 : η3 0 43 = η 0 43 := v33
          have v34 : η3 0 42 = η 0 42 := (k3.1.2.2.2.1 0 42 (by decide +kernel)).trans v20
          have c3_0_42 : η3 0 42 = η 0 42 := v34
          have v35 : η3 0 45 = η 0 45 := (k3.1.2.2.2.1 0 45 (by decide +kernel)).trans v21
          have c3_0_45 : η3 0 45 = η 0 45 := v35
          have v36 : η3 0 19 = η 0 19 := (k3.1.2.2.2.1 0 19 (by decide +kernel)).trans v22
          have c3_0_19 : η3 0 19 = η 0 19 := v36
          have v37 : η3 0 44 = η 0 44 := (k3.1.2.2.2.1 0 44 (by decide +kernel)).trans v23
          have c3_0_44 : η3 0 44 = η 0 44 := v37
          have v38 : η3 0 7 = η 0 7 := (k3.1.2.2.2.1 0 7 (by decide +kernel)).trans v24
          have c3_0_7 : η3 0 7 = η 0 7 := v38
          have v39 : η3 0 6 = η 0 6 := (k3.1.2.2.2.1 0 6 (by decide +kernel)).trans v25
          have c3_0_6 : η3 0 6 = η 0 6 := v39
          have c3_0_8 : η3 0 8 = η 0 8 := v27
          have bx6 : (0 : Int) ≤ x6 ∧ x6 ≤ 0 := k6.1.2.1
          have fm1 : zFm zMl_leafRead η η1 := zFm_tr2 zFm_rf k1.1.2.2.2.1 (by decide +kernel)
          have fm2 : zFm zMl_leafRead η η2 := zFm_tr2 fm1 k2.1.2.2.2.1 (by decide +kernel)
          have fm3 : zFm zMl_leafRead η η3 := zFm_tr2 fm2 k3.1.2.2.2.1 (by decide +kernel)
          have fm4 : zFm zMl_leafRead η η4 := zFm_tr2 fm3 k6.1.2.2.2.1 (by decide +kernel)
          have fmE : zFm zMl_leafRead η η4 := fm4
          have fr22_0 : ∀ j, η 22 j = η 22 j := fun _ => rfl
          have v40 : ∀ j, η1 22 j = η 22 j := fun j => k1.1.2.2.2.1 22 _ (zinr_not (by decide +kernel))
          have fr22_1 : ∀ j, η1 22 j = η 22 j := v40
          have v41 : ∀ j, η2 22 j = η 22 j := fun j => (k2.1.2.2.2.1 22 _ (zinr_not (by decide +kernel))).trans (v40 j)
          have fr22_2 : ∀ j, η2 22 j = η 22 j := v41
          have v42 : ∀ j, η3 22 j = η 22 j := fun j => (k3.1.2.2.2.1 22 _ (zinr_not (by decide +kernel))).trans (v41 j)
          have fr22_3 : ∀ j, η3 22 j = η 22 j := v42
          have v43 : ∀ j, η4 22 j = η 22 j := fun j => (k6.1.2.2.2.1 22 _ (zinr_not (by decide +kernel))).trans (v42 j)
          have fr22_4 : ∀ j, η4 22 j = η 22 j := v43
          have fr22 : ∀ j, η4 22 j = η 22 j := v43
          have v44 : η4 0 41 = η 0 41 := (k6.1.2.2.2.1 0 41 (by decide +kernel)).trans v32
          have f0_41 : η4 0 41 = η 0 41 := v44
          have v45 : η4 0 43 = η 0 43 := (k6.1.2.2.2.1 0 43 (by decide +kernel)).trans v33
          have f0_43 : η4 0 43 = η 0 43 := v45
          have v46 : η4 0 42 = η 0 42 := (k6.1.2.2.2.1 0 42 (by decide +kernel)).trans v34
          have f0_42 : η4 0 42 = η 0 42 := v46
          have v47 : η4 0 45 = η 0 45 := (k6.1.2.2.2.1 0 45 (by decide +kernel)).trans v35
          have f0_45 : η4 0 45 = η 0 45 := v47
          have v48 : η4 0 19 = η 0 19 := (k6.1.2.2.2.1 0 19 (by decide +kernel)).trans v36
          have f0_19 : η4 0 19 = η 0 19 := v48
          have v49 : η4 0 44 = η 0 44 := (k6.1.2.2.2.1 0 44 (by decide +kernel)).trans v37
          have f0_44 : η4 0 44 = η 0 44 := v49
          have v50 : η4 0 7 = η 0 7 := (k6.1.2.2.2.1 0 7 (by decide +kernel)).trans v38
          have f0_7 : η4 0 7 = η 0 7 := v50
          have v51 : η4 0 6 = η 0 6 := (k6.1.2.2.2.1 0 6 (by decide +kernel)).trans v39
          have f0_6 : η4 0 6 = η 0 6 := v51
          have v52 : η4 0 8 = η 0 8 := (k6.1.2.2.2.1 0 8 (by decide +kernel)).trans v27
          have f0_8 : η4 0 8 = η 0 8 := v52
          have wb1 : wB wl_l zTr η1 := k1.1.1
          have wb2 : wB wl_l zTr η2 := k2.1.1
          have wb3 : wB wl_l zTr η3 := k3.1.1
          have wb4 : wB wl_l zTr η4 := k6.1.1
          have wbE : wB wl_l zTr η4 := wb4
          have I0 : H_l 0 0 0 η := hpp.1
          have I1 : H_l 0 0 0 η1 := k1.2.1
          have I2 : H_l 0 0 0 η2 := k2.2.1
          have I3 : H_l 0 0 0 η3 := k3.2.1
          have I4 : H_l 0 0 0 η4 := k6.2
          exact ⟨I4.1, fun w => absurd (show (x6 : Int) = 0 by omega) w⟩
        · show ∀ (x1 : Int) (η1 : zE), ((gC2 wl_l [(nat_lit 0, zPl_isSign, zOl_isSign, zMl_isSign), (nat_lit 1, zPl_wrong, zOl_wrong, zMl_wrong), (nat_lit 2, zPl_waitsFor0, zOl_waitsFor0, zMl_waitsFor0), (nat_lit 3, zPl_token, zOl_token, zMl_token), (nat_lit 4, zPl_isKey, zOl_isKey, zMl_isKey), (nat_lit 5, zPl_isCounted, zOl_isCounted, zMl_isCounted), (nat_lit 6, zPl_waitsFor2, zOl_waitsFor2, zMl_waitsFor2), (nat_lit 7, zPl_nameMet, zOl_nameMet, zMl_nameMet), (nat_lit 8, zPl_grown, zOl_grown, zMl_grown)] pCl_leafRead qCl_leafRead) 0).2 [40] η x1 η1 → (x1 = 0) → ∀ (x2 : Int) (η2 : zE), ((gC2 wl_l [(nat_lit 0, zPl_isSign, zOl_isSign, zMl_isSign), (nat_lit 1, zPl_wrong, zOl_wrong, zMl_wrong), (nat_lit 2, zPl_waitsFor0, zOl_waitsFor0, zMl_waitsFor0), (nat_lit 3, zPl_token, zOl_token, zMl_token), (nat_lit 4, zPl_isKey, zOl_isKey, zMl_isKey), (nat_lit 5, zPl_isCounted, zOl_isCounted, zMl_isCounted), (nat_lit 6, zPl_waitsFor2, zOl_waitsFor2, zMl_waitsFor2), (nat_lit 7, zPl_nameMet, zOl_nameMet, zMl_nameMet), (nat_lit 8, zPl_grown, zOl_grown, zMl_grown)] pCl_leafRead qCl_leafRead) 4).2 [12] η1 x2 η2 → (x2 = 0) → ∀ (x3 : Int) (η3 : zE), ((gC2 wl_l [(nat_lit 0, zPl_isSign, zOl_isSign, zMl_isSign), (nat_lit 1, zPl_wrong, zOl_wrong, zMl_wrong), (nat_lit 2, zPl_waitsFor0, zOl_waitsFor0, zMl_waitsFor0), (nat_lit 3, zPl_token, zOl_token, zMl_token), (nat_lit 4, zPl_isKey, zOl_isKey, zMl_isKey), (nat_lit 5, zPl_isCounted, zOl_isCounted, zMl_isCounted), (nat_lit 6, zPl_waitsFor2, zOl_waitsFor2, zMl_waitsFor2), (nat_lit 7, zPl_nameMet, zOl_nameMet, zMl_nameMet), (nat_lit 8, zPl_grown, zOl_grown, zMl_grown)] pCl_leafRead qCl_leafRead) 7).2 [] η2 x3 η3 → (x3 < 0) → ∀ x4 : Int, x4 = η3 0 (Int.toNat 8) → zok 0 x4 → (¬ x4 = 3) → ((gC2 wl_l [(nat_lit 0, zPl_isSign, zOl_isSign, zMl_isSign), (nat_lit 1, zPl_wrong, zOl_wrong, zMl_wrong), (nat_lit 2, zPl_waitsFor0, zOl_waitsFor0, zMl_waitsFor0), (nat_lit 3, zPl_token, zOl_token, zMl_token), (nat_lit 4, zPl_isKey, zOl_isKey, zMl_isKey), (nat_lit 5, zPl_isCounted, zOl_isCounted, zMl_isCounted), (nat_lit 6, zPl_waitsFor2, zOl_waitsFor2, zMl_waitsFor2), (nat_lit 7, zPl_nameMet, zOl_nameMet, zMl_nameMet), (nat_lit 8, zPl_grown, zOl_grown, zMl_grown)] pCl_leafRead qCl_leafRead) 1).1 [1] η3
          have hw : η 0 45 = 1 := hpp.2
          have hs : η 0 7 ≤ η 0 6 := hpp.1.1.1.1
          have bd43 : (0 : Int) ≤ η 0 43 ∧ η 0 43 ≤ 8 := wf_ok (a := 43) (b := 43) (z := (0, 8)) hp.1 (by decide +kernel) (Nat.le_refl _) (Nat.le_refl _)
          have bd44 : (0 : Int) ≤ η 0 44 ∧ η 0 44 ≤ 64 := wf_ok (a := 44) (b := 44) (z := (0, 64)) hp.1 (by decide +kernel) (Nat.le_refl _) (Nat.le_refl _)
          have bd19 : (0 : Int) ≤ η 0 19 ∧ η 0 19 ≤ 64 := wf_ok (a := 19) (b := 19) (z := (0, 64)) hp.1 (by decide +kernel) (Nat.le_refl _) (Nat.le_refl _)
          intro x1 η1 h1 c1 x2 η2 h2 c2 x3 η3 h3 c3 x4 e4 r4 c4
          have k1 : sQ wl_l zTr zOl_isSign zMl_isSign [40] η x1 η1 ∧ pQl_isSign [40] η x1 η1 := h1
          have k2 : sQ wl_l zTr zOl_isKey zMl_isKey [12] η1 x2 η2 ∧ pQl_isKey [12] η1 x2 η2 := h2
          have k3 : sQ wl_l zTr zOl_nameMet zMl_nameMet [] η2 x3 η3 ∧ pQl_nameMet [] η2 x3 η3 := h3
          have c0_0_41 : η 0 41 = η 0 41 := rfl
          have w0_0_43 : (0 : Int) ≤ η 0 43 ∧ η 0 43 ≤ 8 := wf_ok (a := 43) (b := 43) (z := (0, 8)) hp.1 (by decide +kernel) (Nat.le_refl _) (Nat.le_refl _)
          have c0_0_43 : η 0 43 = η 0 43 := rfl
          have c0_0_42 : η 0 42 = η 0 42 := rfl
          have c0_0_45 : η 0 45 = η 0 45 := rfl
          have w0_0_19 : (0 : Int) ≤ η 0 19 ∧ η 0 19 ≤ 64 := wf_ok (a := 19) (b := 19) (z := (0, 64)) hp.1 (by decide +kernel) (Nat.le_refl _) (Nat.le_refl _)
          have c0_0_19 : η 0 19 = η 0 19 := rfl
          have w0_0_44 : (0 : Int) ≤ η 0 44 ∧ η 0 44 ≤ 64 := wf_ok (a := 44) (b := 44) (z := (0, 64)) hp.1 (by decide +kernel) (Nat.le_refl _) (Nat.le_refl _)
          have c0_0_44 : η 0 44 = η 0 44 := rfl
          have w0_0_7 : (0 : Int) ≤ η 0 7 ∧ η 0 7 ≤ 700 := wf_ok (a := 7) (b := 7) (z := (0, 700)) hp.1 (by decide +kernel) (Nat.le_refl _) (Nat.le_refl _)
          have c0_0_7 : η 0 7 = η 0 7 := rfl
          have w0_0_6 : (0 : Int) ≤ η 0 6 ∧ η 0 6 ≤ 700 := wf_ok (a := 6) (b := 6) (z := (0, 700)) hp.1 (by decide +kernel) (Nat.le_refl _) (Nat.le_refl _)
          have c0_0_6 : η 0 6 = η 0 6 := rfl
          have w0_0_8 : (0 : Int) ≤ η 0 8 ∧ η 0 8 ≤ 6 := wf_ok (a := 8) (b := 8) (z := (0, 6)) hp.1 (by decide +kernel) (Nat.le_refl _) (Nat.le_refl _)
          have c0_0_8 : η 0 8 = η 0 8 := rfl
          have bx1 : (0 : Int) ≤ x1 ∧ x1 ≤ 1 := k1.1.2.1
          have v9 : η1 0 41 = η 0 41 := (k1.1.2.2.2.1 0 41 (by decide +kernel)).trans rfl
          have c1_0_41 : η1 0 41 = η 0 41 := v9
          have v10 : η1 0 43 = η 0 43 := (k1.1.2.2.2.1 0 43 (by decide +kernel)).trans rfl
          have c1_0_43 : η1 0 43 = η 0 43 := v10
          have v11 : η1 0 42 = η 0 42 := (k1.1.2.2.2.1 0 42 (by decide +kernel)).trans rfl
          have c1_0_42 : η1 0 42 = η 0 42 := v11
          have v12 : η1 0 45 = η 0 45 := (k1.1.2.2.2.1 0 45 (by decide +kernel)).trans rfl
          have c1_0_45 : η1 0 45 = η 0 45 := v12
          have v13 : η1 0 19 = η 0 19 := (k1.1.2.2.2.1 0 19 (by decide +kernel)).trans rfl
          have c1_0_19 : η1 0 19 = η 0 19 := v13
          have v14 : η1 0 44 = η 0 44 := (k1.1.2.2.2.1 0 44 (by decide +kernel)).trans rfl
          have c1_0_44 : η1 0 44 = η 0 44 := v14
          have v15 : η1 0 7 = η 0 7 := (k1.1.2.2.2.1 0 7 (by decide +kernel)).trans rfl
          have c1_0_7 : η1 0 7 = η 0 7 := v15
          have v16 : η1 0 6 = η 0 6 := (k1.1.2.2.2.1 0 6 (by decide +kernel)).trans rfl
          have c1_0_6 : η1 0 6 = η 0 6 := v16
          have v17 : η1 0 8 = η 0 8 := (k1.1.2.2.2.1 0 8 (by decide +kernel)).trans rfl
          have c1_0_8 : η1 0 8 = η 0 8 := v17
          have bx2 : (0 : Int) ≤ x2 ∧ x2 ≤ 1 := k2.1.2.1
          have v18 : η2 0 41 = η 0 41 := (k2.1.2.2.2.1 0 41 (by decide +kernel)).trans v9
          have c2_0_41 : η2 0 41 = η 0 41 := v18
          have v19 : η2 0 43 = η 0 43 := (k2.1.2.2.2.1 0 43 (by decide +kernel)).trans v10
          have c2_0_43 : η2 0 43 = η 0 43 := v19
          have v20 : η2 0 42 = η 0 42 := (k2.1.2.2.2.1 0 42 (by decide +kernel)).trans v11
          have c2_0_42 : η2 0 42 = η 0 42 := v20
          have v21 : η2 0 45 = η 0 45 := (k2.1.2.2.2.1 0 45 (by decide +kernel)).trans v12
          have c2_0_45 : η2 0 45 = η 0 45 := v21
          have v22 : η2 0 19 = η 0 19 := (k2.1.2.2.2.1 0 19 (by decide +kernel)).trans v13
          have c2_0_19 : η2 0 19 = η 0 19 := v22
          have v23 : η2 0 44 = η 0 44 := (k2.1.2.2.2.1 0 44 (by decide +kernel)).trans v14
          have c2_0_44 : η2 0 44 = η 0 44 := v23
          have v24 : η2 0 7 = η 0 7 := (k2.1.2.2.2.1 0 7 (by decide +kernel)).trans v15
          have c2_0_7 : η2 0 7 = η 0 7 := v24
          have v25 : η2 0 6 = η 0 6 := (k2.1.2.2.2.1 0 6 (by decide +kernel)).trans v16
          have c2_0_6 : η2 0 6 = η 0 6 := v25
          have v26 : η2 0 8 = η 0 8 := (k2.1.2.2.2.1 0 8 (by decide +kernel)).trans v17
          have c2_0_8 : η2 0 8 = η 0 8 := v26
          have bx3 : ((-1) : Int) ≤ x3 ∧ x3 ≤ 6 := k3.1.2.1
          have v27 : η3 0 8 = η 0 8 := (k3.1.2.2.2.1 0 8 (by decide +kernel)).trans v26
          replace e4 : x4 = η 0 8 := e4.trans v27
          replace r4 : -2147483648 ≤ x4 ∧ x4 ≤ 2147483647 := r4
          have fm1 : zFm zMl_leafRead η η1 := zFm_tr2 zFm_rf k1.1.2.2.2.1 (by decide +kernel)
          have fm2 : zFm zMl_leafRead η η2 := zFm_tr2 fm1 k2.1.2.2.2.1 (by decide +kernel)
          have fm3 : zFm zMl_leafRead η η3 := zFm_tr2 fm2 k3.1.2.2.2.1 (by decide +kernel)
          have fmE : zFm zMl_leafRead η η3 := fm3
          have fr22_0 : ∀ j, η 22 j = η 22 j := fun _ => rfl
          have v28 : ∀ j, η1 22 j = η 22 j := fun j => k1.1.2.2.2.1 22 _ (zinr_not (by decide +kernel))
          have fr22_1 : ∀ j, η1 22 j = η 22 j := v28
          have v29 : ∀ j, η2 22 j = η 22 j := fun j => (k2.1.2.2.2.1 22 _ (zinr_not (by decide +kernel))).trans (v28 j)
          have fr22_2 : ∀ j, η2 22 j = η 22 j := v29
          have v30 : ∀ j, η3 22 j = η 22 j := fun j => (k3.1.2.2.2.1 22 _ (zinr_not (by decide +kernel))).trans (v29 j)
          have fr22_3 : ∀ j, η3 22 j = η 22 j := v30
          have fr22 : ∀ j, η3 22 j = η 22 j := v30
          have v31 : η3 0 41 = η 0 41 := (k3.1.2.2.2.1 0 41 (by decide +kernel)).trans v18
          have f0_41 : η3 0 41 = η 0 41 := v31
          have v32 : η3 0 43 = η 0 43 := (k3.1.2.2.2.1 0 43 (by decide +kernel)).trans v19
          have f0_43 : η3 0 43 = η 0 43 := v32
          have v33 : η3 0 42 = η 0 42 := (k3.1.2.2.2.1 0 42 (by decide +kernel)).trans v20
          have f0_42 : η3 0 42 = η 0 42 := v33
          have v34 : η3 0 45 = η 0 45 := (k3.1.2.2.2.1 0 45 (by decide +kernel)).trans v21
          have f0_45 : η3 0 45 = η 0 45 := v34
          have v35 : η3 0 19 = η 0 19 := (k3.1.2.2.2.1 0 19 (by decide +kernel)).trans v22
          have f0_19 : η3 0 19 = η 0 19 := v35
          have v36 : η3 0 44 = η 0 44 := (k3.1.2.2.2.1 0 44 (by decide +kernel)).trans v23
          have f0_44 : η3 0 44 = η 0 44 := v36
          have v37 : η3 0 7 = η 0 7 := (k3.1.2.2.2.1 0 7 (by decide +kernel)).trans v24
          have f0_7 : η3 0 7 = η 0 7 := v37
          have v38 : η3 0 6 = η 0 6 := (k3.1.2.2.2.1 0 6 (by decide +kernel)).trans v25
          have f0_6 : η3 0 6 = η 0 6 := v38
          have f0_8 : η3 0 8 = η 0 8 := v27
          have wb1 : wB wl_l zTr η1 := k1.1.1
          have wb2 : wB wl_l zTr η2 := k2.1.1
          have wb3 : wB wl_l zTr η3 := k3.1.1
          have wbE : wB wl_l zTr η3 := wb3
          have I0 : H_l 0 0 0 η := hpp.1
          have I1 : H_l 0 0 0 η1 := k1.2.1
          have I2 : H_l 0 0 0 η2 := k2.2.1
          have I3 : H_l 0 0 0 η3 := k3.2.1
          exact I3
        · show ∀ (x1 : Int) (η1 : zE), ((gC2 wl_l [(nat_lit 0, zPl_isSign, zOl_isSign, zMl_isSign), (nat_lit 1, zPl_wrong, zOl_wrong, zMl_wrong), (nat_lit 2, zPl_waitsFor0, zOl_waitsFor0, zMl_waitsFor0), (nat_lit 3, zPl_token, zOl_token, zMl_token), (nat_lit 4, zPl_isKey, zOl_isKey, zMl_isKey), (nat_lit 5, zPl_isCounted, zOl_isCounted, zMl_isCounted), (nat_lit 6, zPl_waitsFor2, zOl_waitsFor2, zMl_waitsFor2), (nat_lit 7, zPl_nameMet, zOl_nameMet, zMl_nameMet), (nat_lit 8, zPl_grown, zOl_grown, zMl_grown)] pCl_leafRead qCl_leafRead) 0).2 [40] η x1 η1 → (x1 = 0) → ∀ (x2 : Int) (η2 : zE), ((gC2 wl_l [(nat_lit 0, zPl_isSign, zOl_isSign, zMl_isSign), (nat_lit 1, zPl_wrong, zOl_wrong, zMl_wrong), (nat_lit 2, zPl_waitsFor0, zOl_waitsFor0, zMl_waitsFor0), (nat_lit 3, zPl_token, zOl_token, zMl_token), (nat_lit 4, zPl_isKey, zOl_isKey, zMl_isKey), (nat_lit 5, zPl_isCounted, zOl_isCounted, zMl_isCounted), (nat_lit 6, zPl_waitsFor2, zOl_waitsFor2, zMl_waitsFor2), (nat_lit 7, zPl_nameMet, zOl_nameMet, zMl_nameMet), (nat_lit 8, zPl_grown, zOl_grown, zMl_grown)] pCl_leafRead qCl_leafRead) 4).2 [12] η1 x2 η2 → (x2 = 0) → ∀ (x3 : Int) (η3 : zE), ((gC2 wl_l [(nat_lit 0, zPl_isSign, zOl_isSign, zMl_isSign), (nat_lit 1, zPl_wrong, zOl_wrong, zMl_wrong), (nat_lit 2, zPl_waitsFor0, zOl_waitsFor0, zMl_waitsFor0), (nat_lit 3, zPl_token, zOl_token, zMl_token), (nat_lit 4, zPl_isKey, zOl_isKey, zMl_isKey), (nat_lit 5, zPl_isCounted, zOl_isCounted, zMl_isCounted), (nat_lit 6, zPl_waitsFor2, zOl_waitsFor2, zMl_waitsFor2), (nat_lit 7, zPl_nameMet, zOl_nameMet, zMl_nameMet), (nat_lit 8, zPl_grown, zOl_grown, zMl_grown)] pCl_leafRead qCl_leafRead) 7).2 [] η2 x3 η3 → (x3 < 0) → ∀ x4 : Int, x4 = η3 0 (Int.toNat 8) → zok 0 x4 → (¬ x4 = 3) → ∀ (x5 : Int) (η4 : zE), ((gC2 wl_l [(nat_lit 0, zPl_isSign, zOl_isSign, zMl_isSign), (nat_lit 1, zPl_wrong, zOl_wrong, zMl_wrong), (nat_lit 2, zPl_waitsFor0, zOl_waitsFor0, zMl_waitsFor0), (nat_lit 3, zPl_token, zOl_token, zMl_token), (nat_lit 4, zPl_isKey, zOl_isKey, zMl_isKey), (nat_lit 5, zPl_isCounted, zOl_isCounted, zMl_isCounted), (nat_lit 6, zPl_waitsFor2, zOl_waitsFor2, zMl_waitsFor2), (nat_lit 7, zPl_nameMet, zOl_nameMet, zMl_nameMet), (nat_lit 8, zPl_grown, zOl_grown, zMl_grown)] pCl_leafRead qCl_leafRead) 1).2 [1] η3 x5 η4 → (fun (_ : Nat) (y : Int) (η' : zE) => pQl_leafRead [] η y η') 0 x5 η4
          have hw : η 0 45 = 1 := hpp.2
          have hs : η 0 7 ≤ η 0 6 := hpp.1.1.1.1
          have bd43 : (0 : Int) ≤ η 0 43 ∧ η 0 43 ≤ 8 := wf_ok (a := 43) (b := 43) (z := (0, 8)) hp.1 (by decide +kernel) (Nat.le_refl _) (Nat.le_refl _)
          have bd44 : (0 : Int) ≤ η 0 44 ∧ η 0 44 ≤ 64 := wf_ok (a := 44) (b := 44) (z := (0, 64)) hp.1 (by decide +kernel) (Nat.le_refl _) (Nat.le_refl _)
          have bd19 : (0 : Int) ≤ η 0 19 ∧ η 0 19 ≤ 64 := wf_ok (a := 19) (b := 19) (z := (0, 64)) hp.1 (by decide +kernel) (Nat.le_refl _) (Nat.le_refl _)
          intro x1 η1 h1 c1 x2 η2 h2 c2 x3 η3 h3 c3 x4 e4 r4 c4 x5 η4 h5
          have k1 : sQ wl_l zTr zOl_isSign zMl_isSign [40] η x1 η1 ∧ pQl_isSign [40] η x1 η1 := h1
          have k2 : sQ wl_l zTr zOl_isKey zMl_isKey [12] η1 x2 η2 ∧ pQl_isKey [12] η1 x2 η2 := h2
          have k3 : sQ wl_l zTr zOl_nameMet zMl_nameMet [] η2 x3 η3 ∧ pQl_nameMet [] η2 x3 η3 := h3
          have k5 : sQ wl_l zTr zOl_wrong zMl_wrong [1] η3 x5 η4 ∧ pQl_wrong [1] η3 x5 η4 := h5
          have c0_0_41 : η 0 41 = η 0 41 := rfl
          have w0_0_43 : (0 : Int) ≤ η 0 43 ∧ η 0 43 ≤ 8 := wf_ok (a := 43) (b := 43) (z := (0, 8)) hp.1 (by decide +kernel) (Nat.le_refl _) (Nat.le_refl _)
          have c0_0_43 : η 0 43 = η 0 43 := rfl
          have c0_0_42 : η 0 42 = η 0 42 := rfl
          have c0_0_45 : η 0 45 = η 0 45 := rfl
          have w0_0_19 : (0 : Int) ≤ η 0 19 ∧ η 0 19 ≤ 64 := wf_ok (a := 19) (b := 19) (z := (0, 64)) hp.1 (by decide +kernel) (Nat.le_refl _) (Nat.le_refl _)
          have c0_0_19 : η 0 19 = η 0 19 := rfl
          have w0_0_44 : (0 : Int) ≤ η 0 44 ∧ η 0 44 ≤ 64 := wf_ok (a := 44) (b := 44) (z := (0, 64)) hp.1 (by decide +kernel) (Nat.le_refl _) (Nat.le_refl _)
          have c0_0_44 : η 0 44 = η 0 44 := rfl
          have w0_0_7 : (0 : Int) ≤ η 0 7 ∧ η 0 7 ≤ 700 := wf_ok (a := 7) (b := 7) (z := (0, 700)) hp.1 (by decide +kernel) (Nat.le_refl _) (Nat.le_refl _)
          have c0_0_7 : η 0 7 = η 0 7 := rfl
          have w0_0_6 : (0 : Int) ≤ η 0 6 ∧ η 0 6 ≤ 700 := wf_ok (a := 6) (b := 6) (z := (0, 700)) hp.1 (by decide +kernel) (Nat.le_refl _) (Nat.le_refl _)
          have c0_0_6 : η 0 6 = η 0 6 := rfl
          have w0_0_8 : (0 : Int) ≤ η 0 8 ∧ η 0 8 ≤ 6 := wf_ok (a := 8) (b := 8) (z := (0, 6)) hp.1 (by decide +kernel) (Nat.le_refl _) (Nat.le_refl _)
          have c0_0_8 : η 0 8 = η 0 8 := rfl
          have bx1 : (0 : Int) ≤ x1 ∧ x1 ≤ 1 := k1.1.2.1
          have v9 : η1 0 41 = η 0 41 := (k1.1.2.2.2.1 0 41 (by decide +kernel)).trans rfl
          have c1_0_41 : η1 0 41 = η 0 41 := v9
          have v10 : η1 0 43 = η 0 43 := (k1.1.2.2.2.1 0 43 (by decide +kernel)).trans rfl
          have c1_0_43 : η1 0 43 = η 0 43 := v10
          have v11 : η1 0 42 = η 0 42 := (k1.1.2.2.2.1 0 42 (by decide +kernel)).trans rfl
          have c1_0_42 : η1 0 42 = η 0 42 := v11
          have v12 : η1 0 45 = η 0 45 := (k1.1.2.2.2.1 0 45 (by decide +kernel)).trans rfl
          have c1_0_45 : η1 0 45 = η 0 45 := v12
          have v13 : η1 0 19 = η 0 19 := (k1.1.2.2.2.1 0 19 (by decide +kernel)).trans rfl
          have c1_0_19 : η1 0 19 = η 0 19 := v13
          have v14 : η1 0 44 = η 0 44 := (k1.1.2.2.2.1 0 44 (by decide +kernel)).trans rfl
          have c1_0_44 : η1 0 44 = η 0 44 := v14
          have v15 : η1 0 7 = η 0 7 := (k1.1.2.2.2.1 0 7 (by decide +kernel)).trans rfl
          have c1_0_7 : η1 0 7 = η 0 7 := v15
          have v16 : η1 0 6 = η 0 6 := (k1.1.2.2.2.1 0 6 (by decide +kernel)).trans rfl
          have c1_0_6 : η1 0 6 = η 0 6 := v16
          have v17 : η1 0 8 = η 0 8 := (k1.1.2.2.2.1 0 8 (by decide +kernel)).trans rfl
          have c1_0_8 : η1 0 8 = η 0 8 := v17
          have bx2 : (0 : Int) ≤ x2 ∧ x2 ≤ 1 := k2.1.2.1
          have v18 : η2 0 41 = η 0 41 := (k2.1.2.2.2.1 0 41 (by decide +kernel)).trans v9
          have c2_0_41 : η2 0 41 = η 0 41 := v18
          have v19 : η2 0 43 = η 0 43 := (k2.1.2.2.2.1 0 43 (by decide +kernel)).trans v10
          have c2_0_43 : η2 0 43 = η 0 43 := v19
          have v20 : η2 0 42 = η 0 42 := (k2.1.2.2.2.1 0 42 (by decide +kernel)).trans v11
          have c2_0_42 : η2 0 42 = η 0 42 := v20
          have v21 : η2 0 45 = η 0 45 := (k2.1.2.2.2.1 0 45 (by decide +kernel)).trans v12
          have c2_0_45 : η2 0 45 = η 0 45 := v21
          have v22 : η2 0 19 = η 0 19 := (k2.1.2.2.2.1 0 19 (by decide +kernel)).trans v13
          have c2_0_19 : η2 0 19 = η 0 19 := v22
          have v23 : η2 0 44 = η 0 44 := (k2.1.2.2.2.1 0 44 (by decide +kernel)).trans v14
          have c2_0_44 : η2 0 44 = η 0 44 := v23
          have v24 : η2 0 7 = η 0 7 := (k2.1.2.2.2.1 0 7 (by decide +kernel)).trans v15
          have c2_0_7 : η2 0 7 = η 0 7 := v24
          have v25 : η2 0 6 = η 0 6 := (k2.1.2.2.2.1 0 6 (by decide +kernel)).trans v16
          have c2_0_6 : η2 0 6 = η 0 6 := v25
          have v26 : η2 0 8 = η 0 8 := (k2.1.2.2.2.1 0 8 (by decide +kernel)).trans v17
          have c2_0_8 : η2 0 8 = η 0 8 := v26
          have bx3 : ((-1) : Int) ≤ x3 ∧ x3 ≤ 6 := k3.1.2.1
          have v27 : η3 0 8 = η 0 8 := (k3.1.2.2.2.1 0 8 (by decide +kernel)).trans v26
          replace e4 : x4 = η 0 8 := e4.trans v27
          replace r4 : -2147483648 ≤ x4 ∧ x4 ≤ 2147483647 := r4
          have v28 : η3 0 41 = η 0 41 := (k3.1.2.2.2.1 0 41 (by decide +kernel)).trans v18
          have c3_0_41 : η3 0 41 = η 0 41 := v28
          have v29 : η3 0 43 = η 0 43 := (k3.1.2.2.2.1 0 43 (by decide +kernel)).trans v19
          have c3_0_43 : η3 0 43 = η 0 43 := v29
          have v30 : η3 0 42 = η 0 42 := (k3.1.2.2.2.1 0 42 (by decide +kernel)).trans v20
          have c3_0_42 : η3 0 42 = η 0 42 := v30
          have v31 : η3 0 45 = η 0 45 := (k3.1.2.2.2.1 0 45 (by decide +kernel)).trans v21
          have c3_0_45 : η3 0 45 = η 0 45 := v31
          have v32 : η3 0 19 = η 0 19 := (k3.1.2.2.2.1 0 19 (by decide +kernel)).trans v22
          have c3_0_19 : η3 0 19 = η 0 19 := v32
          have v33 : η3 0 44 = η 0 44 := (k3.1.2.2.2.1 0 44 (by decide +kernel)).trans v23
          have c3_0_44 : η3 0 44 = η 0 44 := v33
          have v34 : η3 0 7 = η 0 7 := (k3.1.2.2.2.1 0 7 (by decide +kernel)).trans v24
          have c3_0_7 : η3 0 7 = η 0 7 := v34
          have v35 : η3 0 6 = η 0 6 := (k3.1.2.2.2.1 0 6 (by decide +kernel)).trans v25
          have c3_0_6 : η3 0 6 = η 0 6 := v35
          have c3_0_8 : η3 0 8 = η 0 8 := v27
          have bx5 : (0 : Int) ≤ x5 ∧ x5 ≤ 0 := k5.1.2.1
          have fm1 : zFm zMl_leafRead η η1 := zFm_tr2 zFm_rf k1.1.2.2.2.1 (by decide +kernel)
          have fm2 : zFm zMl_leafRead η η2 := zFm_tr2 fm1 k2.1.2.2.2.1 (by decide +kernel)
          have fm3 : zFm zMl_leafRead η η3 := zFm_tr2 fm2 k3.1.2.2.2.1 (by decide +kernel)
          have fm4 : zFm zMl_leafRead η η4 := zFm_tr2 fm3 k5.1.2.2.2.1 (by decide +kernel)
          have fmE : zFm zMl_leafRead η η4 := fm4
          have fr22_0 : ∀ j, η 22 j = η 22 j := fun _ => rfl
          have v36 : ∀ j, η1 22 j = η 22 j := fun j => k1.1.2.2.2.1 22 _ (zinr_not (by decide +kernel))
          have fr22_1 : ∀ j, η1 22 j = η 22 j := v36
          have v37 : ∀ j, η2 22 j = η 22 j := fun j => (k2.1.2.2.2.1 22 _ (zinr_not (by decide +kernel))).trans (v36 j)
          have fr22_2 : ∀ j, η2 22 j = η 22 j := v37
          have v38 : ∀ j, η3 22 j = η 22 j := fun j => (k3.1.2.2.2.1 22 _ (zinr_not (by decide +kernel))).trans (v37 j)
          have fr22_3 : ∀ j, η3 22 j = η 22 j := v38
          have v39 : ∀ j, η4 22 j = η 22 j := fun j => (k5.1.2.2.2.1 22 _ (zinr_not (by decide +kernel))).trans (v38 j)
          have fr22_4 : ∀ j, η4 22 j = η 22 j := v39
          have fr22 : ∀ j, η4 22 j = η 22 j := v39
          have v40 : η4 0 41 = η 0 41 := (k5.1.2.2.2.1 0 41 (by decide +kernel)).trans v28
          have f0_41 : η4 0 41 = η 0 41 := v40
          have v41 : η4 0 43 = η 0 43 := (k5.1.2.2.2.1 0 43 (by decide +kernel)).trans v29
          have f0_43 : η4 0 43 = η 0 43 := v41
          have v42 : η4 0 42 = η 0 42 := (k5.1.2.2.2.1 0 42 (by decide +kernel)).trans v30
          have f0_42 : η4 0 42 = η 0 42 := v42
          have v43 : η4 0 45 = η 0 45 := (k5.1.2.2.2.1 0 45 (by decide +kernel)).trans v31
          have f0_45 : η4 0 45 = η 0 45 := v43
          have v44 : η4 0 19 = η 0 19 := (k5.1.2.2.2.1 0 19 (by decide +kernel)).trans v32
          have f0_19 : η4 0 19 = η 0 19 := v44
          have v45 : η4 0 44 = η 0 44 := (k5.1.2.2.2.1 0 44 (by decide +kernel)).trans v33
          have f0_44 : η4 0 44 = η 0 44 := v45
          have v46 : η4 0 7 = η 0 7 := (k5.1.2.2.2.1 0 7 (by decide +kernel)).trans v34
          have f0_7 : η4 0 7 = η 0 7 := v46
          have v47 : η4 0 6 = η 0 6 := (k5.1.2.2.2.1 0 6 (by decide +kernel)).trans v35
          have f0_6 : η4 0 6 = η 0 6 := v47
          have v48 : η4 0 8 = η 0 8 := (k5.1.2.2.2.1 0 8 (by decide +kernel)).trans v27
          have f0_8 : η4 0 8 = η 0 8 := v48
          have wb1 : wB wl_l zTr η1 := k1.1.1
          have wb2 : wB wl_l zTr η2 := k2.1.1
          have wb3 : wB wl_l zTr η3 := k3.1.1
          have wb4 : wB wl_l zTr η4 := k5.1.1
          have wbE : wB wl_l zTr η4 := wb4
          have I0 : H_l 0 0 0 η := hpp.1
          have I1 : H_l 0 0 0 η1 := k1.2.1
          have I2 : H_l 0 0 0 η2 := k2.2.1
          have I3 : H_l 0 0 0 η3 := k3.2.1
          have I4 : H_l 0 0 0 η4 := k5.2
          exact ⟨I4.1, fun w => absurd (show (x5 : Int) = 0 by omega) w⟩
        · show ∀ (x1 : Int) (η1 : zE), ((gC2 wl_l [(nat_lit 0, zPl_isSign, zOl_isSign, zMl_isSign), (nat_lit 1, zPl_wrong, zOl_wrong, zMl_wrong), (nat_lit 2, zPl_waitsFor0, zOl_waitsFor0, zMl_waitsFor0), (nat_lit 3, zPl_token, zOl_token, zMl_token), (nat_lit 4, zPl_isKey, zOl_isKey, zMl_isKey), (nat_lit 5, zPl_isCounted, zOl_isCounted, zMl_isCounted), (nat_lit 6, zPl_waitsFor2, zOl_waitsFor2, zMl_waitsFor2), (nat_lit 7, zPl_nameMet, zOl_nameMet, zMl_nameMet), (nat_lit 8, zPl_grown, zOl_grown, zMl_grown)] pCl_leafRead qCl_leafRead) 0).2 [40] η x1 η1 → (x1 = 0) → ∀ (x2 : Int) (η2 : zE), ((gC2 wl_l [(nat_lit 0, zPl_isSign, zOl_isSign, zMl_isSign), (nat_lit 1, zPl_wrong, zOl_wrong, zMl_wrong), (nat_lit 2, zPl_waitsFor0, zOl_waitsFor0, zMl_waitsFor0), (nat_lit 3, zPl_token, zOl_token, zMl_token), (nat_lit 4, zPl_isKey, zOl_isKey, zMl_isKey), (nat_lit 5, zPl_isCounted, zOl_isCounted, zMl_isCounted), (nat_lit 6, zPl_waitsFor2, zOl_waitsFor2, zMl_waitsFor2), (nat_lit 7, zPl_nameMet, zOl_nameMet, zMl_nameMet), (nat_lit 8, zPl_grown, zOl_grown, zMl_grown)] pCl_leafRead qCl_leafRead) 4).2 [12] η1 x2 η2 → (¬ x2 = 0) → ∀ x3 : Int, x3 = η2 0 (Int.toNat 46) → zok 1 x3 → (x3 = 0) → ((gC2 wl_l [(nat_lit 0, zPl_isSign, zOl_isSign, zMl_isSign), (nat_lit 1, zPl_wrong, zOl_wrong, zMl_wrong), (nat_lit 2, zPl_waitsFor0, zOl_waitsFor0, zMl_waitsFor0), (nat_lit 3, zPl_token, zOl_token, zMl_token), (nat_lit 4, zPl_isKey, zOl_isKey, zMl_isKey), (nat_lit 5, zPl_isCounted, zOl_isCounted, zMl_isCounted), (nat_lit 6, zPl_waitsFor2, zOl_waitsFor2, zMl_waitsFor2), (nat_lit 7, zPl_nameMet, zOl_nameMet, zMl_nameMet), (nat_lit 8, zPl_grown, zOl_grown, zMl_grown)] pCl_leafRead qCl_leafRead) 7).1 [] η2
          have hw : η 0 45 = 1 := hpp.2
          have hs : η 0 7 ≤ η 0 6 := hpp.1.1.1.1
          have bd43 : (0 : Int) ≤ η 0 43 ∧ η 0 43 ≤ 8 := wf_ok (a := 43) (b := 43) (z := (0, 8)) hp.1 (by decide +kernel) (Nat.le_refl _) (Nat.le_refl _)
          have bd44 : (0 : Int) ≤ η 0 44 ∧ η 0 44 ≤ 64 := wf_ok (a := 44) (b := 44) (z := (0, 64)) hp.1 (by decide +kernel) (Nat.le_refl _) (Nat.le_refl _)
          have bd19 : (0 : Int) ≤ η 0 19 ∧ η 0 19 ≤ 64 := wf_ok (a := 19) (b := 19) (z := (0, 64)) hp.1 (by decide +kernel) (Nat.le_refl _) (Nat.le_refl _)
          intro x1 η1 h1 c1 x2 η2 h2 c2 x3 e3 r3 c3
          have k1 : sQ wl_l zTr zOl_isSign zMl_isSign [40] η x1 η1 ∧ pQl_isSign [40] η x1 η1 := h1
          have k2 : sQ wl_l zTr zOl_isKey zMl_isKey [12] η1 x2 η2 ∧ pQl_isKey [12] η1 x2 η2 := h2
          have c0_0_41 : η 0 41 = η 0 41 := rfl
          have w0_0_43 : (0 : Int) ≤ η 0 43 ∧ η 0 43 ≤ 8 := wf_ok (a := 43) (b := 43) (z := (0, 8)) hp.1 (by decide +kernel) (Nat.le_refl _) (Nat.le_refl _)
          have c0_0_43 : η 0 43 = η 0 43 := rfl
          have c0_0_42 : η 0 42 = η 0 42 := rfl
          have c0_0_45 : η 0 45 = η 0 45 := rfl
          have w0_0_19 : (0 : Int) ≤ η 0 19 ∧ η 0 19 ≤ 64 := wf_ok (a := 19) (b := 19) (z := (0, 64)) hp.1 (by decide +kernel) (Nat.le_refl _) (Nat.le_refl _)
          have c0_0_19 : η 0 19 = η 0 19 := rfl
          have w0_0_44 : (0 : Int) ≤ η 0 44 ∧ η 0 44 ≤ 64 := wf_ok (a := 44) (b := 44) (z := (0, 64)) hp.1 (by decide +kernel) (Nat.le_refl _) (Nat.le_refl _)
          have c0_0_44 : η 0 44 = η 0 44 := rfl
          have w0_0_7 : (0 : Int) ≤ η 0 7 ∧ η 0 7 ≤ 700 := wf_ok (a := 7) (b := 7) (z := (0, 700)) hp.1 (by decide +kernel) (Nat.le_refl _) (Nat.le_refl _)
          have c0_0_7 : η 0 7 = η 0 7 := rfl
          have w0_0_6 : (0 : Int) ≤ η 0 6 ∧ η 0 6 ≤ 700 := wf_ok (a := 6) (b := 6) (z := (0, 700)) hp.1 (by decide +kernel) (Nat.le_refl _) (Nat.le_refl _)
          have c0_0_6 : η 0 6 = η 0 6 := rfl
          have w0_0_8 : (0 : Int) ≤ η 0 8 ∧ η 0 8 ≤ 6 := wf_ok (a := 8) (b := 8) (z := (0, 6)) hp.1 (by decide +kernel) (Nat.le_refl _) (Nat.le_refl _)
          have c0_0_8 : η 0 8 = η 0 8 := rfl
          have bx1 : (0 : Int) ≤ x1 ∧ x1 ≤ 1 := k1.1.2.1
          have v9 : η1 0 41 = η 0 41 := (k1.1.2.2.2.1 0 41 (by decide +kernel)).trans rfl
          have c1_0_41 : η1 0 41 = η 0 41 := v9
          have v10 : η1 0 43 = η 0 43 := (k1.1.2.2.2.1 0 43 (by decide +kernel)).trans rfl
          have c1_0_43 : η1 0 43 = η 0 43 := v10
          have v11 : η1 0 42 = η 0 42 := (k1.1.2.2.2.1 0 42 (by decide +kernel)).trans rfl
          have c1_0_42 : η1 0 42 = η 0 42 := v11
          have v12 : η1 0 45 = η 0 45 := (k1.1.2.2.2.1 0 45 (by decide +kernel)).trans rfl
          have c1_0_45 : η1 0 45 = η 0 45 := v12
          have v13 : η1 0 19 = η 0 19 := (k1.1.2.2.2.1 0 19 (by decide +kernel)).trans rfl
          have c1_0_19 : η1 0 19 = η 0 19 := v13
          have v14 : η1 0 44 = η 0 44 := (k1.1.2.2.2.1 0 44 (by decide +kernel)).trans rfl
          have c1_0_44 : η1 0 44 = η 0 44 := v14
          have v15 : η1 0 7 = η 0 7 := (k1.1.2.2.2.1 0 7 (by decide +kernel)).trans rfl
          have c1_0_7 : η1 0 7 = η 0 7 := v15
          have v16 : η1 0 6 = η 0 6 := (k1.1.2.2.2.1 0 6 (by decide +kernel)).trans rfl
          have c1_0_6 : η1 0 6 = η 0 6 := v16
          have v17 : η1 0 8 = η 0 8 := (k1.1.2.2.2.1 0 8 (by decide +kernel)).trans rfl
          have c1_0_8 : η1 0 8 = η 0 8 := v17
          have bx2 : (0 : Int) ≤ x2 ∧ x2 ≤ 1 := k2.1.2.1
          have v19 : η1 0 46 = η 0 46 := (k1.1.2.2.2.1 0 46 (by decide +kernel)).trans rfl
          have v20 : η2 0 46 = η 0 46 := (k2.1.2.2.2.1 0 46 (by decide +kernel)).trans v19
          replace e3 : x3 = η 0 46 := e3.trans v20
          replace r3 : 0 ≤ x3 ∧ x3 ≤ 1 := r3
          have fm1 : zFm zMl_leafRead η η1 := zFm_tr2 zFm_rf k1.1.2.2.2.1 (by decide +kernel)
          have fm2 : zFm zMl_leafRead η η2 := zFm_tr2 fm1 k2.1.2.2.2.1 (by decide +kernel)
          have fmE : zFm zMl_leafRead η η2 := fm2
          have fr22_0 : ∀ j, η 22 j = η 22 j := fun _ => rfl
          have v21 : ∀ j, η1 22 j = η 22 j := fun j => k1.1.2.2.2.1 22 _ (zinr_not (by decide +kernel))
          have fr22_1 : ∀ j, η1 22 j = η 22 j := v21
          have v22 : ∀ j, η2 22 j = η 22 j := fun j => (k2.1.2.2.2.1 22 _ (zinr_not (by decide +kernel))).trans (v21 j)
          have fr22_2 : ∀ j, η2 22 j = η 22 j := v22
          have fr22 : ∀ j, η2 22 j = η 22 j := v22
          have v23 : η2 0 41 = η 0 41 := (k2.1.2.2.2.1 0 41 (by decide +kernel)).trans v9
          have f0_41 : η2 0 41 = η 0 41 := v23
          have v24 : η2 0 43 = η 0 43 := (k2.1.2.2.2.1 0 43 (by decide +kernel)).trans v10
          have f0_43 : η2 0 43 = η 0 43 := v24
          have v25 : η2 0 42 = η 0 42 := (k2.1.2.2.2.1 0 42 (by decide +kernel)).trans v11
          have f0_42 : η2 0 42 = η 0 42 := v25
          have v26 : η2 0 45 = η 0 45 := (k2.1.2.2.2.1 0 45 (by decide +kernel)).trans v12
          have f0_45 : η2 0 45 = η 0 45 := v26
          have v27 : η2 0 19 = η 0 19 := (k2.1.2.2.2.1 0 19 (by decide +kernel)).trans v13
          have f0_19 : η2 0 19 = η 0 19 := v27
          have v28 : η2 0 44 = η 0 44 := (k2.1.2.2.2.1 0 44 (by decide +kernel)).trans v14
          have f0_44 : η2 0 44 = η 0 44 := v28
          have v29 : η2 0 7 = η 0 7 := (k2.1.2.2.2.1 0 7 (by decide +kernel)).trans v15
          have f0_7 : η2 0 7 = η 0 7 := v29
          have v30 : η2 0 6 = η 0 6 := (k2.1.2.2.2.1 0 6 (by decide +kernel)).trans v16
          have f0_6 : η2 0 6 = η 0 6 := v30
          have v31 : η2 0 8 = η 0 8 := (k2.1.2.2.2.1 0 8 (by decide +kernel)).trans v17
          have f0_8 : η2 0 8 = η 0 8 := v31
          have wb1 : wB wl_l zTr η1 := k1.1.1
          have wb2 : wB wl_l zTr η2 := k2.1.1
          have wbE : wB wl_l zTr η2 := wb2
          have I0 : H_l 0 0 0 η := hpp.1
          have I1 : H_l 0 0 0 η1 := k1.2.1
          have I2 : H_l 0 0 0 η2 := k2.2.1
          have qk2 : η1 0 8 = 1 := k2.2.2 c2
          exact I2
        · show ∀ (x1 : Int) (η1 : zE), ((gC2 wl_l [(nat_lit 0, zPl_isSign, zOl_isSign, zMl_isSign), (nat_lit 1, zPl_wrong, zOl_wrong, zMl_wrong), (nat_lit 2, zPl_waitsFor0, zOl_waitsFor0, zMl_waitsFor0), (nat_lit 3, zPl_token, zOl_token, zMl_token), (nat_lit 4, zPl_isKey, zOl_isKey, zMl_isKey), (nat_lit 5, zPl_isCounted, zOl_isCounted, zMl_isCounted), (nat_lit 6, zPl_waitsFor2, zOl_waitsFor2, zMl_waitsFor2), (nat_lit 7, zPl_nameMet, zOl_nameMet, zMl_nameMet), (nat_lit 8, zPl_grown, zOl_grown, zMl_grown)] pCl_leafRead qCl_leafRead) 0).2 [40] η x1 η1 → (x1 = 0) → ∀ (x2 : Int) (η2 : zE), ((gC2 wl_l [(nat_lit 0, zPl_isSign, zOl_isSign, zMl_isSign), (nat_lit 1, zPl_wrong, zOl_wrong, zMl_wrong), (nat_lit 2, zPl_waitsFor0, zOl_waitsFor0, zMl_waitsFor0), (nat_lit 3, zPl_token, zOl_token, zMl_token), (nat_lit 4, zPl_isKey, zOl_isKey, zMl_isKey), (nat_lit 5, zPl_isCounted, zOl_isCounted, zMl_isCounted), (nat_lit 6, zPl_waitsFor2, zOl_waitsFor2, zMl_waitsFor2), (nat_lit 7, zPl_nameMet, zOl_nameMet, zMl_nameMet), (nat_lit 8, zPl_grown, zOl_grown, zMl_grown)] pCl_leafRead qCl_leafRead) 4).2 [12] η1 x2 η2 → (¬ x2 = 0) → ∀ x3 : Int, x3 = η2 0 (Int.toNat 46) → zok 1 x3 → (x3 = 0) → ∀ (x4 : Int) (η3 : zE), ((gC2 wl_l [(nat_lit 0, zPl_isSign, zOl_isSign, zMl_isSign), (nat_lit 1, zPl_wrong, zOl_wrong, zMl_wrong), (nat_lit 2, zPl_waitsFor0, zOl_waitsFor0, zMl_waitsFor0), (nat_lit 3, zPl_token, zOl_token, zMl_token), (nat_lit 4, zPl_isKey, zOl_isKey, zMl_isKey), (nat_lit 5, zPl_isCounted, zOl_isCounted, zMl_isCounted), (nat_lit 6, zPl_waitsFor2, zOl_waitsFor2, zMl_waitsFor2), (nat_lit 7, zPl_nameMet, zOl_nameMet, zMl_nameMet), (nat_lit 8, zPl_grown, zOl_grown, zMl_grown)] pCl_leafRead qCl_leafRead) 7).2 [] η2 x4 η3 → (0 ≤ x4) → (0 ≤ x4) → ((gC2 wl_l [(nat_lit 0, zPl_isSign, zOl_isSign, zMl_isSign), (nat_lit 1, zPl_wrong, zOl_wrong, zMl_wrong), (nat_lit 2, zPl_waitsFor0, zOl_waitsFor0, zMl_waitsFor0), (nat_lit 3, zPl_token, zOl_token, zMl_token), (nat_lit 4, zPl_isKey, zOl_isKey, zMl_isKey), (nat_lit 5, zPl_isCounted, zOl_isCounted, zMl_isCounted), (nat_lit 6, zPl_waitsFor2, zOl_waitsFor2, zMl_waitsFor2), (nat_lit 7, zPl_nameMet, zOl_nameMet, zMl_nameMet), (nat_lit 8, zPl_grown, zOl_grown, zMl_grown)] pCl_leafRead qCl_leafRead) 5).1 [] η3
          have hw : η 0 45 = 1 := hpp.2
          have hs : η 0 7 ≤ η 0 6 := hpp.1.1.1.1
          have bd43 : (0 : Int) ≤ η 0 43 ∧ η 0 43 ≤ 8 := wf_ok (a := 43) (b := 43) (z := (0, 8)) hp.1 (by decide +kernel) (Nat.le_refl _) (Nat.le_refl _)
          have bd44 : (0 : Int) ≤ η 0 44 ∧ η 0 44 ≤ 64 := wf_ok (a := 44) (b := 44) (z := (0, 64)) hp.1 (by decide +kernel) (Nat.le_refl _) (Nat.le_refl _)
          have bd19 : (0 : Int) ≤ η 0 19 ∧ η 0 19 ≤ 64 := wf_ok (a := 19) (b := 19) (z := (0, 64)) hp.1 (by decide +kernel) (Nat.le_refl _) (Nat.le_refl _)
          intro x1 η1 h1 c1 x2 η2 h2 c2 x3 e3 r3 c3 x4 η3 h4 c4 c5
          have k1 : sQ wl_l zTr zOl_isSign zMl_isSign [40] η x1 η1 ∧ pQl_isSign [40] η x1 η1 := h1
          have k2 : sQ wl_l zTr zOl_isKey zMl_isKey [12] η1 x2 η2 ∧ pQl_isKey [12] η1 x2 η2 := h2
          have k4 : sQ wl_l zTr zOl_nameMet zMl_nameMet [] η2 x4 η3 ∧ pQl_nameMet [] η2 x4 η3 := h4
          have c0_0_41 : η 0 41 = η 0 41 := rfl
          have w0_0_43 : (0 : Int) ≤ η 0 43 ∧ η 0 43 ≤ 8 := wf_ok (a := 43) (b := 43) (z := (0, 8)) hp.1 (by decide +kernel) (Nat.le_refl _) (Nat.le_refl _)
          have c0_0_43 : η 0 43 = η 0 43 := rfl
          have c0_0_42 : η 0 42 = η 0 42 := rfl
          have c0_0_45 : η 0 45 = η 0 45 := rfl
          have w0_0_19 : (0 : Int) ≤ η 0 19 ∧ η 0 19 ≤ 64 := wf_ok (a := 19) (b := 19) (z := (0, 64)) hp.1 (by decide +kernel) (Nat.le_refl _) (Nat.le_refl _)
          have c0_0_19 : η 0 19 = η 0 19 := rfl
          have w0_0_44 : (0 : Int) ≤ η 0 44 ∧ η 0 44 ≤ 64 := wf_ok (a := 44) (b := 44) (z := (0, 64)) hp.1 (by decide +kernel) (Nat.le_refl _) (Nat.le_refl _)
          have c0_0_44 : η 0 44 = η 0 44 := rfl
          have w0_0_7 : (0 : Int) ≤ η 0 7 ∧ η 0 7 ≤ 700 := wf_ok (a := 7) (b := 7) (z := (0, 700)) hp.1 (by decide +kernel) (Nat.le_refl _) (Nat.le_refl _)
          have c0_0_7 : η 0 7 = η 0 7 := rfl
          have w0_0_6 : (0 : Int) ≤ η 0 6 ∧ η 0 6 ≤ 700 := wf_ok (a := 6) (b := 6) (z := (0, 700)) hp.1 (by decide +kernel) (Nat.le_refl _) (Nat.le_refl _)
          have c0_0_6 : η 0 6 = η 0 6 := rfl
          have w0_0_8 : (0 : Int) ≤ η 0 8 ∧ η 0 8 ≤ 6 := wf_ok (a := 8) (b := 8) (z := (0, 6)) hp.1 (by decide +kernel) (Nat.le_refl _) (Nat.le_refl _)
          have c0_0_8 : η 0 8 = η 0 8 := rfl
          have bx1 : (0 : Int) ≤ x1 ∧ x1 ≤ 1 := k1.1.2.1
          have v9 : η1 0 41 = η 0 41 := (k1.1.2.2.2.1 0 41 (by decide +kernel)).trans rfl
          have c1_0_41 : η1 0 41 = η 0 41 := v9
          have v10 : η1 0 43 = η 0 43 := (k1.1.2.2.2.1 0 43 (by decide +kernel)).trans rfl
          have c1_0_43 : η1 0 43 = η 0 43 := v10
          have v11 : η1 0 42 = η 0 42 := (k1.1.2.2.2.1 0 42 (by decide +kernel)).trans rfl
          have c1_0_42 : η1 0 42 = η 0 42 := v11
          have v12 : η1 0 45 = η 0 45 := (k1.1.2.2.2.1 0 45 (by decide +kernel)).trans rfl
          have c1_0_45 : η1 0 45 = η 0 45 := v12
          have v13 : η1 0 19 = η 0 19 := (k1.1.2.2.2.1 0 19 (by decide +kernel)).trans rfl
          have c1_0_19 : η1 0 19 = η 0 19 := v13
          have v14 : η1 0 44 = η 0 44 := (k1.1.2.2.2.1 0 44 (by decide +kernel)).trans rfl
          have c1_0_44 : η1 0 44 = η 0 44 := v14
          have v15 : η1 0 7 = η 0 7 := (k1.1.2.2.2.1 0 7 (by decide +kernel)).trans rfl
          have c1_0_7 : η1 0 7 = η 0 7 := v15
          have v16 : η1 0 6 = η 0 6 := (k1.1.2.2.2.1 0 6 (by decide +kernel)).trans rfl
          have c1_0_6 : η1 0 6 = η 0 6 := v16
          have v17 : η1 0 8 = η 0 8 := (k1.1.2.2.2.1 0 8 (by decide +kernel)).trans rfl
          have c1_0_8 : η1 0 8 = η 0 8 := v17
          have bx2 : (0 : Int) ≤ x2 ∧ x2 ≤ 1 := k2.1.2.1
          have v19 : η1 0 46 = η 0 46 := (k1.1.2.2.2.1 0 46 (by decide +kernel)).trans rfl
          have v20 : η2 0 46 = η 0 46 := (k2.1.2.2.2.1 0 46 (by decide +kernel)).trans v19
          replace e3 : x3 = η 0 46 := e3.trans v20
          replace r3 : 0 ≤ x3 ∧ x3 ≤ 1 := r3
          have v21 : η2 0 41 = η 0 41 := (k2.1.2.2.2.1 0 41 (by decide +kernel)).trans v9
          have c2_0_41 : η2 0 41 = η 0 41 := v21
          have v22 : η2 0 43 = η 0 43 := (k2.1.2.2.2.1 0 43 (by decide +kernel)).trans v10
          have c2_0_43 : η2 0 43 = η 0 43 := v22
          have v23 : η2 0 42 = η 0 42 := (k2.1.2.2.2.1 0 42 (by decide +kernel)).trans v11
          have c2_0_42 : η2 0 42 = η 0 42 := v23
          have v24 : η2 0 45 = η 0 45 := (k2.1.2.2.2.1 0 45 (by decide +kernel)).trans v12
          have c2_0_45 : η2 0 45 = η 0 45 := v24
          have v25 : η2 0 19 = η 0 19 := (k2.1.2.2.2.1 0 19 (by decide +kernel)).trans v13
          have c2_0_19 : η2 0 19 = η 0 19 := v25
          have v26 : η2 0 44 = η 0 44 := (k2.1.2.2.2.1 0 44 (by decide +kernel)).trans v14
          have c2_0_44 : η2 0 44 = η 0 44 := v26
          have v27 : η2 0 7 = η 0 7 := (k2.1.2.2.2.1 0 7 (by decide +kernel)).trans v15
          have c2_0_7 : η2 0 7 = η 0 7 := v27
          have v28 : η2 0 6 = η 0 6 := (k2.1.2.2.2.1 0 6 (by decide +kernel)).trans v16
          have c2_0_6 : η2 0 6 = η 0 6 := v28
          have v29 : η2 0 8 = η 0 8 := (k2.1.2.2.2.1 0 8 (by decide +kernel)).trans v17
          have c2_0_8 : η2 0 8 = η 0 8 := v29
          have bx4 : ((-1) : Int) ≤ x4 ∧ x4 ≤ 6 := k4.1.2.1
          have fm1 : zFm zMl_leafRead η η1 := zFm_tr2 zFm_rf k1.1.2.2.2.1 (by decide +kernel)
          have fm2 : zFm zMl_leafRead η η2 := zFm_tr2 fm1 k2.1.2.2.2.1 (by decide +kernel)
          have fm3 : zFm zMl_leafRead η η3 := zFm_tr2 fm2 k4.1.2.2.2.1 (by decide +kernel)
          have fmE : zFm zMl_leafRead η η3 := fm3
          have fr22_0 : ∀ j, η 22 j = η 22 j := fun _ => rfl
          have v30 : ∀ j, η1 22 j = η 22 j := fun j => k1.1.2.2.2.1 22 _ (zinr_not (by decide +kernel))
          have fr22_1 : ∀ j, η1 22 j = η 22 j := v30
          have v31 : ∀ j, η2 22 j = η 22 j := fun j => (k2.1.2.2.2.1 22 _ (zinr_not (by decide +kernel))).trans (v30 j)
          have fr22_2 : ∀ j, η2 22 j = η 22 j := v31
          have v32 : ∀ j, η3 22 j = η 22 j := fun j => (k4.1.2.2.2.1 22 _ (zinr_not (by decide +kernel))).trans (v31 j)
          have fr22_3 : ∀ j, η3 22 j = η 22 j := v32
          have fr22 : ∀ j, η3 22 j = η 22 j := v32
          have v33 : η3 0 41 = η 0 41 := (k4.1.2.2.2.1 0 41 (by decide +kernel)).trans v21
          have f0_41 : η3 0 41 = η 0 41 := v33
          have v34 : η3 0 43 = η 0 43 := (k4.1.2.2.2.1 0 43 (by decide +kernel)).trans v22
          have f0_43 : η3 0 43 = η 0 43 := v34
          have v35 : η3 0 42 = η 0 42 := (k4.1.2.2.2.1 0 42 (by decide +kernel)).trans v23
          have f0_42 : η3 0 42 = η 0 42 := v35
          have v36 : η3 0 45 = η 0 45 := (k4.1.2.2.2.1 0 45 (by decide +kernel)).trans v24
          have f0_45 : η3 0 45 = η 0 45 := v36
          have v37 : η3 0 19 = η 0 19 := (k4.1.2.2.2.1 0 19 (by decide +kernel)).trans v25
          have f0_19 : η3 0 19 = η 0 19 := v37
          have v38 : η3 0 44 = η 0 44 := (k4.1.2.2.2.1 0 44 (by decide +kernel)).trans v26
          have f0_44 : η3 0 44 = η 0 44 := v38
          have v39 : η3 0 7 = η 0 7 := (k4.1.2.2.2.1 0 7 (by decide +kernel)).trans v27
          have f0_7 : η3 0 7 = η 0 7 := v39
          have v40 : η3 0 6 = η 0 6 := (k4.1.2.2.2.1 0 6 (by decide +kernel)).trans v28
          have f0_6 : η3 0 6 = η 0 6 := v40
          have v41 : η3 0 8 = η 0 8 := (k4.1.2.2.2.1 0 8 (by decide +kernel)).trans v29
          have f0_8 : η3 0 8 = η 0 8 := v41
          have wb1 : wB wl_l zTr η1 := k1.1.1
          have wb2 : wB wl_l zTr η2 := k2.1.1
          have wb3 : wB wl_l zTr η3 := k4.1.1
          have wbE : wB wl_l zTr η3 := wb3
          have I0 : H_l 0 0 0 η := hpp.1
          have I1 : H_l 0 0 0 η1 := k1.2.1
          have I2 : H_l 0 0 0 η2 := k2.2.1
          have qk2 : η1 0 8 = 1 := k2.2.2 c2
          have I3 : H_l 0 0 0 η3 := k4.2.1
          have qk4 : η2 0 8 = 1 := k4.2.2 c4
          exact I3
        · show ∀ (x1 : Int) (η1 : zE), ((gC2 wl_l [(nat_lit 0, zPl_isSign, zOl_isSign, zMl_isSign), (nat_lit 1, zPl_wrong, zOl_wrong, zMl_wrong), (nat_lit 2, zPl_waitsFor0, zOl_waitsFor0, zMl_waitsFor0), (nat_lit 3, zPl_token, zOl_token, zMl_token), (nat_lit 4, zPl_isKey, zOl_isKey, zMl_isKey), (nat_lit 5, zPl_isCounted, zOl_isCounted, zMl_isCounted), (nat_lit 6, zPl_waitsFor2, zOl_waitsFor2, zMl_waitsFor2), (nat_lit 7, zPl_nameMet, zOl_nameMet, zMl_nameMet), (nat_lit 8, zPl_grown, zOl_grown, zMl_grown)] pCl_leafRead qCl_leafRead) 0).2 [40] η x1 η1 → (x1 = 0) → ∀ (x2 : Int) (η2 : zE), ((gC2 wl_l [(nat_lit 0, zPl_isSign, zOl_isSign, zMl_isSign), (nat_lit 1, zPl_wrong, zOl_wrong, zMl_wrong), (nat_lit 2, zPl_waitsFor0, zOl_waitsFor0, zMl_waitsFor0), (nat_lit 3, zPl_token, zOl_token, zMl_token), (nat_lit 4, zPl_isKey, zOl_isKey, zMl_isKey), (nat_lit 5, zPl_isCounted, zOl_isCounted, zMl_isCounted), (nat_lit 6, zPl_waitsFor2, zOl_waitsFor2, zMl_waitsFor2), (nat_lit 7, zPl_nameMet, zOl_nameMet, zMl_nameMet), (nat_lit 8, zPl_grown, zOl_grown, zMl_grown)] pCl_leafRead qCl_leafRead) 4).2 [12] η1 x2 η2 → (¬ x2 = 0) → ∀ x3 : Int, x3 = η2 0 (Int.toNat 46) → zok 1 x3 → (x3 = 0) → ∀ (x4 : Int) (η3 : zE), ((gC2 wl_l [(nat_lit 0, zPl_isSign, zOl_isSign, zMl_isSign), (nat_lit 1, zPl_wrong, zOl_wrong, zMl_wrong), (nat_lit 2, zPl_waitsFor0, zOl_waitsFor0, zMl_waitsFor0), (nat_lit 3, zPl_token, zOl_token, zMl_token), (nat_lit 4, zPl_isKey, zOl_isKey, zMl_isKey), (nat_lit 5, zPl_isCounted, zOl_isCounted, zMl_isCounted), (nat_lit 6, zPl_waitsFor2, zOl_waitsFor2, zMl_waitsFor2), (nat_lit 7, zPl_nameMet, zOl_nameMet, zMl_nameMet), (nat_lit 8, zPl_grown, zOl_grown, zMl_grown)] pCl_leafRead qCl_leafRead) 7).2 [] η2 x4 η3 → (0 ≤ x4) → (0 ≤ x4) → ∀ (x5 : Int) (η4 : zE), ((gC2 wl_l [(nat_lit 0, zPl_isSign, zOl_isSign, zMl_isSign), (nat_lit 1, zPl_wrong, zOl_wrong, zMl_wrong), (nat_lit 2, zPl_waitsFor0, zOl_waitsFor0, zMl_waitsFor0), (nat_lit 3, zPl_token, zOl_token, zMl_token), (nat_lit 4, zPl_isKey, zOl_isKey, zMl_isKey), (nat_lit 5, zPl_isCounted, zOl_isCounted, zMl_isCounted), (nat_lit 6, zPl_waitsFor2, zOl_waitsFor2, zMl_waitsFor2), (nat_lit 7, zPl_nameMet, zOl_nameMet, zMl_nameMet), (nat_lit 8, zPl_grown, zOl_grown, zMl_grown)] pCl_leafRead qCl_leafRead) 5).2 [] η3 x5 η4 → (¬ x5 = 0) → (0 ≤ x4) → (0 ≤ x4) → ((gC2 wl_l [(nat_lit 0, zPl_isSign, zOl_isSign, zMl_isSign), (nat_lit 1, zPl_wrong, zOl_wrong, zMl_wrong), (nat_lit 2, zPl_waitsFor0, zOl_waitsFor0, zMl_waitsFor0), (nat_lit 3, zPl_token, zOl_token, zMl_token), (nat_lit 4, zPl_isKey, zOl_isKey, zMl_isKey), (nat_lit 5, zPl_isCounted, zOl_isCounted, zMl_isCounted), (nat_lit 6, zPl_waitsFor2, zOl_waitsFor2, zMl_waitsFor2), (nat_lit 7, zPl_nameMet, zOl_nameMet, zMl_nameMet), (nat_lit 8, zPl_grown, zOl_grown, zMl_grown)] pCl_leafRead qCl_leafRead) 8).1 [1, x4, 0] η4
          have hw : η 0 45 = 1 := hpp.2
          have hs : η 0 7 ≤ η 0 6 := hpp.1.1.1.1
          have bd43 : (0 : Int) ≤ η 0 43 ∧ η 0 43 ≤ 8 := wf_ok (a := 43) (b := 43) (z := (0, 8)) hp.1 (by decide +kernel) (Nat.le_refl _) (Nat.le_refl _)
          have bd44 : (0 : Int) ≤ η 0 44 ∧ η 0 44 ≤ 64 := wf_ok (a := 44) (b := 44) (z := (0, 64)) hp.1 (by decide +kernel) (Nat.le_refl _) (Nat.le_refl _)
          have bd19 : (0 : Int) ≤ η 0 19 ∧ η 0 19 ≤ 64 := wf_ok (a := 19) (b := 19) (z := (0, 64)) hp.1 (by decide +kernel) (Nat.le_refl _) (Nat.le_refl _)
          intro x1 η1 h1 c1 x2 η2 h2 c2 x3 e3 r3 c3 x4 η3 h4 c4 c5 x5 η4 h5 c6 c7 c8
          have k1 : sQ wl_l zTr zOl_isSign zMl_isSign [40] η x1 η1 ∧ pQl_isSign [40] η x1 η1 := h1
          have k2 : sQ wl_l zTr zOl_isKey zMl_isKey [12] η1 x2 η2 ∧ pQl_isKey [12] η1 x2 η2 := h2
          have k4 : sQ wl_l zTr zOl_nameMet zMl_nameMet [] η2 x4 η3 ∧ pQl_nameMet [] η2 x4 η3 := h4
          have k5 : sQ wl_l zTr zOl_isCounted zMl_isCounted [] η3 x5 η4 ∧ pQl_isCounted [] η3 x5 η4 := h5
          have c0_0_41 : η 0 41 = η 0 41 := rfl
          have w0_0_43 : (0 : Int) ≤ η 0 43 ∧ η 0 43 ≤ 8 := wf_ok (a := 43) (b := 43) (z := (0, 8)) hp.1 (by decide +kernel) (Nat.le_refl _) (Nat.le_refl _)
          have c0_0_43 : η 0 43 = η 0 43 := rfl
          have c0_0_42 : η 0 42 = η 0 42 := rfl
          have c0_0_45 : η 0 45 = η 0 45 := rfl
          have w0_0_19 : (0 : Int) ≤ η 0 19 ∧ η 0 19 ≤ 64 := wf_ok (a := 19) (b := 19) (z := (0, 64)) hp.1 (by decide +kernel) (Nat.le_refl _) (Nat.le_refl _)
          have c0_0_19 : η 0 19 = η 0 19 := rfl
          have w0_0_44 : (0 : Int) ≤ η 0 44 ∧ η 0 44 ≤ 64 := wf_ok (a := 44) (b := 44) (z := (0, 64)) hp.1 (by decide +kernel) (Nat.le_refl _) (Nat.le_refl _)
          have c0_0_44 : η 0 44 = η 0 44 := rfl
          have w0_0_7 : (0 : Int) ≤ η 0 7 ∧ η 0 7 ≤ 700 := wf_ok (a := 7) (b := 7) (z := (0, 700)) hp.1 (by decide +kernel) (Nat.le_refl _) (Nat.le_refl _)
          have c0_0_7 : η 0 7 = η 0 7 := rfl
          have w0_0_6 : (0 : Int) ≤ η 0 6 ∧ η 0 6 ≤ 700 := wf_ok (a := 6) (b := 6) (z := (0, 700)) hp.1 (by decide +kernel) (Nat.le_refl _) (Nat.le_refl _)
          have c0_0_6 : η 0 6 = η 0 6 := rfl
          have w0_0_8 : (0 : Int) ≤ η 0 8 ∧ η 0 8 ≤ 6 := wf_ok (a := 8) (b := 8) (z := (0, 6)) hp.1 (by decide +kernel) (Nat.le_refl _) (Nat.le_refl _)
          have c0_0_8 : η 0 8 = η 0 8 := rfl
          have bx1 : (0 : Int) ≤ x1 ∧ x1 ≤ 1 := k1.1.2.1
          have v9 : η1 0 41 = η 0 41 := (k1.1.2.2.2.1 0 41 (by decide +kernel)).trans rfl
          have c1_0_41 : η1 0 41 = η 0 41 := v9
          have v10 : η1 0 43 = η 0 43 := (k1.1.2.2.2.1 0 43 (by decide +kernel)).trans rfl
          have c1_0_43 : η1 0 43 = η 0 43 := v10
          have v11 : η1 0 42 = η 0 42 := (k1.1.2.2.2.1 0 42 (by decide +kernel)).trans rfl
          have c1_0_42 : η1 0 42 = η 0 42 := v11
          have v12 : η1 0 45 = η 0 45 := (k1.1.2.2.2.1 0 45 (by decide +kernel)).trans rfl
          have c1_0_45 : η1 0 45 = η 0 45 := v12
          have v13 : η1 0 19 = η 0 19 := (k1.1.2.2.2.1 0 19 (by decide +kernel)).trans rfl
          have c1_0_19 : η1 0 19 = η 0 19 := v13
          have v14 : η1 0 44 = η 0 44 := (k1.1.2.2.2.1 0 44 (by decide +kernel)).trans rfl
          have c1_0_44 : η1 0 44 = η 0 44 := v14
          have v15 : η1 0 7 = η 0 7 := (k1.1.2.2.2.1 0 7 (by decide +kernel)).trans rfl
          have c1_0_7 : η1 0 7 = η 0 7 := v15
          have v16 : η1 0 6 = η 0 6 := (k1.1.2.2.2.1 0 6 (by decide +kernel)).trans rfl
          have c1_0_6 : η1 0 6 = η 0 6 := v16
          have v17 : η1 0 8 = η 0 8 := (k1.1.2.2.2.1 0 8 (by decide +kernel)).trans rfl
          have c1_0_8 : η1 0 8 = η 0 8 := v17
          have bx2 : (0 : Int) ≤ x2 ∧ x2 ≤ 1 := k2.1.2.1
          have v19 : η1 0 46 = η 0 46 := (k1.1.2.2.2.1 0 46 (by decide +kernel)).trans rfl
          have v20 : η2 0 46 = η 0 46 := (k2.1.2.2.2.1 0 46 (by decide +kernel)).trans v19
          replace e3 : x3 = η 0 46 := e3.trans v20
          replace r3 : 0 ≤ x3 ∧ x3 ≤ 1 := r3
          have v21 : η2 0 41 = η 0 41 := (k2.1.2.2.2.1 0 41 (by decide +kernel)).trans v9
          have c2_0_41 : η2 0 41 = η 0 41 := v21
          have v22 : η2 0 43 = η 0 43 := (k2.1.2.2.2.1 0 43 (by decide +kernel)).trans v10
          have c2_0_43 : η2 0 43 = η 0 43 := v22
          have v23 : η2 0 42 = η 0 42 := (k2.1.2.2.2.1 0 42 (by decide +kernel)).trans v11
          have c2_0_42 : η2 0 42 = η 0 42 := v23
          have v24 : η2 0 45 = η 0 45 := (k2.1.2.2.2.1 0 45 (by decide +kernel)).trans v12
          have c2_0_45 : η2 0 45 = η 0 45 := v24
          have v25 : η2 0 19 = η 0 19 := (k2.1.2.2.2.1 0 19 (by decide +kernel)).trans v13
          have c2_0_19 : η2 0 19 = η 0 19 := v25
          have v26 : η2 0 44 = η 0 44 := (k2.1.2.2.2.1 0 44 (by decide +kernel)).trans v14
          have c2_0_44 : η2 0 44 = η 0 44 := v26
          have v27 : η2 0 7 = η 0 7 := (k2.1.2.2.2.1 0 7 (by decide +kernel)).trans v15
          have c2_0_7 : η2 0 7 = η 0 7 := v27
          have v28 : η2 0 6 = η 0 6 := (k2.1.2.2.2.1 0 6 (by decide +kernel)).trans v16
          have c2_0_6 : η2 0 6 = η 0 6 := v28
          have v29 : η2 0 8 = η 0 8 := (k2.1.2.2.2.1 0 8 (by decide +kernel)).trans v17
          have c2_0_8 : η2 0 8 = η 0 8 := v29
          have bx4 : ((-1) : Int) ≤ x4 ∧ x4 ≤ 6 := k4.1.2.1
          have v30 : η3 0 41 = η 0 41 := (k4.1.2.2.2.1 0 41 (by decide +kernel)).trans v21
          have c3_0_41 : η3 0 41 = η 0 41 := v30
          have v31 : η3 0 43 = η 0 43 := (k4.1.2.2.2.1 0 43 (by decide +kernel)).trans v22
          have c3_0_43 : η3 0 43 = η 0 43 := v31
          have v32 : η3 0 42 = η 0 42 := (k4.1.2.2.2.1 0 42 (by decide +kernel)).trans v23
          have c3_0_42 : η3 0 42 = η 0 42 := v32
          have v33 : η3 0 45 = η 0 45 := (k4.1.2.2.2.1 0 45 (by decide +kernel)).trans v24
          have c3_0_45 : η3 0 45 = η 0 45 := v33
          have v34 : η3 0 19 = η 0 19 := (k4.1.2.2.2.1 0 19 (by decide +kernel)).trans v25
          have c3_0_19 : η3 0 19 = η 0 19 := v34
          have v35 : η3 0 44 = η 0 44 := (k4.1.2.2.2.1 0 44 (by decide +kernel)).trans v26
          have c3_0_44 : η3 0 44 = η 0 44 := v35
          have v36 : η3 0 7 = η 0 7 := (k4.1.2.2.2.1 0 7 (by decide +kernel)).trans v27
          have c3_0_7 : η3 0 7 = η 0 7 := v36
          have v37 : η3 0 6 = η 0 6 := (k4.1.2.2.2.1 0 6 (by decide +kernel)).trans v28
          have c3_0_6 : η3 0 6 = η 0 6 := v37
          have v38 : η3 0 8 = η 0 8 := (k4.1.2.2.2.1 0 8 (by decide +kernel)).trans v29
          have c3_0_8 : η3 0 8 = η 0 8 := v38
          have bx5 : (0 : Int) ≤ x5 ∧ x5 ≤ 1 := k5.1.2.1
          have fm1 : zFm zMl_leafRead η η1 := zFm_tr2 zFm_rf k1.1.2.2.2.1 (by decide +kernel)
          have fm2 : zFm zMl_leafRead η η2 := zFm_tr2 fm1 k2.1.2.2.2.1 (by decide +kernel)
          have fm3 : zFm zMl_leafRead η η3 := zFm_tr2 fm2 k4.1.2.2.2.1 (by decide +kernel)
          have fm4 : zFm zMl_leafRead η η4 := zFm_tr2 fm3 k5.1.2.2.2.1 (by decide +kernel)
          have fmE : zFm zMl_leafRead η η4 := fm4
          have fr22_0 : ∀ j, η 22 j = η 22 j := fun _ => rfl
          have v39 : ∀ j, η1 22 j = η 22 j := fun j => k1.1.2.2.2.1 22 _ (zinr_not (by decide +kernel))
          have fr22_1 : ∀ j, η1 22 j = η 22 j := v39
          have v40 : ∀ j, η2 22 j = η 22 j := fun j => (k2.1.2.2.2.1 22 _ (zinr_not (by decide +kernel))).trans (v39 j)
          have fr22_2 : ∀ j, η2 22 j = η 22 j := v40
          have v41 : ∀ j, η3 22 j = η 22 j := fun j => (k4.1.2.2.2.1 22 _ (zinr_not (by decide +kernel))).trans (v40 j)
          have fr22_3 : ∀ j, η3 22 j = η 22 j := v41
          have v42 : ∀ j, η4 22 j = η 22 j := fun j => (k5.1.2.2.2.1 22 _ (zinr_not (by decide +kernel))).trans (v41 j)
          have fr22_4 : ∀ j, η4 22 j = η 22 j := v42
          have fr22 : ∀ j, η4 22 j = η 22 j := v42
          have v43 : η4 0 41 = η 0 41 := (k5.1.2.2.2.1 0 41 (by decide +kernel)).trans v30
          have f0_41 : η4 0 41 = η 0 41 := v43
          have v44 : η4 0 43 = η 0 43 := (k5.1.2.2.2.1 0 43 (by decide +kernel)).trans v31
          have f0_43 : η4 0 43 = η 0 43 := v44
          have v45 : η4 0 42 = η 0 42 := (k5.1.2.2.2.1 0 42 (by decide +kernel)).trans v32
          have f0_42 : η4 0 42 = η 0 42 := v45
          have v46 : η4 0 45 = η 0 45 := (k5.1.2.2.2.1 0 45 (by decide +kernel)).trans v33
          have f0_45 : η4 0 45 = η 0 45 := v46
          have v47 : η4 0 19 = η 0 19 := (k5.1.2.2.2.1 0 19 (by decide +kernel)).trans v34
          have f0_19 : η4 0 19 = η 0 19 := v47
          have w4_0_44 : (0 : Int) ≤ η4 0 44 ∧ η4 0 44 ≤ 64 := wf_ok (a := 44) (b := 44) (z := (0, 64)) k5.1.1 (by decide +kernel) (Nat.le_refl _) (Nat.le_refl _)
          have f0_44 : η4 0 44 = η4 0 44 := rfl
          have v49 : η4 0 7 = η 0 7 := (k5.1.2.2.2.1 0 7 (by decide +kernel)).trans v36
          have f0_7 : η4 0 7 = η 0 7 := v49
          have v50 : η4 0 6 = η 0 6 := (k5.1.2.2.2.1 0 6 (by decide +kernel)).trans v37
          have f0_6 : η4 0 6 = η 0 6 := v50
          have v51 : η4 0 8 = η 0 8 := (k5.1.2.2.2.1 0 8 (by decide +kernel)).trans v38
          have f0_8 : η4 0 8 = η 0 8 := v51
          have wb1 : wB wl_l zTr η1 := k1.1.1
          have wb2 : wB wl_l zTr η2 := k2.1.1
          have wb3 : wB wl_l zTr η3 := k4.1.1
          have wb4 : wB wl_l zTr η4 := k5.1.1
          have wbE : wB wl_l zTr η4 := wb4
          have I0 : H_l 0 0 0 η := hpp.1
          have I1 : H_l 0 0 0 η1 := k1.2.1
          have I2 : H_l 0 0 0 η2 := k2.2.1
          have qk2 : η1 0 8 = 1 := k2.2.2 c2
          have I3 : H_l 0 0 0 η3 := k4.2.1
          have qk4 : η2 0 8 = 1 := k4.2.2 c4
          have I4 : H_l 1 0 0 η4 := k5.2.1 c6
          obtain ⟨j1, j2, j3, j4⟩ := I4.2
          have cn := cz_n (η := η4) (η4 0 41).toNat
          exact ⟨Or.inl I4, ⟨fun _ => ⟨show 0 ≤ x4 by omega, show x4 ≤ 6 by omega⟩, fun _ w => absurd rfl w, fun _ w => absurd rfl w⟩, show 0 ≤ η4 0 42 by omega, show η4 0 42 ≤ 95 by omega⟩
        · show ∀ (x1 : Int) (η1 : zE), ((gC2 wl_l [(nat_lit 0, zPl_isSign, zOl_isSign, zMl_isSign), (nat_lit 1, zPl_wrong, zOl_wrong, zMl_wrong), (nat_lit 2, zPl_waitsFor0, zOl_waitsFor0, zMl_waitsFor0), (nat_lit 3, zPl_token, zOl_token, zMl_token), (nat_lit 4, zPl_isKey, zOl_isKey, zMl_isKey), (nat_lit 5, zPl_isCounted, zOl_isCounted, zMl_isCounted), (nat_lit 6, zPl_waitsFor2, zOl_waitsFor2, zMl_waitsFor2), (nat_lit 7, zPl_nameMet, zOl_nameMet, zMl_nameMet), (nat_lit 8, zPl_grown, zOl_grown, zMl_grown)] pCl_leafRead qCl_leafRead) 0).2 [40] η x1 η1 → (x1 = 0) → ∀ (x2 : Int) (η2 : zE), ((gC2 wl_l [(nat_lit 0, zPl_isSign, zOl_isSign, zMl_isSign), (nat_lit 1, zPl_wrong, zOl_wrong, zMl_wrong), (nat_lit 2, zPl_waitsFor0, zOl_waitsFor0, zMl_waitsFor0), (nat_lit 3, zPl_token, zOl_token, zMl_token), (nat_lit 4, zPl_isKey, zOl_isKey, zMl_isKey), (nat_lit 5, zPl_isCounted, zOl_isCounted, zMl_isCounted), (nat_lit 6, zPl_waitsFor2, zOl_waitsFor2, zMl_waitsFor2), (nat_lit 7, zPl_nameMet, zOl_nameMet, zMl_nameMet), (nat_lit 8, zPl_grown, zOl_grown, zMl_grown)] pCl_leafRead qCl_leafRead) 4).2 [12] η1 x2 η2 → (¬ x2 = 0) → ∀ x3 : Int, x3 = η2 0 (Int.toNat 46) → zok 1 x3 → (x3 = 0) → ∀ (x4 : Int) (η3 : zE), ((gC2 wl_l [(nat_lit 0, zPl_isSign, zOl_isSign, zMl_isSign), (nat_lit 1, zPl_wrong, zOl_wrong, zMl_wrong), (nat_lit 2, zPl_waitsFor0, zOl_waitsFor0, zMl_waitsFor0), (nat_lit 3, zPl_token, zOl_token, zMl_token), (nat_lit 4, zPl_isKey, zOl_isKey, zMl_isKey), (nat_lit 5, zPl_isCounted, zOl_isCounted, zMl_isCounted), (nat_lit 6, zPl_waitsFor2, zOl_waitsFor2, zMl_waitsFor2), (nat_lit 7, zPl_nameMet, zOl_nameMet, zMl_nameMet), (nat_lit 8, zPl_grown, zOl_grown, zMl_grown)] pCl_leafRead qCl_leafRead) 7).2 [] η2 x4 η3 → (0 ≤ x4) → (0 ≤ x4) → ∀ (x5 : Int) (η4 : zE), ((gC2 wl_l [(nat_lit 0, zPl_isSign, zOl_isSign, zMl_isSign), (nat_lit 1, zPl_wrong, zOl_wrong, zMl_wrong), (nat_lit 2, zPl_waitsFor0, zOl_waitsFor0, zMl_waitsFor0), (nat_lit 3, zPl_token, zOl_token, zMl_token), (nat_lit 4, zPl_isKey, zOl_isKey, zMl_isKey), (nat_lit 5, zPl_isCounted, zOl_isCounted, zMl_isCounted), (nat_lit 6, zPl_waitsFor2, zOl_waitsFor2, zMl_waitsFor2), (nat_lit 7, zPl_nameMet, zOl_nameMet, zMl_nameMet), (nat_lit 8, zPl_grown, zOl_grown, zMl_grown)] pCl_leafRead qCl_leafRead) 5).2 [] η3 x5 η4 → (¬ x5 = 0) → (0 ≤ x4) → (0 ≤ x4) → ∀ (x6 : Int) (η5 : zE), ((gC2 wl_l [(nat_lit 0, zPl_isSign, zOl_isSign, zMl_isSign), (nat_lit 1, zPl_wrong, zOl_wrong, zMl_wrong), (nat_lit 2, zPl_waitsFor0, zOl_waitsFor0, zMl_waitsFor0), (nat_lit 3, zPl_token, zOl_token, zMl_token), (nat_lit 4, zPl_isKey, zOl_isKey, zMl_isKey), (nat_lit 5, zPl_isCounted, zOl_isCounted, zMl_isCounted), (nat_lit 6, zPl_waitsFor2, zOl_waitsFor2, zMl_waitsFor2), (nat_lit 7, zPl_nameMet, zOl_nameMet, zMl_nameMet), (nat_lit 8, zPl_grown, zOl_grown, zMl_grown)] pCl_leafRead qCl_leafRead) 8).2 [1, x4, 0] η4 x6 η5 → ∀ η6 : zE, η6 = zup η5 0 (Int.toNat 45) 0 → ((gC2 wl_l [(nat_lit 0, zPl_isSign, zOl_isSign, zMl_isSign), (nat_lit 1, zPl_wrong, zOl_wrong, zMl_wrong), (nat_lit 2, zPl_waitsFor0, zOl_waitsFor0, zMl_waitsFor0), (nat_lit 3, zPl_token, zOl_token, zMl_token), (nat_lit 4, zPl_isKey, zOl_isKey, zMl_isKey), (nat_lit 5, zPl_isCounted, zOl_isCounted, zMl_isCounted), (nat_lit 6, zPl_waitsFor2, zOl_waitsFor2, zMl_waitsFor2), (nat_lit 7, zPl_nameMet, zOl_nameMet, zMl_nameMet), (nat_lit 8, zPl_grown, zOl_grown, zMl_grown)] pCl_leafRead qCl_leafRead) 3).1 [] η6
          have hw : η 0 45 = 1 := hpp.2
          have hs : η 0 7 ≤ η 0 6 := hpp.1.1.1.1
          have bd43 : (0 : Int) ≤ η 0 43 ∧ η 0 43 ≤ 8 := wf_ok (a := 43) (b := 43) (z := (0, 8)) hp.1 (by decide +kernel) (Nat.le_refl _) (Nat.le_refl _)
          have bd44 : (0 : Int) ≤ η 0 44 ∧ η 0 44 ≤ 64 := wf_ok (a := 44) (b := 44) (z := (0, 64)) hp.1 (by decide +kernel) (Nat.le_refl _) (Nat.le_refl _)
          have bd19 : (0 : Int) ≤ η 0 19 ∧ η 0 19 ≤ 64 := wf_ok (a := 19) (b := 19) (z := (0, 64)) hp.1 (by decide +kernel) (Nat.le_refl _) (Nat.le_refl _)
          intro x1 η1 h1 c1 x2 η2 h2 c2 x3 e3 r3 c3 x4 η3 h4 c4 c5 x5 η4 h5 c6 c7 c8 x6 η5 h6 η6 eη6
          have k1 : sQ wl_l zTr zOl_isSign zMl_isSign [40] η x1 η1 ∧ pQl_isSign [40] η x1 η1 := h1
          have k2 : sQ wl_l zTr zOl_isKey zMl_isKey [12] η1 x2 η2 ∧ pQl_isKey [12] η1 x2 η2 := h2
          have k4 : sQ wl_l zTr zOl_nameMet zMl_nameMet [] η2 x4 η3 ∧ pQl_nameMet [] η2 x4 η3 := h4
          have k5 : sQ wl_l zTr zOl_isCounted zMl_isCounted [] η3 x5 η4 ∧ pQl_isCounted [] η3 x5 η4 := h5
          have k6 : sQ wl_l zTr zOl_grown zMl_grown [1, x4, 0] η4 x6 η5 ∧ pQl_grown [1, x4, 0] η4 x6 η5 := h6
          have c0_0_41 : η 0 41 = η 0 41 := rfl
          have w0_0_43 : (0 : Int) ≤ η 0 43 ∧ η 0 43 ≤ 8 := wf_ok (a := 43) (b := 43) (z := (0, 8)) hp.1 (by decide +kernel) (Nat.le_refl _) (Nat.le_refl _)
          have c0_0_43 : η 0 43 = η 0 43 := rfl
          have c0_0_42 : η 0 42 = η 0 42 := rfl
          have c0_0_45 : η 0 45 = η 0 45 := rfl
          have w0_0_19 : (0 : Int) ≤ η 0 19 ∧ η 0 19 ≤ 64 := wf_ok (a := 19) (b := 19) (z := (0, 64)) hp.1 (by decide +kernel) (Nat.le_refl _) (Nat.le_refl _)
          have c0_0_19 : η 0 19 = η 0 19 := rfl
          have w0_0_44 : (0 : Int) ≤ η 0 44 ∧ η 0 44 ≤ 64 := wf_ok (a := 44) (b := 44) (z := (0, 64)) hp.1 (by decide +kernel) (Nat.le_refl _) (Nat.le_refl _)
          have c0_0_44 : η 0 44 = η 0 44 := rfl
          have w0_0_7 : (0 : Int) ≤ η 0 7 ∧ η 0 7 ≤ 700 := wf_ok (a := 7) (b := 7) (z := (0, 700)) hp.1 (by decide +kernel) (Nat.le_refl _) (Nat.le_refl _)
          have c0_0_7 : η 0 7 = η 0 7 := rfl
          have w0_0_6 : (0 : Int) ≤ η 0 6 ∧ η 0 6 ≤ 700 := wf_ok (a := 6) (b := 6) (z := (0, 700)) hp.1 (by decide +kernel) (Nat.le_refl _) (Nat.le_refl _)
          have c0_0_6 : η 0 6 = η 0 6 := rfl
          have w0_0_8 : (0 : Int) ≤ η 0 8 ∧ η 0 8 ≤ 6 := wf_ok (a := 8) (b := 8) (z := (0, 6)) hp.1 (by decide +kernel) (Nat.le_refl _) (Nat.le_refl _)
          have c0_0_8 : η 0 8 = η 0 8 := rfl
          have bx1 : (0 : Int) ≤ x1 ∧ x1 ≤ 1 := k1.1.2.1
          have v9 : η1 0 41 = η 0 41 := (k1.1.2.2.2.1 0 41 (by decide +kernel)).trans rfl
          have c1_0_41 : η1 0 41 = η 0 41 := v9
          have v10 : η1 0 43 = η 0 43 := (k1.1.2.2.2.1 0 43 (by decide +kernel)).trans rfl
          have c1_0_43 : η1 0 43 = η 0 43 := v10
          have v11 : η1 0 42 = η 0 42 := (k1.1.2.2.2.1 0 42 (by decide +kernel)).trans rfl
          have c1_0_42 : η1 0 42 = η 0 42 := v11
          have v12 : η1 0 45 = η 0 45 := (k1.1.2.2.2.1 0 45 (by decide +kernel)).trans rfl
          have c1_0_45 : η1 0 45 = η 0 45 := v12
          have v13 : η1 0 19 = η 0 19 := (k1.1.2.2.2.1 0 19 (by decide +kernel)).trans rfl
          have c1_0_19 : η1 0 19 = η 0 19 := v13
          have v14 : η1 0 44 = η 0 44 := (k1.1.2.2.2.1 0 44 (by decide +kernel)).trans rfl
          have c1_0_44 : η1 0 44 = η 0 44 := v14
          have v15 : η1 0 7 = η 0 7 := (k1.1.2.2.2.1 0 7 (by decide +kernel)).trans rfl
          have c1_0_7 : η1 0 7 = η 0 7 := v15
          have v16 : η1 0 6 = η 0 6 := (k1.1.2.2.2.1 0 6 (by decide +kernel)).trans rfl
          have c1_0_6 : η1 0 6 = η 0 6 := v16
          have v17 : η1 0 8 = η 0 8 := (k1.1.2.2.2.1 0 8 (by decide +kernel)).trans rfl
          have c1_0_8 : η1 0 8 = η 0 8 := v17
          have bx2 : (0 : Int) ≤ x2 ∧ x2 ≤ 1 := k2.1.2.1
          have v19 : η1 0 46 = η 0 46 := (k1.1.2.2.2.1 0 46 (by decide +kernel)).trans rfl
          have v20 : η2 0 46 = η 0 46 := (k2.1.2.2.2.1 0 46 (by decide +kernel)).trans v19
          replace e3 : x3 = η 0 46 := e3.trans v20
          replace r3 : 0 ≤ x3 ∧ x3 ≤ 1 := r3
          have v21 : η2 0 41 = η 0 41 := (k2.1.2.2.2.1 0 41 (by decide +kernel)).trans v9
          have c2_0_41 : η2 0 41 = η 0 41 := v21
          have v22 : η2 0 43 = η 0 43 := (k2.1.2.2.2.1 0 43 (by decide +kernel)).trans v10
          have c2_0_43 : η2 0 43 = η 0 43 := v22
          have v23 : η2 0 42 = η 0 42 := (k2.1.2.2.2.1 0 42 (by decide +kernel)).trans v11
          have c2_0_42 : η2 0 42 = η 0 42 := v23
          have v24 : η2 0 45 = η 0 45 := (k2.1.2.2.2.1 0 45 (by decide +kernel)).trans v12
          have c2_0_45 : η2 0 45 = η 0 45 := v24
          have v25 : η2 0 19 = η 0 19 := (k2.1.2.2.2.1 0 19 (by decide +kernel)).trans v13
          have c2_0_19 : η2 0 19 = η 0 19 := v25
          have v26 : η2 0 44 = η 0 44 := (k2.1.2.2.2.1 0 44 (by decide +kernel)).trans v14
          have c2_0_44 : η2 0 44 = η 0 44 := v26
          have v27 : η2 0 7 = η 0 7 := (k2.1.2.2.2.1 0 7 (by decide +kernel)).trans v15
          have c2_0_7 : η2 0 7 = η 0 7 := v27
          have v28 : η2 0 6 = η 0 6 := (k2.1.2.2.2.1 0 6 (by decide +kernel)).trans v16
          have c2_0_6 : η2 0 6 = η 0 6 := v28
          have v29 : η2 0 8 = η 0 8 := (k2.1.2.2.2.1 0 8 (by decide +kernel)).trans v17
          have c2_0_8 : η2 0 8 = η 0 8 := v29
          have bx4 : ((-1) : Int) ≤ x4 ∧ x4 ≤ 6 := k4.1.2.1
          have v30 : η3 0 41 = η 0 41 := (k4.1.2.2.2.1 0 41 (by decide +kernel)).trans v21
          have c3_0_41 : η3 0 41 = η 0 41 := v30
          have v31 : η3 0 43 = η 0 43 := (k4.1.2.2.2.1 0 43 (by decide +kernel)).trans v22
          have c3_0_43 : η3 0 43 = η 0 43 := v31
          have v32 : η3 0 42 = η 0 42 := (k4.1.2.2.2.1 0 42 (by decide +kernel)).trans v23
          have c3_0_42 : η3 0 42 = η 0 42 := v32
          have v33 : η3 0 45 = η 0 45 := (k4.1.2.2.2.1 0 45 (by decide +kernel)).trans v24
          have c3_0_45 : η3 0 45 = η 0 45 := v33
          have v34 : η3 0 19 = η 0 19 := (k4.1.2.2.2.1 0 19 (by decide +kernel)).trans v25
          have c3_0_19 : η3 0 19 = η 0 19 := v34
          have v35 : η3 0 44 = η 0 44 := (k4.1.2.2.2.1 0 44 (by decide +kernel)).trans v26
          have c3_0_44 : η3 0 44 = η 0 44 := v35
          have v36 : η3 0 7 = η 0 7 := (k4.1.2.2.2.1 0 7 (by decide +kernel)).trans v27
          have c3_0_7 : η3 0 7 = η 0 7 := v36
          have v37 : η3 0 6 = η 0 6 := (k4.1.2.2.2.1 0 6 (by decide +kernel)).trans v28
          have c3_0_6 : η3 0 6 = η 0 6 := v37
          have v38 : η3 0 8 = η 0 8 := (k4.1.2.2.2.1 0 8 (by decide +kernel)).trans v29
          have c3_0_8 : η3 0 8 = η 0 8 := v38
          have bx5 : (0 : Int) ≤ x5 ∧ x5 ≤ 1 := k5.1.2.1
          have v39 : η4 0 41 = η 0 41 := (k5.1.2.2.2.1 0 41 (by decide +kernel)).trans v30
          have c4_0_41 : η4 0 41 = η 0 41 := v39
          have v40 : η4 0 43 = η 0 43 := (k5.1.2.2.2.1 0 43 (by decide +kernel)).trans v31
          have c4_0_43 : η4 0 43 = η 0 43 := v40
          have v41 : η4 0 42 = η 0 42 := (k5.1.2.2.2.1 0 42 (by decide +kernel)).trans v32
          have c4_0_42 : η4 0 42 = η 0 42 := v41
          have v42 : η4 0 45 = η 0 45 := (k5.1.2.2.2.1 0 45 (by decide +kernel)).trans v33
          have c4_0_45 : η4 0 45 = η 0 45 := v42
          have v43 : η4 0 19 = η 0 19 := (k5.1.2.2.2.1 0 19 (by decide +kernel)).trans v34
          have c4_0_19 : η4 0 19 = η 0 19 := v43
          have w4_0_44 : (0 : Int) ≤ η4 0 44 ∧ η4 0 44 ≤ 64 := wf_ok (a := 44) (b := 44) (z := (0, 64)) k5.1.1 (by decide +kernel) (Nat.le_refl _) (Nat.le_refl _)
          have c4_0_44 : η4 0 44 = η4 0 44 := rfl
          have v45 : η4 0 7 = η 0 7 := (k5.1.2.2.2.1 0 7 (by decide +kernel)).trans v36
          have c4_0_7 : η4 0 7 = η 0 7 := v45
          have v46 : η4 0 6 = η 0 6 := (k5.1.2.2.2.1 0 6 (by decide +kernel)).trans v37
          have c4_0_6 : η4 0 6 = η 0 6 := v46
          have v47 : η4 0 8 = η 0 8 := (k5.1.2.2.2.1 0 8 (by decide +kernel)).trans v38
          have c4_0_8 : η4 0 8 = η 0 8 := v47
          have bx6 : (0 : Int) ≤ x6 ∧ x6 ≤ 0 := k6.1.2.1
          have fm1 : zFm zMl_leafRead η η1 := zFm_tr2 zFm_rf k1.1.2.2.2.1 (by decide +kernel)
          have fm2 : zFm zMl_leafRead η η2 := zFm_tr2 fm1 k2.1.2.2.2.1 (by decide +kernel)
          have fm3 : zFm zMl_leafRead η η3 := zFm_tr2 fm2 k4.1.2.2.2.1 (by decide +kernel)
          have fm4 : zFm zMl_leafRead η η4 := zFm_tr2 fm3 k5.1.2.2.2.1 (by decide +kernel)
          have fm5 : zFm zMl_leafRead η η5 := zFm_tr2 fm4 k6.1.2.2.2.1 (by decide +kernel)
          have fm6 : zFm zMl_leafRead η η6 := by rw [eη6]; exact zFm_up fm5 rfl
          have fmE : zFm zMl_leafRead η η6 := fm6
          have fr22_0 : ∀ j, η 22 j = η 22 j := fun _ => rfl
          have v48 : ∀ j, η1 22 j = η 22 j := fun j => k1.1.2.2.2.1 22 _ (zinr_not (by decide +kernel))
          have fr22_1 : ∀ j, η1 22 j = η 22 j := v48
          have v49 : ∀ j, η2 22 j = η 22 j := fun j => (k2.1.2.2.2.1 22 _ (zinr_not (by decide +kernel))).trans (v48 j)
          have fr22_2 : ∀ j, η2 22 j = η 22 j := v49
          have v50 : ∀ j, η3 22 j = η 22 j := fun j => (k4.1.2.2.2.1 22 _ (zinr_not (by decide +kernel))).trans (v49 j)
          have fr22_3 : ∀ j, η3 22 j = η 22 j := v50
          have v51 : ∀ j, η4 22 j = η 22 j := fun j => (k5.1.2.2.2.1 22 _ (zinr_not (by decide +kernel))).trans (v50 j)
          have fr22_4 : ∀ j, η4 22 j = η 22 j := v51
          have v52 : ∀ j, η5 22 j = η 22 j := fun j => (k6.1.2.2.2.1 22 _ (zinr_not (by decide +kernel))).trans (v51 j)
          have fr22_5 : ∀ j, η5 22 j = η 22 j := v52
          have v53 : ∀ j, η6 22 j = η 22 j := fun j => by rw [eη6]; exact (zup_ne (fun e _ => absurd e (by decide))).trans (v52 j)
          have fr22_6 : ∀ j, η6 22 j = η 22 j := v53
          have fr22 : ∀ j, η6 22 j = η 22 j := v53
          have v54 : η5 0 41 = η 0 41 := (k6.1.2.2.2.1 0 41 (by decide +kernel)).trans v39
          have v55 : η6 0 41 = η 0 41 := by rw [eη6]; exact (zup_ne (fun _ e => absurd e (by decide))).trans v54
          have f0_41 : η6 0 41 = η 0 41 := v55
          have v56 : η5 0 43 = η 0 43 := (k6.1.2.2.2.1 0 43 (by decide +kernel)).trans v40
          have v57 : η6 0 43 = η 0 43 := by rw [eη6]; exact (zup_ne (fun _ e => absurd e (by decide))).trans v56
          have f0_43 : η6 0 43 = η 0 43 := v57
          have v59 : η6 0 42 = η5 0 42 := by rw [eη6]; exact (zup_ne (fun _ e => absurd e (by decide))).trans rfl
          have f0_42 : η6 0 42 = η5 0 42 := v59
          have v60 : η6 0 45 = 0 := by rw [eη6]; exact zup_eq
          have f0_45 : η6 0 45 = 0 := v60
          have w5_0_19 : (0 : Int) ≤ η5 0 19 ∧ η5 0 19 ≤ 64 := wf_ok (a := 19) (b := 19) (z := (0, 64)) k6.1.1 (by decide +kernel) (Nat.le_refl _) (Nat.le_refl _)
          have v62 : η6 0 19 = η5 0 19 := by rw [eη6]; exact (zup_ne (fun _ e => absurd e (by decide))).trans rfl
          have f0_19 : η6 0 19 = η5 0 19 := v62
          have v63 : η5 0 44 = η4 0 44 := (k6.1.2.2.2.1 0 44 (by decide +kernel)).trans rfl
          have v64 : η6 0 44 = η4 0 44 := by rw [eη6]; exact (zup_ne (fun _ e => absurd e (by decide))).trans v63
          have f0_44 : η6 0 44 = η4 0 44 := v64
          have v65 : η5 0 7 = η 0 7 := (k6.1.2.2.2.1 0 7 (by decide +kernel)).trans v45
          have v66 : η6 0 7 = η 0 7 := by rw [eη6]; exact (zup_ne (fun _ e => absurd e (by decide))).trans v65
          have f0_7 : η6 0 7 = η 0 7 := v66
          have v67 : η5 0 6 = η 0 6 := (k6.1.2.2.2.1 0 6 (by decide +kernel)).trans v46
          have v68 : η6 0 6 = η 0 6 := by rw [eη6]; exact (zup_ne (fun _ e => absurd e (by decide))).trans v67
          have f0_6 : η6 0 6 = η 0 6 := v68
          have v69 : η5 0 8 = η 0 8 := (k6.1.2.2.2.1 0 8 (by decide +kernel)).trans v47
          have v70 : η6 0 8 = η 0 8 := by rw [eη6]; exact (zup_ne (fun _ e => absurd e (by decide))).trans v69
          have f0_8 : η6 0 8 = η 0 8 := v70
          have wb1 : wB wl_l zTr η1 := k1.1.1
          have wb2 : wB wl_l zTr η2 := k2.1.1
          have wb3 : wB wl_l zTr η3 := k4.1.1
          have wb4 : wB wl_l zTr η4 := k5.1.1
          have wb5 : wB wl_l zTr η5 := k6.1.1
          have wb6 : wB wl_l zTr η6 := by rw [eη6]; exact wk_ok (a := 45) (b := 45) (z := ((-2147483648), 2147483647)) zTr_k (GR := []) wb5 (by decide +kernel) (by decide) (by decide) (show ((-2147483648) : Int) ≤ 0 by omega) (show 0 ≤ (2147483647 : Int) by omega)
          have wbE : wB wl_l zTr η6 := wb6
          have I0 : H_l 0 0 0 η := hpp.1
          have I1 : H_l 0 0 0 η1 := k1.2.1
          have I2 : H_l 0 0 0 η2 := k2.2.1
          have qk2 : η1 0 8 = 1 := k2.2.2 c2
          have I3 : H_l 0 0 0 η3 := k4.2.1
          have qk4 : η2 0 8 = 1 := k4.2.2 c4
          have I4 : H_l 1 0 0 η4 := k5.2.1 c6
          have I5 : H_l 0 0 1 η5 := k6.2.1 I4
          have qg6 : η5 0 19 = η4 0 19 + 1 := k6.2.2.2
          have I6 : H_l 0 0 0 η6 := by rw [eη6]; exact h_eq (wn_up I5) rfl rfl (by omega)
          exact I6
        · show ∀ (x1 : Int) (η1 : zE), ((gC2 wl_l [(nat_lit 0, zPl_isSign, zOl_isSign, zMl_isSign), (nat_lit 1, zPl_wrong, zOl_wrong, zMl_wrong), (nat_lit 2, zPl_waitsFor0, zOl_waitsFor0, zMl_waitsFor0), (nat_lit 3, zPl_token, zOl_token, zMl_token), (nat_lit 4, zPl_isKey, zOl_isKey, zMl_isKey), (nat_lit 5, zPl_isCounted, zOl_isCounted, zMl_isCounted), (nat_lit 6, zPl_waitsFor2, zOl_waitsFor2, zMl_waitsFor2), (nat_lit 7, zPl_nameMet, zOl_nameMet, zMl_nameMet), (nat_lit 8, zPl_grown, zOl_grown, zMl_grown)] pCl_leafRead qCl_leafRead) 0).2 [40] η x1 η1 → (x1 = 0) → ∀ (x2 : Int) (η2 : zE), ((gC2 wl_l [(nat_lit 0, zPl_isSign, zOl_isSign, zMl_isSign), (nat_lit 1, zPl_wrong, zOl_wrong, zMl_wrong), (nat_lit 2, zPl_waitsFor0, zOl_waitsFor0, zMl_waitsFor0), (nat_lit 3, zPl_token, zOl_token, zMl_token), (nat_lit 4, zPl_isKey, zOl_isKey, zMl_isKey), (nat_lit 5, zPl_isCounted, zOl_isCounted, zMl_isCounted), (nat_lit 6, zPl_waitsFor2, zOl_waitsFor2, zMl_waitsFor2), (nat_lit 7, zPl_nameMet, zOl_nameMet, zMl_nameMet), (nat_lit 8, zPl_grown, zOl_grown, zMl_grown)] pCl_leafRead qCl_leafRead) 4).2 [12] η1 x2 η2 → (¬ x2 = 0) → ∀ x3 : Int, x3 = η2 0 (Int.toNat 46) → zok 1 x3 → (x3 = 0) → ∀ (x4 : Int) (η3 : zE), ((gC2 wl_l [(nat_lit 0, zPl_isSign, zOl_isSign, zMl_isSign), (nat_lit 1, zPl_wrong, zOl_wrong, zMl_wrong), (nat_lit 2, zPl_waitsFor0, zOl_waitsFor0, zMl_waitsFor0), (nat_lit 3, zPl_token, zOl_token, zMl_token), (nat_lit 4, zPl_isKey, zOl_isKey, zMl_isKey), (nat_lit 5, zPl_isCounted, zOl_isCounted, zMl_isCounted), (nat_lit 6, zPl_waitsFor2, zOl_waitsFor2, zMl_waitsFor2), (nat_lit 7, zPl_nameMet, zOl_nameMet, zMl_nameMet), (nat_lit 8, zPl_grown, zOl_grown, zMl_grown)] pCl_leafRead qCl_leafRead) 7).2 [] η2 x4 η3 → (0 ≤ x4) → (0 ≤ x4) → ∀ (x5 : Int) (η4 : zE), ((gC2 wl_l [(nat_lit 0, zPl_isSign, zOl_isSign, zMl_isSign), (nat_lit 1, zPl_wrong, zOl_wrong, zMl_wrong), (nat_lit 2, zPl_waitsFor0, zOl_waitsFor0, zMl_waitsFor0), (nat_lit 3, zPl_token, zOl_token, zMl_token), (nat_lit 4, zPl_isKey, zOl_isKey, zMl_isKey), (nat_lit 5, zPl_isCounted, zOl_isCounted, zMl_isCounted), (nat_lit 6, zPl_waitsFor2, zOl_waitsFor2, zMl_waitsFor2), (nat_lit 7, zPl_nameMet, zOl_nameMet, zMl_nameMet), (nat_lit 8, zPl_grown, zOl_grown, zMl_grown)] pCl_leafRead qCl_leafRead) 5).2 [] η3 x5 η4 → (¬ x5 = 0) → (0 ≤ x4) → (0 ≤ x4) → ∀ (x6 : Int) (η5 : zE), ((gC2 wl_l [(nat_lit 0, zPl_isSign, zOl_isSign, zMl_isSign), (nat_lit 1, zPl_wrong, zOl_wrong, zMl_wrong), (nat_lit 2, zPl_waitsFor0, zOl_waitsFor0, zMl_waitsFor0), (nat_lit 3, zPl_token, zOl_token, zMl_token), (nat_lit 4, zPl_isKey, zOl_isKey, zMl_isKey), (nat_lit 5, zPl_isCounted, zOl_isCounted, zMl_isCounted), (nat_lit 6, zPl_waitsFor2, zOl_waitsFor2, zMl_waitsFor2), (nat_lit 7, zPl_nameMet, zOl_nameMet, zMl_nameMet), (nat_lit 8, zPl_grown, zOl_grown, zMl_grown)] pCl_leafRead qCl_leafRead) 8).2 [1, x4, 0] η4 x6 η5 → ∀ η6 : zE, η6 = zup η5 0 (Int.toNat 45) 0 → ∀ (x7 : Int) (η7 : zE), ((gC2 wl_l [(nat_lit 0, zPl_isSign, zOl_isSign, zMl_isSign), (nat_lit 1, zPl_wrong, zOl_wrong, zMl_wrong), (nat_lit 2, zPl_waitsFor0, zOl_waitsFor0, zMl_waitsFor0), (nat_lit 3, zPl_token, zOl_token, zMl_token), (nat_lit 4, zPl_isKey, zOl_isKey, zMl_isKey), (nat_lit 5, zPl_isCounted, zOl_isCounted, zMl_isCounted), (nat_lit 6, zPl_waitsFor2, zOl_waitsFor2, zMl_waitsFor2), (nat_lit 7, zPl_nameMet, zOl_nameMet, zMl_nameMet), (nat_lit 8, zPl_grown, zOl_grown, zMl_grown)] pCl_leafRead qCl_leafRead) 3).2 [] η6 x7 η7 → (fun (_ : Nat) (y : Int) (η' : zE) => pQl_leafRead [] η y η') 0 1 η7
          have hw : η 0 45 = 1 := hpp.2
          have hs : η 0 7 ≤ η 0 6 := hpp.1.1.1.1
          have bd43 : (0 : Int) ≤ η 0 43 ∧ η 0 43 ≤ 8 := wf_ok (a := 43) (b := 43) (z := (0, 8)) hp.1 (by decide +kernel) (Nat.le_refl _) (Nat.le_refl _)
          have bd44 : (0 : Int) ≤ η 0 44 ∧ η 0 44 ≤ 64 := wf_ok (a := 44) (b := 44) (z := (0, 64)) hp.1 (by decide +kernel) (Nat.le_refl _) (Nat.le_refl _)
          have bd19 : (0 : Int) ≤ η 0 19 ∧ η 0 19 ≤ 64 := wf_ok (a := 19) (b := 19) (z := (0, 64)) hp.1 (by decide +kernel) (Nat.le_refl _) (Nat.le_refl _)
          intro x1 η1 h1 c1 x2 η2 h2 c2 x3 e3 r3 c3 x4 η3 h4 c4 c5 x5 η4 h5 c6 c7 c8 x6 η5 h6 η6 eη6 x7 η7 h7
          have k1 : sQ wl_l zTr zOl_isSign zMl_isSign [40] η x1 η1 ∧ pQl_isSign [40] η x1 η1 := h1
          have k2 : sQ wl_l zTr zOl_isKey zMl_isKey [12] η1 x2 η2 ∧ pQl_isKey [12] η1 x2 η2 := h2
          have k4 : sQ wl_l zTr zOl_nameMet zMl_nameMet [] η2 x4 η3 ∧ pQl_nameMet [] η2 x4 η3 := h4
          have k5 : sQ wl_l zTr zOl_isCounted zMl_isCounted [] η3 x5 η4 ∧ pQl_isCounted [] η3 x5 η4 := h5
          have k6 : sQ wl_l zTr zOl_grown zMl_grown [1, x4, 0] η4 x6 η5 ∧ pQl_grown [1, x4, 0] η4 x6 η5 := h6
          have k7 : sQ wl_l zTr zOl_token zMl_token [] η6 x7 η7 ∧ pQl_token [] η6 x7 η7 := h7
          have c0_0_41 : η 0 41 = η 0 41 := rfl
          have w0_0_43 : (0 : Int) ≤ η 0 43 ∧ η 0 43 ≤ 8 := wf_ok (a := 43) (b := 43) (z := (0, 8)) hp.1 (by decide +kernel) (Nat.le_refl _) (Nat.le_refl _)
          have c0_0_43 : η 0 43 = η 0 43 := rfl
          have c0_0_42 : η 0 42 = η 0 42 := rfl
          have c0_0_45 : η 0 45 = η 0 45 := rfl
          have w0_0_19 : (0 : Int) ≤ η 0 19 ∧ η 0 19 ≤ 64 := wf_ok (a := 19) (b := 19) (z := (0, 64)) hp.1 (by decide +kernel) (Nat.le_refl _) (Nat.le_refl _)
          have c0_0_19 : η 0 19 = η 0 19 := rfl
          have w0_0_44 : (0 : Int) ≤ η 0 44 ∧ η 0 44 ≤ 64 := wf_ok (a := 44) (b := 44) (z := (0, 64)) hp.1 (by decide +kernel) (Nat.le_refl _) (Nat.le_refl _)
          have c0_0_44 : η 0 44 = η 0 44 := rfl
          have w0_0_7 : (0 : Int) ≤ η 0 7 ∧ η 0 7 ≤ 700 := wf_ok (a := 7) (b := 7) (z := (0, 700)) hp.1 (by decide +kernel) (Nat.le_refl _) (Nat.le_refl _)
          have c0_0_7 : η 0 7 = η 0 7 := rfl
          have w0_0_6 : (0 : Int) ≤ η 0 6 ∧ η 0 6 ≤ 700 := wf_ok (a := 6) (b := 6) (z := (0, 700)) hp.1 (by decide +kernel) (Nat.le_refl _) (Nat.le_refl _)
          have c0_0_6 : η 0 6 = η 0 6 := rfl
          have w0_0_8 : (0 : Int) ≤ η 0 8 ∧ η 0 8 ≤ 6 := wf_ok (a := 8) (b := 8) (z := (0, 6)) hp.1 (by decide +kernel) (Nat.le_refl _) (Nat.le_refl _)
          have c0_0_8 : η 0 8 = η 0 8 := rfl
          have bx1 : (0 : Int) ≤ x1 ∧ x1 ≤ 1 := k1.1.2.1
          have v9 : η1 0 41 = η 0 41 := (k1.1.2.2.2.1 0 41 (by decide +kernel)).trans rfl
          have c1_0_41 : η1 0 41 = η 0 41 := v9
          have v10 : η1 0 43 = η 0 43 := (k1.1.2.2.2.1 0 43 (by decide +kernel)).trans rfl
          have c1_0_43 : η1 0 43 = η 0 43 := v10
          have v11 : η1 0 42 = η 0 42 := (k1.1.2.2.2.1 0 42 (by decide +kernel)).trans rfl
          have c1_0_42 : η1 0 42 = η 0 42 := v11
          have v12 : η1 0 45 = η 0 45 := (k1.1.2.2.2.1 0 45 (by decide +kernel)).trans rfl
          have c1_0_45 : η1 0 45 = η 0 45 := v12
          have v13 : η1 0 19 = η 0 19 := (k1.1.2.2.2.1 0 19 (by decide +kernel)).trans rfl
          have c1_0_19 : η1 0 19 = η 0 19 := v13
          have v14 : η1 0 44 = η 0 44 := (k1.1.2.2.2.1 0 44 (by decide +kernel)).trans rfl
          have c1_0_44 : η1 0 44 = η 0 44 := v14
          have v15 : η1 0 7 = η 0 7 := (k1.1.2.2.2.1 0 7 (by decide +kernel)).trans rfl
          have c1_0_7 : η1 0 7 = η 0 7 := v15
          have v16 : η1 0 6 = η 0 6 := (k1.1.2.2.2.1 0 6 (by decide +kernel)).trans rfl
          have c1_0_6 : η1 0 6 = η 0 6 := v16
          have v17 : η1 0 8 = η 0 8 := (k1.1.2.2.2.1 0 8 (by decide +kernel)).trans rfl
          have c1_0_8 : η1 0 8 = η 0 8 := v17
          have bx2 : (0 : Int) ≤ x2 ∧ x2 ≤ 1 := k2.1.2.1
          have v19 : η1 0 46 = η 0 46 := (k1.1.2.2.2.1 0 46 (by decide +kernel)).trans rfl
          have v20 : η2 0 46 = η 0 46 := (k2.1.2.2.2.1 0 46 (by decide +kernel)).trans v19
          replace e3 : x3 = η 0 46 := e3.trans v20
          replace r3 : 0 ≤ x3 ∧ x3 ≤ 1 := r3
          have v21 : η2 0 41 = η 0 41 := (k2.1.2.2.2.1 0 41 (by decide +kernel)).trans v9
          have c2_0_41 : η2 0 41 = η 0 41 := v21
          have v22 : η2 0 43 = η 0 43 := (k2.1.2.2.2.1 0 43 (by decide +kernel)).trans v10
          have c2_0_43 : η2 0 43 = η 0 43 := v22
          have v23 : η2 0 42 = η 0 42 := (k2.1.2.2.2.1 0 42 (by decide +kernel)).trans v11
          have c2_0_42 : η2 0 42 = η 0 42 := v23
          have v24 : η2 0 45 = η 0 45 := (k2.1.2.2.2.1 0 45 (by decide +kernel)).trans v12
          have c2_0_45 : η2 0 45 = η 0 45 := v24
          have v25 : η2 0 19 = η 0 19 := (k2.1.2.2.2.1 0 19 (by decide +kernel)).trans v13
          have c2_0_19 : η2 0 19 = η 0 19 := v25
          have v26 : η2 0 44 = η 0 44 := (k2.1.2.2.2.1 0 44 (by decide +kernel)).trans v14
          have c2_0_44 : η2 0 44 = η 0 44 := v26
          have v27 : η2 0 7 = η 0 7 := (k2.1.2.2.2.1 0 7 (by decide +kernel)).trans v15
          have c2_0_7 : η2 0 7 = η 0 7 := v27
          have v28 : η2 0 6 = η 0 6 := (k2.1.2.2.2.1 0 6 (by decide +kernel)).trans v16
          have c2_0_6 : η2 0 6 = η 0 6 := v28
          have v29 : η2 0 8 = η 0 8 := (k2.1.2.2.2.1 0 8 (by decide +kernel)).trans v17
          have c2_0_8 : η2 0 8 = η 0 8 := v29
          have bx4 : ((-1) : Int) ≤ x4 ∧ x4 ≤ 6 := k4.1.2.1
          have v30 : η3 0 41 = η 0 41 := (k4.1.2.2.2.1 0 41 (by decide +kernel)).trans v21
          have c3_0_41 : η3 0 41 = η 0 41 := v30
          have v31 : η3 0 43 = η 0 43 := (k4.1.2.2.2.1 0 43 (by decide +kernel)).trans v22
          have c3_0_43 : η3 0 43 = η 0 43 := v31
          have v32 : η3 0 42 = η 0 42 := (k4.1.2.2.2.1 0 42 (by decide +kernel)).trans v23
          have c3_0_42 : η3 0 42 = η 0 42 := v32
          have v33 : η3 0 45 = η 0 45 := (k4.1.2.2.2.1 0 45 (by decide +kernel)).trans v24
          have c3_0_45 : η3 0 45 = η 0 45 := v33
          have v34 : η3 0 19 = η 0 19 := (k4.1.2.2.2.1 0 19 (by decide +kernel)).trans v25
          have c3_0_19 : η3 0 19 = η 0 19 := v34
          have v35 : η3 0 44 = η 0 44 := (k4.1.2.2.2.1 0 44 (by decide +kernel)).trans v26
          have c3_0_44 : η3 0 44 = η 0 44 := v35
          have v36 : η3 0 7 = η 0 7 := (k4.1.2.2.2.1 0 7 (by decide +kernel)).trans v27
          have c3_0_7 : η3 0 7 = η 0 7 := v36
          have v37 : η3 0 6 = η 0 6 := (k4.1.2.2.2.1 0 6 (by decide +kernel)).trans v28
          have c3_0_6 : η3 0 6 = η 0 6 := v37
          have v38 : η3 0 8 = η 0 8 := (k4.1.2.2.2.1 0 8 (by decide +kernel)).trans v29
          have c3_0_8 : η3 0 8 = η 0 8 := v38
          have bx5 : (0 : Int) ≤ x5 ∧ x5 ≤ 1 := k5.1.2.1
          have v39 : η4 0 41 = η 0 41 := (k5.1.2.2.2.1 0 41 (by decide +kernel)).trans v30
          have c4_0_41 : η4 0 41 = η 0 41 := v39
          have v40 : η4 0 43 = η 0 43 := (k5.1.2.2.2.1 0 43 (by decide +kernel)).trans v31
          have c4_0_43 : η4 0 43 = η 0 43 := v40
          have v41 : η4 0 42 = η 0 42 := (k5.1.2.2.2.1 0 42 (by decide +kernel)).trans v32
          have c4_0_42 : η4 0 42 = η 0 42 := v41
          have v42 : η4 0 45 = η 0 45 := (k5.1.2.2.2.1 0 45 (by decide +kernel)).trans v33
          have c4_0_45 : η4 0 45 = η 0 45 := v42
          have v43 : η4 0 19 = η 0 19 := (k5.1.2.2.2.1 0 19 (by decide +kernel)).trans v34
          have c4_0_19 : η4 0 19 = η 0 19 := v43
          have w4_0_44 : (0 : Int) ≤ η4 0 44 ∧ η4 0 44 ≤ 64 := wf_ok (a := 44) (b := 44) (z := (0, 64)) k5.1.1 (by decide +kernel) (Nat.le_refl _) (Nat.le_refl _)
          have c4_0_44 : η4 0 44 = η4 0 44 := rfl
          have v45 : η4 0 7 = η 0 7 := (k5.1.2.2.2.1 0 7 (by decide +kernel)).trans v36
          have c4_0_7 : η4 0 7 = η 0 7 := v45
          have v46 : η4 0 6 = η 0 6 := (k5.1.2.2.2.1 0 6 (by decide +kernel)).trans v37
          have c4_0_6 : η4 0 6 = η 0 6 := v46
          have v47 : η4 0 8 = η 0 8 := (k5.1.2.2.2.1 0 8 (by decide +kernel)).trans v38
          have c4_0_8 : η4 0 8 = η 0 8 := v47
          have bx6 : (0 : Int) ≤ x6 ∧ x6 ≤ 0 := k6.1.2.1
          have v48 : η5 0 41 = η 0 41 := (k6.1.2.2.2.1 0 41 (by decide +kernel)).trans v39
          have v49 : η6 0 41 = η 0 41 := by rw [eη6]; exact (zup_ne (fun _ e => absurd e (by decide))).trans v48
          have c6_0_41 : η6 0 41 = η 0 41 := v49
          have v50 : η5 0 43 = η 0 43 := (k6.1.2.2.2.1 0 43 (by decide +kernel)).trans v40
          have v51 : η6 0 43 = η 0 43 := by rw [eη6]; exact (zup_ne (fun _ e => absurd e (by decide))).trans v50
          have c6_0_43 : η6 0 43 = η 0 43 := v51
          have v53 : η6 0 42 = η5 0 42 := by rw [eη6]; exact (zup_ne (fun _ e => absurd e (by decide))).trans rfl
          have c6_0_42 : η6 0 42 = η5 0 42 := v53
          have v54 : η6 0 45 = 0 := by rw [eη6]; exact zup_eq
          have c6_0_45 : η6 0 45 = 0 := v54
          have w5_0_19 : (0 : Int) ≤ η5 0 19 ∧ η5 0 19 ≤ 64 := wf_ok (a := 19) (b := 19) (z := (0, 64)) k6.1.1 (by decide +kernel) (Nat.le_refl _) (Nat.le_refl _)
          have v56 : η6 0 19 = η5 0 19 := by rw [eη6]; exact (zup_ne (fun _ e => absurd e (by decide))).trans rfl
          have c6_0_19 : η6 0 19 = η5 0 19 := v56
          have v57 : η5 0 44 = η4 0 44 := (k6.1.2.2.2.1 0 44 (by decide +kernel)).trans rfl
          have v58 : η6 0 44 = η4 0 44 := by rw [eη6]; exact (zup_ne (fun _ e => absurd e (by decide))).trans v57
          have c6_0_44 : η6 0 44 = η4 0 44 := v58
          have v59 : η5 0 7 = η 0 7 := (k6.1.2.2.2.1 0 7 (by decide +kernel)).trans v45
          have v60 : η6 0 7 = η 0 7 := by rw [eη6]; exact (zup_ne (fun _ e => absurd e (by decide))).trans v59
          have c6_0_7 : η6 0 7 = η 0 7 := v60
          have v61 : η5 0 6 = η 0 6 := (k6.1.2.2.2.1 0 6 (by decide +kernel)).trans v46
          have v62 : η6 0 6 = η 0 6 := by rw [eη6]; exact (zup_ne (fun _ e => absurd e (by decide))).trans v61
          have c6_0_6 : η6 0 6 = η 0 6 := v62
          have v63 : η5 0 8 = η 0 8 := (k6.1.2.2.2.1 0 8 (by decide +kernel)).trans v47
          have v64 : η6 0 8 = η 0 8 := by rw [eη6]; exact (zup_ne (fun _ e => absurd e (by decide))).trans v63
          have c6_0_8 : η6 0 8 = η 0 8 := v64
          have bx7 : (0 : Int) ≤ x7 ∧ x7 ≤ 0 := k7.1.2.1
          have fm1 : zFm zMl_leafRead η η1 := zFm_tr2 zFm_rf k1.1.2.2.2.1 (by decide +kernel)
          have fm2 : zFm zMl_leafRead η η2 := zFm_tr2 fm1 k2.1.2.2.2.1 (by decide +kernel)
          have fm3 : zFm zMl_leafRead η η3 := zFm_tr2 fm2 k4.1.2.2.2.1 (by decide +kernel)
          have fm4 : zFm zMl_leafRead η η4 := zFm_tr2 fm3 k5.1.2.2.2.1 (by decide +kernel)
          have fm5 : zFm zMl_leafRead η η5 := zFm_tr2 fm4 k6.1.2.2.2.1 (by decide +kernel)
          have fm6 : zFm zMl_leafRead η η6 := by rw [eη6]; exact zFm_up fm5 rfl
          have fm7 : zFm zMl_leafRead η η7 := zFm_tr2 fm6 k7.1.2.2.2.1 (by decide +kernel)
          have fmE : zFm zMl_leafRead η η7 := fm7
          have fr22_0 : ∀ j, η 22 j = η 22 j := fun _ => rfl
          have v65 : ∀ j, η1 22 j = η 22 j := fun j => k1.1.2.2.2.1 22 _ (zinr_not (by decide +kernel))
          have fr22_1 : ∀ j, η1 22 j = η 22 j := v65
          have v66 : ∀ j, η2 22 j = η 22 j := fun j => (k2.1.2.2.2.1 22 _ (zinr_not (by decide +kernel))).trans (v65 j)
          have fr22_2 : ∀ j, η2 22 j = η 22 j := v66
          have v67 : ∀ j, η3 22 j = η 22 j := fun j => (k4.1.2.2.2.1 22 _ (zinr_not (by decide +kernel))).trans (v66 j)
          have fr22_3 : ∀ j, η3 22 j = η 22 j := v67
          have v68 : ∀ j, η4 22 j = η 22 j := fun j => (k5.1.2.2.2.1 22 _ (zinr_not (by decide +kernel))).trans (v67 j)
          have fr22_4 : ∀ j, η4 22 j = η 22 j := v68
          have v69 : ∀ j, η5 22 j = η 22 j := fun j => (k6.1.2.2.2.1 22 _ (zinr_not (by decide +kernel))).trans (v68 j)
          have fr22_5 : ∀ j, η5 22 j = η 22 j := v69
          have v70 : ∀ j, η6 22 j = η 22 j := fun j => by rw [eη6]; exact (zup_ne (fun e _ => absurd e (by decide))).trans (v69 j)
          have fr22_6 : ∀ j, η6 22 j = η 22 j := v70
          have v71 : ∀ j, η7 22 j = η 22 j := fun j => (k7.1.2.2.2.1 22 _ (zinr_not (by decide +kernel))).trans (v70 j)
          have fr22_7 : ∀ j, η7 22 j = η 22 j := v71
          have fr22 : ∀ j, η7 22 j = η 22 j := v71
          have v72 : η7 0 41 = η 0 41 := (k7.1.2.2.2.1 0 41 (by decide +kernel)).trans v49
          have f0_41 : η7 0 41 = η 0 41 := v72
          have v73 : η7 0 43 = η 0 43 := (k7.1.2.2.2.1 0 43 (by decide +kernel)).trans v51
          have f0_43 : η7 0 43 = η 0 43 := v73
          have v74 : η7 0 42 = η5 0 42 := (k7.1.2.2.2.1 0 42 (by decide +kernel)).trans v53
          have f0_42 : η7 0 42 = η5 0 42 := v74
          have v75 : η7 0 45 = 0 := (k7.1.2.2.2.1 0 45 (by decide +kernel)).trans v54
          have f0_45 : η7 0 45 = 0 := v75
          have v76 : η7 0 19 = η5 0 19 := (k7.1.2.2.2.1 0 19 (by decide +kernel)).trans v56
          have f0_19 : η7 0 19 = η5 0 19 := v76
          have v77 : η7 0 44 = η4 0 44 := (k7.1.2.2.2.1 0 44 (by decide +kernel)).trans v58
          have f0_44 : η7 0 44 = η4 0 44 := v77
          have w7_0_7 : (0 : Int) ≤ η7 0 7 ∧ η7 0 7 ≤ 700 := wf_ok (a := 7) (b := 7) (z := (0, 700)) k7.1.1 (by decide +kernel) (Nat.le_refl _) (Nat.le_refl _)
          have f0_7 : η7 0 7 = η7 0 7 := rfl
          have v79 : η7 0 6 = η 0 6 := (k7.1.2.2.2.1 0 6 (by decide +kernel)).trans v62
          have f0_6 : η7 0 6 = η 0 6 := v79
          have w7_0_8 : (0 : Int) ≤ η7 0 8 ∧ η7 0 8 ≤ 6 := wf_ok (a := 8) (b := 8) (z := (0, 6)) k7.1.1 (by decide +kernel) (Nat.le_refl _) (Nat.le_refl _)
          have f0_8 : η7 0 8 = η7 0 8 := rfl
          have wb1 : wB wl_l zTr η1 := k1.1.1
          have wb2 : wB wl_l zTr η2 := k2.1.1
          have wb3 : wB wl_l zTr η3 := k4.1.1
          have wb4 : wB wl_l zTr η4 := k5.1.1
          have wb5 : wB wl_l zTr η5 := k6.1.1
          have wb6 : wB wl_l zTr η6 := by rw [eη6]; exact wk_ok (a := 45) (b := 45) (z := ((-2147483648), 2147483647)) zTr_k (GR := []) wb5 (by decide +kernel) (by decide) (by decide) (show ((-2147483648) : Int) ≤ 0 by omega) (show 0 ≤ (2147483647 : Int) by omega)
          have wb7 : wB wl_l zTr η7 := k7.1.1
          have wbE : wB wl_l zTr η7 := wb7
          have I0 : H_l 0 0 0 η := hpp.1
          have I1 : H_l 0 0 0 η1 := k1.2.1
          have I2 : H_l 0 0 0 η2 := k2.2.1
          have qk2 : η1 0 8 = 1 := k2.2.2 c2
          have I3 : H_l 0 0 0 η3 := k4.2.1
          have qk4 : η2 0 8 = 1 := k4.2.2 c4
          have I4 : H_l 1 0 0 η4 := k5.2.1 c6
          have I5 : H_l 0 0 1 η5 := k6.2.1 I4
          have qg6 : η5 0 19 = η4 0 19 + 1 := k6.2.2.2
          have I6 : H_l 0 0 0 η6 := by rw [eη6]; exact h_eq (wn_up I5) rfl rfl (by omega)
          have I7 : H_l 0 0 0 η7 := k7.2.1
          have qt7 : ¬ η6 0 8 = 0 → 10 * (η7 0 6 - η7 0 7) + η7 0 8 < 10 * (η6 0 6 - η6 0 7) + η6 0 8 := k7.2.2
          refine ⟨I7.1, fun _ => ⟨I7, show 10 * (η7 0 6 - η7 0 7) + η7 0 8 < 10 * (η 0 6 - η 0 7) + η 0 8 by omega, fun w => ?_⟩⟩
          have w : η7 0 45 = 0 := w
          omega
        · show ∀ (x1 : Int) (η1 : zE), ((gC2 wl_l [(nat_lit 0, zPl_isSign, zOl_isSign, zMl_isSign), (nat_lit 1, zPl_wrong, zOl_wrong, zMl_wrong), (nat_lit 2, zPl_waitsFor0, zOl_waitsFor0, zMl_waitsFor0), (nat_lit 3, zPl_token, zOl_token, zMl_token), (nat_lit 4, zPl_isKey, zOl_isKey, zMl_isKey), (nat_lit 5, zPl_isCounted, zOl_isCounted, zMl_isCounted), (nat_lit 6, zPl_waitsFor2, zOl_waitsFor2, zMl_waitsFor2), (nat_lit 7, zPl_nameMet, zOl_nameMet, zMl_nameMet), (nat_lit 8, zPl_grown, zOl_grown, zMl_grown)] pCl_leafRead qCl_leafRead) 0).2 [40] η x1 η1 → (x1 = 0) → ∀ (x2 : Int) (η2 : zE), ((gC2 wl_l [(nat_lit 0, zPl_isSign, zOl_isSign, zMl_isSign), (nat_lit 1, zPl_wrong, zOl_wrong, zMl_wrong), (nat_lit 2, zPl_waitsFor0, zOl_waitsFor0, zMl_waitsFor0), (nat_lit 3, zPl_token, zOl_token, zMl_token), (nat_lit 4, zPl_isKey, zOl_isKey, zMl_isKey), (nat_lit 5, zPl_isCounted, zOl_isCounted, zMl_isCounted), (nat_lit 6, zPl_waitsFor2, zOl_waitsFor2, zMl_waitsFor2), (nat_lit 7, zPl_nameMet, zOl_nameMet, zMl_nameMet), (nat_lit 8, zPl_grown, zOl_grown, zMl_grown)] pCl_leafRead qCl_leafRead) 4).2 [12] η1 x2 η2 → (¬ x2 = 0) → ∀ x3 : Int, x3 = η2 0 (Int.toNat 46) → zok 1 x3 → (x3 = 0) → ∀ (x4 : Int) (η3 : zE), ((gC2 wl_l [(nat_lit 0, zPl_isSign, zOl_isSign, zMl_isSign), (nat_lit 1, zPl_wrong, zOl_wrong, zMl_wrong), (nat_lit 2, zPl_waitsFor0, zOl_waitsFor0, zMl_waitsFor0), (nat_lit 3, zPl_token, zOl_token, zMl_token), (nat_lit 4, zPl_isKey, zOl_isKey, zMl_isKey), (nat_lit 5, zPl_isCounted, zOl_isCounted, zMl_isCounted), (nat_lit 6, zPl_waitsFor2, zOl_waitsFor2, zMl_waitsFor2), (nat_lit 7, zPl_nameMet, zOl_nameMet, zMl_nameMet), (nat_lit 8, zPl_grown, zOl_grown, zMl_grown)] pCl_leafRead qCl_leafRead) 7).2 [] η2 x4 η3 → (0 ≤ x4) → (0 ≤ x4) → ∀ (x5 : Int) (η4 : zE), ((gC2 wl_l [(nat_lit 0, zPl_isSign, zOl_isSign, zMl_isSign), (nat_lit 1, zPl_wrong, zOl_wrong, zMl_wrong), (nat_lit 2, zPl_waitsFor0, zOl_waitsFor0, zMl_waitsFor0), (nat_lit 3, zPl_token, zOl_token, zMl_token), (nat_lit 4, zPl_isKey, zOl_isKey, zMl_isKey), (nat_lit 5, zPl_isCounted, zOl_isCounted, zMl_isCounted), (nat_lit 6, zPl_waitsFor2, zOl_waitsFor2, zMl_waitsFor2), (nat_lit 7, zPl_nameMet, zOl_nameMet, zMl_nameMet), (nat_lit 8, zPl_grown, zOl_grown, zMl_grown)] pCl_leafRead qCl_leafRead) 5).2 [] η3 x5 η4 → (x5 = 0) → (fun (_ : Nat) (y : Int) (η' : zE) => pQl_leafRead [] η y η') 0 0 η4
          have hw : η 0 45 = 1 := hpp.2
          have hs : η 0 7 ≤ η 0 6 := hpp.1.1.1.1
          have bd43 : (0 : Int) ≤ η 0 43 ∧ η 0 43 ≤ 8 := wf_ok (a := 43) (b := 43) (z := (0, 8)) hp.1 (by decide +kernel) (Nat.le_refl _) (Nat.le_refl _)
          have bd44 : (0 : Int) ≤ η 0 44 ∧ η 0 44 ≤ 64 := wf_ok (a := 44) (b := 44) (z := (0, 64)) hp.1 (by decide +kernel) (Nat.le_refl _) (Nat.le_refl _)
          have bd19 : (0 : Int) ≤ η 0 19 ∧ η 0 19 ≤ 64 := wf_ok (a := 19) (b := 19) (z := (0, 64)) hp.1 (by decide +kernel) (Nat.le_refl _) (Nat.le_refl _)
          intro x1 η1 h1 c1 x2 η2 h2 c2 x3 e3 r3 c3 x4 η3 h4 c4 c5 x5 η4 h5 c6
          have k1 : sQ wl_l zTr zOl_isSign zMl_isSign [40] η x1 η1 ∧ pQl_isSign [40] η x1 η1 := h1
          have k2 : sQ wl_l zTr zOl_isKey zMl_isKey [12] η1 x2 η2 ∧ pQl_isKey [12] η1 x2 η2 := h2
          have k4 : sQ wl_l zTr zOl_nameMet zMl_nameMet [] η2 x4 η3 ∧ pQl_nameMet [] η2 x4 η3 := h4
          have k5 : sQ wl_l zTr zOl_isCounted zMl_isCounted [] η3 x5 η4 ∧ pQl_isCounted [] η3 x5 η4 := h5
          have c0_0_41 : η 0 41 = η 0 41 := rfl
          have w0_0_43 : (0 : Int) ≤ η 0 43 ∧ η 0 43 ≤ 8 := wf_ok (a := 43) (b := 43) (z := (0, 8)) hp.1 (by decide +kernel) (Nat.le_refl _) (Nat.le_refl _)
          have c0_0_43 : η 0 43 = η 0 43 := rfl
          have c0_0_42 : η 0 42 = η 0 42 := rfl
          have c0_0_45 : η 0 45 = η 0 45 := rfl
          have w0_0_19 : (0 : Int) ≤ η 0 19 ∧ η 0 19 ≤ 64 := wf_ok (a := 19) (b := 19) (z := (0, 64)) hp.1 (by decide +kernel) (Nat.le_refl _) (Nat.le_refl _)
          have c0_0_19 : η 0 19 = η 0 19 := rfl
          have w0_0_44 : (0 : Int) ≤ η 0 44 ∧ η 0 44 ≤ 64 := wf_ok (a := 44) (b := 44) (z := (0, 64)) hp.1 (by decide +kernel) (Nat.le_refl _) (Nat.le_refl _)
          have c0_0_44 : η 0 44 = η 0 44 := rfl
          have w0_0_7 : (0 : Int) ≤ η 0 7 ∧ η 0 7 ≤ 700 := wf_ok (a := 7) (b := 7) (z := (0, 700)) hp.1 (by decide +kernel) (Nat.le_refl _) (Nat.le_refl _)
          have c0_0_7 : η 0 7 = η 0 7 := rfl
          have w0_0_6 : (0 : Int) ≤ η 0 6 ∧ η 0 6 ≤ 700 := wf_ok (a := 6) (b := 6) (z := (0, 700)) hp.1 (by decide +kernel) (Nat.le_refl _) (Nat.le_refl _)
          have c0_0_6 : η 0 6 = η 0 6 := rfl
          have w0_0_8 : (0 : Int) ≤ η 0 8 ∧ η 0 8 ≤ 6 := wf_ok (a := 8) (b := 8) (z := (0, 6)) hp.1 (by decide +kernel) (Nat.le_refl _) (Nat.le_refl _)
          have c0_0_8 : η 0 8 = η 0 8 := rfl
          have bx1 : (0 : Int) ≤ x1 ∧ x1 ≤ 1 := k1.1.2.1
          have v9 : η1 0 41 = η 0 41 := (k1.1.2.2.2.1 0 41 (by decide +kernel)).trans rfl
          have c1_0_41 : η1 0 41 = η 0 41 := v9
          have v10 : η1 0 43 = η 0 43 := (k1.1.2.2.2.1 0 43 (by decide +kernel)).trans rfl
          have c1_0_43 : η1 0 43 = η 0 43 := v10
          have v11 : η1 0 42 = η 0 42 := (k1.1.2.2.2.1 0 42 (by decide +kernel)).trans rfl
          have c1_0_42 : η1 0 42 = η 0 42 := v11
          have v12 : η1 0 45 = η 0 45 := (k1.1.2.2.2.1 0 45 (by decide +kernel)).trans rfl
          have c1_0_45 : η1 0 45 = η 0 45 := v12
          have v13 : η1 0 19 = η 0 19 := (k1.1.2.2.2.1 0 19 (by decide +kernel)).trans rfl
          have c1_0_19 : η1 0 19 = η 0 19 := v13
          have v14 : η1 0 44 = η 0 44 := (k1.1.2.2.2.1 0 44 (by decide +kernel)).trans rfl
          have c1_0_44 : η1 0 44 = η 0 44 := v14
          have v15 : η1 0 7 = η 0 7 := (k1.1.2.2.2.1 0 7 (by decide +kernel)).trans rfl
          have c1_0_7 : η1 0 7 = η 0 7 := v15
          have v16 : η1 0 6 = η 0 6 := (k1.1.2.2.2.1 0 6 (by decide +kernel)).trans rfl
          have c1_0_6 : η1 0 6 = η 0 6 := v16
          have v17 : η1 0 8 = η 0 8 := (k1.1.2.2.2.1 0 8 (by decide +kernel)).trans rfl
          have c1_0_8 : η1 0 8 = η 0 8 := v17
          have bx2 : (0 : Int) ≤ x2 ∧ x2 ≤ 1 := k2.1.2.1
          have v19 : η1 0 46 = η 0 46 := (k1.1.2.2.2.1 0 46 (by decide +kernel)).trans rfl
          have v20 : η2 0 46 = η 0 46 := (k2.1.2.2.2.1 0 46 (by decide +kernel)).trans v19
          replace e3 : x3 = η 0 46 := e3.trans v20
          replace r3 : 0 ≤ x3 ∧ x3 ≤ 1 := r3
          have v21 : η2 0 41 = η 0 41 := (k2.1.2.2.2.1 0 41 (by decide +kernel)).trans v9
          have c2_0_41 : η2 0 41 = η 0 41 := v21
          have v22 : η2 0 43 = η 0 43 := (k2.1.2.2.2.1 0 43 (by decide +kernel)).trans v10
          have c2_0_43 : η2 0 43 = η 0 43 := v22
          have v23 : η2 0 42 = η 0 42 := (k2.1.2.2.2.1 0 42 (by decide +kernel)).trans v11
          have c2_0_42 : η2 0 42 = η 0 42 := v23
          have v24 : η2 0 45 = η 0 45 := (k2.1.2.2.2.1 0 45 (by decide +kernel)).trans v12
          have c2_0_45 : η2 0 45 = η 0 45 := v24
          have v25 : η2 0 19 = η 0 19 := (k2.1.2.2.2.1 0 19 (by decide +kernel)).trans v13
          have c2_0_19 : η2 0 19 = η 0 19 := v25
          have v26 : η2 0 44 = η 0 44 := (k2.1.2.2.2.1 0 44 (by decide +kernel)).trans v14
          have c2_0_44 : η2 0 44 = η 0 44 := v26
          have v27 : η2 0 7 = η 0 7 := (k2.1.2.2.2.1 0 7 (by decide +kernel)).trans v15
          have c2_0_7 : η2 0 7 = η 0 7 := v27
          have v28 : η2 0 6 = η 0 6 := (k2.1.2.2.2.1 0 6 (by decide +kernel)).trans v16
          have c2_0_6 : η2 0 6 = η 0 6 := v28
          have v29 : η2 0 8 = η 0 8 := (k2.1.2.2.2.1 0 8 (by decide +kernel)).trans v17
          have c2_0_8 : η2 0 8 = η 0 8 := v29
          have bx4 : ((-1) : Int) ≤ x4 ∧ x4 ≤ 6 := k4.1.2.1
          have v30 : η3 0 41 = η 0 41 := (k4.1.2.2.2.1 0 41 (by decide +kernel)).trans v21
          have c3_0_41 : η3 0 41 = η 0 41 := v30
          have v31 : η3 0 43 = η 0 43 := (k4.1.2.2.2.1 0 43 (by decide +kernel)).trans v22
          have c3_0_43 : η3 0 43 = η 0 43 := v31
          have v32 : η3 0 42 = η 0 42 := (k4.1.2.2.2.1 0 42 (by decide +kernel)).trans v23
          have c3_0_42 : η3 0 42 = η 0 42 := v32
          have v33 : η3 0 45 = η 0 45 := (k4.1.2.2.2.1 0 45 (by decide +kernel)).trans v24
          have c3_0_45 : η3 0 45 = η 0 45 := v33
          have v34 : η3 0 19 = η 0 19 := (k4.1.2.2.2.1 0 19 (by decide +kernel)).trans v25
          have c3_0_19 : η3 0 19 = η 0 19 := v34
          have v35 : η3 0 44 = η 0 44 := (k4.1.2.2.2.1 0 44 (by decide +kernel)).trans v26
          have c3_0_44 : η3 0 44 = η 0 44 := v35
          have v36 : η3 0 7 = η 0 7 := (k4.1.2.2.2.1 0 7 (by decide +kernel)).trans v27
          have c3_0_7 : η3 0 7 = η 0 7 := v36
          have v37 : η3 0 6 = η 0 6 := (k4.1.2.2.2.1 0 6 (by decide +kernel)).trans v28
          have c3_0_6 : η3 0 6 = η 0 6 := v37
          have v38 : η3 0 8 = η 0 8 := (k4.1.2.2.2.1 0 8 (by decide +kernel)).trans v29
          have c3_0_8 : η3 0 8 = η 0 8 := v38
          have bx5 : (0 : Int) ≤ x5 ∧ x5 ≤ 1 := k5.1.2.1
          have fm1 : zFm zMl_leafRead η η1 := zFm_tr2 zFm_rf k1.1.2.2.2.1 (by decide +kernel)
          have fm2 : zFm zMl_leafRead η η2 := zFm_tr2 fm1 k2.1.2.2.2.1 (by decide +kernel)
          have fm3 : zFm zMl_leafRead η η3 := zFm_tr2 fm2 k4.1.2.2.2.1 (by decide +kernel)
          have fm4 : zFm zMl_leafRead η η4 := zFm_tr2 fm3 k5.1.2.2.2.1 (by decide +kernel)
          have fmE : zFm zMl_leafRead η η4 := fm4
          have fr22_0 : ∀ j, η 22 j = η 22 j := fun _ => rfl
          have v39 : ∀ j, η1 22 j = η 22 j := fun j => k1.1.2.2.2.1 22 _ (zinr_not (by decide +kernel))
          have fr22_1 : ∀ j, η1 22 j = η 22 j := v39
          have v40 : ∀ j, η2 22 j = η 22 j := fun j => (k2.1.2.2.2.1 22 _ (zinr_not (by decide +kernel))).trans (v39 j)
          have fr22_2 : ∀ j, η2 22 j = η 22 j := v40
          have v41 : ∀ j, η3 22 j = η 22 j := fun j => (k4.1.2.2.2.1 22 _ (zinr_not (by decide +kernel))).trans (v40 j)
          have fr22_3 : ∀ j, η3 22 j = η 22 j := v41
          have v42 : ∀ j, η4 22 j = η 22 j := fun j => (k5.1.2.2.2.1 22 _ (zinr_not (by decide +kernel))).trans (v41 j)
          have fr22_4 : ∀ j, η4 22 j = η 22 j := v42
          have fr22 : ∀ j, η4 22 j = η 22 j := v42
          have v43 : η4 0 41 = η 0 41 := (k5.1.2.2.2.1 0 41 (by decide +kernel)).trans v30
          have f0_41 : η4 0 41 = η 0 41 := v43
          have v44 : η4 0 43 = η 0 43 := (k5.1.2.2.2.1 0 43 (by decide +kernel)).trans v31
          have f0_43 : η4 0 43 = η 0 43 := v44
          have v45 : η4 0 42 = η 0 42 := (k5.1.2.2.2.1 0 42 (by decide +kernel)).trans v32
          have f0_42 : η4 0 42 = η 0 42 := v45
          have v46 : η4 0 45 = η 0 45 := (k5.1.2.2.2.1 0 45 (by decide +kernel)).trans v33
          have f0_45 : η4 0 45 = η 0 45 := v46
          have v47 : η4 0 19 = η 0 19 := (k5.1.2.2.2.1 0 19 (by decide +kernel)).trans v34
          have f0_19 : η4 0 19 = η 0 19 := v47
          have w4_0_44 : (0 : Int) ≤ η4 0 44 ∧ η4 0 44 ≤ 64 := wf_ok (a := 44) (b := 44) (z := (0, 64)) k5.1.1 (by decide +kernel) (Nat.le_refl _) (Nat.le_refl _)
          have f0_44 : η4 0 44 = η4 0 44 := rfl
          have v49 : η4 0 7 = η 0 7 := (k5.1.2.2.2.1 0 7 (by decide +kernel)).trans v36
          have f0_7 : η4 0 7 = η 0 7 := v49
          have v50 : η4 0 6 = η 0 6 := (k5.1.2.2.2.1 0 6 (by decide +kernel)).trans v37
          have f0_6 : η4 0 6 = η 0 6 := v50
          have v51 : η4 0 8 = η 0 8 := (k5.1.2.2.2.1 0 8 (by decide +kernel)).trans v38
          have f0_8 : η4 0 8 = η 0 8 := v51
          have wb1 : wB wl_l zTr η1 := k1.1.1
          have wb2 : wB wl_l zTr η2 := k2.1.1
          have wb3 : wB wl_l zTr η3 := k4.1.1
          have wb4 : wB wl_l zTr η4 := k5.1.1
          have wbE : wB wl_l zTr η4 := wb4
          have I0 : H_l 0 0 0 η := hpp.1
          have I1 : H_l 0 0 0 η1 := k1.2.1
          have I2 : H_l 0 0 0 η2 := k2.2.1
          have qk2 : η1 0 8 = 1 := k2.2.2 c2
          have I3 : H_l 0 0 0 η3 := k4.2.1
          have qk4 : η2 0 8 = 1 := k4.2.2 c4
          have I4 : H_l 0 0 0 η4 := k5.2.2 c6
          exact ⟨I4.1, fun w => absurd (show (0 : Int) = 0 by omega) w⟩
        · show ∀ (x1 : Int) (η1 : zE), ((gC2 wl_l [(nat_lit 0, zPl_isSign, zOl_isSign, zMl_isSign), (nat_lit 1, zPl_wrong, zOl_wrong, zMl_wrong), (nat_lit 2, zPl_waitsFor0, zOl_waitsFor0, zMl_waitsFor0), (nat_lit 3, zPl_token, zOl_token, zMl_token), (nat_lit 4, zPl_isKey, zOl_isKey, zMl_isKey), (nat_lit 5, zPl_isCounted, zOl_isCounted, zMl_isCounted), (nat_lit 6, zPl_waitsFor2, zOl_waitsFor2, zMl_waitsFor2), (nat_lit 7, zPl_nameMet, zOl_nameMet, zMl_nameMet), (nat_lit 8, zPl_grown, zOl_grown, zMl_grown)] pCl_leafRead qCl_leafRead) 0).2 [40] η x1 η1 → (x1 = 0) → ∀ (x2 : Int) (η2 : zE), ((gC2 wl_l [(nat_lit 0, zPl_isSign, zOl_isSign, zMl_isSign), (nat_lit 1, zPl_wrong, zOl_wrong, zMl_wrong), (nat_lit 2, zPl_waitsFor0, zOl_waitsFor0, zMl_waitsFor0), (nat_lit 3, zPl_token, zOl_token, zMl_token), (nat_lit 4, zPl_isKey, zOl_isKey, zMl_isKey), (nat_lit 5, zPl_isCounted, zOl_isCounted, zMl_isCounted), (nat_lit 6, zPl_waitsFor2, zOl_waitsFor2, zMl_waitsFor2), (nat_lit 7, zPl_nameMet, zOl_nameMet, zMl_nameMet), (nat_lit 8, zPl_grown, zOl_grown, zMl_grown)] pCl_leafRead qCl_leafRead) 4).2 [12] η1 x2 η2 → (¬ x2 = 0) → ∀ x3 : Int, x3 = η2 0 (Int.toNat 46) → zok 1 x3 → (x3 = 0) → ∀ (x4 : Int) (η3 : zE), ((gC2 wl_l [(nat_lit 0, zPl_isSign, zOl_isSign, zMl_isSign), (nat_lit 1, zPl_wrong, zOl_wrong, zMl_wrong), (nat_lit 2, zPl_waitsFor0, zOl_waitsFor0, zMl_waitsFor0), (nat_lit 3, zPl_token, zOl_token, zMl_token), (nat_lit 4, zPl_isKey, zOl_isKey, zMl_isKey), (nat_lit 5, zPl_isCounted, zOl_isCounted, zMl_isCounted), (nat_lit 6, zPl_waitsFor2, zOl_waitsFor2, zMl_waitsFor2), (nat_lit 7, zPl_nameMet, zOl_nameMet, zMl_nameMet), (nat_lit 8, zPl_grown, zOl_grown, zMl_grown)] pCl_leafRead qCl_leafRead) 7).2 [] η2 x4 η3 → (x4 < 0) → ∀ x5 : Int, x5 = η3 0 (Int.toNat 8) → zok 0 x5 → (x5 = 3) → (x4 < 0) → ∀ x6 : Int, x6 = η3 0 (Int.toNat 9) → zok 0 x6 → (x6 ≤ 9999) → ((gC2 wl_l [(nat_lit 0, zPl_isSign, zOl_isSign, zMl_isSign), (nat_lit 1, zPl_wrong, zOl_wrong, zMl_wrong), (nat_lit 2, zPl_waitsFor0, zOl_waitsFor0, zMl_waitsFor0), (nat_lit 3, zPl_token, zOl_token, zMl_token), (nat_lit 4, zPl_isKey, zOl_isKey, zMl_isKey), (nat_lit 5, zPl_isCounted, zOl_isCounted, zMl_isCounted), (nat_lit 6, zPl_waitsFor2, zOl_waitsFor2, zMl_waitsFor2), (nat_lit 7, zPl_nameMet, zOl_nameMet, zMl_nameMet), (nat_lit 8, zPl_grown, zOl_grown, zMl_grown)] pCl_leafRead qCl_leafRead) 5).1 [] η3
          have hw : η 0 45 = 1 := hpp.2
          have hs : η 0 7 ≤ η 0 6 := hpp.1.1.1.1
          have bd43 : (0 : Int) ≤ η 0 43 ∧ η 0 43 ≤ 8 := wf_ok (a := 43) (b := 43) (z := (0, 8)) hp.1 (by decide +kernel) (Nat.le_refl _) (Nat.le_refl _)
          have bd44 : (0 : Int) ≤ η 0 44 ∧ η 0 44 ≤ 64 := wf_ok (a := 44) (b := 44) (z := (0, 64)) hp.1 (by decide +kernel) (Nat.le_refl _) (Nat.le_refl _)
          have bd19 : (0 : Int) ≤ η 0 19 ∧ η 0 19 ≤ 64 := wf_ok (a := 19) (b := 19) (z := (0, 64)) hp.1 (by decide +kernel) (Nat.le_refl _) (Nat.le_refl _)
          intro x1 η1 h1 c1 x2 η2 h2 c2 x3 e3 r3 c3 x4 η3 h4 c4 x5 e5 r5 c5 c6 x6 e6 r6 c7
          have k1 : sQ wl_l zTr zOl_isSign zMl_isSign [40] η x1 η1 ∧ pQl_isSign [40] η x1 η1 := h1
          have k2 : sQ wl_l zTr zOl_isKey zMl_isKey [12] η1 x2 η2 ∧ pQl_isKey [12] η1 x2 η2 := h2
          have k4 : sQ wl_l zTr zOl_nameMet zMl_nameMet [] η2 x4 η3 ∧ pQl_nameMet [] η2 x4 η3 := h4
          have c0_0_41 : η 0 41 = η 0 41 := rfl
          have w0_0_43 : (0 : Int) ≤ η 0 43 ∧ η 0 43 ≤ 8 := wf_ok (a := 43) (b := 43) (z := (0, 8)) hp.1 (by decide +kernel) (Nat.le_refl _) (Nat.le_refl _)
          have c0_0_43 : η 0 43 = η 0 43 := rfl
          have c0_0_42 : η 0 42 = η 0 42 := rfl
          have c0_0_45 : η 0 45 = η 0 45 := rfl
          have w0_0_19 : (0 : Int) ≤ η 0 19 ∧ η 0 19 ≤ 64 := wf_ok (a := 19) (b := 19) (z := (0, 64)) hp.1 (by decide +kernel) (Nat.le_refl _) (Nat.le_refl _)
          have c0_0_19 : η 0 19 = η 0 19 := rfl
          have w0_0_44 : (0 : Int) ≤ η 0 44 ∧ η 0 44 ≤ 64 := wf_ok (a := 44) (b := 44) (z := (0, 64)) hp.1 (by decide +kernel) (Nat.le_refl _) (Nat.le_refl _)
          have c0_0_44 : η 0 44 = η 0 44 := rfl
          have w0_0_7 : (0 : Int) ≤ η 0 7 ∧ η 0 7 ≤ 700 := wf_ok (a := 7) (b := 7) (z := (0, 700)) hp.1 (by decide +kernel) (Nat.le_refl _) (Nat.le_refl _)
          have c0_0_7 : η 0 7 = η 0 7 := rfl
          have w0_0_6 : (0 : Int) ≤ η 0 6 ∧ η 0 6 ≤ 700 := wf_ok (a := 6) (b := 6) (z := (0, 700)) hp.1 (by decide +kernel) (Nat.le_refl _) (Nat.le_refl _)
          have c0_0_6 : η 0 6 = η 0 6 := rfl
          have w0_0_8 : (0 : Int) ≤ η 0 8 ∧ η 0 8 ≤ 6 := wf_ok (a := 8) (b := 8) (z := (0, 6)) hp.1 (by decide +kernel) (Nat.le_refl _) (Nat.le_refl _)
          have c0_0_8 : η 0 8 = η 0 8 := rfl
          have bx1 : (0 : Int) ≤ x1 ∧ x1 ≤ 1 := k1.1.2.1
          have v9 : η1 0 41 = η 0 41 := (k1.1.2.2.2.1 0 41 (by decide +kernel)).trans rfl
          have c1_0_41 : η1 0 41 = η 0 41 := v9
          have v10 : η1 0 43 = η 0 43 := (k1.1.2.2.2.1 0 43 (by decide +kernel)).trans rfl
          have c1_0_43 : η1 0 43 = η 0 43 := v10
          have v11 : η1 0 42 = η 0 42 := (k1.1.2.2.2.1 0 42 (by decide +kernel)).trans rfl
          have c1_0_42 : η1 0 42 = η 0 42 := v11
          have v12 : η1 0 45 = η 0 45 := (k1.1.2.2.2.1 0 45 (by decide +kernel)).trans rfl
          have c1_0_45 : η1 0 45 = η 0 45 := v12
          have v13 : η1 0 19 = η 0 19 := (k1.1.2.2.2.1 0 19 (by decide +kernel)).trans rfl
          have c1_0_19 : η1 0 19 = η 0 19 := v13
          have v14 : η1 0 44 = η 0 44 := (k1.1.2.2.2.1 0 44 (by decide +kernel)).trans rfl
          have c1_0_44 : η1 0 44 = η 0 44 := v14
          have v15 : η1 0 7 = η 0 7 := (k1.1.2.2.2.1 0 7 (by decide +kernel)).trans rfl
          have c1_0_7 : η1 0 7 = η 0 7 := v15
          have v16 : η1 0 6 = η 0 6 := (k1.1.2.2.2.1 0 6 (by decide +kernel)).trans rfl
          have c1_0_6 : η1 0 6 = η 0 6 := v16
          have v17 : η1 0 8 = η 0 8 := (k1.1.2.2.2.1 0 8 (by decide +kernel)).trans rfl
          have c1_0_8 : η1 0 8 = η 0 8 := v17
          have bx2 : (0 : Int) ≤ x2 ∧ x2 ≤ 1 := k2.1.2.1
          have v19 : η1 0 46 = η 0 46 := (k1.1.2.2.2.1 0 46 (by decide +kernel)).trans rfl
          have v20 : η2 0 46 = η 0 46 := (k2.1.2.2.2.1 0 46 (by decide +kernel)).trans v19
          replace e3 : x3 = η 0 46 := e3.trans v20
          replace r3 : 0 ≤ x3 ∧ x3 ≤ 1 := r3
          have v21 : η2 0 41 = η 0 41 := (k2.1.2.2.2.1 0 41 (by decide +kernel)).trans v9
          have c2_0_41 : η2 0 41 = η 0 41 := v21
          have v22 : η2 0 43 = η 0 43 := (k2.1.2.2.2.1 0 43 (by decide +kernel)).trans v10
          have c2_0_43 : η2 0 43 = η 0 43 := v22
          have v23 : η2 0 42 = η 0 42 := (k2.1.2.2.2.1 0 42 (by decide +kernel)).trans v11
          have c2_0_42 : η2 0 42 = η 0 42 := v23
          have v24 : η2 0 45 = η 0 45 := (k2.1.2.2.2.1 0 45 (by decide +kernel)).trans v12
          have c2_0_45 : η2 0 45 = η 0 45 := v24
          have v25 : η2 0 19 = η 0 19 := (k2.1.2.2.2.1 0 19 (by decide +kernel)).trans v13
          have c2_0_19 : η2 0 19 = η 0 19 := v25
          have v26 : η2 0 44 = η 0 44 := (k2.1.2.2.2.1 0 44 (by decide +kernel)).trans v14
          have c2_0_44 : η2 0 44 = η 0 44 := v26
          have v27 : η2 0 7 = η 0 7 := (k2.1.2.2.2.1 0 7 (by decide +kernel)).trans v15
          have c2_0_7 : η2 0 7 = η 0 7 := v27
          have v28 : η2 0 6 = η 0 6 := (k2.1.2.2.2.1 0 6 (by decide +kernel)).trans v16
          have c2_0_6 : η2 0 6 = η 0 6 := v28
          have v29 : η2 0 8 = η 0 8 := (k2.1.2.2.2.1 0 8 (by decide +kernel)).trans v17
          have c2_0_8 : η2 0 8 = η 0 8 := v29
          have bx4 : ((-1) : Int) ≤ x4 ∧ x4 ≤ 6 := k4.1.2.1
          have v30 : η3 0 8 = η 0 8 := (k4.1.2.2.2.1 0 8 (by decide +kernel)).trans v29
          replace e5 : x5 = η 0 8 := e5.trans v30
          replace r5 : -2147483648 ≤ x5 ∧ x5 ≤ 2147483647 := r5
          have v32 : η1 0 9 = η 0 9 := (k1.1.2.2.2.1 0 9 (by decide +kernel)).trans rfl
          have v33 : η2 0 9 = η 0 9 := (k2.1.2.2.2.1 0 9 (by decide +kernel)).trans v32
          have v34 : η3 0 9 = η 0 9 := (k4.1.2.2.2.1 0 9 (by decide +kernel)).trans v33
          replace e6 : x6 = η 0 9 := e6.trans v34
          replace r6 : -2147483648 ≤ x6 ∧ x6 ≤ 2147483647 := r6
          have fm1 : zFm zMl_leafRead η η1 := zFm_tr2 zFm_rf k1.1.2.2.2.1 (by decide +kernel)
          have fm2 : zFm zMl_leafRead η η2 := zFm_tr2 fm1 k2.1.2.2.2.1 (by decide +kernel)
          have fm3 : zFm zMl_leafRead η η3 := zFm_tr2 fm2 k4.1.2.2.2.1 (by decide +kernel)
          have fmE : zFm zMl_leafRead η η3 := fm3
          have fr22_0 : ∀ j, η 22 j = η 22 j := fun _ => rfl
          have v35 : ∀ j, η1 22 j = η 22 j := fun j => k1.1.2.2.2.1 22 _ (zinr_not (by decide +kernel))
          have fr22_1 : ∀ j, η1 22 j = η 22 j := v35
          have v36 : ∀ j, η2 22 j = η 22 j := fun j => (k2.1.2.2.2.1 22 _ (zinr_not (by decide +kernel))).trans (v35 j)
          have fr22_2 : ∀ j, η2 22 j = η 22 j := v36
          have v37 : ∀ j, η3 22 j = η 22 j := fun j => (k4.1.2.2.2.1 22 _ (zinr_not (by decide +kernel))).trans (v36 j)
          have fr22_3 : ∀ j, η3 22 j = η 22 j := v37
          have fr22 : ∀ j, η3 22 j = η 22 j := v37
          have v38 : η3 0 41 = η 0 41 := (k4.1.2.2.2.1 0 41 (by decide +kernel)).trans v21
          have f0_41 : η3 0 41 = η 0 41 := v38
          have v39 : η3 0 43 = η 0 43 := (k4.1.2.2.2.1 0 43 (by decide +kernel)).trans v22
          have f0_43 : η3 0 43 = η 0 43 := v39
          have v40 : η3 0 42 = η 0 42 := (k4.1.2.2.2.1 0 42 (by decide +kernel)).trans v23
          have f0_42 : η3 0 42 = η 0 42 := v40
          have v41 : η3 0 45 = η 0 45 := (k4.1.2.2.2.1 0 45 (by decide +kernel)).trans v24
          have f0_45 : η3 0 45 = η 0 45 := v41
          have v42 : η3 0 19 = η 0 19 := (k4.1.2.2.2.1 0 19 (by decide +kernel)).trans v25
          have f0_19 : η3 0 19 = η 0 19 := v42
          have v43 : η3 0 44 = η 0 44 := (k4.1.2.2.2.1 0 44 (by decide +kernel)).trans v26
          have f0_44 : η3 0 44 = η 0 44 := v43
          have v44 : η3 0 7 = η 0 7 := (k4.1.2.2.2.1 0 7 (by decide +kernel)).trans v27
          have f0_7 : η3 0 7 = η 0 7 := v44
          have v45 : η3 0 6 = η 0 6 := (k4.1.2.2.2.1 0 6 (by decide +kernel)).trans v28
          have f0_6 : η3 0 6 = η 0 6 := v45
          have f0_8 : η3 0 8 = η 0 8 := v30
          have wb1 : wB wl_l zTr η1 := k1.1.1
          have wb2 : wB wl_l zTr η2 := k2.1.1
          have wb3 : wB wl_l zTr η3 := k4.1.1
          have wbE : wB wl_l zTr η3 := wb3
          have I0 : H_l 0 0 0 η := hpp.1
          have I1 : H_l 0 0 0 η1 := k1.2.1
          have I2 : H_l 0 0 0 η2 := k2.2.1
          have qk2 : η1 0 8 = 1 := k2.2.2 c2
          have I3 : H_l 0 0 0 η3 := k4.2.1
          exact I3
        · show ∀ (x1 : Int) (η1 : zE), ((gC2 wl_l [(nat_lit 0, zPl_isSign, zOl_isSign, zMl_isSign), (nat_lit 1, zPl_wrong, zOl_wrong, zMl_wrong), (nat_lit 2, zPl_waitsFor0, zOl_waitsFor0, zMl_waitsFor0), (nat_lit 3, zPl_token, zOl_token, zMl_token), (nat_lit 4, zPl_isKey, zOl_isKey, zMl_isKey), (nat_lit 5, zPl_isCounted, zOl_isCounted, zMl_isCounted), (nat_lit 6, zPl_waitsFor2, zOl_waitsFor2, zMl_waitsFor2), (nat_lit 7, zPl_nameMet, zOl_nameMet, zMl_nameMet), (nat_lit 8, zPl_grown, zOl_grown, zMl_grown)] pCl_leafRead qCl_leafRead) 0).2 [40] η x1 η1 → (x1 = 0) → ∀ (x2 : Int) (η2 : zE), ((gC2 wl_l [(nat_lit 0, zPl_isSign, zOl_isSign, zMl_isSign), (nat_lit 1, zPl_wrong, zOl_wrong, zMl_wrong), (nat_lit 2, zPl_waitsFor0, zOl_waitsFor0, zMl_waitsFor0), (nat_lit 3, zPl_token, zOl_token, zMl_token), (nat_lit 4, zPl_isKey, zOl_isKey, zMl_isKey), (nat_lit 5, zPl_isCounted, zOl_isCounted, zMl_isCounted), (nat_lit 6, zPl_waitsFor2, zOl_waitsFor2, zMl_waitsFor2), (nat_lit 7, zPl_nameMet, zOl_nameMet, zMl_nameMet), (nat_lit 8, zPl_grown, zOl_grown, zMl_grown)] pCl_leafRead qCl_leafRead) 4).2 [12] η1 x2 η2 → (¬ x2 = 0) → ∀ x3 : Int, x3 = η2 0 (Int.toNat 46) → zok 1 x3 → (x3 = 0) → ∀ (x4 : Int) (η3 : zE), ((gC2 wl_l [(nat_lit 0, zPl_isSign, zOl_isSign, zMl_isSign), (nat_lit 1, zPl_wrong, zOl_wrong, zMl_wrong), (nat_lit 2, zPl_waitsFor0, zOl_waitsFor0, zMl_waitsFor0), (nat_lit 3, zPl_token, zOl_token, zMl_token), (nat_lit 4, zPl_isKey, zOl_isKey, zMl_isKey), (nat_lit 5, zPl_isCounted, zOl_isCounted, zMl_isCounted), (nat_lit 6, zPl_waitsFor2, zOl_waitsFor2, zMl_waitsFor2), (nat_lit 7, zPl_nameMet, zOl_nameMet, zMl_nameMet), (nat_lit 8, zPl_grown, zOl_grown, zMl_grown)] pCl_leafRead qCl_leafRead) 7).2 [] η2 x4 η3 → (x4 < 0) → ∀ x5 : Int, x5 = η3 0 (Int.toNat 8) → zok 0 x5 → (x5 = 3) → (x4 < 0) → ∀ x6 : Int, x6 = η3 0 (Int.toNat 9) → zok 0 x6 → (x6 ≤ 9999) → ∀ (x7 : Int) (η4 : zE), ((gC2 wl_l [(nat_lit 0, zPl_isSign, zOl_isSign, zMl_isSign), (nat_lit 1, zPl_wrong, zOl_wrong, zMl_wrong), (nat_lit 2, zPl_waitsFor0, zOl_waitsFor0, zMl_waitsFor0), (nat_lit 3, zPl_token, zOl_token, zMl_token), (nat_lit 4, zPl_isKey, zOl_isKey, zMl_isKey), (nat_lit 5, zPl_isCounted, zOl_isCounted, zMl_isCounted), (nat_lit 6, zPl_waitsFor2, zOl_waitsFor2, zMl_waitsFor2), (nat_lit 7, zPl_nameMet, zOl_nameMet, zMl_nameMet), (nat_lit 8, zPl_grown, zOl_grown, zMl_grown)] pCl_leafRead qCl_leafRead) 5).2 [] η3 x7 η4 → (¬ x7 = 0) → (x4 < 0) → (x4 < 0) → ∀ x8 : Int, x8 = η4 0 (Int.toNat 9) → zok 0 x8 → ((gC2 wl_l [(nat_lit 0, zPl_isSign, zOl_isSign, zMl_isSign), (nat_lit 1, zPl_wrong, zOl_wrong, zMl_wrong), (nat_lit 2, zPl_waitsFor0, zOl_waitsFor0, zMl_waitsFor0), (nat_lit 3, zPl_token, zOl_token, zMl_token), (nat_lit 4, zPl_isKey, zOl_isKey, zMl_isKey), (nat_lit 5, zPl_isCounted, zOl_isCounted, zMl_isCounted), (nat_lit 6, zPl_waitsFor2, zOl_waitsFor2, zMl_waitsFor2), (nat_lit 7, zPl_nameMet, zOl_nameMet, zMl_nameMet), (nat_lit 8, zPl_grown, zOl_grown, zMl_grown)] pCl_leafRead qCl_leafRead) 8).1 [0, x8, 0] η4
          have hw : η 0 45 = 1 := hpp.2
          have hs : η 0 7 ≤ η 0 6 := hpp.1.1.1.1
          have bd43 : (0 : Int) ≤ η 0 43 ∧ η 0 43 ≤ 8 := wf_ok (a := 43) (b := 43) (z := (0, 8)) hp.1 (by decide +kernel) (Nat.le_refl _) (Nat.le_refl _)
          have bd44 : (0 : Int) ≤ η 0 44 ∧ η 0 44 ≤ 64 := wf_ok (a := 44) (b := 44) (z := (0, 64)) hp.1 (by decide +kernel) (Nat.le_refl _) (Nat.le_refl _)
          have bd19 : (0 : Int) ≤ η 0 19 ∧ η 0 19 ≤ 64 := wf_ok (a := 19) (b := 19) (z := (0, 64)) hp.1 (by decide +kernel) (Nat.le_refl _) (Nat.le_refl _)
          intro x1 η1 h1 c1 x2 η2 h2 c2 x3 e3 r3 c3 x4 η3 h4 c4 x5 e5 r5 c5 c6 x6 e6 r6 c7 x7 η4 h7 c8 c9 c10 x8 e8 r8
          have k1 : sQ wl_l zTr zOl_isSign zMl_isSign [40] η x1 η1 ∧ pQl_isSign [40] η x1 η1 := h1
          have k2 : sQ wl_l zTr zOl_isKey zMl_isKey [12] η1 x2 η2 ∧ pQl_isKey [12] η1 x2 η2 := h2
          have k4 : sQ wl_l zTr zOl_nameMet zMl_nameMet [] η2 x4 η3 ∧ pQl_nameMet [] η2 x4 η3 := h4
          have k7 : sQ wl_l zTr zOl_isCounted zMl_isCounted [] η3 x7 η4 ∧ pQl_isCounted [] η3 x7 η4 := h7
          have c0_0_41 : η 0 41 = η 0 41 := rfl
          have w0_0_43 : (0 : Int) ≤ η 0 43 ∧ η 0 43 ≤ 8 := wf_ok (a := 43) (b := 43) (z := (0, 8)) hp.1 (by decide +kernel) (Nat.le_refl _) (Nat.le_refl _)
          have c0_0_43 : η 0 43 = η 0 43 := rfl
          have c0_0_42 : η 0 42 = η 0 42 := rfl
          have c0_0_45 : η 0 45 = η 0 45 := rfl
          have w0_0_19 : (0 : Int) ≤ η 0 19 ∧ η 0 19 ≤ 64 := wf_ok (a := 19) (b := 19) (z := (0, 64)) hp.1 (by decide +kernel) (Nat.le_refl _) (Nat.le_refl _)
          have c0_0_19 : η 0 19 = η 0 19 := rfl
          have w0_0_44 : (0 : Int) ≤ η 0 44 ∧ η 0 44 ≤ 64 := wf_ok (a := 44) (b := 44) (z := (0, 64)) hp.1 (by decide +kernel) (Nat.le_refl _) (Nat.le_refl _)
          have c0_0_44 : η 0 44 = η 0 44 := rfl
          have w0_0_7 : (0 : Int) ≤ η 0 7 ∧ η 0 7 ≤ 700 := wf_ok (a := 7) (b := 7) (z := (0, 700)) hp.1 (by decide +kernel) (Nat.le_refl _) (Nat.le_refl _)
          have c0_0_7 : η 0 7 = η 0 7 := rfl
          have w0_0_6 : (0 : Int) ≤ η 0 6 ∧ η 0 6 ≤ 700 := wf_ok (a := 6) (b := 6) (z := (0, 700)) hp.1 (by decide +kernel) (Nat.le_refl _) (Nat.le_refl _)
          have c0_0_6 : η 0 6 = η 0 6 := rfl
          have w0_0_8 : (0 : Int) ≤ η 0 8 ∧ η 0 8 ≤ 6 := wf_ok (a := 8) (b := 8) (z := (0, 6)) hp.1 (by decide +kernel) (Nat.le_refl _) (Nat.le_refl _)
          have c0_0_8 : η 0 8 = η 0 8 := rfl
          have bx1 : (0 : Int) ≤ x1 ∧ x1 ≤ 1 := k1.1.2.1
          have v9 : η1 0 41 = η 0 41 := (k1.1.2.2.2.1 0 41 (by decide +kernel)).trans rfl
          have c1_0_41 : η1 0 41 = η 0 41 := v9
          have v10 : η1 0 43 = η 0 43 := (k1.1.2.2.2.1 0 43 (by decide +kernel)).trans rfl
          have c1_0_43 : η1 0 43 = η 0 43 := v10
          have v11 : η1 0 42 = η 0 42 := (k1.1.2.2.2.1 0 42 (by decide +kernel)).trans rfl
          have c1_0_42 : η1 0 42 = η 0 42 := v11
          have v12 : η1 0 45 = η 0 45 := (k1.1.2.2.2.1 0 45 (by decide +kernel)).trans rfl
          have c1_0_45 : η1 0 45 = η 0 45 := v12
          have v13 : η1 0 19 = η 0 19 := (k1.1.2.2.2.1 0 19 (by decide +kernel)).trans rfl
          have c1_0_19 : η1 0 19 = η 0 19 := v13
          have v14 : η1 0 44 = η 0 44 := (k1.1.2.2.2.1 0 44 (by decide +kernel)).trans rfl
          have c1_0_44 : η1 0 44 = η 0 44 := v14
          have v15 : η1 0 7 = η 0 7 := (k1.1.2.2.2.1 0 7 (by decide +kernel)).trans rfl
          have c1_0_7 : η1 0 7 = η 0 7 := v15
          have v16 : η1 0 6 = η 0 6 := (k1.1.2.2.2.1 0 6 (by decide +kernel)).trans rfl
          have c1_0_6 : η1 0 6 = η 0 6 := v16
          have v17 : η1 0 8 = η 0 8 := (k1.1.2.2.2.1 0 8 (by decide +kernel)).trans rfl
          have c1_0_8 : η1 0 8 = η 0 8 := v17
          have bx2 : (0 : Int) ≤ x2 ∧ x2 ≤ 1 := k2.1.2.1
          have v19 : η1 0 46 = η 0 46 := (k1.1.2.2.2.1 0 46 (by decide +kernel)).trans rfl
          have v20 : η2 0 46 = η 0 46 := (k2.1.2.2.2.1 0 46 (by decide +kernel)).trans v19
          replace e3 : x3 = η 0 46 := e3.trans v20
          replace r3 : 0 ≤ x3 ∧ x3 ≤ 1 := r3
          have v21 : η2 0 41 = η 0 41 := (k2.1.2.2.2.1 0 41 (by decide +kernel)).trans v9
          have c2_0_41 : η2 0 41 = η 0 41 := v21
          have v22 : η2 0 43 = η 0 43 := (k2.1.2.2.2.1 0 43 (by decide +kernel)).trans v10
          have c2_0_43 : η2 0 43 = η 0 43 := v22
          have v23 : η2 0 42 = η 0 42 := (k2.1.2.2.2.1 0 42 (by decide +kernel)).trans v11
          have c2_0_42 : η2 0 42 = η 0 42 := v23
          have v24 : η2 0 45 = η 0 45 := (k2.1.2.2.2.1 0 45 (by decide +kernel)).trans v12
          have c2_0_45 : η2 0 45 = η 0 45 := v24
          have v25 : η2 0 19 = η 0 19 := (k2.1.2.2.2.1 0 19 (by decide +kernel)).trans v13
          have c2_0_19 : η2 0 19 = η 0 19 := v25
          have v26 : η2 0 44 = η 0 44 := (k2.1.2.2.2.1 0 44 (by decide +kernel)).trans v14
          have c2_0_44 : η2 0 44 = η 0 44 := v26
          have v27 : η2 0 7 = η 0 7 := (k2.1.2.2.2.1 0 7 (by decide +kernel)).trans v15
          have c2_0_7 : η2 0 7 = η 0 7 := v27
          have v28 : η2 0 6 = η 0 6 := (k2.1.2.2.2.1 0 6 (by decide +kernel)).trans v16
          have c2_0_6 : η2 0 6 = η 0 6 := v28
          have v29 : η2 0 8 = η 0 8 := (k2.1.2.2.2.1 0 8 (by decide +kernel)).trans v17
          have c2_0_8 : η2 0 8 = η 0 8 := v29
          have bx4 : ((-1) : Int) ≤ x4 ∧ x4 ≤ 6 := k4.1.2.1
          have v30 : η3 0 8 = η 0 8 := (k4.1.2.2.2.1 0 8 (by decide +kernel)).trans v29
          replace e5 : x5 = η 0 8 := e5.trans v30
          replace r5 : -2147483648 ≤ x5 ∧ x5 ≤ 2147483647 := r5
          have v32 : η1 0 9 = η 0 9 := (k1.1.2.2.2.1 0 9 (by decide +kernel)).trans rfl
          have v33 : η2 0 9 = η 0 9 := (k2.1.2.2.2.1 0 9 (by decide +kernel)).trans v32
          have v34 : η3 0 9 = η 0 9 := (k4.1.2.2.2.1 0 9 (by decide +kernel)).trans v33
          replace e6 : x6 = η 0 9 := e6.trans v34
          replace r6 : -2147483648 ≤ x6 ∧ x6 ≤ 2147483647 := r6
          have v35 : η3 0 41 = η 0 41 := (k4.1.2.2.2.1 0 41 (by decide +kernel)).trans v21
          have c3_0_41 : η3 0 41 = η 0 41 := v35
          have v36 : η3 0 43 = η 0 43 := (k4.1.2.2.2.1 0 43 (by decide +kernel)).trans v22
          have c3_0_43 : η3 0 43 = η 0 43 := v36
          have v37 : η3 0 42 = η 0 42 := (k4.1.2.2.2.1 0 42 (by decide +kernel)).trans v23
          have c3_0_42 : η3 0 42 = η 0 42 := v37
          have v38 : η3 0 45 = η 0 45 := (k4.1.2.2.2.1 0 45 (by decide +kernel)).trans v24
          have c3_0_45 : η3 0 45 = η 0 45 := v38
          have v39 : η3 0 19 = η 0 19 := (k4.1.2.2.2.1 0 19 (by decide +kernel)).trans v25
          have c3_0_19 : η3 0 19 = η 0 19 := v39
          have v40 : η3 0 44 = η 0 44 := (k4.1.2.2.2.1 0 44 (by decide +kernel)).trans v26
          have c3_0_44 : η3 0 44 = η 0 44 := v40
          have v41 : η3 0 7 = η 0 7 := (k4.1.2.2.2.1 0 7 (by decide +kernel)).trans v27
          have c3_0_7 : η3 0 7 = η 0 7 := v41
          have v42 : η3 0 6 = η 0 6 := (k4.1.2.2.2.1 0 6 (by decide +kernel)).trans v28
          have c3_0_6 : η3 0 6 = η 0 6 := v42
          have c3_0_8 : η3 0 8 = η 0 8 := v30
          have bx7 : (0 : Int) ≤ x7 ∧ x7 ≤ 1 := k7.1.2.1
          have v43 : η4 0 9 = η 0 9 := (k7.1.2.2.2.1 0 9 (by decide +kernel)).trans v34
          replace e8 : x8 = η 0 9 := e8.trans v43
          replace r8 : -2147483648 ≤ x8 ∧ x8 ≤ 2147483647 := r8
          have fm1 : zFm zMl_leafRead η η1 := zFm_tr2 zFm_rf k1.1.2.2.2.1 (by decide +kernel)
          have fm2 : zFm zMl_leafRead η η2 := zFm_tr2 fm1 k2.1.2.2.2.1 (by decide +kernel)
          have fm3 : zFm zMl_leafRead η η3 := zFm_tr2 fm2 k4.1.2.2.2.1 (by decide +kernel)
          have fm4 : zFm zMl_leafRead η η4 := zFm_tr2 fm3 k7.1.2.2.2.1 (by decide +kernel)
          have fmE : zFm zMl_leafRead η η4 := fm4
          have fr22_0 : ∀ j, η 22 j = η 22 j := fun _ => rfl
          have v44 : ∀ j, η1 22 j = η 22 j := fun j => k1.1.2.2.2.1 22 _ (zinr_not (by decide +kernel))
          have fr22_1 : ∀ j, η1 22 j = η 22 j := v44
          have v45 : ∀ j, η2 22 j = η 22 j := fun j => (k2.1.2.2.2.1 22 _ (zinr_not (by decide +kernel))).trans (v44 j)
          have fr22_2 : ∀ j, η2 22 j = η 22 j := v45
          have v46 : ∀ j, η3 22 j = η 22 j := fun j => (k4.1.2.2.2.1 22 _ (zinr_not (by decide +kernel))).trans (v45 j)
          have fr22_3 : ∀ j, η3 22 j = η 22 j := v46
          have v47 : ∀ j, η4 22 j = η 22 j := fun j => (k7.1.2.2.2.1 22 _ (zinr_not (by decide +kernel))).trans (v46 j)
          have fr22_4 : ∀ j, η4 22 j = η 22 j := v47
          have fr22 : ∀ j, η4 22 j = η 22 j := v47
          have v48 : η4 0 41 = η 0 41 := (k7.1.2.2.2.1 0 41 (by decide +kernel)).trans v35
          have f0_41 : η4 0 41 = η 0 41 := v48
          have v49 : η4 0 43 = η 0 43 := (k7.1.2.2.2.1 0 43 (by decide +kernel)).trans v36
          have f0_43 : η4 0 43 = η 0 43 := v49
          have v50 : η4 0 42 = η 0 42 := (k7.1.2.2.2.1 0 42 (by decide +kernel)).trans v37
          have f0_42 : η4 0 42 = η 0 42 := v50
          have v51 : η4 0 45 = η 0 45 := (k7.1.2.2.2.1 0 45 (by decide +kernel)).trans v38
          have f0_45 : η4 0 45 = η 0 45 := v51
          have v52 : η4 0 19 = η 0 19 := (k7.1.2.2.2.1 0 19 (by decide +kernel)).trans v39
          have f0_19 : η4 0 19 = η 0 19 := v52
          have w4_0_44 : (0 : Int) ≤ η4 0 44 ∧ η4 0 44 ≤ 64 := wf_ok (a := 44) (b := 44) (z := (0, 64)) k7.1.1 (by decide +kernel) (Nat.le_refl _) (Nat.le_refl _)
          have f0_44 : η4 0 44 = η4 0 44 := rfl
          have v54 : η4 0 7 = η 0 7 := (k7.1.2.2.2.1 0 7 (by decide +kernel)).trans v41
          have f0_7 : η4 0 7 = η 0 7 := v54
          have v55 : η4 0 6 = η 0 6 := (k7.1.2.2.2.1 0 6 (by decide +kernel)).trans v42
          have f0_6 : η4 0 6 = η 0 6 := v55
          have v56 : η4 0 8 = η 0 8 := (k7.1.2.2.2.1 0 8 (by decide +kernel)).trans v30
          have f0_8 : η4 0 8 = η 0 8 := v56
          have wb1 : wB wl_l zTr η1 := k1.1.1
          have wb2 : wB wl_l zTr η2 := k2.1.1
          have wb3 : wB wl_l zTr η3 := k4.1.1
          have wb4 : wB wl_l zTr η4 := k7.1.1
          have wbE : wB wl_l zTr η4 := wb4
          have I0 : H_l 0 0 0 η := hpp.1
          have I1 : H_l 0 0 0 η1 := k1.2.1
          have I2 : H_l 0 0 0 η2 := k2.2.1
          have qk2 : η1 0 8 = 1 := k2.2.2 c2
          have I3 : H_l 0 0 0 η3 := k4.2.1
          have I4 : H_l 1 0 0 η4 := k7.2.1 c8
          obtain ⟨j1, j2, j3, j4⟩ := I4.2
          have cn := cz_n (η := η4) (η4 0 41).toNat
          exact ⟨Or.inl I4, ⟨fun w => absurd w (by decide), fun w => absurd rfl w, fun w => absurd rfl w⟩, show 0 ≤ η4 0 42 by omega, show η4 0 42 ≤ 95 by omega⟩
        · show ∀ (x1 : Int) (η1 : zE), ((gC2 wl_l [(nat_lit 0, zPl_isSign, zOl_isSign, zMl_isSign), (nat_lit 1, zPl_wrong, zOl_wrong, zMl_wrong), (nat_lit 2, zPl_waitsFor0, zOl_waitsFor0, zMl_waitsFor0), (nat_lit 3, zPl_token, zOl_token, zMl_token), (nat_lit 4, zPl_isKey, zOl_isKey, zMl_isKey), (nat_lit 5, zPl_isCounted, zOl_isCounted, zMl_isCounted), (nat_lit 6, zPl_waitsFor2, zOl_waitsFor2, zMl_waitsFor2), (nat_lit 7, zPl_nameMet, zOl_nameMet, zMl_nameMet), (nat_lit 8, zPl_grown, zOl_grown, zMl_grown)] pCl_leafRead qCl_leafRead) 0).2 [40] η x1 η1 → (x1 = 0) → ∀ (x2 : Int) (η2 : zE), ((gC2 wl_l [(nat_lit 0, zPl_isSign, zOl_isSign, zMl_isSign), (nat_lit 1, zPl_wrong, zOl_wrong, zMl_wrong), (nat_lit 2, zPl_waitsFor0, zOl_waitsFor0, zMl_waitsFor0), (nat_lit 3, zPl_token, zOl_token, zMl_token), (nat_lit 4, zPl_isKey, zOl_isKey, zMl_isKey), (nat_lit 5, zPl_isCounted, zOl_isCounted, zMl_isCounted), (nat_lit 6, zPl_waitsFor2, zOl_waitsFor2, zMl_waitsFor2), (nat_lit 7, zPl_nameMet, zOl_nameMet, zMl_nameMet), (nat_lit 8, zPl_grown, zOl_grown, zMl_grown)] pCl_leafRead qCl_leafRead) 4).2 [12] η1 x2 η2 → (¬ x2 = 0) → ∀ x3 : Int, x3 = η2 0 (Int.toNat 46) → zok 1 x3 → (x3 = 0) → ∀ (x4 : Int) (η3 : zE), ((gC2 wl_l [(nat_lit 0, zPl_isSign, zOl_isSign, zMl_isSign), (nat_lit 1, zPl_wrong, zOl_wrong, zMl_wrong), (nat_lit 2, zPl_waitsFor0, zOl_waitsFor0, zMl_waitsFor0), (nat_lit 3, zPl_token, zOl_token, zMl_token), (nat_lit 4, zPl_isKey, zOl_isKey, zMl_isKey), (nat_lit 5, zPl_isCounted, zOl_isCounted, zMl_isCounted), (nat_lit 6, zPl_waitsFor2, zOl_waitsFor2, zMl_waitsFor2), (nat_lit 7, zPl_nameMet, zOl_nameMet, zMl_nameMet), (nat_lit 8, zPl_grown, zOl_grown, zMl_grown)] pCl_leafRead qCl_leafRead) 7).2 [] η2 x4 η3 → (x4 < 0) → ∀ x5 : Int, x5 = η3 0 (Int.toNat 8) → zok 0 x5 → (x5 = 3) → (x4 < 0) → ∀ x6 : Int, x6 = η3 0 (Int.toNat 9) → zok 0 x6 → (x6 ≤ 9999) → ∀ (x7 : Int) (η4 : zE), ((gC2 wl_l [(nat_lit 0, zPl_isSign, zOl_isSign, zMl_isSign), (nat_lit 1, zPl_wrong, zOl_wrong, zMl_wrong), (nat_lit 2, zPl_waitsFor0, zOl_waitsFor0, zMl_waitsFor0), (nat_lit 3, zPl_token, zOl_token, zMl_token), (nat_lit 4, zPl_isKey, zOl_isKey, zMl_isKey), (nat_lit 5, zPl_isCounted, zOl_isCounted, zMl_isCounted), (nat_lit 6, zPl_waitsFor2, zOl_waitsFor2, zMl_waitsFor2), (nat_lit 7, zPl_nameMet, zOl_nameMet, zMl_nameMet), (nat_lit 8, zPl_grown, zOl_grown, zMl_grown)] pCl_leafRead qCl_leafRead) 5).2 [] η3 x7 η4 → (¬ x7 = 0) → (x4 < 0) → (x4 < 0) → ∀ x8 : Int, x8 = η4 0 (Int.toNat 9) → zok 0 x8 → ∀ (x9 : Int) (η5 : zE), ((gC2 wl_l [(nat_lit 0, zPl_isSign, zOl_isSign, zMl_isSign), (nat_lit 1, zPl_wrong, zOl_wrong, zMl_wrong), (nat_lit 2, zPl_waitsFor0, zOl_waitsFor0, zMl_waitsFor0), (nat_lit 3, zPl_token, zOl_token, zMl_token), (nat_lit 4, zPl_isKey, zOl_isKey, zMl_isKey), (nat_lit 5, zPl_isCounted, zOl_isCounted, zMl_isCounted), (nat_lit 6, zPl_waitsFor2, zOl_waitsFor2, zMl_waitsFor2), (nat_lit 7, zPl_nameMet, zOl_nameMet, zMl_nameMet), (nat_lit 8, zPl_grown, zOl_grown, zMl_grown)] pCl_leafRead qCl_leafRead) 8).2 [0, x8, 0] η4 x9 η5 → ∀ η6 : zE, η6 = zup η5 0 (Int.toNat 45) 0 → ((gC2 wl_l [(nat_lit 0, zPl_isSign, zOl_isSign, zMl_isSign), (nat_lit 1, zPl_wrong, zOl_wrong, zMl_wrong), (nat_lit 2, zPl_waitsFor0, zOl_waitsFor0, zMl_waitsFor0), (nat_lit 3, zPl_token, zOl_token, zMl_token), (nat_lit 4, zPl_isKey, zOl_isKey, zMl_isKey), (nat_lit 5, zPl_isCounted, zOl_isCounted, zMl_isCounted), (nat_lit 6, zPl_waitsFor2, zOl_waitsFor2, zMl_waitsFor2), (nat_lit 7, zPl_nameMet, zOl_nameMet, zMl_nameMet), (nat_lit 8, zPl_grown, zOl_grown, zMl_grown)] pCl_leafRead qCl_leafRead) 3).1 [] η6
          have hw : η 0 45 = 1 := hpp.2
          have hs : η 0 7 ≤ η 0 6 := hpp.1.1.1.1
          have bd43 : (0 : Int) ≤ η 0 43 ∧ η 0 43 ≤ 8 := wf_ok (a := 43) (b := 43) (z := (0, 8)) hp.1 (by decide +kernel) (Nat.le_refl _) (Nat.le_refl _)
          have bd44 : (0 : Int) ≤ η 0 44 ∧ η 0 44 ≤ 64 := wf_ok (a := 44) (b := 44) (z := (0, 64)) hp.1 (by decide +kernel) (Nat.le_refl _) (Nat.le_refl _)
          have bd19 : (0 : Int) ≤ η 0 19 ∧ η 0 19 ≤ 64 := wf_ok (a := 19) (b := 19) (z := (0, 64)) hp.1 (by decide +kernel) (Nat.le_refl _) (Nat.le_refl _)
          intro x1 η1 h1 c1 x2 η2 h2 c2 x3 e3 r3 c3 x4 η3 h4 c4 x5 e5 r5 c5 c6 x6 e6 r6 c7 x7 η4 h7 c8 c9 c10 x8 e8 r8 x9 η5 h9 η6 eη6
          have k1 : sQ wl_l zTr zOl_isSign zMl_isSign [40] η x1 η1 ∧ pQl_isSign [40] η x1 η1 := h1
          have k2 : sQ wl_l zTr zOl_isKey zMl_isKey [12] η1 x2 η2 ∧ pQl_isKey [12] η1 x2 η2 := h2
          have k4 : sQ wl_l zTr zOl_nameMet zMl_nameMet [] η2 x4 η3 ∧ pQl_nameMet [] η2 x4 η3 := h4
          have k7 : sQ wl_l zTr zOl_isCounted zMl_isCounted [] η3 x7 η4 ∧ pQl_isCounted [] η3 x7 η4 := h7
          have k9 : sQ wl_l zTr zOl_grown zMl_grown [0, x8, 0] η4 x9 η5 ∧ pQl_grown [0, x8, 0] η4 x9 η5 := h9
          have c0_0_41 : η 0 41 = η 0 41 := rfl
          have w0_0_43 : (0 : Int) ≤ η 0 43 ∧ η 0 43 ≤ 8 := wf_ok (a := 43) (b := 43) (z := (0, 8)) hp.1 (by decide +kernel) (Nat.le_refl _) (Nat.le_refl _)
          have c0_0_43 : η 0 43 = η 0 43 := rfl
          have c0_0_42 : η 0 42 = η 0 42 := rfl
          have c0_0_45 : η 0 45 = η 0 45 := rfl
          have w0_0_19 : (0 : Int) ≤ η 0 19 ∧ η 0 19 ≤ 64 := wf_ok (a := 19) (b := 19) (z := (0, 64)) hp.1 (by decide +kernel) (Nat.le_refl _) (Nat.le_refl _)
          have c0_0_19 : η 0 19 = η 0 19 := rfl
          have w0_0_44 : (0 : Int) ≤ η 0 44 ∧ η 0 44 ≤ 64 := wf_ok (a := 44) (b := 44) (z := (0, 64)) hp.1 (by decide +kernel) (Nat.le_refl _) (Nat.le_refl _)
          have c0_0_44 : η 0 44 = η 0 44 := rfl
          have w0_0_7 : (0 : Int) ≤ η 0 7 ∧ η 0 7 ≤ 700 := wf_ok (a := 7) (b := 7) (z := (0, 700)) hp.1 (by decide +kernel) (Nat.le_refl _) (Nat.le_refl _)
          have c0_0_7 : η 0 7 = η 0 7 := rfl
          have w0_0_6 : (0 : Int) ≤ η 0 6 ∧ η 0 6 ≤ 700 := wf_ok (a := 6) (b := 6) (z := (0, 700)) hp.1 (by decide +kernel) (Nat.le_refl _) (Nat.le_refl _)
          have c0_0_6 : η 0 6 = η 0 6 := rfl
          have w0_0_8 : (0 : Int) ≤ η 0 8 ∧ η 0 8 ≤ 6 := wf_ok (a := 8) (b := 8) (z := (0, 6)) hp.1 (by decide +kernel) (Nat.le_refl _) (Nat.le_refl _)
          have c0_0_8 : η 0 8 = η 0 8 := rfl
          have bx1 : (0 : Int) ≤ x1 ∧ x1 ≤ 1 := k1.1.2.1
          have v9 : η1 0 41 = η 0 41 := (k1.1.2.2.2.1 0 41 (by decide +kernel)).trans rfl
          have c1_0_41 : η1 0 41 = η 0 41 := v9
          have v10 : η1 0 43 = η 0 43 := (k1.1.2.2.2.1 0 43 (by decide +kernel)).trans rfl
          have c1_0_43 : η1 0 43 = η 0 43 := v10
          have v11 : η1 0 42 = η 0 42 := (k1.1.2.2.2.1 0 42 (by decide +kernel)).trans rfl
          have c1_0_42 : η1 0 42 = η 0 42 := v11
          have v12 : η1 0 45 = η 0 45 := (k1.1.2.2.2.1 0 45 (by decide +kernel)).trans rfl
          have c1_0_45 : η1 0 45 = η 0 45 := v12
          have v13 : η1 0 19 = η 0 19 := (k1.1.2.2.2.1 0 19 (by decide +kernel)).trans rfl
          have c1_0_19 : η1 0 19 = η 0 19 := v13
          have v14 : η1 0 44 = η 0 44 := (k1.1.2.2.2.1 0 44 (by decide +kernel)).trans rfl
          have c1_0_44 : η1 0 44 = η 0 44 := v14
          have v15 : η1 0 7 = η 0 7 := (k1.1.2.2.2.1 0 7 (by decide +kernel)).trans rfl
          have c1_0_7 : η1 0 7 = η 0 7 := v15
          have v16 : η1 0 6 = η 0 6 := (k1.1.2.2.2.1 0 6 (by decide +kernel)).trans rfl
          have c1_0_6 : η1 0 6 = η 0 6 := v16
          have v17 : η1 0 8 = η 0 8 := (k1.1.2.2.2.1 0 8 (by decide +kernel)).trans rfl
          have c1_0_8 : η1 0 8 = η 0 8 := v17
          have bx2 : (0 : Int) ≤ x2 ∧ x2 ≤ 1 := k2.1.2.1
          have v19 : η1 0 46 = η 0 46 := (k1.1.2.2.2.1 0 46 (by decide +kernel)).trans rfl
          have v20 : η2 0 46 = η 0 46 := (k2.1.2.2.2.1 0 46 (by decide +kernel)).trans v19
          replace e3 : x3 = η 0 46 := e3.trans v20
          replace r3 : 0 ≤ x3 ∧ x3 ≤ 1 := r3
          have v21 : η2 0 41 = η 0 41 := (k2.1.2.2.2.1 0 41 (by decide +kernel)).trans v9
          have c2_0_41 : η2 0 41 = η 0 41 := v21
          have v22 : η2 0 43 = η 0 43 := (k2.1.2.2.2.1 0 43 (by decide +kernel)).trans v10
          have c2_0_43 : η2 0 43 = η 0 43 := v22
          have v23 : η2 0 42 = η 0 42 := (k2.1.2.2.2.1 0 42 (by decide +kernel)).trans v11
          have c2_0_42 : η2 0 42 = η 0 42 := v23
          have v24 : η2 0 45 = η 0 45 := (k2.1.2.2.2.1 0 45 (by decide +kernel)).trans v12
          have c2_0_45 : η2 0 45 = η 0 45 := v24
          have v25 : η2 0 19 = η 0 19 := (k2.1.2.2.2.1 0 19 (by decide +kernel)).trans v13
          have c2_0_19 : η2 0 19 = η 0 19 := v25
          have v26 : η2 0 44 = η 0 44 := (k2.1.2.2.2.1 0 44 (by decide +kernel)).trans v14
          have c2_0_44 : η2 0 44 = η 0 44 := v26
          have v27 : η2 0 7 = η 0 7 := (k2.1.2.2.2.1 0 7 (by decide +kernel)).trans v15
          have c2_0_7 : η2 0 7 = η 0 7 := v27
          have v28 : η2 0 6 = η 0 6 := (k2.1.2.2.2.1 0 6 (by decide +kernel)).trans v16
          have c2_0_6 : η2 0 6 = η 0 6 := v28
          have v29 : η2 0 8 = η 0 8 := (k2.1.2.2.2.1 0 8 (by decide +kernel)).trans v17
          have c2_0_8 : η2 0 8 = η 0 8 := v29
          have bx4 : ((-1) : Int) ≤ x4 ∧ x4 ≤ 6 := k4.1.2.1
          have v30 : η3 0 8 = η 0 8 := (k4.1.2.2.2.1 0 8 (by decide +kernel)).trans v29
          replace e5 : x5 = η 0 8 := e5.trans v30
          replace r5 : -2147483648 ≤ x5 ∧ x5 ≤ 2147483647 := r5
          have v32 : η1 0 9 = η 0 9 := (k1.1.2.2.2.1 0 9 (by decide +kernel)).trans rfl
          have v33 : η2 0 9 = η 0 9 := (k2.1.2.2.2.1 0 9 (by decide +kernel)).trans v32
          have v34 : η3 0 9 = η 0 9 := (k4.1.2.2.2.1 0 9 (by decide +kernel)).trans v33
          replace e6 : x6 = η 0 9 := e6.trans v34
          replace r6 : -2147483648 ≤ x6 ∧ x6 ≤ 2147483647 := r6
          have v35 : η3 0 41 = η 0 41 := (k4.1.2.2.2.1 0 41 (by decide +kernel)).trans v21
          have c3_0_41 : η3 0 41 = η 0 41 := v35
          have v36 : η3 0 43 = η 0 43 := (k4.1.2.2.2.1 0 43 (by decide +kernel)).trans v22
          have c3_0_43 : η3 0 43 = η 0 43 := v36
          have v37 : η3 0 42 = η 0 42 := (k4.1.2.2.2.1 0 42 (by decide +kernel)).trans v23
          have c3_0_42 : η3 0 42 = η 0 42 := v37
          have v38 : η3 0 45 = η 0 45 := (k4.1.2.2.2.1 0 45 (by decide +kernel)).trans v24
          have c3_0_45 : η3 0 45 = η 0 45 := v38
          have v39 : η3 0 19 = η 0 19 := (k4.1.2.2.2.1 0 19 (by decide +kernel)).trans v25
          have c3_0_19 : η3 0 19 = η 0 19 := v39
          have v40 : η3 0 44 = η 0 44 := (k4.1.2.2.2.1 0 44 (by decide +kernel)).trans v26
          have c3_0_44 : η3 0 44 = η 0 44 := v40
          have v41 : η3 0 7 = η 0 7 := (k4.1.2.2.2.1 0 7 (by decide +kernel)).trans v27
          have c3_0_7 : η3 0 7 = η 0 7 := v41
          have v42 : η3 0 6 = η 0 6 := (k4.1.2.2.2.1 0 6 (by decide +kernel)).trans v28
          have c3_0_6 : η3 0 6 = η 0 6 := v42
          have c3_0_8 : η3 0 8 = η 0 8 := v30
          have bx7 : (0 : Int) ≤ x7 ∧ x7 ≤ 1 := k7.1.2.1
          have v43 : η4 0 9 = η 0 9 := (k7.1.2.2.2.1 0 9 (by decide +kernel)).trans v34
          replace e8 : x8 = η 0 9 := e8.trans v43
          replace r8 : -2147483648 ≤ x8 ∧ x8 ≤ 2147483647 := r8
          have v44 : η4 0 41 = η 0 41 := (k7.1.2.2.2.1 0 41 (by decide +kernel)).trans v35
          have c4_0_41 : η4 0 41 = η 0 41 := v44
          have v45 : η4 0 43 = η 0 43 := (k7.1.2.2.2.1 0 43 (by decide +kernel)).trans v36
          have c4_0_43 : η4 0 43 = η 0 43 := v45
          have v46 : η4 0 42 = η 0 42 := (k7.1.2.2.2.1 0 42 (by decide +kernel)).trans v37
          have c4_0_42 : η4 0 42 = η 0 42 := v46
          have v47 : η4 0 45 = η 0 45 := (k7.1.2.2.2.1 0 45 (by decide +kernel)).trans v38
          have c4_0_45 : η4 0 45 = η 0 45 := v47
          have v48 : η4 0 19 = η 0 19 := (k7.1.2.2.2.1 0 19 (by decide +kernel)).trans v39
          have c4_0_19 : η4 0 19 = η 0 19 := v48
          have w4_0_44 : (0 : Int) ≤ η4 0 44 ∧ η4 0 44 ≤ 64 := wf_ok (a := 44) (b := 44) (z := (0, 64)) k7.1.1 (by decide +kernel) (Nat.le_refl _) (Nat.le_refl _)
          have c4_0_44 : η4 0 44 = η4 0 44 := rfl
          have v50 : η4 0 7 = η 0 7 := (k7.1.2.2.2.1 0 7 (by decide +kernel)).trans v41
          have c4_0_7 : η4 0 7 = η 0 7 := v50
          have v51 : η4 0 6 = η 0 6 := (k7.1.2.2.2.1 0 6 (by decide +kernel)).trans v42
          have c4_0_6 : η4 0 6 = η 0 6 := v51
          have v52 : η4 0 8 = η 0 8 := (k7.1.2.2.2.1 0 8 (by decide +kernel)).trans v30
          have c4_0_8 : η4 0 8 = η 0 8 := v52
          have bx9 : (0 : Int) ≤ x9 ∧ x9 ≤ 0 := k9.1.2.1
          have fm1 : zFm zMl_leafRead η η1 := zFm_tr2 zFm_rf k1.1.2.2.2.1 (by decide +kernel)
          have fm2 : zFm zMl_leafRead η η2 := zFm_tr2 fm1 k2.1.2.2.2.1 (by decide +kernel)
          have fm3 : zFm zMl_leafRead η η3 := zFm_tr2 fm2 k4.1.2.2.2.1 (by decide +kernel)
          have fm4 : zFm zMl_leafRead η η4 := zFm_tr2 fm3 k7.1.2.2.2.1 (by decide +kernel)
          have fm5 : zFm zMl_leafRead η η5 := zFm_tr2 fm4 k9.1.2.2.2.1 (by decide +kernel)
          have fm6 : zFm zMl_leafRead η η6 := by rw [eη6]; exact zFm_up fm5 rfl
          have fmE : zFm zMl_leafRead η η6 := fm6
          have fr22_0 : ∀ j, η 22 j = η 22 j := fun _ => rfl
          have v53 : ∀ j, η1 22 j = η 22 j := fun j => k1.1.2.2.2.1 22 _ (zinr_not (by decide +kernel))
          have fr22_1 : ∀ j, η1 22 j = η 22 j := v53
          have v54 : ∀ j, η2 22 j = η 22 j := fun j => (k2.1.2.2.2.1 22 _ (zinr_not (by decide +kernel))).trans (v53 j)
          have fr22_2 : ∀ j, η2 22 j = η 22 j := v54
          have v55 : ∀ j, η3 22 j = η 22 j := fun j => (k4.1.2.2.2.1 22 _ (zinr_not (by decide +kernel))).trans (v54 j)
          have fr22_3 : ∀ j, η3 22 j = η 22 j := v55
          have v56 : ∀ j, η4 22 j = η 22 j := fun j => (k7.1.2.2.2.1 22 _ (zinr_not (by decide +kernel))).trans (v55 j)
          have fr22_4 : ∀ j, η4 22 j = η 22 j := v56
          have v57 : ∀ j, η5 22 j = η 22 j := fun j => (k9.1.2.2.2.1 22 _ (zinr_not (by decide +kernel))).trans (v56 j)
          have fr22_5 : ∀ j, η5 22 j = η 22 j := v57
          have v58 : ∀ j, η6 22 j = η 22 j := fun j => by rw [eη6]; exact (zup_ne (fun e _ => absurd e (by decide))).trans (v57 j)
          have fr22_6 : ∀ j, η6 22 j = η 22 j := v58
          have fr22 : ∀ j, η6 22 j = η 22 j := v58
          have v59 : η5 0 41 = η 0 41 := (k9.1.2.2.2.1 0 41 (by decide +kernel)).trans v44
          have v60 : η6 0 41 = η 0 41 := by rw [eη6]; exact (zup_ne (fun _ e => absurd e (by decide))).trans v59
          have f0_41 : η6 0 41 = η 0 41 := v60
          have v61 : η5 0 43 = η 0 43 := (k9.1.2.2.2.1 0 43 (by decide +kernel)).trans v45
          have v62 : η6 0 43 = η 0 43 := by rw [eη6]; exact (zup_ne (fun _ e => absurd e (by decide))).trans v61
          have f0_43 : η6 0 43 = η 0 43 := v62
          have v64 : η6 0 42 = η5 0 42 := by rw [eη6]; exact (zup_ne (fun _ e => absurd e (by decide))).trans rfl
          have f0_42 : η6 0 42 = η5 0 42 := v64
          have v65 : η6 0 45 = 0 := by rw [eη6]; exact zup_eq
          have f0_45 : η6 0 45 = 0 := v65
          have w5_0_19 : (0 : Int) ≤ η5 0 19 ∧ η5 0 19 ≤ 64 := wf_ok (a := 19) (b := 19) (z := (0, 64)) k9.1.1 (by decide +kernel) (Nat.le_refl _) (Nat.le_refl _)
          have v67 : η6 0 19 = η5 0 19 := by rw [eη6]; exact (zup_ne (fun _ e => absurd e (by decide))).trans rfl
          have f0_19 : η6 0 19 = η5 0 19 := v67
          have v68 : η5 0 44 = η4 0 44 := (k9.1.2.2.2.1 0 44 (by decide +kernel)).trans rfl
          have v69 : η6 0 44 = η4 0 44 := by rw [eη6]; exact (zup_ne (fun _ e => absurd e (by decide))).trans v68
          have f0_44 : η6 0 44 = η4 0 44 := v69
          have v70 : η5 0 7 = η 0 7 := (k9.1.2.2.2.1 0 7 (by decide +kernel)).trans v50
          have v71 : η6 0 7 = η 0 7 := by rw [eη6]; exact (zup_ne (fun _ e => absurd e (by decide))).trans v70
          have f0_7 : η6 0 7 = η 0 7 := v71
          have v72 : η5 0 6 = η 0 6 := (k9.1.2.2.2.1 0 6 (by decide +kernel)).trans v51
          have v73 : η6 0 6 = η 0 6 := by rw [eη6]; exact (zup_ne (fun _ e => absurd e (by decide))).trans v72
          have f0_6 : η6 0 6 = η 0 6 := v73
          have v74 : η5 0 8 = η 0 8 := (k9.1.2.2.2.1 0 8 (by decide +kernel)).trans v52
          have v75 : η6 0 8 = η 0 8 := by rw [eη6]; exact (zup_ne (fun _ e => absurd e (by decide))).trans v74
          have f0_8 : η6 0 8 = η 0 8 := v75
          have wb1 : wB wl_l zTr η1 := k1.1.1
          have wb2 : wB wl_l zTr η2 := k2.1.1
          have wb3 : wB wl_l zTr η3 := k4.1.1
          have wb4 : wB wl_l zTr η4 := k7.1.1
          have wb5 : wB wl_l zTr η5 := k9.1.1
          have wb6 : wB wl_l zTr η6 := by rw [eη6]; exact wk_ok (a := 45) (b := 45) (z := ((-2147483648), 2147483647)) zTr_k (GR := []) wb5 (by decide +kernel) (by decide) (by decide) (show ((-2147483648) : Int) ≤ 0 by omega) (show 0 ≤ (2147483647 : Int) by omega)
          have wbE : wB wl_l zTr η6 := wb6
          have I0 : H_l 0 0 0 η := hpp.1
          have I1 : H_l 0 0 0 η1 := k1.2.1
          have I2 : H_l 0 0 0 η2 := k2.2.1
          have qk2 : η1 0 8 = 1 := k2.2.2 c2
          have I3 : H_l 0 0 0 η3 := k4.2.1
          have I4 : H_l 1 0 0 η4 := k7.2.1 c8
          have I5 : H_l 0 0 1 η5 := k9.2.1 I4
          have qg9 : η5 0 19 = η4 0 19 + 1 := k9.2.2.2
          have I6 : H_l 0 0 0 η6 := by rw [eη6]; exact h_eq (wn_up I5) rfl rfl (by omega)
          exact I6
        · show ∀ (x1 : Int) (η1 : zE), ((gC2 wl_l [(nat_lit 0, zPl_isSign, zOl_isSign, zMl_isSign), (nat_lit 1, zPl_wrong, zOl_wrong, zMl_wrong), (nat_lit 2, zPl_waitsFor0, zOl_waitsFor0, zMl_waitsFor0), (nat_lit 3, zPl_token, zOl_token, zMl_token), (nat_lit 4, zPl_isKey, zOl_isKey, zMl_isKey), (nat_lit 5, zPl_isCounted, zOl_isCounted, zMl_isCounted), (nat_lit 6, zPl_waitsFor2, zOl_waitsFor2, zMl_waitsFor2), (nat_lit 7, zPl_nameMet, zOl_nameMet, zMl_nameMet), (nat_lit 8, zPl_grown, zOl_grown, zMl_grown)] pCl_leafRead qCl_leafRead) 0).2 [40] η x1 η1 → (x1 = 0) → ∀ (x2 : Int) (η2 : zE), ((gC2 wl_l [(nat_lit 0, zPl_isSign, zOl_isSign, zMl_isSign), (nat_lit 1, zPl_wrong, zOl_wrong, zMl_wrong), (nat_lit 2, zPl_waitsFor0, zOl_waitsFor0, zMl_waitsFor0), (nat_lit 3, zPl_token, zOl_token, zMl_token), (nat_lit 4, zPl_isKey, zOl_isKey, zMl_isKey), (nat_lit 5, zPl_isCounted, zOl_isCounted, zMl_isCounted), (nat_lit 6, zPl_waitsFor2, zOl_waitsFor2, zMl_waitsFor2), (nat_lit 7, zPl_nameMet, zOl_nameMet, zMl_nameMet), (nat_lit 8, zPl_grown, zOl_grown, zMl_grown)] pCl_leafRead qCl_leafRead) 4).2 [12] η1 x2 η2 → (¬ x2 = 0) → ∀ x3 : Int, x3 = η2 0 (Int.toNat 46) → zok 1 x3 → (x3 = 0) → ∀ (x4 : Int) (η3 : zE), ((gC2 wl_l [(nat_lit 0, zPl_isSign, zOl_isSign, zMl_isSign), (nat_lit 1, zPl_wrong, zOl_wrong, zMl_wrong), (nat_lit 2, zPl_waitsFor0, zOl_waitsFor0, zMl_waitsFor0), (nat_lit 3, zPl_token, zOl_token, zMl_token), (nat_lit 4, zPl_isKey, zOl_isKey, zMl_isKey), (nat_lit 5, zPl_isCounted, zOl_isCounted, zMl_isCounted), (nat_lit 6, zPl_waitsFor2, zOl_waitsFor2, zMl_waitsFor2), (nat_lit 7, zPl_nameMet, zOl_nameMet, zMl_nameMet), (nat_lit 8, zPl_grown, zOl_grown, zMl_grown)] pCl_leafRead qCl_leafRead) 7).2 [] η2 x4 η3 → (x4 < 0) → ∀ x5 : Int, x5 = η3 0 (Int.toNat 8) → zok 0 x5 → (x5 = 3) → (x4 < 0) → ∀ x6 : Int, x6 = η3 0 (Int.toNat 9) → zok 0 x6 → (x6 ≤ 9999) → ∀ (x7 : Int) (η4 : zE), ((gC2 wl_l [(nat_lit 0, zPl_isSign, zOl_isSign, zMl_isSign), (nat_lit 1, zPl_wrong, zOl_wrong, zMl_wrong), (nat_lit 2, zPl_waitsFor0, zOl_waitsFor0, zMl_waitsFor0), (nat_lit 3, zPl_token, zOl_token, zMl_token), (nat_lit 4, zPl_isKey, zOl_isKey, zMl_isKey), (nat_lit 5, zPl_isCounted, zOl_isCounted, zMl_isCounted), (nat_lit 6, zPl_waitsFor2, zOl_waitsFor2, zMl_waitsFor2), (nat_lit 7, zPl_nameMet, zOl_nameMet, zMl_nameMet), (nat_lit 8, zPl_grown, zOl_grown, zMl_grown)] pCl_leafRead qCl_leafRead) 5).2 [] η3 x7 η4 → (¬ x7 = 0) → (x4 < 0) → (x4 < 0) → ∀ x8 : Int, x8 = η4 0 (Int.toNat 9) → zok 0 x8 → ∀ (x9 : Int) (η5 : zE), ((gC2 wl_l [(nat_lit 0, zPl_isSign, zOl_isSign, zMl_isSign), (nat_lit 1, zPl_wrong, zOl_wrong, zMl_wrong), (nat_lit 2, zPl_waitsFor0, zOl_waitsFor0, zMl_waitsFor0), (nat_lit 3, zPl_token, zOl_token, zMl_token), (nat_lit 4, zPl_isKey, zOl_isKey, zMl_isKey), (nat_lit 5, zPl_isCounted, zOl_isCounted, zMl_isCounted), (nat_lit 6, zPl_waitsFor2, zOl_waitsFor2, zMl_waitsFor2), (nat_lit 7, zPl_nameMet, zOl_nameMet, zMl_nameMet), (nat_lit 8, zPl_grown, zOl_grown, zMl_grown)] pCl_leafRead qCl_leafRead) 8).2 [0, x8, 0] η4 x9 η5 → ∀ η6 : zE, η6 = zup η5 0 (Int.toNat 45) 0 → ∀ (x10 : Int) (η7 : zE), ((gC2 wl_l [(nat_lit 0, zPl_isSign, zOl_isSign, zMl_isSign), (nat_lit 1, zPl_wrong, zOl_wrong, zMl_wrong), (nat_lit 2, zPl_waitsFor0, zOl_waitsFor0, zMl_waitsFor0), (nat_lit 3, zPl_token, zOl_token, zMl_token), (nat_lit 4, zPl_isKey, zOl_isKey, zMl_isKey), (nat_lit 5, zPl_isCounted, zOl_isCounted, zMl_isCounted), (nat_lit 6, zPl_waitsFor2, zOl_waitsFor2, zMl_waitsFor2), (nat_lit 7, zPl_nameMet, zOl_nameMet, zMl_nameMet), (nat_lit 8, zPl_grown, zOl_grown, zMl_grown)] pCl_leafRead qCl_leafRead) 3).2 [] η6 x10 η7 → (fun (_ : Nat) (y : Int) (η' : zE) => pQl_leafRead [] η y η') 0 1 η7
          have hw : η 0 45 = 1 := hpp.2
          have hs : η 0 7 ≤ η 0 6 := hpp.1.1.1.1
          have bd43 : (0 : Int) ≤ η 0 43 ∧ η 0 43 ≤ 8 := wf_ok (a := 43) (b := 43) (z := (0, 8)) hp.1 (by decide +kernel) (Nat.le_refl _) (Nat.le_refl _)
          have bd44 : (0 : Int) ≤ η 0 44 ∧ η 0 44 ≤ 64 := wf_ok (a := 44) (b := 44) (z := (0, 64)) hp.1 (by decide +kernel) (Nat.le_refl _) (Nat.le_refl _)
          have bd19 : (0 : Int) ≤ η 0 19 ∧ η 0 19 ≤ 64 := wf_ok (a := 19) (b := 19) (z := (0, 64)) hp.1 (by decide +kernel) (Nat.le_refl _) (Nat.le_refl _)
          intro x1 η1 h1 c1 x2 η2 h2 c2 x3 e3 r3 c3 x4 η3 h4 c4 x5 e5 r5 c5 c6 x6 e6 r6 c7 x7 η4 h7 c8 c9 c10 x8 e8 r8 x9 η5 h9 η6 eη6 x10 η7 h10
          have k1 : sQ wl_l zTr zOl_isSign zMl_isSign [40] η x1 η1 ∧ pQl_isSign [40] η x1 η1 := h1
          have k2 : sQ wl_l zTr zOl_isKey zMl_isKey [12] η1 x2 η2 ∧ pQl_isKey [12] η1 x2 η2 := h2
          have k4 : sQ wl_l zTr zOl_nameMet zMl_nameMet [] η2 x4 η3 ∧ pQl_nameMet [] η2 x4 η3 := h4
          have k7 : sQ wl_l zTr zOl_isCounted zMl_isCounted [] η3 x7 η4 ∧ pQl_isCounted [] η3 x7 η4 := h7
          have k9 : sQ wl_l zTr zOl_grown zMl_grown [0, x8, 0] η4 x9 η5 ∧ pQl_grown [0, x8, 0] η4 x9 η5 := h9
          have k10 : sQ wl_l zTr zOl_token zMl_token [] η6 x10 η7 ∧ pQl_token [] η6 x10 η7 := h10
          have c0_0_41 : η 0 41 = η 0 41 := rfl
          have w0_0_43 : (0 : Int) ≤ η 0 43 ∧ η 0 43 ≤ 8 := wf_ok (a := 43) (b := 43) (z := (0, 8)) hp.1 (by decide +kernel) (Nat.le_refl _) (Nat.le_refl _)
          have c0_0_43 : η 0 43 = η 0 43 := rfl
          have c0_0_42 : η 0 42 = η 0 42 := rfl
          have c0_0_45 : η 0 45 = η 0 45 := rfl
          have w0_0_19 : (0 : Int) ≤ η 0 19 ∧ η 0 19 ≤ 64 := wf_ok (a := 19) (b := 19) (z := (0, 64)) hp.1 (by decide +kernel) (Nat.le_refl _) (Nat.le_refl _)
          have c0_0_19 : η 0 19 = η 0 19 := rfl
          have w0_0_44 : (0 : Int) ≤ η 0 44 ∧ η 0 44 ≤ 64 := wf_ok (a := 44) (b := 44) (z := (0, 64)) hp.1 (by decide +kernel) (Nat.le_refl _) (Nat.le_refl _)
          have c0_0_44 : η 0 44 = η 0 44 := rfl
          have w0_0_7 : (0 : Int) ≤ η 0 7 ∧ η 0 7 ≤ 700 := wf_ok (a := 7) (b := 7) (z := (0, 700)) hp.1 (by decide +kernel) (Nat.le_refl _) (Nat.le_refl _)
          have c0_0_7 : η 0 7 = η 0 7 := rfl
          have w0_0_6 : (0 : Int) ≤ η 0 6 ∧ η 0 6 ≤ 700 := wf_ok (a := 6) (b := 6) (z := (0, 700)) hp.1 (by decide +kernel) (Nat.le_refl _) (Nat.le_refl _)
          have c0_0_6 : η 0 6 = η 0 6 := rfl
          have w0_0_8 : (0 : Int) ≤ η 0 8 ∧ η 0 8 ≤ 6 := wf_ok (a := 8) (b := 8) (z := (0, 6)) hp.1 (by decide +kernel) (Nat.le_refl _) (Nat.le_refl _)
          have c0_0_8 : η 0 8 = η 0 8 := rfl
          have bx1 : (0 : Int) ≤ x1 ∧ x1 ≤ 1 := k1.1.2.1
          have v9 : η1 0 41 = η 0 41 := (k1.1.2.2.2.1 0 41 (by decide +kernel)).trans rfl
          have c1_0_41 : η1 0 41 = η 0 41 := v9
          have v10 : η1 0 43 = η 0 43 := (k1.1.2.2.2.1 0 43 (by decide +kernel)).trans rfl
          have c1_0_43 : η1 0 43 = η 0 43 := v10
          have v11 : η1 0 42 = η 0 42 := (k1.1.2.2.2.1 0 42 (by decide +kernel)).trans rfl
          have c1_0_42 : η1 0 42 = η 0 42 := v11
          have v12 : η1 0 45 = η 0 45 := (k1.1.2.2.2.1 0 45 (by decide +kernel)).trans rfl
          have c1_0_45 : η1 0 45 = η 0 45 := v12
          have v13 : η1 0 19 = η 0 19 := (k1.1.2.2.2.1 0 19 (by decide +kernel)).trans rfl
          have c1_0_19 : η1 0 19 = η 0 19 := v13
          have v14 : η1 0 44 = η 0 44 := (k1.1.2.2.2.1 0 44 (by decide +kernel)).trans rfl
          have c1_0_44 : η1 0 44 = η 0 44 := v14
          have v15 : η1 0 7 = η 0 7 := (k1.1.2.2.2.1 0 7 (by decide +kernel)).trans rfl
          have c1_0_7 : η1 0 7 = η 0 7 := v15
          have v16 : η1 0 6 = η 0 6 := (k1.1.2.2.2.1 0 6 (by decide +kernel)).trans rfl
          have c1_0_6 : η1 0 6 = η 0 6 := v16
          have v17 : η1 0 8 = η 0 8 := (k1.1.2.2.2.1 0 8 (by decide +kernel)).trans rfl
          have c1_0_8 : η1 0 8 = η 0 8 := v17
          have bx2 : (0 : Int) ≤ x2 ∧ x2 ≤ 1 := k2.1.2.1
          have v19 : η1 0 46 = η 0 46 := (k1.1.2.2.2.1 0 46 (by decide +kernel)).trans rfl
          have v20 : η2 0 46 = η 0 46 := (k2.1.2.2.2.1 0 46 (by decide +kernel)).trans v19
          replace e3 : x3 = η 0 46 := e3.trans v20
          replace r3 : 0 ≤ x3 ∧ x3 ≤ 1 := r3
          have v21 : η2 0 41 = η 0 41 := (k2.1.2.2.2.1 0 41 (by decide +kernel)).trans v9
          have c2_0_41 : η2 0 41 = η 0 41 := v21
          have v22 : η2 0 43 = η 0 43 := (k2.1.2.2.2.1 0 43 (by decide +kernel)).trans v10
          have c2_0_43 : η2 0 43 = η 0 43 := v22
          have v23 : η2 0 42 = η 0 42 := (k2.1.2.2.2.1 0 42 (by decide +kernel)).trans v11
          have c2_0_42 : η2 0 42 = η 0 42 := v23
          have v24 : η2 0 45 = η 0 45 := (k2.1.2.2.2.1 0 45 (by decide +kernel)).trans v12
          have c2_0_45 : η2 0 45 = η 0 45 := v24
          have v25 : η2 0 19 = η 0 19 := (k2.1.2.2.2.1 0 19 (by decide +kernel)).trans v13
          have c2_0_19 : η2 0 19 = η 0 19 := v25
          have v26 : η2 0 44 = η 0 44 := (k2.1.2.2.2.1 0 44 (by decide +kernel)).trans v14
          have c2_0_44 : η2 0 44 = η 0 44 := v26
          have v27 : η2 0 7 = η 0 7 := (k2.1.2.2.2.1 0 7 (by decide +kernel)).trans v15
          have c2_0_7 : η2 0 7 = η 0 7 := v27
          have v28 : η2 0 6 = η 0 6 := (k2.1.2.2.2.1 0 6 (by decide +kernel)).trans v16
          have c2_0_6 : η2 0 6 = η 0 6 := v28
          have v29 : η2 0 8 = η 0 8 := (k2.1.2.2.2.1 0 8 (by decide +kernel)).trans v17
          have c2_0_8 : η2 0 8 = η 0 8 := v29
          have bx4 : ((-1) : Int) ≤ x4 ∧ x4 ≤ 6 := k4.1.2.1
          have v30 : η3 0 8 = η 0 8 := (k4.1.2.2.2.1 0 8 (by decide +kernel)).trans v29
          replace e5 : x5 = η 0 8 := e5.trans v30
          replace r5 : -2147483648 ≤ x5 ∧ x5 ≤ 2147483647 := r5
          have v32 : η1 0 9 = η 0 9 := (k1.1.2.2.2.1 0 9 (by decide +kernel)).trans rfl
          have v33 : η2 0 9 = η 0 9 := (k2.1.2.2.2.1 0 9 (by decide +kernel)).trans v32
          have v34 : η3 0 9 = η 0 9 := (k4.1.2.2.2.1 0 9 (by decide +kernel)).trans v33
          replace e6 : x6 = η 0 9 := e6.trans v34
          replace r6 : -2147483648 ≤ x6 ∧ x6 ≤ 2147483647 := r6
          have v35 : η3 0 41 = η 0 41 := (k4.1.2.2.2.1 0 41 (by decide +kernel)).trans v21
          have c3_0_41 : η3 0 41 = η 0 41 := v35
          have v36 : η3 0 43 = η 0 43 := (k4.1.2.2.2.1 0 43 (by decide +kernel)).trans v22
          have c3_0_43 : η3 0 43 = η 0 43 := v36
          have v37 : η3 0 42 = η 0 42 := (k4.1.2.2.2.1 0 42 (by decide +kernel)).trans v23
          have c3_0_42 : η3 0 42 = η 0 42 := v37
          have v38 : η3 0 45 = η 0 45 := (k4.1.2.2.2.1 0 45 (by decide +kernel)).trans v24
          have c3_0_45 : η3 0 45 = η 0 45 := v38
          have v39 : η3 0 19 = η 0 19 := (k4.1.2.2.2.1 0 19 (by decide +kernel)).trans v25
          have c3_0_19 : η3 0 19 = η 0 19 := v39
          have v40 : η3 0 44 = η 0 44 := (k4.1.2.2.2.1 0 44 (by decide +kernel)).trans v26
          have c3_0_44 : η3 0 44 = η 0 44 := v40
          have v41 : η3 0 7 = η 0 7 := (k4.1.2.2.2.1 0 7 (by decide +kernel)).trans v27
          have c3_0_7 : η3 0 7 = η 0 7 := v41
          have v42 : η3 0 6 = η 0 6 := (k4.1.2.2.2.1 0 6 (by decide +kernel)).trans v28
          have c3_0_6 : η3 0 6 = η 0 6 := v42
          have c3_0_8 : η3 0 8 = η 0 8 := v30
          have bx7 : (0 : Int) ≤ x7 ∧ x7 ≤ 1 := k7.1.2.1
          have v43 : η4 0 9 = η 0 9 := (k7.1.2.2.2.1 0 9 (by decide +kernel)).trans v34
          replace e8 : x8 = η 0 9 := e8.trans v43
          replace r8 : -2147483648 ≤ x8 ∧ x8 ≤ 2147483647 := r8
          have v44 : η4 0 41 = η 0 41 := (k7.1.2.2.2.1 0 41 (by decide +kernel)).trans v35
          have c4_0_41 : η4 0 41 = η 0 41 := v44
          have v45 : η4 0 43 = η 0 43 := (k7.1.2.2.2.1 0 43 (by decide +kernel)).trans v36
          have c4_0_43 : η4 0 43 = η 0 43 := v45
          have v46 : η4 0 42 = η 0 42 := (k7.1.2.2.2.1 0 42 (by decide +kernel)).trans v37
          have c4_0_42 : η4 0 42 = η 0 42 := v46
          have v47 : η4 0 45 = η 0 45 := (k7.1.2.2.2.1 0 45 (by decide +kernel)).trans v38
          have c4_0_45 : η4 0 45 = η 0 45 := v47
          have v48 : η4 0 19 = η 0 19 := (k7.1.2.2.2.1 0 19 (by decide +kernel)).trans v39
          have c4_0_19 : η4 0 19 = η 0 19 := v48
          have w4_0_44 : (0 : Int) ≤ η4 0 44 ∧ η4 0 44 ≤ 64 := wf_ok (a := 44) (b := 44) (z := (0, 64)) k7.1.1 (by decide +kernel) (Nat.le_refl _) (Nat.le_refl _)
          have c4_0_44 : η4 0 44 = η4 0 44 := rfl
          have v50 : η4 0 7 = η 0 7 := (k7.1.2.2.2.1 0 7 (by decide +kernel)).trans v41
          have c4_0_7 : η4 0 7 = η 0 7 := v50
          have v51 : η4 0 6 = η 0 6 := (k7.1.2.2.2.1 0 6 (by decide +kernel)).trans v42
          have c4_0_6 : η4 0 6 = η 0 6 := v51
          have v52 : η4 0 8 = η 0 8 := (k7.1.2.2.2.1 0 8 (by decide +kernel)).trans v30
          have c4_0_8 : η4 0 8 = η 0 8 := v52
          have bx9 : (0 : Int) ≤ x9 ∧ x9 ≤ 0 := k9.1.2.1
          have v53 : η5 0 41 = η 0 41 := (k9.1.2.2.2.1 0 41 (by decide +kernel)).trans v44
          have v54 : η6 0 41 = η 0 41 := by rw [eη6]; exact (zup_ne (fun _ e => absurd e (by decide))).trans v53
          have c6_0_41 : η6 0 41 = η 0 41 := v54
          have v55 : η5 0 43 = η 0 43 := (k9.1.2.2.2.1 0 43 (by decide +kernel)).trans v45
          have v56 : η6 0 43 = η 0 43 := by rw [eη6]; exact (zup_ne (fun _ e => absurd e (by decide))).trans v55
          have c6_0_43 : η6 0 43 = η 0 43 := v56
          have v58 : η6 0 42 = η5 0 42 := by rw [eη6]; exact (zup_ne (fun _ e => absurd e (by decide))).trans rfl
          have c6_0_42 : η6 0 42 = η5 0 42 := v58
          have v59 : η6 0 45 = 0 := by rw [eη6]; exact zup_eq
          have c6_0_45 : η6 0 45 = 0 := v59
          have w5_0_19 : (0 : Int) ≤ η5 0 19 ∧ η5 0 19 ≤ 64 := wf_ok (a := 19) (b := 19) (z := (0, 64)) k9.1.1 (by decide +kernel) (Nat.le_refl _) (Nat.le_refl _)
          have v61 : η6 0 19 = η5 0 19 := by rw [eη6]; exact (zup_ne (fun _ e => absurd e (by decide))).trans rfl
          have c6_0_19 : η6 0 19 = η5 0 19 := v61
          have v62 : η5 0 44 = η4 0 44 := (k9.1.2.2.2.1 0 44 (by decide +kernel)).trans rfl
          have v63 : η6 0 44 = η4 0 44 := by rw [eη6]; exact (zup_ne (fun _ e => absurd e (by decide))).trans v62
          have c6_0_44 : η6 0 44 = η4 0 44 := v63
          have v64 : η5 0 7 = η 0 7 := (k9.1.2.2.2.1 0 7 (by decide +kernel)).trans v50
          have v65 : η6 0 7 = η 0 7 := by rw [eη6]; exact (zup_ne (fun _ e => absurd e (by decide))).trans v64
          have c6_0_7 : η6 0 7 = η 0 7 := v65
          have v66 : η5 0 6 = η 0 6 := (k9.1.2.2.2.1 0 6 (by decide +kernel)).trans v51
          have v67 : η6 0 6 = η 0 6 := by rw [eη6]; exact (zup_ne (fun _ e => absurd e (by decide))).trans v66
          have c6_0_6 : η6 0 6 = η 0 6 := v67
          have v68 : η5 0 8 = η 0 8 := (k9.1.2.2.2.1 0 8 (by decide +kernel)).trans v52
          have v69 : η6 0 8 = η 0 8 := by rw [eη6]; exact (zup_ne (fun _ e => absurd e (by decide))).trans v68
          have c6_0_8 : η6 0 8 = η 0 8 := v69
          have bx10 : (0 : Int) ≤ x10 ∧ x10 ≤ 0 := k10.1.2.1
          have fm1 : zFm zMl_leafRead η η1 := zFm_tr2 zFm_rf k1.1.2.2.2.1 (by decide +kernel)
          have fm2 : zFm zMl_leafRead η η2 := zFm_tr2 fm1 k2.1.2.2.2.1 (by decide +kernel)
          have fm3 : zFm zMl_leafRead η η3 := zFm_tr2 fm2 k4.1.2.2.2.1 (by decide +kernel)
          have fm4 : zFm zMl_leafRead η η4 := zFm_tr2 fm3 k7.1.2.2.2.1 (by decide +kernel)
          have fm5 : zFm zMl_leafRead η η5 := zFm_tr2 fm4 k9.1.2.2.2.1 (by decide +kernel)
          have fm6 : zFm zMl_leafRead η η6 := by rw [eη6]; exact zFm_up fm5 rfl
          have fm7 : zFm zMl_leafRead η η7 := zFm_tr2 fm6 k10.1.2.2.2.1 (by decide +kernel)
          have fmE : zFm zMl_leafRead η η7 := fm7
          have fr22_0 : ∀ j, η 22 j = η 22 j := fun _ => rfl
          have v70 : ∀ j, η1 22 j = η 22 j := fun j => k1.1.2.2.2.1 22 _ (zinr_not (by decide +kernel))
          have fr22_1 : ∀ j, η1 22 j = η 22 j := v70
          have v71 : ∀ j, η2 22 j = η 22 j := fun j => (k2.1.2.2.2.1 22 _ (zinr_not (by decide +kernel))).trans (v70 j)
          have fr22_2 : ∀ j, η2 22 j = η 22 j := v71
          have v72 : ∀ j, η3 22 j = η 22 j := fun j => (k4.1.2.2.2.1 22 _ (zinr_not (by decide +kernel))).trans (v71 j)
          have fr22_3 : ∀ j, η3 22 j = η 22 j := v72
          have v73 : ∀ j, η4 22 j = η 22 j := fun j => (k7.1.2.2.2.1 22 _ (zinr_not (by decide +kernel))).trans (v72 j)
          have fr22_4 : ∀ j, η4 22 j = η 22 j := v73
          have v74 : ∀ j, η5 22 j = η 22 j := fun j => (k9.1.2.2.2.1 22 _ (zinr_not (by decide +kernel))).trans (v73 j)
          have fr22_5 : ∀ j, η5 22 j = η 22 j := v74
          have v75 : ∀ j, η6 22 j = η 22 j := fun j => by rw [eη6]; exact (zup_ne (fun e _ => absurd e (by decide))).trans (v74 j)
          have fr22_6 : ∀ j, η6 22 j = η 22 j := v75
          have v76 : ∀ j, η7 22 j = η 22 j := fun j => (k10.1.2.2.2.1 22 _ (zinr_not (by decide +kernel))).trans (v75 j)
          have fr22_7 : ∀ j, η7 22 j = η 22 j := v76
          have fr22 : ∀ j, η7 22 j = η 22 j := v76
          have v77 : η7 0 41 = η 0 41 := (k10.1.2.2.2.1 0 41 (by decide +kernel)).trans v54
          have f0_41 : η7 0 41 = η 0 41 := v77
          have v78 : η7 0 43 = η 0 43 := (k10.1.2.2.2.1 0 43 (by decide +kernel)).trans v56
          have f0_43 : η7 0 43 = η 0 43 := v78
          have v79 : η7 0 42 = η5 0 42 := (k10.1.2.2.2.1 0 42 (by decide +kernel)).trans v58
          have f0_42 : η7 0 42 = η5 0 42 := v79
          have v80 : η7 0 45 = 0 := (k10.1.2.2.2.1 0 45 (by decide +kernel)).trans v59
          have f0_45 : η7 0 45 = 0 := v80
          have v81 : η7 0 19 = η5 0 19 := (k10.1.2.2.2.1 0 19 (by decide +kernel)).trans v61
          have f0_19 : η7 0 19 = η5 0 19 := v81
          have v82 : η7 0 44 = η4 0 44 := (k10.1.2.2.2.1 0 44 (by decide +kernel)).trans v63
          have f0_44 : η7 0 44 = η4 0 44 := v82
          have w7_0_7 : (0 : Int) ≤ η7 0 7 ∧ η7 0 7 ≤ 700 := wf_ok (a := 7) (b := 7) (z := (0, 700)) k10.1.1 (by decide +kernel) (Nat.le_refl _) (Nat.le_refl _)
          have f0_7 : η7 0 7 = η7 0 7 := rfl
          have v84 : η7 0 6 = η 0 6 := (k10.1.2.2.2.1 0 6 (by decide +kernel)).trans v67
          have f0_6 : η7 0 6 = η 0 6 := v84
          have w7_0_8 : (0 : Int) ≤ η7 0 8 ∧ η7 0 8 ≤ 6 := wf_ok (a := 8) (b := 8) (z := (0, 6)) k10.1.1 (by decide +kernel) (Nat.le_refl _) (Nat.le_refl _)
          have f0_8 : η7 0 8 = η7 0 8 := rfl
          have wb1 : wB wl_l zTr η1 := k1.1.1
          have wb2 : wB wl_l zTr η2 := k2.1.1
          have wb3 : wB wl_l zTr η3 := k4.1.1
          have wb4 : wB wl_l zTr η4 := k7.1.1
          have wb5 : wB wl_l zTr η5 := k9.1.1
          have wb6 : wB wl_l zTr η6 := by rw [eη6]; exact wk_ok (a := 45) (b := 45) (z := ((-2147483648), 2147483647)) zTr_k (GR := []) wb5 (by decide +kernel) (by decide) (by decide) (show ((-2147483648) : Int) ≤ 0 by omega) (show 0 ≤ (2147483647 : Int) by omega)
          have wb7 : wB wl_l zTr η7 := k10.1.1
          have wbE : wB wl_l zTr η7 := wb7
          have I0 : H_l 0 0 0 η := hpp.1
          have I1 : H_l 0 0 0 η1 := k1.2.1
          have I2 : H_l 0 0 0 η2 := k2.2.1
          have qk2 : η1 0 8 = 1 := k2.2.2 c2
          have I3 : H_l 0 0 0 η3 := k4.2.1
          have I4 : H_l 1 0 0 η4 := k7.2.1 c8
          have I5 : H_l 0 0 1 η5 := k9.2.1 I4
          have qg9 : η5 0 19 = η4 0 19 + 1 := k9.2.2.2
          have I6 : H_l 0 0 0 η6 := by rw [eη6]; exact h_eq (wn_up I5) rfl rfl (by omega)
          have I7 : H_l 0 0 0 η7 := k10.2.1
          have qt10 : ¬ η6 0 8 = 0 → 10 * (η7 0 6 - η7 0 7) + η7 0 8 < 10 * (η6 0 6 - η6 0 7) + η6 0 8 := k10.2.2
          refine ⟨I7.1, fun _ => ⟨I7, show 10 * (η7 0 6 - η7 0 7) + η7 0 8 < 10 * (η 0 6 - η 0 7) + η 0 8 by omega, fun w => ?_⟩⟩
          have w : η7 0 45 = 0 := w
          omega
        · show ∀ (x1 : Int) (η1 : zE), ((gC2 wl_l [(nat_lit 0, zPl_isSign, zOl_isSign, zMl_isSign), (nat_lit 1, zPl_wrong, zOl_wrong, zMl_wrong), (nat_lit 2, zPl_waitsFor0, zOl_waitsFor0, zMl_waitsFor0), (nat_lit 3, zPl_token, zOl_token, zMl_token), (nat_lit 4, zPl_isKey, zOl_isKey, zMl_isKey), (nat_lit 5, zPl_isCounted, zOl_isCounted, zMl_isCounted), (nat_lit 6, zPl_waitsFor2, zOl_waitsFor2, zMl_waitsFor2), (nat_lit 7, zPl_nameMet, zOl_nameMet, zMl_nameMet), (nat_lit 8, zPl_grown, zOl_grown, zMl_grown)] pCl_leafRead qCl_leafRead) 0).2 [40] η x1 η1 → (x1 = 0) → ∀ (x2 : Int) (η2 : zE), ((gC2 wl_l [(nat_lit 0, zPl_isSign, zOl_isSign, zMl_isSign), (nat_lit 1, zPl_wrong, zOl_wrong, zMl_wrong), (nat_lit 2, zPl_waitsFor0, zOl_waitsFor0, zMl_waitsFor0), (nat_lit 3, zPl_token, zOl_token, zMl_token), (nat_lit 4, zPl_isKey, zOl_isKey, zMl_isKey), (nat_lit 5, zPl_isCounted, zOl_isCounted, zMl_isCounted), (nat_lit 6, zPl_waitsFor2, zOl_waitsFor2, zMl_waitsFor2), (nat_lit 7, zPl_nameMet, zOl_nameMet, zMl_nameMet), (nat_lit 8, zPl_grown, zOl_grown, zMl_grown)] pCl_leafRead qCl_leafRead) 4).2 [12] η1 x2 η2 → (¬ x2 = 0) → ∀ x3 : Int, x3 = η2 0 (Int.toNat 46) → zok 1 x3 → (x3 = 0) → ∀ (x4 : Int) (η3 : zE), ((gC2 wl_l [(nat_lit 0, zPl_isSign, zOl_isSign, zMl_isSign), (nat_lit 1, zPl_wrong, zOl_wrong, zMl_wrong), (nat_lit 2, zPl_waitsFor0, zOl_waitsFor0, zMl_waitsFor0), (nat_lit 3, zPl_token, zOl_token, zMl_token), (nat_lit 4, zPl_isKey, zOl_isKey, zMl_isKey), (nat_lit 5, zPl_isCounted, zOl_isCounted, zMl_isCounted), (nat_lit 6, zPl_waitsFor2, zOl_waitsFor2, zMl_waitsFor2), (nat_lit 7, zPl_nameMet, zOl_nameMet, zMl_nameMet), (nat_lit 8, zPl_grown, zOl_grown, zMl_grown)] pCl_leafRead qCl_leafRead) 7).2 [] η2 x4 η3 → (x4 < 0) → ∀ x5 : Int, x5 = η3 0 (Int.toNat 8) → zok 0 x5 → (x5 = 3) → (x4 < 0) → ∀ x6 : Int, x6 = η3 0 (Int.toNat 9) → zok 0 x6 → (x6 ≤ 9999) → ∀ (x7 : Int) (η4 : zE), ((gC2 wl_l [(nat_lit 0, zPl_isSign, zOl_isSign, zMl_isSign), (nat_lit 1, zPl_wrong, zOl_wrong, zMl_wrong), (nat_lit 2, zPl_waitsFor0, zOl_waitsFor0, zMl_waitsFor0), (nat_lit 3, zPl_token, zOl_token, zMl_token), (nat_lit 4, zPl_isKey, zOl_isKey, zMl_isKey), (nat_lit 5, zPl_isCounted, zOl_isCounted, zMl_isCounted), (nat_lit 6, zPl_waitsFor2, zOl_waitsFor2, zMl_waitsFor2), (nat_lit 7, zPl_nameMet, zOl_nameMet, zMl_nameMet), (nat_lit 8, zPl_grown, zOl_grown, zMl_grown)] pCl_leafRead qCl_leafRead) 5).2 [] η3 x7 η4 → (x7 = 0) → (fun (_ : Nat) (y : Int) (η' : zE) => pQl_leafRead [] η y η') 0 0 η4
          have hw : η 0 45 = 1 := hpp.2
          have hs : η 0 7 ≤ η 0 6 := hpp.1.1.1.1
          have bd43 : (0 : Int) ≤ η 0 43 ∧ η 0 43 ≤ 8 := wf_ok (a := 43) (b := 43) (z := (0, 8)) hp.1 (by decide +kernel) (Nat.le_refl _) (Nat.le_refl _)
          have bd44 : (0 : Int) ≤ η 0 44 ∧ η 0 44 ≤ 64 := wf_ok (a := 44) (b := 44) (z := (0, 64)) hp.1 (by decide +kernel) (Nat.le_refl _) (Nat.le_refl _)
          have bd19 : (0 : Int) ≤ η 0 19 ∧ η 0 19 ≤ 64 := wf_ok (a := 19) (b := 19) (z := (0, 64)) hp.1 (by decide +kernel) (Nat.le_refl _) (Nat.le_refl _)
          intro x1 η1 h1 c1 x2 η2 h2 c2 x3 e3 r3 c3 x4 η3 h4 c4 x5 e5 r5 c5 c6 x6 e6 r6 c7 x7 η4 h7 c8
          have k1 : sQ wl_l zTr zOl_isSign zMl_isSign [40] η x1 η1 ∧ pQl_isSign [40] η x1 η1 := h1
          have k2 : sQ wl_l zTr zOl_isKey zMl_isKey [12] η1 x2 η2 ∧ pQl_isKey [12] η1 x2 η2 := h2
          have k4 : sQ wl_l zTr zOl_nameMet zMl_nameMet [] η2 x4 η3 ∧ pQl_nameMet [] η2 x4 η3 := h4
          have k7 : sQ wl_l zTr zOl_isCounted zMl_isCounted [] η3 x7 η4 ∧ pQl_isCounted [] η3 x7 η4 := h7
          have c0_0_41 : η 0 41 = η 0 41 := rfl
          have w0_0_43 : (0 : Int) ≤ η 0 43 ∧ η 0 43 ≤ 8 := wf_ok (a := 43) (b := 43) (z := (0, 8)) hp.1 (by decide +kernel) (Nat.le_refl _) (Nat.le_refl _)
          have c0_0_43 : η 0 43 = η 0 43 := rfl
          have c0_0_42 : η 0 42 = η 0 42 := rfl
          have c0_0_45 : η 0 45 = η 0 45 := rfl
          have w0_0_19 : (0 : Int) ≤ η 0 19 ∧ η 0 19 ≤ 64 := wf_ok (a := 19) (b := 19) (z := (0, 64)) hp.1 (by decide +kernel) (Nat.le_refl _) (Nat.le_refl _)
          have c0_0_19 : η 0 19 = η 0 19 := rfl
          have w0_0_44 : (0 : Int) ≤ η 0 44 ∧ η 0 44 ≤ 64 := wf_ok (a := 44) (b := 44) (z := (0, 64)) hp.1 (by decide +kernel) (Nat.le_refl _) (Nat.le_refl _)
          have c0_0_44 : η 0 44 = η 0 44 := rfl
          have w0_0_7 : (0 : Int) ≤ η 0 7 ∧ η 0 7 ≤ 700 := wf_ok (a := 7) (b := 7) (z := (0, 700)) hp.1 (by decide +kernel) (Nat.le_refl _) (Nat.le_refl _)
          have c0_0_7 : η 0 7 = η 0 7 := rfl
          have w0_0_6 : (0 : Int) ≤ η 0 6 ∧ η 0 6 ≤ 700 := wf_ok (a := 6) (b := 6) (z := (0, 700)) hp.1 (by decide +kernel) (Nat.le_refl _) (Nat.le_refl _)
          have c0_0_6 : η 0 6 = η 0 6 := rfl
          have w0_0_8 : (0 : Int) ≤ η 0 8 ∧ η 0 8 ≤ 6 := wf_ok (a := 8) (b := 8) (z := (0, 6)) hp.1 (by decide +kernel) (Nat.le_refl _) (Nat.le_refl _)
          have c0_0_8 : η 0 8 = η 0 8 := rfl
          have bx1 : (0 : Int) ≤ x1 ∧ x1 ≤ 1 := k1.1.2.1
          have v9 : η1 0 41 = η 0 41 := (k1.1.2.2.2.1 0 41 (by decide +kernel)).trans rfl
          have c1_0_41 : η1 0 41 = η 0 41 := v9
          have v10 : η1 0 43 = η 0 43 := (k1.1.2.2.2.1 0 43 (by decide +kernel)).trans rfl
          have c1_0_43 : η1 0 43 = η 0 43 := v10
          have v11 : η1 0 42 = η 0 42 := (k1.1.2.2.2.1 0 42 (by decide +kernel)).trans rfl
          have c1_0_42 : η1 0 42 = η 0 42 := v11
          have v12 : η1 0 45 = η 0 45 := (k1.1.2.2.2.1 0 45 (by decide +kernel)).trans rfl
          have c1_0_45 : η1 0 45 = η 0 45 := v12
          have v13 : η1 0 19 = η 0 19 := (k1.1.2.2.2.1 0 19 (by decide +kernel)).trans rfl
          have c1_0_19 : η1 0 19 = η 0 19 := v13
          have v14 : η1 0 44 = η 0 44 := (k1.1.2.2.2.1 0 44 (by decide +kernel)).trans rfl
          have c1_0_44 : η1 0 44 = η 0 44 := v14
          have v15 : η1 0 7 = η 0 7 := (k1.1.2.2.2.1 0 7 (by decide +kernel)).trans rfl
          have c1_0_7 : η1 0 7 = η 0 7 := v15
          have v16 : η1 0 6 = η 0 6 := (k1.1.2.2.2.1 0 6 (by decide +kernel)).trans rfl
          have c1_0_6 : η1 0 6 = η 0 6 := v16
          have v17 : η1 0 8 = η 0 8 := (k1.1.2.2.2.1 0 8 (by decide +kernel)).trans rfl
          have c1_0_8 : η1 0 8 = η 0 8 := v17
          have bx2 : (0 : Int) ≤ x2 ∧ x2 ≤ 1 := k2.1.2.1
          have v19 : η1 0 46 = η 0 46 := (k1.1.2.2.2.1 0 46 (by decide +kernel)).trans rfl
          have v20 : η2 0 46 = η 0 46 := (k2.1.2.2.2.1 0 46 (by decide +kernel)).trans v19
          replace e3 : x3 = η 0 46 := e3.trans v20
          replace r3 : 0 ≤ x3 ∧ x3 ≤ 1 := r3
          have v21 : η2 0 41 = η 0 41 := (k2.1.2.2.2.1 0 41 (by decide +kernel)).trans v9
          have c2_0_41 : η2 0 41 = η 0 41 := v21
          have v22 : η2 0 43 = η 0 43 := (k2.1.2.2.2.1 0 43 (by decide +kernel)).trans v10
          have c2_0_43 : η2 0 43 = η 0 43 := v22
          have v23 : η2 0 42 = η 0 42 := (k2.1.2.2.2.1 0 42 (by decide +kernel)).trans v11
          have c2_0_42 : η2 0 42 = η 0 42 := v23
          have v24 : η2 0 45 = η 0 45 := (k2.1.2.2.2.1 0 45 (by decide +kernel)).trans v12
          have c2_0_45 : η2 0 45 = η 0 45 := v24
          have v25 : η2 0 19 = η 0 19 := (k2.1.2.2.2.1 0 19 (by decide +kernel)).trans v13
          have c2_0_19 : η2 0 19 = η 0 19 := v25
          have v26 : η2 0 44 = η 0 44 := (k2.1.2.2.2.1 0 44 (by decide +kernel)).trans v14
          have c2_0_44 : η2 0 44 = η 0 44 := v26
          have v27 : η2 0 7 = η 0 7 := (k2.1.2.2.2.1 0 7 (by decide +kernel)).trans v15
          have c2_0_7 : η2 0 7 = η 0 7 := v27
          have v28 : η2 0 6 = η 0 6 := (k2.1.2.2.2.1 0 6 (by decide +kernel)).trans v16
          have c2_0_6 : η2 0 6 = η 0 6 := v28
          have v29 : η2 0 8 = η 0 8 := (k2.1.2.2.2.1 0 8 (by decide +kernel)).trans v17
          have c2_0_8 : η2 0 8 = η 0 8 := v29
          have bx4 : ((-1) : Int) ≤ x4 ∧ x4 ≤ 6 := k4.1.2.1
          have v30 : η3 0 8 = η 0 8 := (k4.1.2.2.2.1 0 8 (by decide +kernel)).trans v29
          replace e5 : x5 = η 0 8 := e5.trans v30
          replace r5 : -2147483648 ≤ x5 ∧ x5 ≤ 2147483647 := r5
          have v32 : η1 0 9 = η 0 9 := (k1.1.2.2.2.1 0 9 (by decide +kernel)).trans rfl
          have v33 : η2 0 9 = η 0 9 := (k2.1.2.2.2.1 0 9 (by decide +kernel)).trans v32
          have v34 : η3 0 9 = η 0 9 := (k4.1.2.2.2.1 0 9 (by decide +kernel)).trans v33
          replace e6 : x6 = η 0 9 := e6.trans v34
          replace r6 : -2147483648 ≤ x6 ∧ x6 ≤ 2147483647 := r6
          have v35 : η3 0 41 = η 0 41 := (k4.1.2.2.2.1 0 41 (by decide +kernel)).trans v21
          have c3_0_41 : η3 0 41 = η 0 41 := v35
          have v36 : η3 0 43 = η 0 43 := (k4.1.2.2.2.1 0 43 (by decide +kernel)).trans v22
          have c3_0_43 : η3 0 43 = η 0 43 := v36
          have v37 : η3 0 42 = η 0 42 := (k4.1.2.2.2.1 0 42 (by decide +kernel)).trans v23
          have c3_0_42 : η3 0 42 = η 0 42 := v37
          have v38 : η3 0 45 = η 0 45 := (k4.1.2.2.2.1 0 45 (by decide +kernel)).trans v24
          have c3_0_45 : η3 0 45 = η 0 45 := v38
          have v39 : η3 0 19 = η 0 19 := (k4.1.2.2.2.1 0 19 (by decide +kernel)).trans v25
          have c3_0_19 : η3 0 19 = η 0 19 := v39
          have v40 : η3 0 44 = η 0 44 := (k4.1.2.2.2.1 0 44 (by decide +kernel)).trans v26
          have c3_0_44 : η3 0 44 = η 0 44 := v40
          have v41 : η3 0 7 = η 0 7 := (k4.1.2.2.2.1 0 7 (by decide +kernel)).trans v27
          have c3_0_7 : η3 0 7 = η 0 7 := v41
          have v42 : η3 0 6 = η 0 6 := (k4.1.2.2.2.1 0 6 (by decide +kernel)).trans v28
          have c3_0_6 : η3 0 6 = η 0 6 := v42
          have c3_0_8 : η3 0 8 = η 0 8 := v30
          have bx7 : (0 : Int) ≤ x7 ∧ x7 ≤ 1 := k7.1.2.1
          have fm1 : zFm zMl_leafRead η η1 := zFm_tr2 zFm_rf k1.1.2.2.2.1 (by decide +kernel)
          have fm2 : zFm zMl_leafRead η η2 := zFm_tr2 fm1 k2.1.2.2.2.1 (by decide +kernel)
          have fm3 : zFm zMl_leafRead η η3 := zFm_tr2 fm2 k4.1.2.2.2.1 (by decide +kernel)
          have fm4 : zFm zMl_leafRead η η4 := zFm_tr2 fm3 k7.1.2.2.2.1 (by decide +kernel)
          have fmE : zFm zMl_leafRead η η4 := fm4
          have fr22_0 : ∀ j, η 22 j = η 22 j := fun _ => rfl
          have v43 : ∀ j, η1 22 j = η 22 j := fun j => k1.1.2.2.2.1 22 _ (zinr_not (by decide +kernel))
          have fr22_1 : ∀ j, η1 22 j = η 22 j := v43
          have v44 : ∀ j, η2 22 j = η 22 j := fun j => (k2.1.2.2.2.1 22 _ (zinr_not (by decide +kernel))).trans (v43 j)
          have fr22_2 : ∀ j, η2 22 j = η 22 j := v44
          have v45 : ∀ j, η3 22 j = η 22 j := fun j => (k4.1.2.2.2.1 22 _ (zinr_not (by decide +kernel))).trans (v44 j)
          have fr22_3 : ∀ j, η3 22 j = η 22 j := v45
          have v46 : ∀ j, η4 22 j = η 22 j := fun j => (k7.1.2.2.2.1 22 _ (zinr_not (by decide +kernel))).trans (v45 j)
          have fr22_4 : ∀ j, η4 22 j = η 22 j := v46
          have fr22 : ∀ j, η4 22 j = η 22 j := v46
          have v47 : η4 0 41 = η 0 41 := (k7.1.2.2.2.1 0 41 (by decide +kernel)).trans v35
          have f0_41 : η4 0 41 = η 0 41 := v47
          have v48 : η4 0 43 = η 0 43 := (k7.1.2.2.2.1 0 43 (by decide +kernel)).trans v36
          have f0_43 : η4 0 43 = η 0 43 := v48
          have v49 : η4 0 42 = η 0 42 := (k7.1.2.2.2.1 0 42 (by decide +kernel)).trans v37
          have f0_42 : η4 0 42 = η 0 42 := v49
          have v50 : η4 0 45 = η 0 45 := (k7.1.2.2.2.1 0 45 (by decide +kernel)).trans v38
          have f0_45 : η4 0 45 = η 0 45 := v50
          have v51 : η4 0 19 = η 0 19 := (k7.1.2.2.2.1 0 19 (by decide +kernel)).trans v39
          have f0_19 : η4 0 19 = η 0 19 := v51
          have w4_0_44 : (0 : Int) ≤ η4 0 44 ∧ η4 0 44 ≤ 64 := wf_ok (a := 44) (b := 44) (z := (0, 64)) k7.1.1 (by decide +kernel) (Nat.le_refl _) (Nat.le_refl _)
          have f0_44 : η4 0 44 = η4 0 44 := rfl
          have v53 : η4 0 7 = η 0 7 := (k7.1.2.2.2.1 0 7 (by decide +kernel)).trans v41
          have f0_7 : η4 0 7 = η 0 7 := v53
          have v54 : η4 0 6 = η 0 6 := (k7.1.2.2.2.1 0 6 (by decide +kernel)).trans v42
          have f0_6 : η4 0 6 = η 0 6 := v54
          have v55 : η4 0 8 = η 0 8 := (k7.1.2.2.2.1 0 8 (by decide +kernel)).trans v30
          have f0_8 : η4 0 8 = η 0 8 := v55
          have wb1 : wB wl_l zTr η1 := k1.1.1
          have wb2 : wB wl_l zTr η2 := k2.1.1
          have wb3 : wB wl_l zTr η3 := k4.1.1
          have wb4 : wB wl_l zTr η4 := k7.1.1
          have wbE : wB wl_l zTr η4 := wb4
          have I0 : H_l 0 0 0 η := hpp.1
          have I1 : H_l 0 0 0 η1 := k1.2.1
          have I2 : H_l 0 0 0 η2 := k2.2.1
          have qk2 : η1 0 8 = 1 := k2.2.2 c2
          have I3 : H_l 0 0 0 η3 := k4.2.1
          have I4 : H_l 0 0 0 η4 := k7.2.2 c8
          exact ⟨I4.1, fun w => absurd (show (0 : Int) = 0 by omega) w⟩
        · show ∀ (x1 : Int) (η1 : zE), ((gC2 wl_l [(nat_lit 0, zPl_isSign, zOl_isSign, zMl_isSign), (nat_lit 1, zPl_wrong, zOl_wrong, zMl_wrong), (nat_lit 2, zPl_waitsFor0, zOl_waitsFor0, zMl_waitsFor0), (nat_lit 3, zPl_token, zOl_token, zMl_token), (nat_lit 4, zPl_isKey, zOl_isKey, zMl_isKey), (nat_lit 5, zPl_isCounted, zOl_isCounted, zMl_isCounted), (nat_lit 6, zPl_waitsFor2, zOl_waitsFor2, zMl_waitsFor2), (nat_lit 7, zPl_nameMet, zOl_nameMet, zMl_nameMet), (nat_lit 8, zPl_grown, zOl_grown, zMl_grown)] pCl_leafRead qCl_leafRead) 0).2 [40] η x1 η1 → (x1 = 0) → ∀ (x2 : Int) (η2 : zE), ((gC2 wl_l [(nat_lit 0, zPl_isSign, zOl_isSign, zMl_isSign), (nat_lit 1, zPl_wrong, zOl_wrong, zMl_wrong), (nat_lit 2, zPl_waitsFor0, zOl_waitsFor0, zMl_waitsFor0), (nat_lit 3, zPl_token, zOl_token, zMl_token), (nat_lit 4, zPl_isKey, zOl_isKey, zMl_isKey), (nat_lit 5, zPl_isCounted, zOl_isCounted, zMl_isCounted), (nat_lit 6, zPl_waitsFor2, zOl_waitsFor2, zMl_waitsFor2), (nat_lit 7, zPl_nameMet, zOl_nameMet, zMl_nameMet), (nat_lit 8, zPl_grown, zOl_grown, zMl_grown)] pCl_leafRead qCl_leafRead) 4).2 [12] η1 x2 η2 → (¬ x2 = 0) → ∀ x3 : Int, x3 = η2 0 (Int.toNat 46) → zok 1 x3 → (x3 = 0) → ∀ (x4 : Int) (η3 : zE), ((gC2 wl_l [(nat_lit 0, zPl_isSign, zOl_isSign, zMl_isSign), (nat_lit 1, zPl_wrong, zOl_wrong, zMl_wrong), (nat_lit 2, zPl_waitsFor0, zOl_waitsFor0, zMl_waitsFor0), (nat_lit 3, zPl_token, zOl_token, zMl_token), (nat_lit 4, zPl_isKey, zOl_isKey, zMl_isKey), (nat_lit 5, zPl_isCounted, zOl_isCounted, zMl_isCounted), (nat_lit 6, zPl_waitsFor2, zOl_waitsFor2, zMl_waitsFor2), (nat_lit 7, zPl_nameMet, zOl_nameMet, zMl_nameMet), (nat_lit 8, zPl_grown, zOl_grown, zMl_grown)] pCl_leafRead qCl_leafRead) 7).2 [] η2 x4 η3 → (x4 < 0) → ∀ x5 : Int, x5 = η3 0 (Int.toNat 8) → zok 0 x5 → (x5 = 3) → (x4 < 0) → ∀ x6 : Int, x6 = η3 0 (Int.toNat 9) → zok 0 x6 → (9999 < x6) → ((gC2 wl_l [(nat_lit 0, zPl_isSign, zOl_isSign, zMl_isSign), (nat_lit 1, zPl_wrong, zOl_wrong, zMl_wrong), (nat_lit 2, zPl_waitsFor0, zOl_waitsFor0, zMl_waitsFor0), (nat_lit 3, zPl_token, zOl_token, zMl_token), (nat_lit 4, zPl_isKey, zOl_isKey, zMl_isKey), (nat_lit 5, zPl_isCounted, zOl_isCounted, zMl_isCounted), (nat_lit 6, zPl_waitsFor2, zOl_waitsFor2, zMl_waitsFor2), (nat_lit 7, zPl_nameMet, zOl_nameMet, zMl_nameMet), (nat_lit 8, zPl_grown, zOl_grown, zMl_grown)] pCl_leafRead qCl_leafRead) 1).1 [2] η3
          have hw : η 0 45 = 1 := hpp.2
          have hs : η 0 7 ≤ η 0 6 := hpp.1.1.1.1
          have bd43 : (0 : Int) ≤ η 0 43 ∧ η 0 43 ≤ 8 := wf_ok (a := 43) (b := 43) (z := (0, 8)) hp.1 (by decide +kernel) (Nat.le_refl _) (Nat.le_refl _)
          have bd44 : (0 : Int) ≤ η 0 44 ∧ η 0 44 ≤ 64 := wf_ok (a := 44) (b := 44) (z := (0, 64)) hp.1 (by decide +kernel) (Nat.le_refl _) (Nat.le_refl _)
          have bd19 : (0 : Int) ≤ η 0 19 ∧ η 0 19 ≤ 64 := wf_ok (a := 19) (b := 19) (z := (0, 64)) hp.1 (by decide +kernel) (Nat.le_refl _) (Nat.le_refl _)
          intro x1 η1 h1 c1 x2 η2 h2 c2 x3 e3 r3 c3 x4 η3 h4 c4 x5 e5 r5 c5 c6 x6 e6 r6 c7
          have k1 : sQ wl_l zTr zOl_isSign zMl_isSign [40] η x1 η1 ∧ pQl_isSign [40] η x1 η1 := h1
          have k2 : sQ wl_l zTr zOl_isKey zMl_isKey [12] η1 x2 η2 ∧ pQl_isKey [12] η1 x2 η2 := h2
          have k4 : sQ wl_l zTr zOl_nameMet zMl_nameMet [] η2 x4 η3 ∧ pQl_nameMet [] η2 x4 η3 := h4
          have c0_0_41 : η 0 41 = η 0 41 := rfl
          have w0_0_43 : (0 : Int) ≤ η 0 43 ∧ η 0 43 ≤ 8 := wf_ok (a := 43) (b := 43) (z := (0, 8)) hp.1 (by decide +kernel) (Nat.le_refl _) (Nat.le_refl _)
          have c0_0_43 : η 0 43 = η 0 43 := rfl
          have c0_0_42 : η 0 42 = η 0 42 := rfl
          have c0_0_45 : η 0 45 = η 0 45 := rfl
          have w0_0_19 : (0 : Int) ≤ η 0 19 ∧ η 0 19 ≤ 64 := wf_ok (a := 19) (b := 19) (z := (0, 64)) hp.1 (by decide +kernel) (Nat.le_refl _) (Nat.le_refl _)
          have c0_0_19 : η 0 19 = η 0 19 := rfl
          have w0_0_44 : (0 : Int) ≤ η 0 44 ∧ η 0 44 ≤ 64 := wf_ok (a := 44) (b := 44) (z := (0, 64)) hp.1 (by decide +kernel) (Nat.le_refl _) (Nat.le_refl _)
          have c0_0_44 : η 0 44 = η 0 44 := rfl
          have w0_0_7 : (0 : Int) ≤ η 0 7 ∧ η 0 7 ≤ 700 := wf_ok (a := 7) (b := 7) (z := (0, 700)) hp.1 (by decide +kernel) (Nat.le_refl _) (Nat.le_refl _)
          have c0_0_7 : η 0 7 = η 0 7 := rfl
          have w0_0_6 : (0 : Int) ≤ η 0 6 ∧ η 0 6 ≤ 700 := wf_ok (a := 6) (b := 6) (z := (0, 700)) hp.1 (by decide +kernel) (Nat.le_refl _) (Nat.le_refl _)
          have c0_0_6 : η 0 6 = η 0 6 := rfl
          have w0_0_8 : (0 : Int) ≤ η 0 8 ∧ η 0 8 ≤ 6 := wf_ok (a := 8) (b := 8) (z := (0, 6)) hp.1 (by decide +kernel) (Nat.le_refl _) (Nat.le_refl _)
          have c0_0_8 : η 0 8 = η 0 8 := rfl
          have bx1 : (0 : Int) ≤ x1 ∧ x1 ≤ 1 := k1.1.2.1
          have v9 : η1 0 41 = η 0 41 := (k1.1.2.2.2.1 0 41 (by decide +kernel)).trans rfl
          have c1_0_41 : η1 0 41 = η 0 41 := v9
          have v10 : η1 0 43 = η 0 43 := (k1.1.2.2.2.1 0 43 (by decide +kernel)).trans rfl
          have c1_0_43 : η1 0 43 = η 0 43 := v10
          have v11 : η1 0 42 = η 0 42 := (k1.1.2.2.2.1 0 42 (by decide +kernel)).trans rfl
          have c1_0_42 : η1 0 42 = η 0 42 := v11
          have v12 : η1 0 45 = η 0 45 := (k1.1.2.2.2.1 0 45 (by decide +kernel)).trans rfl
          have c1_0_45 : η1 0 45 = η 0 45 := v12
          have v13 : η1 0 19 = η 0 19 := (k1.1.2.2.2.1 0 19 (by decide +kernel)).trans rfl
          have c1_0_19 : η1 0 19 = η 0 19 := v13
          have v14 : η1 0 44 = η 0 44 := (k1.1.2.2.2.1 0 44 (by decide +kernel)).trans rfl
          have c1_0_44 : η1 0 44 = η 0 44 := v14
          have v15 : η1 0 7 = η 0 7 := (k1.1.2.2.2.1 0 7 (by decide +kernel)).trans rfl
          have c1_0_7 : η1 0 7 = η 0 7 := v15
          have v16 : η1 0 6 = η 0 6 := (k1.1.2.2.2.1 0 6 (by decide +kernel)).trans rfl
          have c1_0_6 : η1 0 6 = η 0 6 := v16
          have v17 : η1 0 8 = η 0 8 := (k1.1.2.2.2.1 0 8 (by decide +kernel)).trans rfl
          have c1_0_8 : η1 0 8 = η 0 8 := v17
          have bx2 : (0 : Int) ≤ x2 ∧ x2 ≤ 1 := k2.1.2.1
          have v19 : η1 0 46 = η 0 46 := (k1.1.2.2.2.1 0 46 (by decide +kernel)).trans rfl
          have v20 : η2 0 46 = η 0 46 := (k2.1.2.2.2.1 0 46 (by decide +kernel)).trans v19
          replace e3 : x3 = η 0 46 := e3.trans v20
          replace r3 : 0 ≤ x3 ∧ x3 ≤ 1 := r3
          have v21 : η2 0 41 = η 0 41 := (k2.1.2.2.2.1 0 41 (by decide +kernel)).trans v9
          have c2_0_41 : η2 0 41 = η 0 41 := v21
          have v22 : η2 0 43 = η 0 43 := (k2.1.2.2.2.1 0 43 (by decide +kernel)).trans v10
          have c2_0_43 : η2 0 43 = η 0 43 := v22
          have v23 : η2 0 42 = η 0 42 := (k2.1.2.2.2.1 0 42 (by decide +kernel)).trans v11
          have c2_0_42 : η2 0 42 = η 0 42 := v23
          have v24 : η2 0 45 = η 0 45 := (k2.1.2.2.2.1 0 45 (by decide +kernel)).trans v12
          have c2_0_45 : η2 0 45 = η 0 45 := v24
          have v25 : η2 0 19 = η 0 19 := (k2.1.2.2.2.1 0 19 (by decide +kernel)).trans v13
          have c2_0_19 : η2 0 19 = η 0 19 := v25
          have v26 : η2 0 44 = η 0 44 := (k2.1.2.2.2.1 0 44 (by decide +kernel)).trans v14
          have c2_0_44 : η2 0 44 = η 0 44 := v26
          have v27 : η2 0 7 = η 0 7 := (k2.1.2.2.2.1 0 7 (by decide +kernel)).trans v15
          have c2_0_7 : η2 0 7 = η 0 7 := v27
          have v28 : η2 0 6 = η 0 6 := (k2.1.2.2.2.1 0 6 (by decide +kernel)).trans v16
          have c2_0_6 : η2 0 6 = η 0 6 := v28
          have v29 : η2 0 8 = η 0 8 := (k2.1.2.2.2.1 0 8 (by decide +kernel)).trans v17
          have c2_0_8 : η2 0 8 = η 0 8 := v29
          have bx4 : ((-1) : Int) ≤ x4 ∧ x4 ≤ 6 := k4.1.2.1
          have v30 : η3 0 8 = η 0 8 := (k4.1.2.2.2.1 0 8 (by decide +kernel)).trans v29
          replace e5 : x5 = η 0 8 := e5.trans v30
          replace r5 : -2147483648 ≤ x5 ∧ x5 ≤ 2147483647 := r5
          have v32 : η1 0 9 = η 0 9 := (k1.1.2.2.2.1 0 9 (by decide +kernel)).trans rfl
          have v33 : η2 0 9 = η 0 9 := (k2.1.2.2.2.1 0 9 (by decide +kernel)).trans v32
          have v34 : η3 0 9 = η 0 9 := (k4.1.2.2.2.1 0 9 (by decide +kernel)).trans v33
          replace e6 : x6 = η 0 9 := e6.trans v34
          replace r6 : -2147483648 ≤ x6 ∧ x6 ≤ 2147483647 := r6
          have fm1 : zFm zMl_leafRead η η1 := zFm_tr2 zFm_rf k1.1.2.2.2.1 (by decide +kernel)
          have fm2 : zFm zMl_leafRead η η2 := zFm_tr2 fm1 k2.1.2.2.2.1 (by decide +kernel)
          have fm3 : zFm zMl_leafRead η η3 := zFm_tr2 fm2 k4.1.2.2.2.1 (by decide +kernel)
          have fmE : zFm zMl_leafRead η η3 := fm3
          have fr22_0 : ∀ j, η 22 j = η 22 j := fun _ => rfl
          have v35 : ∀ j, η1 22 j = η 22 j := fun j => k1.1.2.2.2.1 22 _ (zinr_not (by decide +kernel))
          have fr22_1 : ∀ j, η1 22 j = η 22 j := v35
          have v36 : ∀ j, η2 22 j = η 22 j := fun j => (k2.1.2.2.2.1 22 _ (zinr_not (by decide +kernel))).trans (v35 j)
          have fr22_2 : ∀ j, η2 22 j = η 22 j := v36
          have v37 : ∀ j, η3 22 j = η 22 j := fun j => (k4.1.2.2.2.1 22 _ (zinr_not (by decide +kernel))).trans (v36 j)
          have fr22_3 : ∀ j, η3 22 j = η 22 j := v37
          have fr22 : ∀ j, η3 22 j = η 22 j := v37
          have v38 : η3 0 41 = η 0 41 := (k4.1.2.2.2.1 0 41 (by decide +kernel)).trans v21
          have f0_41 : η3 0 41 = η 0 41 := v38
          have v39 : η3 0 43 = η 0 43 := (k4.1.2.2.2.1 0 43 (by decide +kernel)).trans v22
          have f0_43 : η3 0 43 = η 0 43 := v39
          have v40 : η3 0 42 = η 0 42 := (k4.1.2.2.2.1 0 42 (by decide +kernel)).trans v23
          have f0_42 : η3 0 42 = η 0 42 := v40
          have v41 : η3 0 45 = η 0 45 := (k4.1.2.2.2.1 0 45 (by decide +kernel)).trans v24
          have f0_45 : η3 0 45 = η 0 45 := v41
          have v42 : η3 0 19 = η 0 19 := (k4.1.2.2.2.1 0 19 (by decide +kernel)).trans v25
          have f0_19 : η3 0 19 = η 0 19 := v42
          have v43 : η3 0 44 = η 0 44 := (k4.1.2.2.2.1 0 44 (by decide +kernel)).trans v26
          have f0_44 : η3 0 44 = η 0 44 := v43
          have v44 : η3 0 7 = η 0 7 := (k4.1.2.2.2.1 0 7 (by decide +kernel)).trans v27
          have f0_7 : η3 0 7 = η 0 7 := v44
          have v45 : η3 0 6 = η 0 6 := (k4.1.2.2.2.1 0 6 (by decide +kernel)).trans v28
          have f0_6 : η3 0 6 = η 0 6 := v45
          have f0_8 : η3 0 8 = η 0 8 := v30
          have wb1 : wB wl_l zTr η1 := k1.1.1
          have wb2 : wB wl_l zTr η2 := k2.1.1
          have wb3 : wB wl_l zTr η3 := k4.1.1
          have wbE : wB wl_l zTr η3 := wb3
          have I0 : H_l 0 0 0 η := hpp.1
          have I1 : H_l 0 0 0 η1 := k1.2.1
          have I2 : H_l 0 0 0 η2 := k2.2.1
          have qk2 : η1 0 8 = 1 := k2.2.2 c2
          have I3 : H_l 0 0 0 η3 := k4.2.1
          exact I3
        · show ∀ (x1 : Int) (η1 : zE), ((gC2 wl_l [(nat_lit 0, zPl_isSign, zOl_isSign, zMl_isSign), (nat_lit 1, zPl_wrong, zOl_wrong, zMl_wrong), (nat_lit 2, zPl_waitsFor0, zOl_waitsFor0, zMl_waitsFor0), (nat_lit 3, zPl_token, zOl_token, zMl_token), (nat_lit 4, zPl_isKey, zOl_isKey, zMl_isKey), (nat_lit 5, zPl_isCounted, zOl_isCounted, zMl_isCounted), (nat_lit 6, zPl_waitsFor2, zOl_waitsFor2, zMl_waitsFor2), (nat_lit 7, zPl_nameMet, zOl_nameMet, zMl_nameMet), (nat_lit 8, zPl_grown, zOl_grown, zMl_grown)] pCl_leafRead qCl_leafRead) 0).2 [40] η x1 η1 → (x1 = 0) → ∀ (x2 : Int) (η2 : zE), ((gC2 wl_l [(nat_lit 0, zPl_isSign, zOl_isSign, zMl_isSign), (nat_lit 1, zPl_wrong, zOl_wrong, zMl_wrong), (nat_lit 2, zPl_waitsFor0, zOl_waitsFor0, zMl_waitsFor0), (nat_lit 3, zPl_token, zOl_token, zMl_token), (nat_lit 4, zPl_isKey, zOl_isKey, zMl_isKey), (nat_lit 5, zPl_isCounted, zOl_isCounted, zMl_isCounted), (nat_lit 6, zPl_waitsFor2, zOl_waitsFor2, zMl_waitsFor2), (nat_lit 7, zPl_nameMet, zOl_nameMet, zMl_nameMet), (nat_lit 8, zPl_grown, zOl_grown, zMl_grown)] pCl_leafRead qCl_leafRead) 4).2 [12] η1 x2 η2 → (¬ x2 = 0) → ∀ x3 : Int, x3 = η2 0 (Int.toNat 46) → zok 1 x3 → (x3 = 0) → ∀ (x4 : Int) (η3 : zE), ((gC2 wl_l [(nat_lit 0, zPl_isSign, zOl_isSign, zMl_isSign), (nat_lit 1, zPl_wrong, zOl_wrong, zMl_wrong), (nat_lit 2, zPl_waitsFor0, zOl_waitsFor0, zMl_waitsFor0), (nat_lit 3, zPl_token, zOl_token, zMl_token), (nat_lit 4, zPl_isKey, zOl_isKey, zMl_isKey), (nat_lit 5, zPl_isCounted, zOl_isCounted, zMl_isCounted), (nat_lit 6, zPl_waitsFor2, zOl_waitsFor2, zMl_waitsFor2), (nat_lit 7, zPl_nameMet, zOl_nameMet, zMl_nameMet), (nat_lit 8, zPl_grown, zOl_grown, zMl_grown)] pCl_leafRead qCl_leafRead) 7).2 [] η2 x4 η3 → (x4 < 0) → ∀ x5 : Int, x5 = η3 0 (Int.toNat 8) → zok 0 x5 → (x5 = 3) → (x4 < 0) → ∀ x6 : Int, x6 = η3 0 (Int.toNat 9) → zok 0 x6 → (9999 < x6) → ∀ (x7 : Int) (η4 : zE), ((gC2 wl_l [(nat_lit 0, zPl_isSign, zOl_isSign, zMl_isSign), (nat_lit 1, zPl_wrong, zOl_wrong, zMl_wrong), (nat_lit 2, zPl_waitsFor0, zOl_waitsFor0, zMl_waitsFor0), (nat_lit 3, zPl_token, zOl_token, zMl_token), (nat_lit 4, zPl_isKey, zOl_isKey, zMl_isKey), (nat_lit 5, zPl_isCounted, zOl_isCounted, zMl_isCounted), (nat_lit 6, zPl_waitsFor2, zOl_waitsFor2, zMl_waitsFor2), (nat_lit 7, zPl_nameMet, zOl_nameMet, zMl_nameMet), (nat_lit 8, zPl_grown, zOl_grown, zMl_grown)] pCl_leafRead qCl_leafRead) 1).2 [2] η3 x7 η4 → (fun (_ : Nat) (y : Int) (η' : zE) => pQl_leafRead [] η y η') 0 x7 η4
          have hw : η 0 45 = 1 := hpp.2
          have hs : η 0 7 ≤ η 0 6 := hpp.1.1.1.1
          have bd43 : (0 : Int) ≤ η 0 43 ∧ η 0 43 ≤ 8 := wf_ok (a := 43) (b := 43) (z := (0, 8)) hp.1 (by decide +kernel) (Nat.le_refl _) (Nat.le_refl _)
          have bd44 : (0 : Int) ≤ η 0 44 ∧ η 0 44 ≤ 64 := wf_ok (a := 44) (b := 44) (z := (0, 64)) hp.1 (by decide +kernel) (Nat.le_refl _) (Nat.le_refl _)
          have bd19 : (0 : Int) ≤ η 0 19 ∧ η 0 19 ≤ 64 := wf_ok (a := 19) (b := 19) (z := (0, 64)) hp.1 (by decide +kernel) (Nat.le_refl _) (Nat.le_refl _)
          intro x1 η1 h1 c1 x2 η2 h2 c2 x3 e3 r3 c3 x4 η3 h4 c4 x5 e5 r5 c5 c6 x6 e6 r6 c7 x7 η4 h7
          have k1 : sQ wl_l zTr zOl_isSign zMl_isSign [40] η x1 η1 ∧ pQl_isSign [40] η x1 η1 := h1
          have k2 : sQ wl_l zTr zOl_isKey zMl_isKey [12] η1 x2 η2 ∧ pQl_isKey [12] η1 x2 η2 := h2
          have k4 : sQ wl_l zTr zOl_nameMet zMl_nameMet [] η2 x4 η3 ∧ pQl_nameMet [] η2 x4 η3 := h4
          have k7 : sQ wl_l zTr zOl_wrong zMl_wrong [2] η3 x7 η4 ∧ pQl_wrong [2] η3 x7 η4 := h7
          have c0_0_41 : η 0 41 = η 0 41 := rfl
          have w0_0_43 : (0 : Int) ≤ η 0 43 ∧ η 0 43 ≤ 8 := wf_ok (a := 43) (b := 43) (z := (0, 8)) hp.1 (by decide +kernel) (Nat.le_refl _) (Nat.le_refl _)
          have c0_0_43 : η 0 43 = η 0 43 := rfl
          have c0_0_42 : η 0 42 = η 0 42 := rfl
          have c0_0_45 : η 0 45 = η 0 45 := rfl
          have w0_0_19 : (0 : Int) ≤ η 0 19 ∧ η 0 19 ≤ 64 := wf_ok (a := 19) (b := 19) (z := (0, 64)) hp.1 (by decide +kernel) (Nat.le_refl _) (Nat.le_refl _)
          have c0_0_19 : η 0 19 = η 0 19 := rfl
          have w0_0_44 : (0 : Int) ≤ η 0 44 ∧ η 0 44 ≤ 64 := wf_ok (a := 44) (b := 44) (z := (0, 64)) hp.1 (by decide +kernel) (Nat.le_refl _) (Nat.le_refl _)
          have c0_0_44 : η 0 44 = η 0 44 := rfl
          have w0_0_7 : (0 : Int) ≤ η 0 7 ∧ η 0 7 ≤ 700 := wf_ok (a := 7) (b := 7) (z := (0, 700)) hp.1 (by decide +kernel) (Nat.le_refl _) (Nat.le_refl _)
          have c0_0_7 : η 0 7 = η 0 7 := rfl
          have w0_0_6 : (0 : Int) ≤ η 0 6 ∧ η 0 6 ≤ 700 := wf_ok (a := 6) (b := 6) (z := (0, 700)) hp.1 (by decide +kernel) (Nat.le_refl _) (Nat.le_refl _)
          have c0_0_6 : η 0 6 = η 0 6 := rfl
          have w0_0_8 : (0 : Int) ≤ η 0 8 ∧ η 0 8 ≤ 6 := wf_ok (a := 8) (b := 8) (z := (0, 6)) hp.1 (by decide +kernel) (Nat.le_refl _) (Nat.le_refl _)
          have c0_0_8 : η 0 8 = η 0 8 := rfl
          have bx1 : (0 : Int) ≤ x1 ∧ x1 ≤ 1 := k1.1.2.1
          have v9 : η1 0 41 = η 0 41 := (k1.1.2.2.2.1 0 41 (by decide +kernel)).trans rfl
          have c1_0_41 : η1 0 41 = η 0 41 := v9
          have v10 : η1 0 43 = η 0 43 := (k1.1.2.2.2.1 0 43 (by decide +kernel)).trans rfl
          have c1_0_43 : η1 0 43 = η 0 43 := v10
          have v11 : η1 0 42 = η 0 42 := (k1.1.2.2.2.1 0 42 (by decide +kernel)).trans rfl
          have c1_0_42 : η1 0 42 = η 0 42 := v11
          have v12 : η1 0 45 = η 0 45 := (k1.1.2.2.2.1 0 45 (by decide +kernel)).trans rfl
          have c1_0_45 : η1 0 45 = η 0 45 := v12
          have v13 : η1 0 19 = η 0 19 := (k1.1.2.2.2.1 0 19 (by decide +kernel)).trans rfl
          have c1_0_19 : η1 0 19 = η 0 19 := v13
          have v14 : η1 0 44 = η 0 44 := (k1.1.2.2.2.1 0 44 (by decide +kernel)).trans rfl
          have c1_0_44 : η1 0 44 = η 0 44 := v14
          have v15 : η1 0 7 = η 0 7 := (k1.1.2.2.2.1 0 7 (by decide +kernel)).trans rfl
          have c1_0_7 : η1 0 7 = η 0 7 := v15
          have v16 : η1 0 6 = η 0 6 := (k1.1.2.2.2.1 0 6 (by decide +kernel)).trans rfl
          have c1_0_6 : η1 0 6 = η 0 6 := v16
          have v17 : η1 0 8 = η 0 8 := (k1.1.2.2.2.1 0 8 (by decide +kernel)).trans rfl
          have c1_0_8 : η1 0 8 = η 0 8 := v17
          have bx2 : (0 : Int) ≤ x2 ∧ x2 ≤ 1 := k2.1.2.1
          have v19 : η1 0 46 = η 0 46 := (k1.1.2.2.2.1 0 46 (by decide +kernel)).trans rfl
          have v20 : η2 0 46 = η 0 46 := (k2.1.2.2.2.1 0 46 (by decide +kernel)).trans v19
          replace e3 : x3 = η 0 46 := e3.trans v20
          replace r3 : 0 ≤ x3 ∧ x3 ≤ 1 := r3
          have v21 : η2 0 41 = η 0 41 := (k2.1.2.2.2.1 0 41 (by decide +kernel)).trans v9
          have c2_0_41 : η2 0 41 = η 0 41 := v21
          have v22 : η2 0 43 = η 0 43 := (k2.1.2.2.2.1 0 43 (by decide +kernel)).trans v10
          have c2_0_43 : η2 0 43 = η 0 43 := v22
          have v23 : η2 0 42 = η 0 42 := (k2.1.2.2.2.1 0 42 (by decide +kernel)).trans v11
          have c2_0_42 : η2 0 42 = η 0 42 := v23
          have v24 : η2 0 45 = η 0 45 := (k2.1.2.2.2.1 0 45 (by decide +kernel)).trans v12
          have c2_0_45 : η2 0 45 = η 0 45 := v24
          have v25 : η2 0 19 = η 0 19 := (k2.1.2.2.2.1 0 19 (by decide +kernel)).trans v13
          have c2_0_19 : η2 0 19 = η 0 19 := v25
          have v26 : η2 0 44 = η 0 44 := (k2.1.2.2.2.1 0 44 (by decide +kernel)).trans v14
          have c2_0_44 : η2 0 44 = η 0 44 := v26
          have v27 : η2 0 7 = η 0 7 := (k2.1.2.2.2.1 0 7 (by decide +kernel)).trans v15
          have c2_0_7 : η2 0 7 = η 0 7 := v27
          have v28 : η2 0 6 = η 0 6 := (k2.1.2.2.2.1 0 6 (by decide +kernel)).trans v16
          have c2_0_6 : η2 0 6 = η 0 6 := v28
          have v29 : η2 0 8 = η 0 8 := (k2.1.2.2.2.1 0 8 (by decide +kernel)).trans v17
          have c2_0_8 : η2 0 8 = η 0 8 := v29
          have bx4 : ((-1) : Int) ≤ x4 ∧ x4 ≤ 6 := k4.1.2.1
          have v30 : η3 0 8 = η 0 8 := (k4.1.2.2.2.1 0 8 (by decide +kernel)).trans v29
          replace e5 : x5 = η 0 8 := e5.trans v30
          replace r5 : -2147483648 ≤ x5 ∧ x5 ≤ 2147483647 := r5
          have v32 : η1 0 9 = η 0 9 := (k1.1.2.2.2.1 0 9 (by decide +kernel)).trans rfl
          have v33 : η2 0 9 = η 0 9 := (k2.1.2.2.2.1 0 9 (by decide +kernel)).trans v32
          have v34 : η3 0 9 = η 0 9 := (k4.1.2.2.2.1 0 9 (by decide +kernel)).trans v33
          replace e6 : x6 = η 0 9 := e6.trans v34
          replace r6 : -2147483648 ≤ x6 ∧ x6 ≤ 2147483647 := r6
          have v35 : η3 0 41 = η 0 41 := (k4.1.2.2.2.1 0 41 (by decide +kernel)).trans v21
          have c3_0_41 : η3 0 41 = η 0 41 := v35
          have v36 : η3 0 43 = η 0 43 := (k4.1.2.2.2.1 0 43 (by decide +kernel)).trans v22
          have c3_0_43 : η3 0 43 = η 0 43 := v36
          have v37 : η3 0 42 = η 0 42 := (k4.1.2.2.2.1 0 42 (by decide +kernel)).trans v23
          have c3_0_42 : η3 0 42 = η 0 42 := v37
          have v38 : η3 0 45 = η 0 45 := (k4.1.2.2.2.1 0 45 (by decide +kernel)).trans v24
          have c3_0_45 : η3 0 45 = η 0 45 := v38
          have v39 : η3 0 19 = η 0 19 := (k4.1.2.2.2.1 0 19 (by decide +kernel)).trans v25
          have c3_0_19 : η3 0 19 = η 0 19 := v39
          have v40 : η3 0 44 = η 0 44 := (k4.1.2.2.2.1 0 44 (by decide +kernel)).trans v26
          have c3_0_44 : η3 0 44 = η 0 44 := v40
          have v41 : η3 0 7 = η 0 7 := (k4.1.2.2.2.1 0 7 (by decide +kernel)).trans v27
          have c3_0_7 : η3 0 7 = η 0 7 := v41
          have v42 : η3 0 6 = η 0 6 := (k4.1.2.2.2.1 0 6 (by decide +kernel)).trans v28
          have c3_0_6 : η3 0 6 = η 0 6 := v42
          have c3_0_8 : η3 0 8 = η 0 8 := v30
          have bx7 : (0 : Int) ≤ x7 ∧ x7 ≤ 0 := k7.1.2.1
          have fm1 : zFm zMl_leafRead η η1 := zFm_tr2 zFm_rf k1.1.2.2.2.1 (by decide +kernel)
          have fm2 : zFm zMl_leafRead η η2 := zFm_tr2 fm1 k2.1.2.2.2.1 (by decide +kernel)
          have fm3 : zFm zMl_leafRead η η3 := zFm_tr2 fm2 k4.1.2.2.2.1 (by decide +kernel)
          have fm4 : zFm zMl_leafRead η η4 := zFm_tr2 fm3 k7.1.2.2.2.1 (by decide +kernel)
          have fmE : zFm zMl_leafRead η η4 := fm4
          have fr22_0 : ∀ j, η 22 j = η 22 j := fun _ => rfl
          have v43 : ∀ j, η1 22 j = η 22 j := fun j => k1.1.2.2.2.1 22 _ (zinr_not (by decide +kernel))
          have fr22_1 : ∀ j, η1 22 j = η 22 j := v43
          have v44 : ∀ j, η2 22 j = η 22 j := fun j => (k2.1.2.2.2.1 22 _ (zinr_not (by decide +kernel))).trans (v43 j)
          have fr22_2 : ∀ j, η2 22 j = η 22 j := v44
          have v45 : ∀ j, η3 22 j = η 22 j := fun j => (k4.1.2.2.2.1 22 _ (zinr_not (by decide +kernel))).trans (v44 j)
          have fr22_3 : ∀ j, η3 22 j = η 22 j := v45
          have v46 : ∀ j, η4 22 j = η 22 j := fun j => (k7.1.2.2.2.1 22 _ (zinr_not (by decide +kernel))).trans (v45 j)
          have fr22_4 : ∀ j, η4 22 j = η 22 j := v46
          have fr22 : ∀ j, η4 22 j = η 22 j := v46
          have v47 : η4 0 41 = η 0 41 := (k7.1.2.2.2.1 0 41 (by decide +kernel)).trans v35
          have f0_41 : η4 0 41 = η 0 41 := v47
          have v48 : η4 0 43 = η 0 43 := (k7.1.2.2.2.1 0 43 (by decide +kernel)).trans v36
          have f0_43 : η4 0 43 = η 0 43 := v48
          have v49 : η4 0 42 = η 0 42 := (k7.1.2.2.2.1 0 42 (by decide +kernel)).trans v37
          have f0_42 : η4 0 42 = η 0 42 := v49
          have v50 : η4 0 45 = η 0 45 := (k7.1.2.2.2.1 0 45 (by decide +kernel)).trans v38
          have f0_45 : η4 0 45 = η 0 45 := v50
          have v51 : η4 0 19 = η 0 19 := (k7.1.2.2.2.1 0 19 (by decide +kernel)).trans v39
          have f0_19 : η4 0 19 = η 0 19 := v51
          have v52 : η4 0 44 = η 0 44 := (k7.1.2.2.2.1 0 44 (by decide +kernel)).trans v40
          have f0_44 : η4 0 44 = η 0 44 := v52
          have v53 : η4 0 7 = η 0 7 := (k7.1.2.2.2.1 0 7 (by decide +kernel)).trans v41
          have f0_7 : η4 0 7 = η 0 7 := v53
          have v54 : η4 0 6 = η 0 6 := (k7.1.2.2.2.1 0 6 (by decide +kernel)).trans v42
          have f0_6 : η4 0 6 = η 0 6 := v54
          have v55 : η4 0 8 = η 0 8 := (k7.1.2.2.2.1 0 8 (by decide +kernel)).trans v30
          have f0_8 : η4 0 8 = η 0 8 := v55
          have wb1 : wB wl_l zTr η1 := k1.1.1
          have wb2 : wB wl_l zTr η2 := k2.1.1
          have wb3 : wB wl_l zTr η3 := k4.1.1
          have wb4 : wB wl_l zTr η4 := k7.1.1
          have wbE : wB wl_l zTr η4 := wb4
          have I0 : H_l 0 0 0 η := hpp.1
          have I1 : H_l 0 0 0 η1 := k1.2.1
          have I2 : H_l 0 0 0 η2 := k2.2.1
          have qk2 : η1 0 8 = 1 := k2.2.2 c2
          have I3 : H_l 0 0 0 η3 := k4.2.1
          have I4 : H_l 0 0 0 η4 := k7.2
          exact ⟨I4.1, fun w => absurd (show (x7 : Int) = 0 by omega) w⟩
        · show ∀ (x1 : Int) (η1 : zE), ((gC2 wl_l [(nat_lit 0, zPl_isSign, zOl_isSign, zMl_isSign), (nat_lit 1, zPl_wrong, zOl_wrong, zMl_wrong), (nat_lit 2, zPl_waitsFor0, zOl_waitsFor0, zMl_waitsFor0), (nat_lit 3, zPl_token, zOl_token, zMl_token), (nat_lit 4, zPl_isKey, zOl_isKey, zMl_isKey), (nat_lit 5, zPl_isCounted, zOl_isCounted, zMl_isCounted), (nat_lit 6, zPl_waitsFor2, zOl_waitsFor2, zMl_waitsFor2), (nat_lit 7, zPl_nameMet, zOl_nameMet, zMl_nameMet), (nat_lit 8, zPl_grown, zOl_grown, zMl_grown)] pCl_leafRead qCl_leafRead) 0).2 [40] η x1 η1 → (x1 = 0) → ∀ (x2 : Int) (η2 : zE), ((gC2 wl_l [(nat_lit 0, zPl_isSign, zOl_isSign, zMl_isSign), (nat_lit 1, zPl_wrong, zOl_wrong, zMl_wrong), (nat_lit 2, zPl_waitsFor0, zOl_waitsFor0, zMl_waitsFor0), (nat_lit 3, zPl_token, zOl_token, zMl_token), (nat_lit 4, zPl_isKey, zOl_isKey, zMl_isKey), (nat_lit 5, zPl_isCounted, zOl_isCounted, zMl_isCounted), (nat_lit 6, zPl_waitsFor2, zOl_waitsFor2, zMl_waitsFor2), (nat_lit 7, zPl_nameMet, zOl_nameMet, zMl_nameMet), (nat_lit 8, zPl_grown, zOl_grown, zMl_grown)] pCl_leafRead qCl_leafRead) 4).2 [12] η1 x2 η2 → (¬ x2 = 0) → ∀ x3 : Int, x3 = η2 0 (Int.toNat 46) → zok 1 x3 → (x3 = 0) → ∀ (x4 : Int) (η3 : zE), ((gC2 wl_l [(nat_lit 0, zPl_isSign, zOl_isSign, zMl_isSign), (nat_lit 1, zPl_wrong, zOl_wrong, zMl_wrong), (nat_lit 2, zPl_waitsFor0, zOl_waitsFor0, zMl_waitsFor0), (nat_lit 3, zPl_token, zOl_token, zMl_token), (nat_lit 4, zPl_isKey, zOl_isKey, zMl_isKey), (nat_lit 5, zPl_isCounted, zOl_isCounted, zMl_isCounted), (nat_lit 6, zPl_waitsFor2, zOl_waitsFor2, zMl_waitsFor2), (nat_lit 7, zPl_nameMet, zOl_nameMet, zMl_nameMet), (nat_lit 8, zPl_grown, zOl_grown, zMl_grown)] pCl_leafRead qCl_leafRead) 7).2 [] η2 x4 η3 → (x4 < 0) → ∀ x5 : Int, x5 = η3 0 (Int.toNat 8) → zok 0 x5 → (¬ x5 = 3) → ((gC2 wl_l [(nat_lit 0, zPl_isSign, zOl_isSign, zMl_isSign), (nat_lit 1, zPl_wrong, zOl_wrong, zMl_wrong), (nat_lit 2, zPl_waitsFor0, zOl_waitsFor0, zMl_waitsFor0), (nat_lit 3, zPl_token, zOl_token, zMl_token), (nat_lit 4, zPl_isKey, zOl_isKey, zMl_isKey), (nat_lit 5, zPl_isCounted, zOl_isCounted, zMl_isCounted), (nat_lit 6, zPl_waitsFor2, zOl_waitsFor2, zMl_waitsFor2), (nat_lit 7, zPl_nameMet, zOl_nameMet, zMl_nameMet), (nat_lit 8, zPl_grown, zOl_grown, zMl_grown)] pCl_leafRead qCl_leafRead) 1).1 [1] η3
          have hw : η 0 45 = 1 := hpp.2
          have hs : η 0 7 ≤ η 0 6 := hpp.1.1.1.1
          have bd43 : (0 : Int) ≤ η 0 43 ∧ η 0 43 ≤ 8 := wf_ok (a := 43) (b := 43) (z := (0, 8)) hp.1 (by decide +kernel) (Nat.le_refl _) (Nat.le_refl _)
          have bd44 : (0 : Int) ≤ η 0 44 ∧ η 0 44 ≤ 64 := wf_ok (a := 44) (b := 44) (z := (0, 64)) hp.1 (by decide +kernel) (Nat.le_refl _) (Nat.le_refl _)
          have bd19 : (0 : Int) ≤ η 0 19 ∧ η 0 19 ≤ 64 := wf_ok (a := 19) (b := 19) (z := (0, 64)) hp.1 (by decide +kernel) (Nat.le_refl _) (Nat.le_refl _)
          intro x1 η1 h1 c1 x2 η2 h2 c2 x3 e3 r3 c3 x4 η3 h4 c4 x5 e5 r5 c5
          have k1 : sQ wl_l zTr zOl_isSign zMl_isSign [40] η x1 η1 ∧ pQl_isSign [40] η x1 η1 := h1
          have k2 : sQ wl_l zTr zOl_isKey zMl_isKey [12] η1 x2 η2 ∧ pQl_isKey [12] η1 x2 η2 := h2
          have k4 : sQ wl_l zTr zOl_nameMet zMl_nameMet [] η2 x4 η3 ∧ pQl_nameMet [] η2 x4 η3 := h4
          have c0_0_41 : η 0 41 = η 0 41 := rfl
          have w0_0_43 : (0 : Int) ≤ η 0 43 ∧ η 0 43 ≤ 8 := wf_ok (a := 43) (b := 43) (z := (0, 8)) hp.1 (by decide +kernel) (Nat.le_refl _) (Nat.le_refl _)
          have c0_0_43 : η 0 43 = η 0 43 := rfl
          have c0_0_42 : η 0 42 = η 0 42 := rfl
          have c0_0_45 : η 0 45 = η 0 45 := rfl
          have w0_0_19 : (0 : Int) ≤ η 0 19 ∧ η 0 19 ≤ 64 := wf_ok (a := 19) (b := 19) (z := (0, 64)) hp.1 (by decide +kernel) (Nat.le_refl _) (Nat.le_refl _)
          have c0_0_19 : η 0 19 = η 0 19 := rfl
          have w0_0_44 : (0 : Int) ≤ η 0 44 ∧ η 0 44 ≤ 64 := wf_ok (a := 44) (b := 44) (z := (0, 64)) hp.1 (by decide +kernel) (Nat.le_refl _) (Nat.le_refl _)
          have c0_0_44 : η 0 44 = η 0 44 := rfl
          have w0_0_7 : (0 : Int) ≤ η 0 7 ∧ η 0 7 ≤ 700 := wf_ok (a := 7) (b := 7) (z := (0, 700)) hp.1 (by decide +kernel) (Nat.le_refl _) (Nat.le_refl _)
          have c0_0_7 : η 0 7 = η 0 7 := rfl
          have w0_0_6 : (0 : Int) ≤ η 0 6 ∧ η 0 6 ≤ 700 := wf_ok (a := 6) (b := 6) (z := (0, 700)) hp.1 (by decide +kernel) (Nat.le_refl _) (Nat.le_refl _)
          have c0_0_6 : η 0 6 = η 0 6 := rfl
          have w0_0_8 : (0 : Int) ≤ η 0 8 ∧ η 0 8 ≤ 6 := wf_ok (a := 8) (b := 8) (z := (0, 6)) hp.1 (by decide +kernel) (Nat.le_refl _) (Nat.le_refl _)
          have c0_0_8 : η 0 8 = η 0 8 := rfl
          have bx1 : (0 : Int) ≤ x1 ∧ x1 ≤ 1 := k1.1.2.1
          have v9 : η1 0 41 = η 0 41 := (k1.1.2.2.2.1 0 41 (by decide +kernel)).trans rfl
          have c1_0_41 : η1 0 41 = η 0 41 := v9
          have v10 : η1 0 43 = η 0 43 := (k1.1.2.2.2.1 0 43 (by decide +kernel)).trans rfl
          have c1_0_43 : η1 0 43 = η 0 43 := v10
          have v11 : η1 0 42 = η 0 42 := (k1.1.2.2.2.1 0 42 (by decide +kernel)).trans rfl
          have c1_0_42 : η1 0 42 = η 0 42 := v11
          have v12 : η1 0 45 = η 0 45 := (k1.1.2.2.2.1 0 45 (by decide +kernel)).trans rfl
          have c1_0_45 : η1 0 45 = η 0 45 := v12
          have v13 : η1 0 19 = η 0 19 := (k1.1.2.2.2.1 0 19 (by decide +kernel)).trans rfl
          have c1_0_19 : η1 0 19 = η 0 19 := v13
          have v14 : η1 0 44 = η 0 44 := (k1.1.2.2.2.1 0 44 (by decide +kernel)).trans rfl
          have c1_0_44 : η1 0 44 = η 0 44 := v14
          have v15 : η1 0 7 = η 0 7 := (k1.1.2.2.2.1 0 7 (by decide +kernel)).trans rfl
          have c1_0_7 : η1 0 7 = η 0 7 := v15
          have v16 : η1 0 6 = η 0 6 := (k1.1.2.2.2.1 0 6 (by decide +kernel)).trans rfl
          have c1_0_6 : η1 0 6 = η 0 6 := v16
          have v17 : η1 0 8 = η 0 8 := (k1.1.2.2.2.1 0 8 (by decide +kernel)).trans rfl
          have c1_0_8 : η1 0 8 = η 0 8 := v17
          have bx2 : (0 : Int) ≤ x2 ∧ x2 ≤ 1 := k2.1.2.1
          have v19 : η1 0 46 = η 0 46 := (k1.1.2.2.2.1 0 46 (by decide +kernel)).trans rfl
          have v20 : η2 0 46 = η 0 46 := (k2.1.2.2.2.1 0 46 (by decide +kernel)).trans v19
          replace e3 : x3 = η 0 46 := e3.trans v20
          replace r3 : 0 ≤ x3 ∧ x3 ≤ 1 := r3
          have v21 : η2 0 41 = η 0 41 := (k2.1.2.2.2.1 0 41 (by decide +kernel)).trans v9
          have c2_0_41 : η2 0 41 = η 0 41 := v21
          have v22 : η2 0 43 = η 0 43 := (k2.1.2.2.2.1 0 43 (by decide +kernel)).trans v10
          have c2_0_43 : η2 0 43 = η 0 43 := v22
          have v23 : η2 0 42 = η 0 42 := (k2.1.2.2.2.1 0 42 (by decide +kernel)).trans v11
          have c2_0_42 : η2 0 42 = η 0 42 := v23
          have v24 : η2 0 45 = η 0 45 := (k2.1.2.2.2.1 0 45 (by decide +kernel)).trans v12
          have c2_0_45 : η2 0 45 = η 0 45 := v24
          have v25 : η2 0 19 = η 0 19 := (k2.1.2.2.2.1 0 19 (by decide +kernel)).trans v13
          have c2_0_19 : η2 0 19 = η 0 19 := v25
          have v26 : η2 0 44 = η 0 44 := (k2.1.2.2.2.1 0 44 (by decide +kernel)).trans v14
          have c2_0_44 : η2 0 44 = η 0 44 := v26
          have v27 : η2 0 7 = η 0 7 := (k2.1.2.2.2.1 0 7 (by decide +kernel)).trans v15
          have c2_0_7 : η2 0 7 = η 0 7 := v27
          have v28 : η2 0 6 = η 0 6 := (k2.1.2.2.2.1 0 6 (by decide +kernel)).trans v16
          have c2_0_6 : η2 0 6 = η 0 6 := v28
          have v29 : η2 0 8 = η 0 8 := (k2.1.2.2.2.1 0 8 (by decide +kernel)).trans v17
          have c2_0_8 : η2 0 8 = η 0 8 := v29
          have bx4 : ((-1) : Int) ≤ x4 ∧ x4 ≤ 6 := k4.1.2.1
          have v30 : η3 0 8 = η 0 8 := (k4.1.2.2.2.1 0 8 (by decide +kernel)).trans v29
          replace e5 : x5 = η 0 8 := e5.trans v30
          replace r5 : -2147483648 ≤ x5 ∧ x5 ≤ 2147483647 := r5
          have fm1 : zFm zMl_leafRead η η1 := zFm_tr2 zFm_rf k1.1.2.2.2.1 (by decide +kernel)
          have fm2 : zFm zMl_leafRead η η2 := zFm_tr2 fm1 k2.1.2.2.2.1 (by decide +kernel)
          have fm3 : zFm zMl_leafRead η η3 := zFm_tr2 fm2 k4.1.2.2.2.1 (by decide +kernel)
          have fmE : zFm zMl_leafRead η η3 := fm3
          have fr22_0 : ∀ j, η 22 j = η 22 j := fun _ => rfl
          have v31 : ∀ j, η1 22 j = η 22 j := fun j => k1.1.2.2.2.1 22 _ (zinr_not (by decide +kernel))
          have fr22_1 : ∀ j, η1 22 j = η 22 j := v31
          have v32 : ∀ j, η2 22 j = η 22 j := fun j => (k2.1.2.2.2.1 22 _ (zinr_not (by decide +kernel))).trans (v31 j)
          have fr22_2 : ∀ j, η2 22 j = η 22 j := v32
          have v33 : ∀ j, η3 22 j = η 22 j := fun j => (k4.1.2.2.2.1 22 _ (zinr_not (by decide +kernel))).trans (v32 j)
          have fr22_3 : ∀ j, η3 22 j = η 22 j := v33
          have fr22 : ∀ j, η3 22 j = η 22 j := v33
          have v34 : η3 0 41 = η 0 41 := (k4.1.2.2.2.1 0 41 (by decide +kernel)).trans v21
          have f0_41 : η3 0 41 = η 0 41 := v34
          have v35 : η3 0 43 = η 0 43 := (k4.1.2.2.2.1 0 43 (by decide +kernel)).trans v22
          have f0_43 : η3 0 43 = η 0 43 := v35
          have v36 : η3 0 42 = η 0 42 := (k4.1.2.2.2.1 0 42 (by decide +kernel)).trans v23
          have f0_42 : η3 0 42 = η 0 42 := v36
          have v37 : η3 0 45 = η 0 45 := (k4.1.2.2.2.1 0 45 (by decide +kernel)).trans v24
          have f0_45 : η3 0 45 = η 0 45 := v37
          have v38 : η3 0 19 = η 0 19 := (k4.1.2.2.2.1 0 19 (by decide +kernel)).trans v25
          have f0_19 : η3 0 19 = η 0 19 := v38
          have v39 : η3 0 44 = η 0 44 := (k4.1.2.2.2.1 0 44 (by decide +kernel)).trans v26
          have f0_44 : η3 0 44 = η 0 44 := v39
          have v40 : η3 0 7 = η 0 7 := (k4.1.2.2.2.1 0 7 (by decide +kernel)).trans v27
          have f0_7 : η3 0 7 = η 0 7 := v40
          have v41 : η3 0 6 = η 0 6 := (k4.1.2.2.2.1 0 6 (by decide +kernel)).trans v28
          have f0_6 : η3 0 6 = η 0 6 := v41
          have f0_8 : η3 0 8 = η 0 8 := v30
          have wb1 : wB wl_l zTr η1 := k1.1.1
          have wb2 : wB wl_l zTr η2 := k2.1.1
          have wb3 : wB wl_l zTr η3 := k4.1.1
          have wbE : wB wl_l zTr η3 := wb3
          have I0 : H_l 0 0 0 η := hpp.1
          have I1 : H_l 0 0 0 η1 := k1.2.1
          have I2 : H_l 0 0 0 η2 := k2.2.1
          have qk2 : η1 0 8 = 1 := k2.2.2 c2
          have I3 : H_l 0 0 0 η3 := k4.2.1
          exact I3
        · show ∀ (x1 : Int) (η1 : zE), ((gC2 wl_l [(nat_lit 0, zPl_isSign, zOl_isSign, zMl_isSign), (nat_lit 1, zPl_wrong, zOl_wrong, zMl_wrong), (nat_lit 2, zPl_waitsFor0, zOl_waitsFor0, zMl_waitsFor0), (nat_lit 3, zPl_token, zOl_token, zMl_token), (nat_lit 4, zPl_isKey, zOl_isKey, zMl_isKey), (nat_lit 5, zPl_isCounted, zOl_isCounted, zMl_isCounted), (nat_lit 6, zPl_waitsFor2, zOl_waitsFor2, zMl_waitsFor2), (nat_lit 7, zPl_nameMet, zOl_nameMet, zMl_nameMet), (nat_lit 8, zPl_grown, zOl_grown, zMl_grown)] pCl_leafRead qCl_leafRead) 0).2 [40] η x1 η1 → (x1 = 0) → ∀ (x2 : Int) (η2 : zE), ((gC2 wl_l [(nat_lit 0, zPl_isSign, zOl_isSign, zMl_isSign), (nat_lit 1, zPl_wrong, zOl_wrong, zMl_wrong), (nat_lit 2, zPl_waitsFor0, zOl_waitsFor0, zMl_waitsFor0), (nat_lit 3, zPl_token, zOl_token, zMl_token), (nat_lit 4, zPl_isKey, zOl_isKey, zMl_isKey), (nat_lit 5, zPl_isCounted, zOl_isCounted, zMl_isCounted), (nat_lit 6, zPl_waitsFor2, zOl_waitsFor2, zMl_waitsFor2), (nat_lit 7, zPl_nameMet, zOl_nameMet, zMl_nameMet), (nat_lit 8, zPl_grown, zOl_grown, zMl_grown)] pCl_leafRead qCl_leafRead) 4).2 [12] η1 x2 η2 → (¬ x2 = 0) → ∀ x3 : Int, x3 = η2 0 (Int.toNat 46) → zok 1 x3 → (x3 = 0) → ∀ (x4 : Int) (η3 : zE), ((gC2 wl_l [(nat_lit 0, zPl_isSign, zOl_isSign, zMl_isSign), (nat_lit 1, zPl_wrong, zOl_wrong, zMl_wrong), (nat_lit 2, zPl_waitsFor0, zOl_waitsFor0, zMl_waitsFor0), (nat_lit 3, zPl_token, zOl_token, zMl_token), (nat_lit 4, zPl_isKey, zOl_isKey, zMl_isKey), (nat_lit 5, zPl_isCounted, zOl_isCounted, zMl_isCounted), (nat_lit 6, zPl_waitsFor2, zOl_waitsFor2, zMl_waitsFor2), (nat_lit 7, zPl_nameMet, zOl_nameMet, zMl_nameMet), (nat_lit 8, zPl_grown, zOl_grown, zMl_grown)] pCl_leafRead qCl_leafRead) 7).2 [] η2 x4 η3 → (x4 < 0) → ∀ x5 : Int, x5 = η3 0 (Int.toNat 8) → zok 0 x5 → (¬ x5 = 3) → ∀ (x6 : Int) (η4 : zE), ((gC2 wl_l [(nat_lit 0, zPl_isSign, zOl_isSign, zMl_isSign), (nat_lit 1, zPl_wrong, zOl_wrong, zMl_wrong), (nat_lit 2, zPl_waitsFor0, zOl_waitsFor0, zMl_waitsFor0), (nat_lit 3, zPl_token, zOl_token, zMl_token), (nat_lit 4, zPl_isKey, zOl_isKey, zMl_isKey), (nat_lit 5, zPl_isCounted, zOl_isCounted, zMl_isCounted), (nat_lit 6, zPl_waitsFor2, zOl_waitsFor2, zMl_waitsFor2), (nat_lit 7, zPl_nameMet, zOl_nameMet, zMl_nameMet), (nat_lit 8, zPl_grown, zOl_grown, zMl_grown)] pCl_leafRead qCl_leafRead) 1).2 [1] η3 x6 η4 → (fun (_ : Nat) (y : Int) (η' : zE) => pQl_leafRead [] η y η') 0 x6 η4
          have hw : η 0 45 = 1 := hpp.2
          have hs : η 0 7 ≤ η 0 6 := hpp.1.1.1.1
          have bd43 : (0 : Int) ≤ η 0 43 ∧ η 0 43 ≤ 8 := wf_ok (a := 43) (b := 43) (z := (0, 8)) hp.1 (by decide +kernel) (Nat.le_refl _) (Nat.le_refl _)
          have bd44 : (0 : Int) ≤ η 0 44 ∧ η 0 44 ≤ 64 := wf_ok (a := 44) (b := 44) (z := (0, 64)) hp.1 (by decide +kernel) (Nat.le_refl _) (Nat.le_refl _)
          have bd19 : (0 : Int) ≤ η 0 19 ∧ η 0 19 ≤ 64 := wf_ok (a := 19) (b := 19) (z := (0, 64)) hp.1 (by decide +kernel) (Nat.le_refl _) (Nat.le_refl _)
          intro x1 η1 h1 c1 x2 η2 h2 c2 x3 e3 r3 c3 x4 η3 h4 c4 x5 e5 r5 c5 x6 η4 h6
          have k1 : sQ wl_l zTr zOl_isSign zMl_isSign [40] η x1 η1 ∧ pQl_isSign [40] η x1 η1 := h1
          have k2 : sQ wl_l zTr zOl_isKey zMl_isKey [12] η1 x2 η2 ∧ pQl_isKey [12] η1 x2 η2 := h2
          have k4 : sQ wl_l zTr zOl_nameMet zMl_nameMet [] η2 x4 η3 ∧ pQl_nameMet [] η2 x4 η3 := h4
          have k6 : sQ wl_l zTr zOl_wrong zMl_wrong [1] η3 x6 η4 ∧ pQl_wrong [1] η3 x6 η4 := h6
          have c0_0_41 : η 0 41 = η 0 41 := rfl
          have w0_0_43 : (0 : Int) ≤ η 0 43 ∧ η 0 43 ≤ 8 := wf_ok (a := 43) (b := 43) (z := (0, 8)) hp.1 (by decide +kernel) (Nat.le_refl _) (Nat.le_refl _)
          have c0_0_43 : η 0 43 = η 0 43 := rfl
          have c0_0_42 : η 0 42 = η 0 42 := rfl
          have c0_0_45 : η 0 45 = η 0 45 := rfl
          have w0_0_19 : (0 : Int) ≤ η 0 19 ∧ η 0 19 ≤ 64 := wf_ok (a := 19) (b := 19) (z := (0, 64)) hp.1 (by decide +kernel) (Nat.le_refl _) (Nat.le_refl _)
          have c0_0_19 : η 0 19 = η 0 19 := rfl
          have w0_0_44 : (0 : Int) ≤ η 0 44 ∧ η 0 44 ≤ 64 := wf_ok (a := 44) (b := 44) (z := (0, 64)) hp.1 (by decide +kernel) (Nat.le_refl _) (Nat.le_refl _)
          have c0_0_44 : η 0 44 = η 0 44 := rfl
          have w0_0_7 : (0 : Int) ≤ η 0 7 ∧ η 0 7 ≤ 700 := wf_ok (a := 7) (b := 7) (z := (0, 700)) hp.1 (by decide +kernel) (Nat.le_refl _) (Nat.le_refl _)
          have c0_0_7 : η 0 7 = η 0 7 := rfl
          have w0_0_6 : (0 : Int) ≤ η 0 6 ∧ η 0 6 ≤ 700 := wf_ok (a := 6) (b := 6) (z := (0, 700)) hp.1 (by decide +kernel) (Nat.le_refl _) (Nat.le_refl _)
          have c0_0_6 : η 0 6 = η 0 6 := rfl
          have w0_0_8 : (0 : Int) ≤ η 0 8 ∧ η 0 8 ≤ 6 := wf_ok (a := 8) (b := 8) (z := (0, 6)) hp.1 (by decide +kernel) (Nat.le_refl _) (Nat.le_refl _)
          have c0_0_8 : η 0 8 = η 0 8 := rfl
          have bx1 : (0 : Int) ≤ x1 ∧ x1 ≤ 1 := k1.1.2.1
          have v9 : η1 0 41 = η 0 41 := (k1.1.2.2.2.1 0 41 (by decide +kernel)).trans rfl
          have c1_0_41 : η1 0 41 = η 0 41 := v9
          have v10 : η1 0 43 = η 0 43 := (k1.1.2.2.2.1 0 43 (by decide +kernel)).trans rfl
          have c1_0_43 : η1 0 43 = η 0 43 := v10
          have v11 : η1 0 42 = η 0 42 := (k1.1.2.2.2.1 0 42 (by decide +kernel)).trans rfl
          have c1_0_42 : η1 0 42 = η 0 42 := v11
          have v12 : η1 0 45 = η 0 45 := (k1.1.2.2.2.1 0 45 (by decide +kernel)).trans rfl
          have c1_0_45 : η1 0 45 = η 0 45 := v12
          have v13 : η1 0 19 = η 0 19 := (k1.1.2.2.2.1 0 19 (by decide +kernel)).trans rfl
          have c1_0_19 : η1 0 19 = η 0 19 := v13
          have v14 : η1 0 44 = η 0 44 := (k1.1.2.2.2.1 0 44 (by decide +kernel)).trans rfl
          have c1_0_44 : η1 0 44 = η 0 44 := v14
          have v15 : η1 0 7 = η 0 7 := (k1.1.2.2.2.1 0 7 (by decide +kernel)).trans rfl
          have c1_0_7 : η1 0 7 = η 0 7 := v15
          have v16 : η1 0 6 = η 0 6 := (k1.1.2.2.2.1 0 6 (by decide +kernel)).trans rfl
          have c1_0_6 : η1 0 6 = η 0 6 := v16
          have v17 : η1 0 8 = η 0 8 := (k1.1.2.2.2.1 0 8 (by decide +kernel)).trans rfl
          have c1_0_8 : η1 0 8 = η 0 8 := v17
          have bx2 : (0 : Int) ≤ x2 ∧ x2 ≤ 1 := k2.1.2.1
          have v19 : η1 0 46 = η 0 46 := (k1.1.2.2.2.1 0 46 (by decide +kernel)).trans rfl
          have v20 : η2 0 46 = η 0 46 := (k2.1.2.2.2.1 0 46 (by decide +kernel)).trans v19
          replace e3 : x3 = η 0 46 := e3.trans v20
          replace r3 : 0 ≤ x3 ∧ x3 ≤ 1 := r3
          have v21 : η2 0 41 = η 0 41 := (k2.1.2.2.2.1 0 41 (by decide +kernel)).trans v9
          have c2_0_41 : η2 0 41 = η 0 41 := v21
          have v22 : η2 0 43 = η 0 43 := (k2.1.2.2.2.1 0 43 (by decide +kernel)).trans v10
          have c2_0_43 : η2 0 43 = η 0 43 := v22
          have v23 : η2 0 42 = η 0 42 := (k2.1.2.2.2.1 0 42 (by decide +kernel)).trans v11
          have c2_0_42 : η2 0 42 = η 0 42 := v23
          have v24 : η2 0 45 = η 0 45 := (k2.1.2.2.2.1 0 45 (by decide +kernel)).trans v12
          have c2_0_45 : η2 0 45 = η 0 45 := v24
          have v25 : η2 0 19 = η 0 19 := (k2.1.2.2.2.1 0 19 (by decide +kernel)).trans v13
          have c2_0_19 : η2 0 19 = η 0 19 := v25
          have v26 : η2 0 44 = η 0 44 := (k2.1.2.2.2.1 0 44 (by decide +kernel)).trans v14
          have c2_0_44 : η2 0 44 = η 0 44 := v26
          have v27 : η2 0 7 = η 0 7 := (k2.1.2.2.2.1 0 7 (by decide +kernel)).trans v15
          have c2_0_7 : η2 0 7 = η 0 7 := v27
          have v28 : η2 0 6 = η 0 6 := (k2.1.2.2.2.1 0 6 (by decide +kernel)).trans v16
          have c2_0_6 : η2 0 6 = η 0 6 := v28
          have v29 : η2 0 8 = η 0 8 := (k2.1.2.2.2.1 0 8 (by decide +kernel)).trans v17
          have c2_0_8 : η2 0 8 = η 0 8 := v29
          have bx4 : ((-1) : Int) ≤ x4 ∧ x4 ≤ 6 := k4.1.2.1
          have v30 : η3 0 8 = η 0 8 := (k4.1.2.2.2.1 0 8 (by decide +kernel)).trans v29
          replace e5 : x5 = η 0 8 := e5.trans v30
          replace r5 : -2147483648 ≤ x5 ∧ x5 ≤ 2147483647 := r5
          have v31 : η3 0 41 = η 0 41 := (k4.1.2.2.2.1 0 41 (by decide +kernel)).trans v21
          have c3_0_41 : η3 0 41 = η 0 41 := v31
          have v32 : η3 0 43 = η 0 43 := (k4.1.2.2.2.1 0 43 (by decide +kernel)).trans v22
          have c3_0_43 : η3 0 43 = η 0 43 := v32
          have v33 : η3 0 42 = η 0 42 := (k4.1.2.2.2.1 0 42 (by decide +kernel)).trans v23
          have c3_0_42 : η3 0 42 = η 0 42 := v33
          have v34 : η3 0 45 = η 0 45 := (k4.1.2.2.2.1 0 45 (by decide +kernel)).trans v24
          have c3_0_45 : η3 0 45 = η 0 45 := v34
          have v35 : η3 0 19 = η 0 19 := (k4.1.2.2.2.1 0 19 (by decide +kernel)).trans v25
          have c3_0_19 : η3 0 19 = η 0 19 := v35
          have v36 : η3 0 44 = η 0 44 := (k4.1.2.2.2.1 0 44 (by decide +kernel)).trans v26
          have c3_0_44 : η3 0 44 = η 0 44 := v36
          have v37 : η3 0 7 = η 0 7 := (k4.1.2.2.2.1 0 7 (by decide +kernel)).trans v27
          have c3_0_7 : η3 0 7 = η 0 7 := v37
          have v38 : η3 0 6 = η 0 6 := (k4.1.2.2.2.1 0 6 (by decide +kernel)).trans v28
          have c3_0_6 : η3 0 6 = η 0 6 := v38
          have c3_0_8 : η3 0 8 = η 0 8 := v30
          have bx6 : (0 : Int) ≤ x6 ∧ x6 ≤ 0 := k6.1.2.1
          have fm1 : zFm zMl_leafRead η η1 := zFm_tr2 zFm_rf k1.1.2.2.2.1 (by decide +kernel)
          have fm2 : zFm zMl_leafRead η η2 := zFm_tr2 fm1 k2.1.2.2.2.1 (by decide +kernel)
          have fm3 : zFm zMl_leafRead η η3 := zFm_tr2 fm2 k4.1.2.2.2.1 (by decide +kernel)
          have fm4 : zFm zMl_leafRead η η4 := zFm_tr2 fm3 k6.1.2.2.2.1 (by decide +kernel)
          have fmE : zFm zMl_leafRead η η4 := fm4
          have fr22_0 : ∀ j, η 22 j = η 22 j := fun _ => rfl
          have v39 : ∀ j, η1 22 j = η 22 j := fun j => k1.1.2.2.2.1 22 _ (zinr_not (by decide +kernel))
          have fr22_1 : ∀ j, η1 22 j = η 22 j := v39
          have v40 : ∀ j, η2 22 j = η 22 j := fun j => (k2.1.2.2.2.1 22 _ (zinr_not (by decide +kernel))).trans (v39 j)
          have fr22_2 : ∀ j, η2 22 j = η 22 j := v40
          have v41 : ∀ j, η3 22 j = η 22 j := fun j => (k4.1.2.2.2.1 22 _ (zinr_not (by decide +kernel))).trans (v40 j)
          have fr22_3 : ∀ j, η3 22 j = η 22 j := v41
          have v42 : ∀ j, η4 22 j = η 22 j := fun j => (k6.1.2.2.2.1 22 _ (zinr_not (by decide +kernel))).trans (v41 j)
          have fr22_4 : ∀ j, η4 22 j = η 22 j := v42
          have fr22 : ∀ j, η4 22 j = η 22 j := v42
          have v43 : η4 0 41 = η 0 41 := (k6.1.2.2.2.1 0 41 (by decide +kernel)).trans v31
          have f0_41 : η4 0 41 = η 0 41 := v43
          have v44 : η4 0 43 = η 0 43 := (k6.1.2.2.2.1 0 43 (by decide +kernel)).trans v32
          have f0_43 : η4 0 43 = η 0 43 := v44
          have v45 : η4 0 42 = η 0 42 := (k6.1.2.2.2.1 0 42 (by decide +kernel)).trans v33
          have f0_42 : η4 0 42 = η 0 42 := v45
          have v46 : η4 0 45 = η 0 45 := (k6.1.2.2.2.1 0 45 (by decide +kernel)).trans v34
          have f0_45 : η4 0 45 = η 0 45 := v46
          have v47 : η4 0 19 = η 0 19 := (k6.1.2.2.2.1 0 19 (by decide +kernel)).trans v35
          have f0_19 : η4 0 19 = η 0 19 := v47
          have v48 : η4 0 44 = η 0 44 := (k6.1.2.2.2.1 0 44 (by decide +kernel)).trans v36
          have f0_44 : η4 0 44 = η 0 44 := v48
          have v49 : η4 0 7 = η 0 7 := (k6.1.2.2.2.1 0 7 (by decide +kernel)).trans v37
          have f0_7 : η4 0 7 = η 0 7 := v49
          have v50 : η4 0 6 = η 0 6 := (k6.1.2.2.2.1 0 6 (by decide +kernel)).trans v38
          have f0_6 : η4 0 6 = η 0 6 := v50
          have v51 : η4 0 8 = η 0 8 := (k6.1.2.2.2.1 0 8 (by decide +kernel)).trans v30
          have f0_8 : η4 0 8 = η 0 8 := v51
          have wb1 : wB wl_l zTr η1 := k1.1.1
          have wb2 : wB wl_l zTr η2 := k2.1.1
          have wb3 : wB wl_l zTr η3 := k4.1.1
          have wb4 : wB wl_l zTr η4 := k6.1.1
          have wbE : wB wl_l zTr η4 := wb4
          have I0 : H_l 0 0 0 η := hpp.1
          have I1 : H_l 0 0 0 η1 := k1.2.1
          have I2 : H_l 0 0 0 η2 := k2.2.1
          have qk2 : η1 0 8 = 1 := k2.2.2 c2
          have I3 : H_l 0 0 0 η3 := k4.2.1
          have I4 : H_l 0 0 0 η4 := k6.2
          exact ⟨I4.1, fun w => absurd (show (x6 : Int) = 0 by omega) w⟩
        · show ∀ (x1 : Int) (η1 : zE), ((gC2 wl_l [(nat_lit 0, zPl_isSign, zOl_isSign, zMl_isSign), (nat_lit 1, zPl_wrong, zOl_wrong, zMl_wrong), (nat_lit 2, zPl_waitsFor0, zOl_waitsFor0, zMl_waitsFor0), (nat_lit 3, zPl_token, zOl_token, zMl_token), (nat_lit 4, zPl_isKey, zOl_isKey, zMl_isKey), (nat_lit 5, zPl_isCounted, zOl_isCounted, zMl_isCounted), (nat_lit 6, zPl_waitsFor2, zOl_waitsFor2, zMl_waitsFor2), (nat_lit 7, zPl_nameMet, zOl_nameMet, zMl_nameMet), (nat_lit 8, zPl_grown, zOl_grown, zMl_grown)] pCl_leafRead qCl_leafRead) 0).2 [40] η x1 η1 → (x1 = 0) → ∀ (x2 : Int) (η2 : zE), ((gC2 wl_l [(nat_lit 0, zPl_isSign, zOl_isSign, zMl_isSign), (nat_lit 1, zPl_wrong, zOl_wrong, zMl_wrong), (nat_lit 2, zPl_waitsFor0, zOl_waitsFor0, zMl_waitsFor0), (nat_lit 3, zPl_token, zOl_token, zMl_token), (nat_lit 4, zPl_isKey, zOl_isKey, zMl_isKey), (nat_lit 5, zPl_isCounted, zOl_isCounted, zMl_isCounted), (nat_lit 6, zPl_waitsFor2, zOl_waitsFor2, zMl_waitsFor2), (nat_lit 7, zPl_nameMet, zOl_nameMet, zMl_nameMet), (nat_lit 8, zPl_grown, zOl_grown, zMl_grown)] pCl_leafRead qCl_leafRead) 4).2 [12] η1 x2 η2 → (¬ x2 = 0) → ∀ x3 : Int, x3 = η2 0 (Int.toNat 46) → zok 1 x3 → (¬ x3 = 0) → ((gC2 wl_l [(nat_lit 0, zPl_isSign, zOl_isSign, zMl_isSign), (nat_lit 1, zPl_wrong, zOl_wrong, zMl_wrong), (nat_lit 2, zPl_waitsFor0, zOl_waitsFor0, zMl_waitsFor0), (nat_lit 3, zPl_token, zOl_token, zMl_token), (nat_lit 4, zPl_isKey, zOl_isKey, zMl_isKey), (nat_lit 5, zPl_isCounted, zOl_isCounted, zMl_isCounted), (nat_lit 6, zPl_waitsFor2, zOl_waitsFor2, zMl_waitsFor2), (nat_lit 7, zPl_nameMet, zOl_nameMet, zMl_nameMet), (nat_lit 8, zPl_grown, zOl_grown, zMl_grown)] pCl_leafRead qCl_leafRead) 5).1 [] η2
          have hw : η 0 45 = 1 := hpp.2
          have hs : η 0 7 ≤ η 0 6 := hpp.1.1.1.1
          have bd43 : (0 : Int) ≤ η 0 43 ∧ η 0 43 ≤ 8 := wf_ok (a := 43) (b := 43) (z := (0, 8)) hp.1 (by decide +kernel) (Nat.le_refl _) (Nat.le_refl _)
          have bd44 : (0 : Int) ≤ η 0 44 ∧ η 0 44 ≤ 64 := wf_ok (a := 44) (b := 44) (z := (0, 64)) hp.1 (by decide +kernel) (Nat.le_refl _) (Nat.le_refl _)
          have bd19 : (0 : Int) ≤ η 0 19 ∧ η 0 19 ≤ 64 := wf_ok (a := 19) (b := 19) (z := (0, 64)) hp.1 (by decide +kernel) (Nat.le_refl _) (Nat.le_refl _)
          intro x1 η1 h1 c1 x2 η2 h2 c2 x3 e3 r3 c3
          have k1 : sQ wl_l zTr zOl_isSign zMl_isSign [40] η x1 η1 ∧ pQl_isSign [40] η x1 η1 := h1
          have k2 : sQ wl_l zTr zOl_isKey zMl_isKey [12] η1 x2 η2 ∧ pQl_isKey [12] η1 x2 η2 := h2
          have c0_0_41 : η 0 41 = η 0 41 := rfl
          have w0_0_43 : (0 : Int) ≤ η 0 43 ∧ η 0 43 ≤ 8 := wf_ok (a := 43) (b := 43) (z := (0, 8)) hp.1 (by decide +kernel) (Nat.le_refl _) (Nat.le_refl _)
          have c0_0_43 : η 0 43 = η 0 43 := rfl
          have c0_0_42 : η 0 42 = η 0 42 := rfl
          have c0_0_45 : η 0 45 = η 0 45 := rfl
          have w0_0_19 : (0 : Int) ≤ η 0 19 ∧ η 0 19 ≤ 64 := wf_ok (a := 19) (b := 19) (z := (0, 64)) hp.1 (by decide +kernel) (Nat.le_refl _) (Nat.le_refl _)
          have c0_0_19 : η 0 19 = η 0 19 := rfl
          have w0_0_44 : (0 : Int) ≤ η 0 44 ∧ η 0 44 ≤ 64 := wf_ok (a := 44) (b := 44) (z := (0, 64)) hp.1 (by decide +kernel) (Nat.le_refl _) (Nat.le_refl _)
          have c0_0_44 : η 0 44 = η 0 44 := rfl
          have w0_0_7 : (0 : Int) ≤ η 0 7 ∧ η 0 7 ≤ 700 := wf_ok (a := 7) (b := 7) (z := (0, 700)) hp.1 (by decide +kernel) (Nat.le_refl _) (Nat.le_refl _)
          have c0_0_7 : η 0 7 = η 0 7 := rfl
          have w0_0_6 : (0 : Int) ≤ η 0 6 ∧ η 0 6 ≤ 700 := wf_ok (a := 6) (b := 6) (z := (0, 700)) hp.1 (by decide +kernel) (Nat.le_refl _) (Nat.le_refl _)
          have c0_0_6 : η 0 6 = η 0 6 := rfl
          have w0_0_8 : (0 : Int) ≤ η 0 8 ∧ η 0 8 ≤ 6 := wf_ok (a := 8) (b := 8) (z := (0, 6)) hp.1 (by decide +kernel) (Nat.le_refl _) (Nat.le_refl _)
          have c0_0_8 : η 0 8 = η 0 8 := rfl
          have bx1 : (0 : Int) ≤ x1 ∧ x1 ≤ 1 := k1.1.2.1
          have v9 : η1 0 41 = η 0 41 := (k1.1.2.2.2.1 0 41 (by decide +kernel)).trans rfl
          have c1_0_41 : η1 0 41 = η 0 41 := v9
          have v10 : η1 0 43 = η 0 43 := (k1.1.2.2.2.1 0 43 (by decide +kernel)).trans rfl
          have c1_0_43 : η1 0 43 = η 0 43 := v10
          have v11 : η1 0 42 = η 0 42 := (k1.1.2.2.2.1 0 42 (by decide +kernel)).trans rfl
          have c1_0_42 : η1 0 42 = η 0 42 := v11
          have v12 : η1 0 45 = η 0 45 := (k1.1.2.2.2.1 0 45 (by decide +kernel)).trans rfl
          have c1_0_45 : η1 0 45 = η 0 45 := v12
          have v13 : η1 0 19 = η 0 19 := (k1.1.2.2.2.1 0 19 (by decide +kernel)).trans rfl
          have c1_0_19 : η1 0 19 = η 0 19 := v13
          have v14 : η1 0 44 = η 0 44 := (k1.1.2.2.2.1 0 44 (by decide +kernel)).trans rfl
          have c1_0_44 : η1 0 44 = η 0 44 := v14
          have v15 : η1 0 7 = η 0 7 := (k1.1.2.2.2.1 0 7 (by decide +kernel)).trans rfl
          have c1_0_7 : η1 0 7 = η 0 7 := v15
          have v16 : η1 0 6 = η 0 6 := (k1.1.2.2.2.1 0 6 (by decide +kernel)).trans rfl
          have c1_0_6 : η1 0 6 = η 0 6 := v16
          have v17 : η1 0 8 = η 0 8 := (k1.1.2.2.2.1 0 8 (by decide +kernel)).trans rfl
          have c1_0_8 : η1 0 8 = η 0 8 := v17
          have bx2 : (0 : Int) ≤ x2 ∧ x2 ≤ 1 := k2.1.2.1
          have v19 : η1 0 46 = η 0 46 := (k1.1.2.2.2.1 0 46 (by decide +kernel)).trans rfl
          have v20 : η2 0 46 = η 0 46 := (k2.1.2.2.2.1 0 46 (by decide +kernel)).trans v19
          replace e3 : x3 = η 0 46 := e3.trans v20
          replace r3 : 0 ≤ x3 ∧ x3 ≤ 1 := r3
          have fm1 : zFm zMl_leafRead η η1 := zFm_tr2 zFm_rf k1.1.2.2.2.1 (by decide +kernel)
          have fm2 : zFm zMl_leafRead η η2 := zFm_tr2 fm1 k2.1.2.2.2.1 (by decide +kernel)
          have fmE : zFm zMl_leafRead η η2 := fm2
          have fr22_0 : ∀ j, η 22 j = η 22 j := fun _ => rfl
          have v21 : ∀ j, η1 22 j = η 22 j := fun j => k1.1.2.2.2.1 22 _ (zinr_not (by decide +kernel))
          have fr22_1 : ∀ j, η1 22 j = η 22 j := v21
          have v22 : ∀ j, η2 22 j = η 22 j := fun j => (k2.1.2.2.2.1 22 _ (zinr_not (by decide +kernel))).trans (v21 j)
          have fr22_2 : ∀ j, η2 22 j = η 22 j := v22
          have fr22 : ∀ j, η2 22 j = η 22 j := v22
          have v23 : η2 0 41 = η 0 41 := (k2.1.2.2.2.1 0 41 (by decide +kernel)).trans v9
          have f0_41 : η2 0 41 = η 0 41 := v23
          have v24 : η2 0 43 = η 0 43 := (k2.1.2.2.2.1 0 43 (by decide +kernel)).trans v10
          have f0_43 : η2 0 43 = η 0 43 := v24
          have v25 : η2 0 42 = η 0 42 := (k2.1.2.2.2.1 0 42 (by decide +kernel)).trans v11
          have f0_42 : η2 0 42 = η 0 42 := v25
          have v26 : η2 0 45 = η 0 45 := (k2.1.2.2.2.1 0 45 (by decide +kernel)).trans v12
          have f0_45 : η2 0 45 = η 0 45 := v26
          have v27 : η2 0 19 = η 0 19 := (k2.1.2.2.2.1 0 19 (by decide +kernel)).trans v13
          have f0_19 : η2 0 19 = η 0 19 := v27
          have v28 : η2 0 44 = η 0 44 := (k2.1.2.2.2.1 0 44 (by decide +kernel)).trans v14
          have f0_44 : η2 0 44 = η 0 44 := v28
          have v29 : η2 0 7 = η 0 7 := (k2.1.2.2.2.1 0 7 (by decide +kernel)).trans v15
          have f0_7 : η2 0 7 = η 0 7 := v29
          have v30 : η2 0 6 = η 0 6 := (k2.1.2.2.2.1 0 6 (by decide +kernel)).trans v16
          have f0_6 : η2 0 6 = η 0 6 := v30
          have v31 : η2 0 8 = η 0 8 := (k2.1.2.2.2.1 0 8 (by decide +kernel)).trans v17
          have f0_8 : η2 0 8 = η 0 8 := v31
          have wb1 : wB wl_l zTr η1 := k1.1.1
          have wb2 : wB wl_l zTr η2 := k2.1.1
          have wbE : wB wl_l zTr η2 := wb2
          have I0 : H_l 0 0 0 η := hpp.1
          have I1 : H_l 0 0 0 η1 := k1.2.1
          have I2 : H_l 0 0 0 η2 := k2.2.1
          have qk2 : η1 0 8 = 1 := k2.2.2 c2
          exact I2
        · show ∀ (x1 : Int) (η1 : zE), ((gC2 wl_l [(nat_lit 0, zPl_isSign, zOl_isSign, zMl_isSign), (nat_lit 1, zPl_wrong, zOl_wrong, zMl_wrong), (nat_lit 2, zPl_waitsFor0, zOl_waitsFor0, zMl_waitsFor0), (nat_lit 3, zPl_token, zOl_token, zMl_token), (nat_lit 4, zPl_isKey, zOl_isKey, zMl_isKey), (nat_lit 5, zPl_isCounted, zOl_isCounted, zMl_isCounted), (nat_lit 6, zPl_waitsFor2, zOl_waitsFor2, zMl_waitsFor2), (nat_lit 7, zPl_nameMet, zOl_nameMet, zMl_nameMet), (nat_lit 8, zPl_grown, zOl_grown, zMl_grown)] pCl_leafRead qCl_leafRead) 0).2 [40] η x1 η1 → (x1 = 0) → ∀ (x2 : Int) (η2 : zE), ((gC2 wl_l [(nat_lit 0, zPl_isSign, zOl_isSign, zMl_isSign), (nat_lit 1, zPl_wrong, zOl_wrong, zMl_wrong), (nat_lit 2, zPl_waitsFor0, zOl_waitsFor0, zMl_waitsFor0), (nat_lit 3, zPl_token, zOl_token, zMl_token), (nat_lit 4, zPl_isKey, zOl_isKey, zMl_isKey), (nat_lit 5, zPl_isCounted, zOl_isCounted, zMl_isCounted), (nat_lit 6, zPl_waitsFor2, zOl_waitsFor2, zMl_waitsFor2), (nat_lit 7, zPl_nameMet, zOl_nameMet, zMl_nameMet), (nat_lit 8, zPl_grown, zOl_grown, zMl_grown)] pCl_leafRead qCl_leafRead) 4).2 [12] η1 x2 η2 → (¬ x2 = 0) → ∀ x3 : Int, x3 = η2 0 (Int.toNat 46) → zok 1 x3 → (¬ x3 = 0) → ∀ (x4 : Int) (η3 : zE), ((gC2 wl_l [(nat_lit 0, zPl_isSign, zOl_isSign, zMl_isSign), (nat_lit 1, zPl_wrong, zOl_wrong, zMl_wrong), (nat_lit 2, zPl_waitsFor0, zOl_waitsFor0, zMl_waitsFor0), (nat_lit 3, zPl_token, zOl_token, zMl_token), (nat_lit 4, zPl_isKey, zOl_isKey, zMl_isKey), (nat_lit 5, zPl_isCounted, zOl_isCounted, zMl_isCounted), (nat_lit 6, zPl_waitsFor2, zOl_waitsFor2, zMl_waitsFor2), (nat_lit 7, zPl_nameMet, zOl_nameMet, zMl_nameMet), (nat_lit 8, zPl_grown, zOl_grown, zMl_grown)] pCl_leafRead qCl_leafRead) 5).2 [] η2 x4 η3 → (¬ x4 = 0) → ((gC2 wl_l [(nat_lit 0, zPl_isSign, zOl_isSign, zMl_isSign), (nat_lit 1, zPl_wrong, zOl_wrong, zMl_wrong), (nat_lit 2, zPl_waitsFor0, zOl_waitsFor0, zMl_waitsFor0), (nat_lit 3, zPl_token, zOl_token, zMl_token), (nat_lit 4, zPl_isKey, zOl_isKey, zMl_isKey), (nat_lit 5, zPl_isCounted, zOl_isCounted, zMl_isCounted), (nat_lit 6, zPl_waitsFor2, zOl_waitsFor2, zMl_waitsFor2), (nat_lit 7, zPl_nameMet, zOl_nameMet, zMl_nameMet), (nat_lit 8, zPl_grown, zOl_grown, zMl_grown)] pCl_leafRead qCl_leafRead) 6).1 [] η3
          have hw : η 0 45 = 1 := hpp.2
          have hs : η 0 7 ≤ η 0 6 := hpp.1.1.1.1
          have bd43 : (0 : Int) ≤ η 0 43 ∧ η 0 43 ≤ 8 := wf_ok (a := 43) (b := 43) (z := (0, 8)) hp.1 (by decide +kernel) (Nat.le_refl _) (Nat.le_refl _)
          have bd44 : (0 : Int) ≤ η 0 44 ∧ η 0 44 ≤ 64 := wf_ok (a := 44) (b := 44) (z := (0, 64)) hp.1 (by decide +kernel) (Nat.le_refl _) (Nat.le_refl _)
          have bd19 : (0 : Int) ≤ η 0 19 ∧ η 0 19 ≤ 64 := wf_ok (a := 19) (b := 19) (z := (0, 64)) hp.1 (by decide +kernel) (Nat.le_refl _) (Nat.le_refl _)
          intro x1 η1 h1 c1 x2 η2 h2 c2 x3 e3 r3 c3 x4 η3 h4 c4
          have k1 : sQ wl_l zTr zOl_isSign zMl_isSign [40] η x1 η1 ∧ pQl_isSign [40] η x1 η1 := h1
          have k2 : sQ wl_l zTr zOl_isKey zMl_isKey [12] η1 x2 η2 ∧ pQl_isKey [12] η1 x2 η2 := h2
          have k4 : sQ wl_l zTr zOl_isCounted zMl_isCounted [] η2 x4 η3 ∧ pQl_isCounted [] η2 x4 η3 := h4
          have c0_0_41 : η 0 41 = η 0 41 := rfl
          have w0_0_43 : (0 : Int) ≤ η 0 43 ∧ η 0 43 ≤ 8 := wf_ok (a := 43) (b := 43) (z := (0, 8)) hp.1 (by decide +kernel) (Nat.le_refl _) (Nat.le_refl _)
          have c0_0_43 : η 0 43 = η 0 43 := rfl
          have c0_0_42 : η 0 42 = η 0 42 := rfl
          have c0_0_45 : η 0 45 = η 0 45 := rfl
          have w0_0_19 : (0 : Int) ≤ η 0 19 ∧ η 0 19 ≤ 64 := wf_ok (a := 19) (b := 19) (z := (0, 64)) hp.1 (by decide +kernel) (Nat.le_refl _) (Nat.le_refl _)
          have c0_0_19 : η 0 19 = η 0 19 := rfl
          have w0_0_44 : (0 : Int) ≤ η 0 44 ∧ η 0 44 ≤ 64 := wf_ok (a := 44) (b := 44) (z := (0, 64)) hp.1 (by decide +kernel) (Nat.le_refl _) (Nat.le_refl _)
          have c0_0_44 : η 0 44 = η 0 44 := rfl
          have w0_0_7 : (0 : Int) ≤ η 0 7 ∧ η 0 7 ≤ 700 := wf_ok (a := 7) (b := 7) (z := (0, 700)) hp.1 (by decide +kernel) (Nat.le_refl _) (Nat.le_refl _)
          have c0_0_7 : η 0 7 = η 0 7 := rfl
          have w0_0_6 : (0 : Int) ≤ η 0 6 ∧ η 0 6 ≤ 700 := wf_ok (a := 6) (b := 6) (z := (0, 700)) hp.1 (by decide +kernel) (Nat.le_refl _) (Nat.le_refl _)
          have c0_0_6 : η 0 6 = η 0 6 := rfl
          have w0_0_8 : (0 : Int) ≤ η 0 8 ∧ η 0 8 ≤ 6 := wf_ok (a := 8) (b := 8) (z := (0, 6)) hp.1 (by decide +kernel) (Nat.le_refl _) (Nat.le_refl _)
          have c0_0_8 : η 0 8 = η 0 8 := rfl
          have bx1 : (0 : Int) ≤ x1 ∧ x1 ≤ 1 := k1.1.2.1
          have v9 : η1 0 41 = η 0 41 := (k1.1.2.2.2.1 0 41 (by decide +kernel)).trans rfl
          have c1_0_41 : η1 0 41 = η 0 41 := v9
          have v10 : η1 0 43 = η 0 43 := (k1.1.2.2.2.1 0 43 (by decide +kernel)).trans rfl
          have c1_0_43 : η1 0 43 = η 0 43 := v10
          have v11 : η1 0 42 = η 0 42 := (k1.1.2.2.2.1 0 42 (by decide +kernel)).trans rfl
          have c1_0_42 : η1 0 42 = η 0 42 := v11
          have v12 : η1 0 45 = η 0 45 := (k1.1.2.2.2.1 0 45 (by decide +kernel)).trans rfl
          have c1_0_45 : η1 0 45 = η 0 45 := v12
          have v13 : η1 0 19 = η 0 19 := (k1.1.2.2.2.1 0 19 (by decide +kernel)).trans rfl
          have c1_0_19 : η1 0 19 = η 0 19 := v13
          have v14 : η1 0 44 = η 0 44 := (k1.1.2.2.2.1 0 44 (by decide +kernel)).trans rfl
          have c1_0_44 : η1 0 44 = η 0 44 := v14
          have v15 : η1 0 7 = η 0 7 := (k1.1.2.2.2.1 0 7 (by decide +kernel)).trans rfl
          have c1_0_7 : η1 0 7 = η 0 7 := v15
          have v16 : η1 0 6 = η 0 6 := (k1.1.2.2.2.1 0 6 (by decide +kernel)).trans rfl
          have c1_0_6 : η1 0 6 = η 0 6 := v16
          have v17 : η1 0 8 = η 0 8 := (k1.1.2.2.2.1 0 8 (by decide +kernel)).trans rfl
          have c1_0_8 : η1 0 8 = η 0 8 := v17
          have bx2 : (0 : Int) ≤ x2 ∧ x2 ≤ 1 := k2.1.2.1
          have v19 : η1 0 46 = η 0 46 := (k1.1.2.2.2.1 0 46 (by decide +kernel)).trans rfl
          have v20 : η2 0 46 = η 0 46 := (k2.1.2.2.2.1 0 46 (by decide +kernel)).trans v19
          replace e3 : x3 = η 0 46 := e3.trans v20
          replace r3 : 0 ≤ x3 ∧ x3 ≤ 1 := r3
          have v21 : η2 0 41 = η 0 41 := (k2.1.2.2.2.1 0 41 (by decide +kernel)).trans v9
          have c2_0_41 : η2 0 41 = η 0 41 := v21
          have v22 : η2 0 43 = η 0 43 := (k2.1.2.2.2.1 0 43 (by decide +kernel)).trans v10
          have c2_0_43 : η2 0 43 = η 0 43 := v22
          have v23 : η2 0 42 = η 0 42 := (k2.1.2.2.2.1 0 42 (by decide +kernel)).trans v11
          have c2_0_42 : η2 0 42 = η 0 42 := v23
          have v24 : η2 0 45 = η 0 45 := (k2.1.2.2.2.1 0 45 (by decide +kernel)).trans v12
          have c2_0_45 : η2 0 45 = η 0 45 := v24
          have v25 : η2 0 19 = η 0 19 := (k2.1.2.2.2.1 0 19 (by decide +kernel)).trans v13
          have c2_0_19 : η2 0 19 = η 0 19 := v25
          have v26 : η2 0 44 = η 0 44 := (k2.1.2.2.2.1 0 44 (by decide +kernel)).trans v14
          have c2_0_44 : η2 0 44 = η 0 44 := v26
          have v27 : η2 0 7 = η 0 7 := (k2.1.2.2.2.1 0 7 (by decide +kernel)).trans v15
          have c2_0_7 : η2 0 7 = η 0 7 := v27
          have v28 : η2 0 6 = η 0 6 := (k2.1.2.2.2.1 0 6 (by decide +kernel)).trans v16
          have c2_0_6 : η2 0 6 = η 0 6 := v28
          have v29 : η2 0 8 = η 0 8 := (k2.1.2.2.2.1 0 8 (by decide +kernel)).trans v17
          have c2_0_8 : η2 0 8 = η 0 8 := v29
          have bx4 : (0 : Int) ≤ x4 ∧ x4 ≤ 1 := k4.1.2.1
          have fm1 : zFm zMl_leafRead η η1 := zFm_tr2 zFm_rf k1.1.2.2.2.1 (by decide +kernel)
          have fm2 : zFm zMl_leafRead η η2 := zFm_tr2 fm1 k2.1.2.2.2.1 (by decide +kernel)
          have fm3 : zFm zMl_leafRead η η3 := zFm_tr2 fm2 k4.1.2.2.2.1 (by decide +kernel)
          have fmE : zFm zMl_leafRead η η3 := fm3
          have fr22_0 : ∀ j, η 22 j = η 22 j := fun _ => rfl
          have v30 : ∀ j, η1 22 j = η 22 j := fun j => k1.1.2.2.2.1 22 _ (zinr_not (by decide +kernel))
          have fr22_1 : ∀ j, η1 22 j = η 22 j := v30
          have v31 : ∀ j, η2 22 j = η 22 j := fun j => (k2.1.2.2.2.1 22 _ (zinr_not (by decide +kernel))).trans (v30 j)
          have fr22_2 : ∀ j, η2 22 j = η 22 j := v31
          have v32 : ∀ j, η3 22 j = η 22 j := fun j => (k4.1.2.2.2.1 22 _ (zinr_not (by decide +kernel))).trans (v31 j)
          have fr22_3 : ∀ j, η3 22 j = η 22 j := v32
          have fr22 : ∀ j, η3 22 j = η 22 j := v32
          have v33 : η3 0 41 = η 0 41 := (k4.1.2.2.2.1 0 41 (by decide +kernel)).trans v21
          have f0_41 : η3 0 41 = η 0 41 := v33
          have v34 : η3 0 43 = η 0 43 := (k4.1.2.2.2.1 0 43 (by decide +kernel)).trans v22
          have f0_43 : η3 0 43 = η 0 43 := v34
          have v35 : η3 0 42 = η 0 42 := (k4.1.2.2.2.1 0 42 (by decide +kernel)).trans v23
          have f0_42 : η3 0 42 = η 0 42 := v35
          have v36 : η3 0 45 = η 0 45 := (k4.1.2.2.2.1 0 45 (by decide +kernel)).trans v24
          have f0_45 : η3 0 45 = η 0 45 := v36
          have v37 : η3 0 19 = η 0 19 := (k4.1.2.2.2.1 0 19 (by decide +kernel)).trans v25
          have f0_19 : η3 0 19 = η 0 19 := v37
          have w3_0_44 : (0 : Int) ≤ η3 0 44 ∧ η3 0 44 ≤ 64 := wf_ok (a := 44) (b := 44) (z := (0, 64)) k4.1.1 (by decide +kernel) (Nat.le_refl _) (Nat.le_refl _)
          have f0_44 : η3 0 44 = η3 0 44 := rfl
          have v39 : η3 0 7 = η 0 7 := (k4.1.2.2.2.1 0 7 (by decide +kernel)).trans v27
          have f0_7 : η3 0 7 = η 0 7 := v39
          have v40 : η3 0 6 = η 0 6 := (k4.1.2.2.2.1 0 6 (by decide +kernel)).trans v28
          have f0_6 : η3 0 6 = η 0 6 := v40
          have v41 : η3 0 8 = η 0 8 := (k4.1.2.2.2.1 0 8 (by decide +kernel)).trans v29
          have f0_8 : η3 0 8 = η 0 8 := v41
          have wb1 : wB wl_l zTr η1 := k1.1.1
          have wb2 : wB wl_l zTr η2 := k2.1.1
          have wb3 : wB wl_l zTr η3 := k4.1.1
          have wbE : wB wl_l zTr η3 := wb3
          have I0 : H_l 0 0 0 η := hpp.1
          have I1 : H_l 0 0 0 η1 := k1.2.1
          have I2 : H_l 0 0 0 η2 := k2.2.1
          have qk2 : η1 0 8 = 1 := k2.2.2 c2
          have I3 : H_l 1 0 0 η3 := k4.2.1 c4
          exact I3
        · show ∀ (x1 : Int) (η1 : zE), ((gC2 wl_l [(nat_lit 0, zPl_isSign, zOl_isSign, zMl_isSign), (nat_lit 1, zPl_wrong, zOl_wrong, zMl_wrong), (nat_lit 2, zPl_waitsFor0, zOl_waitsFor0, zMl_waitsFor0), (nat_lit 3, zPl_token, zOl_token, zMl_token), (nat_lit 4, zPl_isKey, zOl_isKey, zMl_isKey), (nat_lit 5, zPl_isCounted, zOl_isCounted, zMl_isCounted), (nat_lit 6, zPl_waitsFor2, zOl_waitsFor2, zMl_waitsFor2), (nat_lit 7, zPl_nameMet, zOl_nameMet, zMl_nameMet), (nat_lit 8, zPl_grown, zOl_grown, zMl_grown)] pCl_leafRead qCl_leafRead) 0).2 [40] η x1 η1 → (x1 = 0) → ∀ (x2 : Int) (η2 : zE), ((gC2 wl_l [(nat_lit 0, zPl_isSign, zOl_isSign, zMl_isSign), (nat_lit 1, zPl_wrong, zOl_wrong, zMl_wrong), (nat_lit 2, zPl_waitsFor0, zOl_waitsFor0, zMl_waitsFor0), (nat_lit 3, zPl_token, zOl_token, zMl_token), (nat_lit 4, zPl_isKey, zOl_isKey, zMl_isKey), (nat_lit 5, zPl_isCounted, zOl_isCounted, zMl_isCounted), (nat_lit 6, zPl_waitsFor2, zOl_waitsFor2, zMl_waitsFor2), (nat_lit 7, zPl_nameMet, zOl_nameMet, zMl_nameMet), (nat_lit 8, zPl_grown, zOl_grown, zMl_grown)] pCl_leafRead qCl_leafRead) 4).2 [12] η1 x2 η2 → (¬ x2 = 0) → ∀ x3 : Int, x3 = η2 0 (Int.toNat 46) → zok 1 x3 → (¬ x3 = 0) → ∀ (x4 : Int) (η3 : zE), ((gC2 wl_l [(nat_lit 0, zPl_isSign, zOl_isSign, zMl_isSign), (nat_lit 1, zPl_wrong, zOl_wrong, zMl_wrong), (nat_lit 2, zPl_waitsFor0, zOl_waitsFor0, zMl_waitsFor0), (nat_lit 3, zPl_token, zOl_token, zMl_token), (nat_lit 4, zPl_isKey, zOl_isKey, zMl_isKey), (nat_lit 5, zPl_isCounted, zOl_isCounted, zMl_isCounted), (nat_lit 6, zPl_waitsFor2, zOl_waitsFor2, zMl_waitsFor2), (nat_lit 7, zPl_nameMet, zOl_nameMet, zMl_nameMet), (nat_lit 8, zPl_grown, zOl_grown, zMl_grown)] pCl_leafRead qCl_leafRead) 5).2 [] η2 x4 η3 → (¬ x4 = 0) → ∀ (x5 : Int) (η4 : zE), ((gC2 wl_l [(nat_lit 0, zPl_isSign, zOl_isSign, zMl_isSign), (nat_lit 1, zPl_wrong, zOl_wrong, zMl_wrong), (nat_lit 2, zPl_waitsFor0, zOl_waitsFor0, zMl_waitsFor0), (nat_lit 3, zPl_token, zOl_token, zMl_token), (nat_lit 4, zPl_isKey, zOl_isKey, zMl_isKey), (nat_lit 5, zPl_isCounted, zOl_isCounted, zMl_isCounted), (nat_lit 6, zPl_waitsFor2, zOl_waitsFor2, zMl_waitsFor2), (nat_lit 7, zPl_nameMet, zOl_nameMet, zMl_nameMet), (nat_lit 8, zPl_grown, zOl_grown, zMl_grown)] pCl_leafRead qCl_leafRead) 6).2 [] η3 x5 η4 → ((gC2 wl_l [(nat_lit 0, zPl_isSign, zOl_isSign, zMl_isSign), (nat_lit 1, zPl_wrong, zOl_wrong, zMl_wrong), (nat_lit 2, zPl_waitsFor0, zOl_waitsFor0, zMl_waitsFor0), (nat_lit 3, zPl_token, zOl_token, zMl_token), (nat_lit 4, zPl_isKey, zOl_isKey, zMl_isKey), (nat_lit 5, zPl_isCounted, zOl_isCounted, zMl_isCounted), (nat_lit 6, zPl_waitsFor2, zOl_waitsFor2, zMl_waitsFor2), (nat_lit 7, zPl_nameMet, zOl_nameMet, zMl_nameMet), (nat_lit 8, zPl_grown, zOl_grown, zMl_grown)] pCl_leafRead qCl_leafRead) 3).1 [] η4
          intro x1 η1 h1 c1 x2 η2 h2 c2 x3 e3 r3 c3 x4 η3 h4 c4 x5 η4 h5
          have k1 : sQ wl_l zTr zOl_isSign zMl_isSign [40] η x1 η1 ∧ pQl_isSign [40] η x1 η1 := h1
          have k2 : sQ wl_l zTr zOl_isKey zMl_isKey [12] η1 x2 η2 ∧ pQl_isKey [12] η1 x2 η2 := h2
          have k4 : sQ wl_l zTr zOl_isCounted zMl_isCounted [] η2 x4 η3 ∧ pQl_isCounted [] η2 x4 η3 := h4
          have k5 : sQ wl_l zTr zOl_waitsFor2 zMl_waitsFor2 [] η3 x5 η4 ∧ pQl_waitsFor2 [] η3 x5 η4 := h5
          exact k5.2
        · show ∀ (x1 : Int) (η1 : zE), ((gC2 wl_l [(nat_lit 0, zPl_isSign, zOl_isSign, zMl_isSign), (nat_lit 1, zPl_wrong, zOl_wrong, zMl_wrong), (nat_lit 2, zPl_waitsFor0, zOl_waitsFor0, zMl_waitsFor0), (nat_lit 3, zPl_token, zOl_token, zMl_token), (nat_lit 4, zPl_isKey, zOl_isKey, zMl_isKey), (nat_lit 5, zPl_isCounted, zOl_isCounted, zMl_isCounted), (nat_lit 6, zPl_waitsFor2, zOl_waitsFor2, zMl_waitsFor2), (nat_lit 7, zPl_nameMet, zOl_nameMet, zMl_nameMet), (nat_lit 8, zPl_grown, zOl_grown, zMl_grown)] pCl_leafRead qCl_leafRead) 0).2 [40] η x1 η1 → (x1 = 0) → ∀ (x2 : Int) (η2 : zE), ((gC2 wl_l [(nat_lit 0, zPl_isSign, zOl_isSign, zMl_isSign), (nat_lit 1, zPl_wrong, zOl_wrong, zMl_wrong), (nat_lit 2, zPl_waitsFor0, zOl_waitsFor0, zMl_waitsFor0), (nat_lit 3, zPl_token, zOl_token, zMl_token), (nat_lit 4, zPl_isKey, zOl_isKey, zMl_isKey), (nat_lit 5, zPl_isCounted, zOl_isCounted, zMl_isCounted), (nat_lit 6, zPl_waitsFor2, zOl_waitsFor2, zMl_waitsFor2), (nat_lit 7, zPl_nameMet, zOl_nameMet, zMl_nameMet), (nat_lit 8, zPl_grown, zOl_grown, zMl_grown)] pCl_leafRead qCl_leafRead) 4).2 [12] η1 x2 η2 → (¬ x2 = 0) → ∀ x3 : Int, x3 = η2 0 (Int.toNat 46) → zok 1 x3 → (¬ x3 = 0) → ∀ (x4 : Int) (η3 : zE), ((gC2 wl_l [(nat_lit 0, zPl_isSign, zOl_isSign, zMl_isSign), (nat_lit 1, zPl_wrong, zOl_wrong, zMl_wrong), (nat_lit 2, zPl_waitsFor0, zOl_waitsFor0, zMl_waitsFor0), (nat_lit 3, zPl_token, zOl_token, zMl_token), (nat_lit 4, zPl_isKey, zOl_isKey, zMl_isKey), (nat_lit 5, zPl_isCounted, zOl_isCounted, zMl_isCounted), (nat_lit 6, zPl_waitsFor2, zOl_waitsFor2, zMl_waitsFor2), (nat_lit 7, zPl_nameMet, zOl_nameMet, zMl_nameMet), (nat_lit 8, zPl_grown, zOl_grown, zMl_grown)] pCl_leafRead qCl_leafRead) 5).2 [] η2 x4 η3 → (¬ x4 = 0) → ∀ (x5 : Int) (η4 : zE), ((gC2 wl_l [(nat_lit 0, zPl_isSign, zOl_isSign, zMl_isSign), (nat_lit 1, zPl_wrong, zOl_wrong, zMl_wrong), (nat_lit 2, zPl_waitsFor0, zOl_waitsFor0, zMl_waitsFor0), (nat_lit 3, zPl_token, zOl_token, zMl_token), (nat_lit 4, zPl_isKey, zOl_isKey, zMl_isKey), (nat_lit 5, zPl_isCounted, zOl_isCounted, zMl_isCounted), (nat_lit 6, zPl_waitsFor2, zOl_waitsFor2, zMl_waitsFor2), (nat_lit 7, zPl_nameMet, zOl_nameMet, zMl_nameMet), (nat_lit 8, zPl_grown, zOl_grown, zMl_grown)] pCl_leafRead qCl_leafRead) 6).2 [] η3 x5 η4 → ∀ (x6 : Int) (η5 : zE), ((gC2 wl_l [(nat_lit 0, zPl_isSign, zOl_isSign, zMl_isSign), (nat_lit 1, zPl_wrong, zOl_wrong, zMl_wrong), (nat_lit 2, zPl_waitsFor0, zOl_waitsFor0, zMl_waitsFor0), (nat_lit 3, zPl_token, zOl_token, zMl_token), (nat_lit 4, zPl_isKey, zOl_isKey, zMl_isKey), (nat_lit 5, zPl_isCounted, zOl_isCounted, zMl_isCounted), (nat_lit 6, zPl_waitsFor2, zOl_waitsFor2, zMl_waitsFor2), (nat_lit 7, zPl_nameMet, zOl_nameMet, zMl_nameMet), (nat_lit 8, zPl_grown, zOl_grown, zMl_grown)] pCl_leafRead qCl_leafRead) 3).2 [] η4 x6 η5 → (fun (_ : Nat) (y : Int) (η' : zE) => pQl_leafRead [] η y η') 0 1 η5
          have hw : η 0 45 = 1 := hpp.2
          have hs : η 0 7 ≤ η 0 6 := hpp.1.1.1.1
          have bd43 : (0 : Int) ≤ η 0 43 ∧ η 0 43 ≤ 8 := wf_ok (a := 43) (b := 43) (z := (0, 8)) hp.1 (by decide +kernel) (Nat.le_refl _) (Nat.le_refl _)
          have bd44 : (0 : Int) ≤ η 0 44 ∧ η 0 44 ≤ 64 := wf_ok (a := 44) (b := 44) (z := (0, 64)) hp.1 (by decide +kernel) (Nat.le_refl _) (Nat.le_refl _)
          have bd19 : (0 : Int) ≤ η 0 19 ∧ η 0 19 ≤ 64 := wf_ok (a := 19) (b := 19) (z := (0, 64)) hp.1 (by decide +kernel) (Nat.le_refl _) (Nat.le_refl _)
          intro x1 η1 h1 c1 x2 η2 h2 c2 x3 e3 r3 c3 x4 η3 h4 c4 x5 η4 h5 x6 η5 h6
          have k1 : sQ wl_l zTr zOl_isSign zMl_isSign [40] η x1 η1 ∧ pQl_isSign [40] η x1 η1 := h1
          have k2 : sQ wl_l zTr zOl_isKey zMl_isKey [12] η1 x2 η2 ∧ pQl_isKey [12] η1 x2 η2 := h2
          have k4 : sQ wl_l zTr zOl_isCounted zMl_isCounted [] η2 x4 η3 ∧ pQl_isCounted [] η2 x4 η3 := h4
          have k5 : sQ wl_l zTr zOl_waitsFor2 zMl_waitsFor2 [] η3 x5 η4 ∧ pQl_waitsFor2 [] η3 x5 η4 := h5
          have k6 : sQ wl_l zTr zOl_token zMl_token [] η4 x6 η5 ∧ pQl_token [] η4 x6 η5 := h6
          have c0_0_41 : η 0 41 = η 0 41 := rfl
          have w0_0_43 : (0 : Int) ≤ η 0 43 ∧ η 0 43 ≤ 8 := wf_ok (a := 43) (b := 43) (z := (0, 8)) hp.1 (by decide +kernel) (Nat.le_refl _) (Nat.le_refl _)
          have c0_0_43 : η 0 43 = η 0 43 := rfl
          have c0_0_42 : η 0 42 = η 0 42 := rfl
          have c0_0_45 : η 0 45 = η 0 45 := rfl
          have w0_0_19 : (0 : Int) ≤ η 0 19 ∧ η 0 19 ≤ 64 := wf_ok (a := 19) (b := 19) (z := (0, 64)) hp.1 (by decide +kernel) (Nat.le_refl _) (Nat.le_refl _)
          have c0_0_19 : η 0 19 = η 0 19 := rfl
          have w0_0_44 : (0 : Int) ≤ η 0 44 ∧ η 0 44 ≤ 64 := wf_ok (a := 44) (b := 44) (z := (0, 64)) hp.1 (by decide +kernel) (Nat.le_refl _) (Nat.le_refl _)
          have c0_0_44 : η 0 44 = η 0 44 := rfl
          have w0_0_7 : (0 : Int) ≤ η 0 7 ∧ η 0 7 ≤ 700 := wf_ok (a := 7) (b := 7) (z := (0, 700)) hp.1 (by decide +kernel) (Nat.le_refl _) (Nat.le_refl _)
          have c0_0_7 : η 0 7 = η 0 7 := rfl
          have w0_0_6 : (0 : Int) ≤ η 0 6 ∧ η 0 6 ≤ 700 := wf_ok (a := 6) (b := 6) (z := (0, 700)) hp.1 (by decide +kernel) (Nat.le_refl _) (Nat.le_refl _)
          have c0_0_6 : η 0 6 = η 0 6 := rfl
          have w0_0_8 : (0 : Int) ≤ η 0 8 ∧ η 0 8 ≤ 6 := wf_ok (a := 8) (b := 8) (z := (0, 6)) hp.1 (by decide +kernel) (Nat.le_refl _) (Nat.le_refl _)
          have c0_0_8 : η 0 8 = η 0 8 := rfl
          have bx1 : (0 : Int) ≤ x1 ∧ x1 ≤ 1 := k1.1.2.1
          have v9 : η1 0 41 = η 0 41 := (k1.1.2.2.2.1 0 41 (by decide +kernel)).trans rfl
          have c1_0_41 : η1 0 41 = η 0 41 := v9
          have v10 : η1 0 43 = η 0 43 := (k1.1.2.2.2.1 0 43 (by decide +kernel)).trans rfl
          have c1_0_43 : η1 0 43 = η 0 43 := v10
          have v11 : η1 0 42 = η 0 42 := (k1.1.2.2.2.1 0 42 (by decide +kernel)).trans rfl
          have c1_0_42 : η1 0 42 = η 0 42 := v11
          have v12 : η1 0 45 = η 0 45 := (k1.1.2.2.2.1 0 45 (by decide +kernel)).trans rfl
          have c1_0_45 : η1 0 45 = η 0 45 := v12
          have v13 : η1 0 19 = η 0 19 := (k1.1.2.2.2.1 0 19 (by decide +kernel)).trans rfl
          have c1_0_19 : η1 0 19 = η 0 19 := v13
          have v14 : η1 0 44 = η 0 44 := (k1.1.2.2.2.1 0 44 (by decide +kernel)).trans rfl
          have c1_0_44 : η1 0 44 = η 0 44 := v14
          have v15 : η1 0 7 = η 0 7 := (k1.1.2.2.2.1 0 7 (by decide +kernel)).trans rfl
          have c1_0_7 : η1 0 7 = η 0 7 := v15
          have v16 : η1 0 6 = η 0 6 := (k1.1.2.2.2.1 0 6 (by decide +kernel)).trans rfl
          have c1_0_6 : η1 0 6 = η 0 6 := v16
          have v17 : η1 0 8 = η 0 8 := (k1.1.2.2.2.1 0 8 (by decide +kernel)).trans rfl
          have c1_0_8 : η1 0 8 = η 0 8 := v17
          have bx2 : (0 : Int) ≤ x2 ∧ x2 ≤ 1 := k2.1.2.1
          have v19 : η1 0 46 = η 0 46 := (k1.1.2.2.2.1 0 46 (by decide +kernel)).trans rfl
          have v20 : η2 0 46 = η 0 46 := (k2.1.2.2.2.1 0 46 (by decide +kernel)).trans v19
          replace e3 : x3 = η 0 46 := e3.trans v20
          replace r3 : 0 ≤ x3 ∧ x3 ≤ 1 := r3
          have v21 : η2 0 41 = η 0 41 := (k2.1.2.2.2.1 0 41 (by decide +kernel)).trans v9
          have c2_0_41 : η2 0 41 = η 0 41 := v21
          have v22 : η2 0 43 = η 0 43 := (k2.1.2.2.2.1 0 43 (by decide +kernel)).trans v10
          have c2_0_43 : η2 0 43 = η 0 43 := v22
          have v23 : η2 0 42 = η 0 42 := (k2.1.2.2.2.1 0 42 (by decide +kernel)).trans v11
          have c2_0_42 : η2 0 42 = η 0 42 := v23
          have v24 : η2 0 45 = η 0 45 := (k2.1.2.2.2.1 0 45 (by decide +kernel)).trans v12
          have c2_0_45 : η2 0 45 = η 0 45 := v24
          have v25 : η2 0 19 = η 0 19 := (k2.1.2.2.2.1 0 19 (by decide +kernel)).trans v13
          have c2_0_19 : η2 0 19 = η 0 19 := v25
          have v26 : η2 0 44 = η 0 44 := (k2.1.2.2.2.1 0 44 (by decide +kernel)).trans v14
          have c2_0_44 : η2 0 44 = η 0 44 := v26
          have v27 : η2 0 7 = η 0 7 := (k2.1.2.2.2.1 0 7 (by decide +kernel)).trans v15
          have c2_0_7 : η2 0 7 = η 0 7 := v27
          have v28 : η2 0 6 = η 0 6 := (k2.1.2.2.2.1 0 6 (by decide +kernel)).trans v16
          have c2_0_6 : η2 0 6 = η 0 6 := v28
          have v29 : η2 0 8 = η 0 8 := (k2.1.2.2.2.1 0 8 (by decide +kernel)).trans v17
          have c2_0_8 : η2 0 8 = η 0 8 := v29
          have bx4 : (0 : Int) ≤ x4 ∧ x4 ≤ 1 := k4.1.2.1
          have v30 : η3 0 41 = η 0 41 := (k4.1.2.2.2.1 0 41 (by decide +kernel)).trans v21
          have c3_0_41 : η3 0 41 = η 0 41 := v30
          have v31 : η3 0 43 = η 0 43 := (k4.1.2.2.2.1 0 43 (by decide +kernel)).trans v22
          have c3_0_43 : η3 0 43 = η 0 43 := v31
          have v32 : η3 0 42 = η 0 42 := (k4.1.2.2.2.1 0 42 (by decide +kernel)).trans v23
          have c3_0_42 : η3 0 42 = η 0 42 := v32
          have v33 : η3 0 45 = η 0 45 := (k4.1.2.2.2.1 0 45 (by decide +kernel)).trans v24
          have c3_0_45 : η3 0 45 = η 0 45 := v33
          have v34 : η3 0 19 = η 0 19 := (k4.1.2.2.2.1 0 19 (by decide +kernel)).trans v25
          have c3_0_19 : η3 0 19 = η 0 19 := v34
          have w3_0_44 : (0 : Int) ≤ η3 0 44 ∧ η3 0 44 ≤ 64 := wf_ok (a := 44) (b := 44) (z := (0, 64)) k4.1.1 (by decide +kernel) (Nat.le_refl _) (Nat.le_refl _)
          have c3_0_44 : η3 0 44 = η3 0 44 := rfl
          have v36 : η3 0 7 = η 0 7 := (k4.1.2.2.2.1 0 7 (by decide +kernel)).trans v27
          have c3_0_7 : η3 0 7 = η 0 7 := v36
          have v37 : η3 0 6 = η 0 6 := (k4.1.2.2.2.1 0 6 (by decide +kernel)).trans v28
          have c3_0_6 : η3 0 6 = η 0 6 := v37
          have v38 : η3 0 8 = η 0 8 := (k4.1.2.2.2.1 0 8 (by decide +kernel)).trans v29
          have c3_0_8 : η3 0 8 = η 0 8 := v38
          have bx5 : (0 : Int) ≤ x5 ∧ x5 ≤ 0 := k5.1.2.1
          have c4_0_41 : η4 0 41 = η4 0 41 := rfl
          have v40 : η4 0 43 = η 0 43 := (k5.1.2.2.2.1 0 43 (by decide +kernel)).trans v31
          have c4_0_43 : η4 0 43 = η 0 43 := v40
          have v41 : η4 0 42 = η 0 42 := (k5.1.2.2.2.1 0 42 (by decide +kernel)).trans v32
          have c4_0_42 : η4 0 42 = η 0 42 := v41
          have v42 : η4 0 45 = η 0 45 := (k5.1.2.2.2.1 0 45 (by decide +kernel)).trans v33
          have c4_0_45 : η4 0 45 = η 0 45 := v42
          have v43 : η4 0 19 = η 0 19 := (k5.1.2.2.2.1 0 19 (by decide +kernel)).trans v34
          have c4_0_19 : η4 0 19 = η 0 19 := v43
          have v44 : η4 0 44 = η3 0 44 := (k5.1.2.2.2.1 0 44 (by decide +kernel)).trans rfl
          have c4_0_44 : η4 0 44 = η3 0 44 := v44
          have v45 : η4 0 7 = η 0 7 := (k5.1.2.2.2.1 0 7 (by decide +kernel)).trans v36
          have c4_0_7 : η4 0 7 = η 0 7 := v45
          have v46 : η4 0 6 = η 0 6 := (k5.1.2.2.2.1 0 6 (by decide +kernel)).trans v37
          have c4_0_6 : η4 0 6 = η 0 6 := v46
          have v47 : η4 0 8 = η 0 8 := (k5.1.2.2.2.1 0 8 (by decide +kernel)).trans v38
          have c4_0_8 : η4 0 8 = η 0 8 := v47
          have bx6 : (0 : Int) ≤ x6 ∧ x6 ≤ 0 := k6.1.2.1
          have fm1 : zFm zMl_leafRead η η1 := zFm_tr2 zFm_rf k1.1.2.2.2.1 (by decide +kernel)
          have fm2 : zFm zMl_leafRead η η2 := zFm_tr2 fm1 k2.1.2.2.2.1 (by decide +kernel)
          have fm3 : zFm zMl_leafRead η η3 := zFm_tr2 fm2 k4.1.2.2.2.1 (by decide +kernel)
          have fm4 : zFm zMl_leafRead η η4 := zFm_tr2 fm3 k5.1.2.2.2.1 (by decide +kernel)
          have fm5 : zFm zMl_leafRead η η5 := zFm_tr2 fm4 k6.1.2.2.2.1 (by decide +kernel)
          have fmE : zFm zMl_leafRead η η5 := fm5
          have fr22_0 : ∀ j, η 22 j = η 22 j := fun _ => rfl
          have v48 : ∀ j, η1 22 j = η 22 j := fun j => k1.1.2.2.2.1 22 _ (zinr_not (by decide +kernel))
          have fr22_1 : ∀ j, η1 22 j = η 22 j := v48
          have v49 : ∀ j, η2 22 j = η 22 j := fun j => (k2.1.2.2.2.1 22 _ (zinr_not (by decide +kernel))).trans (v48 j)
          have fr22_2 : ∀ j, η2 22 j = η 22 j := v49
          have v50 : ∀ j, η3 22 j = η 22 j := fun j => (k4.1.2.2.2.1 22 _ (zinr_not (by decide +kernel))).trans (v49 j)
          have fr22_3 : ∀ j, η3 22 j = η 22 j := v50
          have fr22_4 : ∀ j, η4 22 j = η4 22 j := fun _ => rfl
          have v52 : ∀ j, η5 22 j = η4 22 j := fun j => k6.1.2.2.2.1 22 _ (zinr_not (by decide +kernel))
          have fr22_5 : ∀ j, η5 22 j = η4 22 j := v52
          have fr22 : ∀ j, η5 22 j = η4 22 j := v52
          have v53 : η5 0 41 = η4 0 41 := (k6.1.2.2.2.1 0 41 (by decide +kernel)).trans rfl
          have f0_41 : η5 0 41 = η4 0 41 := v53
          have v54 : η5 0 43 = η 0 43 := (k6.1.2.2.2.1 0 43 (by decide +kernel)).trans v40
          have f0_43 : η5 0 43 = η 0 43 := v54
          have v55 : η5 0 42 = η 0 42 := (k6.1.2.2.2.1 0 42 (by decide +kernel)).trans v41
          have f0_42 : η5 0 42 = η 0 42 := v55
          have v56 : η5 0 45 = η 0 45 := (k6.1.2.2.2.1 0 45 (by decide +kernel)).trans v42
          have f0_45 : η5 0 45 = η 0 45 := v56
          have v57 : η5 0 19 = η 0 19 := (k6.1.2.2.2.1 0 19 (by decide +kernel)).trans v43
          have f0_19 : η5 0 19 = η 0 19 := v57
          have v58 : η5 0 44 = η3 0 44 := (k6.1.2.2.2.1 0 44 (by decide +kernel)).trans v44
          have f0_44 : η5 0 44 = η3 0 44 := v58
          have w5_0_7 : (0 : Int) ≤ η5 0 7 ∧ η5 0 7 ≤ 700 := wf_ok (a := 7) (b := 7) (z := (0, 700)) k6.1.1 (by decide +kernel) (Nat.le_refl _) (Nat.le_refl _)
          have f0_7 : η5 0 7 = η5 0 7 := rfl
          have v60 : η5 0 6 = η 0 6 := (k6.1.2.2.2.1 0 6 (by decide +kernel)).trans v46
          have f0_6 : η5 0 6 = η 0 6 := v60
          have w5_0_8 : (0 : Int) ≤ η5 0 8 ∧ η5 0 8 ≤ 6 := wf_ok (a := 8) (b := 8) (z := (0, 6)) k6.1.1 (by decide +kernel) (Nat.le_refl _) (Nat.le_refl _)
          have f0_8 : η5 0 8 = η5 0 8 := rfl
          have wb1 : wB wl_l zTr η1 := k1.1.1
          have wb2 : wB wl_l zTr η2 := k2.1.1
          have wb3 : wB wl_l zTr η3 := k4.1.1
          have wb4 : wB wl_l zTr η4 := k5.1.1
          have wb5 : wB wl_l zTr η5 := k6.1.1
          have wbE : wB wl_l zTr η5 := wb5
          have I0 : H_l 0 0 0 η := hpp.1
          have I1 : H_l 0 0 0 η1 := k1.2.1
          have I2 : H_l 0 0 0 η2 := k2.2.1
          have qk2 : η1 0 8 = 1 := k2.2.2 c2
          have I3 : H_l 1 0 0 η3 := k4.2.1 c4
          have I4 : H_l 0 0 0 η4 := k5.2
          have I5 : H_l 0 0 0 η5 := k6.2.1
          have qt6 : ¬ η4 0 8 = 0 → 10 * (η5 0 6 - η5 0 7) + η5 0 8 < 10 * (η4 0 6 - η4 0 7) + η4 0 8 := k6.2.2
          refine ⟨I5.1, fun _ => ⟨I5, show 10 * (η5 0 6 - η5 0 7) + η5 0 8 < 10 * (η 0 6 - η 0 7) + η 0 8 by omega, fun w => ?_⟩⟩
          have w : η5 0 45 = 0 := w
          omega
        · show ∀ (x1 : Int) (η1 : zE), ((gC2 wl_l [(nat_lit 0, zPl_isSign, zOl_isSign, zMl_isSign), (nat_lit 1, zPl_wrong, zOl_wrong, zMl_wrong), (nat_lit 2, zPl_waitsFor0, zOl_waitsFor0, zMl_waitsFor0), (nat_lit 3, zPl_token, zOl_token, zMl_token), (nat_lit 4, zPl_isKey, zOl_isKey, zMl_isKey), (nat_lit 5, zPl_isCounted, zOl_isCounted, zMl_isCounted), (nat_lit 6, zPl_waitsFor2, zOl_waitsFor2, zMl_waitsFor2), (nat_lit 7, zPl_nameMet, zOl_nameMet, zMl_nameMet), (nat_lit 8, zPl_grown, zOl_grown, zMl_grown)] pCl_leafRead qCl_leafRead) 0).2 [40] η x1 η1 → (x1 = 0) → ∀ (x2 : Int) (η2 : zE), ((gC2 wl_l [(nat_lit 0, zPl_isSign, zOl_isSign, zMl_isSign), (nat_lit 1, zPl_wrong, zOl_wrong, zMl_wrong), (nat_lit 2, zPl_waitsFor0, zOl_waitsFor0, zMl_waitsFor0), (nat_lit 3, zPl_token, zOl_token, zMl_token), (nat_lit 4, zPl_isKey, zOl_isKey, zMl_isKey), (nat_lit 5, zPl_isCounted, zOl_isCounted, zMl_isCounted), (nat_lit 6, zPl_waitsFor2, zOl_waitsFor2, zMl_waitsFor2), (nat_lit 7, zPl_nameMet, zOl_nameMet, zMl_nameMet), (nat_lit 8, zPl_grown, zOl_grown, zMl_grown)] pCl_leafRead qCl_leafRead) 4).2 [12] η1 x2 η2 → (¬ x2 = 0) → ∀ x3 : Int, x3 = η2 0 (Int.toNat 46) → zok 1 x3 → (¬ x3 = 0) → ∀ (x4 : Int) (η3 : zE), ((gC2 wl_l [(nat_lit 0, zPl_isSign, zOl_isSign, zMl_isSign), (nat_lit 1, zPl_wrong, zOl_wrong, zMl_wrong), (nat_lit 2, zPl_waitsFor0, zOl_waitsFor0, zMl_waitsFor0), (nat_lit 3, zPl_token, zOl_token, zMl_token), (nat_lit 4, zPl_isKey, zOl_isKey, zMl_isKey), (nat_lit 5, zPl_isCounted, zOl_isCounted, zMl_isCounted), (nat_lit 6, zPl_waitsFor2, zOl_waitsFor2, zMl_waitsFor2), (nat_lit 7, zPl_nameMet, zOl_nameMet, zMl_nameMet), (nat_lit 8, zPl_grown, zOl_grown, zMl_grown)] pCl_leafRead qCl_leafRead) 5).2 [] η2 x4 η3 → (x4 = 0) → (fun (_ : Nat) (y : Int) (η' : zE) => pQl_leafRead [] η y η') 0 0 η3
          have hw : η 0 45 = 1 := hpp.2
          have hs : η 0 7 ≤ η 0 6 := hpp.1.1.1.1
          have bd43 : (0 : Int) ≤ η 0 43 ∧ η 0 43 ≤ 8 := wf_ok (a := 43) (b := 43) (z := (0, 8)) hp.1 (by decide +kernel) (Nat.le_refl _) (Nat.le_refl _)
          have bd44 : (0 : Int) ≤ η 0 44 ∧ η 0 44 ≤ 64 := wf_ok (a := 44) (b := 44) (z := (0, 64)) hp.1 (by decide +kernel) (Nat.le_refl _) (Nat.le_refl _)
          have bd19 : (0 : Int) ≤ η 0 19 ∧ η 0 19 ≤ 64 := wf_ok (a := 19) (b := 19) (z := (0, 64)) hp.1 (by decide +kernel) (Nat.le_refl _) (Nat.le_refl _)
          intro x1 η1 h1 c1 x2 η2 h2 c2 x3 e3 r3 c3 x4 η3 h4 c4
          have k1 : sQ wl_l zTr zOl_isSign zMl_isSign [40] η x1 η1 ∧ pQl_isSign [40] η x1 η1 := h1
          have k2 : sQ wl_l zTr zOl_isKey zMl_isKey [12] η1 x2 η2 ∧ pQl_isKey [12] η1 x2 η2 := h2
          have k4 : sQ wl_l zTr zOl_isCounted zMl_isCounted [] η2 x4 η3 ∧ pQl_isCounted [] η2 x4 η3 := h4
          have c0_0_41 : η 0 41 = η 0 41 := rfl
          have w0_0_43 : (0 : Int) ≤ η 0 43 ∧ η 0 43 ≤ 8 := wf_ok (a := 43) (b := 43) (z := (0, 8)) hp.1 (by decide +kernel) (Nat.le_refl _) (Nat.le_refl _)
          have c0_0_43 : η 0 43 = η 0 43 := rfl
          have c0_0_42 : η 0 42 = η 0 42 := rfl
          have c0_0_45 : η 0 45 = η 0 45 := rfl
          have w0_0_19 : (0 : Int) ≤ η 0 19 ∧ η 0 19 ≤ 64 := wf_ok (a := 19) (b := 19) (z := (0, 64)) hp.1 (by decide +kernel) (Nat.le_refl _) (Nat.le_refl _)
          have c0_0_19 : η 0 19 = η 0 19 := rfl
          have w0_0_44 : (0 : Int) ≤ η 0 44 ∧ η 0 44 ≤ 64 := wf_ok (a := 44) (b := 44) (z := (0, 64)) hp.1 (by decide +kernel) (Nat.le_refl _) (Nat.le_refl _)
          have c0_0_44 : η 0 44 = η 0 44 := rfl
          have w0_0_7 : (0 : Int) ≤ η 0 7 ∧ η 0 7 ≤ 700 := wf_ok (a := 7) (b := 7) (z := (0, 700)) hp.1 (by decide +kernel) (Nat.le_refl _) (Nat.le_refl _)
          have c0_0_7 : η 0 7 = η 0 7 := rfl
          have w0_0_6 : (0 : Int) ≤ η 0 6 ∧ η 0 6 ≤ 700 := wf_ok (a := 6) (b := 6) (z := (0, 700)) hp.1 (by decide +kernel) (Nat.le_refl _) (Nat.le_refl _)
          have c0_0_6 : η 0 6 = η 0 6 := rfl
          have w0_0_8 : (0 : Int) ≤ η 0 8 ∧ η 0 8 ≤ 6 := wf_ok (a := 8) (b := 8) (z := (0, 6)) hp.1 (by decide +kernel) (Nat.le_refl _) (Nat.le_refl _)
          have c0_0_8 : η 0 8 = η 0 8 := rfl
          have bx1 : (0 : Int) ≤ x1 ∧ x1 ≤ 1 := k1.1.2.1
          have v9 : η1 0 41 = η 0 41 := (k1.1.2.2.2.1 0 41 (by decide +kernel)).trans rfl
          have c1_0_41 : η1 0 41 = η 0 41 := v9
          have v10 : η1 0 43 = η 0 43 := (k1.1.2.2.2.1 0 43 (by decide +kernel)).trans rfl
          have c1_0_43 : η1 0 43 = η 0 43 := v10
          have v11 : η1 0 42 = η 0 42 := (k1.1.2.2.2.1 0 42 (by decide +kernel)).trans rfl
          have c1_0_42 : η1 0 42 = η 0 42 := v11
          have v12 : η1 0 45 = η 0 45 := (k1.1.2.2.2.1 0 45 (by decide +kernel)).trans rfl
          have c1_0_45 : η1 0 45 = η 0 45 := v12
          have v13 : η1 0 19 = η 0 19 := (k1.1.2.2.2.1 0 19 (by decide +kernel)).trans rfl
          have c1_0_19 : η1 0 19 = η 0 19 := v13
          have v14 : η1 0 44 = η 0 44 := (k1.1.2.2.2.1 0 44 (by decide +kernel)).trans rfl
          have c1_0_44 : η1 0 44 = η 0 44 := v14
          have v15 : η1 0 7 = η 0 7 := (k1.1.2.2.2.1 0 7 (by decide +kernel)).trans rfl
          have c1_0_7 : η1 0 7 = η 0 7 := v15
          have v16 : η1 0 6 = η 0 6 := (k1.1.2.2.2.1 0 6 (by decide +kernel)).trans rfl
          have c1_0_6 : η1 0 6 = η 0 6 := v16
          have v17 : η1 0 8 = η 0 8 := (k1.1.2.2.2.1 0 8 (by decide +kernel)).trans rfl
          have c1_0_8 : η1 0 8 = η 0 8 := v17
          have bx2 : (0 : Int) ≤ x2 ∧ x2 ≤ 1 := k2.1.2.1
          have v19 : η1 0 46 = η 0 46 := (k1.1.2.2.2.1 0 46 (by decide +kernel)).trans rfl
          have v20 : η2 0 46 = η 0 46 := (k2.1.2.2.2.1 0 46 (by decide +kernel)).trans v19
          replace e3 : x3 = η 0 46 := e3.trans v20
          replace r3 : 0 ≤ x3 ∧ x3 ≤ 1 := r3
          have v21 : η2 0 41 = η 0 41 := (k2.1.2.2.2.1 0 41 (by decide +kernel)).trans v9
          have c2_0_41 : η2 0 41 = η 0 41 := v21
          have v22 : η2 0 43 = η 0 43 := (k2.1.2.2.2.1 0 43 (by decide +kernel)).trans v10
          have c2_0_43 : η2 0 43 = η 0 43 := v22
          have v23 : η2 0 42 = η 0 42 := (k2.1.2.2.2.1 0 42 (by decide +kernel)).trans v11
          have c2_0_42 : η2 0 42 = η 0 42 := v23
          have v24 : η2 0 45 = η 0 45 := (k2.1.2.2.2.1 0 45 (by decide +kernel)).trans v12
          have c2_0_45 : η2 0 45 = η 0 45 := v24
          have v25 : η2 0 19 = η 0 19 := (k2.1.2.2.2.1 0 19 (by decide +kernel)).trans v13
          have c2_0_19 : η2 0 19 = η 0 19 := v25
          have v26 : η2 0 44 = η 0 44 := (k2.1.2.2.2.1 0 44 (by decide +kernel)).trans v14
          have c2_0_44 : η2 0 44 = η 0 44 := v26
          have v27 : η2 0 7 = η 0 7 := (k2.1.2.2.2.1 0 7 (by decide +kernel)).trans v15
          have c2_0_7 : η2 0 7 = η 0 7 := v27
          have v28 : η2 0 6 = η 0 6 := (k2.1.2.2.2.1 0 6 (by decide +kernel)).trans v16
          have c2_0_6 : η2 0 6 = η 0 6 := v28
          have v29 : η2 0 8 = η 0 8 := (k2.1.2.2.2.1 0 8 (by decide +kernel)).trans v17
          have c2_0_8 : η2 0 8 = η 0 8 := v29
          have bx4 : (0 : Int) ≤ x4 ∧ x4 ≤ 1 := k4.1.2.1
          have fm1 : zFm zMl_leafRead η η1 := zFm_tr2 zFm_rf k1.1.2.2.2.1 (by decide +kernel)
          have fm2 : zFm zMl_leafRead η η2 := zFm_tr2 fm1 k2.1.2.2.2.1 (by decide +kernel)
          have fm3 : zFm zMl_leafRead η η3 := zFm_tr2 fm2 k4.1.2.2.2.1 (by decide +kernel)
          have fmE : zFm zMl_leafRead η η3 := fm3
          have fr22_0 : ∀ j, η 22 j = η 22 j := fun _ => rfl
          have v30 : ∀ j, η1 22 j = η 22 j := fun j => k1.1.2.2.2.1 22 _ (zinr_not (by decide +kernel))
          have fr22_1 : ∀ j, η1 22 j = η 22 j := v30
          have v31 : ∀ j, η2 22 j = η 22 j := fun j => (k2.1.2.2.2.1 22 _ (zinr_not (by decide +kernel))).trans (v30 j)
          have fr22_2 : ∀ j, η2 22 j = η 22 j := v31
          have v32 : ∀ j, η3 22 j = η 22 j := fun j => (k4.1.2.2.2.1 22 _ (zinr_not (by decide +kernel))).trans (v31 j)
          have fr22_3 : ∀ j, η3 22 j = η 22 j := v32
          have fr22 : ∀ j, η3 22 j = η 22 j := v32
          have v33 : η3 0 41 = η 0 41 := (k4.1.2.2.2.1 0 41 (by decide +kernel)).trans v21
          have f0_41 : η3 0 41 = η 0 41 := v33
          have v34 : η3 0 43 = η 0 43 := (k4.1.2.2.2.1 0 43 (by decide +kernel)).trans v22
          have f0_43 : η3 0 43 = η 0 43 := v34
          have v35 : η3 0 42 = η 0 42 := (k4.1.2.2.2.1 0 42 (by decide +kernel)).trans v23
          have f0_42 : η3 0 42 = η 0 42 := v35
          have v36 : η3 0 45 = η 0 45 := (k4.1.2.2.2.1 0 45 (by decide +kernel)).trans v24
          have f0_45 : η3 0 45 = η 0 45 := v36
          have v37 : η3 0 19 = η 0 19 := (k4.1.2.2.2.1 0 19 (by decide +kernel)).trans v25
          have f0_19 : η3 0 19 = η 0 19 := v37
          have w3_0_44 : (0 : Int) ≤ η3 0 44 ∧ η3 0 44 ≤ 64 := wf_ok (a := 44) (b := 44) (z := (0, 64)) k4.1.1 (by decide +kernel) (Nat.le_refl _) (Nat.le_refl _)
          have f0_44 : η3 0 44 = η3 0 44 := rfl
          have v39 : η3 0 7 = η 0 7 := (k4.1.2.2.2.1 0 7 (by decide +kernel)).trans v27
          have f0_7 : η3 0 7 = η 0 7 := v39
          have v40 : η3 0 6 = η 0 6 := (k4.1.2.2.2.1 0 6 (by decide +kernel)).trans v28
          have f0_6 : η3 0 6 = η 0 6 := v40
          have v41 : η3 0 8 = η 0 8 := (k4.1.2.2.2.1 0 8 (by decide +kernel)).trans v29
          have f0_8 : η3 0 8 = η 0 8 := v41
          have wb1 : wB wl_l zTr η1 := k1.1.1
          have wb2 : wB wl_l zTr η2 := k2.1.1
          have wb3 : wB wl_l zTr η3 := k4.1.1
          have wbE : wB wl_l zTr η3 := wb3
          have I0 : H_l 0 0 0 η := hpp.1
          have I1 : H_l 0 0 0 η1 := k1.2.1
          have I2 : H_l 0 0 0 η2 := k2.2.1
          have qk2 : η1 0 8 = 1 := k2.2.2 c2
          have I3 : H_l 0 0 0 η3 := k4.2.2 c4
          exact ⟨I3.1, fun w => absurd (show (0 : Int) = 0 by omega) w⟩
        · show ∀ (x1 : Int) (η1 : zE), ((gC2 wl_l [(nat_lit 0, zPl_isSign, zOl_isSign, zMl_isSign), (nat_lit 1, zPl_wrong, zOl_wrong, zMl_wrong), (nat_lit 2, zPl_waitsFor0, zOl_waitsFor0, zMl_waitsFor0), (nat_lit 3, zPl_token, zOl_token, zMl_token), (nat_lit 4, zPl_isKey, zOl_isKey, zMl_isKey), (nat_lit 5, zPl_isCounted, zOl_isCounted, zMl_isCounted), (nat_lit 6, zPl_waitsFor2, zOl_waitsFor2, zMl_waitsFor2), (nat_lit 7, zPl_nameMet, zOl_nameMet, zMl_nameMet), (nat_lit 8, zPl_grown, zOl_grown, zMl_grown)] pCl_leafRead qCl_leafRead) 0).2 [40] η x1 η1 → (¬ x1 = 0) → ∀ x2 : Int, x2 = η1 0 (Int.toNat 43) → zok 0 x2 → (¬ x2 = 8) → ∀ x3 : Int, x3 = η1 0 (Int.toNat 43) → zok 0 x3 → ∀ x4 : Int, x4 = zd 0 1 x3 1 → ∀ η2 : zE, η2 = zup η1 0 (Int.toNat 43) x4 → ((gC2 wl_l [(nat_lit 0, zPl_isSign, zOl_isSign, zMl_isSign), (nat_lit 1, zPl_wrong, zOl_wrong, zMl_wrong), (nat_lit 2, zPl_waitsFor0, zOl_waitsFor0, zMl_waitsFor0), (nat_lit 3, zPl_token, zOl_token, zMl_token), (nat_lit 4, zPl_isKey, zOl_isKey, zMl_isKey), (nat_lit 5, zPl_isCounted, zOl_isCounted, zMl_isCounted), (nat_lit 6, zPl_waitsFor2, zOl_waitsFor2, zMl_waitsFor2), (nat_lit 7, zPl_nameMet, zOl_nameMet, zMl_nameMet), (nat_lit 8, zPl_grown, zOl_grown, zMl_grown)] pCl_leafRead qCl_leafRead) 2).1 [] η2
          have hw : η 0 45 = 1 := hpp.2
          have hs : η 0 7 ≤ η 0 6 := hpp.1.1.1.1
          have bd43 : (0 : Int) ≤ η 0 43 ∧ η 0 43 ≤ 8 := wf_ok (a := 43) (b := 43) (z := (0, 8)) hp.1 (by decide +kernel) (Nat.le_refl _) (Nat.le_refl _)
          have bd44 : (0 : Int) ≤ η 0 44 ∧ η 0 44 ≤ 64 := wf_ok (a := 44) (b := 44) (z := (0, 64)) hp.1 (by decide +kernel) (Nat.le_refl _) (Nat.le_refl _)
          have bd19 : (0 : Int) ≤ η 0 19 ∧ η 0 19 ≤ 64 := wf_ok (a := 19) (b := 19) (z := (0, 64)) hp.1 (by decide +kernel) (Nat.le_refl _) (Nat.le_refl _)
          intro x1 η1 h1 c1 x2 e2 r2 c2 x3 e3 r3 x4 e4 η2 eη2
          replace e4 := zEq_i e4
          have k1 : sQ wl_l zTr zOl_isSign zMl_isSign [40] η x1 η1 ∧ pQl_isSign [40] η x1 η1 := h1
          have c0_0_41 : η 0 41 = η 0 41 := rfl
          have w0_0_43 : (0 : Int) ≤ η 0 43 ∧ η 0 43 ≤ 8 := wf_ok (a := 43) (b := 43) (z := (0, 8)) hp.1 (by decide +kernel) (Nat.le_refl _) (Nat.le_refl _)
          have c0_0_43 : η 0 43 = η 0 43 := rfl
          have c0_0_42 : η 0 42 = η 0 42 := rfl
          have c0_0_45 : η 0 45 = η 0 45 := rfl
          have w0_0_19 : (0 : Int) ≤ η 0 19 ∧ η 0 19 ≤ 64 := wf_ok (a := 19) (b := 19) (z := (0, 64)) hp.1 (by decide +kernel) (Nat.le_refl _) (Nat.le_refl _)
          have c0_0_19 : η 0 19 = η 0 19 := rfl
          have w0_0_44 : (0 : Int) ≤ η 0 44 ∧ η 0 44 ≤ 64 := wf_ok (a := 44) (b := 44) (z := (0, 64)) hp.1 (by decide +kernel) (Nat.le_refl _) (Nat.le_refl _)
          have c0_0_44 : η 0 44 = η 0 44 := rfl
          have w0_0_7 : (0 : Int) ≤ η 0 7 ∧ η 0 7 ≤ 700 := wf_ok (a := 7) (b := 7) (z := (0, 700)) hp.1 (by decide +kernel) (Nat.le_refl _) (Nat.le_refl _)
          have c0_0_7 : η 0 7 = η 0 7 := rfl
          have w0_0_6 : (0 : Int) ≤ η 0 6 ∧ η 0 6 ≤ 700 := wf_ok (a := 6) (b := 6) (z := (0, 700)) hp.1 (by decide +kernel) (Nat.le_refl _) (Nat.le_refl _)
          have c0_0_6 : η 0 6 = η 0 6 := rfl
          have w0_0_8 : (0 : Int) ≤ η 0 8 ∧ η 0 8 ≤ 6 := wf_ok (a := 8) (b := 8) (z := (0, 6)) hp.1 (by decide +kernel) (Nat.le_refl _) (Nat.le_refl _)
          have c0_0_8 : η 0 8 = η 0 8 := rfl
          have bx1 : (0 : Int) ≤ x1 ∧ x1 ≤ 1 := k1.1.2.1
          have v9 : η1 0 43 = η 0 43 := (k1.1.2.2.2.1 0 43 (by decide +kernel)).trans rfl
          replace e2 : x2 = η 0 43 := e2.trans v9
          replace r2 : -2147483648 ≤ x2 ∧ x2 ≤ 2147483647 := r2
          replace e3 : x3 = η 0 43 := e3.trans v9
          replace r3 : -2147483648 ≤ x3 ∧ x3 ≤ 2147483647 := r3
          first
          | replace e4 : x4 = x3 + 1 := zd_a2 (zEq_o e4) (by clear e4; exact ⟨by omega, by omega⟩)
          | clear e4
          have fm1 : zFm zMl_leafRead η η1 := zFm_tr2 zFm_rf k1.1.2.2.2.1 (by decide +kernel)
          have fm2 : zFm zMl_leafRead η η2 := by rw [eη2]; exact zFm_up fm1 rfl
          have fmE : zFm zMl_leafRead η η2 := fm2
          have fr22_0 : ∀ j, η 22 j = η 22 j := fun _ => rfl
          have v10 : ∀ j, η1 22 j = η 22 j := fun j => k1.1.2.2.2.1 22 _ (zinr_not (by decide +kernel))
          have fr22_1 : ∀ j, η1 22 j = η 22 j := v10
          have v11 : ∀ j, η2 22 j = η 22 j := fun j => by rw [eη2]; exact (zup_ne (fun e _ => absurd e (by decide))).trans (v10 j)
          have fr22_2 : ∀ j, η2 22 j = η 22 j := v11
          have fr22 : ∀ j, η2 22 j = η 22 j := v11
          have v12 : η1 0 41 = η 0 41 := (k1.1.2.2.2.1 0 41 (by decide +kernel)).trans rfl
          have v13 : η2 0 41 = η 0 41 := by rw [eη2]; exact (zup_ne (fun _ e => absurd e (by decide))).trans v12
          have f0_41 : η2 0 41 = η 0 41 := v13
          have v14 : η2 0 43 = x4 := by rw [eη2]; exact zup_eq
          have f0_43 : η2 0 43 = x4 := v14
          have v15 : η1 0 42 = η 0 42 := (k1.1.2.2.2.1 0 42 (by decide +kernel)).trans rfl
          have v16 : η2 0 42 = η 0 42 := by rw [eη2]; exact (zup_ne (fun _ e => absurd e (by decide))).trans v15
          have f0_42 : η2 0 42 = η 0 42 := v16
          have v17 : η1 0 45 = η 0 45 := (k1.1.2.2.2.1 0 45 (by decide +kernel)).trans rfl
          have v18 : η2 0 45 = η 0 45 := by rw [eη2]; exact (zup_ne (fun _ e => absurd e (by decide))).trans v17
          have f0_45 : η2 0 45 = η 0 45 := v18
          have v19 : η1 0 19 = η 0 19 := (k1.1.2.2.2.1 0 19 (by decide +kernel)).trans rfl
          have v20 : η2 0 19 = η 0 19 := by rw [eη2]; exact (zup_ne (fun _ e => absurd e (by decide))).trans v19
          have f0_19 : η2 0 19 = η 0 19 := v20
          have v21 : η1 0 44 = η 0 44 := (k1.1.2.2.2.1 0 44 (by decide +kernel)).trans rfl
          have v22 : η2 0 44 = η 0 44 := by rw [eη2]; exact (zup_ne (fun _ e => absurd e (by decide))).trans v21
          have f0_44 : η2 0 44 = η 0 44 := v22
          have v23 : η1 0 7 = η 0 7 := (k1.1.2.2.2.1 0 7 (by decide +kernel)).trans rfl
          have v24 : η2 0 7 = η 0 7 := by rw [eη2]; exact (zup_ne (fun _ e => absurd e (by decide))).trans v23
          have f0_7 : η2 0 7 = η 0 7 := v24
          have v25 : η1 0 6 = η 0 6 := (k1.1.2.2.2.1 0 6 (by decide +kernel)).trans rfl
          have v26 : η2 0 6 = η 0 6 := by rw [eη2]; exact (zup_ne (fun _ e => absurd e (by decide))).trans v25
          have f0_6 : η2 0 6 = η 0 6 := v26
          have v27 : η1 0 8 = η 0 8 := (k1.1.2.2.2.1 0 8 (by decide +kernel)).trans rfl
          have v28 : η2 0 8 = η 0 8 := by rw [eη2]; exact (zup_ne (fun _ e => absurd e (by decide))).trans v27
          have f0_8 : η2 0 8 = η 0 8 := v28
          have wb1 : wB wl_l zTr η1 := k1.1.1
          have wb2 : wB wl_l zTr η2 := by rw [eη2]; exact wk_ok (a := 43) (b := 43) (z := (0, 8)) zTr_k (GR := []) wb1 (by decide +kernel) (by decide) (by decide) (show (0 : Int) ≤ x4 by omega) (show x4 ≤ (8 : Int) by omega)
          have wbE : wB wl_l zTr η2 := wb2
          have I0 : H_l 0 0 0 η := hpp.1
          have I1 : H_l 0 0 0 η1 := k1.2.1
          have qk1 : η 0 8 = 4 := k1.2.2 c1
          have I2 : H_l 0 1 0 η2 := by rw [eη2]; exact h_eq (br_up I1 (by omega)) rfl (by omega) rfl
          exact I2
        · show ∀ (x1 : Int) (η1 : zE), ((gC2 wl_l [(nat_lit 0, zPl_isSign, zOl_isSign, zMl_isSign), (nat_lit 1, zPl_wrong, zOl_wrong, zMl_wrong), (nat_lit 2, zPl_waitsFor0, zOl_waitsFor0, zMl_waitsFor0), (nat_lit 3, zPl_token, zOl_token, zMl_token), (nat_lit 4, zPl_isKey, zOl_isKey, zMl_isKey), (nat_lit 5, zPl_isCounted, zOl_isCounted, zMl_isCounted), (nat_lit 6, zPl_waitsFor2, zOl_waitsFor2, zMl_waitsFor2), (nat_lit 7, zPl_nameMet, zOl_nameMet, zMl_nameMet), (nat_lit 8, zPl_grown, zOl_grown, zMl_grown)] pCl_leafRead qCl_leafRead) 0).2 [40] η x1 η1 → (¬ x1 = 0) → ∀ x2 : Int, x2 = η1 0 (Int.toNat 43) → zok 0 x2 → (¬ x2 = 8) → ∀ x3 : Int, x3 = η1 0 (Int.toNat 43) → zok 0 x3 → ∀ x4 : Int, x4 = zd 0 1 x3 1 → ∀ η2 : zE, η2 = zup η1 0 (Int.toNat 43) x4 → ∀ (x5 : Int) (η3 : zE), ((gC2 wl_l [(nat_lit 0, zPl_isSign, zOl_isSign, zMl_isSign), (nat_lit 1, zPl_wrong, zOl_wrong, zMl_wrong), (nat_lit 2, zPl_waitsFor0, zOl_waitsFor0, zMl_waitsFor0), (nat_lit 3, zPl_token, zOl_token, zMl_token), (nat_lit 4, zPl_isKey, zOl_isKey, zMl_isKey), (nat_lit 5, zPl_isCounted, zOl_isCounted, zMl_isCounted), (nat_lit 6, zPl_waitsFor2, zOl_waitsFor2, zMl_waitsFor2), (nat_lit 7, zPl_nameMet, zOl_nameMet, zMl_nameMet), (nat_lit 8, zPl_grown, zOl_grown, zMl_grown)] pCl_leafRead qCl_leafRead) 2).2 [] η2 x5 η3 → ∀ η4 : zE, η4 = zup η3 0 (Int.toNat 46) 1 → ((gC2 wl_l [(nat_lit 0, zPl_isSign, zOl_isSign, zMl_isSign), (nat_lit 1, zPl_wrong, zOl_wrong, zMl_wrong), (nat_lit 2, zPl_waitsFor0, zOl_waitsFor0, zMl_waitsFor0), (nat_lit 3, zPl_token, zOl_token, zMl_token), (nat_lit 4, zPl_isKey, zOl_isKey, zMl_isKey), (nat_lit 5, zPl_isCounted, zOl_isCounted, zMl_isCounted), (nat_lit 6, zPl_waitsFor2, zOl_waitsFor2, zMl_waitsFor2), (nat_lit 7, zPl_nameMet, zOl_nameMet, zMl_nameMet), (nat_lit 8, zPl_grown, zOl_grown, zMl_grown)] pCl_leafRead qCl_leafRead) 3).1 [] η4
          intro x1 η1 h1 c1 x2 e2 r2 c2 x3 e3 r3 x4 e4 η2 eη2 x5 η3 h5 η4 eη4
          have k1 : sQ wl_l zTr zOl_isSign zMl_isSign [40] η x1 η1 ∧ pQl_isSign [40] η x1 η1 := h1
          have k5 : sQ wl_l zTr zOl_waitsFor0 zMl_waitsFor0 [] η2 x5 η3 ∧ pQl_waitsFor0 [] η2 x5 η3 := h5
          have g1 : G_l η4 := by rw [eη4]; exact zGk_upc gk_l k5.2 (by decide +kernel)
          exact g1
        · show ∀ (x1 : Int) (η1 : zE), ((gC2 wl_l [(nat_lit 0, zPl_isSign, zOl_isSign, zMl_isSign), (nat_lit 1, zPl_wrong, zOl_wrong, zMl_wrong), (nat_lit 2, zPl_waitsFor0, zOl_waitsFor0, zMl_waitsFor0), (nat_lit 3, zPl_token, zOl_token, zMl_token), (nat_lit 4, zPl_isKey, zOl_isKey, zMl_isKey), (nat_lit 5, zPl_isCounted, zOl_isCounted, zMl_isCounted), (nat_lit 6, zPl_waitsFor2, zOl_waitsFor2, zMl_waitsFor2), (nat_lit 7, zPl_nameMet, zOl_nameMet, zMl_nameMet), (nat_lit 8, zPl_grown, zOl_grown, zMl_grown)] pCl_leafRead qCl_leafRead) 0).2 [40] η x1 η1 → (¬ x1 = 0) → ∀ x2 : Int, x2 = η1 0 (Int.toNat 43) → zok 0 x2 → (¬ x2 = 8) → ∀ x3 : Int, x3 = η1 0 (Int.toNat 43) → zok 0 x3 → ∀ x4 : Int, x4 = zd 0 1 x3 1 → ∀ η2 : zE, η2 = zup η1 0 (Int.toNat 43) x4 → ∀ (x5 : Int) (η3 : zE), ((gC2 wl_l [(nat_lit 0, zPl_isSign, zOl_isSign, zMl_isSign), (nat_lit 1, zPl_wrong, zOl_wrong, zMl_wrong), (nat_lit 2, zPl_waitsFor0, zOl_waitsFor0, zMl_waitsFor0), (nat_lit 3, zPl_token, zOl_token, zMl_token), (nat_lit 4, zPl_isKey, zOl_isKey, zMl_isKey), (nat_lit 5, zPl_isCounted, zOl_isCounted, zMl_isCounted), (nat_lit 6, zPl_waitsFor2, zOl_waitsFor2, zMl_waitsFor2), (nat_lit 7, zPl_nameMet, zOl_nameMet, zMl_nameMet), (nat_lit 8, zPl_grown, zOl_grown, zMl_grown)] pCl_leafRead qCl_leafRead) 2).2 [] η2 x5 η3 → ∀ η4 : zE, η4 = zup η3 0 (Int.toNat 46) 1 → ∀ (x6 : Int) (η5 : zE), ((gC2 wl_l [(nat_lit 0, zPl_isSign, zOl_isSign, zMl_isSign), (nat_lit 1, zPl_wrong, zOl_wrong, zMl_wrong), (nat_lit 2, zPl_waitsFor0, zOl_waitsFor0, zMl_waitsFor0), (nat_lit 3, zPl_token, zOl_token, zMl_token), (nat_lit 4, zPl_isKey, zOl_isKey, zMl_isKey), (nat_lit 5, zPl_isCounted, zOl_isCounted, zMl_isCounted), (nat_lit 6, zPl_waitsFor2, zOl_waitsFor2, zMl_waitsFor2), (nat_lit 7, zPl_nameMet, zOl_nameMet, zMl_nameMet), (nat_lit 8, zPl_grown, zOl_grown, zMl_grown)] pCl_leafRead qCl_leafRead) 3).2 [] η4 x6 η5 → (fun (_ : Nat) (y : Int) (η' : zE) => pQl_leafRead [] η y η') 0 1 η5
          have hw : η 0 45 = 1 := hpp.2
          have hs : η 0 7 ≤ η 0 6 := hpp.1.1.1.1
          have bd43 : (0 : Int) ≤ η 0 43 ∧ η 0 43 ≤ 8 := wf_ok (a := 43) (b := 43) (z := (0, 8)) hp.1 (by decide +kernel) (Nat.le_refl _) (Nat.le_refl _)
          have bd44 : (0 : Int) ≤ η 0 44 ∧ η 0 44 ≤ 64 := wf_ok (a := 44) (b := 44) (z := (0, 64)) hp.1 (by decide +kernel) (Nat.le_refl _) (Nat.le_refl _)
          have bd19 : (0 : Int) ≤ η 0 19 ∧ η 0 19 ≤ 64 := wf_ok (a := 19) (b := 19) (z := (0, 64)) hp.1 (by decide +kernel) (Nat.le_refl _) (Nat.le_refl _)
          intro x1 η1 h1 c1 x2 e2 r2 c2 x3 e3 r3 x4 e4 η2 eη2 x5 η3 h5 η4 eη4 x6 η5 h6
          replace e4 := zEq_i e4
          have k1 : sQ wl_l zTr zOl_isSign zMl_isSign [40] η x1 η1 ∧ pQl_isSign [40] η x1 η1 := h1
          have k5 : sQ wl_l zTr zOl_waitsFor0 zMl_waitsFor0 [] η2 x5 η3 ∧ pQl_waitsFor0 [] η2 x5 η3 := h5
          have k6 : sQ wl_l zTr zOl_token zMl_token [] η4 x6 η5 ∧ pQl_token [] η4 x6 η5 := h6
          have c0_0_41 : η 0 41 = η 0 41 := rfl
          have w0_0_43 : (0 : Int) ≤ η 0 43 ∧ η 0 43 ≤ 8 := wf_ok (a := 43) (b := 43) (z := (0, 8)) hp.1 (by decide +kernel) (Nat.le_refl _) (Nat.le_refl _)
          have c0_0_43 : η 0 43 = η 0 43 := rfl
          have c0_0_42 : η 0 42 = η 0 42 := rfl
          have c0_0_45 : η 0 45 = η 0 45 := rfl
          have w0_0_19 : (0 : Int) ≤ η 0 19 ∧ η 0 19 ≤ 64 := wf_ok (a := 19) (b := 19) (z := (0, 64)) hp.1 (by decide +kernel) (Nat.le_refl _) (Nat.le_refl _)
          have c0_0_19 : η 0 19 = η 0 19 := rfl
          have w0_0_44 : (0 : Int) ≤ η 0 44 ∧ η 0 44 ≤ 64 := wf_ok (a := 44) (b := 44) (z := (0, 64)) hp.1 (by decide +kernel) (Nat.le_refl _) (Nat.le_refl _)
          have c0_0_44 : η 0 44 = η 0 44 := rfl
          have w0_0_7 : (0 : Int) ≤ η 0 7 ∧ η 0 7 ≤ 700 := wf_ok (a := 7) (b := 7) (z := (0, 700)) hp.1 (by decide +kernel) (Nat.le_refl _) (Nat.le_refl _)
          have c0_0_7 : η 0 7 = η 0 7 := rfl
          have w0_0_6 : (0 : Int) ≤ η 0 6 ∧ η 0 6 ≤ 700 := wf_ok (a := 6) (b := 6) (z := (0, 700)) hp.1 (by decide +kernel) (Nat.le_refl _) (Nat.le_refl _)
          have c0_0_6 : η 0 6 = η 0 6 := rfl
          have w0_0_8 : (0 : Int) ≤ η 0 8 ∧ η 0 8 ≤ 6 := wf_ok (a := 8) (b := 8) (z := (0, 6)) hp.1 (by decide +kernel) (Nat.le_refl _) (Nat.le_refl _)
          have c0_0_8 : η 0 8 = η 0 8 := rfl
          have bx1 : (0 : Int) ≤ x1 ∧ x1 ≤ 1 := k1.1.2.1
          have v9 : η1 0 43 = η 0 43 := (k1.1.2.2.2.1 0 43 (by decide +kernel)).trans rfl
          replace e2 : x2 = η 0 43 := e2.trans v9
          replace r2 : -2147483648 ≤ x2 ∧ x2 ≤ 2147483647 := r2
          replace e3 : x3 = η 0 43 := e3.trans v9
          replace r3 : -2147483648 ≤ x3 ∧ x3 ≤ 2147483647 := r3
          first
          | replace e4 : x4 = x3 + 1 := zd_a2 (zEq_o e4) (by clear e4; exact ⟨by omega, by omega⟩)
          | clear e4
          have v10 : η1 0 41 = η 0 41 := (k1.1.2.2.2.1 0 41 (by decide +kernel)).trans rfl
          have v11 : η2 0 41 = η 0 41 := by rw [eη2]; exact (zup_ne (fun _ e => absurd e (by decide))).trans v10
          have c2_0_41 : η2 0 41 = η 0 41 := v11
          have v12 : η2 0 43 = x4 := by rw [eη2]; exact zup_eq
          have c2_0_43 : η2 0 43 = x4 := v12
          have v13 : η1 0 42 = η 0 42 := (k1.1.2.2.2.1 0 42 (by decide +kernel)).trans rfl
          have v14 : η2 0 42 = η 0 42 := by rw [eη2]; exact (zup_ne (fun _ e => absurd e (by decide))).trans v13
          have c2_0_42 : η2 0 42 = η 0 42 := v14
          have v15 : η1 0 45 = η 0 45 := (k1.1.2.2.2.1 0 45 (by decide +kernel)).trans rfl
          have v16 : η2 0 45 = η 0 45 := by rw [eη2]; exact (zup_ne (fun _ e => absurd e (by decide))).trans v15
          have c2_0_45 : η2 0 45 = η 0 45 := v16
          have v17 : η1 0 19 = η 0 19 := (k1.1.2.2.2.1 0 19 (by decide +kernel)).trans rfl
          have v18 : η2 0 19 = η 0 19 := by rw [eη2]; exact (zup_ne (fun _ e => absurd e (by decide))).trans v17
          have c2_0_19 : η2 0 19 = η 0 19 := v18
          have v19 : η1 0 44 = η 0 44 := (k1.1.2.2.2.1 0 44 (by decide +kernel)).trans rfl
          have v20 : η2 0 44 = η 0 44 := by rw [eη2]; exact (zup_ne (fun _ e => absurd e (by decide))).trans v19
          have c2_0_44 : η2 0 44 = η 0 44 := v20
          have v21 : η1 0 7 = η 0 7 := (k1.1.2.2.2.1 0 7 (by decide +kernel)).trans rfl
          have v22 : η2 0 7 = η 0 7 := by rw [eη2]; exact (zup_ne (fun _ e => absurd e (by decide))).trans v21
          have c2_0_7 : η2 0 7 = η 0 7 := v22
          have v23 : η1 0 6 = η 0 6 := (k1.1.2.2.2.1 0 6 (by decide +kernel)).trans rfl
          have v24 : η2 0 6 = η 0 6 := by rw [eη2]; exact (zup_ne (fun _ e => absurd e (by decide))).trans v23
          have c2_0_6 : η2 0 6 = η 0 6 := v24
          have v25 : η1 0 8 = η 0 8 := (k1.1.2.2.2.1 0 8 (by decide +kernel)).trans rfl
          have v26 : η2 0 8 = η 0 8 := by rw [eη2]; exact (zup_ne (fun _ e => absurd e (by decide))).trans v25
          have c2_0_8 : η2 0 8 = η 0 8 := v26
          have bx5 : (0 : Int) ≤ x5 ∧ x5 ≤ 0 := k5.1.2.1
          have v28 : η4 0 41 = η3 0 41 := by rw [eη4]; exact (zup_ne (fun _ e => absurd e (by decide))).trans rfl
          have c4_0_41 : η4 0 41 = η3 0 41 := v28
          have v29 : η3 0 43 = x4 := (k5.1.2.2.2.1 0 43 (by decide +kernel)).trans v12
          have v30 : η4 0 43 = x4 := by rw [eη4]; exact (zup_ne (fun _ e => absurd e (by decide))).trans v29
          have c4_0_43 : η4 0 43 = x4 := v30
          have v31 : η3 0 42 = η 0 42 := (k5.1.2.2.2.1 0 42 (by decide +kernel)).trans v14
          have v32 : η4 0 42 = η 0 42 := by rw [eη4]; exact (zup_ne (fun _ e => absurd e (by decide))).trans v31
          have c4_0_42 : η4 0 42 = η 0 42 := v32
          have v33 : η3 0 45 = η 0 45 := (k5.1.2.2.2.1 0 45 (by decide +kernel)).trans v16
          have v34 : η4 0 45 = η 0 45 := by rw [eη4]; exact (zup_ne (fun _ e => absurd e (by decide))).trans v33
          have c4_0_45 : η4 0 45 = η 0 45 := v34
          have v35 : η3 0 19 = η 0 19 := (k5.1.2.2.2.1 0 19 (by decide +kernel)).trans v18
          have v36 : η4 0 19 = η 0 19 := by rw [eη4]; exact (zup_ne (fun _ e => absurd e (by decide))).trans v35
          have c4_0_19 : η4 0 19 = η 0 19 := v36
          have v37 : η3 0 44 = η 0 44 := (k5.1.2.2.2.1 0 44 (by decide +kernel)).trans v20
          have v38 : η4 0 44 = η 0 44 := by rw [eη4]; exact (zup_ne (fun _ e => absurd e (by decide))).trans v37
          have c4_0_44 : η4 0 44 = η 0 44 := v38
          have v39 : η3 0 7 = η 0 7 := (k5.1.2.2.2.1 0 7 (by decide +kernel)).trans v22
          have v40 : η4 0 7 = η 0 7 := by rw [eη4]; exact (zup_ne (fun _ e => absurd e (by decide))).trans v39
          have c4_0_7 : η4 0 7 = η 0 7 := v40
          have v41 : η3 0 6 = η 0 6 := (k5.1.2.2.2.1 0 6 (by decide +kernel)).trans v24
          have v42 : η4 0 6 = η 0 6 := by rw [eη4]; exact (zup_ne (fun _ e => absurd e (by decide))).trans v41
          have c4_0_6 : η4 0 6 = η 0 6 := v42
          have v43 : η3 0 8 = η 0 8 := (k5.1.2.2.2.1 0 8 (by decide +kernel)).trans v26
          have v44 : η4 0 8 = η 0 8 := by rw [eη4]; exact (zup_ne (fun _ e => absurd e (by decide))).trans v43
          have c4_0_8 : η4 0 8 = η 0 8 := v44
          have bx6 : (0 : Int) ≤ x6 ∧ x6 ≤ 0 := k6.1.2.1
          have fm1 : zFm zMl_leafRead η η1 := zFm_tr2 zFm_rf k1.1.2.2.2.1 (by decide +kernel)
          have fm2 : zFm zMl_leafRead η η2 := by rw [eη2]; exact zFm_up fm1 rfl
          have fm3 : zFm zMl_leafRead η η3 := zFm_tr2 fm2 k5.1.2.2.2.1 (by decide +kernel)
          have fm4 : zFm zMl_leafRead η η4 := by rw [eη4]; exact zFm_up fm3 rfl
          have fm5 : zFm zMl_leafRead η η5 := zFm_tr2 fm4 k6.1.2.2.2.1 (by decide +kernel)
          have fmE : zFm zMl_leafRead η η5 := fm5
          have fr22_0 : ∀ j, η 22 j = η 22 j := fun _ => rfl
          have v45 : ∀ j, η1 22 j = η 22 j := fun j => k1.1.2.2.2.1 22 _ (zinr_not (by decide +kernel))
          have fr22_1 : ∀ j, η1 22 j = η 22 j := v45
          have v46 : ∀ j, η2 22 j = η 22 j := fun j => by rw [eη2]; exact (zup_ne (fun e _ => absurd e (by decide))).trans (v45 j)
          have fr22_2 : ∀ j, η2 22 j = η 22 j := v46
          have fr22_3 : ∀ j, η3 22 j = η3 22 j := fun _ => rfl
          have v48 : ∀ j, η4 22 j = η3 22 j := fun j => by rw [eη4]; exact zup_ne (fun e _ => absurd e (by decide))
          have fr22_4 : ∀ j, η4 22 j = η3 22 j := v48
          have v49 : ∀ j, η5 22 j = η3 22 j := fun j => (k6.1.2.2.2.1 22 _ (zinr_not (by decide +kernel))).trans (v48 j)
          have fr22_5 : ∀ j, η5 22 j = η3 22 j := v49
          have fr22 : ∀ j, η5 22 j = η3 22 j := v49
          have v50 : η5 0 41 = η3 0 41 := (k6.1.2.2.2.1 0 41 (by decide +kernel)).trans v28
          have f0_41 : η5 0 41 = η3 0 41 := v50
          have v51 : η5 0 43 = x4 := (k6.1.2.2.2.1 0 43 (by decide +kernel)).trans v30
          have f0_43 : η5 0 43 = x4 := v51
          have v52 : η5 0 42 = η 0 42 := (k6.1.2.2.2.1 0 42 (by decide +kernel)).trans v32
          have f0_42 : η5 0 42 = η 0 42 := v52
          have v53 : η5 0 45 = η 0 45 := (k6.1.2.2.2.1 0 45 (by decide +kernel)).trans v34
          have f0_45 : η5 0 45 = η 0 45 := v53
          have v54 : η5 0 19 = η 0 19 := (k6.1.2.2.2.1 0 19 (by decide +kernel)).trans v36
          have f0_19 : η5 0 19 = η 0 19 := v54
          have v55 : η5 0 44 = η 0 44 := (k6.1.2.2.2.1 0 44 (by decide +kernel)).trans v38
          have f0_44 : η5 0 44 = η 0 44 := v55
          have w5_0_7 : (0 : Int) ≤ η5 0 7 ∧ η5 0 7 ≤ 700 := wf_ok (a := 7) (b := 7) (z := (0, 700)) k6.1.1 (by decide +kernel) (Nat.le_refl _) (Nat.le_refl _)
          have f0_7 : η5 0 7 = η5 0 7 := rfl
          have v57 : η5 0 6 = η 0 6 := (k6.1.2.2.2.1 0 6 (by decide +kernel)).trans v42
          have f0_6 : η5 0 6 = η 0 6 := v57
          have w5_0_8 : (0 : Int) ≤ η5 0 8 ∧ η5 0 8 ≤ 6 := wf_ok (a := 8) (b := 8) (z := (0, 6)) k6.1.1 (by decide +kernel) (Nat.le_refl _) (Nat.le_refl _)
          have f0_8 : η5 0 8 = η5 0 8 := rfl
          have wb1 : wB wl_l zTr η1 := k1.1.1
          have wb2 : wB wl_l zTr η2 := by rw [eη2]; exact wk_ok (a := 43) (b := 43) (z := (0, 8)) zTr_k (GR := []) wb1 (by decide +kernel) (by decide) (by decide) (show (0 : Int) ≤ x4 by omega) (show x4 ≤ (8 : Int) by omega)
          have wb3 : wB wl_l zTr η3 := k5.1.1
          have wb4 : wB wl_l zTr η4 := by rw [eη4]; exact wk_ok (a := 46) (b := 46) (z := ((-2147483648), 2147483647)) zTr_k (GR := []) wb3 (by decide +kernel) (by decide) (by decide) (show ((-2147483648) : Int) ≤ 1 by omega) (show 1 ≤ (2147483647 : Int) by omega)
          have wb5 : wB wl_l zTr η5 := k6.1.1
          have wbE : wB wl_l zTr η5 := wb5
          have I0 : H_l 0 0 0 η := hpp.1
          have I1 : H_l 0 0 0 η1 := k1.2.1
          have qk1 : η 0 8 = 4 := k1.2.2 c1
          have I2 : H_l 0 1 0 η2 := by rw [eη2]; exact h_eq (br_up I1 (by omega)) rfl (by omega) rfl
          have I3 : H_l 0 0 0 η3 := k5.2
          have I4 : H_l 0 0 0 η4 := by rw [eη4]; exact zGk_upc hk_l I3 (by decide +kernel)
          have I5 : H_l 0 0 0 η5 := k6.2.1
          have qt6 : ¬ η4 0 8 = 0 → 10 * (η5 0 6 - η5 0 7) + η5 0 8 < 10 * (η4 0 6 - η4 0 7) + η4 0 8 := k6.2.2
          refine ⟨I5.1, fun _ => ⟨I5, show 10 * (η5 0 6 - η5 0 7) + η5 0 8 < 10 * (η 0 6 - η 0 7) + η 0 8 by omega, fun w => ?_⟩⟩
          have w : η5 0 45 = 0 := w
          omega
        · show ∀ (x1 : Int) (η1 : zE), ((gC2 wl_l [(nat_lit 0, zPl_isSign, zOl_isSign, zMl_isSign), (nat_lit 1, zPl_wrong, zOl_wrong, zMl_wrong), (nat_lit 2, zPl_waitsFor0, zOl_waitsFor0, zMl_waitsFor0), (nat_lit 3, zPl_token, zOl_token, zMl_token), (nat_lit 4, zPl_isKey, zOl_isKey, zMl_isKey), (nat_lit 5, zPl_isCounted, zOl_isCounted, zMl_isCounted), (nat_lit 6, zPl_waitsFor2, zOl_waitsFor2, zMl_waitsFor2), (nat_lit 7, zPl_nameMet, zOl_nameMet, zMl_nameMet), (nat_lit 8, zPl_grown, zOl_grown, zMl_grown)] pCl_leafRead qCl_leafRead) 0).2 [40] η x1 η1 → (¬ x1 = 0) → ∀ x2 : Int, x2 = η1 0 (Int.toNat 43) → zok 0 x2 → (x2 = 8) → ((gC2 wl_l [(nat_lit 0, zPl_isSign, zOl_isSign, zMl_isSign), (nat_lit 1, zPl_wrong, zOl_wrong, zMl_wrong), (nat_lit 2, zPl_waitsFor0, zOl_waitsFor0, zMl_waitsFor0), (nat_lit 3, zPl_token, zOl_token, zMl_token), (nat_lit 4, zPl_isKey, zOl_isKey, zMl_isKey), (nat_lit 5, zPl_isCounted, zOl_isCounted, zMl_isCounted), (nat_lit 6, zPl_waitsFor2, zOl_waitsFor2, zMl_waitsFor2), (nat_lit 7, zPl_nameMet, zOl_nameMet, zMl_nameMet), (nat_lit 8, zPl_grown, zOl_grown, zMl_grown)] pCl_leafRead qCl_leafRead) 1).1 [2] η1
          have hw : η 0 45 = 1 := hpp.2
          have hs : η 0 7 ≤ η 0 6 := hpp.1.1.1.1
          have bd43 : (0 : Int) ≤ η 0 43 ∧ η 0 43 ≤ 8 := wf_ok (a := 43) (b := 43) (z := (0, 8)) hp.1 (by decide +kernel) (Nat.le_refl _) (Nat.le_refl _)
          have bd44 : (0 : Int) ≤ η 0 44 ∧ η 0 44 ≤ 64 := wf_ok (a := 44) (b := 44) (z := (0, 64)) hp.1 (by decide +kernel) (Nat.le_refl _) (Nat.le_refl _)
          have bd19 : (0 : Int) ≤ η 0 19 ∧ η 0 19 ≤ 64 := wf_ok (a := 19) (b := 19) (z := (0, 64)) hp.1 (by decide +kernel) (Nat.le_refl _) (Nat.le_refl _)
          intro x1 η1 h1 c1 x2 e2 r2 c2
          have k1 : sQ wl_l zTr zOl_isSign zMl_isSign [40] η x1 η1 ∧ pQl_isSign [40] η x1 η1 := h1
          have c0_0_41 : η 0 41 = η 0 41 := rfl
          have w0_0_43 : (0 : Int) ≤ η 0 43 ∧ η 0 43 ≤ 8 := wf_ok (a := 43) (b := 43) (z := (0, 8)) hp.1 (by decide +kernel) (Nat.le_refl _) (Nat.le_refl _)
          have c0_0_43 : η 0 43 = η 0 43 := rfl
          have c0_0_42 : η 0 42 = η 0 42 := rfl
          have c0_0_45 : η 0 45 = η 0 45 := rfl
          have w0_0_19 : (0 : Int) ≤ η 0 19 ∧ η 0 19 ≤ 64 := wf_ok (a := 19) (b := 19) (z := (0, 64)) hp.1 (by decide +kernel) (Nat.le_refl _) (Nat.le_refl _)
          have c0_0_19 : η 0 19 = η 0 19 := rfl
          have w0_0_44 : (0 : Int) ≤ η 0 44 ∧ η 0 44 ≤ 64 := wf_ok (a := 44) (b := 44) (z := (0, 64)) hp.1 (by decide +kernel) (Nat.le_refl _) (Nat.le_refl _)
          have c0_0_44 : η 0 44 = η 0 44 := rfl
          have w0_0_7 : (0 : Int) ≤ η 0 7 ∧ η 0 7 ≤ 700 := wf_ok (a := 7) (b := 7) (z := (0, 700)) hp.1 (by decide +kernel) (Nat.le_refl _) (Nat.le_refl _)
          have c0_0_7 : η 0 7 = η 0 7 := rfl
          have w0_0_6 : (0 : Int) ≤ η 0 6 ∧ η 0 6 ≤ 700 := wf_ok (a := 6) (b := 6) (z := (0, 700)) hp.1 (by decide +kernel) (Nat.le_refl _) (Nat.le_refl _)
          have c0_0_6 : η 0 6 = η 0 6 := rfl
          have w0_0_8 : (0 : Int) ≤ η 0 8 ∧ η 0 8 ≤ 6 := wf_ok (a := 8) (b := 8) (z := (0, 6)) hp.1 (by decide +kernel) (Nat.le_refl _) (Nat.le_refl _)
          have c0_0_8 : η 0 8 = η 0 8 := rfl
          have bx1 : (0 : Int) ≤ x1 ∧ x1 ≤ 1 := k1.1.2.1
          have v9 : η1 0 43 = η 0 43 := (k1.1.2.2.2.1 0 43 (by decide +kernel)).trans rfl
          replace e2 : x2 = η 0 43 := e2.trans v9
          replace r2 : -2147483648 ≤ x2 ∧ x2 ≤ 2147483647 := r2
          have fm1 : zFm zMl_leafRead η η1 := zFm_tr2 zFm_rf k1.1.2.2.2.1 (by decide +kernel)
          have fmE : zFm zMl_leafRead η η1 := fm1
          have fr22_0 : ∀ j, η 22 j = η 22 j := fun _ => rfl
          have v10 : ∀ j, η1 22 j = η 22 j := fun j => k1.1.2.2.2.1 22 _ (zinr_not (by decide +kernel))
          have fr22_1 : ∀ j, η1 22 j = η 22 j := v10
          have fr22 : ∀ j, η1 22 j = η 22 j := v10
          have v11 : η1 0 41 = η 0 41 := (k1.1.2.2.2.1 0 41 (by decide +kernel)).trans rfl
          have f0_41 : η1 0 41 = η 0 41 := v11
          have f0_43 : η1 0 43 = η 0 43 := v9
          have v12 : η1 0 42 = η 0 42 := (k1.1.2.2.2.1 0 42 (by decide +kernel)).trans rfl
          have f0_42 : η1 0 42 = η 0 42 := v12
          have v13 : η1 0 45 = η 0 45 := (k1.1.2.2.2.1 0 45 (by decide +kernel)).trans rfl
          have f0_45 : η1 0 45 = η 0 45 := v13
          have v14 : η1 0 19 = η 0 19 := (k1.1.2.2.2.1 0 19 (by decide +kernel)).trans rfl
          have f0_19 : η1 0 19 = η 0 19 := v14
          have v15 : η1 0 44 = η 0 44 := (k1.1.2.2.2.1 0 44 (by decide +kernel)).trans rfl
          have f0_44 : η1 0 44 = η 0 44 := v15
          have v16 : η1 0 7 = η 0 7 := (k1.1.2.2.2.1 0 7 (by decide +kernel)).trans rfl
          have f0_7 : η1 0 7 = η 0 7 := v16
          have v17 : η1 0 6 = η 0 6 := (k1.1.2.2.2.1 0 6 (by decide +kernel)).trans rfl
          have f0_6 : η1 0 6 = η 0 6 := v17
          have v18 : η1 0 8 = η 0 8 := (k1.1.2.2.2.1 0 8 (by decide +kernel)).trans rfl
          have f0_8 : η1 0 8 = η 0 8 := v18
          have wb1 : wB wl_l zTr η1 := k1.1.1
          have wbE : wB wl_l zTr η1 := wb1
          have I0 : H_l 0 0 0 η := hpp.1
          have I1 : H_l 0 0 0 η1 := k1.2.1
          have qk1 : η 0 8 = 4 := k1.2.2 c1
          exact I1
        · show ∀ (x1 : Int) (η1 : zE), ((gC2 wl_l [(nat_lit 0, zPl_isSign, zOl_isSign, zMl_isSign), (nat_lit 1, zPl_wrong, zOl_wrong, zMl_wrong), (nat_lit 2, zPl_waitsFor0, zOl_waitsFor0, zMl_waitsFor0), (nat_lit 3, zPl_token, zOl_token, zMl_token), (nat_lit 4, zPl_isKey, zOl_isKey, zMl_isKey), (nat_lit 5, zPl_isCounted, zOl_isCounted, zMl_isCounted), (nat_lit 6, zPl_waitsFor2, zOl_waitsFor2, zMl_waitsFor2), (nat_lit 7, zPl_nameMet, zOl_nameMet, zMl_nameMet), (nat_lit 8, zPl_grown, zOl_grown, zMl_grown)] pCl_leafRead qCl_leafRead) 0).2 [40] η x1 η1 → (¬ x1 = 0) → ∀ x2 : Int, x2 = η1 0 (Int.toNat 43) → zok 0 x2 → (x2 = 8) → ∀ (x3 : Int) (η2 : zE), ((gC2 wl_l [(nat_lit 0, zPl_isSign, zOl_isSign, zMl_isSign), (nat_lit 1, zPl_wrong, zOl_wrong, zMl_wrong), (nat_lit 2, zPl_waitsFor0, zOl_waitsFor0, zMl_waitsFor0), (nat_lit 3, zPl_token, zOl_token, zMl_token), (nat_lit 4, zPl_isKey, zOl_isKey, zMl_isKey), (nat_lit 5, zPl_isCounted, zOl_isCounted, zMl_isCounted), (nat_lit 6, zPl_waitsFor2, zOl_waitsFor2, zMl_waitsFor2), (nat_lit 7, zPl_nameMet, zOl_nameMet, zMl_nameMet), (nat_lit 8, zPl_grown, zOl_grown, zMl_grown)] pCl_leafRead qCl_leafRead) 1).2 [2] η1 x3 η2 → (fun (_ : Nat) (y : Int) (η' : zE) => pQl_leafRead [] η y η') 0 x3 η2
          have hw : η 0 45 = 1 := hpp.2
          have hs : η 0 7 ≤ η 0 6 := hpp.1.1.1.1
          have bd43 : (0 : Int) ≤ η 0 43 ∧ η 0 43 ≤ 8 := wf_ok (a := 43) (b := 43) (z := (0, 8)) hp.1 (by decide +kernel) (Nat.le_refl _) (Nat.le_refl _)
          have bd44 : (0 : Int) ≤ η 0 44 ∧ η 0 44 ≤ 64 := wf_ok (a := 44) (b := 44) (z := (0, 64)) hp.1 (by decide +kernel) (Nat.le_refl _) (Nat.le_refl _)
          have bd19 : (0 : Int) ≤ η 0 19 ∧ η 0 19 ≤ 64 := wf_ok (a := 19) (b := 19) (z := (0, 64)) hp.1 (by decide +kernel) (Nat.le_refl _) (Nat.le_refl _)
          intro x1 η1 h1 c1 x2 e2 r2 c2 x3 η2 h3
          have k1 : sQ wl_l zTr zOl_isSign zMl_isSign [40] η x1 η1 ∧ pQl_isSign [40] η x1 η1 := h1
          have k3 : sQ wl_l zTr zOl_wrong zMl_wrong [2] η1 x3 η2 ∧ pQl_wrong [2] η1 x3 η2 := h3
          have c0_0_41 : η 0 41 = η 0 41 := rfl
          have w0_0_43 : (0 : Int) ≤ η 0 43 ∧ η 0 43 ≤ 8 := wf_ok (a := 43) (b := 43) (z := (0, 8)) hp.1 (by decide +kernel) (Nat.le_refl _) (Nat.le_refl _)
          have c0_0_43 : η 0 43 = η 0 43 := rfl
          have c0_0_42 : η 0 42 = η 0 42 := rfl
          have c0_0_45 : η 0 45 = η 0 45 := rfl
          have w0_0_19 : (0 : Int) ≤ η 0 19 ∧ η 0 19 ≤ 64 := wf_ok (a := 19) (b := 19) (z := (0, 64)) hp.1 (by decide +kernel) (Nat.le_refl _) (Nat.le_refl _)
          have c0_0_19 : η 0 19 = η 0 19 := rfl
          have w0_0_44 : (0 : Int) ≤ η 0 44 ∧ η 0 44 ≤ 64 := wf_ok (a := 44) (b := 44) (z := (0, 64)) hp.1 (by decide +kernel) (Nat.le_refl _) (Nat.le_refl _)
          have c0_0_44 : η 0 44 = η 0 44 := rfl
          have w0_0_7 : (0 : Int) ≤ η 0 7 ∧ η 0 7 ≤ 700 := wf_ok (a := 7) (b := 7) (z := (0, 700)) hp.1 (by decide +kernel) (Nat.le_refl _) (Nat.le_refl _)
          have c0_0_7 : η 0 7 = η 0 7 := rfl
          have w0_0_6 : (0 : Int) ≤ η 0 6 ∧ η 0 6 ≤ 700 := wf_ok (a := 6) (b := 6) (z := (0, 700)) hp.1 (by decide +kernel) (Nat.le_refl _) (Nat.le_refl _)
          have c0_0_6 : η 0 6 = η 0 6 := rfl
          have w0_0_8 : (0 : Int) ≤ η 0 8 ∧ η 0 8 ≤ 6 := wf_ok (a := 8) (b := 8) (z := (0, 6)) hp.1 (by decide +kernel) (Nat.le_refl _) (Nat.le_refl _)
          have c0_0_8 : η 0 8 = η 0 8 := rfl
          have bx1 : (0 : Int) ≤ x1 ∧ x1 ≤ 1 := k1.1.2.1
          have v9 : η1 0 43 = η 0 43 := (k1.1.2.2.2.1 0 43 (by decide +kernel)).trans rfl
          replace e2 : x2 = η 0 43 := e2.trans v9
          replace r2 : -2147483648 ≤ x2 ∧ x2 ≤ 2147483647 := r2
          have v10 : η1 0 41 = η 0 41 := (k1.1.2.2.2.1 0 41 (by decide +kernel)).trans rfl
          have c1_0_41 : η1 0 41 = η 0 41 := v10
          have c1_0_43 : η1 0 43 = η 0 43 := v9
          have v11 : η1 0 42 = η 0 42 := (k1.1.2.2.2.1 0 42 (by decide +kernel)).trans rfl
          have c1_0_42 : η1 0 42 = η 0 42 := v11
          have v12 : η1 0 45 = η 0 45 := (k1.1.2.2.2.1 0 45 (by decide +kernel)).trans rfl
          have c1_0_45 : η1 0 45 = η 0 45 := v12
          have v13 : η1 0 19 = η 0 19 := (k1.1.2.2.2.1 0 19 (by decide +kernel)).trans rfl
          have c1_0_19 : η1 0 19 = η 0 19 := v13
          have v14 : η1 0 44 = η 0 44 := (k1.1.2.2.2.1 0 44 (by decide +kernel)).trans rfl
          have c1_0_44 : η1 0 44 = η 0 44 := v14
          have v15 : η1 0 7 = η 0 7 := (k1.1.2.2.2.1 0 7 (by decide +kernel)).trans rfl
          have c1_0_7 : η1 0 7 = η 0 7 := v15
          have v16 : η1 0 6 = η 0 6 := (k1.1.2.2.2.1 0 6 (by decide +kernel)).trans rfl
          have c1_0_6 : η1 0 6 = η 0 6 := v16
          have v17 : η1 0 8 = η 0 8 := (k1.1.2.2.2.1 0 8 (by decide +kernel)).trans rfl
          have c1_0_8 : η1 0 8 = η 0 8 := v17
          have bx3 : (0 : Int) ≤ x3 ∧ x3 ≤ 0 := k3.1.2.1
          have fm1 : zFm zMl_leafRead η η1 := zFm_tr2 zFm_rf k1.1.2.2.2.1 (by decide +kernel)
          have fm2 : zFm zMl_leafRead η η2 := zFm_tr2 fm1 k3.1.2.2.2.1 (by decide +kernel)
          have fmE : zFm zMl_leafRead η η2 := fm2
          have fr22_0 : ∀ j, η 22 j = η 22 j := fun _ => rfl
          have v18 : ∀ j, η1 22 j = η 22 j := fun j => k1.1.2.2.2.1 22 _ (zinr_not (by decide +kernel))
          have fr22_1 : ∀ j, η1 22 j = η 22 j := v18
          have v19 : ∀ j, η2 22 j = η 22 j := fun j => (k3.1.2.2.2.1 22 _ (zinr_not (by decide +kernel))).trans (v18 j)
          have fr22_2 : ∀ j, η2 22 j = η 22 j := v19
          have fr22 : ∀ j, η2 22 j = η 22 j := v19
          have v20 : η2 0 41 = η 0 41 := (k3.1.2.2.2.1 0 41 (by decide +kernel)).trans v10
          have f0_41 : η2 0 41 = η 0 41 := v20
          have v21 : η2 0 43 = η 0 43 := (k3.1.2.2.2.1 0 43 (by decide +kernel)).trans v9
          have f0_43 : η2 0 43 = η 0 43 := v21
          have v22 : η2 0 42 = η 0 42 := (k3.1.2.2.2.1 0 42 (by decide +kernel)).trans v11
          have f0_42 : η2 0 42 = η 0 42 := v22
          have v23 : η2 0 45 = η 0 45 := (k3.1.2.2.2.1 0 45 (by decide +kernel)).trans v12
          have f0_45 : η2 0 45 = η 0 45 := v23
          have v24 : η2 0 19 = η 0 19 := (k3.1.2.2.2.1 0 19 (by decide +kernel)).trans v13
          have f0_19 : η2 0 19 = η 0 19 := v24
          have v25 : η2 0 44 = η 0 44 := (k3.1.2.2.2.1 0 44 (by decide +kernel)).trans v14
          have f0_44 : η2 0 44 = η 0 44 := v25
          have v26 : η2 0 7 = η 0 7 := (k3.1.2.2.2.1 0 7 (by decide +kernel)).trans v15
          have f0_7 : η2 0 7 = η 0 7 := v26
          have v27 : η2 0 6 = η 0 6 := (k3.1.2.2.2.1 0 6 (by decide +kernel)).trans v16
          have f0_6 : η2 0 6 = η 0 6 := v27
          have v28 : η2 0 8 = η 0 8 := (k3.1.2.2.2.1 0 8 (by decide +kernel)).trans v17
          have f0_8 : η2 0 8 = η 0 8 := v28
          have wb1 : wB wl_l zTr η1 := k1.1.1
          have wb2 : wB wl_l zTr η2 := k3.1.1
          have wbE : wB wl_l zTr η2 := wb2
          have I0 : H_l 0 0 0 η := hpp.1
          have I1 : H_l 0 0 0 η1 := k1.2.1
          have qk1 : η 0 8 = 4 := k1.2.2 c1
          have I2 : H_l 0 0 0 η2 := k3.2
          exact ⟨I2.1, fun w => absurd (show (x3 : Int) = 0 by omega) w⟩
      )
    (fun _ _ _ _ _ _ _ h => nomatch h)
    (fun _ h => nomatch h))
