theorem br_up {d e f x : Int} {η : zE} (h : H_l d e f η) (hx : x = η 0 43 + 1) : H_l d (e + 1) f (zup η 0 43 x) := by
  have cc := cz_zup (η := η) (r := 0) (j := 43) (x := x) (by decide)
  obtain ⟨j1, j2, j3, j4⟩ := h.2
  have n1 : ∀ n, ¬ n = 43 → zup η 0 43 x 0 n = η 0 n := fun n hn => zup_ne (fun _ e => hn e)
  exact h_w (zGk_upc g0k_l h.1 (by decide +kernel)) (n1 41 (by decide)) zup_eq (n1 42 (by decide)) (n1 45 (by decide)) (n1 19 (by decide)) (n1 44 (by decide)) (by rw [(cc _).1, (cc _).2]; exact ⟨by omega, by omega, by omega, by omega⟩)
theorem br_dn {d e f x : Int} {η : zE} (h : H_l d e f η) (hx : x = η 0 43 - 1) : H_l d (e - 1) f (zup η 0 43 x) := by
  have cc := cz_zup (η := η) (r := 0) (j := 43) (x := x) (by decide)
  obtain ⟨j1, j2, j3, j4⟩ := h.2
  have n1 : ∀ n, ¬ n = 43 → zup η 0 43 x 0 n = η 0 n := fun n hn => zup_ne (fun _ e => hn e)
  exact h_w (zGk_upc g0k_l h.1 (by decide +kernel)) (n1 41 (by decide)) zup_eq (n1 42 (by decide)) (n1 45 (by decide)) (n1 19 (by decide)) (n1 44 (by decide)) (by rw [(cc _).1, (cc _).2]; exact ⟨by omega, by omega, by omega, by omega⟩)
theorem wn_up {d e f x : Int} {η : zE} (h : H_l d e f η) : H_l d e (f + x - η 0 45) (zup η 0 45 x) := by
  have cc := cz_zup (η := η) (r := 0) (j := 45) (x := x) (by decide)
  obtain ⟨j1, j2, j3, j4⟩ := h.2
  have n1 : ∀ n, ¬ n = 45 → zup η 0 45 x 0 n = η 0 n := fun n hn => zup_ne (fun _ e => hn e)
  exact h_w (zGk_upc g0k_l h.1 (by decide +kernel)) (n1 41 (by decide)) (n1 43 (by decide)) (n1 42 (by decide)) zup_eq (n1 19 (by decide)) (n1 44 (by decide)) (by rw [(cc _).1, (cc _).2]; exact ⟨by omega, by omega, by omega, by omega⟩)
theorem wa_pop {d e f x : Int} {η : zE} (h : H_l d e f η) (hw : 1 ≤ η 0 41) (ht : η 22 (η 0 41 - 1).toNat ≤ 1) (hx : x = η 0 41 - 1) : H_l d (e + 1) f (zup η 0 41 x) := by
  have cc := cz_zup (η := η) (r := 0) (j := 41) (x := x) (by decide)
  obtain ⟨j1, j2, j3, j4⟩ := h.2
  have n1 : ∀ n, ¬ n = 41 → zup η 0 41 x 0 n = η 0 n := fun n hn => zup_ne (fun _ e => hn e)
  have cp := cz_pop0 (η := η) hw ht
  rw [← hx] at cp
  exact h_w (zGk_upc g0k_l h.1 (by decide +kernel)) zup_eq (n1 43 (by decide)) (n1 42 (by decide)) (n1 45 (by decide)) (n1 19 (by decide)) (n1 44 (by decide)) (by rw [(cc _).1, (cc _).2]; exact ⟨by omega, by omega, by omega, by omega⟩)
theorem h_eq {d e f d' e' f' : Int} {η : zE} (h : H_l d e f η) (h1 : d = d') (h2 : e = e') (h3 : f = f') : H_l d' e' f' η := by
  subst h1 h2 h3
  exact h
