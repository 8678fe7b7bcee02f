theorem he_l {η : zE} {d e f : Int} (h : H_l d e f η) (hd : 0 ≤ d) (he : 0 ≤ e) (b1 : η 0 43 ≤ 8) (b2 : η 0 44 ≤ 64) (b3 : 0 ≤ η 0 19) : 1 - η 0 45 + f ≤ η 0 42 ∧ η 0 42 ≤ 73 - η 0 45 + f := by
  obtain ⟨j1, j2, j3, j4⟩ := h.2
  have cn := cz_n (η := η) (η 0 41).toNat
  exact ⟨by omega, by omega⟩
theorem pop_b {η η2 : zE} {t : Int} (h : G_l η) (hw : η 0 45 = 0) (hp : 1 ≤ η 0 41) (b1 : η 0 43 ≤ 8) (b2 : η 0 44 ≤ 64) (b3 : 0 ≤ η 0 19) (g : G0_l η2) (f1 : η2 0 41 = η 0 41 - 1) (f2 : η2 0 43 = η 0 43) (f3 : η2 0 42 = η 0 42) (f4 : η2 0 45 = η 0 45) (f5 : η2 0 19 = η 0 19) (f6 : η2 0 44 = η 0 44) (fr : ∀ j, η2 22 j = η 22 j) (ht : η 22 (η 0 41 - 1).toNat = t) : (3 ≤ t → H_l 1 0 1 η2 ∧ 2 ≤ η2 0 42 ∧ η2 0 42 ≤ 96) ∧ (t = 2 → H_l 1 0 0 η2 ∧ 1 ≤ η2 0 42 ∧ η2 0 42 ≤ 96) := by
  obtain ⟨j1, j2, j3, j4⟩ := h.2
  have cb := cz_below (η := η) (η' := η2) (η 0 41 - 1).toNat (fun j _ => fr j)
  have cn1 := cz_n (η := η) (η 0 41 - 1).toNat
  refine ⟨fun t3 => ?_, fun t2 => ?_⟩
  · have cpp := cz_pop3 (η := η) (w := η 0 41) hp (by rw [ht]; exact t3)
    have H : H_l 1 0 1 η2 := h_w g f1 f2 f3 f4 f5 f6 ⟨by omega, by omega, by omega, by omega⟩
    have q := he_l H (by decide) (by decide) (by omega) (by omega) (by omega)
    exact ⟨H, by omega, by omega⟩
  · have cpp := cz_pop2 (η := η) (w := η 0 41) hp (by rw [ht]; exact t2)
    have H : H_l 1 0 0 η2 := h_w g f1 f2 f3 f4 f5 f6 ⟨by omega, by omega, by omega, by omega⟩
    have q := he_l H (by decide) (by decide) (by omega) (by omega) (by omega)
    exact ⟨H, by omega, by omega⟩
theorem s1_l {a b n m : Int} (h : b = a - 1) (h1 : n ≤ a) (h2 : a ≤ m) : n - 1 ≤ b ∧ b ≤ m - 1 := ⟨by omega, by omega⟩
theorem ne2_l {a b : Int} (h : 2 ≤ a) (hb : b = a) (hn : ¬ b = 2) : 3 ≤ a := by omega
theorem kr_l {a b c d : Int} (h : a ≤ b) (h1 : c = b) (h2 : d = c + 1) : a ≤ d := by omega
theorem f32_l {a n : Int} (h : 0 ≤ a ∧ a ≤ n) (hn : n ≤ 2147483647) : (-2147483648 : Int) ≤ a ∧ a ≤ 2147483647 := ⟨by omega, by omega⟩

