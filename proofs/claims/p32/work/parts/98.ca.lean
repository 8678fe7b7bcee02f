def tm_k : zTm := .branch (nat_lit 21) (.branch (nat_lit 10) (.branch (nat_lit 5) (.branch (nat_lit 2) (.branch (nat_lit 1) (.leaf (nat_lit 0, nat_lit 8, nat_lit 84, [nat_lit 3, nat_lit 0, nat_lit 0, nat_lit 3, nat_lit 0, nat_lit 0, nat_lit 0, nat_lit 0, nat_lit 0, nat_lit 0, nat_lit 0, nat_lit 0, nat_lit 0, nat_lit 0, nat_lit 0, nat_lit 0, nat_lit 0, nat_lit 0, nat_lit 0, nat_lit 0, nat_lit 3, nat_lit 3, nat_lit 3, nat_lit 3, nat_lit 3, nat_lit 3, nat_lit 3, nat_lit 3, nat_lit 3, nat_lit 3, nat_lit 3, nat_lit 3, nat_lit 3, nat_lit 3, nat_lit 3, nat_lit 3, nat_lit 3, nat_lit 3, nat_lit 3, nat_lit 3, nat_lit 3, nat_lit 0, nat_lit 0, nat_lit 0, nat_lit 0, nat_lit 1, nat_lit 1, nat_lit 3, nat_lit 3, nat_lit 1, nat_lit 3, nat_lit 3, nat_lit 3, nat_lit 3, nat_lit 3, nat_lit 3, nat_lit 3, nat_lit 3, nat_lit 3, nat_lit 3, nat_lit 2, nat_lit 1, nat_lit 1, nat_lit 1, nat_lit 1, nat_lit 0, nat_lit 0, nat_lit 0, nat_lit 0, nat_lit 0, nat_lit 0, nat_lit 0, nat_lit 3, nat_lit 3, nat_lit 0, nat_lit 0, nat_lit 3, nat_lit 3, nat_lit 0, nat_lit 3, nat_lit 1, nat_lit 3, nat_lit 3, nat_lit 2])) (.leaf (nat_lit 1, nat_lit 100, nat_lit 700, []))) (.branch (nat_lit 3) (.leaf (nat_lit 2, nat_lit 100, nat_lit 104, [])) (.branch (nat_lit 4) (.leaf (nat_lit 3, nat_lit 102, nat_lit 3, [])) (.leaf (nat_lit 4, nat_lit 100, nat_lit 8, []))))) (.branch (nat_lit 7) (.branch (nat_lit 6) (.leaf (nat_lit 5, nat_lit 100, nat_lit 24, [])) (.leaf (nat_lit 6, nat_lit 100, nat_lit 24, []))) (.branch (nat_lit 8) (.leaf (nat_lit 7, nat_lit 100, nat_lit 8, [])) (.branch (nat_lit 9) (.leaf (nat_lit 8, nat_lit 100, nat_lit 8, [])) (.leaf (nat_lit 9, nat_lit 100, nat_lit 8, [])))))) (.branch (nat_lit 15) (.branch (nat_lit 12) (.branch (nat_lit 11) (.leaf (nat_lit 10, nat_lit 100, nat_lit 8, [])) (.leaf (nat_lit 11, nat_lit 100, nat_lit 8, []))) (.branch (nat_lit 13) (.leaf (nat_lit 12, nat_lit 100, nat_lit 8, [])) (.branch (nat_lit 14) (.leaf (nat_lit 13, nat_lit 100, nat_lit 8, [])) (.leaf (nat_lit 14, nat_lit 100, nat_lit 8, []))))) (.branch (nat_lit 18) (.branch (nat_lit 16) (.leaf (nat_lit 15, nat_lit 100, nat_lit 8, [])) (.branch (nat_lit 17) (.leaf (nat_lit 16, nat_lit 102, nat_lit 6, [])) (.leaf (nat_lit 17, nat_lit 100, nat_lit 6, [])))) (.branch (nat_lit 19) (.leaf (nat_lit 18, nat_lit 100, nat_lit 6, [])) (.branch (nat_lit 20) (.leaf (nat_lit 19, nat_lit 100, nat_lit 128, [])) (.leaf (nat_lit 20, nat_lit 100, nat_lit 128, []))))))) (.branch (nat_lit 32) (.branch (nat_lit 26) (.branch (nat_lit 23) (.branch (nat_lit 22) (.leaf (nat_lit 21, nat_lit 100, nat_lit 128, [])) (.leaf (nat_lit 22, nat_lit 100, nat_lit 96, []))) (.branch (nat_lit 24) (.leaf (nat_lit 23, nat_lit 100, nat_lit 96, [])) (.branch (nat_lit 25) (.leaf (nat_lit 24, nat_lit 103, nat_lit 7, [])) (.leaf (nat_lit 25, nat_lit 103, nat_lit 64, []))))) (.branch (nat_lit 29) (.branch (nat_lit 27) (.leaf (nat_lit 26, nat_lit 100, nat_lit 2, [])) (.branch (nat_lit 28) (.leaf (nat_lit 27, nat_lit 100, nat_lit 2, [])) (.leaf (nat_lit 28, nat_lit 100, nat_lit 2, [])))) (.branch (nat_lit 30) (.leaf (nat_lit 29, nat_lit 100, nat_lit 2, [])) (.branch (nat_lit 31) (.leaf (nat_lit 30, nat_lit 100, nat_lit 2, [])) (.leaf (nat_lit 31, nat_lit 100, nat_lit 2, [])))))) (.branch (nat_lit 37) (.branch (nat_lit 34) (.branch (nat_lit 33) (.leaf (nat_lit 32, nat_lit 100, nat_lit 2, [])) (.leaf (nat_lit 33, nat_lit 100, nat_lit 24, []))) (.branch (nat_lit 35) (.leaf (nat_lit 34, nat_lit 100, nat_lit 8, [])) (.branch (nat_lit 36) (.leaf (nat_lit 35, nat_lit 100, nat_lit 8, [])) (.leaf (nat_lit 36, nat_lit 100, nat_lit 4, []))))) (.branch (nat_lit 40) (.branch (nat_lit 38) (.leaf (nat_lit 37, nat_lit 100, nat_lit 4, [])) (.branch (nat_lit 39) (.leaf (nat_lit 38, nat_lit 100, nat_lit 72, [])) (.leaf (nat_lit 39, nat_lit 102, nat_lit 24, [])))) (.branch (nat_lit 41) (.leaf (nat_lit 40, nat_lit 100, nat_lit 60, [])) (.branch (nat_lit 42) (.leaf (nat_lit 41, nat_lit 100, nat_lit 7, [])) (.leaf (nat_lit 42, nat_lit 100, nat_lit 20, [])))))))
def wl_k : wL := [(nat_lit 0, nat_lit 1, nat_lit 2, (.ofNat (nat_lit 0)), (.ofNat (nat_lit 700))),
  (nat_lit 0, nat_lit 6, nat_lit 7, (.ofNat (nat_lit 0)), (.ofNat (nat_lit 700))),
  (nat_lit 0, nat_lit 7, nat_lit 8, (.ofNat (nat_lit 0)), (.ofNat (nat_lit 700))),
  (nat_lit 0, nat_lit 8, nat_lit 9, (.ofNat (nat_lit 0)), (.ofNat (nat_lit 6))),
  (nat_lit 0, nat_lit 10, nat_lit 11, (.ofNat (nat_lit 0)), (.ofNat (nat_lit 700))),
  (nat_lit 0, nat_lit 12, nat_lit 13, (.ofNat (nat_lit 0)), (.ofNat (nat_lit 12))),
  (nat_lit 0, nat_lit 13, nat_lit 14, (.ofNat (nat_lit 0)), (.ofNat (nat_lit 4))),
  (nat_lit 0, nat_lit 14, nat_lit 15, (.ofNat (nat_lit 0)), (.ofNat (nat_lit 4))),
  (nat_lit 0, nat_lit 15, nat_lit 16, (.ofNat (nat_lit 0)), (.ofNat (nat_lit 64))),
  (nat_lit 0, nat_lit 16, nat_lit 17, (.ofNat (nat_lit 0)), (.ofNat (nat_lit 12))),
  (nat_lit 0, nat_lit 17, nat_lit 18, (.ofNat (nat_lit 0)), (.ofNat (nat_lit 4))),
  (nat_lit 0, nat_lit 18, nat_lit 19, (.ofNat (nat_lit 0)), (.ofNat (nat_lit 4))),
  (nat_lit 0, nat_lit 19, nat_lit 20, (.ofNat (nat_lit 0)), (.ofNat (nat_lit 64))),
  (nat_lit 17, nat_lit 0, nat_lit 6, (.ofNat (nat_lit 0)), (.ofNat (nat_lit 64))),
  (nat_lit 18, nat_lit 0, nat_lit 6, (.ofNat (nat_lit 0)), (.ofNat (nat_lit 64))),
  (nat_lit 22, nat_lit 0, nat_lit 96, (.ofNat (nat_lit 0)), (.ofNat (nat_lit 14))),
  (nat_lit 23, nat_lit 0, nat_lit 96, (.ofNat (nat_lit 0)), (.ofNat (nat_lit 63))),
  (nat_lit 0, nat_lit 43, nat_lit 44, (.ofNat (nat_lit 0)), (.ofNat (nat_lit 8))),
  (nat_lit 0, nat_lit 44, nat_lit 45, (.ofNat (nat_lit 0)), (.ofNat (nat_lit 64))),
  (nat_lit 26, nat_lit 0, nat_lit 2, (.negSucc (nat_lit 1)), (.ofNat (nat_lit 11))),
  (nat_lit 0, nat_lit 74, nat_lit 75, (.ofNat (nat_lit 0)), (.ofNat (nat_lit 24))),
  (nat_lit 0, nat_lit 75, nat_lit 76, (.negSucc (nat_lit 0)), (.ofNat (nat_lit 24))),
  (nat_lit 0, nat_lit 78, nat_lit 79, (.ofNat (nat_lit 0)), (.ofNat (nat_lit 20))),
  (nat_lit 41, nat_lit 0, nat_lit 1, (.negSucc (nat_lit 1)), (.ofNat (nat_lit 11)))]
def gr_k : List zCe := [(nat_lit 0, nat_lit 8), (nat_lit 0, nat_lit 7), (nat_lit 0, nat_lit 9), (nat_lit 0, nat_lit 10), (nat_lit 2, nat_lit 0)]
def wd_k : List Int := [103, 114, 111, 111, 118, 101, 32, 115, 99, 114, 97, 116, 32, 103, 117, 101, 115, 116, 32, 97, 114, 109, 32, 112, 114, 105, 99, 101, 32, 115, 101, 101, 100, 32, 108, 97, 119, 32, 98, 97, 99, 107, 32, 119, 101, 97, 114, 32, 119, 111, 114, 116, 104, 32, 97, 110, 100, 32, 111, 114, 32, 110, 111, 116, 32, 112, 108, 97, 99, 101, 32, 111, 100, 100, 115, 32, 119, 111, 114, 110, 32, 104, 101, 97, 118, 121, 32, 114, 111, 117, 110, 100, 32, 104, 101, 97, 114, 100, 32, 116, 117, 114, 110, 32]
def sw_k : List Nat := [0, 7, 13, 19, 23, 29, 34, 38, 43, 48, 54, 58, 61, 65, 71, 76, 81, 87, 93, 99, 104]
def K_k (k w : Int) : Prop := (k = 1 → -1 ≤ w ∧ w ≤ 19) ∧ (k = 5 → 0 ≤ w ∧ w ≤ 5)
def G_k : zE → Prop := fun η => η 0 7 ≤ η 0 6 ∧ K_k (η 0 8) (η 0 9) ∧ ∀ j, j < 104 → η 2 j = wd_k.getD j 0
theorem gk_k : zGk G_k gr_k := fun η η' h g => by
  have e : ∀ j, η' 2 j = η 2 j := fun j => h _ _ (zin2_of (q := (2, 0)) (by decide) rfl (Or.inl rfl))
  unfold G_k at g ⊢
  simp only [h 0 7 rfl, h 0 6 rfl, h 0 8 rfl, h 0 9 rfl, e]
  exact g
theorem k_o {k w : Int} (h1 : ¬ k = 1) (h5 : ¬ k = 5) : K_k k w := ⟨fun h => absurd h h1, fun h => absurd h h5⟩
theorem gk_of {η η' : zE} (g : G_k η) (h1 : η' 0 7 ≤ η' 0 6) (h2 : K_k (η' 0 8) (η' 0 9)) (h3 : ∀ j, η' 2 j = η 2 j) : G_k η' := ⟨h1, h2, fun j hj => by rw [h3]; exact g.2.2 j hj⟩
theorem sw_1 : ∀ k, k < 20 → sw_k.getD k 0 < 104 ∧ sw_k.getD (k + 1) 0 ≤ 104 ∧ sw_k.getD k 0 + 1 ≤ sw_k.getD (k + 1) 0 ∧ sw_k.getD (k + 1) 0 ≤ sw_k.getD k 0 + 7 := by decide
theorem sw_2 : ∀ k, k < 20 → ∀ n, n < 7 → sw_k.getD k 0 + n + 1 ≤ sw_k.getD (k + 1) 0 → (wd_k.getD (sw_k.getD k 0 + n) 0 = 32 ↔ sw_k.getD k 0 + n + 1 = sw_k.getD (k + 1) 0) := by decide
theorem sw_3 : ∀ k, k ≤ 20 → sw_k.getD k 0 < 104 → k < 20 := by decide
def zEq (x y : Int) : Prop := x = y
theorem zEq_i {x y : Int} (h : x = y) : zEq x y := h
theorem zEq_o {x y : Int} (h : zEq x y) : x = y := h
theorem zd_a2 {x y z : Int} (e : z = zd 0 1 x y) (h : z32 (x + y)) : z = x + y := e.trans (zd_a h)
theorem zd_s2 {x y z : Int} (e : z = zd 0 2 x y) (h : z32 (x - y)) : z = x - y := e.trans (zd_s h)
def Wd_k (η : zE) : Prop := ∀ j, j < 104 → η 2 j = wd_k.getD j 0
theorem gk_v {η η' : zE} {a b c d : Int} (f1 : η' 0 7 = a) (f2 : η' 0 6 = b) (f3 : η' 0 8 = c) (f4 : η' 0 9 = d) (f5 : ∀ j, η' 2 j = η 2 j) (w : Wd_k η) (h1 : a ≤ b) (h2 : K_k c d) : G_k η' := ⟨by rw [f1, f2]; exact h1, by rw [f3, f4]; exact h2, fun j hj => by rw [f5]; exact w j hj⟩
