theorem gl_w {η' : zE} (w : G_r η') (h0 : η' 47 1 = 0) (h1 : ∀ k, k < 3 → η' 50 k = 0) : Gl_q η' := ⟨w, fun k hk => by rw [h0, h1 k hk]; exact Int.le_refl _, fun _ i hi => by rw [h0] at hi; omega⟩
theorem gl_f {m : List zCe} {η η' : zE} (h : Gl_q η) (g : zFm m η η') (w : G_r η') (hf : ¬ η' 60 0 = 0) (hd : zdj [(nat_lit 47, nat_lit 0), (nat_lit 48, nat_lit 0), (nat_lit 50, nat_lit 0)] m = true) : Gl_q η' := ⟨w, fun k hk => by
  rw [g _ _ (zdj_ok hd (zin2_of (q := (47, 0)) (by decide) rfl (Or.inl rfl))), g _ _ (zdj_ok hd (zin2_of (q := (50, 0)) (by decide) rfl (Or.inl rfl)))]
  exact h.2.1 k hk, fun e => absurd e hf⟩
theorem gl_s {m : List zCe} {η η' : zE} (h : Gl_q η) (g : zFm m η η') (w : G_r η') (hd : zdj [(nat_lit 60, nat_lit 1), (nat_lit 47, nat_lit 0), (nat_lit 48, nat_lit 0), (nat_lit 50, nat_lit 0)] m = true) : Gl_q η' := by
  have e1 : η' 60 0 = η 60 0 := g _ _ (zdj_ok hd (zin2_of (q := (60, 1)) (by decide) rfl (Or.inr rfl)))
  have e5 : ∀ j, η' 47 j = η 47 j := fun j => g _ _ (zdj_ok hd (zin2_of (q := (47, 0)) (by decide) rfl (Or.inl rfl)))
  have e6 : ∀ j, η' 48 j = η 48 j := fun j => g _ _ (zdj_ok hd (zin2_of (q := (48, 0)) (by decide) rfl (Or.inl rfl)))
  have e7 : ∀ j, η' 50 j = η 50 j := fun j => g _ _ (zdj_ok hd (zin2_of (q := (50, 0)) (by decide) rfl (Or.inl rfl)))
  refine ⟨w, ?_⟩
  unfold Kc_q
  simp only [e1, e5, e6, e7]
  exact h.2

def GA_q : zE → Prop := fun η => (∀ i : Nat, (i : Int) < η 17 1 → -13 ≤ η 18 i ∧ η 18 i ≤ 10006) ∧ ∀ k, k < 3 → η 20 k ≤ η 17 1
def GB_q : zE → Prop := fun η => (∀ i : Nat, (i : Int) < η 47 1 → -13 ≤ η 48 i ∧ η 48 i ≤ 10006) ∧ ∀ k, k < 3 → η 50 k ≤ η 47 1
def grA_q : List zCe := [(nat_lit 17, nat_lit 0), (nat_lit 18, nat_lit 0), (nat_lit 20, nat_lit 0)]
theorem gkA_q : zGk GA_q grA_q := fun η η' h g => by
  have e1 : ∀ j, η' 17 j = η 17 j := fun j => h _ _ (zin2_of (q := (17, 0)) (by decide) rfl (Or.inl rfl))
  have e2 : ∀ j, η' 18 j = η 18 j := fun j => h _ _ (zin2_of (q := (18, 0)) (by decide) rfl (Or.inl rfl))
  have e3 : ∀ j, η' 20 j = η 20 j := fun j => h _ _ (zin2_of (q := (20, 0)) (by decide) rfl (Or.inl rfl))
  unfold GA_q at g ⊢
  simp only [e1, e2, e3]
  exact g
def grB_q : List zCe := [(nat_lit 47, nat_lit 0), (nat_lit 48, nat_lit 0), (nat_lit 50, nat_lit 0)]
theorem gkB_q : zGk GB_q grB_q := fun η η' h g => by
  have e1 : ∀ j, η' 47 j = η 47 j := fun j => h _ _ (zin2_of (q := (47, 0)) (by decide) rfl (Or.inl rfl))
  have e2 : ∀ j, η' 48 j = η 48 j := fun j => h _ _ (zin2_of (q := (48, 0)) (by decide) rfl (Or.inl rfl))
  have e3 : ∀ j, η' 50 j = η 50 j := fun j => h _ _ (zin2_of (q := (50, 0)) (by decide) rfl (Or.inl rfl))
  unfold GB_q at g ⊢
  simp only [e1, e2, e3]
  exact g
theorem zGk_fm {G : zE → Prop} {GR m : List zCe} {η η' : zE} (hG : zGk G GR) (g : G η) (h : zFm m η η') (hd : zdj GR m = true) : G η' := hG η η' (fun r j hr => h r j (zdj_ok hd hr)) g
theorem gb_of {η : zE} (h : Gl_q η) (hf : η 60 0 = 0) : GB_q η := ⟨fun i hi => h.2.2 hf i hi, h.2.1⟩

def FC_q (n : Int) (η η' : zE) : Prop := (n < 0 ∨ η 0 1 < n → η' 0 1 = η 0 1) ∧ (0 ≤ n → n ≤ η 0 1 → η' 0 1 = 0)
