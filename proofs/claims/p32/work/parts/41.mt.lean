noncomputable def pr_mk (e : Nat × ab_M) : Bool := match pr_P e.1 with
  | some M => Nat.beq M.2.2.2.2.1 e.2.1 && (Nat.beq M.2.2.2.2.2.1 e.2.2.1 && (Nat.beq M.2.2.2.2.2.2 e.2.2.2.1 && (Nat.beq M.2.2.1 e.2.2.2.2.1 && decide (M.2.2.2.1 = ab_rt e.2.2.2.2.2.1))))
  | none => false
theorem pr_mk_all : (ab_lvs pr_mt).all pr_mk = true := by decide +kernel
theorem pr_mtR : ab_mtR pr_P pr_K pr_mt := by
  intro mid m h
  have h1 := List.all_eq_true.mp pr_mk_all _ (ab_lvs_mem h)
  unfold pr_mk at h1
  dsimp only at h1
  split at h1
  · next M hM =>
    simp only [Bool.and_eq_true] at h1
    obtain ⟨a, b, c, d, e⟩ := h1
    refine ⟨M, hM, Nat.eq_of_beq_eq_true a, Nat.eq_of_beq_eq_true b, Nat.eq_of_beq_eq_true c, Nat.eq_of_beq_eq_true d, of_decide_eq_true e, fun pc e he => ?_⟩
    unfold pr_K
    rw [h]
    dsimp only
    rw [he]
    rfl
  · cases h1
