/-! the first place that holds x -/
theorem yfd_0 {f : Nat → Int} {x : Int} {n i : Nat} (h : i < n) : yp_fd f x n (n - i) = if f i = x then (i : Int) else yp_fd f x n (n - (i + 1)) := by
  rw [show n - i = (n - (i + 1)) + 1 by omega, yp_fd, show n - (n - (i + 1) + 1) = i by omega]
theorem yfd_e {f : Nat → Int} {x : Int} {n i : Nat} (h : n ≤ i) : yp_fd f x n (n - i) = -1 := by
  rw [show n - i = 0 by omega, yp_fd]
def yp_gI (η0 : zE) (x0 x i : Int) (η : zE) : Prop := η = η0 ∧ x = x0 ∧ 0 ≤ i ∧ yp_fd (η0 46) x0 (η0 32 3).toNat (η0 32 3).toNat = yp_fd (η0 46) x0 (η0 32 3).toNat ((η0 32 3).toNat - i.toNat)
