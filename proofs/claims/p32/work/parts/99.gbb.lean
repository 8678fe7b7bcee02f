/-! Places that are none of P; tokens. -/
theorem ys_0 {P : Int → Bool} {b : Nat → Int} {n p k : Nat} (h : n - p = k + 1) : yp_scn P b n (n - p) = if P (b p) = true then yp_scn P b n (n - (p + 1)) else p := by
  rw [h, yp_scn, show n - (k + 1) = p by omega, show n - (p + 1) = k by omega]
theorem ys_s {P : Int → Bool} {b : Nat → Int} {n p : Nat} (h : p < n) (hp : P (b p) = true) : yp_scn P b n (n - p) = yp_scn P b n (n - (p + 1)) := by
  rw [ys_0 (k := n - p - 1) (by omega), if_pos hp]
theorem ys_x {P : Int → Bool} {b : Nat → Int} {n p : Nat} (h : p < n) (hp : P (b p) = false) : yp_scn P b n (n - p) = p := by
  rw [ys_0 (k := n - p - 1) (by omega), if_neg (by rw [hp]; decide)]
theorem ys_e {P : Int → Bool} {b : Nat → Int} {n p : Nat} (h : n ≤ p) : yp_scn P b n (n - p) = n := by
  rw [show n - p = 0 by omega, yp_scn]
theorem ys_r {P : Int → Bool} {b : Nat → Int} {n : Nat} : ∀ k, n - k ≤ yp_scn P b n k ∧ yp_scn P b n k ≤ n
  | 0 => by rw [yp_scn]; omega
  | k + 1 => by
    rw [yp_scn]
    have := ys_r (P := P) (b := b) (n := n) k
    split <;> omega
/-- up to the place all are P; there none is -/
theorem ys_p {P : Int → Bool} {b : Nat → Int} {n : Nat} : ∀ k, k ≤ n → (∀ j, n - k ≤ j → j < yp_scn P b n k → P (b j) = true) ∧ (yp_scn P b n k < n → P (b (yp_scn P b n k)) = false)
  | 0, _ => by rw [yp_scn]; exact ⟨fun j a c => by omega, fun h => by omega⟩
  | k + 1, h => by
    rw [yp_scn]
    have g := ys_p (P := P) (b := b) (n := n) k (by omega)
    have r := ys_r (P := P) (b := b) (n := n) k
    split
    · next w =>
      refine ⟨fun j a c => ?_, g.2⟩
      by_cases q : j = n - (k + 1)
      · rw [q]; exact w
      · exact g.1 j (by omega) c
    · next w => exact ⟨fun j a c => by omega, fun _ => by simpa using w⟩
theorem yb_10 {c : Int} (h : c = 10 ∨ c = 32) : yp_bl c = true := decide_eq_true h
theorem yb_n {c : Int} (h : ¬ c = 10) (h2 : ¬ c = 32) : yp_bl c = false := decide_eq_false (by omega)
theorem yl_y {c : Int} (h : 97 ≤ c) (h2 : c ≤ 122) : yp_le c = true := decide_eq_true ⟨h, h2⟩
theorem yl_n {c : Int} (h : c < 97 ∨ 122 < c) : yp_le c = false := decide_eq_false (by omega)
theorem yd_y {c : Int} (h : 48 ≤ c) (h2 : c ≤ 57) : yp_di c = true := decide_eq_true ⟨h, h2⟩
theorem yd_n {c : Int} (h : c < 48 ∨ 57 < c) : yp_di c = false := decide_eq_false (by omega)
/-! what the words' methods leave -/
def yp_flY (x : Int) (s : zE) : Int := if s 60 5 < s 60 4 ∧ s 1 (s 60 5).toNat = x then 1 else 0
def yp_flS (x : Int) (s : zE) : zE := if s 60 5 < s 60 4 ∧ s 1 (s 60 5).toNat = x then yp_inc 60 5 s else s
def yp_nx (s : zE) : Int := if s 60 5 < s 60 4 then s 1 (s 60 5).toNat else 0
def yp_snY (x : Int) (s : zE) : Int := (yp_sg x (yp_nx s)).1
def yp_snS (x : Int) (s : zE) : zE := if (yp_sg x (yp_nx s)).2 = 0 then s else yp_inc 60 5 s
def yp_tlw (i : Int) (s : zE) : zE := if 13 ≤ i then zup (zup s 60 6 17) 60 8 (i - 13) else if 10 ≤ i then zup s 60 6 (i - 9) else if 7 ≤ i then zup (zup s 60 6 19) 60 8 (i - 7) else zup (zup s 60 6 18) 60 8 i
def yp_at (s : zE) : Nat := (s 60 5).toNat
def yp_len (s : zE) : Nat := (s 60 4).toNat
def yp_nn (s : zE) : zE := zup (zup (zup s 60 6 16) 60 8 (yp_num (s 1) (yp_at s) (yp_scn yp_di (s 1) (yp_len s) (yp_len s - yp_at s) - yp_at s))) 60 5 (yp_scn yp_di (s 1) (yp_len s) (yp_len s - yp_at s))
def yp_nw (s : zE) : zE :=
  let q := yp_scn yp_le (s 1) (yp_len s) (yp_len s - yp_at s)
  if 6 < q - yp_at s then zup (zup (zup s 60 5 q) 60 6 22) 60 8 0 else
  zup (zup (zup s 60 5 q) 60 6 (yp_kw (yp_pk (s 1) (yp_at s) (q - yp_at s)) 20).1) 60 8 (yp_kw (yp_pk (s 1) (yp_at s) (q - yp_at s)) 20).2
theorem sg_o {c d : Int} (h : ¬ c = 59 ∧ ¬ c = 40 ∧ ¬ c = 41 ∧ ¬ c = 43 ∧ ¬ c = 45 ∧ ¬ c = 42 ∧ ¬ c = 47 ∧ ¬ c = 61 ∧ ¬ c = 60 ∧ ¬ c = 62) : yp_sg c d = (22, 0) := by
  unfold yp_sg
  rw [if_neg (by omega), if_neg (by omega), if_neg (by omega), if_neg (by omega), if_neg (by omega), if_neg (by omega), if_neg (by omega), if_neg (by omega), if_neg (by omega), if_neg (by omega)]
theorem sg_oS {s : zE} {c : Int} (h : ¬ c = 59 ∧ ¬ c = 40 ∧ ¬ c = 41 ∧ ¬ c = 43 ∧ ¬ c = 45 ∧ ¬ c = 42 ∧ ¬ c = 47 ∧ ¬ c = 61 ∧ ¬ c = 60 ∧ ¬ c = 62) : 22 = yp_snY c s ∧ s = yp_snS c s := by
  unfold yp_snY yp_snS
  rw [sg_o h]
  exact ⟨rfl, rfl⟩
theorem sg_60 {d : Int} : yp_sg 60 d = if d = 62 then (7, 1) else if d = 61 then (5, 1) else (4, 0) := rfl
theorem sg_62 {d : Int} : yp_sg 62 d = if d = 61 then (8, 1) else (9, 0) := rfl
theorem fl_0 {x : Int} {s : zE} (h : yp_flY x s = 0) : yp_flS x s = s ∧ (¬ x = 0 → ¬ yp_nx s = x) := by
  unfold yp_flY at h
  unfold yp_flS yp_nx
  split at h
  · cases h
  · next w =>
    refine ⟨if_neg w, fun a e => ?_⟩
    split at e
    · next g => exact w ⟨g, e⟩
    · exact a e.symm
theorem fl_1 {x : Int} {s : zE} (h : ¬ yp_flY x s = 0) : yp_flS x s = yp_inc 60 5 s ∧ yp_nx s = x := by
  unfold yp_flY at h
  unfold yp_flS yp_nx
  split at h
  · next w => exact ⟨if_pos w, by rw [if_pos w.1]; exact w.2⟩
  · exact absurd rfl h
theorem sn_4 {s : zE} (h : yp_flY 62 s = 0) (h2 : yp_flY 61 (yp_flS 62 s) = 0) : 4 = yp_snY 60 s ∧ yp_flS 61 (yp_flS 62 s) = yp_snS 60 s := by
  have f := fl_0 h
  rw [f.1] at h2 ⊢
  have g := fl_0 h2
  unfold yp_snY yp_snS
  rw [sg_60, if_neg (f.2 (by decide)), if_neg (g.2 (by decide)), g.1]
  exact ⟨rfl, rfl⟩
theorem sn_5 {s : zE} (h : yp_flY 62 s = 0) (h2 : ¬ yp_flY 61 (yp_flS 62 s) = 0) : 5 = yp_snY 60 s ∧ yp_flS 61 (yp_flS 62 s) = yp_snS 60 s := by
  have f := fl_0 h
  rw [f.1] at h2 ⊢
  have g := fl_1 h2
  unfold yp_snY yp_snS
  rw [sg_60, if_neg (f.2 (by decide)), if_pos g.2, g.1]
  exact ⟨rfl, rfl⟩
theorem sn_7 {s : zE} (h : ¬ yp_flY 62 s = 0) : 7 = yp_snY 60 s ∧ yp_flS 62 s = yp_snS 60 s := by
  have g := fl_1 h
  unfold yp_snY yp_snS
  rw [sg_60, if_pos g.2, g.1]
  exact ⟨rfl, rfl⟩
theorem sn_9 {s : zE} (h : yp_flY 61 s = 0) : 9 = yp_snY 62 s ∧ yp_flS 61 s = yp_snS 62 s := by
  have g := fl_0 h
  unfold yp_snY yp_snS
  rw [sg_62, if_neg (g.2 (by decide)), g.1]
  exact ⟨rfl, rfl⟩
theorem sn_8 {s : zE} (h : ¬ yp_flY 61 s = 0) : 8 = yp_snY 62 s ∧ yp_flS 61 s = yp_snS 62 s := by
  have g := fl_1 h
  unfold yp_snY yp_snS
  rw [sg_62, if_pos g.2, g.1]
  exact ⟨rfl, rfl⟩
