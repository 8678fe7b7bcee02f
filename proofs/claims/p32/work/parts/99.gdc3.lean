/-! A price of needles; the groove bits worth most: both sides' loops. -/
def yv_nc (p t k : Int) : Int := zd 0 1 p (zd 0 3 t (zd 0 9 (zd 0 3 k (zd 0 2 k 1)) 2))
def yv_n1 (p t k : Int) (q : Int × Int) : Int × Int := if zd 0 3 (yv_nc p t k) q.1 < zd 0 3 q.2 k then (k, yv_nc p t k) else q
def yv_nd (p t : Int) : Nat → Int × Int
  | 0 => (1, p)
  | i + 1 => yv_n1 p t ((i : Int) + 2) (yv_nd p t i)
def yv_ne (n : Int) (s : zE) : Int := if yq_in n 1 99 = 0 then -1 else (yv_nd (s 2 5) (s 2 6) (n - 1).toNat).1
def yv_nI (η0 : zE) (x0 x b c k : Int) (η : zE) : Prop := η = η0 ∧ x = x0 ∧ yq_in x0 1 99 = 1 ∧ 2 ≤ k ∧ k ≤ x + 1 ∧ (b, c) = yv_nd (η0 2 5) (η0 2 6) (k - 2).toNat
def yw_nc (p t k : Int) : Int := zd 0 1 p (zd 0 9 (zd 0 3 (zd 0 3 t k) (zd 0 2 k 1)) 2)
def yw_n1 (p t k : Int) (q : Int × Int) : Int × Int := if zd 0 3 q.2 k ≤ zd 0 3 (yw_nc p t k) q.1 then q else (k, yw_nc p t k)
def yw_nd (p t : Int) : Nat → Int × Int
  | 0 => (1, p)
  | i + 1 => yw_n1 p t ((i : Int) + 2) (yw_nd p t i)
def yw_ne (n : Int) (s : zE) : Int := if yq_in n 1 99 = 0 then -1 else (yw_nd (s 4 1) (s 4 3) (n - 1).toNat).1
def yw_nI (η0 : zE) (x0 x b c k : Int) (η : zE) : Prop := η = zup η0 0 2 0 ∧ x = x0 ∧ yq_in x0 1 99 = 1 ∧ 2 ≤ k ∧ k ≤ x + 1 ∧ (b, c) = yw_nd (η0 4 1) (η0 4 3) (k - 2).toNat
theorem in_11 {n lo hi : Int} (h : ¬ yq_in n lo hi = 0) : yq_in n lo hi = 1 ∧ lo ≤ n ∧ n ≤ hi := by
  unfold yq_in at h ⊢
  split
  · next c => exact ⟨rfl, c⟩
  · next c => exact absurd (if_neg c) h
theorem vnI_0 {η0 η : zE} {x p : Int} (e : η = η0) (h : ¬ yq_in x 1 99 = 0) (hp : p = η0 2 5) : yv_nI η0 x x 1 p 2 η := ⟨e, rfl, (in_11 h).1, by decide, by have := (in_11 h).2; omega, by rw [hp]; rfl⟩
theorem vnI_e {η0 η : zE} {x0 x b c k : Int} (h : yv_nI η0 x0 x b c k η) (q : x < k) : b = yv_ne x0 η0 ∧ η = η0 := by
  obtain ⟨h1, h2, h3, h4, h5, h6⟩ := h
  refine ⟨?_, h1⟩
  unfold yv_ne
  rw [if_neg (by omega), ← h2, show x - 1 = k - 2 by omega, ← h6]
theorem vnI_s {η0 η : zE} {x0 x b c k b' c' k' : Int} (h : yv_nI η0 x0 x b c k η) (q : k ≤ x) (e : (b', c') = yv_n1 (η 2 5) (η 2 6) k (b, c)) (ek : k' = zd 0 1 k 1) : yv_nI η0 x0 x b' c' k' η := by
  obtain ⟨h1, h2, h3, h4, h5, h6⟩ := h
  have hx := (in_11 (n := x0) (lo := 1) (hi := 99) (by rw [h3]; decide)).2
  rw [zd_a ⟨by omega, by omega⟩] at ek
  subst ek
  refine ⟨h1, h2, h3, by omega, by omega, ?_⟩
  rw [e, h6, h1, show (k + 1 - 2).toNat = (k - 2).toNat + 1 by omega, yv_nd, show (((k - 2).toNat : Int) + 2) = k by omega]
theorem wnI_0 {η0 η : zE} {x p : Int} (e : η = zup η0 0 2 0) (h : ¬ yq_in x 1 99 = 0) (hp : p = η 4 1) : yw_nI η0 x x 1 p 2 η := ⟨e, rfl, (in_11 h).1, by decide, by have := (in_11 h).2; omega, by rw [hp, e]; rfl⟩
theorem wnI_e {η0 η : zE} {x0 x b c k : Int} (h : yw_nI η0 x0 x b c k η) (q : x < k) : b = yw_ne x0 η0 ∧ η = zup η0 0 2 0 := by
  obtain ⟨h1, h2, h3, h4, h5, h6⟩ := h
  refine ⟨?_, h1⟩
  unfold yw_ne
  rw [if_neg (by omega), ← h2, show x - 1 = k - 2 by omega, ← h6]
theorem wnI_s {η0 η : zE} {x0 x b c k b' c' k' : Int} (h : yw_nI η0 x0 x b c k η) (q : k ≤ x) (e : (b', c') = yw_n1 (η 4 1) (η 4 3) k (b, c)) (ek : k' = zd 0 1 k 1) : yw_nI η0 x0 x b' c' k' η := by
  obtain ⟨h1, h2, h3, h4, h5, h6⟩ := h
  have hx := (in_11 (n := x0) (lo := 1) (hi := 99) (by rw [h3]; decide)).2
  rw [zd_a ⟨by omega, by omega⟩] at ek
  subst ek
  refine ⟨h1, h2, h3, by omega, by omega, ?_⟩
  have e1 : η 4 1 = η0 4 1 := by rw [h1]; exact zup_ne (fun e _ => absurd e (by decide))
  have e3 : η 4 3 = η0 4 3 := by rw [h1]; exact zup_ne (fun e _ => absurd e (by decide))
  rw [e, h6, e1, e3, show (k + 1 - 2).toNat = (k - 2).toNat + 1 by omega, yw_nd, show (((k - 2).toNat : Int) + 2) = k by omega]
/-- the same cost -/
theorem nc_2 (k : Nat) : (((k : Int) + 2) * ((k : Int) + 1)) % 2 = 0 := by
  rcases Int.emod_two_eq k with h | h
  · rw [Int.mul_emod, show ((k : Int) + 2) % 2 = 0 by omega, Int.zero_mul]; rfl
  · rw [Int.mul_emod, show ((k : Int) + 1) % 2 = 0 by omega, Int.mul_zero]; rfl
theorem nc_e {p t : Int} {i : Nat} (hp : 0 ≤ p ∧ p ≤ 99) (ht : 0 ≤ t ∧ t ≤ 9) (hi : i ≤ 97) : yv_nc p t ((i : Int) + 2) = yw_nc p t ((i : Int) + 2) ∧ 0 ≤ yw_nc p t ((i : Int) + 2) ∧ yw_nc p t ((i : Int) + 2) ≤ 99 + 9 * 4851 := by
  have k1 : (0 : Int) ≤ (i : Int) + 2 ∧ (i : Int) + 2 ≤ 99 := ⟨by omega, by omega⟩
  have s1 : zd 0 2 ((i : Int) + 2) 1 = (i : Int) + 1 := by rw [zd_s ⟨by omega, by omega⟩]; omega
  have m0 : ((i : Int) + 2) * ((i : Int) + 1) ≤ 99 * 98 := Int.mul_le_mul (by omega) (by omega) (by omega) (by omega)
  have m1 : 0 ≤ ((i : Int) + 2) * ((i : Int) + 1) := Int.mul_nonneg (by omega) (by omega)
  have e1 : zd 0 3 ((i : Int) + 2) ((i : Int) + 1) = ((i : Int) + 2) * ((i : Int) + 1) := zd_m ⟨by omega, by omega⟩
  have m2 := nc_2 i
  have m3 : t * ((i : Int) + 2) ≤ 9 * 99 := Int.mul_le_mul (by omega) (by omega) (by omega) (by omega)
  have m4 : 0 ≤ t * ((i : Int) + 2) := Int.mul_nonneg (by omega) (by omega)
  have e2 : zd 0 3 t ((i : Int) + 2) = t * ((i : Int) + 2) := zd_m ⟨by omega, by omega⟩
  have m5 : t * ((i : Int) + 2) * ((i : Int) + 1) ≤ (9 * 99) * 98 := Int.mul_le_mul m3 (by omega) (by omega) (by omega)
  have m6 : 0 ≤ t * ((i : Int) + 2) * ((i : Int) + 1) := Int.mul_nonneg m4 (by omega)
  have e3 : zd 0 3 (t * ((i : Int) + 2)) ((i : Int) + 1) = t * ((i : Int) + 2) * ((i : Int) + 1) := zd_m ⟨by omega, by omega⟩
  obtain ⟨h, hh⟩ : ∃ h, ((i : Int) + 2) * ((i : Int) + 1) = 2 * h := ⟨((i : Int) + 2) * ((i : Int) + 1) / 2, by omega⟩
  have d1 : zd 0 9 (2 * h) 2 = h := by
    rw [zd_d (by omega) (by omega) (by omega) (by omega)]
    omega
  have a1 : t * ((i : Int) + 2) * ((i : Int) + 1) = 2 * (t * h) := by rw [Int.mul_assoc, hh, Int.mul_left_comm]
  have b0 : 0 ≤ h ∧ h ≤ 4851 := by omega
  have b1 : t * h ≤ 9 * 4851 := Int.mul_le_mul (by omega) b0.2 b0.1 (by omega)
  have b2 : 0 ≤ t * h := Int.mul_nonneg (by omega) b0.1
  have d2 : zd 0 9 (2 * (t * h)) 2 = t * h := by
    rw [zd_d (by omega) (by omega) (by omega) (by omega)]
    omega
  have c1 : yv_nc p t ((i : Int) + 2) = p + t * h := by
    unfold yv_nc
    rw [s1, e1, hh, d1, zd_m ⟨by omega, by omega⟩, zd_a ⟨by omega, by omega⟩]
  have c2 : yw_nc p t ((i : Int) + 2) = p + t * h := by
    unfold yw_nc
    rw [s1, e2, e3, a1, d2, zd_a ⟨by omega, by omega⟩]
  rw [c1, c2]
  exact ⟨rfl, by omega, by omega⟩
theorem nd_e {p t : Int} (hp : 0 ≤ p ∧ p ≤ 99) (ht : 0 ≤ t ∧ t ≤ 9) : ∀ i : Nat, i ≤ 98 → yv_nd p t i = yw_nd p t i
  | 0, _ => rfl
  | i + 1, h => by
    rw [yv_nd, yw_nd, nd_e hp ht i (by omega)]
    unfold yv_n1 yw_n1
    rw [(nc_e hp ht (i := i) (by omega)).1]
    by_cases q : zd 0 3 (yw_nd p t i).2 ((i : Int) + 2) ≤ zd 0 3 (yw_nc p t ((i : Int) + 2)) (yw_nd p t i).1
    · rw [if_pos q, if_neg (by omega)]
    · rw [if_neg q, if_pos (by omega)]
/-! the bits -/
def yv_sm (w : Nat → Int) (a : Nat) : Nat → Int
  | 0 => 0
  | n + 1 => zd 0 1 (yv_sm w a n) (w (a + n))
def yv_b1 (w : Nat → Int) (k : Nat) : Nat → Int × Int
  | 0 => (-2, 0)
  | i + 1 => if (yv_b1 w k i).1 < 0 ∨ (yv_b1 w k i).2 < yv_sm w i k then ((i : Int), yv_sm w i k) else yv_b1 w k i
def yw_b1 (w : Nat → Int) (k : Nat) : Nat → Int × Int
  | 0 => (-2, -1)
  | i + 1 => if (yw_b1 w k i).2 < yv_sm w i k then ((i : Int), yv_sm w i k) else yw_b1 w k i
def yv_bb (k : Int) (s : zE) : Int := if yq_in k 1 12 = 0 then -1 else (yv_b1 (s 4) k.toNat (s 2 1 - k + 1).toNat).1
def yw_bb (k : Int) (s : zE) : Int := if yq_in k 1 12 = 0 then -1 else (yw_b1 (s 6) k.toNat (s 0 12 - k + 1).toNat).1
def yv_bI (η0 : zE) (x0 k b m f : Int) (η : zE) : Prop := η = η0 ∧ k = x0 ∧ yq_in x0 1 12 = 1 ∧ 0 ≤ f ∧ f.toNat ≤ (η0 2 1 - k + 1).toNat ∧ (b, m) = yv_b1 (η0 4) k.toNat f.toNat
def yv_bJ (η0 : zE) (x0 k b m f s g : Int) (η : zE) : Prop := yv_bI η0 x0 k b m f η ∧ f + k ≤ η0 2 1 ∧ f ≤ g ∧ g ≤ f + k ∧ s = yv_sm (η0 4) f.toNat (g - f).toNat
def yw_bI (η0 : zE) (x0 k b m f : Int) (η : zE) : Prop := η = zup η0 0 2 0 ∧ k = x0 ∧ yq_in x0 1 12 = 1 ∧ 0 ≤ f ∧ f.toNat ≤ (η0 0 12 - k + 1).toNat ∧ (b, m) = yw_b1 (η0 6) k.toNat f.toNat
def yw_bJ (η0 : zE) (x0 k b m f s i : Int) (η : zE) : Prop := yw_bI η0 x0 k b m f η ∧ f + k ≤ η0 0 12 ∧ 0 ≤ i ∧ i ≤ k ∧ s = yv_sm (η0 6) f.toNat i.toNat
theorem vbI_0 {η0 η : zE} {x : Int} (e : η = η0) (h : ¬ yq_in x 1 12 = 0) : yv_bI η0 x x (-2) 0 0 η := ⟨e, rfl, (in_11 h).1, by decide, Nat.zero_le _, rfl⟩
theorem wbI_0 {η0 η : zE} {x : Int} (e : η = zup η0 0 2 0) (h : ¬ yq_in x 1 12 = 0) : yw_bI η0 x x (-2) (-1) 0 η := ⟨e, rfl, (in_11 h).1, by decide, Nat.zero_le _, rfl⟩
theorem bk_1 {x : Int} (h : yq_in x 1 12 = 1) : 1 ≤ x ∧ x ≤ 12 := (in_11 (by rw [h]; decide)).2
theorem vbI_e {η0 η : zE} {x0 k b m f z : Int} (h : yv_bI η0 x0 k b m f η) (hf : f ≤ 1000) (e : z = zd 0 1 f k) (q : η 2 1 < z) : b = yv_bb x0 η0 ∧ η = η0 := by
  obtain ⟨h1, h2, h3, h4, h5, h6⟩ := h
  have b := bk_1 h3
  refine ⟨?_, h1⟩
  unfold yv_bb
  rw [zd_a ⟨by omega, by omega⟩] at e
  rw [h1] at q
  rw [if_neg (by omega), ← h2, show (η0 2 1 - k + 1).toNat = f.toNat by omega, ← h6]
theorem wbI_e {η0 η : zE} {x0 k b m f z : Int} (h : yw_bI η0 x0 k b m f η) (hf : f ≤ 1000) (e : z = zd 0 1 f k) (q : η 0 12 < z) : b = yw_bb x0 η0 ∧ η = zup η0 0 2 0 := by
  obtain ⟨h1, h2, h3, h4, h5, h6⟩ := h
  have b := bk_1 h3
  refine ⟨?_, h1⟩
  unfold yw_bb
  rw [zd_a ⟨by omega, by omega⟩] at e
  rw [h1, zup_ne (fun _ e => absurd e (by decide))] at q
  rw [if_neg (by omega), ← h2, show (η0 0 12 - k + 1).toNat = f.toNat by omega, ← h6]
theorem vbJ_0 {η0 η : zE} {x0 k b m f z : Int} (h : yv_bI η0 x0 k b m f η) (hf : f ≤ 1000) (e : z = zd 0 1 f k) (q : z ≤ η 2 1) : yv_bJ η0 x0 k b m f 0 f η := by
  have b := bk_1 h.2.2.1
  rw [zd_a ⟨by have := h.2.2.2.1; have := h.2.1; omega, by have := h.2.1; omega⟩] at e
  have h1 := h.1
  have h2 := h.2.1
  rw [h1] at q
  exact ⟨h, by omega, Int.le_refl _, by omega, by rw [Int.sub_self]; rfl⟩
theorem wbJ_0 {η0 η : zE} {x0 k b m f z : Int} (h : yw_bI η0 x0 k b m f η) (hf : f ≤ 1000) (e : z = zd 0 1 f k) (q : z ≤ η 0 12) : yw_bJ η0 x0 k b m f 0 0 η := by
  have b := bk_1 h.2.2.1
  have h2 := h.2.1
  rw [zd_a ⟨by have := h.2.2.2.1; omega, by omega⟩] at e
  have h1 := h.1
  rw [h1, zup_ne (fun _ e => absurd e (by decide))] at q
  exact ⟨h, by omega, Int.le_refl _, by omega, rfl⟩
theorem vbJ_s {η0 η : zE} {x0 k b m f s g z w s' g' : Int} (h : yv_bJ η0 x0 k b m f s g η) (hf : f ≤ 1000) (e : z = zd 0 1 f k) (q : g < z) (ew : w = η 4 g.toNat) (es : s' = zd 0 1 s w) (eg : g' = zd 0 1 g 1) : yv_bJ η0 x0 k b m f s' g' η := by
  obtain ⟨h, j1, j2, j3, j4⟩ := h
  have b := bk_1 h.2.2.1
  have h2 := h.2.1
  have f0 := h.2.2.2.1
  rw [zd_a ⟨by omega, by omega⟩] at e
  rw [zd_a ⟨by omega, by omega⟩] at eg
  refine ⟨h, j1, by omega, by omega, ?_⟩
  rw [es, ew, h.1, j4, show (g' - f).toNat = (g - f).toNat + 1 by omega, yv_sm, show f.toNat + (g - f).toNat = g.toNat by omega]
theorem wbJ_s {η0 η : zE} {x0 k b m f s i z w s' i' : Int} (h : yw_bJ η0 x0 k b m f s i η) (hf : f ≤ 1000) (q : i < k) (e : z = zd 0 1 f i) (ew : w = η 6 z.toNat) (es : s' = zd 0 1 s w) (eg : i' = zd 0 1 i 1) : yw_bJ η0 x0 k b m f s' i' η := by
  obtain ⟨h, j1, j2, j3, j4⟩ := h
  have b := bk_1 h.2.2.1
  have h2 := h.2.1
  have f0 := h.2.2.2.1
  rw [zd_a ⟨by omega, by omega⟩] at e
  rw [zd_a ⟨by omega, by omega⟩] at eg
  refine ⟨h, j1, by omega, by omega, ?_⟩
  have e6 : η 6 z.toNat = η0 6 z.toNat := by rw [h.1]; exact zup_ne (fun e _ => absurd e (by decide))
  rw [es, ew, e6, j4, show i'.toNat = i.toNat + 1 by omega, yv_sm, show f.toNat + i.toNat = z.toNat by omega]
theorem vbJ_e {η0 η : zE} {x0 k b m f s g z b' m' f' : Int} (h : yv_bJ η0 x0 k b m f s g η) (hf : f ≤ 1000) (e : z = zd 0 1 f k) (q : z ≤ g) (ef : f' = zd 0 1 f 1) (r : (b', m') = if b < 0 ∨ m < s then (f, s) else (b, m)) : yv_bI η0 x0 k b' m' f' η := by
  obtain ⟨⟨h1, h2, h3, h4, h5, h6⟩, j1, j2, j3, j4⟩ := h
  have bb := bk_1 h3
  rw [zd_a ⟨by omega, by omega⟩] at e
  rw [zd_a ⟨by omega, by omega⟩] at ef
  refine ⟨h1, h2, h3, by omega, by omega, ?_⟩
  have e1 : b = (yv_b1 (η0 4) k.toNat f.toNat).1 := congrArg Prod.fst h6
  have e2 : m = (yv_b1 (η0 4) k.toNat f.toNat).2 := congrArg Prod.snd h6
  rw [r, show f'.toNat = f.toNat + 1 by omega, yv_b1, ← e1, ← e2, ← h6, j4, show (g - f).toNat = k.toNat by omega, show ((f.toNat : Nat) : Int) = f by omega]
theorem wbJ_e {η0 η : zE} {x0 k b m f s i b' m' f' : Int} (h : yw_bJ η0 x0 k b m f s i η) (hf : f ≤ 1000) (q : k ≤ i) (ef : f' = zd 0 1 f 1) (r : (b', m') = if m < s then (f, s) else (b, m)) : yw_bI η0 x0 k b' m' f' η := by
  obtain ⟨⟨h1, h2, h3, h4, h5, h6⟩, j1, j2, j3, j4⟩ := h
  have bb := bk_1 h3
  rw [zd_a ⟨by omega, by omega⟩] at ef
  refine ⟨h1, h2, h3, by omega, by omega, ?_⟩
  have e2 : m = (yw_b1 (η0 6) k.toNat f.toNat).2 := congrArg Prod.snd h6
  rw [r, show f'.toNat = f.toNat + 1 by omega, yw_b1, ← e2, ← h6, j4, show i.toNat = k.toNat by omega, show ((f.toNat : Nat) : Int) = f by omega]
theorem sm_c {w v : Nat → Int} {a : Nat} : ∀ n : Nat, (∀ j, j < a + n → w j = v j) → yv_sm w a n = yv_sm v a n
  | 0, _ => rfl
  | n + 1, h => by rw [yv_sm, yv_sm, sm_c n (fun j hj => h j (by omega)), h (a + n) (by omega)]
theorem sm_b {w : Nat → Int} {a : Nat} : ∀ n : Nat, n ≤ 12 → (∀ j, j < a + n → 0 ≤ w j ∧ w j ≤ 9) → 0 ≤ yv_sm w a n ∧ yv_sm w a n ≤ 9 * n
  | 0, _, _ => ⟨Int.le_refl 0, Int.le_refl 0⟩
  | n + 1, hn, h => by
    have g := sm_b (w := w) (a := a) n (by omega) (fun j hj => h j (by omega))
    have g2 := h (a + n) (by omega)
    rw [yv_sm, zd_a ⟨by omega, by omega⟩]
    omega
theorem b1_e {w v : Nat → Int} {k N : Nat} (hk : k ≤ 12) (h : ∀ j, j < N + k → w j = v j ∧ 0 ≤ w j ∧ w j ≤ 9) : ∀ i : Nat, i ≤ N + 1 → (yv_b1 w k i).1 = (yw_b1 v k i).1 ∧ (i ≠ 0 → yv_b1 w k i = yw_b1 v k i ∧ 0 ≤ (yw_b1 v k i).1)
  | 0, _ => ⟨rfl, fun q => absurd rfl q⟩
  | i + 1, hi => by
    obtain ⟨a, b⟩ := b1_e hk h i (by omega)
    have s1 : yv_sm w i k = yv_sm v i k := sm_c k (fun j hj => (h j (by omega)).1)
    have s2 := sm_b (w := w) (a := i) k hk (fun j hj => (h j (by omega)).2)
    rw [s1] at s2
    have z : yv_b1 w k (i + 1) = yw_b1 v k (i + 1) ∧ 0 ≤ (yw_b1 v k (i + 1)).1 := by
      rw [yv_b1, yw_b1, s1]
      by_cases i0 : i = 0
      · subst i0
        have e : (yw_b1 v k 0).2 = -1 := rfl
        have e2 : (yv_b1 w k 0).1 = -2 := rfl
        rw [if_pos (Or.inl (by omega)), if_pos (by omega)]
        exact ⟨rfl, Int.le_refl 0⟩
      · obtain ⟨c, d⟩ := b i0
        rw [c]
        by_cases q : (yw_b1 v k i).2 < yv_sm v i k
        · rw [if_pos (Or.inr q), if_pos q]
          exact ⟨rfl, Int.natCast_nonneg i⟩
        · rw [if_neg (by omega), if_neg q]
          exact ⟨rfl, d⟩
    exact ⟨congrArg Prod.fst z.1, fun _ => z⟩
