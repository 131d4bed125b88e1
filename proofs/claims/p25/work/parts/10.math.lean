/-! ===== what the walks speak of: rows of whole numbers, compared ===== -/
/-- the stitches of a hem or the sample (0, 1, 2) are as many as they may be, and 0 to 8 -/
def kWf (M : kM) : Prop := ∀ i : Int, 0 ≤ i ∧ i < 3 → 0 ≤ M i 1 ∧ M i 1 ≤ 40 ∧ ∀ j : Int, 0 ≤ j → j < M i 1 → 0 ≤ M (i + 3) j ∧ M (i + 3) j ≤ 8
/-- m stitches are the same from a on and from b on -/
def kEq (x : Int → Int) (a : Int) (y : Int → Int) (b m : Int) : Prop := ∀ t : Int, 0 ≤ t → t < m → x (a + t) = y (b + t)
/-- the ends at a and at b have k stitches in common -/
def kLC (x : Int → Int) (nx a : Int) (y : Int → Int) (ny b k : Int) : Prop := 0 ≤ k ∧ a + k ≤ nx ∧ b + k ≤ ny ∧ kEq x a y b k ∧ (a + k = nx ∨ b + k = ny ∨ x (a + k) ≠ y (b + k))
/-- with k in common, the end at a is less -/
def kLt (x : Int → Int) (nx a : Int) (y : Int → Int) (ny b k : Int) : Prop := (a + k = nx ∧ b + k < ny) ∨ (a + k < nx ∧ b + k < ny ∧ x (a + k) < y (b + k))
/-- z is the greatest of S, 0 if there is nothing greater -/
def kMx (S : Int → Prop) (z : Int) : Prop := 0 ≤ z ∧ (z = 0 ∨ S z) ∧ ∀ v, S v → v ≤ z
noncomputable def kIf (P : Prop) (a b : Int) : Int := @ite Int P (Classical.propDecidable P) a b
theorem kIf_t {P : Prop} {a b : Int} (h : P) : kIf P a b = a := if_pos h
theorem kIf_f {P : Prop} {a b : Int} (h : ¬ P) : kIf P a b = b := if_neg h
/-- for how many numbers of 0 to n - 1 it holds -/
noncomputable def kCnt (P : Int → Prop) : Nat → Int
  | 0 => 0
  | n + 1 => kCnt P n + kIf (P (n : Int)) 1 0
def kSum (f : Int → Int) : Nat → Int
  | 0 => 0
  | n + 1 => kSum f n + f (n : Int)
theorem kCnt_step (P : Int → Prop) {k : Int} (h : 0 ≤ k) : kCnt P (k + 1).toNat = kCnt P k.toNat + kIf (P k) 1 0 := by
  have e : (k + 1).toNat = k.toNat + 1 := by omega
  rw [e, kCnt, show ((k.toNat : Nat) : Int) = k by omega]
theorem kCnt_t (P : Int → Prop) {k : Int} (h : 0 ≤ k) (q : P k) : kCnt P (k + 1).toNat = kCnt P k.toNat + 1 := by rw [kCnt_step P h, kIf_t q]
theorem kCnt_f (P : Int → Prop) {k : Int} (h : 0 ≤ k) (q : ¬ P k) : kCnt P (k + 1).toNat = kCnt P k.toNat := by rw [kCnt_step P h, kIf_f q]; omega
theorem kCnt_rng (P : Int → Prop) : ∀ n : Nat, 0 ≤ kCnt P n ∧ kCnt P n ≤ (n : Int)
  | 0 => ⟨Int.le_refl _, Int.le_refl _⟩
  | n + 1 => by
    have ih := kCnt_rng P n
    rw [kCnt]
    by_cases h : P (n : Int)
    · rw [kIf_t h]; omega
    · rw [kIf_f h]; omega
theorem kCnt_tail (P : Int → Prop) (m : Nat) : ∀ n : Nat, m ≤ n → (∀ k : Int, (m : Int) ≤ k → k < (n : Int) → ¬ P k) → kCnt P n = kCnt P m
  | 0, h, _ => by rw [show m = 0 by omega]
  | n + 1, h, hf => by
    by_cases e : m = n + 1
    · rw [e]
    · rw [kCnt, kIf_f (hf (n : Int) (by omega) (by omega)), kCnt_tail P m n (by omega) (fun k h1 h2 => hf k h1 (by omega))]
      omega
theorem kSum_step (f : Int → Int) {k : Int} (h : 0 ≤ k) : kSum f (k + 1).toNat = kSum f k.toNat + f k := by
  have e : (k + 1).toNat = k.toNat + 1 := by omega
  rw [e, kSum, show ((k.toNat : Nat) : Int) = k by omega]
theorem kCnt_0 (P : Int → Prop) : kCnt P (0 : Int).toNat = 0 := rfl
theorem kSum_0 (f : Int → Int) : kSum f (0 : Int).toNat = 0 := rfl
theorem kMx_one {S : Int → Prop} {z w : Int} (h : kMx S z) (h2 : kMx S w) : z = w := by
  obtain ⟨a1, a2, a3⟩ := h
  obtain ⟨b1, b2, b3⟩ := h2
  have h1 : z ≤ w := by
    rcases a2 with q | q
    · omega
    · exact b3 z q
  have h2 : w ≤ z := by
    rcases b2 with q | q
    · omega
    · exact a3 w q
  omega
theorem kLC_one {x y : Int → Int} {nx a ny b k w : Int} (h : kLC x nx a y ny b k) (h2 : kLC x nx a y ny b w) : k = w := by
  obtain ⟨a1, a2, a3, a4, a5⟩ := h
  obtain ⟨b1, b2, b3, b4, b5⟩ := h2
  rcases Int.lt_or_le k w with q | q
  · have := b4 k a1 q
    omega
  · rcases Int.lt_or_le w k with q2 | q2
    · have := a4 w b1 q2
      omega
    · omega
/-- lengths in common, told by a function -/
def kcp (x y : Int → Int) : Nat → Int → Int → Int
  | 0, _, _ => 0
  | n + 1, a, b => if x a = y b then kcp x y n (a + 1) (b + 1) + 1 else 0
def kL (x : Int → Int) (nx a : Int) (y : Int → Int) (ny b : Int) : Int := kcp x y (min (nx - a) (ny - b)).toNat a b
theorem kcp_spec (x y : Int → Int) : ∀ (n : Nat) (a b : Int), 0 ≤ kcp x y n a b ∧ kcp x y n a b ≤ (n : Int) ∧ kEq x a y b (kcp x y n a b) ∧ (kcp x y n a b = (n : Int) ∨ x (a + kcp x y n a b) ≠ y (b + kcp x y n a b))
  | 0, a, b => ⟨Int.le_refl _, Int.le_refl _, fun t h1 h2 => absurd h2 (by simp [kcp]; omega), Or.inl rfl⟩
  | n + 1, a, b => by
    by_cases h : x a = y b
    · obtain ⟨h1, h2, h3, h4⟩ := kcp_spec x y n (a + 1) (b + 1)
      have e : kcp x y (n + 1) a b = kcp x y n (a + 1) (b + 1) + 1 := by rw [kcp, if_pos h]
      rw [e]
      generalize kcp x y n (a + 1) (b + 1) = k at h1 h2 h3 h4 ⊢
      refine ⟨by omega, by omega, fun t t1 t2 => ?_, ?_⟩
      · by_cases e0 : t = 0
        · rw [e0, Int.add_zero, Int.add_zero]; exact h
        · have := h3 (t - 1) (by omega) (by omega)
          rw [show a + 1 + (t - 1) = a + t by omega, show b + 1 + (t - 1) = b + t by omega] at this
          exact this
      · rcases h4 with h4 | h4
        · exact Or.inl (by omega)
        · refine Or.inr ?_
          rw [show a + (k + 1) = a + 1 + k by omega, show b + (k + 1) = b + 1 + k by omega]
          exact h4
    · have e : kcp x y (n + 1) a b = 0 := by rw [kcp, if_neg h]
      rw [e]
      exact ⟨Int.le_refl _, by omega, fun t t1 t2 => absurd t2 (by omega), Or.inr (by rw [Int.add_zero, Int.add_zero]; exact h)⟩
theorem kL_spec {x y : Int → Int} {nx a ny b : Int} (ha : a ≤ nx) (hb : b ≤ ny) : kLC x nx a y ny b (kL x nx a y ny b) := by
  obtain ⟨h1, h2, h3, h4⟩ := kcp_spec x y (min (nx - a) (ny - b)).toNat a b
  unfold kL
  generalize kcp x y (min (nx - a) (ny - b)).toNat a b = k at h1 h2 h3 h4 ⊢
  refine ⟨h1, by omega, by omega, h3, ?_⟩
  rcases h4 with h4 | h4
  · omega
  · exact Or.inr (Or.inr h4)
theorem kL_of {x y : Int → Int} {nx a ny b k : Int} (h : kLC x nx a y ny b k) : k = kL x nx a y ny b := by
  have h2 := h
  obtain ⟨h1, h3, h4, -⟩ := h2
  exact kLC_one h (kL_spec (by omega) (by omega))
/-- a comparison as promise 12 wants it: less than 0, 0, more than 0 -/
def kD (x : Int → Int) (nx a : Int) (y : Int → Int) (ny b z : Int) : Prop := ∃ k : Int, kLC x nx a y ny b k ∧ ((a + k = nx ∧ b + k = ny ∧ z = 0) ∨ (kLt x nx a y ny b k ∧ z = -(k + 1)) ∨ (kLt y ny b x nx a k ∧ z = k + 1))
/-- where m stitches of y from b on stand first in x; -1 if nowhere -/
def kFst (x : Int → Int) (nx : Int) (y : Int → Int) (b m z : Int) : Prop := (z = -1 ∧ ∀ a : Int, 0 ≤ a → a + m ≤ nx → ¬ kEq x a y b m) ∨ (0 ≤ z ∧ z + m ≤ nx ∧ kEq x z y b m ∧ ∀ a : Int, 0 ≤ a → a < z → ¬ kEq x a y b m)
def kAtP (x : Int → Int) (nx : Int) (y : Int → Int) (b m : Int) : Int → Prop := fun a => a + m ≤ nx ∧ kEq x a y b m
def kPer (x : Int → Int) (n p : Int) : Prop := kEq x 0 x p (n - p)
def kRot (x : Int → Int) (n a t : Int) : Int := if a + t < n then x (a + t) else x (a + t - n)
def kRL (x : Int → Int) (n a b : Int) : Prop := ∃ t : Int, 0 ≤ t ∧ t < n ∧ kRot x n a t < kRot x n b t ∧ ∀ u : Int, 0 ≤ u → u < t → kRot x n a u = kRot x n b u
noncomputable def kBst (x : Int → Int) (n : Int) : Nat → Int
  | 0 => 0
  | k + 1 => kIf (kRL x n ((k : Int) + 1) (kBst x n k)) ((k : Int) + 1) (kBst x n k)
/-- s stitches ahead of p are the same as the last s -/
def kBk (x : Int → Int) (n p s : Int) : Prop := 0 ≤ s ∧ s ≤ p ∧ (∀ t : Int, 0 ≤ t → t < s → x (p - 1 - t) = x (n - 1 - t)) ∧ (s = p ∨ x (p - 1 - s) ≠ x (n - 1 - s))
def kNewS (x : Int → Int) (n st : Int) : Int → Prop := fun v => ∃ e s : Int, 0 ≤ e ∧ e < n ∧ x e = st ∧ kBk x n e s ∧ v = 1 + s
theorem kBk_one {x : Int → Int} {n p s w : Int} (h : kBk x n p s) (h2 : kBk x n p w) : s = w := by
  obtain ⟨a1, a2, a3, a4⟩ := h
  obtain ⟨b1, b2, b3, b4⟩ := h2
  rcases Int.lt_or_le s w with q | q
  · have := b3 s a1 q
    omega
  · rcases Int.lt_or_le w s with q2 | q2
    · have := a3 w b1 q2
      omega
    · omega
theorem kEq_0 (x : Int → Int) (a : Int) (y : Int → Int) (b : Int) : kEq x a y b 0 := fun t h1 h2 => absurd h2 (by omega)
theorem kEq_succ {x : Int → Int} {a : Int} {y : Int → Int} {b m : Int} (h : kEq x a y b m) (q : x (a + m) = y (b + m)) : kEq x a y b (m + 1) := fun t h1 h2 => by
  by_cases e : t = m
  · rw [e]; exact q
  · exact h t h1 (by omega)
def kCom (x : Int → Int) (nx a : Int) (y : Int → Int) (ny : Int) : Int → Prop := fun v => ∃ b : Int, 0 ≤ b ∧ b < ny ∧ kLC x nx a y ny b v
theorem kLC_iff {x y : Int → Int} {nx a ny b k m : Int} (h : kLC x nx a y ny b k) (ha : a + m ≤ nx) (hb : b + m ≤ ny) : m ≤ k ↔ kEq x a y b m := by
  obtain ⟨h1, h2, h3, h4, h5⟩ := h
  refine ⟨fun q t t1 t2 => h4 t t1 (by omega), fun q => ?_⟩
  rcases Int.lt_or_le k m with g | g
  · have := q k h1 g
    omega
  · exact g
theorem kRL_no {x : Int → Int} {n a b t : Int} (ht : 0 ≤ t) (h : ∀ u : Int, 0 ≤ u → u < t → kRot x n a u = kRot x n b u) (h2 : kRot x n b t < kRot x n a t) : ¬ kRL x n a b := by
  rintro ⟨u, g1, g2, g3, g4⟩
  rcases Int.lt_or_le u t with g | g
  · have := h u g1 g
    omega
  · by_cases e : u = t
    · subst e; omega
    · have := g4 t ht (by omega)
      omega
theorem kBst_step {x : Int → Int} {n p : Int} (hp : 1 ≤ p) : kBst x n p.toNat = kIf (kRL x n p (kBst x n (p - 1).toNat)) p (kBst x n (p - 1).toNat) := by
  obtain ⟨k, hk⟩ : ∃ k : Nat, p = (k : Int) + 1 := ⟨(p - 1).toNat, by omega⟩
  subst hk
  rw [show ((k : Int) + 1).toNat = k + 1 by omega, show ((k : Int) + 1 - 1).toNat = k by omega, kBst]
