/-! ===== what the calls answer, by relations that leave one answer ===== -/
def kIsCount (x : Int → Int) (nx : Int) (y : Int → Int) (ny m w z : Int) : Prop := (w = 0 ∧ z = nx) ∨ (w = 1 ∧ z = ny) ∨ (w = 2 ∧ z = m) ∨ (w = 3 ∧ z = kSum (kDr x nx) nx.toNat) ∨ (w = 4 ∧ z = kSum (kDr y ny) ny.toNat) ∨ (w = 5 ∧ kIsSeam x nx y ny 0 z)
def kIsEnd (x : Int → Int) (n r z : Int) : Prop := 0 ≤ z ∧ z < n ∧ kRk x n z = r
def kIsRow (x : Int → Int) (n num z : Int) : Prop := ∃ (P : Int → Int) (r lf w : Int), kOrd x n P ∧ 0 ≤ r ∧ r < n ∧ lf = num - kSum (kRw x n P) r.toNat ∧ 0 ≤ lf ∧ lf < kRw x n P r ∧ kFst x n x (P r) (kNx x n P (r - 1) + lf + 1) w ∧ z = 64 * w + (kNx x n P (r - 1) + lf + 1)
def kIsFirst (x : Int → Int) (n : Int) (y : Int → Int) (m z : Int) : Prop := (z = -1 ∧ ∀ a : Int, 0 ≤ a → a < n → ¬ kSmp x n y m a) ∨ (0 ≤ z ∧ z < n ∧ kSmp x n y m z ∧ ∀ a : Int, 0 ≤ a → a < z → ¬ kSmp x n y m a)
def kIsTurn (x : Int → Int) (n z : Int) : Prop := (n = 0 ∧ z = -1) ∨ (0 < n ∧ z = kBst x n (n - 1).toNat)
def kIsNew (x : Int → Int) (n st z : Int) : Prop := ∃ k : Int, kMx (kNewS x n st) k ∧ z = n + 1 - k
def kArg (f : Int → Int) : Nat → Int
  | 0 => 0
  | k + 1 => if f ((k : Int) + 1) < f (kArg f k) then (k : Int) + 1 else kArg f k
def kIsAdv (x : Int → Int) (n z : Int) : Prop := ∃ f : Int → Int, (∀ s : Int, 0 ≤ s → s ≤ 8 → kIsNew x n s (f s)) ∧ z = kArg f 8
noncomputable def kTot (x : Int → Int) (n : Int) : Int := kSum (kDr x n) n.toNat
theorem kD_one {x : Int → Int} {nx a : Int} {y : Int → Int} {ny b z w : Int} (h : kD x nx a y ny b z) (h2 : kD x nx a y ny b w) : z = w := by
  obtain ⟨k, a1, a2⟩ := h
  obtain ⟨k', b1, b2⟩ := h2
  have e := kLC_one a1 b1
  subst e
  unfold kLt at a2 b2
  omega
theorem kFst_one {x : Int → Int} {nx : Int} {y : Int → Int} {b m z w : Int} (hm : 0 ≤ m) (h : kFst x nx y b m z) (h2 : kFst x nx y b m w) : z = w := by
  rcases h with ⟨a1, a2⟩ | ⟨a1, a2, a3, a4⟩ <;> rcases h2 with ⟨b1, b2⟩ | ⟨b1, b2, b3, b4⟩
  · omega
  · exact absurd b3 (a2 w b1 b2)
  · exact absurd a3 (b2 z a1 a2)
  · rcases Int.lt_or_le z w with g | g
    · exact absurd a3 (b4 z a1 g)
    · rcases Int.lt_or_le w z with g2 | g2
      · exact absurd b3 (a4 w b1 g2)
      · omega
theorem kIsEnd_one {x : Int → Int} {n r z w : Int} (h : kIsEnd x n r z) (h2 : kIsEnd x n r w) : z = w :=
  kRk_inj ⟨h.1, h.2.1⟩ ⟨h2.1, h2.2.1⟩ (h.2.2.trans h2.2.2.symm)
theorem kIsRep_one {x : Int → Int} {n w z z' : Int} (h : kIsRep x n w z) (h2 : kIsRep x n w z') : z = z' := by
  obtain ⟨b, k, a1, a2⟩ := h
  obtain ⟨b', k', b1, b2⟩ := h2
  obtain ⟨rfl, rfl⟩ := kTop_one (Int.le_refl _) a1 b1
  omega
theorem kIsSeam_one {x : Int → Int} {nx : Int} {y : Int → Int} {ny w z z' : Int} (h : kIsSeam x nx y ny w z) (h2 : kIsSeam x nx y ny w z') : z = z' := by
  obtain ⟨b, k, a1, a2⟩ := h
  obtain ⟨b', k', b1, b2⟩ := h2
  obtain ⟨rfl, rfl⟩ := kTop_one (Int.le_refl _) a1 b1
  rcases a2 with a2 | a2 | ⟨a2, a3, a4⟩
  · omega
  · omega
  · rcases b2 with b2 | b2 | ⟨b2, b3, b4⟩
    · omega
    · omega
    · rcases a4 with a4 | ⟨a4, a5, a6, a7, a8⟩
      · omega
      · rcases b4 with b4 | ⟨b4, b5, b6, b7, b8⟩
        · omega
        · rcases Int.lt_or_le z z' with g | g
          · have := b8 z a5 g; omega
          · rcases Int.lt_or_le z' z with g2 | g2
            · have := a8 z' b5 g2; omega
            · omega
theorem kIsCount_one {x : Int → Int} {nx : Int} {y : Int → Int} {ny m w z z' : Int} (h : kIsCount x nx y ny m w z) (h2 : kIsCount x nx y ny m w z') : z = z' := by
  unfold kIsCount at h h2
  rcases h with h | h | h | h | h | ⟨h, g⟩ <;> rcases h2 with h2 | h2 | h2 | h2 | h2 | ⟨h2, g2⟩ <;> first | omega | exact kIsSeam_one g g2
theorem kNx_congr {x : Int → Int} {n : Int} {P P' : Int → Int} (h : kOrd x n P) (h' : kOrd x n P') (r : Int) : kNx x n P r = kNx x n P' r := by
  by_cases g : 0 ≤ r ∧ r + 1 < n
  · rw [kNx_in g, kNx_in g, kOrd_one h h' (r := r) (by omega), kOrd_one h h' (r := r + 1) (by omega)]
  · rw [kNx_out g, kNx_out g]
theorem kRw_congr {x : Int → Int} {n : Int} {P P' : Int → Int} (h : kOrd x n P) (h' : kOrd x n P') {r : Int} (hr : 0 ≤ r ∧ r < n) : kRw x n P r = kRw x n P' r := by
  unfold kRw
  rw [kNx_congr h h', kOrd_one h h' hr]
theorem kSum_mono {f : Int → Int} {n : Int} (h : ∀ k : Int, 0 ≤ k → k < n → 0 ≤ f k) : ∀ (d : Nat) (a b : Int), b - a = (d : Int) → 0 ≤ a → b ≤ n → kSum f a.toNat ≤ kSum f b.toNat
  | 0, a, b, h1, _, _ => by rw [show b = a by omega]; exact Int.le_refl _
  | d + 1, a, b, h1, h2, h3 => by
    have ih := kSum_mono h d a (b - 1) (by omega) h2 (by omega)
    have e := kSum_step f (k := b - 1) (by omega)
    rw [show b - 1 + 1 = b by omega] at e
    have := h (b - 1) (by omega) (by omega)
    omega
theorem kIsRow_one {x : Int → Int} {n num z z' : Int} (h : kIsRow x n num z) (h2 : kIsRow x n num z') : z = z' := by
  obtain ⟨P, r, lf, w, a1, a2, a3, a4, a5, a6, a7, a8⟩ := h
  obtain ⟨P', r', lf', w', b1, b2, b3, b4, b5, b6, b7, b8⟩ := h2
  have es : ∀ q : Int, 0 ≤ q → q ≤ n → kSum (kRw x n P') q.toNat = kSum (kRw x n P) q.toNat := fun q q1 q2 => kSum_congr _ (fun k k1 k2 => kRw_congr b1 a1 (by omega))
  have nn : ∀ k : Int, 0 ≤ k → k < n → 0 ≤ kRw x n P k := fun k k1 k2 => (kRw_rng a1 ⟨k1, k2⟩).1
  rw [es r' b2 (by omega)] at b4
  rw [kRw_congr b1 a1 ⟨b2, b3⟩] at b6
  rw [kNx_congr b1 a1, kOrd_one b1 a1 ⟨b2, b3⟩] at b7
  rw [kNx_congr b1 a1] at b8
  have e : r = r' := by
    rcases Int.lt_or_le r r' with g | g
    · have m1 := kSum_mono nn (r' - (r + 1)).toNat (r + 1) r' (by omega) (by omega) (by omega)
      rw [kSum_step _ a2] at m1
      omega
    · rcases Int.lt_or_le r' r with g2 | g2
      · have m1 := kSum_mono nn (r - (r' + 1)).toNat (r' + 1) r (by omega) (by omega) (by omega)
        rw [kSum_step _ b2] at m1
        omega
      · omega
  subst e
  have e2 : lf = lf' := by omega
  subst e2
  have hk := (kNx_rng a1 (r - 1)).1
  have := kFst_one (by omega) a7 b7
  omega
theorem kIsFirst_one {x : Int → Int} {n : Int} {y : Int → Int} {m z z' : Int} (h : kIsFirst x n y m z) (h2 : kIsFirst x n y m z') : z = z' := by
  rcases h with ⟨a1, a2⟩ | ⟨a1, a2, a3, a4⟩ <;> rcases h2 with ⟨b1, b2⟩ | ⟨b1, b2, b3, b4⟩
  · omega
  · exact absurd b3 (a2 z' b1 b2)
  · exact absurd a3 (b2 z a1 a2)
  · rcases Int.lt_or_le z z' with g | g
    · exact absurd a3 (b4 z a1 g)
    · rcases Int.lt_or_le z' z with g2 | g2
      · exact absurd b3 (a4 z' b1 g2)
      · omega
theorem kIsPer_one {x : Int → Int} {n z z' : Int} (h : kIsPer x n z) (h2 : kIsPer x n z') : z = z' := by
  rcases h with ⟨a1, a2⟩ | ⟨a1, a2, a3, a4⟩ <;> rcases h2 with ⟨b1, b2⟩ | ⟨b1, b2, b3, b4⟩
  · omega
  · omega
  · omega
  · rcases Int.lt_or_le z z' with g | g
    · exact absurd a3 (b4 z a1 g)
    · rcases Int.lt_or_le z' z with g2 | g2
      · exact absurd b3 (a4 z' b1 g2)
      · omega
theorem kIsTurn_one {x : Int → Int} {n z z' : Int} (h : kIsTurn x n z) (h2 : kIsTurn x n z') : z = z' := by
  unfold kIsTurn at h h2
  omega
theorem kIsNew_one {x : Int → Int} {n st z z' : Int} (h : kIsNew x n st z) (h2 : kIsNew x n st z') : z = z' := by
  obtain ⟨k, a1, a2⟩ := h
  obtain ⟨k', b1, b2⟩ := h2
  have := kMx_one a1 b1
  omega
theorem kArg_rng (f : Int → Int) : ∀ k : Nat, 0 ≤ kArg f k ∧ kArg f k ≤ (k : Int)
  | 0 => ⟨Int.le_refl _, Int.le_refl _⟩
  | k + 1 => by
    have ih := kArg_rng f k
    rw [kArg]
    split <;> omega
theorem kArg_step (f : Int → Int) {k : Int} (h : 1 ≤ k) : kArg f k.toNat = if f k < f (kArg f (k - 1).toNat) then k else kArg f (k - 1).toNat := by
  obtain ⟨j, hj⟩ : ∃ j : Nat, k = (j : Int) + 1 := ⟨(k - 1).toNat, by omega⟩
  subst hj
  rw [show ((j : Int) + 1).toNat = j + 1 by omega, show ((j : Int) + 1 - 1).toNat = j by omega, kArg]
theorem kArg_congr {f g : Int → Int} : ∀ k : Nat, (∀ s : Int, 0 ≤ s → s ≤ (k : Int) → f s = g s) → kArg f k = kArg g k
  | 0, _ => rfl
  | k + 1, h => by
    have r := kArg_rng g k
    rw [kArg, kArg, kArg_congr k (fun s s1 s2 => h s s1 (by omega)), h _ (by omega) (by omega), h _ r.1 (by omega)]
theorem kIsAdv_one {x : Int → Int} {n z z' : Int} (h : kIsAdv x n z) (h2 : kIsAdv x n z') : z = z' := by
  obtain ⟨f, a1, a2⟩ := h
  obtain ⟨g, b1, b2⟩ := h2
  rw [a2, b2]
  exact kArg_congr 8 (fun s s1 s2 => kIsNew_one (a1 s s1 (by omega)) (b1 s s1 (by omega)))
/-- the number that a relation leaves -/
noncomputable def kVal (R : Int → Prop) : Int := Classical.epsilon R
theorem kVal_of {R : Int → Prop} {z : Int} (h : R z) (u : ∀ a b : Int, R a → R b → a = b) : z = kVal R := u _ _ h (Classical.epsilon_spec ⟨z, h⟩)
/-- the checksum: d becomes d * 31 + x for each of the next numbers -/
def kMix (d : Int) (f : Int → Int) : Nat → Int
  | 0 => d
  | n + 1 => kMix d f n * 31 + f (n : Int)
theorem kMix_step (d : Int) (f : Int → Int) {k : Int} (h : 0 ≤ k) : kMix d f (k + 1).toNat = kMix d f k.toNat * 31 + f k := by
  have e : (k + 1).toNat = k.toNat + 1 := by omega
  rw [e, kMix, show ((k.toNat : Nat) : Int) = k by omega]
noncomputable def kDigH (d : Int) (x : Int → Int) (n : Int) (y : Int → Int) (m : Int) : Int :=
  ((kMix (kMix (kMix d x n.toNat) (fun r => kVal (kIsEnd x n r)) n.toNat) (fun w => kVal (kIsRep x n w)) 3 * 31 + kVal (kIsPer x n)) * 31 + kVal (kIsTurn x n)) * 31 + kCnt (kSmp x n y m) n.toNat
noncomputable def kDig (x : Int → Int) (nx : Int) (y : Int → Int) (ny : Int) (s : Int → Int) (m : Int) : Int :=
  kMix (kMix (kDigH (kDigH (kMix 1483 (fun w => kVal (kIsCount x nx y ny m w)) 6) x nx s m) y ny s m) s m.toNat) (fun w => kVal (kIsSeam x nx y ny w)) 3
