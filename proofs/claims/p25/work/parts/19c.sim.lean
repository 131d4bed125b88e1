/-! ===== what the law's Sim reckons ===== -/
/-- x is a new row of ints, len long, told by f; all else is as it was -/
def kMade (E : kE) (M : kM) (E1 : kE) (M1 : kM) (x len : Int) (f : Int → Int) : Prop := (x = kn E ∧ kn E1 = kn E + 1) ∧ (∀ k i : Int, k < kn E → M1 k i = M k i) ∧ M1 x (-2) = 0 ∧ M1 x (-1) = len ∧ ∀ j : Int, 0 ≤ j → j < len → M1 x j = f j
theorem kLC_congr {x x' : Int → Int} {nx a : Int} {y y' : Int → Int} {ny b k : Int} (h : kLC x nx a y ny b k) (ha : 0 ≤ a) (hb : 0 ≤ b) (h1 : ∀ j : Int, 0 ≤ j → j < nx → x' j = x j) (h2 : ∀ j : Int, 0 ≤ j → j < ny → y' j = y j) : kLC x' nx a y' ny b k := by
  obtain ⟨a1, a2, a3, a4, a5⟩ := h
  refine ⟨a1, a2, a3, fun t t1 t2 => ?_, ?_⟩
  · rw [h1 _ (by omega) (by omega), h2 _ (by omega) (by omega)]; exact a4 t t1 t2
  · by_cases g : a + k = nx ∨ b + k = ny
    · omega
    · rw [h1 _ (by omega) (by omega), h2 _ (by omega) (by omega)]; exact a5
theorem kPer_lc {x : Int → Int} {n q z : Int} (h : kLC x n q x n 0 z) (hq : 0 ≤ q ∧ q ≤ n) : z = n - q ↔ kPer x n q := by
  have e := kLC_iff (m := n - q) h (by omega) (by omega)
  unfold kPer
  constructor
  · intro g
    exact kEq_symm (e.mp (by omega))
  · intro g
    have := e.mpr (kEq_symm g)
    have := h.2.1
    omega
/-- the sample stands there: as far as it has stitches in common -/
theorem kSmp_lc {x : Int → Int} {n : Int} {s : Int → Int} {m a z : Int} (h : kLC x n a s m 0 z) (hm : 0 < m) : kSmp x n s m a ↔ z = m := by
  obtain ⟨h1, h2, h3, h4, h5⟩ := h
  unfold kSmp
  constructor
  · rintro ⟨g1, g2, g3⟩
    rcases h5 with q | q | q
    · omega
    · omega
    · by_cases e : z = m
      · exact e
      · exact absurd (g3 z h1 (by omega)) q
  · intro g
    subst g
    exact ⟨hm, h2, h4⟩
theorem kCnt_down (P : Int → Prop) {k : Int} (h : 0 ≤ k) : kCnt P (k + 1).toNat = kCnt P k.toNat + kIf (P k) 1 0 := kCnt_step P h
/-! the least of all turns, the first one -/
def kBest (x : Int → Int) (n b : Int) : Prop := (0 ≤ b ∧ b < n) ∧ ∀ a : Int, 0 ≤ a → a < n → ¬ kRL x n a b ∧ (a < b → kRL x n b a)
theorem kRL_irr {x : Int → Int} {n a : Int} : ¬ kRL x n a a := by
  rintro ⟨t, -, -, h, -⟩
  omega
theorem kRL_trans {x : Int → Int} {n a b c : Int} (h : kRL x n a b) (g : kRL x n b c) : kRL x n a c := by
  obtain ⟨t, t1, t2, t3, t4⟩ := h
  obtain ⟨u, u1, u2, u3, u4⟩ := g
  rcases Int.lt_or_le t u with q | q
  · refine ⟨t, t1, t2, ?_, fun w w1 w2 => (t4 w w1 w2).trans (u4 w w1 (by omega))⟩
    have := u4 t t1 q
    omega
  · rcases Int.lt_or_le u t with q2 | q2
    · refine ⟨u, u1, u2, ?_, fun w w1 w2 => (t4 w w1 (by omega)).trans (u4 w w1 w2)⟩
      have := t4 u u1 q2
      omega
    · have e : t = u := by omega
      subst e
      exact ⟨t, t1, t2, by omega, fun w w1 w2 => (t4 w w1 w2).trans (u4 w w1 w2)⟩
/-- the first difference, if there is one -/
theorem kRL_cases (x : Int → Int) (n a b : Int) : kRL x n a b ∨ kRL x n b a ∨ ∀ t : Int, 0 ≤ t → t < n → kRot x n a t = kRot x n b t := by
  have key : ∀ m : Nat, (m : Int) ≤ n → kRL x n a b ∨ kRL x n b a ∨ ∀ t : Int, 0 ≤ t → t < (m : Int) → kRot x n a t = kRot x n b t := by
    intro m
    induction m with
    | zero => intro _; exact Or.inr (Or.inr (fun t t1 t2 => by omega))
    | succ m ih =>
      intro hm
      rcases ih (by omega) with g | g | g
      · exact Or.inl g
      · exact Or.inr (Or.inl g)
      · rcases Int.lt_or_le (kRot x n a (m : Int)) (kRot x n b (m : Int)) with q | q
        · exact Or.inl ⟨(m : Int), by omega, by omega, q, g⟩
        · rcases Int.lt_or_le (kRot x n b (m : Int)) (kRot x n a (m : Int)) with q2 | q2
          · exact Or.inr (Or.inl ⟨(m : Int), by omega, by omega, q2, fun u u1 u2 => (g u u1 u2).symm⟩)
          · refine Or.inr (Or.inr (fun t t1 t2 => ?_))
            by_cases e : t = (m : Int)
            · rw [e]; omega
            · exact g t t1 (by omega)
  rcases Int.lt_or_le n 0 with q | q
  · exact Or.inr (Or.inr (fun t t1 t2 => by omega))
  · have := key n.toNat (by omega)
    rwa [show ((n.toNat : Nat) : Int) = n by omega] at this
/-- two that turn alike stand alike to a third -/
theorem kRL_like {x : Int → Int} {n a b c : Int} (h : ∀ t : Int, 0 ≤ t → t < n → kRot x n a t = kRot x n b t) : (kRL x n a c ↔ kRL x n b c) ∧ (kRL x n c a ↔ kRL x n c b) := by
  refine ⟨⟨?_, ?_⟩, ⟨?_, ?_⟩⟩
  · rintro ⟨t, t1, t2, t3, t4⟩
    exact ⟨t, t1, t2, by rw [← h t t1 t2]; exact t3, fun u u1 u2 => by rw [← h u u1 (by omega)]; exact t4 u u1 u2⟩
  · rintro ⟨t, t1, t2, t3, t4⟩
    exact ⟨t, t1, t2, by rw [h t t1 t2]; exact t3, fun u u1 u2 => by rw [h u u1 (by omega)]; exact t4 u u1 u2⟩
  · rintro ⟨t, t1, t2, t3, t4⟩
    exact ⟨t, t1, t2, by rw [← h t t1 t2]; exact t3, fun u u1 u2 => by rw [← h u u1 (by omega)]; exact t4 u u1 u2⟩
  · rintro ⟨t, t1, t2, t3, t4⟩
    exact ⟨t, t1, t2, by rw [h t t1 t2]; exact t3, fun u u1 u2 => by rw [h u u1 (by omega)]; exact t4 u u1 u2⟩
theorem kBest_one {x : Int → Int} {n b c : Int} (h : kBest x n b) (g : kBest x n c) : b = c := by
  rcases Int.lt_or_le b c with q | q
  · exact absurd ((g.2 b h.1.1 h.1.2).2 q) (h.2 c g.1.1 g.1.2).1
  · rcases Int.lt_or_le c b with q2 | q2
    · exact absurd ((h.2 c g.1.1 g.1.2).2 q2) (g.2 b h.1.1 h.1.2).1
    · omega
/-- what the class finds -/
theorem kBst_best {x : Int → Int} {n : Int} (hn : 0 < n) : kBest x n (kBst x n (n - 1).toNat) := by
  have key : ∀ m : Nat, (m : Int) < n → (0 ≤ kBst x n m ∧ kBst x n m ≤ (m : Int)) ∧ ∀ a : Int, 0 ≤ a → a ≤ (m : Int) → ¬ kRL x n a (kBst x n m) ∧ (a < kBst x n m → kRL x n (kBst x n m) a) := by
    intro m
    induction m with
    | zero =>
      intro _
      refine ⟨⟨Int.le_refl _, Int.le_refl _⟩, fun a a1 a2 => ?_⟩
      have e : a = 0 := by omega
      subst e
      exact ⟨kRL_irr, fun q => absurd q (by show ¬ ((0 : Int) < 0); omega)⟩
    | succ m ih =>
      intro hm
      obtain ⟨⟨i1, i2⟩, i3⟩ := ih (by omega)
      rw [kBst]
      by_cases q : kRL x n ((m : Int) + 1) (kBst x n m)
      · rw [kIf_t q]
        refine ⟨⟨by omega, by omega⟩, fun a a1 a2 => ?_⟩
        by_cases e : a = (m : Int) + 1
        · rw [e]
          exact ⟨kRL_irr, fun z => by omega⟩
        · obtain ⟨j1, j2⟩ := i3 a a1 (by omega)
          have hl : kRL x n ((m : Int) + 1) a := by
            rcases kRL_cases x n (kBst x n m) a with g | g | g
            · exact kRL_trans q g
            · exact absurd g j1
            · exact ((kRL_like g).2).mp q
          exact ⟨fun z => kRL_irr (kRL_trans z hl), fun _ => hl⟩
      · rw [kIf_f q]
        refine ⟨⟨i1, by omega⟩, fun a a1 a2 => ?_⟩
        by_cases e : a = (m : Int) + 1
        · rw [e]
          exact ⟨q, fun z => by omega⟩
        · exact i3 a a1 (by omega)
  obtain ⟨⟨k1, k2⟩, k3⟩ := key (n - 1).toNat (by omega)
  exact ⟨⟨k1, by omega⟩, fun a a1 a2 => k3 a a1 (by omega)⟩
theorem kTurn_of {x : Int → Int} {n b : Int} (h : kBest x n b) : kIsTurn x n b := Or.inr ⟨by have := h.1; omega, kBest_one h (kBst_best (by have := h.1; omega))⟩
theorem kTurn_best {x : Int → Int} {n b : Int} (hn : 0 < n) (h : kIsTurn x n b) : kBest x n b := by
  rcases h with ⟨g, -⟩ | ⟨-, g⟩
  · omega
  · rw [g]; exact kBst_best hn
/-- one step of the law's way: from the last place down -/
theorem kBest_step {x : Int → Int} {n b q : Int} (hq : 0 ≤ q ∧ q < b) (hb : b < n) (h : ∀ a : Int, q < a → a < n → ¬ kRL x n a b ∧ (a < b → kRL x n b a)) : ((¬ kRL x n b q → ∀ a : Int, q ≤ a → a < n → ¬ kRL x n a q ∧ (a < q → kRL x n q a)) ∧ (kRL x n b q → ∀ a : Int, q ≤ a → a < n → ¬ kRL x n a b ∧ (a < b → kRL x n b a))) := by
  refine ⟨fun g a a1 a2 => ?_, fun g a a1 a2 => ?_⟩
  · refine ⟨?_, fun z => by omega⟩
    by_cases e : a = q
    · rw [e]; exact kRL_irr
    · obtain ⟨j1, j2⟩ := h a (by omega) a2
      rcases kRL_cases x n b q with z | z | z
      · exact absurd z g
      · exact fun y => j1 (kRL_trans y z)
      · exact fun y => j1 (((kRL_like z).2).mpr y)
  · by_cases e : a = q
    · rw [e]
      exact ⟨fun y => kRL_irr (kRL_trans y g), fun _ => g⟩
    · exact h a (by omega) a2
/-- the doubled row -/
theorem kRot_dbl {x f : Int → Int} {n : Int} (h : ∀ j : Int, 0 ≤ j → j < 2 * n → f j = x (j % n)) {a t : Int} (ha : 0 ≤ a ∧ a < n) (ht : 0 ≤ t ∧ t < n) : f (a + t) = kRot x n a t := by
  rw [h _ (by omega) (by omega)]
  exact kRot_mod ha ht
theorem kTurn_lc {x f : Int → Int} {n a b z : Int} (h : ∀ j : Int, 0 ≤ j → j < 2 * n → f j = x (j % n)) (ha : 0 ≤ a ∧ a < n) (hb : 0 ≤ b ∧ b < n) (hz : kLC f (2 * n) a f (2 * n) b z) : (n ≤ z → ¬ kRL x n b a) ∧ (z < n → (f (a + z) < f (b + z) → ¬ kRL x n b a) ∧ (f (b + z) ≤ f (a + z) → kRL x n b a)) := by
  obtain ⟨z1, z2, z3, z4, z5⟩ := hz
  have same : ∀ t : Int, 0 ≤ t → t < n → t < z → kRot x n a t = kRot x n b t := fun t t1 t2 t3 => by
    rw [← kRot_dbl h ha ⟨t1, t2⟩, ← kRot_dbl h hb ⟨t1, t2⟩]; exact z4 t t1 t3
  refine ⟨fun g => ?_, fun g => ⟨fun q => ?_, fun q => ?_⟩⟩
  · rintro ⟨t, t1, t2, t3, t4⟩
    have := same t t1 t2 (by omega)
    omega
  · rw [kRot_dbl h ha ⟨z1, g⟩, kRot_dbl h hb ⟨z1, g⟩] at q
    exact kRL_no z1 (fun u u1 u2 => (same u u1 (by omega) u2).symm) q
  · refine ⟨z, z1, g, ?_, fun u u1 u2 => (same u u1 (by omega) u2).symm⟩
    have hne : f (a + z) ≠ f (b + z) := by omega
    rw [kRot_dbl h ha ⟨z1, g⟩, kRot_dbl h hb ⟨z1, g⟩] at q hne
    omega
theorem kSm.keep {E : kE} {M M1 : kM} {g : Int} {y L : Int → Int} {X : Int → Int → Int} (h : kSm E M g y L X) (hM : ∀ k i : Int, (k = g ∨ k = g + 1 ∨ k = y 0 ∨ k = y 1 ∨ k = y 2) → M1 k i = M k i) : kSm E M1 g y L X := by
  obtain ⟨⟨a1, a2, a3, a4, a5⟩, ⟨b1, b2, b3⟩, c1⟩ := h
  refine ⟨⟨a1, a2, by rw [hM _ _ (by omega)]; exact a3, by rw [hM _ _ (by omega)]; exact a4, by rw [hM _ _ (by omega)]; exact a5⟩, ⟨by rw [hM _ _ (by omega)]; exact b1, by rw [hM _ _ (by omega)]; exact b2, fun k h1 h2 => by rw [hM _ _ (by omega)]; exact b3 k h1 h2⟩, fun i h1 h2 => ?_⟩
  obtain ⟨q1, q2, q3, q4⟩ := c1 i h1 h2
  have e : y i = g ∨ y i = g + 1 ∨ y i = y 0 ∨ y i = y 1 ∨ y i = y 2 := by
    rcases (show i = 0 ∨ i = 1 ∨ i = 2 by omega) with rfl | rfl | rfl
    · exact Or.inr (Or.inr (Or.inl rfl))
    · exact Or.inr (Or.inr (Or.inr (Or.inl rfl)))
    · exact Or.inr (Or.inr (Or.inr (Or.inr rfl)))
  exact ⟨q1, by rw [hM _ _ e]; exact q2, ⟨by rw [hM _ _ e]; exact q3.1, q3.2⟩, fun j j1 j2 => by rw [hM _ _ e]; exact q4 j j1 j2⟩
/-- a number is written into another row -/
theorem kSm.put {E : kE} {M M1 : kM} {g : Int} {y L : Int → Int} {X : Int → Int → Int} (h : kSm E M g y L X) {c j v : Int} (hM : M1 = kU M c j v) (h1 : c ≠ g ∧ c ≠ g + 1 ∧ c ≠ y 0 ∧ c ≠ y 1 ∧ c ≠ y 2) : kSm E M1 g y L X := by
  subst hM
  refine h.keep (fun k i hk => kU_cell ?_)
  rcases hk with rfl | rfl | rfl | rfl | rfl <;> omega
theorem kSm.rng {E : kE} {M : kM} {g : Int} {y L : Int → Int} {X : Int → Int → Int} (h : kSm E M g y L X) (hv : ∀ i j : Int, 0 ≤ i → i < 3 → 0 ≤ j → j < L i → 0 ≤ X i j ∧ X i j ≤ 8) {i : Int} (hi : 0 ≤ i ∧ i < 3) : ∀ j : Int, 0 ≤ j → j < L i → 0 ≤ M (y i) j ∧ M (y i) j ≤ 8 := fun j j1 j2 => by
  rw [h.at hi ⟨j1, j2⟩]; exact hv i j hi.1 hi.2 j1 j2
