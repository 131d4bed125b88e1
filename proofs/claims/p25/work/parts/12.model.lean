/-! ===== lengths in common, ranks, orders ===== -/
/-- outside of the cells lo to hi nothing has changed -/
def kF (lo hi : Int) (M N : kM) : Prop := ∀ c k : Int, (c < lo ∨ hi < c) → N c k = M c k
theorem kF_row {lo hi : Int} {M N : kM} (h : kF lo hi M N) {c : Int} (hc : c < lo ∨ hi < c) : N c = M c := funext (fun k => h c k hc)
theorem kF_refl (lo hi : Int) (M : kM) : kF lo hi M M := fun _ _ _ => rfl
theorem kF_trans {lo hi : Int} {M N O : kM} (h : kF lo hi M N) (h2 : kF lo hi N O) : kF lo hi M O := fun c k g => (h2 c k g).trans (h c k g)
theorem kF_mono {lo hi lo' hi' : Int} {M N : kM} (h : kF lo hi M N) (h1 : lo' ≤ lo ∧ hi ≤ hi') : kF lo' hi' M N := fun c k g => h c k (by omega)
theorem kL_rng {x : Int → Int} {nx a : Int} {y : Int → Int} {ny b : Int} (ha : a ≤ nx) (hb : b ≤ ny) : 0 ≤ kL x nx a y ny b ∧ a + kL x nx a y ny b ≤ nx ∧ b + kL x nx a y ny b ≤ ny := by
  obtain ⟨h1, h2, h3, -, -⟩ := kL_spec (x := x) (y := y) ha hb
  exact ⟨h1, h2, h3⟩
theorem kL_hit {x : Int → Int} {nx a : Int} {y : Int → Int} {ny b : Int} (ha : a < nx) (hb : b < ny) (h : x a = y b) : kL x nx a y ny b = kL x nx (a + 1) y ny (b + 1) + 1 := by
  obtain ⟨h1, h2, h3, h4, h5⟩ := kL_spec (x := x) (nx := nx) (a := a + 1) (y := y) (ny := ny) (b := b + 1) (by omega) (by omega)
  refine (kL_of ⟨by omega, by omega, by omega, fun t t1 t2 => ?_, ?_⟩).symm
  · by_cases e : t = 0
    · rw [e, Int.add_zero, Int.add_zero]; exact h
    · have := h4 (t - 1) (by omega) (by omega)
      rw [show a + 1 + (t - 1) = a + t by omega, show b + 1 + (t - 1) = b + t by omega] at this
      exact this
  · rw [show a + (kL x nx (a + 1) y ny (b + 1) + 1) = a + 1 + kL x nx (a + 1) y ny (b + 1) by omega, show b + (kL x nx (a + 1) y ny (b + 1) + 1) = b + 1 + kL x nx (a + 1) y ny (b + 1) by omega]
    exact h5
theorem kL_miss {x : Int → Int} {nx a : Int} {y : Int → Int} {ny b : Int} (ha : a ≤ nx) (hb : b ≤ ny) (h : a = nx ∨ b = ny ∨ x a ≠ y b) : kL x nx a y ny b = 0 :=
  (kL_of ⟨Int.le_refl _, by omega, by omega, kEq_0 _ _ _ _, by rw [Int.add_zero, Int.add_zero]; exact h⟩).symm
theorem kL_symm {x : Int → Int} {nx a : Int} {y : Int → Int} {ny b : Int} (ha : a ≤ nx) (hb : b ≤ ny) : kL x nx a y ny b = kL y ny b x nx a := kL_of (kLC_symm (kL_spec ha hb))
/-- the greatest of f at 0 to n - 1, 0 at least -/
def kMaxF (f : Int → Int) : Nat → Int
  | 0 => 0
  | n + 1 => if kMaxF f n < f (n : Int) then f (n : Int) else kMaxF f n
theorem kMaxF_0 (f : Int → Int) : kMaxF f (0 : Int).toNat = 0 := rfl
theorem kMaxF_step (f : Int → Int) {k : Int} (h : 0 ≤ k) : kMaxF f (k + 1).toNat = if kMaxF f k.toNat < f k then f k else kMaxF f k.toNat := by
  have e : (k + 1).toNat = k.toNat + 1 := by omega
  rw [e, kMaxF, show ((k.toNat : Nat) : Int) = k by omega]
theorem kMaxF_rng (f : Int → Int) : ∀ n : Nat, 0 ≤ kMaxF f n ∧ (∀ k : Int, 0 ≤ k → k < (n : Int) → f k ≤ kMaxF f n) ∧ (kMaxF f n = 0 ∨ ∃ k : Int, 0 ≤ k ∧ k < (n : Int) ∧ f k = kMaxF f n)
  | 0 => ⟨Int.le_refl _, fun k k1 k2 => absurd k2 (by omega), Or.inl rfl⟩
  | n + 1 => by
    obtain ⟨h1, h2, h3⟩ := kMaxF_rng f n
    rw [kMaxF]
    split
    · refine ⟨by omega, fun k k1 k2 => ?_, Or.inr ⟨(n : Int), by omega, by omega, rfl⟩⟩
      by_cases e : k = (n : Int)
      · rw [e]; exact Int.le_refl _
      · have := h2 k k1 (by omega); omega
    · refine ⟨h1, fun k k1 k2 => ?_, ?_⟩
      · by_cases e : k = (n : Int)
        · rw [e]; omega
        · exact h2 k k1 (by omega)
      · rcases h3 with h3 | ⟨k, k1, k2, k3⟩
        · exact Or.inl h3
        · exact Or.inr ⟨k, k1, by omega, k3⟩
theorem kMaxF_congr {f g : Int → Int} : ∀ n : Nat, (∀ k : Int, 0 ≤ k → k < (n : Int) → f k = g k) → kMaxF f n = kMaxF g n
  | 0, _ => rfl
  | n + 1, h => by rw [kMaxF, kMaxF, kMaxF_congr n (fun k k1 k2 => h k k1 (by omega)), h (n : Int) (by omega) (by omega)]
theorem kSum_congr {f g : Int → Int} : ∀ n : Nat, (∀ k : Int, 0 ≤ k → k < (n : Int) → f k = g k) → kSum f n = kSum g n
  | 0, _ => rfl
  | n + 1, h => by rw [kSum, kSum, kSum_congr n (fun k k1 k2 => h k k1 (by omega)), h (n : Int) (by omega) (by omega)]
theorem kCnt_congr {P R : Int → Prop} : ∀ n : Nat, (∀ k : Int, 0 ≤ k → k < (n : Int) → (P k ↔ R k)) → kCnt P n = kCnt R n
  | 0, _ => rfl
  | n + 1, h => by
    have e := h (n : Int) (by omega) (by omega)
    rw [kCnt, kCnt, kCnt_congr n (fun k k1 k2 => h k k1 (by omega))]
    by_cases g : P (n : Int)
    · rw [kIf_t g, kIf_t (e.mp g)]
    · rw [kIf_f g, kIf_f (fun q => g (e.mpr q))]
theorem kCnt_lt {P : Int → Prop} : ∀ n : Nat, (∃ k : Int, 0 ≤ k ∧ k < (n : Int) ∧ ¬ P k) → kCnt P n < (n : Int)
  | 0, h => by obtain ⟨k, k1, k2, -⟩ := h; omega
  | n + 1, h => by
    obtain ⟨k, k1, k2, k3⟩ := h
    rw [kCnt]
    by_cases e : k = (n : Int)
    · subst e
      rw [kIf_f k3]
      have := (kCnt_rng P n).2
      omega
    · have := kCnt_lt n ⟨k, k1, by omega, k3⟩
      by_cases g : P (n : Int)
      · rw [kIf_t g]; omega
      · rw [kIf_f g]; omega
theorem kCnt_lt2 {P R : Int → Prop} : ∀ n : Nat, (∀ k : Int, 0 ≤ k → k < (n : Int) → P k → R k) → kCnt P n ≤ kCnt R n ∧ ((∃ k : Int, 0 ≤ k ∧ k < (n : Int) ∧ R k ∧ ¬ P k) → kCnt P n < kCnt R n)
  | 0, _ => ⟨Int.le_refl _, fun h => by obtain ⟨k, k1, k2, -⟩ := h; omega⟩
  | n + 1, h => by
    obtain ⟨a1, a2⟩ := kCnt_lt2 n (fun k k1 k2 => h k k1 (by omega))
    rw [kCnt, kCnt]
    have e := h (n : Int) (by omega) (by omega)
    by_cases g : P (n : Int)
    · rw [kIf_t g, kIf_t (e g)]
      refine ⟨by omega, fun q => ?_⟩
      obtain ⟨k, k1, k2, k3, k4⟩ := q
      by_cases e2 : k = (n : Int)
      · subst e2; exact absurd g k4
      · have := a2 ⟨k, k1, by omega, k3, k4⟩; omega
    · rw [kIf_f g]
      by_cases g2 : R (n : Int)
      · rw [kIf_t g2]
        exact ⟨by omega, fun _ => by omega⟩
      · rw [kIf_f g2]
        refine ⟨by omega, fun q => ?_⟩
        obtain ⟨k, k1, k2, k3, k4⟩ := q
        by_cases e2 : k = (n : Int)
        · subst e2; exact absurd k3 g2
        · have := a2 ⟨k, k1, by omega, k3, k4⟩; omega
/-- the rank of the end at p: how many are less -/
noncomputable def kRk (x : Int → Int) (n p : Int) : Int := kCnt (fun b => kSL x n b p) n.toNat
theorem kRk_lt {x : Int → Int} {n a b : Int} (ha : 0 ≤ a ∧ a < n) (h : kSL x n a b) : kRk x n a < kRk x n b :=
  (kCnt_lt2 n.toNat (fun k k1 k2 g => kSL_trans g h)).2 ⟨a, ha.1, by omega, h, kSL_irr⟩
theorem kRk_rng {x : Int → Int} {n a : Int} (ha : 0 ≤ a ∧ a < n) : 0 ≤ kRk x n a ∧ kRk x n a < n := by
  refine ⟨(kCnt_rng _ _).1, ?_⟩
  have := kCnt_lt (P := fun b => kSL x n b a) n.toNat ⟨a, ha.1, by omega, kSL_irr⟩
  unfold kRk
  omega
theorem kRk_inj {x : Int → Int} {n a b : Int} (ha : 0 ≤ a ∧ a < n) (hb : 0 ≤ b ∧ b < n) (h : kRk x n a = kRk x n b) : a = b := by
  by_cases e : a = b
  · exact e
  · rcases kSL_total (x := x) (n := n) (a := a) (b := b) (by omega) (by omega) e with g | g
    · have := kRk_lt ha g; omega
    · have := kRk_lt hb g; omega
/-- each rank is that of a place -/
theorem kOnto : ∀ (n : Nat) (f : Int → Int), (∀ a : Int, 0 ≤ a → a < (n : Int) → 0 ≤ f a ∧ f a < (n : Int)) → (∀ a b : Int, 0 ≤ a → a < (n : Int) → 0 ≤ b → b < (n : Int) → f a = f b → a = b) → ∀ r : Int, 0 ≤ r → r < (n : Int) → ∃ a : Int, 0 ≤ a ∧ a < (n : Int) ∧ f a = r
  | 0, _, _, _ => fun r r1 r2 => by omega
  | n + 1, f, h1, h2 => by
    intro r r1 r2
    by_cases g : f (n : Int) = r
    · exact ⟨(n : Int), by omega, by omega, g⟩
    · -- the value n is moved to where f n was
      have hn := h1 (n : Int) (by omega) (by omega)
      have key := kOnto n (fun a => if f a = (n : Int) then f (n : Int) else f a) (fun a a1 a2 => ?_) (fun a b a1 a2 b1 b2 e => ?_)
      · by_cases g2 : r = (n : Int)
        · -- then f n < n, and some a has f a = n; it is the one that is sent to f n
          obtain ⟨a, a1, a2, a3⟩ := key (f (n : Int)) hn.1 (by omega)
          by_cases g3 : f a = (n : Int)
          · exact ⟨a, a1, by omega, by rw [g3, g2]⟩
          · rw [if_neg g3] at a3
            have := h2 a (n : Int) a1 (by omega) (by omega) (by omega) a3
            omega
        · obtain ⟨a, a1, a2, a3⟩ := key r r1 (by omega)
          by_cases g3 : f a = (n : Int)
          · rw [if_pos g3] at a3
            exact absurd a3 g
          · rw [if_neg g3] at a3
            exact ⟨a, a1, by omega, a3⟩
      · have q := h1 a a1 (by omega)
        by_cases g3 : f a = (n : Int)
        · rw [if_pos g3]
          refine ⟨hn.1, ?_⟩
          by_cases g4 : f (n : Int) = (n : Int)
          · have := h2 a (n : Int) a1 (by omega) (by omega) (by omega) (by rw [g3, g4]); omega
          · omega
        · rw [if_neg g3]; omega
      · by_cases g3 : f a = (n : Int) <;> by_cases g4 : f b = (n : Int)
        · exact h2 a b a1 (by omega) b1 (by omega) (by rw [g3, g4])
        · rw [if_pos g3, if_neg g4] at e
          have := h2 (n : Int) b (by omega) (by omega) b1 (by omega) e; omega
        · rw [if_neg g3, if_pos g4] at e
          have := h2 a (n : Int) a1 (by omega) (by omega) (by omega) e; omega
        · rw [if_neg g3, if_neg g4] at e
          exact h2 a b a1 (by omega) b1 (by omega) e
theorem kRk_onto {x : Int → Int} {n r : Int} (hr : 0 ≤ r ∧ r < n) : ∃ a : Int, 0 ≤ a ∧ a < n ∧ kRk x n a = r := by
  obtain ⟨a, a1, a2, a3⟩ := kOnto n.toNat (kRk x n) (fun a a1 a2 => by have := kRk_rng (x := x) (n := n) (a := a) (by omega); omega) (fun a b a1 a2 b1 b2 e => kRk_inj (n := n) (by omega) (by omega) e) r hr.1 (by omega)
  exact ⟨a, a1, by omega, a3⟩
theorem kOrd_rk {x : Int → Int} {n : Int} {P : Int → Int} (h : ∀ a : Int, 0 ≤ a → a < n → P (kRk x n a) = a) : kOrd x n P := by
  refine ⟨fun r r1 r2 => ?_, fun r s r1 rs s1 => ?_⟩
  · obtain ⟨a, a1, a2, a3⟩ := kRk_onto (x := x) (n := n) (r := r) (by omega)
    rw [← a3, h a a1 a2]; omega
  · obtain ⟨a, a1, a2, a3⟩ := kRk_onto (x := x) (n := n) (r := r) (by omega)
    obtain ⟨b, b1, b2, b3⟩ := kRk_onto (x := x) (n := n) (r := s) (by omega)
    rw [← a3, ← b3, h a a1 a2, h b b1 b2]
    have hne : a ≠ b := by rintro rfl; omega
    rcases kSL_total (x := x) (n := n) (a := a) (b := b) (by omega) (by omega) hne with g | g
    · exact g
    · have := kRk_lt (n := n) ⟨b1, b2⟩ g; omega
/-- an order is the only one -/
theorem kOrd_at {x : Int → Int} {n : Int} {P : Int → Int} (h : kOrd x n P) {r : Int} (hr : 0 ≤ r ∧ r < n) : kRk x n (P r) = r := by
  -- the rank goes up along P, and stays in 0 .. n - 1
  have up : ∀ (k : Nat) (r : Int), r = (k : Int) → r < n → r ≤ kRk x n (P r) := by
    intro k
    induction k with
    | zero => intro r h0 h1; rw [h0]; exact (kCnt_rng _ _).1
    | succ k ih =>
      intro r h0 h1
      have a1 := ih (r - 1) (by omega) (by omega)
      have a2 := kRk_lt (x := x) (n := n) (h.1 (r - 1) (by omega) (by omega)) (h.2 (r - 1) r (by omega) (by omega) h1)
      omega
  have dn : ∀ (k : Nat) (r : Int), n - 1 - r = (k : Int) → 0 ≤ r → kRk x n (P r) ≤ r := by
    intro k
    induction k with
    | zero =>
      intro r h0 h1
      have := (kRk_rng (x := x) (n := n) (h.1 r h1 (by omega))).2
      omega
    | succ k ih =>
      intro r h0 h1
      have a1 := ih (r + 1) (by omega) (by omega)
      have a2 := kRk_lt (x := x) (n := n) (h.1 r h1 (by omega)) (h.2 r (r + 1) h1 (by omega) (by omega))
      omega
  have := up r.toNat r (by omega) hr.2
  have := dn (n - 1 - r).toNat r (by omega) hr.1
  omega
theorem kOrd_one {x : Int → Int} {n : Int} {P P' : Int → Int} (h : kOrd x n P) (h' : kOrd x n P') {r : Int} (hr : 0 ≤ r ∧ r < n) : P r = P' r := by
  have a := kOrd_at h hr
  have b := kOrd_at h' hr
  exact kRk_inj (h.1 r hr.1 hr.2) (h'.1 r hr.1 hr.2) (a.trans b.symm)
theorem kOrd_rk_at {x : Int → Int} {n : Int} {P : Int → Int} (h : kOrd x n P) {a : Int} (ha : 0 ≤ a ∧ a < n) : P (kRk x n a) = a := by
  have hr := kRk_rng (x := x) ha
  exact kRk_inj (h.1 _ hr.1 hr.2) ha (kOrd_at h hr)
