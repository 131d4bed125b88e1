noncomputable def kMb (x : Int → Int) (n a : Int) : Int := kMaxF (fun b => kL x n a x n b) a.toNat
noncomputable def kDr (x : Int → Int) (n a : Int) : Int := n - a - kMb x n a
noncomputable def kMbs (x : Int → Int) (n a : Int) : Int := kMaxF (fun b => if b = a then 0 else kL x n a x n b) n.toNat
noncomputable def kMac (x : Int → Int) (nx : Int) (y : Int → Int) (ny a : Int) : Int := kMaxF (fun b => kL x nx a y ny b) ny.toNat
/-- of the places 0 to w - 1 the one with the most by f, of several with as many the one whose row is least, of those the first -/
def kTop (f : Int → Int) (x : Int → Int) (n w b k : Int) : Prop := (b = -1 ∧ k = 0 ∧ ∀ a : Int, 0 ≤ a → a < w → f a ≤ 0) ∨ (0 ≤ b ∧ b < w ∧ 0 < k ∧ k = f b ∧ ∀ a : Int, 0 ≤ a → a < w → f a < k ∨ (f a = k ∧ ((k ≤ kL x n a x n b ∧ b ≤ a) ∨ (kL x n a x n b < k ∧ kSL x n b a))))
theorem kTop_0 (f : Int → Int) (x : Int → Int) (n : Int) : kTop f x n 0 (-1) 0 := Or.inl ⟨rfl, rfl, fun a h1 h2 => absurd h2 (by omega)⟩
theorem kTop_skip {f : Int → Int} {x : Int → Int} {n w b k : Int} (h : kTop f x n w b k) (h0 : f w < k ∨ f w ≤ 0) : kTop f x n (w + 1) b k := by
  rcases h with ⟨h1, h2, h3⟩ | ⟨h1, h2, h3, h4, h5⟩
  · refine Or.inl ⟨h1, h2, fun a a1 a2 => ?_⟩
    by_cases e : a = w
    · rw [e]; omega
    · exact h3 a a1 (by omega)
  · refine Or.inr ⟨h1, by omega, h3, h4, fun a a1 a2 => ?_⟩
    by_cases e : a = w
    · rw [e]; omega
    · exact h5 a a1 (by omega)
theorem kL_self {x : Int → Int} {n a : Int} (h : a ≤ n) : kL x n a x n a = n - a :=
  (kL_of ⟨by omega, by omega, by omega, fun _ _ _ => rfl, by omega⟩).symm
theorem kTop_new {f : Int → Int} {x : Int → Int} {n w b k : Int} (h : kTop f x n w b k) (hw : 0 ≤ w ∧ w < n) (hf : f w ≤ n - w) (h0 : k < f w) : kTop f x n (w + 1) w (f w) := by
  have hk : 0 ≤ k := by rcases h with ⟨_, g, _⟩ | ⟨_, _, g, _⟩ <;> omega
  refine Or.inr ⟨hw.1, by omega, by omega, rfl, fun a a1 a2 => ?_⟩
  by_cases e : a = w
  · subst e
    exact Or.inr ⟨rfl, Or.inl ⟨by rw [kL_self (by omega)]; exact hf, Int.le_refl _⟩⟩
  · rcases h with ⟨h1, h2, h3⟩ | ⟨h1, h2, h3, h4, h5⟩
    · have := h3 a a1 (by omega); exact Or.inl (by omega)
    · have := h5 a a1 (by omega); exact Or.inl (by omega)
theorem kTop_eq1 {f : Int → Int} {x : Int → Int} {n w b k : Int} (h : kTop f x n w b k) (h0 : f w = k) (h1 : k ≤ kL x n w x n b) : kTop f x n (w + 1) b k := by
  rcases h with ⟨g1, g2, g3⟩ | ⟨g1, g2, g3, g4, g5⟩
  · exact kTop_skip (Or.inl ⟨g1, g2, g3⟩) (by omega)
  · refine Or.inr ⟨g1, by omega, g3, g4, fun a a1 a2 => ?_⟩
    by_cases e : a = w
    · subst e; exact Or.inr ⟨h0, Or.inl ⟨h1, by omega⟩⟩
    · exact g5 a a1 (by omega)
theorem kTop_eq2 {f : Int → Int} {x : Int → Int} {n w b k : Int} (h : kTop f x n w b k) (hw : 0 ≤ w ∧ w < n) (h0 : f w = k) (h1 : kL x n w x n b < k) (h2 : ¬ kSL x n w b) : kTop f x n (w + 1) b k := by
  rcases h with ⟨g1, g2, g3⟩ | ⟨g1, g2, g3, g4, g5⟩
  · exact kTop_skip (Or.inl ⟨g1, g2, g3⟩) (by omega)
  · refine Or.inr ⟨g1, by omega, g3, g4, fun a a1 a2 => ?_⟩
    by_cases e : a = w
    · subst e
      refine Or.inr ⟨h0, Or.inr ⟨h1, ?_⟩⟩
      have hne : a ≠ b := by omega
      exact (kSL_total (x := x) (n := n) (a := a) (b := b) (by omega) (by omega) hne).resolve_left h2
    · exact g5 a a1 (by omega)
/-- an end that is the same as b for m stitches stands to a as b does, if a differs from b before -/
theorem kSL_like {x : Int → Int} {n a b c m : Int} (ha : a ≤ n) (hb : b ≤ n) (hc : c ≤ n) (h1 : m ≤ kL x n c x n b) (h2 : kL x n a x n b < m) : kL x n a x n c = kL x n a x n b ∧ (kSL x n a b ↔ kSL x n a c) := by
  obtain ⟨a1, a2, a3, a4, a5⟩ := kL_spec (x := x) (y := x) (nx := n) (ny := n) (a := a) (b := b) ha hb
  obtain ⟨b1, b2, b3, b4, b5⟩ := kL_spec (x := x) (y := x) (nx := n) (ny := n) (a := c) (b := b) hc hb
  generalize hk : kL x n a x n b = k at *
  generalize hw : kL x n c x n b = w at *
  have e1 := b4 k a1 (by omega)
  have hlc : kLC x n a x n c k := by
    refine ⟨a1, a2, by omega, fun t t1 t2 => (a4 t t1 t2).trans (b4 t t1 (by omega)).symm, ?_⟩
    rcases a5 with g | g | g
    · exact Or.inl g
    · omega
    · exact Or.inr (Or.inr (by rw [e1]; exact g))
  have hlb : kLC x n a x n b k := ⟨a1, a2, a3, a4, a5⟩
  refine ⟨(kL_of hlc).symm, fun q => ?_, fun q => ?_⟩
  · obtain ⟨k', q1, q2⟩ := q
    have := kLC_one hlb q1
    subst this
    refine ⟨k, hlc, ?_⟩
    unfold kLt at q2 ⊢
    omega
  · obtain ⟨k', q1, q2⟩ := q
    have := kLC_one hlc q1
    subst this
    refine ⟨k, hlb, ?_⟩
    unfold kLt at q2 ⊢
    omega
theorem kTop_eq3 {f : Int → Int} {x : Int → Int} {n w b k : Int} (h : kTop f x n w b k) (hw : 0 ≤ w ∧ w < n) (hf : f w ≤ n - w) (h0 : f w = k) (hk : 0 < k) (h1 : kL x n w x n b < k) (h2 : kSL x n w b) : kTop f x n (w + 1) w (f w) := by
  rcases h with ⟨g1, g2, g3⟩ | ⟨g1, g2, g3, g4, g5⟩
  · omega
  · rw [h0]
    refine Or.inr ⟨hw.1, by omega, g3, h0.symm, fun a a1 a2 => ?_⟩
    by_cases e : a = w
    · subst e
      exact Or.inr ⟨h0, Or.inl ⟨by rw [kL_self (by omega)]; omega, Int.le_refl _⟩⟩
    · rcases g5 a a1 (by omega) with q | ⟨q, q2⟩
      · exact Or.inl q
      · refine Or.inr ⟨q, Or.inr ?_⟩
        rcases q2 with ⟨q3, q4⟩ | ⟨q3, q4⟩
        · obtain ⟨r1, r2⟩ := kSL_like (x := x) (n := n) (a := w) (b := b) (c := a) (m := k) (by omega) (by omega) (by omega) q3 h1
          rw [kL_symm (by omega) (by omega), r1]
          exact ⟨h1, r2.mp h2⟩
        · refine ⟨?_, kSL_trans h2 q4⟩
          rcases Int.lt_or_le (kL x n a x n w) k with r | r
          · exact r
          · exfalso
            -- then a is the same as w for k stitches, w differs from b before, and is less: so is a
            have e1 : kL x n b x n w < k := by rw [kL_symm (by omega) (by omega)]; exact h1
            obtain ⟨r1, r2⟩ := kSL_like (x := x) (n := n) (a := b) (b := w) (c := a) (m := k) (by omega) (by omega) (by omega) r e1
            exact kSL_asymm h2 (r2.mpr q4)
theorem kTop_one {f : Int → Int} {x : Int → Int} {n w b k b' k' : Int} (hw : w ≤ n) (h : kTop f x n w b k) (h' : kTop f x n w b' k') : b = b' ∧ k = k' := by
  rcases h with ⟨a1, a2, a3⟩ | ⟨a1, a2, a3, a4, a5⟩ <;> rcases h' with ⟨c1, c2, c3⟩ | ⟨c1, c2, c3, c4, c5⟩
  · omega
  · have := a3 b' c1 c2; omega
  · have := c3 b a1 a2; omega
  · have p1 := a5 b' c1 c2
    have p2 := c5 b a1 a2
    have e : k = k' := by omega
    subst e
    refine ⟨?_, rfl⟩
    have s1 : kL x n b' x n b = kL x n b x n b' := kL_symm (by omega) (by omega)
    rcases p1 with p1 | ⟨-, p1⟩
    · omega
    · rcases p2 with p2 | ⟨-, p2⟩
      · omega
      · rcases p1 with ⟨q1, q2⟩ | ⟨q1, q2⟩ <;> rcases p2 with ⟨r1, r2⟩ | ⟨r1, r2⟩
        · omega
        · omega
        · omega
        · exact absurd r2 (kSL_asymm q2)
def kIsRep (x : Int → Int) (n w z : Int) : Prop := ∃ b k : Int, kTop (kMbs x n) x n n b k ∧ ((w = 0 ∧ z = k) ∨ (w = 1 ∧ z = b) ∨ (w ≠ 0 ∧ w ≠ 1 ∧ ((b = -1 ∧ z = 0) ∨ (0 ≤ b ∧ z = kCnt (fun c => k ≤ kL x n c x n b) n.toNat))))
def kIsSeam (x : Int → Int) (nx : Int) (y : Int → Int) (ny w z : Int) : Prop := ∃ b k : Int, kTop (kMac x nx y ny) x nx nx b k ∧ ((w = 0 ∧ z = k) ∨ (w = 1 ∧ z = b) ∨ (w ≠ 0 ∧ w ≠ 1 ∧ ((b = -1 ∧ z = -1) ∨ (0 ≤ b ∧ 0 ≤ z ∧ z < ny ∧ k ≤ kL x nx b y ny z ∧ ∀ c : Int, 0 ≤ c → c < z → kL x nx b y ny c < k))))
def kSmp (x : Int → Int) (n : Int) (y : Int → Int) (m : Int) : Int → Prop := fun a => 0 < m ∧ a + m ≤ n ∧ kEq x a y 0 m
def kIsPer (x : Int → Int) (n z : Int) : Prop := (n = 0 ∧ z = 0) ∨ (1 ≤ z ∧ z ≤ n ∧ kPer x n z ∧ ∀ p : Int, 1 ≤ p → p < z → ¬ kPer x n p)
theorem kRot_mod {x : Int → Int} {n a t : Int} (ha : 0 ≤ a ∧ a < n) (ht : 0 ≤ t ∧ t < n) : x ((a + t) % n) = kRot x n a t := by
  unfold kRot
  split
  · rw [Int.emod_eq_of_lt (by omega) (by omega)]
  · rw [← Int.sub_emod_right, Int.emod_eq_of_lt (by omega) (by omega)]
theorem kMaxF_le {f : Int → Int} {n : Nat} {u : Int} (hu : 0 ≤ u) (h : ∀ k : Int, 0 ≤ k → k < (n : Int) → f k ≤ u) : kMaxF f n ≤ u := by
  rcases (kMaxF_rng f n).2.2 with g | ⟨k, k1, k2, k3⟩
  · omega
  · rw [← k3]; exact h k k1 k2
theorem kMbs_rng {x : Int → Int} {n a : Int} (ha : 0 ≤ a ∧ a < n) : 0 ≤ kMbs x n a ∧ kMbs x n a ≤ n - a := by
  refine ⟨(kMaxF_rng _ _).1, kMaxF_le (by omega) (fun k k1 k2 => ?_)⟩
  split
  · omega
  · have := kL_rng (x := x) (y := x) (nx := n) (ny := n) (a := a) (b := k) (by omega) (by omega)
    omega
theorem kMac_rng {x : Int → Int} {nx : Int} {y : Int → Int} {ny a : Int} (ha : 0 ≤ a ∧ a ≤ nx) : 0 ≤ kMac x nx y ny a ∧ kMac x nx y ny a ≤ nx - a := by
  refine ⟨(kMaxF_rng _ _).1, kMaxF_le (by omega) (fun k k1 k2 => ?_)⟩
  have := kL_rng (x := x) (y := y) (nx := nx) (ny := ny) (a := a) (b := k) (by omega) (by omega)
  omega
theorem kMb_rng {x : Int → Int} {n a : Int} (ha : 0 ≤ a ∧ a < n) : 0 ≤ kMb x n a ∧ kMb x n a ≤ n - a := by
  refine ⟨(kMaxF_rng _ _).1, kMaxF_le (by omega) (fun k k1 k2 => ?_)⟩
  have := kL_rng (x := x) (y := x) (nx := n) (ny := n) (a := a) (b := k) (by omega) (by omega)
  omega
