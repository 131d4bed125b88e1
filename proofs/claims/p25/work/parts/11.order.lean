/-! ===== the order of the ends of a hem ===== -/
/-- the end at a is less than the end at b -/
def kSL (x : Int → Int) (n a b : Int) : Prop := ∃ k : Int, kLC x n a x n b k ∧ kLt x n a x n b k
theorem kEq_symm {x : Int → Int} {a : Int} {y : Int → Int} {b m : Int} (h : kEq x a y b m) : kEq y b x a m := fun t h1 h2 => (h t h1 h2).symm
theorem kLC_symm {x : Int → Int} {nx a : Int} {y : Int → Int} {ny b k : Int} (h : kLC x nx a y ny b k) : kLC y ny b x nx a k := by
  obtain ⟨h1, h2, h3, h4, h5⟩ := h
  refine ⟨h1, h3, h2, kEq_symm h4, ?_⟩
  omega
theorem kSL_irr {x : Int → Int} {n a : Int} : ¬ kSL x n a a := by
  rintro ⟨k, -, h⟩
  unfold kLt at h
  omega
theorem kSL_trans {x : Int → Int} {n a b c : Int} (h : kSL x n a b) (h2 : kSL x n b c) : kSL x n a c := by
  obtain ⟨k, ⟨a1, a2, a3, a4, a5⟩, a6⟩ := h
  obtain ⟨w, ⟨b1, b2, b3, b4, b5⟩, b6⟩ := h2
  unfold kLt at a6 b6
  rcases Int.lt_or_le k w with g | g
  · have e := b4 k a1 g
    refine ⟨k, ⟨a1, a2, by omega, fun t t1 t2 => (a4 t t1 t2).trans (b4 t t1 (by omega)), ?_⟩, ?_⟩
    · omega
    · unfold kLt; omega
  · rcases Int.lt_or_le w k with g2 | g2
    · have e := a4 w b1 g2
      refine ⟨w, ⟨b1, by omega, b3, fun t t1 t2 => (a4 t t1 (by omega)).trans (b4 t t1 t2), ?_⟩, ?_⟩
      · omega
      · unfold kLt; omega
    · have e : w = k := by omega
      subst e
      refine ⟨w, ⟨b1, a2, b3, fun t t1 t2 => (a4 t t1 t2).trans (b4 t t1 t2), ?_⟩, ?_⟩
      · omega
      · unfold kLt; omega
theorem kSL_total {x : Int → Int} {n a b : Int} (ha : a ≤ n) (hb : b ≤ n) (h : a ≠ b) : kSL x n a b ∨ kSL x n b a := by
  have h1 := kL_spec (x := x) (y := x) ha hb
  have h2 := h1
  obtain ⟨a1, a2, a3, a4, a5⟩ := h2
  by_cases g : kLt x n a x n b (kL x n a x n b)
  · exact Or.inl ⟨_, h1, g⟩
  · refine Or.inr ⟨_, kLC_symm h1, ?_⟩
    unfold kLt at g ⊢
    omega
theorem kSL_asymm {x : Int → Int} {n a b : Int} (h : kSL x n a b) : ¬ kSL x n b a := fun q => kSL_irr (kSL_trans h q)
/-- P tells the places of the ends in their order -/
def kOrd (x : Int → Int) (n : Int) (P : Int → Int) : Prop := (∀ r : Int, 0 ≤ r → r < n → 0 ≤ P r ∧ P r < n) ∧ ∀ r s : Int, 0 ≤ r → r < s → s < n → kSL x n (P r) (P s)
def kO (M : kM) (h : Int) : Prop := kOrd (M (h + 3)) (M h 1) (M (8 + h))
/-- the first w of P are the ends from place d on, in their order -/
def kOrdW (x : Int → Int) (n : Int) (P : Int → Int) (w d : Int) : Prop := (∀ r : Int, 0 ≤ r → r < w → d ≤ P r ∧ P r < n) ∧ ∀ r s : Int, 0 ≤ r → r < s → s < w → kSL x n (P r) (P s)
theorem kD_neg {x : Int → Int} {n a b z : Int} (h : kD x n a x n b z) (hz : z < 0) : kSL x n a b := by
  obtain ⟨k, h1, h2⟩ := h
  refine ⟨k, h1, ?_⟩
  have := h1.1
  rcases h2 with ⟨_, _, g⟩ | ⟨g, _⟩ | ⟨_, g⟩
  · omega
  · exact g
  · omega
theorem kD_pos {x : Int → Int} {n a b z : Int} (h : kD x n a x n b z) (hz : 0 ≤ z) (hab : a ≠ b) : kSL x n b a := by
  obtain ⟨k, h1, h2⟩ := h
  refine ⟨k, kLC_symm h1, ?_⟩
  have := h1.1
  rcases h2 with ⟨g1, g2, g⟩ | ⟨_, g⟩ | ⟨g, _⟩
  · omega
  · omega
  · exact g
/-- an end is put in: those that are greater have gone up by one -/
theorem kOrdW_put {x : Int → Int} {n : Int} {P N : Int → Int} {w d r : Int} (h : kOrdW x n P w (d + 1)) (hr : 0 ≤ r ∧ r ≤ w) (hd : d < n) (h1 : ∀ j : Int, 0 ≤ j → j < r → N j = P j) (h2 : N r = d) (h3 : ∀ j : Int, r < j → j ≤ w → N j = P (j - 1))
    (h4 : ∀ j : Int, r ≤ j → j < w → kSL x n d (P j)) (h5 : 0 < r → kSL x n (P (r - 1)) d) : kOrdW x n N (w + 1) d := by
  obtain ⟨g1, g2⟩ := h
  refine ⟨fun j j1 j2 => ?_, fun a b a1 ab b1 => ?_⟩
  · rcases Int.lt_or_le j r with q | q
    · rw [h1 j j1 q]; have := g1 j j1 (by omega); omega
    · by_cases e : j = r
      · rw [e, h2]; omega
      · rw [h3 j (by omega) (by omega)]; have := g1 (j - 1) (by omega) (by omega); omega
  · rcases Int.lt_or_le b r with q | q
    · rw [h1 a a1 (by omega), h1 b (by omega) q]; exact g2 a b a1 ab (by omega)
    · by_cases e : b = r
      · rw [e, h2, h1 a a1 (by omega)]
        by_cases e2 : a = r - 1
        · rw [e2]; exact h5 (by omega)
        · exact kSL_trans (g2 a (r - 1) a1 (by omega) (by omega)) (h5 (by omega))
      · rw [h3 b (by omega) (by omega)]
        rcases Int.lt_or_le a r with q2 | q2
        · rw [h1 a a1 q2]; exact g2 a (b - 1) a1 (by omega) (by omega)
        · by_cases e2 : a = r
          · rw [e2, h2]; exact h4 (b - 1) (by omega) (by omega)
          · rw [h3 a (by omega) (by omega)]; exact g2 (a - 1) (b - 1) (by omega) (by omega) (by omega)
/-- what an end has in common with the next one in the order -/
def kNx (x : Int → Int) (n : Int) (P : Int → Int) (r : Int) : Int := if 0 ≤ r ∧ r + 1 < n then kL x n (P r) x n (P (r + 1)) else 0
def kRw (x : Int → Int) (n : Int) (P : Int → Int) (r : Int) : Int := n - P r - kNx x n P (r - 1)
theorem kNx_in {x : Int → Int} {n : Int} {P : Int → Int} {r : Int} (h : 0 ≤ r ∧ r + 1 < n) : kNx x n P r = kL x n (P r) x n (P (r + 1)) := if_pos h
theorem kNx_out {x : Int → Int} {n : Int} {P : Int → Int} {r : Int} (h : ¬ (0 ≤ r ∧ r + 1 < n)) : kNx x n P r = 0 := if_neg h
theorem kNx_rng {x : Int → Int} {n : Int} {P : Int → Int} (h : kOrd x n P) (r : Int) : 0 ≤ kNx x n P r ∧ (0 ≤ r → r + 1 < n → kNx x n P r ≤ n - P r ∧ kNx x n P r ≤ n - P (r + 1)) ∧ (0 ≤ n → kNx x n P r ≤ n) := by
  by_cases g : 0 ≤ r ∧ r + 1 < n
  · rw [kNx_in g]
    have h1 := h.1 r g.1 (by omega)
    have h2 := h.1 (r + 1) (by omega) g.2
    obtain ⟨a1, a2, a3, -, -⟩ := kL_spec (x := x) (nx := n) (a := P r) (y := x) (ny := n) (b := P (r + 1)) (by omega) (by omega)
    omega
  · rw [kNx_out g]; omega
theorem kRw_rng {x : Int → Int} {n : Int} {P : Int → Int} (h : kOrd x n P) {r : Int} (hr : 0 ≤ r ∧ r < n) : 0 ≤ kRw x n P r ∧ kRw x n P r ≤ n := by
  have h1 := h.1 r hr.1 hr.2
  obtain ⟨a1, a2, a3⟩ := kNx_rng h (r - 1)
  unfold kRw
  by_cases g : 1 ≤ r
  · have := a2 (by omega) (by omega)
    rw [show r - 1 + 1 = r by omega] at this
    omega
  · rw [kNx_out (by omega)]; omega
theorem kWf_len {M : kM} {i v : Int} (hW : kWf M) (hi : 0 ≤ i ∧ i < 3) (hv : 0 ≤ v ∧ v ≤ M i 1) : kWf (kU M i 1 v) := by
  intro k hk
  obtain ⟨a1, a2, a3⟩ := hW k hk
  by_cases e : k = i
  · subst e
    rw [kU_same]
    refine ⟨by omega, by omega, fun j j1 j2 => ?_⟩
    rw [kU_cell (by omega)]
    exact a3 j j1 (by omega)
  · rw [kU_cell e]
    refine ⟨a1, a2, fun j j1 j2 => ?_⟩
    rw [kU_cell (by omega)]
    exact a3 j j1 j2
theorem kWf_app {M : kM} {i st : Int} (hW : kWf M) (hi : 0 ≤ i ∧ i < 3) (hs : 0 ≤ st ∧ st ≤ 8) (hl : M i 1 < 40) : kWf (kU (kU M (i + 3) (M i 1) st) i 1 (M i 1 + 1)) := by
  intro k hk
  obtain ⟨a1, a2, a3⟩ := hW k hk
  by_cases e : k = i
  · subst e
    rw [kU_same]
    refine ⟨by omega, by omega, fun j j1 j2 => ?_⟩
    rw [kU_cell (by omega)]
    by_cases e2 : j = M k 1
    · rw [e2, kU_same]; exact hs
    · rw [kU_place e2]; exact a3 j j1 (by omega)
  · rw [kU_cell e, kU_cell (by omega)]
    refine ⟨a1, a2, fun j j1 j2 => ?_⟩
    rw [kU_cell (by omega), kU_cell (by omega)]
    exact a3 j j1 j2
theorem kWf_congr {M N : kM} (hW : kWf M) (h : ∀ c i : Int, 0 ≤ c → c < 6 → N c i = M c i) : kWf N := by
  intro k hk
  obtain ⟨a1, a2, a3⟩ := hW k hk
  rw [h k 1 (by omega) (by omega)]
  refine ⟨a1, a2, fun j j1 j2 => ?_⟩
  rw [h (k + 3) j (by omega) (by omega)]
  exact a3 j j1 j2
theorem kOrd_congr {x x' : Int → Int} {n n' : Int} {P P' : Int → Int} (h : kOrd x n P) (hn : n' = n) (hx : ∀ j : Int, 0 ≤ j → j < n → x' j = x j) (hP : ∀ r : Int, 0 ≤ r → r < n → P' r = P r) : kOrd x' n' P' := by
  subst hn
  refine ⟨fun r r1 r2 => by rw [hP r r1 r2]; exact h.1 r r1 r2, fun r s r1 rs s1 => ?_⟩
  rw [hP r r1 (by omega), hP s (by omega) s1]
  have b1 := h.1 r r1 (by omega)
  have b2 := h.1 s (by omega) s1
  obtain ⟨k, ⟨a1, a2, a3, a4, a5⟩, a6⟩ := h.2 r s r1 rs s1
  refine ⟨k, ⟨a1, a2, a3, fun t t1 t2 => ?_, ?_⟩, ?_⟩
  · rw [hx _ (by omega) (by omega), hx _ (by omega) (by omega)]; exact a4 t t1 t2
  · by_cases g : P r + k = n' ∨ P s + k = n'
    · omega
    · rw [hx _ (by omega) (by omega), hx _ (by omega) (by omega)]; omega
  · unfold kLt at a6 ⊢
    by_cases g : P r + k = n' ∨ P s + k = n'
    · omega
    · rw [hx _ (by omega) (by omega), hx _ (by omega) (by omega)]; omega
