/-! ===== both reckonings come to the same ===== -/
theorem kLeast (P : Int → Prop) : ∀ (m : Nat) (k : Int), k = (m : Int) → P k → ∃ j : Int, 0 ≤ j ∧ j ≤ k ∧ P j ∧ ∀ i : Int, 0 ≤ i → i < j → ¬ P i := by
  intro m
  induction m using Nat.strongRecOn with
  | ind m ih =>
    intro k hk hP
    by_cases h : ∃ i : Int, 0 ≤ i ∧ i < k ∧ P i
    · obtain ⟨i, i1, i2, i3⟩ := h
      obtain ⟨j, j1, j2, j3, j4⟩ := ih i.toNat (by omega) i (by omega) i3
      exact ⟨j, j1, by omega, j3, j4⟩
    · exact ⟨k, by omega, Int.le_refl _, hP, fun i i1 i2 i3 => h ⟨i, i1, i2, i3⟩⟩
theorem kL_tr {x y z : Int → Int} {nx a ny b nz c m : Int} (ha : a ≤ nx) (hb : b ≤ ny) (hc : c ≤ nz) (h1 : m ≤ kL x nx a y ny b) (h2 : m ≤ kL y ny b z nz c) : m ≤ kL x nx a z nz c := by
  have s1 := kL_spec (x := x) (y := y) ha hb
  have s2 := kL_spec (x := y) (y := z) hb hc
  have s3 := kL_spec (x := x) (y := z) ha hc
  have r1 := s1.2.1
  have r2 := s2.2.2.1
  refine (kLC_iff s3 (by omega) (by omega)).mpr (fun t t1 t2 => ?_)
  rw [s1.2.2.2.1 t t1 (by omega), s2.2.2.2.1 t t1 (by omega)]
theorem kL_mid {x : Int → Int} {n a b c : Int} (ha : a ≤ n) (hb : b ≤ n) (hc : c ≤ n) (h1 : kSL x n a b) (h2 : kSL x n b c) : kL x n a x n c ≤ kL x n a x n b ∧ kL x n a x n c ≤ kL x n b x n c := by
  have sy := kL_symm (x := x) (y := x) (nx := n) (ny := n) (a := a) (b := c) ha hc
  have sy2 := kL_symm (x := x) (y := x) (nx := n) (ny := n) (a := a) (b := b) ha hb
  constructor
  · rcases Int.lt_or_le (kL x n a x n b) (kL x n a x n c) with q | q
    · have := (kSL_like (x := x) (n := n) (a := b) (b := a) (c := c) (m := kL x n a x n c) hb ha hc (by omega) (by omega)).2
      exact absurd (this.mpr h2) (kSL_asymm h1)
    · exact q
  · rcases Int.lt_or_le (kL x n b x n c) (kL x n a x n c) with q | q
    · have := (kSL_like (x := x) (n := n) (a := b) (b := c) (c := a) (m := kL x n a x n c) hb hc ha (by omega) (by omega)).2
      exact absurd (this.mp h2) (kSL_asymm h1)
    · exact q
/-- two ends have no more in common than the neighbours between them -/
theorem kNx_min {x : Int → Int} {n : Int} {P : Int → Int} (h : kOrd x n P) {r s t : Int} (hr : 0 ≤ r) (hs : s < n) (h1 : r ≤ t) (h2 : t < s) : kL x n (P r) x n (P s) ≤ kNx x n P t := by
  have br := h.1 r hr (by omega)
  have bs := h.1 s (by omega) hs
  have bt := h.1 t (by omega) (by omega)
  have bu := h.1 (t + 1) (by omega) (by omega)
  rw [kNx_in (by omega)]
  have e1 : kL x n (P r) x n (P s) ≤ kL x n (P t) x n (P s) := by
    by_cases q : r = t
    · rw [q]; exact Int.le_refl _
    · exact (kL_mid (by omega) (by omega) (by omega) (h.2 r t hr (by omega) (by omega)) (h.2 t s (by omega) h2 hs)).2
  have e2 : kL x n (P t) x n (P s) ≤ kL x n (P t) x n (P (t + 1)) := by
    by_cases q : s = t + 1
    · rw [q]; exact Int.le_refl _
    · exact (kL_mid (by omega) (by omega) (by omega) (h.2 t (t + 1) (by omega) (by omega) (by omega)) (h.2 (t + 1) s (by omega) (by omega) hs)).1
  omega
/-- any two different places: their ranks, and the neighbours at the lesser one -/
theorem kNx_pair {x : Int → Int} {n : Int} {P : Int → Int} (h : kOrd x n P) {a b : Int} (ha : 0 ≤ a ∧ a < n) (hb : 0 ≤ b ∧ b < n) (hab : a ≠ b) : ∃ t : Int, 0 ≤ t ∧ t + 1 < n ∧ t ≤ kRk x n a ∧ kL x n a x n b ≤ kNx x n P t := by
  have ra := kRk_rng (x := x) ha
  have rb := kRk_rng (x := x) hb
  have pa := kOrd_rk_at h ha
  have pb := kOrd_rk_at h hb
  have hne : kRk x n a ≠ kRk x n b := fun q => hab (kRk_inj ha hb q)
  rcases Int.lt_or_le (kRk x n a) (kRk x n b) with q | q
  · refine ⟨kRk x n a, by omega, by omega, Int.le_refl _, ?_⟩
    have := kNx_min h (r := kRk x n a) (s := kRk x n b) (t := kRk x n a) ra.1 rb.2 (Int.le_refl _) q
    rw [pa, pb] at this
    exact this
  · refine ⟨kRk x n b, by omega, by omega, q, ?_⟩
    have := kNx_min h (r := kRk x n b) (s := kRk x n a) (t := kRk x n b) rb.1 ra.2 (Int.le_refl _) (by omega)
    rw [pa, pb, kL_symm (by omega) (by omega)] at this
    exact this
/-! counting -/
theorem kCnt_drop {Q : Int → Prop} {j : Int} : ∀ n : Nat, 0 ≤ j → j < (n : Int) → Q j → kCnt Q n = kCnt (fun k => Q k ∧ k ≠ j) n + 1
  | 0, h0, h1, _ => by omega
  | n + 1, h0, h1, hq => by
    rw [kCnt, kCnt]
    by_cases e : j = (n : Int)
    · subst e
      rw [kIf_t hq, kIf_f (fun q => q.2 rfl)]
      have : kCnt Q n = kCnt (fun k => Q k ∧ k ≠ (n : Int)) n := kCnt_congr n (fun k k1 k2 => ⟨fun q => ⟨q, by omega⟩, fun q => q.1⟩)
      omega
    · have ih := kCnt_drop (Q := Q) n h0 (by omega) hq
      by_cases g : Q (n : Int)
      · rw [kIf_t g, kIf_t ⟨g, Ne.symm e⟩]; omega
      · rw [kIf_f g, kIf_f (fun q => g q.1)]; omega
theorem kCnt_inj {R : Int → Int → Prop} : ∀ (m : Nat) (n : Nat) (P Q : Int → Prop), (∀ i : Int, 0 ≤ i → i < (m : Int) → P i → ∃ j : Int, 0 ≤ j ∧ j < (n : Int) ∧ Q j ∧ R i j) → (∀ i i' j : Int, P i → P i' → R i j → R i' j → i = i') → kCnt P m ≤ kCnt Q n
  | 0, n, P, Q, _, _ => (kCnt_rng Q n).1
  | m + 1, n, P, Q, h1, h2 => by
    rw [kCnt]
    by_cases g : P (m : Int)
    · rw [kIf_t g]
      obtain ⟨j, j1, j2, j3, j4⟩ := h1 (m : Int) (by omega) (by omega) g
      rw [kCnt_drop n j1 j2 j3]
      have ih := kCnt_inj m n (fun i => P i ∧ i ≠ (m : Int)) (fun k => Q k ∧ k ≠ j) (fun i i1 i2 i3 => by
        obtain ⟨k, k1, k2, k3, k4⟩ := h1 i i1 (by omega) i3.1
        refine ⟨k, k1, k2, ⟨k3, fun e => ?_⟩, k4⟩
        subst e
        exact i3.2 (h2 _ _ _ i3.1 g k4 j4)) (fun i i' k p1 p2 r1 r2 => h2 i i' k p1.1 p2.1 r1 r2)
      have e2 : kCnt P m = kCnt (fun i => P i ∧ i ≠ (m : Int)) m := kCnt_congr m (fun k k1 k2 => ⟨fun q => ⟨q, by omega⟩, fun q => q.1⟩)
      omega
    · rw [kIf_f g]
      have ih := kCnt_inj m n P Q (fun i i1 i2 i3 => h1 i i1 (by omega) i3) h2
      omega
theorem kSum_add (f g : Int → Int) : ∀ n : Nat, kSum (fun k => f k + g k) n = kSum f n + kSum g n
  | 0 => rfl
  | n + 1 => by rw [kSum, kSum, kSum, kSum_add f g n]; omega
theorem kSum_zero : ∀ n : Nat, kSum (fun _ => 0) n = 0
  | 0 => rfl
  | n + 1 => by rw [kSum, kSum_zero n]; rfl
theorem kSum_cnt (P : Int → Prop) : ∀ n : Nat, kSum (fun k => kIf (P k) 1 0) n = kCnt P n
  | 0 => rfl
  | n + 1 => by rw [kSum, kCnt, kSum_cnt P n]
theorem kSum_swap (R : Int → Int → Prop) (n : Nat) : ∀ m : Nat, kSum (fun a => kCnt (R a) n) m = kSum (fun t => kCnt (fun a => R a t) m) n
  | 0 => (kSum_zero n).symm
  | m + 1 => by
    rw [kSum, kSum_swap R n m]
    have e : (fun t => kCnt (fun a => R a t) (m + 1)) = fun t => kCnt (fun a => R a t) m + kIf (R (m : Int) t) 1 0 := rfl
    rw [e, kSum_add, kSum_cnt]
theorem kCnt_seg (lo hi : Int) : ∀ n : Nat, 0 ≤ lo → lo ≤ hi → kCnt (fun t => lo < t + 1 ∧ t + 1 ≤ hi) n = (if (n : Int) ≤ lo then 0 else if (n : Int) ≤ hi then (n : Int) - lo else hi - lo)
  | 0, h0, h1 => by rw [if_pos (by omega)]; rfl
  | n + 1, h0, h1 => by
    rw [kCnt, kCnt_seg lo hi n h0 h1]
    by_cases g : lo < (n : Int) + 1 ∧ (n : Int) + 1 ≤ hi
    · rw [kIf_t g]
      split <;> split <;> (try split) <;> omega
    · rw [kIf_f g]
      split <;> split <;> (try split) <;> omega
theorem kMb_lt {x : Int → Int} {n a m : Int} (h : kMb x n a < m) {b : Int} (hb : 0 ≤ b ∧ b < a) : kL x n a x n b < m := by
  have := (kMaxF_rng (fun b => kL x n a x n b) a.toNat).2.1 b hb.1 (by omega)
  unfold kMb at h
  omega
/-- the number of different rows: by places, or by ranks -/
theorem kRw_tot {x : Int → Int} {n : Int} {P : Int → Int} (hn : 0 ≤ n) (h : kOrd x n P) : kSum (kRw x n P) n.toNat = kSum (kDr x n) n.toNat := by
  have e1 : kSum (kDr x n) n.toNat = kSum (fun a => kCnt (fun t => kMb x n a < t + 1 ∧ t + 1 ≤ n - a) n.toNat) n.toNat := by
    refine kSum_congr _ (fun a a1 a2 => ?_)
    have hb := kMb_rng (x := x) (n := n) (a := a) (by omega)
    rw [kCnt_seg _ _ _ hb.1 hb.2]
    unfold kDr
    split <;> (try split) <;> omega
  have e2 : kSum (kRw x n P) n.toNat = kSum (fun r => kCnt (fun t => kNx x n P (r - 1) < t + 1 ∧ t + 1 ≤ n - P r) n.toNat) n.toNat := by
    refine kSum_congr _ (fun r r1 r2 => ?_)
    have hb := h.1 r r1 (by omega)
    obtain ⟨c1, c2, c3⟩ := kNx_rng h (r - 1)
    have c4 : kNx x n P (r - 1) ≤ n - P r := by
      by_cases g : 1 ≤ r
      · have := (c2 (by omega) (by omega)).2
        rwa [show r - 1 + 1 = r by omega] at this
      · rw [kNx_out (by omega)]; omega
    rw [kCnt_seg _ _ _ c1 c4]
    unfold kRw
    split <;> (try split) <;> omega
  rw [e1, e2, kSum_swap (fun a t => kMb x n a < t + 1 ∧ t + 1 ≤ n - a), kSum_swap (fun r t => kNx x n P (r - 1) < t + 1 ∧ t + 1 ≤ n - P r)]
  refine kSum_congr _ (fun t t1 t2 => ?_)
  have le1 : kCnt (fun a => kMb x n a < t + 1 ∧ t + 1 ≤ n - a) n.toNat ≤ kCnt (fun r => kNx x n P (r - 1) < t + 1 ∧ t + 1 ≤ n - P r) n.toNat := by
    refine kCnt_inj (R := fun a r => 0 ≤ a ∧ a < n ∧ 0 ≤ r ∧ r < n ∧ t + 1 ≤ kL x n a x n (P r)) _ _ _ _ (fun a a1 a2 a3 => ?_) (fun a b r p1 p2 r1 r2 => ?_)
    · have ra := kRk_rng (x := x) (n := n) (a := a) (by omega)
      obtain ⟨r, r1, r2, r3, r4⟩ := kLeast (fun r => t + 1 ≤ kL x n a x n (P r)) (kRk x n a).toNat (kRk x n a) (by omega) (by
        show t + 1 ≤ kL x n a x n (P (kRk x n a))
        rw [kOrd_rk_at h (by omega), kL_self (by omega)]; exact a3.2)
      have hb := h.1 r r1 (by omega)
      have hl := kL_rng (x := x) (y := x) (nx := n) (ny := n) (a := a) (b := P r) (by omega) (by omega)
      refine ⟨r, r1, by omega, ⟨?_, by omega⟩, by omega, by omega, r1, by omega, r3⟩
      rcases Int.lt_or_le (kNx x n P (r - 1)) (t + 1) with q | q
      · exact q
      · exfalso
        by_cases g : 1 ≤ r
        · rw [kNx_in (by omega), show r - 1 + 1 = r by omega] at q
          have hb2 := h.1 (r - 1) (by omega) (by omega)
          refine r4 (r - 1) (by omega) (by omega) (kL_tr (y := x) (ny := n) (b := P r) (by omega) (by omega) (by omega) r3 ?_)
          rw [kL_symm (by omega) (by omega)]; exact q
        · rw [kNx_out (by omega)] at q; omega
    · obtain ⟨c1, c2, c3, c4, c5⟩ := r1
      obtain ⟨d1, d2, -, -, d5⟩ := r2
      have hb := h.1 r c3 c4
      have sb := kL_symm (x := x) (y := x) (nx := n) (ny := n) (a := b) (b := P r) (by omega) (by omega)
      have q := kL_tr (x := x) (y := x) (z := x) (nx := n) (ny := n) (nz := n) (a := a) (b := P r) (c := b) (m := t + 1) (by omega) (by omega) (by omega) c5 (by omega)
      have sq := kL_symm (x := x) (y := x) (nx := n) (ny := n) (a := a) (b := b) (by omega) (by omega)
      rcases Int.lt_or_le a b with g | g
      · have := kMb_lt p2.1 (b := a) (by omega); omega
      · rcases Int.lt_or_le b a with g2 | g2
        · have := kMb_lt p1.1 (b := b) (by omega); omega
        · omega
  have le2 : kCnt (fun r => kNx x n P (r - 1) < t + 1 ∧ t + 1 ≤ n - P r) n.toNat ≤ kCnt (fun a => kMb x n a < t + 1 ∧ t + 1 ≤ n - a) n.toNat := by
    refine kCnt_inj (R := fun r a => 0 ≤ a ∧ a < n ∧ 0 ≤ r ∧ r < n ∧ t + 1 ≤ kL x n (P r) x n a) _ _ _ _ (fun r r1 r2 r3 => ?_) (fun r s a p1 p2 q1 q2 => ?_)
    · have hb := h.1 r r1 (by omega)
      obtain ⟨a, a1, a2, a3, a4⟩ := kLeast (fun a => t + 1 ≤ kL x n (P r) x n a) (P r).toNat (P r) (by omega) (by
        show t + 1 ≤ kL x n (P r) x n (P r)
        rw [kL_self (by omega)]; exact r3.2)
      have hl := kL_rng (x := x) (y := x) (nx := n) (ny := n) (a := P r) (b := a) (by omega) (by omega)
      refine ⟨a, a1, by omega, ⟨?_, by omega⟩, a1, by omega, r1, by omega, a3⟩
      rcases (kMaxF_rng (fun b => kL x n a x n b) a.toNat).2.2 with q | ⟨b, b1, b2, b3⟩
      · show kMaxF _ _ < _
        omega
      · show kMaxF _ _ < _
        rw [← b3]
        rcases Int.lt_or_le (kL x n a x n b) (t + 1) with q | q
        · exact q
        · exact absurd (kL_tr (x := x) (y := x) (z := x) (nx := n) (ny := n) (nz := n) (b := a) (by omega) (by omega) (by omega) a3 q) (a4 b b1 (by omega))
    · obtain ⟨c1, c2, c3, c4, c5⟩ := q1
      obtain ⟨-, -, d3, d4, d5⟩ := q2
      have hr := h.1 r c3 c4
      have hs := h.1 s d3 d4
      have sy := kL_symm (x := x) (y := x) (nx := n) (ny := n) (a := P s) (b := a) (by omega) (by omega)
      have q := kL_tr (x := x) (y := x) (z := x) (nx := n) (ny := n) (nz := n) (a := P r) (b := a) (c := P s) (m := t + 1) (by omega) (by omega) (by omega) c5 (by omega)
      have sy2 := kL_symm (x := x) (y := x) (nx := n) (ny := n) (a := P r) (b := P s) (by omega) (by omega)
      rcases Int.lt_or_le r s with g | g
      · have := kNx_min h (r := r) (s := s) (t := s - 1) c3 d4 (by omega) (by omega)
        have := p2.1
        omega
      · rcases Int.lt_or_le s r with g2 | g2
        · have := kNx_min h (r := s) (s := r) (t := r - 1) d3 c4 (by omega) (by omega)
          have := p1.1
          omega
        · omega
  omega
/-! the longest repeat, the seam: the first rank with the most, and the first place of its row -/
theorem kTop_class {f : Int → Int} {x : Int → Int} {n : Int} {P : Int → Int} (h : kOrd x n P) {q w k : Int} (hq : 0 ≤ q ∧ q < n) (hk : 0 < k) (hw : kFst x n x (P q) k w) (hPk : P q + k ≤ n) (h0 : 0 ≤ w)
    (h1 : ∀ a : Int, 0 ≤ a → a < n → f a ≤ k) (h2 : k ≤ kL x n w x n (P q) → k ≤ f w) (h3 : ∀ a : Int, 0 ≤ a → a < n → f a = k → q ≤ kRk x n a) : kTop f x n n w k := by
  have bq := h.1 q hq.1 hq.2
  obtain ⟨w1, w2, w3⟩ : w + k ≤ n ∧ kEq x w x (P q) k ∧ ∀ a : Int, 0 ≤ a → a < w → ¬ kEq x a x (P q) k := by
    rcases hw with ⟨g, -⟩ | ⟨-, g1, g2, g3⟩
    · omega
    · exact ⟨g1, g2, g3⟩
  have lw : k ≤ kL x n w x n (P q) := (kLC_iff (kL_spec (by omega) (by omega)) (by omega) (by omega)).mpr w2
  have fw := h2 lw
  have fw2 := h1 w h0 (by omega)
  refine Or.inr ⟨h0, by omega, hk, by omega, fun a a1 a2 => ?_⟩
  have fa := h1 a a1 a2
  rcases Int.lt_or_le (f a) k with g | g
  · exact Or.inl g
  · refine Or.inr ⟨by omega, ?_⟩
    rcases Int.lt_or_le (kL x n a x n w) k with g2 | g2
    · refine Or.inr ⟨g2, ?_⟩
      have hne : a ≠ w := by
        rintro rfl
        rw [kL_self (by omega)] at g2; omega
      rcases kSL_total (x := x) (n := n) (a := a) (b := w) (by omega) (by omega) hne with g3 | g3
      · exfalso
        have lw2 : k ≤ kL x n (P q) x n w := by rw [kL_symm (by omega) (by omega)]; exact lw
        have := (kSL_like (x := x) (n := n) (a := a) (b := w) (c := P q) (m := k) (by omega) (by omega) (by omega) lw2 g2).2.mp g3
        have r1 := kRk_lt (x := x) (n := n) ⟨a1, a2⟩ this
        rw [kOrd_at h hq] at r1
        have := h3 a a1 a2 (by omega)
        omega
      · exact g3
    · refine Or.inl ⟨g2, ?_⟩
      rcases Int.lt_or_le a w with g3 | g3
      · have s1 := kL_tr (x := x) (y := x) (z := x) (nx := n) (ny := n) (nz := n) (a := a) (b := w) (c := P q) (m := k) (by omega) (by omega) (by omega) g2 lw
        have s2 := kL_rng (x := x) (y := x) (nx := n) (ny := n) (a := a) (b := w) (by omega) (by omega)
        exact absurd ((kLC_iff (kL_spec (x := x) (y := x) (nx := n) (ny := n) (a := a) (b := P q) (by omega) (by omega)) (by omega) (by omega)).mp s1) (w3 a a1 g3)
      · exact g3
theorem kMbs_le {x : Int → Int} {n : Int} {P : Int → Int} (h : kOrd x n P) {k : Int} (hk : 0 ≤ k) (h1 : ∀ r : Int, 0 ≤ r → r < n → kNx x n P r ≤ k) {a : Int} (ha : 0 ≤ a ∧ a < n) : kMbs x n a ≤ k := by
  refine kMaxF_le hk (fun b b1 b2 => ?_)
  split
  · exact hk
  · rename_i g
    obtain ⟨t, t1, t2, -, t4⟩ := kNx_pair h ha (b := b) (by omega) (Ne.symm g)
    have := h1 t t1 (by omega)
    omega
theorem kRep_none {x : Int → Int} {n : Int} {P : Int → Int} (h : kOrd x n P) (h1 : ∀ r : Int, 0 ≤ r → r < n → kNx x n P r ≤ 0) : kTop (kMbs x n) x n n (-1) 0 :=
  Or.inl ⟨rfl, rfl, fun a a1 a2 => kMbs_le h (Int.le_refl _) h1 ⟨a1, a2⟩⟩
theorem kRep_some {x : Int → Int} {n : Int} {P : Int → Int} (h : kOrd x n P) {q w : Int} (hq : 0 ≤ q ∧ q < n) (hk : 0 < kNx x n P q) (h1 : ∀ r : Int, 0 ≤ r → r < n → kNx x n P r ≤ kNx x n P q) (h2 : ∀ r : Int, 0 ≤ r → r < q → kNx x n P r < kNx x n P q) (hw : kFst x n x (P q) (kNx x n P q) w) (h0 : 0 ≤ w) : kTop (kMbs x n) x n n w (kNx x n P q) := by
  have hq2 : q + 1 < n := by
    rcases Int.lt_or_le (q + 1) n with g | g
    · exact g
    · rw [kNx_out (by omega)] at hk; omega
  have b1 := h.1 q hq.1 hq.2
  have b2 := h.1 (q + 1) (by omega) hq2
  have hl := ((kNx_rng h q).2.1 hq.1 hq2)
  refine kTop_class h hq hk hw (by omega) h0 (fun a a1 a2 => kMbs_le h (by omega) h1 ⟨a1, a2⟩) (fun g => ?_) (fun a a1 a2 e => ?_)
  · have hwn : w < n := by
      have := (kL_rng (x := x) (y := x) (nx := n) (ny := n) (a := w) (b := P q) (by
        rcases hw with ⟨g, -⟩ | ⟨-, g, -, -⟩ <;> omega) (by omega)).2.1
      omega
    have rg := (kMaxF_rng (fun b => if b = w then 0 else kL x n w x n b) n.toNat).2.1
    by_cases e : P q = w
    · have hne : P (q + 1) ≠ w := by
        intro e2
        have := h.2 q (q + 1) hq.1 (by omega) hq2
        rw [e, e2] at this
        exact kSL_irr this
      have := rg (P (q + 1)) b2.1 (by omega)
      rw [if_neg hne] at this
      rw [kNx_in ⟨hq.1, hq2⟩, e]
      unfold kMbs
      exact this
    · have := rg (P q) b1.1 (by omega)
      rw [if_neg e] at this
      unfold kMbs
      omega
  · rcases (kMaxF_rng (fun b => if b = a then 0 else kL x n a x n b) n.toNat).2.2 with g | ⟨b, c1, c2, c3⟩
    · unfold kMbs at e; omega
    · unfold kMbs at e
      have hne : a ≠ b := by
        rintro rfl
        rw [if_pos rfl] at c3; omega
      rw [if_neg (Ne.symm hne), e] at c3
      obtain ⟨t, t1, t2, t3, t4⟩ := kNx_pair h ⟨a1, a2⟩ (b := b) (by omega) hne
      rcases Int.lt_or_le t q with g | g
      · have := h2 t t1 g; omega
      · omega
theorem kMac_of {x : Int → Int} {nx : Int} {y : Int → Int} {ny a z : Int} (ha : a ≤ nx) (h : kMx (kCom x nx a y ny) z) : z = kMac x nx y ny a := by
  obtain ⟨h1, h2, h3⟩ := h
  obtain ⟨g1, g2, g3⟩ := kMaxF_rng (fun b => kL x nx a y ny b) ny.toNat
  have e1 : z ≤ kMac x nx y ny a := by
    rcases h2 with q | ⟨b, b1, b2, b3⟩
    · unfold kMac; omega
    · rw [kL_of b3]; exact g2 b b1 (by omega)
  have e2 : kMac x nx y ny a ≤ z := by
    rcases g3 with q | ⟨b, b1, b2, b3⟩
    · unfold kMac; omega
    · unfold kMac; rw [← b3]; exact h3 _ ⟨b, b1, by omega, kL_spec ha (by omega)⟩
  omega
theorem kSeam_some {x : Int → Int} {nx : Int} {y : Int → Int} {ny : Int} {P : Int → Int} (h : kOrd x nx P) {q w : Int} (hq : 0 ≤ q ∧ q < nx) (hk : 0 < kMac x nx y ny (P q)) (h1 : ∀ r : Int, 0 ≤ r → r < nx → kMac x nx y ny (P r) ≤ kMac x nx y ny (P q)) (h2 : ∀ r : Int, 0 ≤ r → r < q → kMac x nx y ny (P r) < kMac x nx y ny (P q)) (hw : kFst x nx x (P q) (kMac x nx y ny (P q)) w) (h0 : 0 ≤ w) : kTop (kMac x nx y ny) x nx nx w (kMac x nx y ny (P q)) := by
  have b1 := h.1 q hq.1 hq.2
  have hr := kMac_rng (x := x) (y := y) (nx := nx) (ny := ny) (a := P q) (by omega)
  refine kTop_class h hq hk hw (by omega) h0 (fun a a1 a2 => ?_) (fun g => ?_) (fun a a1 a2 e => ?_)
  · have ra := kRk_rng (x := x) (n := nx) ⟨a1, a2⟩
    have := h1 (kRk x nx a) ra.1 ra.2
    rwa [kOrd_rk_at h ⟨a1, a2⟩] at this
  · have hwn : w ≤ nx := by
      rcases hw with ⟨g, -⟩ | ⟨-, g, -, -⟩ <;> omega
    rcases (kMaxF_rng (fun b => kL x nx (P q) y ny b) ny.toNat).2.2 with e | ⟨b, c1, c2, c3⟩
    · unfold kMac at hk; omega
    · have := kL_tr (x := x) (y := x) (z := y) (nx := nx) (ny := nx) (nz := ny) (a := w) (b := P q) (c := b) (m := kMac x nx y ny (P q)) hwn (by omega) (by omega) g (by rw [c3]; exact Int.le_refl _)
      have := (kMaxF_rng (fun b => kL x nx w y ny b) ny.toNat).2.1 b c1 c2
      show _ ≤ kMaxF _ _
      omega
  · have ra := kRk_rng (x := x) (n := nx) ⟨a1, a2⟩
    rcases Int.lt_or_le (kRk x nx a) q with g | g
    · have := h2 (kRk x nx a) ra.1 g
      rw [kOrd_rk_at h ⟨a1, a2⟩] at this
      omega
    · exact g
theorem kSeam_none {x : Int → Int} {nx : Int} {y : Int → Int} {ny : Int} {P : Int → Int} (h : kOrd x nx P) (h1 : ∀ r : Int, 0 ≤ r → r < nx → kMac x nx y ny (P r) ≤ 0) : kTop (kMac x nx y ny) x nx nx (-1) 0 :=
  Or.inl ⟨rfl, rfl, fun a a1 a2 => by
    have ra := kRk_rng (x := x) (n := nx) ⟨a1, a2⟩
    have := h1 (kRk x nx a) ra.1 ra.2
    rwa [kOrd_rk_at h ⟨a1, a2⟩] at this⟩
