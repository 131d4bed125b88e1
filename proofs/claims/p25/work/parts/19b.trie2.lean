/-! ===== the order of rows, wherever they stand ===== -/
def kWx (x : Int → Int) (nx a : Int) (y : Int → Int) (ny b : Int) : Prop := ∃ k : Int, kLC x nx a y ny b k ∧ kLt x nx a y ny b k
theorem kWx_irr {x : Int → Int} {n a : Int} : ¬ kWx x n a x n a := kSL_irr
theorem kWx_ext {x : Int → Int} {nx a : Int} {y : Int → Int} {ny b : Int} {z : Int → Int} {nz c : Int} (h : kWx x nx a y ny b) (h1 : ny - b ≤ nz - c) (h2 : kEq y b z c (ny - b)) : kWx x nx a z nz c := by
  obtain ⟨k, ⟨a1, a2, a3, a4, a5⟩, a6⟩ := h
  unfold kLt at a6
  have e := h2 k a1 (by omega)
  refine ⟨k, ⟨a1, a2, by omega, fun t t1 t2 => (a4 t t1 t2).trans (h2 t t1 (by omega)), by omega⟩, ?_⟩
  unfold kLt
  omega
theorem kWx_pre {x : Int → Int} {nx a : Int} {y : Int → Int} {ny b : Int} (h1 : kEq x a y b (nx - a)) (h2 : a ≤ nx) (h3 : nx - a < ny - b) : kWx x nx a y ny b :=
  ⟨nx - a, ⟨by omega, by omega, by omega, h1, Or.inl (by omega)⟩, Or.inl ⟨by omega, by omega⟩⟩
theorem kWx_sib {x : Int → Int} {nx a : Int} {y : Int → Int} {ny b d : Int} (hd : 0 ≤ d) (h1 : a + d < nx) (h2 : b + d < ny) (h3 : kEq x a y b d) (h4 : x (a + d) < y (b + d)) : kWx x nx a y ny b :=
  ⟨d, ⟨hd, by omega, by omega, h3, by omega⟩, Or.inr ⟨h1, h2, h4⟩⟩
/-! ===== sequences: o from place r0 on is what has been laid, in order, whole ===== -/
def kQ (ok : Int → Prop) (Lt : Int → Int → Prop) (o0 : Int → Int) (r0 : Int) (o : Int → Int) (r : Int) (done : Int → Prop) : Prop :=
  0 ≤ r0 ∧ r0 ≤ r ∧ (∀ i : Int, 0 ≤ i → i < r0 → o i = o0 i) ∧ (∀ i : Int, 0 ≤ i → i < r → ok (o i)) ∧ (∀ i j : Int, 0 ≤ i → i < j → j < r → Lt (o i) (o j)) ∧ (∀ i : Int, r0 ≤ i → i < r → done (o i)) ∧ ∀ a : Int, ok a → done a → ∃ i : Int, r0 ≤ i ∧ i < r ∧ o i = a
/-- what there must be of a sequence: all are rows, and go up -/
def kSt (ok : Int → Prop) (Lt : Int → Int → Prop) (o : Int → Int) (r : Int) : Prop := 0 ≤ r ∧ (∀ i : Int, 0 ≤ i → i < r → ok (o i)) ∧ ∀ i j : Int, 0 ≤ i → i < j → j < r → Lt (o i) (o j)
theorem kQ.st {ok : Int → Prop} {Lt : Int → Int → Prop} {o0 : Int → Int} {r0 : Int} {o : Int → Int} {r : Int} {done : Int → Prop} (h : kQ ok Lt o0 r0 o r done) : kSt ok Lt o r := ⟨by have := h.1; have := h.2.1; omega, h.2.2.2.1, h.2.2.2.2.1⟩
theorem kQ_0 {ok : Int → Prop} {Lt : Int → Int → Prop} {o : Int → Int} {r : Int} (h : kSt ok Lt o r) {done : Int → Prop} (hd : ∀ a : Int, ok a → ¬ done a) : kQ ok Lt o r o r done :=
  ⟨h.1, Int.le_refl _, fun _ _ _ => rfl, h.2.1, h.2.2, fun i h1 h2 => by omega, fun a h1 h2 => absurd h2 (hd a h1)⟩
theorem kQ_push {ok : Int → Prop} {Lt : Int → Int → Prop} {o : Int → Int} {r : Int} (h : kSt ok Lt o r) {o' : Int → Int} {b : Int} (h1 : o' r = b) (h2 : ∀ i : Int, 0 ≤ i → i < r → o' i = o i) (hb : ok b) (hl : ∀ i : Int, 0 ≤ i → i < r → Lt (o i) b) {done : Int → Prop} (hd : ∀ a : Int, ok a → (done a ↔ a = b)) : kQ ok Lt o r o' (r + 1) done := by
  refine ⟨h.1, by omega, h2, fun i i1 i2 => ?_, fun i j i1 ij j2 => ?_, fun i i1 i2 => ?_, fun a a1 a2 => ?_⟩
  · by_cases e : i = r
    · rw [e, h1]; exact hb
    · rw [h2 i i1 (by omega)]; exact h.2.1 i i1 (by omega)
  · by_cases e : j = r
    · rw [e, h1, h2 i i1 (by omega)]; exact hl i i1 (by omega)
    · rw [h2 i i1 (by omega), h2 j (by omega) (by omega)]; exact h.2.2 i j i1 ij (by omega)
  · rw [show i = r by omega, h1]; exact (hd b hb).mpr rfl
  · exact ⟨r, Int.le_refl _, by omega, by rw [h1]; exact ((hd a a1).mp a2).symm⟩
theorem kQ_join {ok : Int → Prop} {Lt : Int → Int → Prop} {o0 : Int → Int} {r0 : Int} {o : Int → Int} {r : Int} {o' : Int → Int} {r' : Int} {d d' d'' : Int → Prop} (h : kQ ok Lt o0 r0 o r d) (g : kQ ok Lt o r o' r' d') (hd : ∀ a : Int, ok a → (d'' a ↔ d a ∨ d' a)) : kQ ok Lt o0 r0 o' r' d'' := by
  obtain ⟨a1, a2, a3, a4, a5, a6, a7⟩ := h
  obtain ⟨b1, b2, b3, b4, b5, b6, b7⟩ := g
  refine ⟨a1, by omega, fun i i1 i2 => by rw [b3 i i1 (by omega)]; exact a3 i i1 i2, b4, b5, fun i i1 i2 => ?_, fun a q1 q2 => ?_⟩
  · refine (hd _ (b4 i (by omega) i2)).mpr ?_
    rcases Int.lt_or_le i r with e | e
    · rw [b3 i (by omega) e]; exact Or.inl (a6 i i1 e)
    · exact Or.inr (b6 i e i2)
  · rcases (hd a q1).mp q2 with z | z
    · obtain ⟨i, i1, i2, i3⟩ := a7 a q1 z
      exact ⟨i, i1, by omega, by rw [b3 i (by omega) i2]; exact i3⟩
    · obtain ⟨i, i1, i2, i3⟩ := b7 a q1 z
      exact ⟨i, by omega, i2, i3⟩
theorem kQ_iff {ok : Int → Prop} {Lt : Int → Int → Prop} {o0 : Int → Int} {r0 : Int} {o : Int → Int} {r : Int} {d d' : Int → Prop} (h : kQ ok Lt o0 r0 o r d) (hd : ∀ a : Int, ok a → (d' a ↔ d a)) : kQ ok Lt o0 r0 o r d' := by
  obtain ⟨a1, a2, a3, a4, a5, a6, a7⟩ := h
  exact ⟨a1, a2, a3, a4, a5, fun i i1 i2 => (hd _ (a4 i (by omega) i2)).mpr (a6 i i1 i2), fun a q1 q2 => a7 a q1 ((hd a q1).mp q2)⟩
theorem kQ_ext {ok : Int → Prop} {Lt : Int → Int → Prop} {o0 : Int → Int} {r0 : Int} {o o2 : Int → Int} {r : Int} {d : Int → Prop} (h : kQ ok Lt o0 r0 o r d) (he : ∀ i : Int, 0 ≤ i → o2 i = o i) : kQ ok Lt o0 r0 o2 r d := by
  obtain ⟨a1, a2, a3, a4, a5, a6, a7⟩ := h
  refine ⟨a1, a2, fun i i1 i2 => by rw [he i i1]; exact a3 i i1 i2, fun i i1 i2 => by rw [he i i1]; exact a4 i i1 i2, fun i j i1 ij j2 => by rw [he i i1, he j (by omega)]; exact a5 i j i1 ij j2, fun i i1 i2 => by rw [he i (by omega)]; exact a6 i i1 i2, fun a q1 q2 => ?_⟩
  obtain ⟨i, i1, i2, i3⟩ := a7 a q1 q2
  exact ⟨i, i1, i2, by rw [he i (by omega)]; exact i3⟩
/-- a sequence that goes up has each item once: it is no longer than there are items -/
theorem kSt_cap {ok : Int → Prop} {Lt : Int → Int → Prop} {o : Int → Int} {r : Int} (h : kSt ok Lt o r) (hirr : ∀ a : Int, ¬ Lt a a) {n : Nat} (hin : ∀ a : Int, ok a → 0 ≤ a ∧ a < (n : Int)) (P : Int → Prop) (hP : ∀ i : Int, 0 ≤ i → i < r → P (o i)) : r ≤ kCnt (fun a => ok a ∧ P a) n := by
  have inj : ∀ i j : Int, 0 ≤ i → i < r → 0 ≤ j → j < r → o i = o j → i = j := by
    intro i j i1 i2 j1 j2 e
    rcases Int.lt_or_le i j with g | g
    · have := h.2.2 i j i1 g j2
      rw [e] at this
      exact absurd this (hirr _)
    · rcases Int.lt_or_le j i with g2 | g2
      · have := h.2.2 j i j1 g2 i2
        rw [e] at this
        exact absurd this (hirr _)
      · omega
  have h0 := h.1
  have e1 : kCnt (fun i : Int => i < r) r.toNat = r := by
    have key : ∀ m : Nat, (m : Int) ≤ r → kCnt (fun i : Int => i < r) m = (m : Int) := by
      intro m
      induction m with
      | zero => intro _; rfl
      | succ m ih => intro hm; rw [kCnt, ih (by omega), kIf_t (by omega)]; omega
    rw [key r.toNat (by omega)]; omega
  rw [← e1]
  refine kCnt_inj (R := fun i a => 0 ≤ i ∧ i < r ∧ o i = a) _ _ _ _ (fun i i1 i2 i3 => ?_) (fun i i' a p1 p2 r1 r2 => ?_)
  · have q := h.2.1 i i1 i3
    have z := hin _ q
    exact ⟨o i, z.1, z.2, ⟨q, hP i i1 i3⟩, i1, i3, rfl⟩
  · exact inj i i' r1.1 r1.2.1 r2.1 r2.2.1 (r1.2.2.trans r2.2.2.symm)
/-- one that has every item is no shorter -/
theorem kQ_full {ok : Int → Prop} {Lt : Int → Int → Prop} {o0 : Int → Int} {o : Int → Int} {r : Int} {d : Int → Prop} (h : kQ ok Lt o0 0 o r d) (hd : ∀ a : Int, ok a → d a) {n : Nat} : kCnt ok n ≤ r := by
  obtain ⟨a1, a2, a3, a4, a5, a6, a7⟩ := h
  have e2 := (kCnt_rng (fun i : Int => i < r) r.toNat).2
  have : kCnt ok n ≤ kCnt (fun i : Int => i < r) r.toNat := by
    refine kCnt_inj (R := fun a i => ok a ∧ o i = a) _ _ _ _ (fun a i1 i2 i3 => ?_) (fun a a' i p1 p2 r1 r2 => r1.2.symm.trans r2.2)
    obtain ⟨i, g1, g2, g3⟩ := a7 a i3 (hd a i3)
    exact ⟨i, g1, by omega, g2, i3, g3⟩
  omega
/-! ===== walking the tree: items are rows told by a function, its end and its start ===== -/
def kLtI (f : Int → Int → Int) (n s : Int → Int) (a b : Int) : Prop := kWx (f a) (n a) (s a) (f b) (n b) (s b)
def kPrI (dp : Int → Int) (wd : Int → Int → Int) (f : Int → Int → Int) (n s : Int → Int) (v a : Int) : Prop := s a + dp v ≤ n a ∧ kEq (wd v) 0 (f a) (s a) (dp v)
def kBel (dp : Int → Int) (wd : Int → Int → Int) (f : Int → Int → Int) (n s : Int → Int) (a v : Int) : Prop := kWx (f a) (n a) (s a) (wd v) (dp v) 0
def kDnI (dp : Int → Int) (wd : Int → Int → Int) (f : Int → Int → Int) (n s : Int → Int) (v q a : Int) : Prop := kPrI dp wd f n s v a ∧ (s a + dp v = n a ∨ f a (s a + dp v) < q)
/-- an item whose row begins with that of v, and goes on, stands below a child of v -/
def kChI (nx dp : Int → Int) (wd : Int → Int → Int) (mnh : Int → Int) (K : Int) (f : Int → Int → Int) (n s : Int → Int) (ok : Int → Prop) (v : Int) : Prop :=
  ∀ a : Int, ok a → kPrI dp wd f n s v a → s a + dp v < n a → (0 ≤ f a (s a + dp v) ∧ f a (s a + dp v) ≤ 8) ∧ (1 ≤ nx (9 * v + f a (s a + dp v)) ∧ nx (9 * v + f a (s a + dp v)) < K) ∧ 0 < mnh (nx (9 * v + f a (s a + dp v))) ∧ kPrI dp wd f n s (nx (9 * v + f a (s a + dp v))) a
theorem kLtI_irr {f : Int → Int → Int} {n s : Int → Int} (a : Int) : ¬ kLtI f n s a a := kWx_irr
theorem kBel_lt {dp : Int → Int} {wd f : Int → Int → Int} {n s : Int → Int} {a v b : Int} (h : kBel dp wd f n s a v) (g : kPrI dp wd f n s v b) : kLtI f n s a b := kWx_ext h (by have := g.1; omega) (by rw [Int.sub_zero]; exact g.2)
/-- c is a child of v: by the stitch q -/
def kKid (dp : Int → Int) (wd : Int → Int → Int) (v q c : Int) : Prop := dp c = dp v + 1 ∧ kEq (wd c) 0 (wd v) 0 (dp v) ∧ wd c (dp v) = q
theorem kBel_kid {dp : Int → Int} {wd f : Int → Int → Int} {n s : Int → Int} {a v q c : Int} (h : kBel dp wd f n s a v) (hk : kKid dp wd v q c) : kBel dp wd f n s a c := kWx_ext h (by have := hk.1; omega) (by rw [Int.sub_zero]; exact kEq_symm hk.2.1)
theorem kBel_done {dp : Int → Int} {wd f : Int → Int → Int} {n s : Int → Int} {a v q c : Int} (hv : 0 ≤ dp v) (h : kDnI dp wd f n s v q a) (hk : kKid dp wd v q c) : kBel dp wd f n s a c := by
  obtain ⟨⟨h1, h2⟩, h3⟩ := h
  obtain ⟨k1, k2, k3⟩ := hk
  have he : kEq (f a) (s a) (wd c) 0 (dp v) := kEq_symm (kEq_tr k2 h2)
  by_cases e : s a + dp v = n a
  · refine kWx_pre ?_ (by omega) (by omega)
    rw [show n a - s a = dp v by omega]; exact he
  · refine kWx_sib (d := dp v) hv (by omega) (by omega) he ?_
    rw [Int.zero_add, k3]
    exact h3.resolve_left e
theorem kPre_kid {dp : Int → Int} {wd f : Int → Int → Int} {n s : Int → Int} {a v q c : Int} (hv : 0 ≤ dp v) (h : kPrI dp wd f n s c a) (hk : kKid dp wd v q c) : kPrI dp wd f n s v a ∧ s a + dp v < n a ∧ f a (s a + dp v) = q := by
  obtain ⟨k1, k2, k3⟩ := hk
  obtain ⟨h1, h2⟩ := h
  have e := h2 (dp v) hv (by omega)
  rw [Int.zero_add, k3] at e
  exact ⟨⟨by omega, kEq_tr (kEq_symm k2) (kEq_le h2 (by omega))⟩, by omega, e.symm⟩
/-- one child's turn: its items are laid -/
theorem kWk_kid {nx dp : Int → Int} {wd : Int → Int → Int} {mnh : Int → Int} {K : Int} {f : Int → Int → Int} {n s : Int → Int} {ok : Int → Prop} {v q c : Int} {o0 : Int → Int} {r0 : Int} {o : Int → Int} {r : Int} {o' : Int → Int} {r' : Int} (hv : 0 ≤ dp v) (hc : c = nx (9 * v + q)) (hk : kKid dp wd v q c) (hch : kChI nx dp wd mnh K f n s ok v)
    (h : kQ ok (kLtI f n s) o0 r0 o r (kDnI dp wd f n s v q)) (g : kQ ok (kLtI f n s) o r o' r' (kPrI dp wd f n s c)) : kQ ok (kLtI f n s) o0 r0 o' r' (kDnI dp wd f n s v (q + 1)) := by
  refine kQ_join h g (fun a ha => ⟨fun z => ?_, fun z => ?_⟩)
  · obtain ⟨z1, z2⟩ := z
    by_cases e : s a + dp v = n a
    · exact Or.inl ⟨z1, Or.inl e⟩
    · have z3 := z2.resolve_left e
      by_cases e2 : f a (s a + dp v) = q
      · have := (hch a ha z1 (by have := z1.1; omega)).2.2.2
        rw [e2, ← hc] at this
        exact Or.inr this
      · exact Or.inl ⟨z1, Or.inr (by omega)⟩
  · rcases z with ⟨z1, z2⟩ | z
    · exact ⟨z1, z2.imp_right (fun y => by omega)⟩
    · obtain ⟨y1, y2, y3⟩ := kPre_kid hv z hk
      exact ⟨y1, Or.inr (by omega)⟩
/-- no child there, or none with rows of this hem: nothing is owed -/
theorem kWk_none {nx dp : Int → Int} {wd : Int → Int → Int} {mnh : Int → Int} {K : Int} {f : Int → Int → Int} {n s : Int → Int} {ok : Int → Prop} {v q : Int} {o0 : Int → Int} {r0 : Int} {o : Int → Int} {r : Int} (hch : kChI nx dp wd mnh K f n s ok v) (hno : nx (9 * v + q) ≤ 0 ∨ mnh (nx (9 * v + q)) ≤ 0)
    (h : kQ ok (kLtI f n s) o0 r0 o r (kDnI dp wd f n s v q)) : kQ ok (kLtI f n s) o0 r0 o r (kDnI dp wd f n s v (q + 1)) := by
  refine kQ_iff h (fun a ha => ⟨fun z => ?_, fun z => ⟨z.1, z.2.imp_right (fun y => by omega)⟩⟩)
  obtain ⟨z1, z2⟩ := z
  by_cases e : s a + dp v = n a
  · exact ⟨z1, Or.inl e⟩
  · have z3 := z2.resolve_left e
    refine ⟨z1, Or.inr ?_⟩
    by_cases e2 : f a (s a + dp v) = q
    · obtain ⟨-, y2, y3, -⟩ := hch a ha z1 (by have := z1.1; omega)
      rw [e2] at y2 y3
      omega
    · omega
theorem kWk_end {nx dp : Int → Int} {wd : Int → Int → Int} {mnh : Int → Int} {K : Int} {f : Int → Int → Int} {n s : Int → Int} {ok : Int → Prop} {v : Int} {o0 : Int → Int} {r0 : Int} {o : Int → Int} {r : Int} (hch : kChI nx dp wd mnh K f n s ok v)
    (h : kQ ok (kLtI f n s) o0 r0 o r (kDnI dp wd f n s v 9)) : kQ ok (kLtI f n s) o0 r0 o r (kPrI dp wd f n s v) := by
  refine kQ_iff h (fun a ha => ⟨fun z => ⟨z, ?_⟩, fun z => z.1⟩)
  by_cases e : s a + dp v = n a
  · exact Or.inl e
  · have := (hch a ha z (by have := z.1; omega)).1
    exact Or.inr (by omega)
/-- before the first child: v itself may be an item -/
theorem kWk_0 {nx dp : Int → Int} {wd : Int → Int → Int} {mnh : Int → Int} {K : Int} {f : Int → Int → Int} {n s : Int → Int} {ok : Int → Prop} {v : Int} {o : Int → Int} {r : Int} (hch : kChI nx dp wd mnh K f n s ok v) (h : kSt ok (kLtI f n s) o r) (hno : ∀ a : Int, ok a → kPrI dp wd f n s v a → s a + dp v ≠ n a) : kQ ok (kLtI f n s) o r o r (kDnI dp wd f n s v 0) := by
  refine kQ_0 h (fun a ha ⟨z1, z2⟩ => ?_)
  have e := hno a ha z1
  have := (hch a ha z1 (by have := z1.1; omega)).1
  omega
theorem kWk_1 {nx dp : Int → Int} {wd : Int → Int → Int} {mnh : Int → Int} {K : Int} {f : Int → Int → Int} {n s : Int → Int} {ok : Int → Prop} {v b : Int} {o o' : Int → Int} {r : Int} (hch : kChI nx dp wd mnh K f n s ok v) (h : kSt ok (kLtI f n s) o r) (hb : ok b) (hbv : kPrI dp wd f n s v b) (hbe : s b + dp v = n b) (hone : ∀ a : Int, ok a → kPrI dp wd f n s v a → s a + dp v = n a → a = b)
    (hl : ∀ i : Int, 0 ≤ i → i < r → kBel dp wd f n s (o i) v) (h1 : o' r = b) (h2 : ∀ i : Int, 0 ≤ i → i < r → o' i = o i) : kQ ok (kLtI f n s) o r o' (r + 1) (kDnI dp wd f n s v 0) := by
  refine kQ_push h h1 h2 hb (fun i i1 i2 => kBel_lt (hl i i1 i2) hbv) (fun a ha => ⟨fun z => ?_, fun z => by rw [z]; exact ⟨hbv, Or.inl hbe⟩⟩)
  obtain ⟨z1, z2⟩ := z
  by_cases e : s a + dp v = n a
  · exact hone a ha z1 e
  · have := (hch a ha z1 (by have := z1.1; omega)).1
    omega
/-- what is laid is below the next child -/
theorem kWk_bel {dp : Int → Int} {wd : Int → Int → Int} {f : Int → Int → Int} {n s : Int → Int} {ok : Int → Prop} {v q c : Int} {o0 : Int → Int} {r0 : Int} {o : Int → Int} {r : Int} (hv : 0 ≤ dp v) (hk : kKid dp wd v q c) (h : kQ ok (kLtI f n s) o0 r0 o r (kDnI dp wd f n s v q)) (hl : ∀ i : Int, 0 ≤ i → i < r0 → kBel dp wd f n s (o0 i) v) : ∀ i : Int, 0 ≤ i → i < r → kBel dp wd f n s (o i) c := by
  intro i i1 i2
  rcases Int.lt_or_le i r0 with e | e
  · rw [h.2.2.1 i i1 e]; exact kBel_kid (hl i i1 e) hk
  · exact kBel_done hv (h.2.2.2.2.2.1 i e i2) hk
