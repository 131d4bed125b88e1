/-! ===== the tree as one hem sees it, once all is grown ===== -/
def kOkO (mnh : Int → Int) (K : Int) : Int → Prop := fun a => 1 ≤ a ∧ a < K ∧ 0 < mnh a
def kOkP (n : Int) : Int → Prop := fun p => 0 ≤ p ∧ p < n
abbrev kLtO (wd : Int → Int → Int) (dp : Int → Int) : Int → Int → Prop := kLtI wd dp (fun _ => 0)
abbrev kLtP (x : Int → Int) (n : Int) : Int → Int → Prop := kLtI (fun _ => x) (fun _ => n) (fun p => p)
abbrev kPrO (dp : Int → Int) (wd : Int → Int → Int) (v : Int) : Int → Prop := kPrI dp wd wd dp (fun _ => 0) v
abbrev kPrP (dp : Int → Int) (wd : Int → Int → Int) (x : Int → Int) (n v : Int) : Int → Prop := kPrI dp wd (fun _ => x) (fun _ => n) (fun p => p) v
abbrev kBeO (dp : Int → Int) (wd : Int → Int → Int) : Int → Int → Prop := kBel dp wd wd dp (fun _ => 0)
abbrev kBeP (dp : Int → Int) (wd : Int → Int → Int) (x : Int → Int) (n : Int) : Int → Int → Prop := kBel dp wd (fun _ => x) (fun _ => n) (fun p => p)
abbrev kDnO (dp : Int → Int) (wd : Int → Int → Int) (v q : Int) : Int → Prop := kDnI dp wd wd dp (fun _ => 0) v q
abbrev kDnP (dp : Int → Int) (wd : Int → Int → Int) (x : Int → Int) (n v q : Int) : Int → Prop := kDnI dp wd (fun _ => x) (fun _ => n) (fun p => p) v q
/-- the row of v stands at a -/
def kAt (x : Int → Int) (n : Int) (dp : Int → Int) (wd : Int → Int → Int) (v a : Int) : Prop := a + dp v ≤ n ∧ kEq x a (wd v) 0 (dp v)
def kTree (nx dp mnh fsh enh : Int → Int) (K : Int) (wd : Int → Int → Int) (x : Int → Int) (n : Int) : Prop :=
  ((1 ≤ K ∧ K ≤ 1641) ∧ dp 0 = 0 ∧ (0 ≤ n ∧ n ≤ 40) ∧ ∀ j : Int, 0 ≤ j → j < n → 0 ≤ x j ∧ x j ≤ 8) ∧
  (∀ v : Int, 1 ≤ v → v < K → 1 ≤ dp v ∧ dp v ≤ 40) ∧
  (∀ v w : Int, 0 ≤ v → v < K → 0 ≤ w → w < K → dp v = dp w → kEq (wd v) 0 (wd w) 0 (dp v) → v = w) ∧
  (∀ v s : Int, 0 ≤ v → v < K → 0 ≤ s → s ≤ 8 → nx (9 * v + s) = 0 ∨ (1 ≤ nx (9 * v + s) ∧ nx (9 * v + s) < K ∧ kKid dp wd v s (nx (9 * v + s)))) ∧
  (∀ v w : Int, 0 ≤ v → v < K → 1 ≤ w → w < K → dp w = dp v + 1 → kEq (wd v) 0 (wd w) 0 (dp v) → nx (9 * v + wd w (dp v)) = w) ∧
  (∀ v : Int, 0 ≤ v → v < K → (enh v = 0 ∧ ∀ a : Int, 0 ≤ a → a < n → ¬ (dp v = n - a ∧ kEq x a (wd v) 0 (dp v))) ∨ (1 ≤ enh v ∧ enh v ≤ n ∧ dp v = n - (enh v - 1) ∧ kEq x (enh v - 1) (wd v) 0 (dp v))) ∧
  ((∀ v : Int, 1 ≤ v → v < K → mnh v = kCnt (kAt x n dp wd v) n.toNat ∧ (0 < mnh v → 0 ≤ fsh v ∧ kAt x n dp wd v (fsh v) ∧ ∀ a : Int, 0 ≤ a → a < fsh v → ¬ kAt x n dp wd v a)) ∧ mnh 0 = 0 ∧ ∀ v : Int, K ≤ v → mnh v = 0) ∧
  (∀ a m : Int, 0 ≤ a → 1 ≤ m → a + m ≤ n → ∃ v : Int, 1 ≤ v ∧ v < K ∧ dp v = m ∧ kEq x a (wd v) 0 m ∧ 0 < mnh v)
theorem kBf_fin {N : Int → Int} {q a : Int} (hq : q < 2) : kBf N 2 0 0 q a = if 0 ≤ a ∧ a < N q then N q - a else 0 := by
  unfold kBf
  rw [if_pos hq]
theorem kOc_fin {X : Int → Int → Int} {N : Int → Int} {q : Int} {w : Int → Int} {d a : Int} (hq : q < 2) (hd : 1 ≤ d) (ha : 0 ≤ a) : kOc X (kBf N 2 0 0) q w d a ↔ a + d ≤ N q ∧ kEq (X q) a w 0 d := by
  unfold kOc
  rw [kBf_fin hq]
  constructor
  · rintro ⟨h1, h2⟩
    refine ⟨?_, h2⟩
    split at h1 <;> omega
  · rintro ⟨h1, h2⟩
    refine ⟨?_, h2⟩
    rw [if_pos ⟨ha, by omega⟩]; omega
theorem kTree_of {X : Int → Int → Int} {N : Int → Int} {M : kM} {r : Int} {wd : Int → Int → Int} (h : kTw X N M r wd 2 0 0) {q : Int} (hq : 0 ≤ q ∧ q < 2) (hN : 0 ≤ N q ∧ N q ≤ 40) (hX : ∀ j : Int, 0 ≤ j → j < N q → 0 ≤ X q j ∧ X q j ≤ 8) (hK : M r 5 ≤ 1641) : kTree (M (r + 1)) (M (r + 2)) (M (r + 4 + q)) (M (r + 7 + q)) (M (r + 10 + q)) (M r 5) wd (X q) (N q) := by
  have T := h.1
  have D := h.2 q hq.1 hq.2
  obtain ⟨t1, t2, t3, t4, t5, t6, t7, t8⟩ := h.1
  obtain ⟨f1, f2, f3⟩ := t7 q hq.1 hq.2
  have oc : ∀ v : Int, 1 ≤ v → v < M r 5 → ∀ a : Int, 0 ≤ a → (kOc X (kBf N 2 0 0) q (wd v) (M (r + 2) v) a ↔ kAt (X q) (N q) (M (r + 2)) wd v a) := fun v v1 v2 a a1 => kOc_fin hq.2 (t2 v v1 v2).1 a1
  have cnt : ∀ v : Int, 1 ≤ v → v < M r 5 → M (r + 4 + q) v = kCnt (kAt (X q) (N q) (M (r + 2)) wd v) (N q).toNat := fun v v1 v2 => by
    have e : M (r + 4 + q) v = kCnt (kOc X (kBf N 2 0 0) q (wd v) (M (r + 2) v)) 40 := (f1 v v1 v2).1
    rw [e, ← kCnt_tail (kAt (X q) (N q) (M (r + 2)) wd v) (N q).toNat 40 (by omega) (fun k k1 k2 z => by have := z.1; have := (t2 v v1 v2).1; omega)]
    exact kCnt_congr 40 (fun a a1 a2 => oc v v1 v2 a a1)
  refine ⟨⟨⟨t1.1, hK⟩, t1.2, hN, hX⟩, t2, t3, fun v s v1 v2 s1 s2 => ?_, fun v w v1 v2 w1 w2 e1 e2 => (kTr_child T ⟨v1, v2⟩ ⟨w1, w2⟩ e1 e2).2, fun v v1 v2 => ?_, ⟨fun v v1 v2 => ⟨cnt v v1 v2, fun z => ?_⟩, f3, f2⟩, fun a m a1 m1 m2 => ?_⟩
  · rcases t4 v s v1 v2 s1 s2 with z | ⟨z1, z2, z3, z4, z5⟩
    · exact Or.inl z
    · exact Or.inr ⟨z1, z2, z3, z4, z5⟩
  · have e : kEf N 2 0 q = N q := by unfold kEf; rw [if_pos hq.2]
    have := D.1 v v1 v2
    rw [e] at this
    exact this
  · obtain ⟨s1, s2, s3⟩ := (f1 v v1 v2).2 z
    exact ⟨s1, (oc v v1 v2 _ s1).mp s2, fun a a1 a2 y => s3 a a1 a2 ((oc v v1 v2 a a1).mpr y)⟩
  · obtain ⟨v, v1, v2, v3, v4⟩ := t8 q a m hq.1 hq.2 a1 m1 (by rw [kBf_fin hq.2, if_pos ⟨a1, by omega⟩]; omega)
    refine ⟨v, v1, v2, v3, v4, ?_⟩
    rw [cnt v v1 v2]
    exact kCnt_has _ a1 (by omega) ⟨by omega, by rw [v3]; exact v4⟩
section KTREE
variable {nx dp mnh fsh enh : Int → Int} {K : Int} {wd : Int → Int → Int} {x : Int → Int} {n : Int}
theorem kTree.dpr (T : kTree nx dp mnh fsh enh K wd x n) {v : Int} (hv : 0 ≤ v ∧ v < K) : 0 ≤ dp v ∧ dp v ≤ 40 := by
  by_cases e : v = 0
  · rw [e, T.1.2.1]; omega
  · have := T.2.1 v (by omega) hv.2; omega
theorem kTree.mnr (T : kTree nx dp mnh fsh enh K wd x n) {v : Int} (hv : 0 ≤ v) : 0 ≤ mnh v ∧ mnh v ≤ 40 := by
  obtain ⟨f1, f2, f3⟩ := T.2.2.2.2.2.2.1
  by_cases e : v = 0
  · rw [e, f2]; omega
  · rcases Int.lt_or_le v K with g | g
    · rw [(f1 v (by omega) g).1]
      have := kCnt_rng (kAt x n dp wd v) n.toNat
      have := T.1.2.2.1
      omega
    · rw [f3 v g]; omega
/-- below a node whose row goes on in a place of the hem there is a child -/
theorem kTree.go (T : kTree nx dp mnh fsh enh K wd x n) {v p : Int} (hv : 0 ≤ v ∧ v < K) (hp : 0 ≤ p) (h1 : p + dp v < n) (h2 : kEq (wd v) 0 x p (dp v)) : (0 ≤ x (p + dp v) ∧ x (p + dp v) ≤ 8) ∧ (1 ≤ nx (9 * v + x (p + dp v)) ∧ nx (9 * v + x (p + dp v)) < K) ∧ 0 < mnh (nx (9 * v + x (p + dp v))) ∧ dp (nx (9 * v + x (p + dp v))) = dp v + 1 ∧ kEq (wd (nx (9 * v + x (p + dp v)))) 0 x p (dp v + 1) := by
  have hd := T.dpr hv
  obtain ⟨c, c1, c2, c3, c4, c5⟩ := T.2.2.2.2.2.2.2 p (dp v + 1) hp (by omega) (by omega)
  have e1 := T.2.2.2.2.1 v c hv.1 hv.2 c1 c2 c3 (kEq_tr h2 (kEq_le c4 (by omega)))
  have e2 := c4 (dp v) hd.1 (by omega)
  rw [Int.zero_add] at e2
  rw [← e2] at e1
  rw [e1]
  exact ⟨T.1.2.2.2 _ (by omega) h1, ⟨c1, c2⟩, c5, c3, kEq_symm c4⟩
theorem kTree.chP (T : kTree nx dp mnh fsh enh K wd x n) {v : Int} (hv : 0 ≤ v ∧ v < K) : kChI nx dp wd mnh K (fun _ => x) (fun _ => n) (fun p => p) (kOkP n) v := by
  intro p hp h1 h2
  have h2' : p + dp v < n := h2
  obtain ⟨a1, a2, a3, a4, a5⟩ := T.go hv hp.1 h2' h1.2
  show (0 ≤ x (p + dp v) ∧ x (p + dp v) ≤ 8) ∧ (1 ≤ nx (9 * v + x (p + dp v)) ∧ nx (9 * v + x (p + dp v)) < K) ∧ 0 < mnh (nx (9 * v + x (p + dp v))) ∧ p + dp (nx (9 * v + x (p + dp v))) ≤ n ∧ kEq (wd (nx (9 * v + x (p + dp v)))) 0 x p (dp (nx (9 * v + x (p + dp v))))
  rw [a4]
  exact ⟨a1, a2, a3, by omega, a5⟩
theorem kTree.chO (T : kTree nx dp mnh fsh enh K wd x n) {v : Int} (hv : 0 ≤ v ∧ v < K) : kChI nx dp wd mnh K wd dp (fun _ => 0) (kOkO mnh K) v := by
  intro w hw h1 h2
  have hd := T.dpr hv
  obtain ⟨f1, f2⟩ := T.2.2.2.2.2.2.1.1 w hw.1 hw.2.1
  obtain ⟨p, p1, p2, p3⟩ := kCnt_pos n.toNat (by rw [← f1]; exact hw.2.2)
  have h2' : 0 + dp v < dp w := h2
  have e0 : kEq (wd v) 0 (wd w) 0 (dp v) := h1.2
  obtain ⟨a1, a2, a3, a4, a5⟩ := T.go hv p1 (by have := p3.1; omega) (kEq_tr e0 (kEq_symm (kEq_le p3.2 (by omega))))
  have e1 := p3.2 (dp v) hd.1 (by omega)
  show (0 ≤ wd w (0 + dp v) ∧ wd w (0 + dp v) ≤ 8) ∧ (1 ≤ nx (9 * v + wd w (0 + dp v)) ∧ nx (9 * v + wd w (0 + dp v)) < K) ∧ 0 < mnh (nx (9 * v + wd w (0 + dp v))) ∧ kPrI dp wd wd dp (fun _ => 0) (nx (9 * v + wd w (0 + dp v))) w
  rw [← e1]
  refine ⟨a1, a2, a3, by show 0 + dp _ ≤ dp w; omega, ?_⟩
  show kEq (wd _) 0 (wd w) 0 (dp _)
  rw [a4]
  exact kEq_tr a5 (kEq_le p3.2 (by omega))
/-- there are as many nodes with rows of the hem as it has different rows -/
theorem kTree.tot (T : kTree nx dp mnh fsh enh K wd x n) : kCnt (kOkO mnh K) K.toNat = kTot x n := by
  obtain ⟨⟨hK, h0, hn, hx⟩, t2, t3, t4, t5, t6, ⟨t7, t70, t7K⟩, t8⟩ := id T
  have one : ∀ (P : Prop) (j : Int) (m : Nat), 0 ≤ j → j < (m : Int) → kCnt (fun a => P ∧ j = a) m = kIf P 1 0 := by
    intro P j m j1 j2
    by_cases hP : P
    · rw [kIf_t hP, kCnt_drop (j := j) m j1 j2 ⟨hP, rfl⟩, kCnt_no m (fun a _ _ z => z.2 z.1.2.symm)]; rfl
    · rw [kIf_f hP, kCnt_no m (fun a _ _ z => hP z.1)]
  have fsr : ∀ v : Int, kOkO mnh K v → 0 ≤ fsh v ∧ fsh v < n := fun v hv => by
    obtain ⟨s1, s2, -⟩ := (t7 v hv.1 hv.2.1).2 hv.2.2
    have := s2.1
    have := t2 v hv.1 hv.2.1
    omega
  have e1 : kCnt (kOkO mnh K) K.toNat = kSum (fun v => kCnt (fun a => kOkO mnh K v ∧ fsh v = a) n.toNat) K.toNat := by
    rw [← kSum_cnt]
    refine kSum_congr _ (fun v v1 v2 => ?_)
    by_cases hP : kOkO mnh K v
    · rw [one _ _ _ (fsr v hP).1 (by have := (fsr v hP).2; omega)]
    · rw [kIf_f hP, kCnt_no _ (fun a _ _ z => hP z.1)]
  rw [e1, ← kSum_swap (fun a v => kOkO mnh K v ∧ fsh v = a)]
  refine kSum_congr _ (fun a a1 a2 => ?_)
  have han : a < n := by omega
  have hb := kMb_rng (x := x) (n := n) (a := a) ⟨a1, han⟩
  have e2 : kDr x n a = kCnt (fun t => kMb x n a < t + 1 ∧ t + 1 ≤ n - a) n.toNat := by
    rw [kCnt_seg _ _ _ hb.1 hb.2]
    unfold kDr
    split <;> (try split) <;> omega
  rw [e2]
  have le1 : kCnt (fun v => kOkO mnh K v ∧ fsh v = a) K.toNat ≤ kCnt (fun t => kMb x n a < t + 1 ∧ t + 1 ≤ n - a) n.toNat := by
    refine kCnt_inj (R := fun v t => kOkO mnh K v ∧ fsh v = a ∧ dp v = t + 1) _ _ _ _ (fun v v1 v2 v3 => ?_) (fun v w t p1 p2 r1 r2 => ?_)
    · obtain ⟨⟨o1, o2, o3⟩, o4⟩ := v3
      obtain ⟨s1, s2, s3⟩ := (t7 v o1 o2).2 o3
      have hd := t2 v o1 o2
      rw [o4] at s2 s3
      refine ⟨dp v - 1, by omega, by have := s2.1; omega, ⟨?_, by have := s2.1; omega⟩, ⟨o1, o2, o3⟩, o4, by omega⟩
      rcases (kMaxF_rng (fun b => kL x n a x n b) a.toNat).2.2 with z | ⟨b, b1, b2, b3⟩
      · show kMaxF _ _ < _
        omega
      · show kMaxF _ _ < _
        rw [← b3]
        rcases Int.lt_or_le (kL x n a x n b) (dp v - 1 + 1) with y | y
        · exact y
        · exfalso
          have hs := kL_spec (x := x) (y := x) (nx := n) (ny := n) (a := a) (b := b) (by omega) (by omega)
          have hle : dp v ≤ kL x n a x n b := by omega
          have hbn := hs.2.2.1
          refine s3 b b1 (by omega) ⟨by omega, ?_⟩
          exact kEq_tr (kEq_symm (kEq_le hs.2.2.2.1 hle)) s2.2
    · obtain ⟨a1', a2', a3'⟩ := r1
      obtain ⟨b1', b2', b3'⟩ := r2
      have s1 := ((t7 v a1'.1 a1'.2.1).2 a1'.2.2).2.1
      have s2 := ((t7 w b1'.1 b1'.2.1).2 b1'.2.2).2.1
      rw [a2'] at s1
      rw [b2'] at s2
      refine t3 v w (by have := a1'.1; omega) a1'.2.1 (by have := b1'.1; omega) b1'.2.1 (by omega) ?_
      have e : dp w = dp v := by omega
      have s22 := s2.2
      rw [e] at s22
      exact kEq_tr (kEq_symm s1.2) s22
  have le2 : kCnt (fun t => kMb x n a < t + 1 ∧ t + 1 ≤ n - a) n.toNat ≤ kCnt (fun v => kOkO mnh K v ∧ fsh v = a) K.toNat := by
    refine kCnt_inj (R := fun t v => dp v = t + 1) _ _ _ _ (fun t g1 g2 g3 => ?_) (fun t u v p1 p2 r1 r2 => by omega)
    obtain ⟨v, v1, v2, v3, v4, v5⟩ := t8 a (t + 1) a1 (by omega) (by omega)
    refine ⟨v, by omega, by omega, ⟨⟨v1, v2, v5⟩, ?_⟩, v3⟩
    obtain ⟨s1, s2, s3⟩ := (t7 v v1 v2).2 v5
    have here : kAt x n dp wd v a := ⟨by omega, by rw [v3]; exact v4⟩
    rcases Int.lt_or_le (fsh v) a with y | y
    · exfalso
      have hs := kL_spec (x := x) (y := x) (nx := n) (ny := n) (a := a) (b := fsh v) (by omega) (by have := s2.1; have := t2 v v1 v2; omega)
      have hle : t + 1 ≤ kL x n a x n (fsh v) := by
        refine (kLC_iff hs (by omega) (by have := s2.1; omega)).mpr ?_
        have s22 := s2.2
        rw [v3] at s22
        exact kEq_tr v4 (kEq_symm s22)
      have := (kMaxF_rng (fun b => kL x n a x n b) a.toNat).2.1 (fsh v) s1 (by omega)
      have h3 : kMb x n a = kMaxF (fun b => kL x n a x n b) a.toNat := rfl
      have h4 : kL x n a x n (fsh v) ≤ kMaxF (fun b => kL x n a x n b) a.toNat := this
      have := g3.1
      omega
    · by_cases e : fsh v = a
      · exact e
      · exact absurd here (s3 a a1 (by omega))
  omega
theorem kTot_le {x : Int → Int} {n : Int} (hn : 0 ≤ n ∧ n ≤ 40) : kTot x n ≤ 820 ∧ 0 ≤ kTot x n := by
  have key : ∀ p : Nat, (p : Int) ≤ n → kSum (kDr x n) p ≤ kSum (fun q => n - q) p ∧ 0 ≤ kSum (kDr x n) p := by
    intro p
    induction p with
    | zero => intro _; exact ⟨Int.le_refl _, Int.le_refl _⟩
    | succ p ih =>
      intro hp
      obtain ⟨i1, i2⟩ := ih (by omega)
      have hb := kMb_rng (x := x) (n := n) (a := (p : Int)) ⟨by omega, by omega⟩
      have e : kDr x n (p : Int) = n - (p : Int) - kMb x n (p : Int) := rfl
      show kSum (kDr x n) p + kDr x n (p : Int) ≤ kSum (fun q => n - q) p + (n - (p : Int)) ∧ 0 ≤ kSum (kDr x n) p + kDr x n (p : Int)
      omega
  have k1 := key n.toNat (by omega)
  have k2 := kTri hn n.toNat (by omega)
  unfold kTot
  omega
theorem kTree.cap (T : kTree nx dp mnh fsh enh K wd x n) : kCnt (kOkO mnh K) K.toNat ≤ 820 := by
  rw [T.tot]
  exact (kTot_le T.1.2.2.1).1
/-- there is room for a node that isn't there yet -/
theorem kTree.roomO (T : kTree nx dp mnh fsh enh K wd x n) {o : Int → Int} {r v : Int} (h : kSt (kOkO mnh K) (kLtO wd dp) o r) (hv : kOkO mnh K v) (hb : ∀ i : Int, 0 ≤ i → i < r → kBeO dp wd (o i) v) : 0 ≤ r ∧ r < 900 := by
  have c := T.cap
  have k := kSt_cap h (fun a => kLtI_irr a) (n := K.toNat) (fun a ha => ⟨by have := ha.1; omega, by have := ha.2.1; omega⟩) (fun a => a ≠ v) (fun i i1 i2 e => by
    have := hb i i1 i2
    rw [e] at this
    exact kWx_irr this)
  have d := kCnt_drop (Q := kOkO mnh K) (j := v) K.toNat (by have := hv.1; omega) (by have := hv.2.1; omega) hv
  have := h.1
  omega
theorem kTree.roomP (T : kTree nx dp mnh fsh enh K wd x n) {P : Int → Int} {e : Int} (h : kSt (kOkP n) (kLtP x n) P e) : 0 ≤ e ∧ e ≤ 40 := by
  have k := kSt_cap h (fun a => kLtI_irr a) (n := n.toNat) (fun a ha => ⟨ha.1, by have := ha.2; omega⟩) (fun _ => True) (fun _ _ _ => trivial)
  have := (kCnt_rng (fun a => kOkP n a ∧ True) n.toNat).2
  have := T.1.2.2.1
  have := h.1
  omega
end KTREE
