/-! ===== out of the order of all rows: the longest repeat, the seam ===== -/
/-- the order is whole -/
def kFO (mnh dp : Int → Int) (K : Int) (wd : Int → Int → Int) (o : Int → Int) (R : Int) : Prop := kSt (kOkO mnh K) (kLtO wd dp) o R ∧ ∀ a : Int, kOkO mnh K a → ∃ i : Int, 0 ≤ i ∧ i < R ∧ o i = a
/-- of the first k of o that are P the longest one, of several as long the first; 0 without any -/
def kPick (P : Int → Prop) (dp o : Int → Int) (k b : Int) : Prop := (b = 0 ∧ ∀ i : Int, 0 ≤ i → i < k → ¬ P (o i)) ∨ ∃ j : Int, 0 ≤ j ∧ j < k ∧ b = o j ∧ P b ∧ (∀ i : Int, 0 ≤ i → i < k → P (o i) → dp (o i) ≤ dp b) ∧ ∀ i : Int, 0 ≤ i → i < j → P (o i) → dp (o i) < dp b
theorem kPick_0 (P : Int → Prop) (dp o : Int → Int) : kPick P dp o 0 0 := Or.inl ⟨rfl, fun i i1 i2 => by omega⟩
theorem kPick_skip {P : Int → Prop} {dp o : Int → Int} {k b : Int} (h : kPick P dp o k b) (h0 : dp 0 = 0) (hk : ¬ P (o k) ∨ (1 ≤ dp (o k) ∧ dp (o k) ≤ dp b)) : kPick P dp o (k + 1) b := by
  rcases h with ⟨h1, h2⟩ | ⟨j, j1, j2, j3, j4, j5, j6⟩
  · refine Or.inl ⟨h1, fun i i1 i2 => ?_⟩
    by_cases e : i = k
    · rw [e]
      refine hk.resolve_right (fun z => ?_)
      rw [h1, h0] at z
      omega
    · exact h2 i i1 (by omega)
  · refine Or.inr ⟨j, j1, by omega, j3, j4, fun i i1 i2 z => ?_, j6⟩
    by_cases e : i = k
    · rw [e] at z ⊢
      exact (hk.resolve_left (fun y => y z)).2
    · exact j5 i i1 (by omega) z
theorem kPick_new {P : Int → Prop} {dp o : Int → Int} {k b : Int} (h : kPick P dp o k b) (hk : 0 ≤ k) (hp : P (o k)) (hd : dp b < dp (o k)) : kPick P dp o (k + 1) (o k) := by
  refine Or.inr ⟨k, hk, by omega, rfl, hp, fun i i1 i2 z => ?_, fun i i1 i2 z => ?_⟩
  · by_cases e : i = k
    · rw [e]; exact Int.le_refl _
    · rcases h with ⟨h1, h2⟩ | ⟨j, j1, j2, j3, j4, j5, j6⟩
      · exact absurd z (h2 i i1 (by omega))
      · have := j5 i i1 (by omega) z; omega
  · rcases h with ⟨h1, h2⟩ | ⟨j, j1, j2, j3, j4, j5, j6⟩
    · exact absurd z (h2 i i1 (by omega))
    · have := j5 i i1 (by omega) z; omega
theorem kCnt_two {P : Int → Prop} {n : Nat} {a b : Int} (ha : 0 ≤ a ∧ a < (n : Int)) (hb : 0 ≤ b ∧ b < (n : Int)) (hab : a ≠ b) (pa : P a) (pb : P b) : 2 ≤ kCnt P n := by
  have e := kCnt_drop (Q := P) (j := a) n ha.1 ha.2 pa
  have := kCnt_has n (P := fun k => P k ∧ k ≠ a) hb.1 hb.2 ⟨pb, fun z => hab z.symm⟩
  omega
theorem kCnt_other {P : Int → Prop} {n : Nat} (h : 2 ≤ kCnt P n) (a : Int) : ∃ b : Int, 0 ≤ b ∧ b < (n : Int) ∧ P b ∧ b ≠ a := by
  by_cases q : 0 ≤ a ∧ a < (n : Int) ∧ P a
  · have e := kCnt_drop (Q := P) (j := a) n q.1 q.2.1 q.2.2
    obtain ⟨b, b1, b2, b3, b4⟩ := kCnt_pos n (P := fun k => P k ∧ k ≠ a) (by omega)
    exact ⟨b, b1, b2, b3, b4⟩
  · obtain ⟨b, b1, b2, b3⟩ := kCnt_pos n (P := P) (by omega)
    exact ⟨b, b1, b2, b3, fun z => q (by rw [← z]; exact ⟨b1, b2, b3⟩)⟩
section KPICK
variable {nx dp mnh fsh enh : Int → Int} {K : Int} {wd : Int → Int → Int} {x : Int → Int} {n : Int}
/-- two places at which the same node stands are alike -/
theorem kAt_lc (T : kTree nx dp mnh fsh enh K wd x n) {v a c : Int} (ha : kAt x n dp wd v a) (hv : 0 ≤ dp v) (hc : c ≤ n) : kAt x n dp wd v c ↔ dp v ≤ kL x n c x n a := by
  have hs := kL_spec (x := x) (y := x) (nx := n) (ny := n) (a := c) (b := a) hc (by have := ha.1; omega)
  constructor
  · intro z
    exact (kLC_iff hs z.1 ha.1).mpr (kEq_tr z.2 (kEq_symm ha.2))
  · intro z
    have := hs.2.1
    exact ⟨by omega, kEq_tr (kEq_le hs.2.2.2.1 z) ha.2⟩
/-- a row that stands at two places is a node's, and the node is in the order -/
theorem kRep_node (T : kTree nx dp mnh fsh enh K wd x n) {o : Int → Int} {R : Int} (hO : kFO mnh dp K wd o R) {a m : Int} (ha : 0 ≤ a) (hm : 1 ≤ m) (han : a + m ≤ n) : ∃ v i : Int, kOkO mnh K v ∧ dp v = m ∧ kAt x n dp wd v a ∧ 0 ≤ i ∧ i < R ∧ o i = v := by
  obtain ⟨v, v1, v2, v3, v4, v5⟩ := T.2.2.2.2.2.2.2 a m ha hm han
  obtain ⟨i, i1, i2, i3⟩ := hO.2 v ⟨v1, v2, v5⟩
  exact ⟨v, i, ⟨v1, v2, v5⟩, v3, ⟨by omega, by rw [v3]; exact v4⟩, i1, i2, i3⟩
/-- of two nodes with rows as long the one that is first in the order has the lesser row -/
theorem kPick_less {o : Int → Int} {R : Int} (hO : kFO mnh dp K wd o R) {i j a c : Int} (h1 : 0 ≤ j) (h2 : j < i) (h3 : i < R) (hd : dp (o i) = dp (o j)) (ha : kAt x n dp wd (o i) a) (hc : kAt x n dp wd (o j) c) : kL x n a x n c < dp (o j) ∧ kSL x n c a := by
  obtain ⟨t, ⟨t1, t2, t3, t4, t5⟩, t6⟩ := hO.1.2.2 j i h1 h2 h3
  have ht : t < dp (o j) ∧ wd (o j) (0 + t) < wd (o i) (0 + t) := by
    have t6' : (0 + t = dp (o j) ∧ 0 + t < dp (o i)) ∨ (0 + t < dp (o j) ∧ 0 + t < dp (o i) ∧ wd (o j) (0 + t) < wd (o i) (0 + t)) := t6
    omega
  have ea := ha.2 t t1 (by omega)
  have ec := hc.2 t t1 (by omega)
  have hlc : kLC x n c x n a t := ⟨t1, by have := hc.1; omega, by have := ha.1; omega, fun u u1 u2 => by rw [hc.2 u u1 (by omega), ha.2 u u1 (by omega)]; exact t4 u u1 u2, Or.inr (Or.inr (by omega))⟩
  have e := kL_of (kLC_symm hlc)
  refine ⟨by omega, t, hlc, Or.inr ⟨by have := hc.1; omega, by have := ha.1; omega, by omega⟩⟩
theorem kPick_rep (T : kTree nx dp mnh fsh enh K wd x n) {o : Int → Int} {R b : Int} (hO : kFO mnh dp K wd o R) (hb : kPick (fun v => 1 < mnh v) dp o R b) : (b = 0 → kTop (kMbs x n) x n n (-1) 0) ∧ (b ≠ 0 → kTop (kMbs x n) x n n (fsh b) (dp b) ∧ 0 ≤ fsh b ∧ mnh b = kCnt (fun c => dp b ≤ kL x n c x n (fsh b)) n.toNat) := by
  -- what two ends have in common is a node's row that stands at both
  have two : ∀ a : Int, 0 ≤ a → a < n → 0 < kMbs x n a → ∃ v i : Int, kOkO mnh K v ∧ dp v = kMbs x n a ∧ kAt x n dp wd v a ∧ 0 ≤ i ∧ i < R ∧ o i = v ∧ 1 < mnh v := by
    intro a a1 a2 hp
    rcases (kMaxF_rng (fun c => if c = a then 0 else kL x n a x n c) n.toNat).2.2 with z | ⟨c, c1, c2, c3⟩
    · unfold kMbs at hp; omega
    · have hne : c ≠ a := by
        intro e
        rw [if_pos e] at c3
        unfold kMbs at hp; omega
      rw [if_neg hne] at c3
      have c4 : kL x n a x n c = kMbs x n a := c3
      have hs := kL_spec (x := x) (y := x) (nx := n) (ny := n) (a := a) (b := c) (by omega) (by omega)
      rw [c4] at hs
      obtain ⟨v, i, v1, v2, v3, i1, i2, i3⟩ := kRep_node T hO (m := kMbs x n a) a1 (by omega) hs.2.1
      refine ⟨v, i, v1, v2, v3, i1, i2, i3, ?_⟩
      rw [(T.2.2.2.2.2.2.1.1 v v1.1 v1.2.1).1]
      have := kCnt_two (P := kAt x n dp wd v) (n := n.toNat) (a := a) (b := c) ⟨a1, by omega⟩ ⟨c1, c2⟩ (Ne.symm hne) v3 ⟨by have := hs.2.2.1; omega, by
        rw [v2]
        have v32 := v3.2
        rw [v2] at v32
        exact kEq_tr (kEq_symm hs.2.2.2.1) v32⟩
      omega
  have nn : ∀ a : Int, 0 ≤ kMbs x n a := fun a => (kMaxF_rng _ _).1
  rcases hb with ⟨h1, h2⟩ | ⟨j, j1, j2, j3, j4, j5, j6⟩
  · refine ⟨fun _ => Or.inl ⟨rfl, rfl, fun a a1 a2 => ?_⟩, fun z => absurd h1 z⟩
    rcases Int.lt_or_le 0 (kMbs x n a) with q | q
    · obtain ⟨v, i, -, -, -, i1, i2, i3, i4⟩ := two a a1 a2 q
      exact absurd (by show 1 < mnh (o i); rw [i3]; exact i4) (h2 i i1 i2)
    · exact q
  · have okb : kOkO mnh K b := by rw [j3]; exact hO.1.2.1 j j1 j2
    have hdb := T.2.1 b okb.1 okb.2.1
    obtain ⟨f1, f2⟩ := T.2.2.2.2.2.2.1.1 b okb.1 okb.2.1
    obtain ⟨g1, g2, g3⟩ := f2 okb.2.2
    have j4' : 1 < mnh b := j4
    refine ⟨fun z => by have := okb.1; omega, fun _ => ⟨?_, g1, ?_⟩⟩
    · have le : ∀ a : Int, 0 ≤ a → a < n → kMbs x n a ≤ dp b := by
        intro a a1 a2
        rcases Int.lt_or_le 0 (kMbs x n a) with q | q
        · obtain ⟨v, i, v1, v2, v3, i1, i2, i3, i4⟩ := two a a1 a2 q
          have := j5 i i1 i2 (by show 1 < mnh (o i); rw [i3]; exact i4)
          rw [i3, v2] at this
          exact this
        · omega
      have han : fsh b < n := by have := g2.1; omega
      have ge : dp b ≤ kMbs x n (fsh b) := by
        obtain ⟨c, c1, c2, c3, c4⟩ := kCnt_other (P := kAt x n dp wd b) (n := n.toNat) (by omega) (fsh b)
        have e1 := (kAt_lc T c3 (by omega) (by omega)).mp g2
        have e2 := (kMaxF_rng (fun d => if d = fsh b then 0 else kL x n (fsh b) x n d) n.toNat).2.1 c c1 c2
        rw [if_neg c4] at e2
        have e3 : kL x n (fsh b) x n c ≤ kMbs x n (fsh b) := e2
        omega
      have e := le (fsh b) g1 han
      refine Or.inr ⟨g1, han, by omega, by omega, fun a a1 a2 => ?_⟩
      have la := le a a1 a2
      by_cases q : kMbs x n a = dp b
      · refine Or.inr ⟨q, ?_⟩
        obtain ⟨v, i, v1, v2, v3, i1, i2, i3, i4⟩ := two a a1 a2 (by omega)
        by_cases ev : v = b
        · rw [ev] at v3
          refine Or.inl ⟨(kAt_lc T g2 (by omega) (by omega)).mp v3, ?_⟩
          rcases Int.lt_or_le a (fsh b) with y | y
          · exact absurd v3 (g3 a a1 y)
          · exact y
        · refine Or.inr ?_
          have hij : j < i := by
            rcases Int.lt_or_le i j with y | y
            · have := j6 i i1 y (by show 1 < mnh (o i); rw [i3]; exact i4)
              rw [i3, v2] at this
              omega
            · by_cases e2 : i = j
              · rw [e2, ← j3] at i3
                exact absurd i3.symm ev
              · omega
          have := kPick_less (x := x) (n := n) hO (a := a) (c := fsh b) j1 hij i2 (by rw [i3, ← j3, v2, q]) (by rw [i3]; exact v3) (by rw [← j3]; exact g2)
          rw [← j3] at this
          exact this
      · exact Or.inl (by omega)
    · rw [f1]
      exact kCnt_congr _ (fun c c1 c2 => kAt_lc T g2 (by omega) (by omega))
end KPICK
section KSEAM
variable {nx dp mn0 fs0 en0 mn1 fs1 en1 : Int → Int} {K : Int} {wd : Int → Int → Int} {x : Int → Int} {n : Int} {y : Int → Int} {ny : Int}
theorem kPick_seam (T : kTree nx dp mn0 fs0 en0 K wd x n) (U : kTree nx dp mn1 fs1 en1 K wd y ny) {o : Int → Int} {R b : Int} (hO : kFO mn0 dp K wd o R) (hb : kPick (fun v => 0 < mn1 v) dp o R b) : (b = 0 → kTop (kMac x n y ny) x n n (-1) 0) ∧ (b ≠ 0 → kTop (kMac x n y ny) x n n (fs0 b) (dp b) ∧ 0 ≤ fs0 b ∧ 0 ≤ fs1 b ∧ fs1 b < ny ∧ dp b ≤ kL x n (fs0 b) y ny (fs1 b) ∧ ∀ c : Int, 0 ≤ c → c < fs1 b → kL x n (fs0 b) y ny c < dp b) := by
  -- what an end has in common with one of the other hem is a node's row
  have two : ∀ a : Int, 0 ≤ a → a < n → 0 < kMac x n y ny a → ∃ v i : Int, kOkO mn0 K v ∧ dp v = kMac x n y ny a ∧ kAt x n dp wd v a ∧ 0 ≤ i ∧ i < R ∧ o i = v ∧ 0 < mn1 v := by
    intro a a1 a2 hp
    rcases (kMaxF_rng (fun c => kL x n a y ny c) ny.toNat).2.2 with z | ⟨c, c1, c2, c3⟩
    · unfold kMac at hp; omega
    · have c4 : kL x n a y ny c = kMac x n y ny a := c3
      have hs := kL_spec (x := x) (y := y) (nx := n) (ny := ny) (a := a) (b := c) (by omega) (by omega)
      rw [c4] at hs
      obtain ⟨v, i, v1, v2, v3, i1, i2, i3⟩ := kRep_node T hO (m := kMac x n y ny a) a1 (by omega) hs.2.1
      refine ⟨v, i, v1, v2, v3, i1, i2, i3, ?_⟩
      rw [(U.2.2.2.2.2.2.1.1 v v1.1 v1.2.1).1]
      refine kCnt_has _ c1 c2 ⟨by have := hs.2.2.1; omega, ?_⟩
      rw [v2]
      have v32 := v3.2
      rw [v2] at v32
      exact kEq_tr (kEq_symm hs.2.2.2.1) v32
  have nn : ∀ a : Int, 0 ≤ kMac x n y ny a := fun a => (kMaxF_rng _ _).1
  rcases hb with ⟨h1, h2⟩ | ⟨j, j1, j2, j3, j4, j5, j6⟩
  · refine ⟨fun _ => Or.inl ⟨rfl, rfl, fun a a1 a2 => ?_⟩, fun z => absurd h1 z⟩
    rcases Int.lt_or_le 0 (kMac x n y ny a) with q | q
    · obtain ⟨v, i, -, -, -, i1, i2, i3, i4⟩ := two a a1 a2 q
      exact absurd (by show 0 < mn1 (o i); rw [i3]; exact i4) (h2 i i1 i2)
    · exact q
  · have okb : kOkO mn0 K b := by rw [j3]; exact hO.1.2.1 j j1 j2
    have j4' : 0 < mn1 b := j4
    have hdb := T.2.1 b okb.1 okb.2.1
    obtain ⟨g1, g2, g3⟩ := (T.2.2.2.2.2.2.1.1 b okb.1 okb.2.1).2 okb.2.2
    obtain ⟨k1, k2, k3⟩ := (U.2.2.2.2.2.2.1.1 b okb.1 okb.2.1).2 j4'
    have han : fs0 b < n := by have := g2.1; omega
    have hbn : fs1 b < ny := by have := k2.1; omega
    have both : ∀ c : Int, c ≤ ny → (kAt y ny dp wd b c ↔ dp b ≤ kL x n (fs0 b) y ny c) := by
      intro c hc
      have hs := kL_spec (x := x) (y := y) (nx := n) (ny := ny) (a := fs0 b) (b := c) (by omega) hc
      constructor
      · intro z
        exact (kLC_iff hs g2.1 z.1).mpr (kEq_tr g2.2 (kEq_symm z.2))
      · intro z
        have := hs.2.2.1
        exact ⟨by omega, kEq_tr (kEq_symm (kEq_le hs.2.2.2.1 z)) g2.2⟩
    refine ⟨fun z => by have := okb.1; omega, fun _ => ⟨?_, g1, k1, hbn, (both _ (by omega)).mp k2, fun c c1 c2 => ?_⟩⟩
    · have le : ∀ a : Int, 0 ≤ a → a < n → kMac x n y ny a ≤ dp b := by
        intro a a1 a2
        rcases Int.lt_or_le 0 (kMac x n y ny a) with q | q
        · obtain ⟨v, i, v1, v2, v3, i1, i2, i3, i4⟩ := two a a1 a2 q
          have := j5 i i1 i2 (by show 0 < mn1 (o i); rw [i3]; exact i4)
          rw [i3, v2] at this
          exact this
        · omega
      have ge : dp b ≤ kMac x n y ny (fs0 b) := by
        have e1 := (both _ (by omega)).mp k2
        have e2 := (kMaxF_rng (fun d => kL x n (fs0 b) y ny d) ny.toNat).2.1 (fs1 b) k1 (by omega)
        have e3 : kL x n (fs0 b) y ny (fs1 b) ≤ kMac x n y ny (fs0 b) := e2
        omega
      have e := le (fs0 b) g1 han
      refine Or.inr ⟨g1, han, by omega, by omega, fun a a1 a2 => ?_⟩
      have la := le a a1 a2
      by_cases q : kMac x n y ny a = dp b
      · refine Or.inr ⟨q, ?_⟩
        obtain ⟨v, i, v1, v2, v3, i1, i2, i3, i4⟩ := two a a1 a2 (by omega)
        by_cases ev : v = b
        · rw [ev] at v3
          refine Or.inl ⟨(kAt_lc T g2 (by omega) (by omega)).mp v3, ?_⟩
          rcases Int.lt_or_le a (fs0 b) with z | z
          · exact absurd v3 (g3 a a1 z)
          · exact z
        · refine Or.inr ?_
          have hij : j < i := by
            rcases Int.lt_or_le i j with z | z
            · have := j6 i i1 z (by show 0 < mn1 (o i); rw [i3]; exact i4)
              rw [i3, v2] at this
              omega
            · by_cases e2 : i = j
              · rw [e2, ← j3] at i3
                exact absurd i3.symm ev
              · omega
          have := kPick_less (x := x) (n := n) hO (a := a) (c := fs0 b) j1 hij i2 (by rw [i3, ← j3, v2, q]) (by rw [i3]; exact v3) (by rw [← j3]; exact g2)
          rw [← j3] at this
          exact this
      · exact Or.inl (by omega)
    · rcases Int.lt_or_le (kL x n (fs0 b) y ny c) (dp b) with z | z
      · exact z
      · exact absurd ((both c (by omega)).mpr z) (k3 c c1 c2)
end KSEAM
theorem kIsRep_of {nx dp mnh fsh enh : Int → Int} {K : Int} {wd : Int → Int → Int} {x : Int → Int} {n : Int} (T : kTree nx dp mnh fsh enh K wd x n) {o : Int → Int} {R b : Int} (hO : kFO mnh dp K wd o R) (hb : kPick (fun v => 1 < mnh v) dp o R b) {z0 z1 z2 : Int} (h0 : b = 0 → z0 = 0 ∧ z1 = -1 ∧ z2 = 0) (h1 : b ≠ 0 → z0 = dp b ∧ z1 = fsh b ∧ z2 = mnh b) : kIsRep x n 0 z0 ∧ kIsRep x n 1 z1 ∧ kIsRep x n 2 z2 := by
  obtain ⟨k1, k2⟩ := kPick_rep T hO hb
  by_cases e : b = 0
  · obtain ⟨rfl, rfl, rfl⟩ := h0 e
    exact ⟨⟨-1, 0, k1 e, Or.inl ⟨rfl, rfl⟩⟩, ⟨-1, 0, k1 e, Or.inr (Or.inl ⟨rfl, rfl⟩)⟩, ⟨-1, 0, k1 e, Or.inr (Or.inr ⟨by decide, by decide, Or.inl ⟨rfl, rfl⟩⟩)⟩⟩
  · obtain ⟨rfl, rfl, rfl⟩ := h1 e
    obtain ⟨g1, g2, g3⟩ := k2 e
    exact ⟨⟨_, _, g1, Or.inl ⟨rfl, rfl⟩⟩, ⟨_, _, g1, Or.inr (Or.inl ⟨rfl, rfl⟩)⟩, ⟨_, _, g1, Or.inr (Or.inr ⟨by decide, by decide, Or.inr ⟨g2, g3⟩⟩)⟩⟩
theorem kIsSeam_of {nx dp mn0 fs0 en0 mn1 fs1 en1 : Int → Int} {K : Int} {wd : Int → Int → Int} {x : Int → Int} {n : Int} {y : Int → Int} {ny : Int} (T : kTree nx dp mn0 fs0 en0 K wd x n) (U : kTree nx dp mn1 fs1 en1 K wd y ny) {o : Int → Int} {R b : Int} (hO : kFO mn0 dp K wd o R) (hb : kPick (fun v => 0 < mn1 v) dp o R b) {z0 z1 z2 : Int} (h0 : b = 0 → z0 = 0 ∧ z1 = -1 ∧ z2 = -1) (h1 : b ≠ 0 → z0 = dp b ∧ z1 = fs0 b ∧ z2 = fs1 b) : kIsSeam x n y ny 0 z0 ∧ kIsSeam x n y ny 1 z1 ∧ kIsSeam x n y ny 2 z2 := by
  obtain ⟨k1, k2⟩ := kPick_seam T U hO hb
  by_cases e : b = 0
  · obtain ⟨rfl, rfl, rfl⟩ := h0 e
    exact ⟨⟨-1, 0, k1 e, Or.inl ⟨rfl, rfl⟩⟩, ⟨-1, 0, k1 e, Or.inr (Or.inl ⟨rfl, rfl⟩)⟩, ⟨-1, 0, k1 e, Or.inr (Or.inr ⟨by decide, by decide, Or.inl ⟨rfl, rfl⟩⟩)⟩⟩
  · obtain ⟨rfl, rfl, rfl⟩ := h1 e
    obtain ⟨g1, g2, g3, g4, g5, g6⟩ := k2 e
    exact ⟨⟨_, _, g1, Or.inl ⟨rfl, rfl⟩⟩, ⟨_, _, g1, Or.inr (Or.inl ⟨rfl, rfl⟩)⟩, ⟨_, _, g1, Or.inr (Or.inr ⟨by decide, by decide, Or.inr ⟨g2, g3, g4, g5, g6⟩⟩)⟩⟩
