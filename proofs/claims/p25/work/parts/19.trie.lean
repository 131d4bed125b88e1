/-! ===== the tree of rows: a node for each row that stands somewhere; wd tells a node's row, dp how many stitches it has ===== -/
theorem kEq_tr {x : Int → Int} {a : Int} {y : Int → Int} {b : Int} {z : Int → Int} {c m : Int} (h : kEq x a y b m) (g : kEq y b z c m) : kEq x a z c m := fun t h1 h2 => (h t h1 h2).trans (g t h1 h2)
theorem kEq_le {x : Int → Int} {a : Int} {y : Int → Int} {b m k : Int} (h : kEq x a y b m) (hk : k ≤ m) : kEq x a y b k := fun t h1 h2 => h t h1 (by omega)
/-- the row w of d stitches stands at the place a of hem h, as far as has been gone through (B h a stitches of the end at a) -/
def kOc (X B : Int → Int → Int) (h : Int) (w : Int → Int) (d a : Int) : Prop := d ≤ B h a ∧ kEq (X h) a w 0 d
def kTr (X : Int → Int → Int) (nx dp : Int → Int) (mn fs : Int → Int → Int) (K : Int) (wd B : Int → Int → Int) : Prop :=
  (1 ≤ K ∧ dp 0 = 0) ∧
  (∀ v : Int, 1 ≤ v → v < K → 1 ≤ dp v ∧ dp v ≤ 40) ∧
  (∀ v w : Int, 0 ≤ v → v < K → 0 ≤ w → w < K → dp v = dp w → kEq (wd v) 0 (wd w) 0 (dp v) → v = w) ∧
  (∀ v s : Int, 0 ≤ v → v < K → 0 ≤ s → s ≤ 8 → nx (9 * v + s) = 0 ∨ (1 ≤ nx (9 * v + s) ∧ nx (9 * v + s) < K ∧ dp (nx (9 * v + s)) = dp v + 1 ∧ kEq (wd (nx (9 * v + s))) 0 (wd v) 0 (dp v) ∧ wd (nx (9 * v + s)) (dp v) = s)) ∧
  (∀ i : Int, 9 * K ≤ i → nx i = 0) ∧
  (∀ w : Int, 1 ≤ w → w < K → ∃ v : Int, 0 ≤ v ∧ v < K ∧ dp v + 1 = dp w ∧ kEq (wd v) 0 (wd w) 0 (dp v) ∧ (0 ≤ wd w (dp v) ∧ wd w (dp v) ≤ 8) ∧ nx (9 * v + wd w (dp v)) = w) ∧
  (∀ h : Int, 0 ≤ h → h < 2 → (∀ v : Int, 1 ≤ v → v < K → mn h v = kCnt (kOc X B h (wd v) (dp v)) 40 ∧ (0 < mn h v → 0 ≤ fs h v ∧ kOc X B h (wd v) (dp v) (fs h v) ∧ ∀ a : Int, 0 ≤ a → a < fs h v → ¬ kOc X B h (wd v) (dp v) a)) ∧ (∀ v : Int, K ≤ v → mn h v = 0) ∧ mn h 0 = 0) ∧
  (∀ h a m : Int, 0 ≤ h → h < 2 → 0 ≤ a → 1 ≤ m → m ≤ B h a → ∃ v : Int, 1 ≤ v ∧ v < K ∧ dp v = m ∧ kEq (X h) a (wd v) 0 m)
/-- the ends: en h v is 1 more than the place of the end of hem h whose row is that of v, 0 without any, of the ends at the places 0 to En h - 1 -/
def kEd (X : Int → Int → Int) (N : Int → Int) (dp : Int → Int) (en : Int → Int → Int) (K : Int) (wd : Int → Int → Int) (En : Int → Int) : Prop :=
  ∀ h : Int, 0 ≤ h → h < 2 → (∀ v : Int, 0 ≤ v → v < K → (en h v = 0 ∧ ∀ a : Int, 0 ≤ a → a < En h → ¬ (dp v = N h - a ∧ kEq (X h) a (wd v) 0 (dp v))) ∨ (1 ≤ en h v ∧ en h v ≤ En h ∧ dp v = N h - (en h v - 1) ∧ kEq (X h) (en h v - 1) (wd v) 0 (dp v))) ∧ ∀ v : Int, K ≤ v → en h v = 0
theorem kCnt_0no {P : Int → Prop} : ∀ n : Nat, kCnt P n = 0 → ∀ a : Int, 0 ≤ a → a < (n : Int) → ¬ P a
  | 0, _, a, h1, h2 => by omega
  | n + 1, h, a, h1, h2 => by
    rw [kCnt] at h
    have g := (kCnt_rng P n).1
    by_cases q : P (n : Int)
    · rw [kIf_t q] at h; omega
    · rw [kIf_f q] at h
      by_cases e : a = (n : Int)
      · rw [e]; exact q
      · exact kCnt_0no n (by omega) a h1 (by omega)
theorem kCnt_no {P : Int → Prop} (n : Nat) (h : ∀ a : Int, 0 ≤ a → a < (n : Int) → ¬ P a) : kCnt P n = 0 := by
  have := kCnt_tail P 0 n (by omega) (fun k k1 k2 => h k (by omega) k2)
  rw [this]; rfl
theorem kCnt_pos {P : Int → Prop} (n : Nat) (h : 0 < kCnt P n) : ∃ a : Int, 0 ≤ a ∧ a < (n : Int) ∧ P a := by
  by_cases q : ∃ a : Int, 0 ≤ a ∧ a < (n : Int) ∧ P a
  · exact q
  · have := kCnt_no n (fun a h1 h2 g => q ⟨a, h1, h2, g⟩)
    omega
theorem kCnt_has {P : Int → Prop} (n : Nat) {a : Int} (h1 : 0 ≤ a) (h2 : a < (n : Int)) (h : P a) : 0 < kCnt P n := by
  have g := (kCnt_rng P n).1
  by_cases q : kCnt P n = 0
  · exact absurd h (kCnt_0no n q a h1 h2)
  · omega
/-- the child of v by the stitch s, told by its row -/
theorem kTr_child {X : Int → Int → Int} {nx dp : Int → Int} {mn fs : Int → Int → Int} {K : Int} {wd B : Int → Int → Int} (T : kTr X nx dp mn fs K wd B) {v w : Int} (hv : 0 ≤ v ∧ v < K) (hw : 1 ≤ w ∧ w < K) (hd : dp w = dp v + 1) (he : kEq (wd v) 0 (wd w) 0 (dp v)) : (0 ≤ wd w (dp v) ∧ wd w (dp v) ≤ 8) ∧ nx (9 * v + wd w (dp v)) = w := by
  obtain ⟨t1, t2, t3, t4, t5, t6, t7, t8⟩ := T
  obtain ⟨p, p1, p2, p3, p4, p5, p6⟩ := t6 w hw.1 hw.2
  have hpv : p = v := t3 p v p1 p2 hv.1 hv.2 (by omega) (by
    rw [show dp p = dp v by omega] at p4 ⊢
    exact kEq_tr p4 (kEq_symm he))
  subst hpv
  exact ⟨p5, p6⟩
theorem kTr_new {X : Int → Int → Int} {nx dp : Int → Int} {mn fs : Int → Int → Int} {K : Int} {wd B : Int → Int → Int} (T : kTr X nx dp mn fs K wd B) {v s : Int} (hv : 0 ≤ v ∧ v < K) (hs : 0 ≤ s ∧ s ≤ 8) (hd : dp v < 40) (h0 : nx (9 * v + s) = 0) {nx' dp' : Int → Int} {wd' : Int → Int → Int}
    (n1 : nx' (9 * v + s) = K) (n2 : ∀ i : Int, i ≠ 9 * v + s → nx' i = nx i) (d1 : dp' K = dp v + 1) (d2 : ∀ i : Int, i ≠ K → dp' i = dp i) (w1 : ∀ j : Int, 0 ≤ j → j < dp v → wd' K j = wd v j) (w2 : wd' K (dp v) = s) (w3 : ∀ i : Int, i ≠ K → wd' i = wd i) :
    kTr X nx' dp' mn fs (K + 1) wd' B ∧ ∀ h a : Int, 0 ≤ h → h < 2 → 0 ≤ a → ¬ kOc X B h (wd' K) (dp v + 1) a := by
  have T0 := T
  obtain ⟨t1, t2, t3, t4, t5, t6, t7, t8⟩ := T
  have hdv : 0 ≤ dp v := by
    by_cases e : v = 0
    · rw [e, t1.2]; omega
    · have := t2 v (by omega) hv.2; omega
  -- no node has the new row
  have nobody : ∀ w : Int, 1 ≤ w → w < K → dp w = dp v + 1 → ¬ kEq (wd' K) 0 (wd w) 0 (dp v + 1) := by
    intro w hw1 hw2 e he
    have hev : kEq (wd v) 0 (wd w) 0 (dp v) := fun t g1 g2 => by
      have := he t g1 (by omega)
      rw [Int.zero_add] at this ⊢
      rw [← w1 t g1 g2]; exact this
    have hc := kTr_child T0 hv ⟨hw1, hw2⟩ e hev
    have hs2 := he (dp v) hdv (by omega)
    rw [Int.zero_add, w2] at hs2
    rw [← hs2, h0] at hc
    omega
  have noocc : ∀ h a : Int, 0 ≤ h → h < 2 → 0 ≤ a → ¬ kOc X B h (wd' K) (dp v + 1) a := by
    intro h a h1 h2 a1 ⟨q1, q2⟩
    obtain ⟨w, g1, g2, g3, g4⟩ := t8 h a (dp v + 1) h1 h2 a1 (by omega) q1
    exact nobody w g1 g2 g3 (kEq_tr (kEq_symm q2) g4)
  refine ⟨⟨⟨by omega, by rw [d2 0 (by omega)]; exact t1.2⟩, fun w g1 g2 => ?_, fun a b a1 a2 b1 b2 e he => ?_, fun a q a1 a2 q1 q2 => ?_, fun i hi => ?_, fun w g1 g2 => ?_, fun h h1 h2 => ⟨fun w g1 g2 => ?_, fun w g1 => ?_, ?_⟩, fun h a m h1 h2 a1 m1 m2 => ?_⟩, noocc⟩
  · by_cases e : w = K
    · rw [e, d1]; omega
    · rw [d2 w e]; exact t2 w g1 (by omega)
  · by_cases ea : a = K <;> by_cases eb : b = K
    · omega
    · subst ea
      rw [d1] at e he
      rw [d2 b eb] at e
      rw [w3 b eb] at he
      have hb1 : 1 ≤ b := by
        by_cases z : b = 0
        · rw [z, t1.2] at e; omega
        · omega
      exact absurd he (nobody b hb1 (by omega) e.symm)
    · subst eb
      rw [d1, d2 a ea] at e
      rw [d2 a ea, w3 a ea] at he
      have ha1 : 1 ≤ a := by
        by_cases z : a = 0
        · rw [z, t1.2] at e; omega
        · omega
      rw [e] at he
      exact absurd (kEq_symm he) (nobody a ha1 (by omega) e)
    · rw [d2 a ea, d2 b eb] at e
      rw [d2 a ea, w3 a ea, w3 b eb] at he
      exact t3 a b a1 (by omega) b1 (by omega) e he
  · by_cases e : 9 * a + q = 9 * v + s
    · have e1 : a = v := by omega
      have e2 : q = s := by omega
      subst e1; subst e2
      rw [n1]
      refine Or.inr ⟨by omega, by omega, ?_, fun t g1 g2 => ?_, ?_⟩
      · rw [d1, d2 a (by omega)]
      · rw [d2 a (by omega)] at g2
        rw [w3 a (by omega), Int.zero_add]
        exact w1 t g1 g2
      · rw [d2 a (by omega)]; exact w2
    · rw [n2 _ e]
      by_cases ea : a = K
      · subst ea
        exact Or.inl (t5 _ (by omega))
      · rcases t4 a q a1 (by omega) q1 q2 with g | ⟨g1, g2, g3, g4, g5⟩
        · exact Or.inl g
        · refine Or.inr ⟨g1, by omega, ?_, ?_, ?_⟩
          · rw [d2 _ (by omega), d2 a ea]; exact g3
          · rw [d2 a ea, w3 _ (by omega), w3 a ea]; exact g4
          · rw [d2 a ea, w3 _ (by omega)]; exact g5
  · rw [n2 i (by omega)]; exact t5 i (by omega)
  · by_cases e : w = K
    · subst e
      refine ⟨v, hv.1, by omega, ?_, fun t q1 q2 => ?_, ?_, ?_⟩
      · rw [d1, d2 v (by omega)]
      · rw [d2 v (by omega)] at q2
        rw [w3 v (by omega), Int.zero_add]
        exact (w1 t q1 q2).symm
      · rw [d2 v (by omega), w2]; exact hs
      · rw [d2 v (by omega), w2]; exact n1
    · obtain ⟨u, u1, u2, u3, u4, u5, u6⟩ := t6 w g1 (by omega)
      refine ⟨u, u1, by omega, ?_, ?_, ?_, ?_⟩
      · rw [d2 u (by omega), d2 w e]; exact u3
      · rw [d2 u (by omega), w3 u (by omega), w3 w e]; exact u4
      · rw [d2 u (by omega), w3 w e]; exact u5
      · rw [d2 u (by omega), w3 w e, n2 _ (fun z => by rw [z, h0] at u6; omega)]; exact u6
  · by_cases e : w = K
    · subst e
      have z0 := (t7 h h1 h2).2.1 w (Int.le_refl _)
      refine ⟨?_, fun z => by omega⟩
      rw [z0, d1, kCnt_no 40 (fun a a1 _ => noocc h a h1 h2 a1)]
    · rw [d2 w e, w3 w e]; exact (t7 h h1 h2).1 w g1 (by omega)
  · exact (t7 h h1 h2).2.1 w (by omega)
  · exact (t7 h h1 h2).2.2
  · obtain ⟨w, g1, g2, g3, g4⟩ := t8 h a m h1 h2 a1 m1 m2
    exact ⟨w, g1, by omega, by rw [d2 w (by omega)]; exact g3, by rw [w3 w (by omega)]; exact g4⟩
theorem kTr_visit {X : Int → Int → Int} {nx dp : Int → Int} {mn fs : Int → Int → Int} {K : Int} {wd B : Int → Int → Int} (T : kTr X nx dp mn fs K wd B) {g c p : Int} (hg : 0 ≤ g ∧ g < 2) (hc : 1 ≤ c ∧ c < K) (hp : 0 ≤ p ∧ p < 40) (hd : dp c = B g p + 1) (hB0 : 0 ≤ B g p) (hB : ∀ a : Int, p < a → B g a ≤ 0) (he : kEq (X g) p (wd c) 0 (dp c)) {mn' fs' B' : Int → Int → Int}
    (m1 : mn' g c = mn g c + 1) (m2 : ∀ h v : Int, (h ≠ g ∨ v ≠ c) → mn' h v = mn h v) (f1 : mn g c = 0 → fs' g c = p) (f2 : mn g c ≠ 0 → fs' g c = fs g c) (f3 : ∀ h v : Int, (h ≠ g ∨ v ≠ c) → fs' h v = fs h v) (b1 : B' g p = B g p + 1) (b2 : ∀ h a : Int, (h ≠ g ∨ a ≠ p) → B' h a = B h a) : kTr X nx dp mn' fs' K wd B' := by
  obtain ⟨t1, t2, t3, t4, t5, t6, t7, t8⟩ := T
  have oc : ∀ (h a : Int) (w : Int → Int) (d : Int), (h ≠ g ∨ a ≠ p) → (kOc X B' h w d a ↔ kOc X B h w d a) := by
    intro h a w d hh
    unfold kOc
    rw [b2 h a hh]
  -- at (g, p) only the node c is met anew
  have ocp : ∀ v : Int, 1 ≤ v → v < K → v ≠ c → (kOc X B' g (wd v) (dp v) p ↔ kOc X B g (wd v) (dp v) p) := by
    intro v v1 v2 vc
    unfold kOc
    rw [b1]
    refine ⟨fun ⟨q1, q2⟩ => ⟨?_, q2⟩, fun ⟨q1, q2⟩ => ⟨by omega, q2⟩⟩
    by_cases e : dp v = B g p + 1
    · exfalso
      refine vc (t3 v c (by omega) v2 (by omega) hc.2 (by omega) ?_)
      rw [e, ← hd]
      rw [e, ← hd] at q2
      exact kEq_tr (kEq_symm q2) he
    · omega
  have ocall : ∀ h v : Int, 1 ≤ v → v < K → (h ≠ g ∨ v ≠ c) → ∀ a : Int, (kOc X B' h (wd v) (dp v) a ↔ kOc X B h (wd v) (dp v) a) := by
    intro h v v1 v2 hv a
    by_cases e : h = g ∧ a = p
    · obtain ⟨e1, e2⟩ := e
      subst e1; subst e2
      exact ocp v v1 v2 (by omega)
    · exact oc h a _ _ (by omega)
  refine ⟨t1, t2, t3, t4, t5, t6, fun h h1 h2 => ⟨fun v v1 v2 => ?_, fun v v1 => ?_, ?_⟩, fun h a m h1 h2 a1 q1 q2 => ?_⟩
  · by_cases e : h = g ∧ v = c
    · obtain ⟨e1, e2⟩ := e
      subst e1; subst e2
      obtain ⟨c1, c2⟩ := (t7 h h1 h2).1 v v1 v2
      have hnew : kOc X B' h (wd v) (dp v) p := ⟨by rw [b1]; omega, he⟩
      have hold : ¬ kOc X B h (wd v) (dp v) p := fun q => by have := q.1; omega
      refine ⟨?_, fun _ => ?_⟩
      · rw [m1, c1, kCnt_drop (j := p) 40 hp.1 (by omega) hnew]
        congr 1
        refine kCnt_congr 40 (fun a a1 a2 => ⟨fun q => ?_, fun q => ?_⟩)
        · have hap : a ≠ p := fun z => hold (by rw [← z]; exact q)
          exact ⟨(oc h a _ _ (Or.inr hap)).mpr q, hap⟩
        · exact (oc h a _ _ (Or.inr q.2)).mp q.1
      · by_cases z : mn h v = 0
        · rw [f1 z]
          refine ⟨hp.1, hnew, fun a a1 a2 q => ?_⟩
          rw [c1] at z
          exact kCnt_0no 40 z a a1 (by omega) ((oc h a _ _ (by omega)).mp q)
        · have zp : 0 < mn h v := by
            have := (kCnt_rng (kOc X B h (wd v) (dp v)) 40).1
            omega
          obtain ⟨s1, s2, s3⟩ := c2 zp
          rw [f2 z]
          have hfp : fs h v ≤ p := by
            rcases Int.lt_or_le p (fs h v) with y | y
            · have := hB _ y
              have := s2.1
              have := t2 v v1 v2
              omega
            · exact y
          have hfne : fs h v ≠ p := fun y => hold (by rw [← y]; exact s2)
          refine ⟨s1, (oc h _ _ _ (Or.inr hfne)).mpr s2, fun a a1 a2 q => s3 a a1 a2 ((oc h a _ _ (by omega)).mp q)⟩
    · have hne : h ≠ g ∨ v ≠ c := by omega
      obtain ⟨c1, c2⟩ := (t7 h h1 h2).1 v v1 v2
      have hall := ocall h v v1 v2 hne
      rw [m2 h v hne, f3 h v hne]
      refine ⟨by rw [c1]; exact kCnt_congr 40 (fun a _ _ => (hall a).symm), fun z => ?_⟩
      obtain ⟨s1, s2, s3⟩ := c2 z
      exact ⟨s1, (hall _).mpr s2, fun a a1 a2 q => s3 a a1 a2 ((hall a).mp q)⟩
  · rw [m2 h v (by omega)]; exact (t7 h h1 h2).2.1 v v1
  · rw [m2 h 0 (by omega)]; exact (t7 h h1 h2).2.2
  · by_cases e : h = g ∧ a = p
    · obtain ⟨e1, e2⟩ := e
      subst e1; subst e2
      by_cases e3 : m = B h a + 1
      · exact ⟨c, hc.1, hc.2, by omega, by rw [e3, ← hd]; exact he⟩
      · exact t8 h a m h1 h2 a1 q1 (by rw [b1] at q2; omega)
    · exact t8 h a m h1 h2 a1 q1 (by rw [b2 h a (by omega)] at q2; exact q2)
/-- a new node has the row of no end that has been told -/
theorem kEd_new {X : Int → Int → Int} {N dp : Int → Int} {en : Int → Int → Int} {K : Int} {wd B : Int → Int → Int} {En : Int → Int} (D : kEd X N dp en K wd En) (hEn : ∀ h a : Int, 0 ≤ h → h < 2 → 0 ≤ a → a < En h → N h - a ≤ B h a) {d : Int} {dp' : Int → Int} {wd' : Int → Int → Int} (d1 : dp' K = d) (d2 : ∀ i : Int, i ≠ K → dp' i = dp i) (w3 : ∀ i : Int, i ≠ K → wd' i = wd i) (hno : ∀ h a : Int, 0 ≤ h → h < 2 → 0 ≤ a → ¬ kOc X B h (wd' K) d a) : kEd X N dp' en (K + 1) wd' En := by
  intro h h1 h2
  obtain ⟨e1, e2⟩ := D h h1 h2
  refine ⟨fun v v1 v2 => ?_, fun v v1 => e2 v (by omega)⟩
  by_cases e : v = K
  · subst e
    refine Or.inl ⟨e2 v (Int.le_refl _), fun a a1 a2 ⟨q1, q2⟩ => hno h a h1 h2 a1 ⟨?_, ?_⟩⟩
    · have := hEn h a h1 h2 a1 a2
      omega
    · rw [d1] at q2; exact q2
  · rw [d2 v e, w3 v e]; exact e1 v v1 (by omega)
theorem kEd_end {X : Int → Int → Int} {N nx dp : Int → Int} {mn fs en : Int → Int → Int} {K : Int} {wd B : Int → Int → Int} {En : Int → Int} (T : kTr X nx dp mn fs K wd B) (D : kEd X N dp en K wd En) {g c p : Int} (hg : 0 ≤ g ∧ g < 2) (hc : 0 ≤ c ∧ c < K) (hp : 0 ≤ p) (hEn : En g = p) (hd : dp c = N g - p) (he : kEq (X g) p (wd c) 0 (dp c)) {en' : Int → Int → Int} {En' : Int → Int}
    (m1 : en' g c = p + 1) (m2 : ∀ h v : Int, (h ≠ g ∨ v ≠ c) → en' h v = en h v) (n1 : En' g = p + 1) (n2 : ∀ h : Int, h ≠ g → En' h = En h) : kEd X N dp en' K wd En' := by
  obtain ⟨t1, t2, t3, -⟩ := T
  intro h h1 h2
  obtain ⟨e1, e2⟩ := D h h1 h2
  by_cases eg : h = g
  · subst eg
    refine ⟨fun v v1 v2 => ?_, fun v v1 => by rw [m2 h v (by omega)]; exact e2 v v1⟩
    by_cases ec : v = c
    · subst ec
      rw [m1, n1]
      exact Or.inr ⟨by omega, by omega, by omega, by rw [show p + 1 - 1 = p by omega]; exact he⟩
    · rw [m2 h v (by omega), n1]
      rcases e1 v v1 v2 with ⟨q1, q2⟩ | ⟨q1, q2, q3, q4⟩
      · refine Or.inl ⟨q1, fun a a1 a2 ⟨z1, z2⟩ => ?_⟩
        by_cases ea : a = p
        · subst ea
          exact ec (t3 v c v1 v2 hc.1 hc.2 (by omega) (by
            rw [show dp v = dp c by omega] at z2 ⊢
            exact kEq_tr (kEq_symm z2) he))
        · exact q2 a a1 (by omega) ⟨z1, z2⟩
      · exact Or.inr ⟨q1, by omega, q3, q4⟩
  · refine ⟨fun v v1 v2 => ?_, fun v v1 => by rw [m2 h v (by omega)]; exact e2 v v1⟩
    rw [m2 h v (by omega), n2 h eg]
    exact e1 v v1 v2
/-- what has been gone through: the hems ahead of g whole, of g the ends ahead of p whole, of the end at p j stitches -/
def kBf (N : Int → Int) (g p j : Int) : Int → Int → Int := fun h a => if h < g then (if 0 ≤ a ∧ a < N h then N h - a else 0) else if h = g then (if 0 ≤ a ∧ a < p then N h - a else if a = p then j else 0) else 0
def kEf (N : Int → Int) (g p : Int) : Int → Int := fun h => if h < g then N h else if h = g then p else 0
theorem kBf_p {N : Int → Int} {g p j : Int} : kBf N g p j g p = j := by
  unfold kBf
  rw [if_neg (by omega), if_pos rfl, if_neg (by omega), if_pos rfl]
theorem kBf_ne {N : Int → Int} {g p j k h a : Int} (hh : h ≠ g ∨ a ≠ p) : kBf N g p k h a = kBf N g p j h a := by
  unfold kBf
  split
  · rfl
  split
  · split
    · rfl
    · rw [if_neg (by omega), if_neg (by omega)]
  · rfl
theorem kBf_gt {N : Int → Int} {g p j a : Int} (h : p < a) : kBf N g p j g a = 0 := by
  unfold kBf
  rw [if_neg (by omega), if_pos rfl, if_neg (by omega), if_neg (by omega)]
theorem kBf_next {N : Int → Int} {g p : Int} (hp : 0 ≤ p) : kBf N g p (N g - p) = kBf N g (p + 1) 0 := by
  funext h a
  unfold kBf
  split
  · rfl
  split
  · rename_i e
    subst e
    by_cases e1 : 0 ≤ a ∧ a < p
    · rw [if_pos e1, if_pos (by omega)]
    · rw [if_neg e1]
      by_cases e2 : a = p
      · rw [if_pos e2, if_pos (by omega), e2]
      · rw [if_neg e2, if_neg (by omega)]
        split <;> rfl
  · rfl
theorem kBf_hem {N : Int → Int} {g : Int} : kBf N g (N g) 0 = kBf N (g + 1) 0 0 := by
  funext h a
  unfold kBf
  by_cases e1 : h < g
  · rw [if_pos e1, if_pos (show h < g + 1 by omega)]
  · rw [if_neg e1]
    by_cases e2 : h = g
    · subst e2
      rw [if_pos rfl, if_pos (show h < h + 1 by omega)]
      by_cases e3 : 0 ≤ a ∧ a < N h
      · rw [if_pos e3, if_pos e3]
      · rw [if_neg e3, if_neg e3]; split <;> rfl
    · rw [if_neg e2, if_neg (show ¬ h < g + 1 by omega)]
      split
      · rw [if_neg (show ¬ (0 ≤ a ∧ a < 0) by omega)]; split <;> rfl
      · rfl
theorem kEf_hem {N : Int → Int} {g : Int} : kEf N g (N g) = kEf N (g + 1) 0 := by
  funext h
  unfold kEf
  by_cases e1 : h < g
  · rw [if_pos e1, if_pos (by omega)]
  · rw [if_neg e1]
    by_cases e2 : h = g
    · subst e2
      rw [if_pos rfl, if_pos (by omega)]
    · rw [if_neg e2, if_neg (by omega)]
      split <;> rfl
theorem kEf_B {N : Int → Int} {g p j : Int} (hp : p ≤ N g) : ∀ h a : Int, 0 ≤ h → h < 2 → 0 ≤ a → a < kEf N g p h → N h - a ≤ kBf N g p j h a := by
  intro h a h1 h2 a1 a2
  unfold kEf at a2
  unfold kBf
  by_cases e1 : h < g
  · rw [if_pos e1] at a2
    rw [if_pos e1, if_pos ⟨a1, a2⟩]; omega
  · rw [if_neg e1] at a2 ⊢
    by_cases e2 : h = g
    · rw [if_pos e2] at a2
      rw [if_pos e2, if_pos ⟨a1, a2⟩]; omega
    · rw [if_neg e2] at a2; omega
theorem kTr_0 (X : Int → Int → Int) (N : Int → Int) {nx dp : Int → Int} {mn fs : Int → Int → Int} (h1 : ∀ i : Int, 0 ≤ i → nx i = 0) (h2 : dp 0 = 0) (h3 : ∀ h v : Int, 0 ≤ h → h < 2 → 0 ≤ v → mn h v = 0) (wd : Int → Int → Int) : kTr X nx dp mn fs 1 wd (kBf N 0 0 0) := by
  refine ⟨⟨by omega, h2⟩, fun v g1 g2 => by omega, fun v w a1 a2 b1 b2 _ _ => by omega, fun v s a1 a2 b1 b2 => Or.inl (h1 _ (by omega)), fun i hi => h1 _ (by omega), fun w g1 g2 => by omega, fun h a1 a2 => ⟨fun v g1 g2 => by omega, fun v g1 => h3 h v a1 a2 (by omega), h3 h 0 a1 a2 (by omega)⟩, fun h a m a1 a2 b1 m1 m2 => ?_⟩
  exfalso
  unfold kBf at m2
  rw [if_neg (by omega)] at m2
  split at m2
  · rw [if_neg (by omega)] at m2
    split at m2 <;> omega
  · omega
theorem kEd_0 (X : Int → Int → Int) (N : Int → Int) {dp : Int → Int} {en : Int → Int → Int} (h3 : ∀ h v : Int, 0 ≤ h → h < 2 → 0 ≤ v → en h v = 0) (wd : Int → Int → Int) : kEd X N dp en 1 wd (kEf N 0 0) := by
  intro h a1 a2
  refine ⟨fun v v1 v2 => Or.inl ⟨h3 h v a1 a2 v1, fun a b1 b2 => ?_⟩, fun v v1 => h3 h v a1 a2 (by omega)⟩
  exfalso
  unfold kEf at b2
  rw [if_neg (by omega)] at b2
  split at b2 <;> omega
/-- how many rows there can be: n and n - 1 and so on, down to n - p + 1 -/
theorem kTri {n : Int} (hn : 0 ≤ n ∧ n ≤ 40) (p : Nat) (hp : (p : Int) ≤ n) : kSum (fun q => n - q) p ≤ 820 ∧ 0 ≤ kSum (fun q => n - q) p := by
  have le : ∀ p : Nat, kSum (fun q => n - q) p ≤ kSum (fun q => 40 - q) p := by
    intro p
    induction p with
    | zero => exact Int.le_refl _
    | succ p ih =>
      show kSum (fun q => n - q) p + (n - (p : Int)) ≤ kSum (fun q => 40 - q) p + (40 - (p : Int))
      omega
  have nn : ∀ p : Nat, (p : Int) ≤ n → 0 ≤ kSum (fun q => n - q) p := by
    intro p
    induction p with
    | zero => intro _; exact Int.le_refl _
    | succ p ih =>
      intro h
      have := ih (by omega)
      show 0 ≤ kSum (fun q => n - q) p + (n - (p : Int))
      omega
  have m := kSum_mono (f := fun q : Int => 40 - q) (n := 40) (fun k k1 k2 => by show 0 ≤ 40 - k; omega) (40 - p) (p : Int) 40 (by omega) (by omega) (by omega)
  rw [Int.toNat_natCast] at m
  have e : kSum (fun q : Int => 40 - q) (40 : Int).toNat = 820 := by decide +kernel
  have := le p
  exact ⟨by omega, nn p hp⟩
