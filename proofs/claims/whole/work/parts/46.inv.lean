/-! ===== what holds between two calls of the law ===== -/
def kI (M : kM) : Prop := kWf M ∧ (∀ h : Int, 0 ≤ h ∧ h < 2 → kO M h ∧ (∀ k : Int, M (13 + h) k = M (h + 3) k) ∧ M 15 h = M h 1) ∧ (∀ k : Int, M 16 k = M 5 k) ∧ M 11 4 = M 2 1 ∧ M 2 1 ≤ 12
theorem kI_0 : kI (fun _ _ => 0) := by
  refine ⟨fun i hi => ⟨Int.le_refl 0, (by decide : (0 : Int) ≤ 40), fun j j1 j2 => ?_⟩, fun h hh => ⟨⟨fun r r1 r2 => ?_, fun r s r1 r2 r3 => ?_⟩, fun _ => rfl, rfl⟩, fun _ => rfl, rfl, (by decide : (0 : Int) ≤ 12)⟩
  · have j3 : j < 0 := j2
    omega
  · have j3 : r < 0 := r2
    omega
  · have j3 : s < 0 := r3
    omega
theorem kU_row {M : kM} {c j v k : Int} : kU M c j v c k = if k = j then v else M c k := by
  rw [kU_at]
  by_cases q : k = j
  · rw [if_pos ⟨rfl, q⟩, if_pos q]
  · rw [if_neg (fun g => q g.2), if_neg q]
theorem kI_O {M : kM} (h : kI M) : ∀ g : Int, 0 ≤ g ∧ g < 2 → kO M g := fun g hg => (h.2.1 g hg).1
theorem kI_13 {M : kM} (h : kI M) {g : Int} (hg : 0 ≤ g ∧ g < 2) : M (13 + g) = M (g + 3) := funext (h.2.1 g hg).2.1
theorem kI_15 {M : kM} (h : kI M) {g : Int} (hg : 0 ≤ g ∧ g < 2) : M 15 g = M g 1 := (h.2.1 g hg).2.2
theorem kI_16 {M : kM} (h : kI M) : M 16 = M 5 := funext h.2.2.1
theorem kI_wm {M : kM} (h : kI M) : kWm M := by
  obtain ⟨i1, i2, i3, i4, i5⟩ := id h
  have s := i1 2 (by omega)
  refine ⟨fun g hg => ?_, by rw [i4]; exact s.1, by rw [i4]; exact i5, fun j j1 j2 => ?_⟩
  · have n := i1 g (by omega)
    rw [kI_15 h hg]
    exact ⟨n.1, n.2.1, fun j j1 j2 => by rw [(i2 g hg).2.1]; exact n.2.2 j j1 j2⟩
  · rw [i4] at j2
    rw [i3]; exact s.2.2 j j1 j2
theorem kO_congr {M N : kM} {h : Int} (g : kO M h) (h1 : ∀ k : Int, N (h + 3) k = M (h + 3) k) (h2 : N h 1 = M h 1) (h3 : ∀ k : Int, N (8 + h) k = M (8 + h) k) : kO N h := kOrd_congr g h2 (fun j _ _ => h1 j) (fun r _ _ => h3 r)
theorem kI_congr {M N : kM} (hI : kI M) (h : ∀ c k : Int, c < 18 → (c ≠ 11 ∨ k ≠ 0) → N c k = M c k) : kI N := by
  obtain ⟨i1, i2, i3, i4, i5⟩ := hI
  refine ⟨kWf_congr i1 (fun c k c1 c2 => h c k (by omega) (by omega)), fun g hg => ⟨kO_congr (i2 g hg).1 (fun k => h _ k (by omega) (by omega)) (h _ _ (by omega) (by omega)) (fun k => h _ k (by omega) (by omega)), fun k => ?_, ?_⟩, fun k => ?_, ?_, ?_⟩
  · rw [h _ k (by omega) (by omega), h _ k (by omega) (by omega)]; exact (i2 g hg).2.1 k
  · rw [h _ _ (by omega) (by omega), h _ _ (by omega) (by omega)]; exact (i2 g hg).2.2
  · rw [h _ k (by omega) (by omega), h _ k (by omega) (by omega)]; exact i3 k
  · rw [h _ _ (by omega) (by omega), h _ _ (by omega) (by omega)]; exact i4
  · rw [h _ _ (by omega) (by omega)]; exact i5
theorem kI_m {M N : kM} (hI : kI M) (h : kFm M N) : kI N := kI_congr hI (fun c k g1 g2 => h c k (Or.inl g1) g2)
theorem kI_102 {M : kM} {v : Int} (hI : kI M) : kI (kU M 102 0 v) := kI_congr hI (fun c k g1 g2 => by rw [kU_at, if_neg (by omega)])
theorem kI_sew {M N1 N M2 : kM} {h st v : Int} (hI : kI M) (hh : 0 ≤ h ∧ h < 2) (hst : 0 ≤ st ∧ st ≤ 8) (hlt : M h 1 < 40) (h1 : ∀ c k : Int, c ≠ 8 + h → N1 c k = kU (kU M (h + 3) (M h 1) st) h 1 (M h 1 + 1) c k) (h2 : kO N1 h) (hM2 : M2 = kU N1 102 0 v) (h3 : kFt (kU (kU M2 (13 + h) (M2 15 h) st) 15 h (M2 15 h + 1)) N) : kI N ∧ M2 15 h = M h 1 := by
  obtain ⟨i1, i2, i3, i4, i5⟩ := hI
  have a : ∀ c k : Int, c < 18 → c ≠ 13 + h → (c ≠ 15 ∨ k ≠ h) → (c ≠ 11 ∨ k ≠ 0) → c ≠ 8 + h → N c k = kU (kU M (h + 3) (M h 1) st) h 1 (M h 1 + 1) c k := fun c k c1 c2 c3 c4 c5 => by
    rw [h3 c k c4, kU_at, if_neg (by omega), kU_at, if_neg (by omega), hM2, kU_at, if_neg (by omega), h1 c k c5]
  have b : ∀ c k : Int, c < 18 → c ≠ 13 + h → (c ≠ 15 ∨ k ≠ h) → (c ≠ 11 ∨ k ≠ 0) → c ≠ 8 + h → c ≠ h + 3 → c ≠ h → N c k = M c k := fun c k c1 c2 c3 c4 c5 c6 c7 => by
    rw [a c k c1 c2 c3 c4 c5, kU_at, if_neg (by omega), kU_at, if_neg (by omega)]
  have a8 : ∀ k : Int, N (8 + h) k = N1 (8 + h) k := fun k => by rw [h3 _ k (by omega), kU_at, if_neg (by omega), kU_at, if_neg (by omega), hM2, kU_at, if_neg (by omega)]
  have m15 : M2 15 h = M h 1 := by
    rw [hM2, kU_at, if_neg (by omega), h1 15 h (by omega), kU_at, if_neg (by omega), kU_at, if_neg (by omega)]
    exact (i2 h hh).2.2
  have n3 : ∀ k : Int, N (h + 3) k = N1 (h + 3) k := fun k => by rw [a _ k (by omega) (by omega) (by omega) (by omega) (by omega), h1 _ k (by omega)]
  refine ⟨⟨kWf_congr (kWf_app i1 (by omega) hst hlt) (fun c k c1 c2 => a c k (by omega) (by omega) (by omega) (by omega) (by omega)), fun g hg => ?_, fun k => ?_, ?_, ?_⟩, m15⟩
  · by_cases e : g = h
    · subst e
      refine ⟨kO_congr h2 n3 (by rw [a _ _ (by omega) (by omega) (by omega) (by omega) (by omega), h1 _ _ (by omega)]) a8, fun k => ?_, ?_⟩
      · have e0 : M2 (13 + g) k = M (g + 3) k := by
          rw [hM2, kU_at, if_neg (by omega), h1 _ k (by omega), kU_at, if_neg (by omega), kU_at, if_neg (by omega)]
          exact (i2 g hg).2.1 k
        have e1 : N (13 + g) k = if k = M g 1 then st else M (g + 3) k := by rw [h3 _ k (by omega), kU_at, if_neg (by omega), kU_row, m15, e0]
        have e2 : N (g + 3) k = if k = M g 1 then st else M (g + 3) k := by rw [n3, h1 _ k (by omega), kU_at, if_neg (by omega), kU_row]
        rw [e1, e2]
      · rw [h3 _ _ (by omega), kU_same, m15, a _ _ (by omega) (by omega) (by omega) (by omega) (by omega), kU_same]
    · refine ⟨kO_congr (i2 g hg).1 (fun k => b _ k (by omega) (by omega) (by omega) (by omega) (by omega) (by omega) (by omega)) (b _ _ (by omega) (by omega) (by omega) (by omega) (by omega) (by omega) (by omega)) (fun k => b _ k (by omega) (by omega) (by omega) (by omega) (by omega) (by omega) (by omega)), fun k => ?_, ?_⟩
      · rw [b _ k (by omega) (by omega) (by omega) (by omega) (by omega) (by omega) (by omega), b _ k (by omega) (by omega) (by omega) (by omega) (by omega) (by omega) (by omega)]; exact (i2 g hg).2.1 k
      · rw [b _ _ (by omega) (by omega) (by omega) (by omega) (by omega) (by omega) (by omega), b _ _ (by omega) (by omega) (by omega) (by omega) (by omega) (by omega) (by omega)]; exact (i2 g hg).2.2
  · rw [b _ k (by omega) (by omega) (by omega) (by omega) (by omega) (by omega) (by omega), b _ k (by omega) (by omega) (by omega) (by omega) (by omega) (by omega) (by omega)]; exact i3 k
  · rw [b _ _ (by omega) (by omega) (by omega) (by omega) (by omega) (by omega) (by omega), b _ _ (by omega) (by omega) (by omega) (by omega) (by omega) (by omega) (by omega)]; exact i4
  · rw [b _ _ (by omega) (by omega) (by omega) (by omega) (by omega) (by omega) (by omega)]; exact i5
theorem kI_unp {M N1 N M2 : kM} {h r v : Int} (hI : kI M) (hh : 0 ≤ h ∧ h < 2) (hr : 1 ≤ r ∧ r ≤ M h 1) (h1 : ∀ c k : Int, c ≠ 8 + h → N1 c k = kU M h 1 (M h 1 - r) c k) (h2 : kO N1 h) (hM2 : M2 = kU N1 102 0 v) (h3 : kFt (kU M2 15 h (M2 15 h - r)) N) : kI N ∧ M2 15 h = M h 1 := by
  obtain ⟨i1, i2, i3, i4, i5⟩ := hI
  have a : ∀ c k : Int, c < 18 → (c ≠ 15 ∨ k ≠ h) → (c ≠ 11 ∨ k ≠ 0) → c ≠ 8 + h → N c k = kU M h 1 (M h 1 - r) c k := fun c k c1 c3 c4 c5 => by
    rw [h3 c k c4, kU_at, if_neg (by omega), hM2, kU_at, if_neg (by omega), h1 c k c5]
  have b : ∀ c k : Int, c < 18 → (c ≠ 15 ∨ k ≠ h) → (c ≠ 11 ∨ k ≠ 0) → c ≠ 8 + h → c ≠ h → N c k = M c k := fun c k c1 c3 c4 c5 c7 => by
    rw [a c k c1 c3 c4 c5, kU_at, if_neg (by omega)]
  have a8 : ∀ k : Int, N (8 + h) k = N1 (8 + h) k := fun k => by rw [h3 _ k (by omega), kU_at, if_neg (by omega), hM2, kU_at, if_neg (by omega)]
  have m15 : M2 15 h = M h 1 := by
    rw [hM2, kU_at, if_neg (by omega), h1 15 h (by omega), kU_at, if_neg (by omega)]
    exact (i2 h hh).2.2
  refine ⟨⟨kWf_congr (kWf_len i1 (i := h) (v := M h 1 - r) (by omega) (by omega)) (fun c k c1 c2 => a c k (by omega) (by omega) (by omega) (by omega)), fun g hg => ?_, fun k => ?_, ?_, ?_⟩, m15⟩
  · by_cases e : g = h
    · subst e
      refine ⟨kO_congr h2 (fun k => by rw [a _ _ (by omega) (by omega) (by omega) (by omega), h1 _ _ (by omega)]) (by rw [a _ _ (by omega) (by omega) (by omega) (by omega), h1 _ _ (by omega)]) a8, fun k => ?_, ?_⟩
      · rw [b _ k (by omega) (by omega) (by omega) (by omega) (by omega), b _ k (by omega) (by omega) (by omega) (by omega) (by omega)]; exact (i2 g hg).2.1 k
      · rw [h3 _ _ (by omega), kU_same, m15, a _ _ (by omega) (by omega) (by omega) (by omega), kU_same]
    · refine ⟨kO_congr (i2 g hg).1 (fun k => b _ k (by omega) (by omega) (by omega) (by omega) (by omega)) (b _ _ (by omega) (by omega) (by omega) (by omega) (by omega)) (fun k => b _ k (by omega) (by omega) (by omega) (by omega) (by omega)), fun k => ?_, ?_⟩
      · rw [b _ k (by omega) (by omega) (by omega) (by omega) (by omega), b _ k (by omega) (by omega) (by omega) (by omega) (by omega)]; exact (i2 g hg).2.1 k
      · rw [b _ _ (by omega) (by omega) (by omega) (by omega) (by omega), b _ _ (by omega) (by omega) (by omega) (by omega) (by omega)]; exact (i2 g hg).2.2
  · rw [b _ k (by omega) (by omega) (by omega) (by omega) (by omega), b _ k (by omega) (by omega) (by omega) (by omega) (by omega)]; exact i3 k
  · rw [b _ _ (by omega) (by omega) (by omega) (by omega) (by omega), b _ _ (by omega) (by omega) (by omega) (by omega) (by omega)]; exact i4
  · rw [b _ _ (by omega) (by omega) (by omega) (by omega) (by omega)]; exact i5
/-- a beginning sewn on again is the same on both sides -/
theorem k_same {f g : Int → Int} {x : Int → Int} {n r : Int} (hn : 1 ≤ n) (f1 : ∀ k : Int, (k < n ∨ n + r ≤ k) → f k = x k) (f2 : ∀ k : Int, n ≤ k → k < n + r → f k = f (k - n)) (g1 : ∀ k : Int, (k < n ∨ n + r ≤ k) → g k = x k) (g2 : ∀ k : Int, n ≤ k → k < n + r → g k = g (k - n)) : ∀ k : Int, f k = g k := by
  have key : ∀ (d : Nat) (k : Int), k < (d : Int) → f k = g k := by
    intro d
    induction d with
    | zero => intro k hk; rw [f1 k (by omega), g1 k (by omega)]
    | succ d ih =>
      intro k hk
      by_cases q : n ≤ k ∧ k < n + r
      · rw [f2 k q.1 q.2, g2 k q.1 q.2]; exact ih (k - n) (by omega)
      · rw [f1 k (by omega), g1 k (by omega)]
  exact fun k => key (k.toNat + 1) k (by omega)
theorem kI_aga {M N1 N M2 : kM} {h r v : Int} (hI : kI M) (hh : 0 ≤ h ∧ h < 2) (hr : 1 ≤ r ∧ 1 ≤ M h 1 ∧ M h 1 + r ≤ 40) (q1 : ∀ c k : Int, c ≠ 8 + h → c ≠ h + 3 → c ≠ h → N1 c k = M c k) (q2 : N1 h 1 = M h 1 + r) (q3 : ∀ k : Int, (k < M h 1 ∨ M h 1 + r ≤ k) → N1 (h + 3) k = M (h + 3) k) (q4 : ∀ k : Int, M h 1 ≤ k → k < M h 1 + r → N1 (h + 3) k = N1 (h + 3) (k - M h 1)) (q5 : kWf N1) (q6 : kO N1 h) (hM2 : M2 = kU N1 102 0 v)
    (p1 : N 15 h = M2 15 h + r) (p2 : ∀ k : Int, (k < M2 15 h ∨ M2 15 h + r ≤ k) → N (13 + h) k = M2 (13 + h) k) (p3 : ∀ k : Int, M2 15 h ≤ k → k < M2 15 h + r → N (13 + h) k = N (13 + h) (k - M2 15 h)) (p4 : ∀ c k : Int, (c ≠ 11 ∨ k ≠ 0) → c ≠ 13 + h → (c ≠ 15 ∨ k ≠ h) → N c k = M2 c k) : kI N ∧ M2 15 h = M h 1 := by
  obtain ⟨i1, i2, i3, i4, i5⟩ := hI
  have a : ∀ c k : Int, c < 18 → c ≠ 13 + h → (c ≠ 15 ∨ k ≠ h) → (c ≠ 11 ∨ k ≠ 0) → N c k = N1 c k := fun c k c1 c2 c3 c4 => by rw [p4 c k c4 c2 c3, hM2, kU_at, if_neg (by omega)]
  have b : ∀ c k : Int, c < 18 → c ≠ 13 + h → (c ≠ 15 ∨ k ≠ h) → (c ≠ 11 ∨ k ≠ 0) → c ≠ 8 + h → c ≠ h + 3 → c ≠ h → N c k = M c k := fun c k c1 c2 c3 c4 c5 c6 c7 => by rw [a c k c1 c2 c3 c4, q1 c k c5 c6 c7]
  have m15 : M2 15 h = M h 1 := by
    rw [hM2, kU_at, if_neg (by omega), q1 15 h (by omega) (by omega) (by omega)]
    exact (i2 h hh).2.2
  have m13 : ∀ k : Int, M2 (13 + h) k = M (h + 3) k := fun k => by
    rw [hM2, kU_at, if_neg (by omega), q1 _ k (by omega) (by omega) (by omega)]
    exact (i2 h hh).2.1 k
  rw [m15] at p1 p2 p3
  refine ⟨⟨kWf_congr q5 (fun c k c1 c2 => a c k (by omega) (by omega) (by omega) (by omega)), fun g hg => ?_, fun k => ?_, ?_, ?_⟩, m15⟩
  · by_cases e : g = h
    · subst e
      refine ⟨kO_congr q6 (fun k => a _ k (by omega) (by omega) (by omega) (by omega)) (a _ _ (by omega) (by omega) (by omega) (by omega)) (fun k => a _ k (by omega) (by omega) (by omega) (by omega)), fun k => ?_, ?_⟩
      · rw [a (g + 3) k (by omega) (by omega) (by omega) (by omega)]
        exact k_same (f := N (13 + g)) (g := N1 (g + 3)) (x := M (g + 3)) hr.2.1 (fun k hk => (p2 k hk).trans (m13 k)) p3 q3 q4 k
      · rw [p1, a _ _ (by omega) (by omega) (by omega) (by omega), q2]
    · refine ⟨kO_congr (i2 g hg).1 (fun k => b _ k (by omega) (by omega) (by omega) (by omega) (by omega) (by omega) (by omega)) (b _ _ (by omega) (by omega) (by omega) (by omega) (by omega) (by omega) (by omega)) (fun k => b _ k (by omega) (by omega) (by omega) (by omega) (by omega) (by omega) (by omega)), fun k => ?_, ?_⟩
      · rw [b _ k (by omega) (by omega) (by omega) (by omega) (by omega) (by omega) (by omega), b _ k (by omega) (by omega) (by omega) (by omega) (by omega) (by omega) (by omega)]; exact (i2 g hg).2.1 k
      · rw [b _ _ (by omega) (by omega) (by omega) (by omega) (by omega) (by omega) (by omega), b _ _ (by omega) (by omega) (by omega) (by omega) (by omega) (by omega) (by omega)]; exact (i2 g hg).2.2
  · rw [b _ k (by omega) (by omega) (by omega) (by omega) (by omega) (by omega) (by omega), b _ k (by omega) (by omega) (by omega) (by omega) (by omega) (by omega) (by omega)]; exact i3 k
  · rw [b _ _ (by omega) (by omega) (by omega) (by omega) (by omega) (by omega) (by omega), b _ _ (by omega) (by omega) (by omega) (by omega) (by omega) (by omega) (by omega)]; exact i4
  · rw [b _ _ (by omega) (by omega) (by omega) (by omega) (by omega) (by omega) (by omega)]; exact i5
theorem kI_add {M N1 N M2 : kM} {st v : Int} (hI : kI M) (hst : 0 ≤ st ∧ st ≤ 8) (hlt : M 2 1 < 12) (h1 : N1 = kU (kU M 5 (M 2 1) st) 2 1 (M 2 1 + 1)) (hM2 : M2 = kU N1 102 0 v) (h3 : kFt (kU (kU M2 16 (M2 11 4) st) 11 4 (M2 11 4 + 1)) N) : kI N ∧ M2 11 4 = M 2 1 := by
  obtain ⟨i1, i2, i3, i4, i5⟩ := hI
  have m4 : M2 11 4 = M 2 1 := by
    rw [hM2, kU_at, if_neg (by omega), h1, kU_at, if_neg (by omega), kU_at, if_neg (by omega)]
    exact i4
  have a : ∀ c k : Int, c < 18 → c ≠ 16 → (c ≠ 11 ∨ (k ≠ 0 ∧ k ≠ 4)) → N c k = kU (kU M 5 (M 2 1) st) 2 1 (M 2 1 + 1) c k := fun c k c1 c2 c3 => by
    rw [h3 c k (by omega), kU_at, if_neg (by omega), kU_at, if_neg (by omega), hM2, kU_at, if_neg (by omega), h1]
  have b : ∀ c k : Int, c < 18 → c ≠ 16 → (c ≠ 11 ∨ (k ≠ 0 ∧ k ≠ 4)) → c ≠ 5 → c ≠ 2 → N c k = M c k := fun c k c1 c2 c3 c4 c5 => by
    rw [a c k c1 c2 c3, kU_at, if_neg (by omega), kU_at, if_neg (by omega)]
  refine ⟨⟨kWf_congr (kWf_app i1 (i := 2) (by omega) hst (by omega)) (fun c k c1 c2 => a c k (by omega) (by omega) (by omega)), fun g hg => ⟨kO_congr (i2 g hg).1 (fun k => b _ k (by omega) (by omega) (by omega) (by omega) (by omega)) (b _ _ (by omega) (by omega) (by omega) (by omega) (by omega)) (fun k => b _ k (by omega) (by omega) (by omega) (by omega) (by omega)), fun k => ?_, ?_⟩, fun k => ?_, ?_, ?_⟩, m4⟩
  · rw [b _ k (by omega) (by omega) (by omega) (by omega) (by omega), b _ k (by omega) (by omega) (by omega) (by omega) (by omega)]; exact (i2 g hg).2.1 k
  · rw [b _ _ (by omega) (by omega) (by omega) (by omega) (by omega), b _ _ (by omega) (by omega) (by omega) (by omega) (by omega)]; exact (i2 g hg).2.2
  · have e0 : M2 16 k = M 5 k := by
      rw [hM2, kU_at, if_neg (by omega), h1, kU_at, if_neg (by omega), kU_at, if_neg (by omega)]
      exact i3 k
    have e1 : N 16 k = if k = M 2 1 then st else M 5 k := by rw [h3 _ k (by omega), kU_at, if_neg (by omega), kU_row, m4, e0]
    have e2 : N 5 k = if k = M 2 1 then st else M 5 k := by rw [a 5 k (by omega) (by omega) (by omega), kU_at, if_neg (by omega), kU_row]
    rw [e1, e2]
  · rw [h3 _ _ (by omega), kU_same, m4, a _ _ (by omega) (by omega) (by omega), kU_same]
  · rw [a _ _ (by omega) (by omega) (by omega), kU_same]; omega
theorem kI_clr {M N1 N : kM} (hI : kI M) (h1 : N1 = kU M 2 1 0) (h3 : kFt (kU N1 11 4 0) N) : kI N ∧ N1 11 4 = M 2 1 := by
  obtain ⟨i1, i2, i3, i4, i5⟩ := hI
  have m4 : N1 11 4 = M 2 1 := by rw [h1, kU_at, if_neg (by omega)]; exact i4
  have a : ∀ c k : Int, c < 18 → (c ≠ 11 ∨ (k ≠ 0 ∧ k ≠ 4)) → N c k = kU M 2 1 0 c k := fun c k c1 c3 => by rw [h3 c k (by omega), kU_at, if_neg (by omega), h1]
  have b : ∀ c k : Int, c < 18 → (c ≠ 11 ∨ (k ≠ 0 ∧ k ≠ 4)) → c ≠ 2 → N c k = M c k := fun c k c1 c3 c5 => by rw [a c k c1 c3, kU_at, if_neg (by omega)]
  have n2 := i1 2 (by omega)
  refine ⟨⟨kWf_congr (kWf_len i1 (i := 2) (v := 0) (by omega) (by omega)) (fun c k c1 c2 => a c k (by omega) (by omega)), fun g hg => ⟨kO_congr (i2 g hg).1 (fun k => b _ k (by omega) (by omega) (by omega)) (b _ _ (by omega) (by omega) (by omega)) (fun k => b _ k (by omega) (by omega) (by omega)), fun k => ?_, ?_⟩, fun k => ?_, ?_, ?_⟩, m4⟩
  · rw [b _ k (by omega) (by omega) (by omega), b _ k (by omega) (by omega) (by omega)]; exact (i2 g hg).2.1 k
  · rw [b _ _ (by omega) (by omega) (by omega), b _ _ (by omega) (by omega) (by omega)]; exact (i2 g hg).2.2
  · rw [b 16 k (by omega) (by omega) (by omega), b 5 k (by omega) (by omega) (by omega)]; exact i3 k
  · rw [h3 _ _ (by omega), kU_same, a _ _ (by omega) (by omega), kU_same]
  · rw [a _ _ (by omega) (by omega), kU_same]; omega
