/-! ===== its cells, while they are being made: e of them -/
def kLx (M0 : kM) (E : kE) (M : kM) (r e v : Int) : Prop := (∀ k i : Int, k < r → M k i = M0 k i) ∧ (11 ≤ r ∧ kn E = r + e) ∧ M r (-2) = 4 ∧ M r 5 = v ∧ (∀ k off : Int, kRfd k off → off < e → M r k = (E.2.2 (r + off) : Int)) ∧
  (∀ off : Int, kRgp off → off < e → M (r + off) = kGb (E.2.2 (r + (off + 1)) : Int) (E.2.2 (r + (off + 2)) : Int)) ∧ ∀ off len : Int, kRof off len → off < e → M (r + off) = kIa len
theorem kLx_row {E E1 : kE} {M0 M M1 M2 : kM} {r e v : Int} (h : kLx M0 E M r e v) (he : 1 ≤ e) (hX : kExt E E1) {k len q : Int} (hn : kn E1 = kn E + 1) (hq : q = kn E) (hk : kRfd k e) (ho : kRof e len) (h1 : M1 = kNw M q (kIa len)) (h2 : M2 = kU M1 r k (E1.2.2 q : Int)) : kLx M0 E1 M2 r (e + 1) v := by
  obtain ⟨hF, ⟨a1, a2⟩, a3, a4, b, c, d⟩ := h
  have k5 : k ≠ 5 ∧ 0 ≤ k := by unfold kRfd at hk; omega
  subst h2 h1
  refine ⟨fun k i hk => by rw [kU_cell (by omega), kNw_ne (by omega)]; exact hF k i hk, ⟨a1, by omega⟩, by rw [kU_place (by omega), kNw_ne (by omega)]; exact a3, by rw [kU_place (by omega), kNw_ne (by omega)]; exact a4, fun k' off h1 h2 => ?_, fun off h1 h2 => ?_, fun off len' h1 h2 => ?_⟩
  · by_cases e1 : k' = k
    · have : off = e := by unfold kRfd at h1 hk; omega
      rw [e1, kU_same, show r + off = q by omega]
    · have hne : off ≠ e := by unfold kRfd at h1 hk; omega
      have : 0 ≤ off := by unfold kRfd at h1; omega
      rw [kU_place e1, kNw_ne (by omega), hX.ad (by omega)]
      exact b k' off h1 (by omega)
  · have hne : off ≠ e ∧ 0 < off ∧ off + 2 < e := by unfold kRgp at h1; unfold kRof at ho; unfold kRfd at hk; omega
    rw [kU_fn (by omega), kNw_row (by omega), hX.ad (by omega), hX.ad (by omega)]
    exact c off h1 (by omega)
  · have : 0 < off := by unfold kRof at h1; omega
    rw [kU_fn (by omega)]
    by_cases e1 : off = e
    · have : len' = len := by unfold kRof at h1 ho; omega
      rw [show r + off = q by omega, kNw_hit, this]
    · rw [kNw_row (by omega)]
      exact d off len' h1 (by omega)
theorem kLx_grp {E E1 : kE} {M0 M M1 M2 : kM} {r e v : Int} (h : kLx M0 E M r e v) (he : 1 ≤ e) (hX : kExt E E1) {k len q : Int} (hn : kn E1 = kn E + 3) (hq : q = kn E) (hk : kRfd k e) (hg : kRgp e) (ho : kRof (e + 1) len ∧ kRof (e + 2) len) (h1 : M1 = kNw (kNw (kNw M q (kGb (E1.2.2 (q + 1) : Int) (E1.2.2 (q + 2) : Int))) (q + 1) (kIa len)) (q + 2) (kIa len)) (h2 : M2 = kU M1 r k (E1.2.2 q : Int)) : kLx M0 E1 M2 r (e + 3) v := by
  obtain ⟨hF, ⟨a1, a2⟩, a3, a4, b, c, d⟩ := h
  have k5 : k ≠ 5 ∧ 0 ≤ k := by unfold kRfd at hk; omega
  subst h2 h1
  refine ⟨fun k i hk => by rw [kU_cell (by omega), kNw_ne (by omega), kNw_ne (by omega), kNw_ne (by omega)]; exact hF k i hk, ⟨a1, by omega⟩, by rw [kU_place (by omega), kNw_ne (by omega), kNw_ne (by omega), kNw_ne (by omega)]; exact a3, by rw [kU_place (by omega), kNw_ne (by omega), kNw_ne (by omega), kNw_ne (by omega)]; exact a4, fun k' off h1 h2 => ?_, fun off h1 h2 => ?_, fun off len' h1 h2 => ?_⟩
  · by_cases e1 : k' = k
    · have : off = e := by unfold kRfd at h1 hk; omega
      rw [e1, kU_same, show r + off = q by omega]
    · have hne : off ≠ e ∧ off ≠ e + 1 ∧ off ≠ e + 2 := by unfold kRfd at h1 hk; unfold kRgp at hg; omega
      have : 0 ≤ off := by unfold kRfd at h1; omega
      rw [kU_place e1, kNw_ne (by omega), kNw_ne (by omega), kNw_ne (by omega), hX.ad (by omega)]
      exact b k' off h1 (by omega)
  · by_cases e1 : off = e
    · rw [show r + off = q by omega, show r + (off + 1) = q + 1 by omega, show r + (off + 2) = q + 2 by omega, kU_fn (by omega), kNw_row (by omega), kNw_row (by omega), kNw_hit]
    · have hne : 0 < off ∧ off + 2 < e := by unfold kRgp at h1 hg; omega
      rw [kU_fn (by omega), kNw_row (by omega), kNw_row (by omega), kNw_row (by omega), hX.ad (by omega), hX.ad (by omega)]
      exact c off h1 (by omega)
  · have : 0 < off := by unfold kRof at h1; omega
    have hne : off ≠ e := by unfold kRof at h1; unfold kRgp at hg; omega
    rw [kU_fn (by omega)]
    by_cases e1 : off = e + 2
    · have : len' = len := by have := ho.2; unfold kRof at h1 this; omega
      rw [show r + off = q + 2 by omega, kNw_hit, this]
    · rw [kNw_row (by omega)]
      by_cases e2 : off = e + 1
      · have : len' = len := by have := ho.1; unfold kRof at h1 this; omega
        rw [show r + off = q + 1 by omega, kNw_hit, this]
      · rw [kNw_row (by omega), kNw_row (by omega)]
        exact d off len' h1 (by omega)
theorem kLx_nod {E : kE} {M0 M M1 : kM} {r e v w : Int} (h : kLx M0 E M r e v) (h1 : M1 = kU M r 5 w) : kLx M0 E M1 r e w := by
  obtain ⟨hF, ⟨a1, a2⟩, a3, a4, b, c, d⟩ := h
  subst h1
  refine ⟨fun k i hk => by rw [kU_cell (by omega)]; exact hF k i hk, ⟨a1, a2⟩, by rw [kU_place (by omega)]; exact a3, kU_same _ _ _ _, fun k' off h1 h2 => ?_, fun off h1 h2 => ?_, fun off len' h1 h2 => ?_⟩
  · have : k' ≠ 5 := by unfold kRfd at h1; omega
    rw [kU_place this]; exact b k' off h1 h2
  · have : 0 < off := by unfold kRgp at h1; omega
    rw [kU_fn (by omega)]; exact c off h1 h2
  · have : 0 < off := by unfold kRof at h1; omega
    rw [kU_fn (by omega)]; exact d off len' h1 h2
theorem kLx_all {E : kE} {M0 M : kM} {r v : Int} (h : kLx M0 E M r 20 v) : kLy E M r ∧ M (r + 1) = kIa 15300 ∧ M (r + 2) = kIa 1700 ∧ (∀ h : Int, 0 ≤ h → h < 2 → M (r + 4 + h) = kIa 1700 ∧ M (r + 10 + h) = kIa 1700) ∧ M (r + 15) = kIa 2 ∧ M (r + 19) = kIa 2 := by
  obtain ⟨hF, ⟨a1, a2⟩, a3, a4, b, c, d⟩ := h
  refine ⟨⟨⟨a1, by omega, a3⟩, fun k off h1 => b k off h1 (by unfold kRfd at h1; omega), fun off h1 => ?_, fun off len h1 => ?_⟩, d 1 15300 (by unfold kRof; omega) (by omega), d 2 1700 (by unfold kRof; omega) (by omega), fun h h1 h2 => ⟨?_, ?_⟩, d 15 2 (by unfold kRof; omega) (by omega), d 19 2 (by unfold kRof; omega) (by omega)⟩
  · have e := c off h1 (by unfold kRgp at h1; omega)
    refine ⟨by rw [e]; rfl, by rw [e]; rfl, fun h h1 h2 => ?_⟩
    rw [e]
    rcases (show h = 0 ∨ h = 1 by omega) with rfl | rfl
    · rw [show off + 1 + 0 = off + 1 by omega]; rfl
    · rw [show off + 1 + 1 = off + 2 by omega]; rfl
  · rw [d off len h1 (by unfold kRof at h1; omega)]; exact ⟨rfl, rfl⟩
  · rw [Int.add_assoc]; exact d (4 + h) 1700 (by unfold kRof; omega) (by omega)
  · rw [Int.add_assoc]; exact d (10 + h) 1700 (by unfold kRof; omega) (by omega)
