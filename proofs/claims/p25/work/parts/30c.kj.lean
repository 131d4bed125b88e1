/-! ===== the Sim after an act, beside the object ===== -/
theorem kSm_put {E E1 : kE} {M M1 M2 : kM} {g k q len : Int} {y L L' f : Int → Int} {X X' : Int → Int → Int} (hs : kSm E M g y L X) (hk : 0 ≤ k ∧ k < 2) (hX : kExt E E1) (md : kMade E M E1 M1 q len f) (hM2 : M2 = kU M1 (g + 1) k (E1.2.2 q : Int)) (hlen : 0 ≤ len ∧ len ≤ 40)
    (hL : ∀ i : Int, 0 ≤ i → i < 3 → L' i = if i = k then len else L i) (hX' : ∀ i j : Int, 0 ≤ i → i < 3 → 0 ≤ j → j < L' i → X' i j = if i = k then f j else X i j) :
    (∃ y' : Int → Int, kSm E1 M2 g y' L' X') ∧ (∀ c i : Int, c < 11 → M2 c i = M c i) ∧ kn E1 = kn E + 1 := by
  obtain ⟨⟨m1, m2⟩, m3, m4, m5, m6⟩ := md
  have hg := hs.1
  have h1 := hs.ext hX (fun c i _ hc => m3 c i hc)
  have h2 := h1.hem hk hM2 ⟨by omega, by omega, by omega, by omega⟩ m4 ⟨m5, hlen⟩ m6
  refine ⟨⟨_, h2.like (fun i i1 i2 => hL i i1 i2) (fun i j i1 i2 j1 j2 => ?_)⟩, fun c i hc => ?_, m2⟩
  · have e := hX' i j i1 i2 j1 (by rw [hL i i1 i2]; exact j2)
    rw [e]
    show (if i = k then f j else X i j) = (if i = k then f else X i) j
    by_cases e2 : i = k
    · rw [if_pos e2, if_pos e2]
    · rw [if_neg e2, if_neg e2]
  · rw [hM2, kU_cell (by omega)]; exact m3 c i (by omega)
theorem kSm_pus {E E1 : kE} {M M1 M2 : kM} {g q len : Int} {y L L' f : Int → Int} {X X' : Int → Int → Int} (hs : kSm E M g y L X) (hX : kExt E E1) (md : kMade E M E1 M1 q len f) (hM2 : M2 = kU M1 g 1 (E1.2.2 q : Int)) (hlen : 0 ≤ len ∧ len ≤ 40)
    (hL : ∀ i : Int, 0 ≤ i → i < 3 → L' i = if i = 2 then len else L i) (hX' : ∀ i j : Int, 0 ≤ i → i < 3 → 0 ≤ j → j < L' i → X' i j = if i = 2 then f j else X i j) :
    (∃ y' : Int → Int, kSm E1 M2 g y' L' X') ∧ (∀ c i : Int, c < 11 → M2 c i = M c i) ∧ kn E1 = kn E + 1 := by
  obtain ⟨⟨m1, m2⟩, m3, m4, m5, m6⟩ := md
  have hg := hs.1
  have h1 := hs.ext hX (fun c i _ hc => m3 c i hc)
  have h2 := h1.smp hM2 ⟨by omega, by omega, by omega, by omega⟩ m4 ⟨m5, hlen⟩ m6
  refine ⟨⟨_, h2.like (fun i i1 i2 => hL i i1 i2) (fun i j i1 i2 j1 j2 => ?_)⟩, fun c i hc => ?_, m2⟩
  · have e := hX' i j i1 i2 j1 (by rw [hL i i1 i2]; exact j2)
    rw [e]
    show (if i = 2 then f j else X i j) = (if i = 2 then f else X i) j
    by_cases e2 : i = 2
    · rw [if_pos e2, if_pos e2]
    · rw [if_neg e2, if_neg e2]
  · rw [hM2, kU_cell (by omega)]; exact m3 c i (by omega)
theorem kJ_fin {E : kE} {M1 N : kM} {g : Int} {y L : Int → Int} {X : Int → Int → Int} (hs : kSm E M1 g y L X) (h0 : kI0 N) (hN : ∀ c i : Int, 11 ≤ c → N c i = M1 c i) (hL : ∀ i : Int, 0 ≤ i → i < 3 → N i 1 = L i) (hX : ∀ i j : Int, 0 ≤ i → i < 3 → 0 ≤ j → j < L i → N (i + 3) j = X i j) : kJ E N g :=
  ⟨h0, y, (hs.ext (kExt.rf E) (fun k i k1 _ => hN k i k1)).like (fun i i1 i2 => hL i i1 i2) (fun i j i1 i2 j1 j2 => hX i j i1 i2 j1 j2)⟩
theorem kI0_one {M N : kM} {h : Int} (hI : kI0 M) (hh : 0 ≤ h ∧ h < 2) (hW : kWf N) (hO : kO N h) (e : ∀ c i : Int, c ≠ h → c ≠ h + 3 → c ≠ 8 + h → N c i = M c i) : kI0 N := by
  refine ⟨hW, fun q hq => ?_, ?_⟩
  · by_cases e1 : q = h
    · rw [e1]; exact hO
    · exact kO_congr (hI.2.1 q hq) (fun i => e _ i (by omega) (by omega) (by omega)) (fun i => e _ i (by omega) (by omega) (by omega)) (fun i => e _ i (by omega) (by omega) (by omega))
  · rw [e 2 1 (by omega) (by omega) (by omega)]; exact hI.2.2
theorem kJ_sew {E : kE} {M0 M1 N : kM} {g h n st : Int} {y : Int → Int} (hI : kI0 M0) (hh : 0 ≤ h ∧ h < 2) (hst : 0 ≤ st ∧ st ≤ 8) (hn : n = M0 h 1) (hlt : n < 40) (hF : ∀ c i : Int, c < 11 → M1 c i = M0 c i) (hs : kSm E M1 g y (fun i => if i = h then n + 1 else M0 i 1) (fun i j => if i = h then (if j < n then M0 (h + 3) j else st) else M0 (i + 3) j))
    (p1 : ∀ c k : Int, c ≠ 8 + h → N c k = kU (kU M1 (h + 3) (M1 h 1) st) h 1 (M1 h 1 + 1) c k) (p2 : kO N h) : kJ E N g := by
  have hI1 := kI0_congr hI hF
  have e1 : M1 h 1 = n := by rw [hF h 1 (by omega), hn]
  refine kJ_fin hs (kI0_one hI1 hh (kWf_congr (kWf_app hI1.1 ⟨hh.1, by omega⟩ hst (by omega)) (fun c i c1 c2 => p1 c i (by omega))) p2 (fun c i c1 c2 c3 => by rw [p1 c i c3, kU_cell c1, kU_cell c2])) (fun c i hc => by rw [p1 c i (by omega), kU_cell (by omega), kU_cell (by omega)]) (fun i i1 i2 => ?_) (fun i j i1 i2 j1 j2 => ?_)
  · show N i 1 = if i = h then n + 1 else M0 i 1
    by_cases e : i = h
    · rw [if_pos e, e, p1 h 1 (by omega), kU_same, e1]
    · rw [if_neg e, p1 i 1 (by omega), kU_cell e, kU_cell (by omega), hF i 1 (by omega)]
  · show N (i + 3) j = if i = h then (if j < n then M0 (h + 3) j else st) else M0 (i + 3) j
    have j2 : j < if i = h then n + 1 else M0 i 1 := j2
    by_cases e : i = h
    · rw [if_pos e] at j2
      rw [if_pos e, e, p1 (h + 3) j (by omega), kU_cell (by omega), e1]
      by_cases e3 : j < n
      · rw [if_pos e3, kU_place (by omega), hF _ _ (by omega)]
      · rw [if_neg e3, show j = n by omega, kU_same]
    · rw [if_neg e, p1 (i + 3) j (by omega), kU_cell (by omega), kU_cell (by omega), hF _ _ (by omega)]
theorem kJ_cut {E : kE} {M0 M1 N : kM} {g h n r : Int} {y : Int → Int} (hI : kI0 M0) (hh : 0 ≤ h ∧ h < 2) (hn : n = M0 h 1) (hr : 1 ≤ r ∧ r ≤ n) (hF : ∀ c i : Int, c < 11 → M1 c i = M0 c i) (hs : kSm E M1 g y (fun i => if i = h then n - r else M0 i 1) (fun i j => M0 (i + 3) j))
    (p1 : ∀ c k : Int, c ≠ 8 + h → N c k = kU M1 h 1 (M1 h 1 - r) c k) (p2 : kO N h) : kJ E N g := by
  have hI1 := kI0_congr hI hF
  have e1 : M1 h 1 = n := by rw [hF h 1 (by omega), hn]
  refine kJ_fin hs (kI0_one hI1 hh (kWf_congr (kWf_len hI1.1 (i := h) (v := M1 h 1 - r) ⟨hh.1, by omega⟩ (by omega)) (fun c i c1 c2 => p1 c i (by omega))) p2 (fun c i c1 c2 c3 => by rw [p1 c i c3, kU_cell c1])) (fun c i hc => by rw [p1 c i (by omega), kU_cell (by omega)]) (fun i i1 i2 => ?_) (fun i j i1 i2 j1 j2 => ?_)
  · show N i 1 = if i = h then n - r else M0 i 1
    by_cases e : i = h
    · rw [if_pos e, e, p1 h 1 (by omega), kU_same, e1]
    · rw [if_neg e, p1 i 1 (by omega), kU_cell e, hF i 1 (by omega)]
  · show N (i + 3) j = M0 (i + 3) j
    rw [p1 (i + 3) j (by omega), kU_cell (by omega), hF _ _ (by omega)]
/-- a row that is said over again -/
def kCy (f : Int → Int) (n : Int) : Int → Int := fun j => f (j % n)
theorem kCy_of {f N : Int → Int} {n r : Int} (hn : 1 ≤ n) (h1 : ∀ k : Int, 0 ≤ k → k < n → N k = f k) (h2 : ∀ k : Int, n ≤ k → k < n + r → N k = N (k - n)) : ∀ (t : Nat) (j : Int), 0 ≤ j → j < (t : Int) → j < n + r → N j = kCy f n j := by
  intro t
  induction t with
  | zero => intro j j1 j2; omega
  | succ t ih =>
    intro j j1 j2 j3
    unfold kCy at ih ⊢
    by_cases e : j < n
    · rw [h1 j j1 e, Int.emod_eq_of_lt j1 e]
    · rw [h2 j (by omega) j3, ih (j - n) (by omega) (by omega) (by omega)]
      rw [show j - n = j + n * (-1) by omega, Int.add_mul_emod_self_left]
theorem kCy_lt {f : Int → Int} {n j : Int} (h : 0 ≤ j ∧ j < n) : kCy f n j = f j := by unfold kCy; rw [Int.emod_eq_of_lt h.1 h.2]
theorem kCy_add {f : Int → Int} {n j : Int} : kCy f n (n + j) = kCy f n j := by unfold kCy; rw [show n + j = j + n * 1 by omega, Int.add_mul_emod_self_left]
theorem kJ_again {E : kE} {M0 M1 N : kM} {g h n r : Int} {y : Int → Int} (hI : kI0 M0) (hh : 0 ≤ h ∧ h < 2) (hn : n = M0 h 1) (hr : 1 ≤ r ∧ 1 ≤ n ∧ n + r ≤ 40) (hF : ∀ c i : Int, c < 11 → M1 c i = M0 c i) (hs : kSm E M1 g y (fun i => if i = h then n + r else M0 i 1) (fun i j => if i = h then kCy (M0 (h + 3)) n j else M0 (i + 3) j))
    (p1 : ∀ c k : Int, c ≠ 8 + h → c ≠ h + 3 → c ≠ h → N c k = M1 c k) (p2 : N h 1 = M1 h 1 + r) (p3 : ∀ k : Int, (k < M1 h 1 ∨ M1 h 1 + r ≤ k) → N (h + 3) k = M1 (h + 3) k) (p4 : ∀ k : Int, M1 h 1 ≤ k → k < M1 h 1 + r → N (h + 3) k = N (h + 3) (k - M1 h 1)) (p5 : kWf N) (p6 : kO N h) : kJ E N g := by
  have hI1 := kI0_congr hI hF
  have e1 : M1 h 1 = n := by rw [hF h 1 (by omega), hn]
  rw [e1] at p2 p3 p4
  refine kJ_fin hs (kI0_one hI1 hh p5 p6 (fun c i c1 c2 c3 => p1 c i c3 c2 c1)) (fun c i hc => p1 c i (by omega) (by omega) (by omega)) (fun i i1 i2 => ?_) (fun i j i1 i2 j1 j2 => ?_)
  · show N i 1 = if i = h then n + r else M0 i 1
    by_cases e : i = h
    · rw [if_pos e, e, p2]
    · rw [if_neg e, p1 i 1 (by omega) (by omega) e, hF i 1 (by omega)]
  · show N (i + 3) j = if i = h then kCy (M0 (h + 3)) n j else M0 (i + 3) j
    have j2 : j < if i = h then n + r else M0 i 1 := j2
    by_cases e : i = h
    · rw [if_pos e] at j2
      rw [if_pos e, e]
      exact kCy_of hr.2.1 (fun k k1 k2 => by rw [p3 k (Or.inl k2), hF _ _ (by omega)]) p4 (j.toNat + 1) j j1 (by omega) j2
    · rw [if_neg e, p1 (i + 3) j (by omega) (by omega) (by omega), hF _ _ (by omega)]
theorem kJ_add {E : kE} {M0 M1 N : kM} {g st : Int} {y : Int → Int} (hI : kI0 M0) (hst : 0 ≤ st ∧ st ≤ 8) (hlt : M0 2 1 < 12) (hF : ∀ c i : Int, c < 11 → M1 c i = M0 c i) (hs : kSm E M1 g y (fun i => if i = 2 then M0 2 1 + 1 else M0 i 1) (fun i j => if i = 2 then (if j < M0 2 1 then M0 5 j else st) else M0 (i + 3) j))
    (p1 : N = kU (kU M1 5 (M1 2 1) st) 2 1 (M1 2 1 + 1)) : kJ E N g := by
  have hI1 := kI0_congr hI hF
  have e1 : M1 2 1 = M0 2 1 := hF 2 1 (by omega)
  have hW := kWf_app hI1.1 (i := 2) ⟨by omega, by omega⟩ hst (by omega)
  rw [show (2 : Int) + 3 = 5 from rfl, ← p1] at hW
  refine kJ_fin hs ⟨hW, fun q hq => kO_congr (hI1.2.1 q hq) (fun i => by rw [p1, kU_cell (by omega), kU_cell (by omega)]) (fun i => by rw [p1, kU_cell (by omega), kU_cell (by omega)]) (fun i => by rw [p1, kU_cell (by omega), kU_cell (by omega)]), by rw [p1, kU_same]; omega⟩ (fun c i hc => by rw [p1, kU_cell (by omega), kU_cell (by omega)]) (fun i i1 i2 => ?_) (fun i j i1 i2 j1 j2 => ?_)
  · show N i 1 = if i = 2 then M0 2 1 + 1 else M0 i 1
    by_cases e : i = 2
    · rw [if_pos e, e, p1, kU_same, e1]
    · rw [if_neg e, p1, kU_cell e, kU_cell (by omega), hF i 1 (by omega)]
  · show N (i + 3) j = if i = 2 then (if j < M0 2 1 then M0 5 j else st) else M0 (i + 3) j
    have j2 : j < if i = 2 then M0 2 1 + 1 else M0 i 1 := j2
    by_cases e : i = 2
    · rw [if_pos e] at j2
      rw [if_pos e, e, p1, kU_cell (by omega), show (2 : Int) + 3 = 5 from rfl, e1]
      by_cases e3 : j < M0 2 1
      · rw [if_pos e3, kU_place (by omega), hF _ _ (by omega)]
      · rw [if_neg e3, show j = M0 2 1 by omega, kU_same]
    · rw [if_neg e, p1, kU_cell (by omega), kU_cell (by omega), hF _ _ (by omega)]
theorem kJ_clear {E : kE} {M0 M1 N : kM} {g : Int} {y : Int → Int} (hI : kI0 M0) (hF : ∀ c i : Int, c < 11 → M1 c i = M0 c i) (hs : kSm E M1 g y (fun i => if i = 2 then 0 else M0 i 1) (fun i j => M0 (i + 3) j)) (p1 : N = kU M1 2 1 0) : kJ E N g := by
  have hI1 := kI0_congr hI hF
  have hp := (hI1.1 2 ⟨by omega, by omega⟩).1
  have hW := kWf_len hI1.1 (i := 2) (v := 0) ⟨by omega, by omega⟩ (by omega)
  rw [← p1] at hW
  refine kJ_fin hs ⟨hW, fun q hq => kO_congr (hI1.2.1 q hq) (fun i => by rw [p1, kU_cell (by omega)]) (fun i => by rw [p1, kU_cell (by omega)]) (fun i => by rw [p1, kU_cell (by omega)]), by rw [p1, kU_same]; omega⟩ (fun c i hc => by rw [p1, kU_cell (by omega)]) (fun i i1 i2 => ?_) (fun i j i1 i2 j1 j2 => ?_)
  · show N i 1 = if i = 2 then 0 else M0 i 1
    by_cases e : i = 2
    · rw [if_pos e, e, p1, kU_same]
    · rw [if_neg e, p1, kU_cell e, hF i 1 (by omega)]
  · show N (i + 3) j = M0 (i + 3) j
    rw [p1, kU_cell (by omega), hF _ _ (by omega)]
