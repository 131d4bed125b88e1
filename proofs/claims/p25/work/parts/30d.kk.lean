/-! ===== one row of the Sim anew ===== -/
theorem kSm_cy {E E1 : kE} {M0 M M1 M2 : kM} {g h n k q : Int} {y : Int → Int} (hs : kSm E M g y (fun i => if i = h then n + k else M0 i 1) (fun i j => if i = h then kCy (M0 (h + 3)) n j else M0 (i + 3) j)) (hh : 0 ≤ h ∧ h < 2) (hk : 0 ≤ k ∧ 1 ≤ n ∧ n + k < 40) (hX : kExt E E1)
    (md : kMade E M E1 M1 q (n + k + 1) (fun j => if j < n + k then M (y h) j else M (y h) k)) (hM2 : M2 = kU M1 (g + 1) h (E1.2.2 q : Int)) :
    (∃ y' : Int → Int, kSm E1 M2 g y' (fun i => if i = h then n + (k + 1) else M0 i 1) (fun i j => if i = h then kCy (M0 (h + 3)) n j else M0 (i + 3) j)) ∧ (∀ c i : Int, c < 11 → M2 c i = M c i) ∧ kn E1 = kn E + 1 := by
  have at8 : ∀ j : Int, 0 ≤ j → j < n + k → M (y h) j = kCy (M0 (h + 3)) n j := fun j j1 j2 => by
    have q : M (y h) j = if h = h then kCy (M0 (h + 3)) n j else M0 (h + 3) j := hs.at (i := h) (j := j) ⟨by omega, by omega⟩ ⟨j1, by show j < if h = h then n + k else M0 h 1; rw [if_pos rfl]; exact j2⟩
    rw [if_pos rfl] at q
    exact q
  refine kSm_put hs hh hX md hM2 ⟨by omega, by omega⟩ (fun i i1 i2 => ?_) (fun i j i1 i2 j1 j2 => ?_)
  · show (if i = h then n + (k + 1) else M0 i 1) = if i = h then n + k + 1 else if i = h then n + k else M0 i 1
    by_cases e : i = h
    · rw [if_pos e, if_pos e]; omega
    · rw [if_neg e, if_neg e, if_neg e]
  · have j2 : j < if i = h then n + (k + 1) else M0 i 1 := j2
    show (if i = h then kCy (M0 (h + 3)) n j else M0 (i + 3) j) = if i = h then (if j < n + k then M (y h) j else M (y h) k) else if i = h then kCy (M0 (h + 3)) n j else M0 (i + 3) j
    by_cases e : i = h
    · rw [if_pos e] at j2
      rw [if_pos e, if_pos e]
      by_cases e2 : j < n + k
      · rw [if_pos e2, at8 j j1 e2]
      · rw [if_neg e2, at8 k hk.1 (by omega), show j = n + k by omega, kCy_add]
    · rw [if_neg e, if_neg e]
theorem kSm_cut {E E1 : kE} {M M1 M2 : kM} {g h n r q : Int} {y : Int → Int} (hs : kSm E M g y (fun i => M i 1) (fun i => M (i + 3))) (hh : 0 ≤ h ∧ h < 2) (hn : n = M h 1) (hr : 1 ≤ r ∧ r ≤ n ∧ n ≤ 40) (hX : kExt E E1) (md : kMade E M E1 M1 q (n - r) (M (y h))) (hM2 : M2 = kU M1 (g + 1) h (E1.2.2 q : Int)) :
    (∃ y' : Int → Int, kSm E1 M2 g y' (fun i => if i = h then n - r else M i 1) (fun i j => M (i + 3) j)) ∧ (∀ c i : Int, c < 11 → M2 c i = M c i) ∧ kn E1 = kn E + 1 := by
  refine kSm_put hs hh hX md hM2 ⟨by omega, by omega⟩ (fun i i1 i2 => rfl) (fun i j i1 i2 j1 j2 => ?_)
  have j2 : j < if i = h then n - r else M i 1 := j2
  by_cases e : i = h
  · rw [if_pos e] at j2
    rw [if_pos e, e]
    exact (hs.at (i := h) (j := j) ⟨by omega, by omega⟩ ⟨j1, by show j < M h 1; omega⟩).symm
  · rw [if_neg e]
theorem kSm_with {E E1 : kE} {M M1 M2 : kM} {g h n st q : Int} {y : Int → Int} (hs : kSm E M g y (fun i => M i 1) (fun i => M (i + 3))) (hh : 0 ≤ h ∧ h < 2) (hn : n = M h 1) (hr : 0 ≤ n ∧ n < 40) (hX : kExt E E1) (md : kMade E M E1 M1 q (n + 1) (fun j => if j < n then M (y h) j else st)) (hM2 : M2 = kU M1 (g + 1) h (E1.2.2 q : Int)) :
    (∃ y' : Int → Int, kSm E1 M2 g y' (fun i => if i = h then n + 1 else M i 1) (fun i j => if i = h then (if j < n then M (h + 3) j else st) else M (i + 3) j)) ∧ (∀ c i : Int, c < 11 → M2 c i = M c i) ∧ kn E1 = kn E + 1 := by
  refine kSm_put hs hh hX md hM2 ⟨by omega, by omega⟩ (fun i i1 i2 => rfl) (fun i j i1 i2 j1 j2 => ?_)
  have j2 : j < if i = h then n + 1 else M i 1 := j2
  by_cases e : i = h
  · rw [if_pos e] at j2
    show (if i = h then (if j < n then M (h + 3) j else st) else M (i + 3) j) = if i = h then (if j < n then M (y h) j else st) else M (i + 3) j
    rw [if_pos e, if_pos e]
    by_cases e2 : j < n
    · rw [if_pos e2, if_pos e2]
      exact (hs.at (i := h) (j := j) ⟨by omega, by omega⟩ ⟨j1, by show j < M h 1; omega⟩).symm
    · rw [if_neg e2, if_neg e2]
  · show (if i = h then (if j < n then M (h + 3) j else st) else M (i + 3) j) = if i = h then (if j < n then M (y h) j else st) else M (i + 3) j
    rw [if_neg e, if_neg e]
theorem kSm_add {E E1 : kE} {M M1 M2 : kM} {g st q : Int} {y : Int → Int} (hs : kSm E M g y (fun i => M i 1) (fun i => M (i + 3))) (hr : 0 ≤ M 2 1 ∧ M 2 1 < 40) (hX : kExt E E1) (md : kMade E M E1 M1 q (M 2 1 + 1) (fun j => if j < M 2 1 then M (y 2) j else st)) (hM2 : M2 = kU M1 g 1 (E1.2.2 q : Int)) :
    (∃ y' : Int → Int, kSm E1 M2 g y' (fun i => if i = 2 then M 2 1 + 1 else M i 1) (fun i j => if i = 2 then (if j < M 2 1 then M 5 j else st) else M (i + 3) j)) ∧ (∀ c i : Int, c < 11 → M2 c i = M c i) ∧ kn E1 = kn E + 1 := by
  refine kSm_pus hs hX md hM2 ⟨by omega, by omega⟩ (fun i i1 i2 => rfl) (fun i j i1 i2 j1 j2 => ?_)
  have j2 : j < if i = 2 then M 2 1 + 1 else M i 1 := j2
  show (if i = 2 then (if j < M 2 1 then M 5 j else st) else M (i + 3) j) = if i = 2 then (if j < M 2 1 then M (y 2) j else st) else M (i + 3) j
  by_cases e : i = 2
  · rw [if_pos e] at j2
    rw [if_pos e, if_pos e]
    by_cases e2 : j < M 2 1
    · rw [if_pos e2, if_pos e2]
      exact (hs.at (i := 2) (j := j) ⟨by omega, by omega⟩ ⟨j1, e2⟩).symm
    · rw [if_neg e2, if_neg e2]
  · rw [if_neg e, if_neg e]
theorem kSm_clr {E E1 : kE} {M M1 M2 : kM} {g q : Int} {y : Int → Int} (hs : kSm E M g y (fun i => M i 1) (fun i => M (i + 3))) (hX : kExt E E1) (hn : kn E1 = kn E + 1) (hq : q = kn E) (hM1 : M1 = kNw M q (kIa 0)) (hM2 : M2 = kU M1 g 1 (E1.2.2 q : Int)) :
    (∃ y' : Int → Int, kSm E1 M2 g y' (fun i => if i = 2 then 0 else M i 1) (fun i j => M (i + 3) j)) ∧ (∀ c i : Int, c < 11 → M2 c i = M c i) ∧ kn E1 = kn E + 1 := by
  have md : kMade E M E1 M1 q 0 (fun _ => 0) := ⟨⟨hq, hn⟩, fun k i hk => by rw [hM1]; exact kNw_ne (by omega), by rw [hM1, kNw_hit]; rfl, by rw [hM1, kNw_hit]; rfl, fun j j1 j2 => by omega⟩
  refine kSm_pus hs hX md hM2 ⟨by omega, by omega⟩ (fun i i1 i2 => rfl) (fun i j i1 i2 j1 j2 => ?_)
  have j2 : j < if i = 2 then 0 else M i 1 := j2
  by_cases e : i = 2
  · rw [if_pos e] at j2; omega
  · rw [if_neg e]
abbrev rL_act : Room := { frames := 30, cells := 41, slots := 1646, locals := 1200 }
