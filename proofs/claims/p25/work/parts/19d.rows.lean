/-! ===== the tree of rows in its cells ===== -/
theorem kU_fn {M : kM} {c j v k : Int} (h : k ≠ c) : kU M c j v k = M k := funext (fun _ => kU_cell h)
theorem kArr_fr {E : kE} {M M1 : kM} {c len : Int} (h : kArr E M c len) (hM : ∀ i : Int, M1 c i = M c i) : kArr E M1 c len := by
  unfold kArr at h ⊢
  rw [hM, hM]
  exact h
/-- the tree at the cell r, with its words wd: gone through are the hems ahead of g, of g the ends ahead of p, of the next one j stitches -/
def kTw (X : Int → Int → Int) (N : Int → Int) (M : kM) (r : Int) (wd : Int → Int → Int) (g p j : Int) : Prop := kTr X (M (r + 1)) (M (r + 2)) (fun h => M (r + 4 + h)) (fun h => M (r + 7 + h)) (M r 5) wd (kBf N g p j) ∧ kEd X N (M (r + 2)) (fun h => M (r + 10 + h)) (M r 5) wd (kEf N g p)
theorem kTw_K {X : Int → Int → Int} {N : Int → Int} {M : kM} {r : Int} {wd : Int → Int → Int} {g p j : Int} (h : kTw X N M r wd g p j) : 1 ≤ M r 5 := h.1.1.1
theorem kTw_dp {X : Int → Int → Int} {N : Int → Int} {M : kM} {r : Int} {wd : Int → Int → Int} {g p j : Int} (h : kTw X N M r wd g p j) {v : Int} (hv : 0 ≤ v ∧ v < M r 5) : 0 ≤ M (r + 2) v ∧ M (r + 2) v ≤ 40 := by
  by_cases e : v = 0
  · have := h.1.1.2
    rw [e, this]; omega
  · have := h.1.2.1 v (by omega) hv.2
    omega
/-- the child by a stitch: none, or a node whose row is longer by it -/
theorem kTw_kid {X : Int → Int → Int} {N : Int → Int} {M : kM} {r : Int} {wd : Int → Int → Int} {g p j : Int} (h : kTw X N M r wd g p j) {v s : Int} (hv : 0 ≤ v ∧ v < M r 5) (hs : 0 ≤ s ∧ s ≤ 8) : M (r + 1) (9 * v + s) = 0 ∨ (1 ≤ M (r + 1) (9 * v + s) ∧ M (r + 1) (9 * v + s) < M r 5 ∧ kKid (M (r + 2)) wd v s (M (r + 1) (9 * v + s))) := by
  rcases h.1.2.2.2.1 v s hv.1 hv.2 hs.1 hs.2 with q | ⟨q1, q2, q3, q4, q5⟩
  · exact Or.inl q
  · exact Or.inr ⟨q1, q2, q3, q4, q5⟩
theorem kTr_like {X : Int → Int → Int} {nx dp : Int → Int} {mn fs mn' fs' : Int → Int → Int} {K : Int} {wd B : Int → Int → Int} (T : kTr X nx dp mn fs K wd B) (e : ∀ h : Int, 0 ≤ h → h < 2 → mn' h = mn h ∧ fs' h = fs h) : kTr X nx dp mn' fs' K wd B := by
  obtain ⟨a1, a2, a3, a4, a5, a6, a7, a8⟩ := T
  refine ⟨a1, a2, a3, a4, a5, a6, fun h h1 h2 => ?_, a8⟩
  rw [(e h h1 h2).1, (e h h1 h2).2]
  exact a7 h h1 h2
theorem kEd_like {X : Int → Int → Int} {N : Int → Int} {dp : Int → Int} {en en' : Int → Int → Int} {K : Int} {wd : Int → Int → Int} {En : Int → Int} (D : kEd X N dp en K wd En) (e : ∀ h : Int, 0 ≤ h → h < 2 → en' h = en h) : kEd X N dp en' K wd En := by
  intro h h1 h2
  rw [e h h1 h2]
  exact D h h1 h2
/-- a node is made -/
theorem kTw_new {X : Int → Int → Int} {N : Int → Int} {M M1 : kM} {r : Int} {wd : Int → Int → Int} {g p j v s : Int} (h : kTw X N M r wd g p j) (hp : p ≤ N g) (hv : 0 ≤ v ∧ v < M r 5) (hs : 0 ≤ s ∧ s ≤ 8) (hd : M (r + 2) v < 40) (h0 : M (r + 1) (9 * v + s) = 0)
    (e5 : M1 r 5 = M r 5 + 1) (e1 : ∀ i : Int, M1 (r + 1) i = if i = 9 * v + s then M r 5 else M (r + 1) i) (e2 : ∀ i : Int, M1 (r + 2) i = if i = M r 5 then M (r + 2) v + 1 else M (r + 2) i) (e3 : ∀ k i : Int, r + 3 ≤ k → M1 k i = M k i) : ∃ wd' : Int → Int → Int, kTw X N M1 r wd' g p j ∧ (∀ t : Int, 0 ≤ t → t < M (r + 2) v → wd' (M r 5) t = wd v t) ∧ wd' (M r 5) (M (r + 2) v) = s := by
  obtain ⟨wd', hw⟩ : ∃ w : Int → Int → Int, w = fun i => if i = M r 5 then (fun t => if t < M (r + 2) v then wd v t else s) else wd i := ⟨_, rfl⟩
  have w0 : wd' (M r 5) = fun t => if t < M (r + 2) v then wd v t else s := by rw [hw]; exact if_pos rfl
  have w1 : ∀ t : Int, 0 ≤ t → t < M (r + 2) v → wd' (M r 5) t = wd v t := fun t t1 t2 => by rw [w0]; exact if_pos t2
  have w2 : wd' (M r 5) (M (r + 2) v) = s := by rw [w0]; exact if_neg (by omega)
  have w3 : ∀ i : Int, i ≠ M r 5 → wd' i = wd i := fun i hi => by rw [hw]; exact if_neg hi
  have d1 : M1 (r + 2) (M r 5) = M (r + 2) v + 1 := by rw [e2, if_pos rfl]
  have d2 : ∀ i : Int, i ≠ M r 5 → M1 (r + 2) i = M (r + 2) i := fun i hi => by rw [e2, if_neg hi]
  obtain ⟨k1, k2⟩ := kTr_new h.1 hv hs hd h0 (nx' := M1 (r + 1)) (dp' := M1 (r + 2)) (by rw [e1, if_pos rfl]) (fun i hi => by rw [e1, if_neg hi]) d1 d2 w1 w2 w3
  have k3 := kEd_new h.2 (kEf_B (j := j) hp) (d := M (r + 2) v + 1) (dp' := M1 (r + 2)) d1 d2 w3 k2
  have row : ∀ k : Int, r + 3 ≤ k → M1 k = M k := fun k hk => funext (fun i => e3 k i hk)
  refine ⟨wd', ⟨?_, ?_⟩, w1, w2⟩
  · rw [e5]
    exact kTr_like k1 (fun q q1 q2 => ⟨row _ (by omega), row _ (by omega)⟩)
  · rw [e5]
    exact kEd_like k3 (fun q q1 q2 => row _ (by omega))
/-- a node is met -/
theorem kTw_visit {X : Int → Int → Int} {N : Int → Int} {M M1 : kM} {r : Int} {wd : Int → Int → Int} {g p j c : Int} (h : kTw X N M r wd g p j) (hg : 0 ≤ g ∧ g < 2) (hc : 1 ≤ c ∧ c < M r 5) (hp : 0 ≤ p ∧ p < 40) (hj : 0 ≤ j) (hd : M (r + 2) c = j + 1) (he : kEq (X g) p (wd c) 0 (j + 1))
    (e0 : ∀ k i : Int, k < r + 4 ∨ r + 10 ≤ k → M1 k i = M k i) (e1 : ∀ q v : Int, 0 ≤ q → q < 2 → M1 (r + 4 + q) v = if q = g ∧ v = c then M (r + 4 + q) v + 1 else M (r + 4 + q) v) (e2 : ∀ q v : Int, 0 ≤ q → q < 2 → M1 (r + 7 + q) v = if q = g ∧ v = c ∧ M (r + 4 + g) c = 0 then p else M (r + 7 + q) v) : kTw X N M1 r wd g p (j + 1) := by
  have row : ∀ k : Int, k < r + 4 ∨ r + 10 ≤ k → M1 k = M k := fun k hk => funext (fun i => e0 k i hk)
  have k1 := kTr_visit h.1 hg hc hp (by rw [kBf_p]; exact hd) (by rw [kBf_p]; exact hj) (fun a ha => by rw [kBf_gt ha]; exact Int.le_refl _) (by rw [hd]; exact he) (B' := kBf N g p (j + 1))
    (mn' := fun q v => if q = g ∧ v = c then M (r + 4 + q) v + 1 else M (r + 4 + q) v) (fs' := fun q v => if q = g ∧ v = c ∧ M (r + 4 + g) c = 0 then p else M (r + 7 + q) v)
    (if_pos ⟨rfl, rfl⟩) (fun q v hq => if_neg (by omega)) (fun z => if_pos ⟨rfl, rfl, z⟩) (fun z => if_neg (fun y => z y.2.2)) (fun q v hq => if_neg (by omega)) (by rw [kBf_p, kBf_p]) (fun q a hq => kBf_ne hq)
  refine ⟨?_, ?_⟩
  · rw [row (r + 1) (by omega), row (r + 2) (by omega), row r (by omega)]
    exact kTr_like k1 (fun q q1 q2 => ⟨funext (fun v => e1 q v q1 q2), funext (fun v => e2 q v q1 q2)⟩)
  · rw [row (r + 2) (by omega), row r (by omega)]
    exact kEd_like h.2 (fun q q1 q2 => row _ (by omega))
/-- an end is over -/
theorem kTw_end {X : Int → Int → Int} {N : Int → Int} {M M1 : kM} {r : Int} {wd : Int → Int → Int} {g p c : Int} (h : kTw X N M r wd g p (N g - p)) (hg : 0 ≤ g ∧ g < 2) (hc : 0 ≤ c ∧ c < M r 5) (hp : 0 ≤ p) (hd : M (r + 2) c = N g - p) (he : kEq (X g) p (wd c) 0 (N g - p)) (hM : M1 = kU M (r + 10 + g) c (p + 1)) : kTw X N M1 r wd g (p + 1) 0 := by
  have row : ∀ k : Int, k ≠ r + 10 + g → M1 k = M k := fun k hk => by rw [hM]; exact kU_fn hk
  have k1 := kEd_end h.1 h.2 hg hc hp (by unfold kEf; rw [if_neg (by omega), if_pos rfl]) hd (by rw [hd]; exact he) (en' := fun q v => if q = g ∧ v = c then p + 1 else M (r + 10 + q) v) (En' := kEf N g (p + 1)) (if_pos ⟨rfl, rfl⟩) (fun q v hq => if_neg (by omega)) (by unfold kEf; rw [if_neg (by omega), if_pos rfl]) (fun q hq => by unfold kEf; split <;> rfl)
  refine ⟨?_, ?_⟩
  · rw [row (r + 1) (by omega), row (r + 2) (by omega), row r (by omega), ← kBf_next hp]
    exact kTr_like h.1 (fun q q1 q2 => ⟨row _ (by omega), row _ (by omega)⟩)
  · rw [row (r + 2) (by omega), row r (by omega)]
    refine kEd_like k1 (fun q q1 q2 => funext (fun v => ?_))
    show M1 (r + 10 + q) v = if q = g ∧ v = c then p + 1 else M (r + 10 + q) v
    rw [hM]
    by_cases e : q = g ∧ v = c
    · rw [if_pos e, e.1, e.2, kU_same]
    · rw [if_neg e, kU_at, if_neg (by omega)]
theorem kTw_hem {X : Int → Int → Int} {N : Int → Int} {M : kM} {r : Int} {wd : Int → Int → Int} {g : Int} (h : kTw X N M r wd g (N g) 0) : kTw X N M r wd (g + 1) 0 0 := by
  unfold kTw
  rw [← kBf_hem, ← kEf_hem]
  exact h
theorem kTw_like {X : Int → Int → Int} {N : Int → Int} {M M1 : kM} {r : Int} {wd : Int → Int → Int} {g p j : Int} (h : kTw X N M r wd g p j) (e : ∀ k : Int, r ≤ k → k ≤ r + 11 → ∀ i : Int, M1 k i = M k i) : kTw X N M1 r wd g p j := by
  have row : ∀ k : Int, r ≤ k → k ≤ r + 11 → M1 k = M k := fun k k1 k2 => funext (fun i => e k k1 k2 i)
  refine ⟨?_, ?_⟩
  · rw [row (r + 1) (by omega) (by omega), row (r + 2) (by omega) (by omega), row r (by omega) (by omega)]
    exact kTr_like h.1 (fun q q1 q2 => ⟨row _ (by omega) (by omega), row _ (by omega) (by omega)⟩)
  · rw [row (r + 2) (by omega) (by omega), row r (by omega) (by omega)]
    exact kEd_like h.2 (fun q q1 q2 => row _ (by omega) (by omega))
theorem kTw_mn {X : Int → Int → Int} {N : Int → Int} {M : kM} {r : Int} {wd : Int → Int → Int} {g p j : Int} (h : kTw X N M r wd g p j) {q v : Int} (hq : 0 ≤ q ∧ q < 2) (hv : 0 ≤ v) : 0 ≤ M (r + 4 + q) v ∧ M (r + 4 + q) v ≤ 40 := by
  obtain ⟨t1, t2, t3⟩ := h.1.2.2.2.2.2.2.1 q hq.1 hq.2
  by_cases e : v = 0
  · rw [e]
    have : M (r + 4 + q) 0 = 0 := t3
    omega
  · rcases Int.lt_or_le v (M r 5) with y | y
    · have e1 : M (r + 4 + q) v = kCnt (kOc X (kBf N g p j) q (wd v) (M (r + 2) v)) 40 := (t1 v (by omega) y).1
      have := kCnt_rng (kOc X (kBf N g p j) q (wd v) (M (r + 2) v)) 40
      omega
    · have : M (r + 4 + q) v = 0 := t2 v y
      omega
