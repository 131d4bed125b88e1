/-! ===== what the law checks, out of what the answers are ===== -/
theorem kTriN : ∀ m : Nat, 2 * kSum (fun t => t + 1) m = (m : Int) * ((m : Int) + 1)
  | 0 => rfl
  | m + 1 => by
    have ih := kTriN m
    have e : kSum (fun t => t + 1) (m + 1) = kSum (fun t => t + 1) m + ((m : Int) + 1) := rfl
    rw [e, show (((m + 1 : Nat)) : Int) = (m : Int) + 1 by omega]
    simp only [Int.mul_add, Int.add_mul] at ih ⊢
    omega
theorem kSum_shift (f : Int → Int) : ∀ m : Nat, kSum (fun r => f (r - 1)) (m + 1) = f (-1) + kSum f m
  | 0 => by show 0 + f (0 - 1) = f (-1) + 0; rw [show (0 : Int) - 1 = -1 by omega]; omega
  | m + 1 => by
    have ih := kSum_shift f m
    have e : kSum (fun r => f (r - 1)) (m + 1 + 1) = kSum (fun r => f (r - 1)) (m + 1) + f (((m + 1 : Nat) : Int) - 1) := rfl
    have e2 : kSum f (m + 1) = kSum f m + f (m : Int) := rfl
    rw [e, ih, e2, show (((m + 1 : Nat)) : Int) - 1 = (m : Int) by omega]
    omega
theorem kPerm_sum {x : Int → Int} {n : Int} {P : Int → Int} (hn : 0 ≤ n) (h : kOrd x n P) : kSum (fun r => n - P r) n.toNat = kSum (fun t => t + 1) n.toNat := by
  have e1 : kSum (fun r => n - P r) n.toNat = kSum (fun r => kCnt (fun t => P r < t + 1 ∧ t + 1 ≤ n) n.toNat) n.toNat := kSum_congr _ (fun r r1 r2 => by
    have p := h.1 r r1 (by omega)
    rw [kCnt_seg (P r) n n.toNat p.1 (by omega), if_neg (by omega), if_pos (by omega)]
    omega)
  rw [e1, kSum_swap (fun r t => P r < t + 1 ∧ t + 1 ≤ n) n.toNat n.toNat]
  refine kSum_congr _ (fun t t1 t2 => ?_)
  have e2 : kCnt (fun a => 0 < a + 1 ∧ a + 1 ≤ t + 1) n.toNat = t + 1 := by
    rw [kCnt_seg 0 (t + 1) n.toNat (by omega) (by omega)]
    by_cases q : (n.toNat : Int) ≤ 0
    · omega
    · rw [if_neg q]
      split <;> omega
  have a1 : kCnt (fun r => P r < t + 1 ∧ t + 1 ≤ n) n.toNat ≤ kCnt (fun a => 0 < a + 1 ∧ a + 1 ≤ t + 1) n.toNat := by
    refine kCnt_inj (R := fun r a => (0 ≤ r ∧ r < n) ∧ P r = a) _ _ _ _ (fun r r1 r2 r3 => ?_) (fun r r' a _ _ q q' => ?_)
    · have p := h.1 r r1 (by omega)
      exact ⟨P r, p.1, by omega, ⟨by omega, by omega⟩, ⟨r1, by omega⟩, rfl⟩
    · have z1 := kOrd_at h q.1
      have z2 := kOrd_at h q'.1
      rw [q.2] at z1
      rw [q'.2] at z2
      omega
  have a2 : kCnt (fun a => 0 < a + 1 ∧ a + 1 ≤ t + 1) n.toNat ≤ kCnt (fun r => P r < t + 1 ∧ t + 1 ≤ n) n.toNat := by
    refine kCnt_inj (R := fun a r => (0 ≤ a ∧ a < n) ∧ kRk x n a = r) _ _ _ _ (fun a a1 a2 a3 => ?_) (fun a a' r _ _ q q' => ?_)
    · have p := kRk_rng (x := x) (n := n) (a := a) ⟨a1, by omega⟩
      exact ⟨kRk x n a, p.1, by omega, ⟨by rw [kOrd_rk_at h ⟨a1, by omega⟩]; omega, by omega⟩, ⟨a1, by omega⟩, rfl⟩
    · exact kRk_inj q.1 q'.1 (q.2.trans q'.2.symm)
  omega
theorem kTot_eq {x : Int → Int} {n : Int} {P : Int → Int} (hn : 0 ≤ n) (h : kOrd x n P) : kTot x n = kSum (fun t => t + 1) n.toNat - kSum (kNx x n P) n.toNat := by
  have e1 := kRw_tot hn h
  have e2 := kPerm_sum hn h
  have e3 := kSum_add (kRw x n P) (fun r => kNx x n P (r - 1)) n.toNat
  have e4 : kSum (fun r => kRw x n P r + kNx x n P (r - 1)) n.toNat = kSum (fun r => n - P r) n.toNat := kSum_congr _ (fun r _ _ => by unfold kRw; omega)
  have e5 : kSum (fun r => kNx x n P (r - 1)) n.toNat = kSum (kNx x n P) n.toNat := by
    by_cases q : n = 0
    · rw [q]; rfl
    · have s1 := kSum_shift (kNx x n P) (n - 1).toNat
      rw [kNx_out (by omega), show (n - 1).toNat + 1 = n.toNat by omega] at s1
      have s2 := kSum_step (kNx x n P) (k := n - 1) (by omega)
      rw [kNx_out (by omega), show n - 1 + 1 = n by omega] at s2
      omega
  unfold kTot
  omega
/-- the longest repeat is as long as the most of what neighbours have in common -/
theorem kRep_max {x : Int → Int} {n : Int} {P : Int → Int} (hn : 0 ≤ n) (h : kOrd x n P) {b k : Int} (ht : kTop (kMbs x n) x n n b k) : k = kMaxF (kNx x n P) n.toNat := by
  obtain ⟨m1, m2, m3⟩ := kMaxF_rng (kNx x n P) n.toNat
  have up : ∀ a : Int, 0 ≤ a → a < n → kMbs x n a ≤ kMaxF (kNx x n P) n.toNat := fun a a1 a2 => kMbs_le h m1 (fun r r1 r2 => m2 r r1 (by omega)) ⟨a1, a2⟩
  have lo : ∀ r : Int, 0 ≤ r → r + 1 < n → kNx x n P r ≤ kMbs x n (P r) := fun r r1 r2 => by
    have p := h.1 r r1 (by omega)
    have q := h.1 (r + 1) (by omega) r2
    have hne : P (r + 1) ≠ P r := fun e => by
      have z1 := kOrd_at h (r := r) ⟨r1, by omega⟩
      have z2 := kOrd_at h (r := r + 1) ⟨by omega, r2⟩
      rw [e] at z2
      omega
    have z := (kMaxF_rng (fun c => if c = P r then 0 else kL x n (P r) x n c) n.toNat).2.1 (P (r + 1)) q.1 (by omega)
    have z : (if P (r + 1) = P r then 0 else kL x n (P r) x n (P (r + 1))) ≤ kMbs x n (P r) := z
    rw [if_neg hne] at z
    rw [kNx_in ⟨r1, r2⟩]
    exact z
  have kle : ∀ r : Int, 0 ≤ r → r + 1 < n → kNx x n P r ≤ k := fun r r1 r2 => by
    have p := h.1 r r1 (by omega)
    have l := lo r r1 r2
    rcases ht with ⟨-, t2, t3⟩ | ⟨t1, t2, t3, t4, t5⟩
    · have := t3 (P r) p.1 p.2; omega
    · rcases t5 (P r) p.1 p.2 with z | z
      · omega
      · have := z.1; omega
  have k0 : 0 ≤ k := by rcases ht with ⟨-, t2, -⟩ | ⟨-, -, t3, -, -⟩ <;> omega
  have a1 : k ≤ kMaxF (kNx x n P) n.toNat := by
    rcases ht with ⟨-, t2, -⟩ | ⟨t1, t2, t3, t4, -⟩
    · omega
    · have := up b t1 t2; omega
  have a2 : kMaxF (kNx x n P) n.toNat ≤ k := by
    rcases m3 with z | ⟨r, r1, r2, r3⟩
    · omega
    · by_cases q : r + 1 < n
      · have := kle r r1 q; omega
      · rw [kNx_out (by omega)] at r3; omega
  omega
theorem kRep_facts {x : Int → Int} {n a b c : Int} (h0 : kIsRep x n 0 a) (h1 : kIsRep x n 1 b) (h2 : kIsRep x n 2 c) : 0 ≤ a ∧ (a = 0 → b = -1 ∧ c = 0) ∧ (0 < a → (0 ≤ b ∧ b + a ≤ n) ∧ 2 ≤ c ∧ c = kCnt (fun q => a ≤ kL x n q x n b) n.toNat ∧ ∀ q : Int, 0 ≤ q → q < n → a ≤ kL x n q x n b → b ≤ q) := by
  obtain ⟨b0, k0, t0, w0⟩ := h0
  obtain ⟨b1, k1, t1, w1⟩ := h1
  obtain ⟨b2, k2, t2, w2⟩ := h2
  obtain ⟨rfl, rfl⟩ := kTop_one (Int.le_refl _) t0 t1
  obtain ⟨rfl, rfl⟩ := kTop_one (Int.le_refl _) t0 t2
  have ea : a = k0 := by omega
  have eb : b = b0 := by omega
  subst ea eb
  have w2 := (w2.resolve_left (by omega)).resolve_left (by omega)
  rcases t0 with ⟨u1, u2, u3⟩ | ⟨u1, u2, u3, u4, u5⟩
  · refine ⟨by omega, fun _ => ⟨u1, ?_⟩, fun q => absurd u2 (by omega)⟩
    rcases w2.2.2 with z | z <;> omega
  · refine ⟨by omega, fun q => absurd q (by omega), fun _ => ?_⟩
    have rg := kMbs_rng (x := x) (n := n) (a := b) ⟨u1, u2⟩
    have ec : c = kCnt (fun q => a ≤ kL x n q x n b) n.toNat := by
      rcases w2.2.2 with z | z
      · omega
      · exact z.2
    refine ⟨⟨u1, by omega⟩, ?_, ec, fun q q1 q2 q3 => ?_⟩
    · rcases (kMaxF_rng (fun q => if q = b then 0 else kL x n b x n q) n.toNat).2.2 with z | ⟨q, q1, q2, q3⟩
      · have z : kMbs x n b = 0 := z
        omega
      · have q3 : (if q = b then 0 else kL x n b x n q) = kMbs x n b := q3
        by_cases e : q = b
        · rw [if_pos e] at q3; omega
        · rw [if_neg e] at q3
          rw [ec]
          refine kCnt_two (a := b) (b := q) ⟨u1, by omega⟩ ⟨q1, q2⟩ (fun z => e z.symm) ?_ ?_
          · show a ≤ kL x n b x n b
            rw [kL_self (by omega)]; omega
          · show a ≤ kL x n q x n b
            rw [kL_symm (by omega) (by omega)]; omega
    · by_cases e : q = b
      · omega
      · have z := (kMaxF_rng (fun c => if c = q then 0 else kL x n q x n c) n.toNat).2.1 b u1 (by omega)
        have z : (if b = q then 0 else kL x n q x n b) ≤ kMbs x n q := z
        rw [if_neg (fun y => e y.symm)] at z
        rcases u5 q q1 q2 with y | ⟨y1, y2⟩
        · omega
        · rcases y2 with y2 | y2
          · exact y2.2
          · omega
theorem kSeam_facts {x : Int → Int} {nx : Int} {y : Int → Int} {ny a b c : Int} (h0 : kIsSeam x nx y ny 0 a) (h1 : kIsSeam x nx y ny 1 b) (h2 : kIsSeam x nx y ny 2 c) : 0 ≤ a ∧ (a = 0 → b = -1 ∧ c = -1) ∧ (0 < a → (0 ≤ b ∧ b + a ≤ nx) ∧ (0 ≤ c ∧ c + a ≤ ny) ∧ kL x nx b y ny c = a) := by
  obtain ⟨b0, k0, t0, w0⟩ := h0
  obtain ⟨b1, k1, t1, w1⟩ := h1
  obtain ⟨b2, k2, t2, w2⟩ := h2
  obtain ⟨rfl, rfl⟩ := kTop_one (Int.le_refl _) t0 t1
  obtain ⟨rfl, rfl⟩ := kTop_one (Int.le_refl _) t0 t2
  have ea : a = k0 := by omega
  have eb : b = b0 := by omega
  subst ea eb
  have w2 := (w2.resolve_left (by omega)).resolve_left (by omega)
  rcases t0 with ⟨u1, u2, u3⟩ | ⟨u1, u2, u3, u4, u5⟩
  · refine ⟨by omega, fun _ => ⟨u1, ?_⟩, fun q => absurd u2 (by omega)⟩
    rcases w2.2.2 with z | z
    · exact z.2
    · omega
  · refine ⟨by omega, fun q => absurd q (by omega), fun _ => ?_⟩
    rcases w2.2.2 with z | ⟨-, z1, z2, z3, -⟩
    · omega
    · have m := (kMaxF_rng (fun q => kL x nx b y ny q) ny.toNat).2.1 c z1 (by omega)
      have m : kL x nx b y ny c ≤ kMac x nx y ny b := m
      have e : kL x nx b y ny c = a := by omega
      have r := kL_rng (x := x) (y := y) (nx := nx) (ny := ny) (a := b) (b := c) (by omega) (by omega)
      exact ⟨⟨u1, by omega⟩, ⟨z1, by omega⟩, e⟩
theorem kTurn_chk {x : Int → Int} {n b a k : Int} (hb : kBest x n b) (ha : 0 ≤ a ∧ a < n) (hk : 0 ≤ k) (he : ∀ u : Int, 0 ≤ u → u < k → x ((b + u) % n) = x ((a + u) % n)) : (k = n → b ≤ a) ∧ (k < n → x ((b + k) % n) ≤ x ((a + k) % n)) := by
  obtain ⟨h1, h2⟩ := hb
  obtain ⟨g1, g2⟩ := h2 a ha.1 ha.2
  refine ⟨fun e => ?_, fun e => ?_⟩
  · refine Int.not_lt.mp (fun q => ?_)
    obtain ⟨t, t1, t2, t3, -⟩ := g2 q
    have := he t t1 (by omega)
    rw [kRot_mod (x := x) h1 ⟨t1, t2⟩, kRot_mod (x := x) ha ⟨t1, t2⟩] at this
    omega
  · refine Int.not_lt.mp (fun q => g1 ⟨k, hk, e, ?_, fun u u1 u2 => ?_⟩)
    · rw [kRot_mod (x := x) h1 ⟨hk, e⟩, kRot_mod (x := x) ha ⟨hk, e⟩] at q; exact q
    · have := he u u1 u2
      rw [kRot_mod (x := x) h1 ⟨u1, by omega⟩, kRot_mod (x := x) ha ⟨u1, by omega⟩] at this
      exact this.symm
/-- a row, and the one behind it -/
theorem kRows_next {x : Int → Int} {n num z1 z2 : Int} (h1 : kIsRow x n num z1) (h2 : kIsRow x n (num + 1) z2) : ∃ w1 l1 w2 l2 : Int, z1 = 64 * w1 + l1 ∧ z2 = 64 * w2 + l2 ∧ (1 ≤ l1 ∧ 0 ≤ w1 ∧ w1 + l1 ≤ n) ∧ (1 ≤ l2 ∧ 0 ≤ w2 ∧ w2 + l2 ≤ n) ∧ ∀ m : Int, kLC x n w1 x n w2 m → (l1 ≤ m ∧ l2 = l1 + 1) ∨ (m < l1 ∧ m < l2 ∧ x (w1 + m) < x (w2 + m)) := by
  obtain ⟨P, r, lf, w1, hP, r1, r2, f1, f2, f3, g1, e1⟩ := h1
  obtain ⟨P', s, lf', w2, hP', s1, s2, f1', f2', f3', g2, e2⟩ := h2
  have sc : ∀ q : Int, 0 ≤ q → q ≤ n → kSum (kRw x n P') q.toNat = kSum (kRw x n P) q.toNat := fun q q1 q2 => kSum_congr _ (fun k k1 k2 => kRw_congr hP' hP ⟨k1, by omega⟩)
  rw [sc s s1 (by omega)] at f1'
  rw [kRw_congr hP' hP ⟨s1, s2⟩] at f3'
  rw [kNx_congr hP' hP, kOrd_one hP' hP ⟨s1, s2⟩] at g2
  rw [kNx_congr hP' hP] at e2
  have mono := fun (a b : Int) (h : 0 ≤ a ∧ a ≤ b ∧ b ≤ n) => kSum_mono (f := kRw x n P) (n := n) (fun k k1 k2 => (kRw_rng hP ⟨k1, k2⟩).1) (b - a).toNat a b (by omega) h.1 h.2.2
  have pr := hP.1 r r1 r2
  have ps := hP.1 s s1 s2
  have q1 := kNx_rng hP (r - 1)
  have q2 := kNx_rng hP (s - 1)
  have st := kSum_step (kRw x n P) (k := r) r1
  -- the first row's places
  have fst : ∀ (q l w : Int), 0 ≤ q → q < n → 1 ≤ l → P q + l ≤ n → kFst x n x (P q) l w → 0 ≤ w ∧ w + l ≤ n ∧ kEq x w x (P q) l := fun q l w a1 a2 a3 a4 hf => by
    rcases hf with ⟨-, no⟩ | ⟨b1, b2, b3, -⟩
    · exact absurd (fun t t1 t2 => rfl) (no (P q) (hP.1 q a1 a2).1 a4)
    · exact ⟨b1, b2, b3⟩
  have un1 : kRw x n P r = n - P r - kNx x n P (r - 1) := rfl
  have un2 : kRw x n P s = n - P s - kNx x n P (s - 1) := rfl
  obtain ⟨a1, a2, a3⟩ := fst r _ w1 r1 r2 (by omega) (by omega) g1
  obtain ⟨b1, b2, b3⟩ := fst s _ w2 s1 s2 (by omega) (by omega) g2
  refine ⟨w1, kNx x n P (r - 1) + lf + 1, w2, kNx x n P (s - 1) + lf' + 1, e1, e2, ⟨by omega, a1, a2⟩, ⟨by omega, b1, b2⟩, fun m hm => ?_⟩
  by_cases e : s = r
  · -- the same end, a row longer by one
    rw [e] at f1' b3 b2 ⊢
    have el : lf' = lf + 1 := by omega
    refine Or.inl ⟨(kLC_iff hm a2 (by omega)).mpr (fun t t1 t2 => ?_), by omega⟩
    rw [a3 t t1 t2, b3 t t1 (by omega)]
  · -- the end behind
    have hsr : s = r + 1 := by
      have : ¬ s < r := fun q => by
        have := mono (s + 1) r ⟨by omega, by omega, by omega⟩
        have st2 := kSum_step (kRw x n P) (k := s) s1
        omega
      have : ¬ r + 1 < s := fun q => by
        have m2 := mono (r + 1 + 1) s ⟨by omega, by omega, by omega⟩
        have st2 := kSum_step (kRw x n P) (k := r + 1) (by omega)
        have pq := hP.1 (r + 1) (by omega) (by omega)
        have un3 : kRw x n P (r + 1) = n - P (r + 1) - kNx x n P (r + 1 - 1) := rfl
        rw [show r + 1 - 1 = r by omega, kNx_in ⟨r1, by omega⟩] at un3
        obtain ⟨t, t1, t2⟩ := hP.2 r (r + 1) r1 (by omega) (by omega)
        have t3 := kL_of t1
        have t2 : (P r + t = n ∧ P (r + 1) + t < n) ∨ (P r + t < n ∧ P (r + 1) + t < n ∧ x (P r + t) < x (P (r + 1) + t)) := t2
        have d := kRw_rng hP ⟨r1, r2⟩
        omega
      omega
    rw [hsr] at f1' b3 b2 f3' s2 un2 ⊢
    rw [show r + 1 - 1 = r by omega] at b3 b2 un2 ⊢
    have nx := kNx_in (x := x) (P := P) (r := r) (n := n) ⟨r1, s2⟩
    obtain ⟨t, t1, t2⟩ := hP.2 r (r + 1) r1 (by omega) s2
    have t3 := kL_of t1
    have t4 := t1.1
    have t5 := t1.2.2.2.1
    have t2 : (P r + t = n ∧ P (r + 1) + t < n) ∨ (P r + t < n ∧ P (r + 1) + t < n ∧ x (P r + t) < x (P (r + 1) + t)) := t2
    have d := kRw_rng hP ⟨r1, r2⟩
    have el : lf = kRw x n P r - 1 ∧ lf' = 0 := by omega
    rw [el.2] at b3 b2 ⊢
    rcases t2 with t2 | ⟨t2, t2', t2x⟩
    · refine Or.inl ⟨(kLC_iff hm a2 (by omega)).mpr (fun u u1 u2 => ?_), by omega⟩
      rw [a3 u u1 u2, b3 u u1 (by omega), t5 u u1 (by omega)]
    · have hm2 : kLC x n w1 x n w2 t := ⟨t4, by omega, by omega, fun u u1 u2 => by rw [a3 u u1 (by omega), b3 u u1 (by omega), t5 u u1 u2], Or.inr (Or.inr (by rw [a3 t t4 (by omega), b3 t t4 (by omega)]; omega))⟩
      have em := kLC_one hm hm2
      rw [em]
      refine Or.inr ⟨by omega, by omega, ?_⟩
      rw [a3 t t4 (by omega), b3 t t4 (by omega)]
      exact t2x
