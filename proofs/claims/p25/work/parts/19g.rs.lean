/-! ===== the law's Rows when all is grown and walked ===== -/
theorem kCnt_all {P : Int → Prop} : ∀ n : Nat, (∀ k : Int, 0 ≤ k → k < (n : Int) → P k) → kCnt P n = (n : Int) := by
  intro n
  induction n with
  | zero => intro _; rfl
  | succ n ih =>
    intro h
    have e := kCnt_t P (k := (n : Int)) (by omega) (h _ (by omega) (by omega))
    rw [show ((n : Int) + 1).toNat = n + 1 by omega, Int.toNat_natCast] at e
    rw [e, ih (fun k k1 k2 => h k k1 (by omega))]
    omega
section KRS
variable {nx dp mnh fsh enh : Int → Int} {K : Int} {wd : Int → Int → Int} {x : Int → Int} {n : Int}
theorem kFO_of (T : kTree nx dp mnh fsh enh K wd x n) {o0 o : Int → Int} {R : Int} (h : kQ (kOkO mnh K) (kLtO wd dp) o0 0 o R (kPrO dp wd 0)) : kFO mnh dp K wd o R ∧ R = kTot x n := by
  have all : ∀ a : Int, kOkO mnh K a → kPrO dp wd 0 a := fun a ha => by
    have d := T.2.1 a ha.1 ha.2.1
    have z := T.1.2.1
    exact ⟨by show 0 + dp 0 ≤ dp a; omega, fun t t1 t2 => by rw [z] at t2; omega⟩
  refine ⟨⟨h.st, fun a ha => ?_⟩, ?_⟩
  · obtain ⟨i, i1, i2, i3⟩ := h.2.2.2.2.2.2 a ha (all a ha)
    exact ⟨i, i1, i2, i3⟩
  · have e1 := kQ_full h all (n := K.toNat)
    have e2 := kSt_cap h.st (fun a => kLtI_irr a) (n := K.toNat) (fun a ha => ⟨by have := ha.1; omega, by have := ha.2.1; omega⟩) (fun _ => True) (fun _ _ _ => trivial)
    have e3 : kCnt (fun a => kOkO mnh K a ∧ True) K.toNat = kCnt (kOkO mnh K) K.toNat := kCnt_congr _ (fun a _ _ => ⟨fun z => z.1, fun z => ⟨z, trivial⟩⟩)
    have e4 := T.tot
    omega
theorem kOrd_of (T : kTree nx dp mnh fsh enh K wd x n) {o0 P : Int → Int} {e : Int} (h : kQ (kOkP n) (kLtP x n) o0 0 P e (kPrP dp wd x n 0)) : kOrd x n P := by
  have all : ∀ a : Int, kOkP n a → kPrP dp wd x n 0 a := fun a ha => by
    have z := T.1.2.1
    have a1 := ha.1
    have a2 := ha.2
    exact ⟨by show a + dp 0 ≤ n; omega, fun t t1 t2 => by rw [z] at t2; omega⟩
  have e1 := kQ_full h all (n := n.toNat)
  have e2 := kCnt_all (P := kOkP n) n.toNat (fun k k1 k2 => ⟨k1, by omega⟩)
  have e3 := h.st
  have hn := T.1.2.2.1
  refine ⟨fun r r1 r2 => e3.2.1 r r1 (by omega), fun r s r1 rs s2 => e3.2.2 r s r1 rs (by omega)⟩
end KRS
/-- the law's Rows at r: of both hems -/
def kRs (E : kE) (M : kM) (r : Int) (N : Int → Int) (X : Int → Int → Int) : Prop := kLy E M r ∧ ∃ wd : Int → Int → Int, ∀ h : Int, 0 ≤ h → h < 2 →
  kTree (M (r + 1)) (M (r + 2)) (M (r + 4 + h)) (M (r + 7 + h)) (M (r + 10 + h)) (M r 5) wd (X h) (N h) ∧ kFO (M (r + 4 + h)) (M (r + 2)) (M r 5) wd (M (r + 13 + h)) (M (r + 15) h) ∧ kOrd (X h) (N h) (M (r + 17 + h)) ∧ M (r + 15) h = kTot (X h) (N h)
theorem kRs.ext {E E1 : kE} {M M1 : kM} {r : Int} {N : Int → Int} {X : Int → Int → Int} (h : kRs E M r N X) (hX : kExt E E1) (hM : ∀ k i : Int, 11 ≤ k → k < kn E → M1 k i = M k i) : kRs E1 M1 r N X := by
  obtain ⟨hL, wd, hw⟩ := h
  obtain ⟨a1, a2, a3⟩ := hL.1
  have e : ∀ k : Int, r ≤ k → k ≤ r + 19 → M1 k = M k := fun k k1 k2 => funext (fun i => hM k i (by omega) (by omega))
  refine ⟨hL.ext hX hM, wd, fun h h1 h2 => ?_⟩
  rw [e (r + 1) (by omega) (by omega), e (r + 2) (by omega) (by omega), e (r + 4 + h) (by omega) (by omega), e (r + 7 + h) (by omega) (by omega), e (r + 10 + h) (by omega) (by omega), e r (by omega) (by omega), e (r + 13 + h) (by omega) (by omega), e (r + 15) (by omega) (by omega), e (r + 17 + h) (by omega) (by omega)]
  exact hw h h1 h2
