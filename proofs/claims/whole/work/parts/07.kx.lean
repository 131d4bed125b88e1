/-! ===== numbers: every int of the walks is zI of a whole number ===== -/
def zI (z : Int) : Int32 := Int32.ofInt z
theorem zI_add (a b : Int) : zI a + zI b = zI (a + b) := (Int32.ofInt_add a b).symm
theorem zI_sub (a b : Int) : zI a - zI b = zI (a - b) := (Int32.ofInt_sub a b).symm
theorem zI_mul (a b : Int) : zI a * zI b = zI (a * b) := (Int32.ofInt_mul a b).symm
theorem zI_neg (a : Int) : -zI a = zI (-a) := (Int32.ofInt_neg a).symm
theorem zI_of (x : Int32) : x = zI x.toInt := (Int32.ofInt_toInt x).symm
theorem zI_toInt {a : Int} (h : -2147483648 ≤ a ∧ a ≤ 2147483647) : (zI a).toInt = a := Int32.toInt_ofInt_of_le (by omega) (by omega)
theorem zI_nat {a : Int} (h : 0 ≤ a ∧ a ≤ 2147483647) : (zI a).toNatClampNeg = a.toNat := Int32.toNatClampNeg_ofInt_of_le (by omega) (by omega)
theorem zI_0 : (0 : Int32) = zI 0 := rfl
theorem zI_eq {a b : Int} (h : -2147483648 ≤ a ∧ a ≤ 2147483647 ∧ -2147483648 ≤ b ∧ b ≤ 2147483647) : zI a = zI b ↔ a = b :=
  ⟨fun q => by have := congrArg Int32.toInt q; rwa [zI_toInt ⟨h.1, h.2.1⟩, zI_toInt ⟨h.2.2.1, h.2.2.2⟩] at this, fun q => by rw [q]⟩
theorem zI_lt {a b : Int} (h : -2147483648 ≤ a ∧ a ≤ 2147483647 ∧ -2147483648 ≤ b ∧ b ≤ 2147483647) : zI a < zI b ↔ a < b := by
  rw [Int32.lt_iff_toInt_lt, zI_toInt ⟨h.1, h.2.1⟩, zI_toInt ⟨h.2.2.1, h.2.2.2⟩]
theorem zI_le {a b : Int} (h : -2147483648 ≤ a ∧ a ≤ 2147483647 ∧ -2147483648 ≤ b ∧ b ≤ 2147483647) : zI a ≤ zI b ↔ a ≤ b := by
  rw [Int32.le_iff_toInt_le, zI_toInt ⟨h.1, h.2.1⟩, zI_toInt ⟨h.2.2.1, h.2.2.2⟩]
theorem zI_in {a : Int} {n : Nat} (h : 0 ≤ a ∧ a < (n : Int)) (h2 : a ≤ 2147483647) : vp_in (zI a) n := by
  rw [vp_in_iff, zI_toInt ⟨by omega, h2⟩]
  exact h
theorem zI_rng (x : Int32) : -2147483648 ≤ x.toInt ∧ x.toInt ≤ 2147483647 := by
  have h1 := Int32.le_toInt x
  have h2 := Int32.toInt_lt x
  omega
def lI (z : Int) : Int64 := Int64.ofInt z
theorem lI_add (a b : Int) : lI a + lI b = lI (a + b) := (Int64.ofInt_add a b).symm
theorem lI_mul (a b : Int) : lI a * lI b = lI (a * b) := (Int64.ofInt_mul a b).symm
theorem zI_long {a : Int} (h : -2147483648 ≤ a ∧ a ≤ 2147483647) : (zI a).toInt64 = lI a := by
  apply Int64.toInt_inj.mp
  rw [Int32.toInt_toInt64, zI_toInt h]
  exact (Int64.toInt_ofInt_of_le (by omega) (by omega)).symm
theorem zI_rem {a b : Int} (h : 0 ≤ a ∧ a ≤ 2147483647 ∧ 0 < b ∧ b ≤ 2147483647) : zI a - zI a / zI b * zI b = zI (a % b) := by
  have ea : zI a = nI a.toNat := by
    rw [nI, zI]; rw [← Int32.ofInt_eq_ofNat]; congr 1; omega
  have eb : zI b = nI b.toNat := by
    rw [nI, zI]; rw [← Int32.ofInt_eq_ofNat]; congr 1; omega
  rw [ea, eb, pk_rem (by omega) (by omega) (by omega)]
  have e1 : a = (a.toNat : Int) := by omega
  have e2 : b = (b.toNat : Int) := by omega
  rw [nI, zI, ← Int32.ofInt_eq_ofNat]
  congr 1
  rw [Int.natCast_emod, ← e1, ← e2]
/-! ===== the world: 103 cells, each known by a number; its ints are M cell place ===== -/
abbrev kE : Type := va_G × (ClassId × ClassId × ClassId) × (Int → Nat)
abbrev kM : Type := Int → Int → Int
def kU (M : kM) (c j v : Int) : kM := fun k i => if k = c ∧ i = j then v else M k i
theorem kU_same (M : kM) (c j v : Int) : kU M c j v c j = v := if_pos ⟨rfl, rfl⟩
theorem kU_cell {M : kM} {c j v k i : Int} (h : k ≠ c) : kU M c j v k i = M k i := if_neg (fun q => h q.1)
theorem kU_place {M : kM} {c j v k i : Int} (h : i ≠ j) : kU M c j v k i = M k i := if_neg (fun q => h q.2)
theorem kU_at {M : kM} {c j v k i : Int} : kU M c j v k i = if k = c ∧ i = j then v else M k i := rfl
/-- which cells are arrays of ints, and how long they are -/
def kArr (c : Int) (n : Nat) : Prop := (3 ≤ c ∧ c < 6 ∧ n = 40) ∨ (8 ≤ c ∧ c < 10 ∧ n = 40) ∨ (13 ≤ c ∧ c < 15 ∧ n = 40) ∨ (c = 15 ∧ n = 2) ∨ (c = 16 ∧ n = 12) ∨ (18 ≤ c ∧ c < 59 ∧ n = 41) ∨ (c = 59 ∧ n = 40) ∨ (61 ≤ c ∧ c < 102 ∧ n = 41)
def kLen (c : Int) : Nat := if c < 15 then 40 else if c = 15 then 2 else if c = 16 then 12 else if c = 59 then 40 else 41
theorem kArr_len {c : Int} {n : Nat} (h : kArr c n) : kLen c = n := by
  unfold kArr at h
  unfold kLen
  split
  · omega
  split
  · omega
  split
  · omega
  split
  · omega
  omega
/-- arrays of arrays: cell c, its first row is r0, n rows -/
def kRows (ad : Int → Nat) (r0 : Int) (n : Nat) : Nat → Option Nat := fun j => if j < n then some (ad (r0 + (j : Int))) else none
def kC (E : kE) (M : kM) (c : Int) : va_E :=
  if c < 3 then .inr (1, [.ref (E.2.2 (c + 3)), .int (zI (M c 1))])
  else if 6 ≤ c ∧ c < 8 then .inr (0, [.ref (E.2.2 (c - 6)), .ref (E.2.2 (c + 2))])
  else if c = 10 then .inr (2, [.ref (E.2.2 6), .ref (E.2.2 7), .ref (E.2.2 2)])
  else if c = 11 then .inr (3, [.int (zI (M 11 0)), .ref (E.2.2 12), .ref (E.2.2 15), .ref (E.2.2 16), .int (zI (M 11 4)), .ref (E.2.2 17), .ref (E.2.2 59), .ref (E.2.2 60)])
  else if c = 12 then .inl (E.2.1.2.1, 2, .inr (.inr (.inr (.inr (kRows E.2.2 13 2)))))
  else if c = 17 then .inl (E.2.1.2.1, 41, .inr (.inr (.inr (.inr (kRows E.2.2 18 41)))))
  else if c = 60 then .inl (E.2.1.2.1, 41, .inr (.inr (.inr (.inr (kRows E.2.2 61 41)))))
  else if c = 102 then .inl (E.2.1.2.2, 1, .inr (.inl (fun j => lI (M 102 (j : Int)))))
  else .inl (E.2.1.1, kLen c, .inl (fun j => zI (M c (j : Int))))
def kW (E : kE) (M : kM) : va_W := (List.range 103).map (fun k : Nat => (E.2.2 (k : Int), kC E M (k : Int)))
abbrev kT (E : kE) : List (ClassId × FieldType) := [(E.2.1.1, .int), (E.2.1.2.1, .array .int), (E.2.1.2.2, .long)]
def kInj (E : kE) : Prop := ∀ i j : Int, 0 ≤ i → i < 103 → 0 ≤ j → j < 103 → E.2.2 i = E.2.2 j → i = j
def kA (E : kE) (sz : Nat) : Nat → Prop := fun q => (∃ c : Int, 0 ≤ c ∧ c < 103 ∧ q = E.2.2 c) ∨ sz ≤ q
theorem kC_congr {E : kE} {M M' : kM} {c : Int} (hc : 0 ≤ c ∧ c < 103) (h : ∀ i, M' c i = M c i) : kC E M' c = kC E M c := by
  unfold kC
  by_cases h1 : c = 11
  · subst h1; simp [h]
  by_cases h2 : c = 102
  · subst h2; simp [h]
  simp only [h, h1, h2, if_false]
theorem kW_len (E : kE) (M : kM) : (kW E M).length = 103 := by simp [kW]
theorem kW_get (E : kE) (M : kM) {c : Int} (h : 0 ≤ c ∧ c < 103) : (kW E M)[c.toNat]? = some (E.2.2 c, kC E M c) := by
  have h1 : c.toNat < 103 := by omega
  have h2 : ((c.toNat : Nat) : Int) = c := by omega
  simp only [kW, List.getElem?_map, List.getElem?_range h1, Option.map_some, h2]
theorem kW_inv {E : kE} {M : kM} {k : Nat} {q : Nat × va_E} (h : (kW E M)[k]? = some q) : k < 103 ∧ q = (E.2.2 (k : Int), kC E M (k : Int)) := by
  have h1 : k < 103 := by rw [← kW_len E M]; exact (List.getElem?_eq_some_iff.mp h).1
  refine ⟨h1, ?_⟩
  have h2 := kW_get E M (c := (k : Int)) (by omega)
  rw [Int.toNat_natCast, h] at h2
  exact Option.some.inj h2
theorem kW_set {E : kE} {M M' : kM} {c : Int} {e : va_E} (hc : 0 ≤ c ∧ c < 103) (he : kC E M' c = e) (ho : ∀ k : Int, k ≠ c → ∀ i, M' k i = M k i) : (kW E M).set c.toNat (E.2.2 c, e) = kW E M' := by
  apply List.ext_getElem?
  intro k
  by_cases hk : k < 103
  · have g := kW_get E M' (c := (k : Int)) (by omega)
    rw [Int.toNat_natCast] at g
    rw [g]
    by_cases e1 : k = c.toNat
    · subst e1
      have h2 : ((c.toNat : Nat) : Int) = c := by omega
      rw [List.getElem?_set_self (by rw [kW_len]; exact hk), h2, he]
    · rw [List.getElem?_set_ne (Ne.symm e1)]
      have g2 := kW_get E M (c := (k : Int)) (by omega)
      rw [Int.toNat_natCast] at g2
      rw [g2, kC_congr (by omega) (ho (k : Int) (by omega))]
  · rw [List.getElem?_eq_none (by rw [List.length_set, kW_len]; omega), List.getElem?_eq_none (by rw [kW_len]; omega)]
theorem kW_D {E : kE} (hE : kInj E) (M : kM) {A : Nat → Prop} (hA : ∀ c : Int, 0 ≤ c → c < 103 → A (E.2.2 c)) : va_D A (kW E M) := by
  refine ⟨fun i j x y hi hj hxy => ?_, fun k q hk => ?_⟩
  · obtain ⟨h1, rfl⟩ := kW_inv hi
    obtain ⟨h2, rfl⟩ := kW_inv hj
    have := hE (i : Int) (j : Int) (by omega) (by omega) (by omega) (by omega) hxy
    omega
  · obtain ⟨h1, rfl⟩ := kW_inv hk
    exact hA _ (by omega) (by omega)
theorem kW_DA {E : kE} (hE : kInj E) (M : kM) (sz : Nat) : va_D (kA E sz) (kW E M) := kW_D hE M (fun c h1 h2 => Or.inl ⟨c, h1, h2, rfl⟩)
theorem kC_S {E : kE} {M : kM} {c : Int} (h : 0 ≤ c ∧ c < 3) : kC E M c = .inr (1, [.ref (E.2.2 (c + 3)), .int (zI (M c 1))]) := if_pos h.2
theorem kC_H {E : kE} {M : kM} {c : Int} (h : 6 ≤ c ∧ c < 8) : kC E M c = .inr (0, [.ref (E.2.2 (c - 6)), .ref (E.2.2 (c + 2))]) := by
  unfold kC
  rw [if_neg (by omega), if_pos h]
theorem kC_X {E : kE} {M : kM} : kC E M 10 = .inr (2, [.ref (E.2.2 6), .ref (E.2.2 7), .ref (E.2.2 2)]) := by simp [kC]
theorem kC_Y {E : kE} {M : kM} : kC E M 11 = .inr (3, [.int (zI (M 11 0)), .ref (E.2.2 12), .ref (E.2.2 15), .ref (E.2.2 16), .int (zI (M 11 4)), .ref (E.2.2 17), .ref (E.2.2 59), .ref (E.2.2 60)]) := by simp [kC]
theorem kC_L {E : kE} {M : kM} : kC E M 102 = .inl (E.2.1.2.2, 1, .inr (.inl (fun j => lI (M 102 (j : Int))))) := by simp [kC]
theorem kC_A {E : kE} {M : kM} {c : Int} {n : Nat} (h : kArr c n) : kC E M c = .inl (E.2.1.1, n, .inl (fun j => zI (M c (j : Int)))) := by
  have hl := kArr_len h
  unfold kArr at h
  unfold kC
  rw [if_neg (by omega), if_neg (by omega), if_neg (by omega), if_neg (by omega), if_neg (by omega), if_neg (by omega), if_neg (by omega), if_neg (by omega), hl]
theorem kArr_rng {c : Int} {n : Nat} (h : kArr c n) : 0 ≤ c ∧ c < 103 ∧ (n : Int) ≤ 41 := by
  unfold kArr at h
  omega
/-- a row of an array of arrays -/
def kRow (c r i : Int) (n : Nat) : Prop := (c = 12 ∧ r = 13 + i ∧ 0 ≤ i ∧ i < 2 ∧ n = 2) ∨ (c = 17 ∧ r = 18 + i ∧ 0 ≤ i ∧ i < 41 ∧ n = 41) ∨ (c = 60 ∧ r = 61 + i ∧ 0 ≤ i ∧ i < 41 ∧ n = 41)
theorem kC_G {E : kE} {M : kM} {c r i : Int} {n : Nat} (h : kRow c r i n) : ∃ f : Nat → Option Nat, kC E M c = .inl (E.2.1.2.1, n, .inr (.inr (.inr (.inr f)))) ∧ f i.toNat = some (E.2.2 r) := by
  rcases h with ⟨rfl, rfl, h1, h2, rfl⟩ | ⟨rfl, rfl, h1, h2, rfl⟩ | ⟨rfl, rfl, h1, h2, rfl⟩
  · exact ⟨kRows E.2.2 13 2, by simp [kC], by rw [kRows, if_pos (by omega), show ((i.toNat : Nat) : Int) = i by omega]⟩
  · exact ⟨kRows E.2.2 18 41, by simp [kC], by rw [kRows, if_pos (by omega), show ((i.toNat : Nat) : Int) = i by omega]⟩
  · exact ⟨kRows E.2.2 61 41, by simp [kC], by rw [kRows, if_pos (by omega), show ((i.toNat : Nat) : Int) = i by omega]⟩
/-- the links to a nest mate's private fields, which no word list holds -/
def kN (U : State) : Prop := va_Nw (.fieldLinkNest RX0 36 "HemSuffixes$Stitches" "length" "I" "HemSuffixes") U ∧ va_Nw (.fieldLinkNest RX2 37 "HemSuffixes$Stitches" "length" "I" "HemSuffixes") U ∧ va_Nw (.fieldLinkNest RX2 34 "HemSuffixes$Hem" "stitches" "LHemSuffixes$Stitches;" "HemSuffixes") U
def kK (E : kE) (U : State) : Prop := va_K E.1 vwCl (kT E) U ∧ kN U
theorem kN.warm {s U : State} (hW : s.WarmedH U.vm) (h : kN s) : kN U := ⟨va_Nw.warmF hW h.1, va_Nw.warmF hW h.2.1, va_Nw.warmF hW h.2.2⟩
theorem kN.same {u U : State} (hv : u.vm = U.vm) (h : kN u) : kN U := ⟨va_Nw.same rfl hv h.1, va_Nw.same rfl hv h.2.1, va_Nw.same rfl hv h.2.2⟩
theorem kK.warm {E : kE} {s U : State} (hW : s.WarmedH U.vm) (h : kK E s) : kK E U := ⟨va_K.moved hW.alike h.1, kN.warm hW h.2⟩
theorem kK.same {E : kE} {u U : State} (hv : u.vm = U.vm) (h : kK E u) : kK E U := ⟨va_K.moved (by rw [hv]; exact Vm.Alike.refl U.vm) h.1, kN.same hv h.2⟩
