/-! ===== numbers: every int of the walks is zI of a whole number ===== -/
def zI (z : Int) : Int32 := Int32.ofInt z
theorem zI_add (a b : Int) : zI a + zI b = zI (a + b) := (Int32.ofInt_add a b).symm
theorem zI_sub (a b : Int) : zI a - zI b = zI (a - b) := (Int32.ofInt_sub a b).symm
theorem zI_mul (a b : Int) : zI a * zI b = zI (a * b) := (Int32.ofInt_mul a b).symm
theorem zI_neg (a : Int) : -zI a = zI (-a) := (Int32.ofInt_neg a).symm
theorem zI_of (x : Int32) : x = zI x.toInt := (Int32.ofInt_toInt x).symm
theorem zI_toInt {a : Int} (h : -2147483648 ≤ a ∧ a ≤ 2147483647) : (zI a).toInt = a := Int32.toInt_ofInt_of_le (by omega) (by omega)
theorem zI_nat {a : Int} (h : 0 ≤ a ∧ a ≤ 2147483647) : (zI a).toNatClampNeg = a.toNat := Int32.toNatClampNeg_ofInt_of_le (by omega) (by omega)
theorem zI_0 : (0 : Int32) = zI 0 := rfl
theorem zI_eq {a b : Int} (h : -2147483648 ≤ a ∧ a ≤ 2147483647 ∧ -2147483648 ≤ b ∧ b ≤ 2147483647) : zI a = zI b ↔ a = b :=
  ⟨fun q => by have := congrArg Int32.toInt q; rwa [zI_toInt ⟨h.1, h.2.1⟩, zI_toInt ⟨h.2.2.1, h.2.2.2⟩] at this, fun q => by rw [q]⟩
theorem zI_lt {a b : Int} (h : -2147483648 ≤ a ∧ a ≤ 2147483647 ∧ -2147483648 ≤ b ∧ b ≤ 2147483647) : zI a < zI b ↔ a < b := by
  rw [Int32.lt_iff_toInt_lt, zI_toInt ⟨h.1, h.2.1⟩, zI_toInt ⟨h.2.2.1, h.2.2.2⟩]
theorem zI_le {a b : Int} (h : -2147483648 ≤ a ∧ a ≤ 2147483647 ∧ -2147483648 ≤ b ∧ b ≤ 2147483647) : zI a ≤ zI b ↔ a ≤ b := by
  rw [Int32.le_iff_toInt_le, zI_toInt ⟨h.1, h.2.1⟩, zI_toInt ⟨h.2.2.1, h.2.2.2⟩]
theorem zI_in {a : Int} {n : Nat} (h : 0 ≤ a ∧ a < (n : Int)) (h2 : a ≤ 2147483647) : vp_in (zI a) n := by
  rw [vp_in_iff, zI_toInt ⟨by omega, h2⟩]
  exact h
theorem zI_rng (x : Int32) : -2147483648 ≤ x.toInt ∧ x.toInt ≤ 2147483647 := by
  have h1 := Int32.le_toInt x
  have h2 := Int32.toInt_lt x
  omega
def lI (z : Int) : Int64 := Int64.ofInt z
theorem lI_add (a b : Int) : lI a + lI b = lI (a + b) := (Int64.ofInt_add a b).symm
theorem lI_mul (a b : Int) : lI a * lI b = lI (a * b) := (Int64.ofInt_mul a b).symm
theorem zI_long {a : Int} (h : -2147483648 ≤ a ∧ a ≤ 2147483647) : (zI a).toInt64 = lI a := by
  apply Int64.toInt_inj.mp
  rw [Int32.toInt_toInt64, zI_toInt h]
  exact (Int64.toInt_ofInt_of_le (by omega) (by omega)).symm
theorem zI_rem {a b : Int} (h : 0 ≤ a ∧ a ≤ 2147483647 ∧ 0 < b ∧ b ≤ 2147483647) : zI a - zI a / zI b * zI b = zI (a % b) := by
  have ea : zI a = nI a.toNat := by
    rw [nI, zI]; rw [← Int32.ofInt_eq_ofNat]; congr 1; omega
  have eb : zI b = nI b.toNat := by
    rw [nI, zI]; rw [← Int32.ofInt_eq_ofNat]; congr 1; omega
  rw [ea, eb, pk_rem (by omega) (by omega) (by omega)]
  have e1 : a = (a.toNat : Int) := by omega
  have e2 : b = (b.toNat : Int) := by omega
  rw [nI, zI, ← Int32.ofInt_eq_ofNat]
  congr 1
  rw [Int.natCast_emod, ← e1, ← e2]
/-! ===== the world: its cells have numbers, 0 to 10 are the object of the class, what is made later comes behind; ints, lengths (place -1) and kinds (place -2) are M cell place, references are addresses (below 0: null) ===== -/
abbrev kE : Type := va_G × ((ClassId × ClassId × ClassId) × Int) × (Int → Nat)
abbrev kM : Type := Int → Int → Int
abbrev kn (E : kE) : Int := E.2.1.2
abbrev kaI (E : kE) : ClassId := E.2.1.1.1
abbrev kaG (E : kE) : ClassId := E.2.1.1.2.1
abbrev kaZ (E : kE) : ClassId := E.2.1.1.2.2
def kU (M : kM) (c j v : Int) : kM := fun k i => if k = c ∧ i = j then v else M k i
theorem kU_same (M : kM) (c j v : Int) : kU M c j v c j = v := if_pos ⟨rfl, rfl⟩
theorem kU_cell {M : kM} {c j v k i : Int} (h : k ≠ c) : kU M c j v k i = M k i := if_neg (fun q => h q.1)
theorem kU_place {M : kM} {c j v k i : Int} (h : i ≠ j) : kU M c j v k i = M k i := if_neg (fun q => h q.2)
theorem kU_at {M : kM} {c j v k i : Int} : kU M c j v k i = if k = c ∧ i = j then v else M k i := rfl
/-- a new cell -/
def kNw (M : kM) (n : Int) (f : Int → Int) : kM := fun c i => if c = n then f i else M c i
theorem kNw_same (M : kM) (n : Int) (f : Int → Int) (i : Int) : kNw M n f n i = f i := if_pos rfl
theorem kNw_ne {M : kM} {n : Int} {f : Int → Int} {c i : Int} (h : c ≠ n) : kNw M n f c i = M c i := if_neg h
theorem kNw_row {M : kM} {n : Int} {f : Int → Int} {c : Int} (h : c ≠ n) : kNw M n f c = M c := funext (fun _ => if_neg h)
/-- what a new row of ints, of truth values, of rows (all null), and new objects of the law's are like -/
def kIa (len : Int) : Int → Int := fun i => if i = -1 then len else 0
def kZa (len : Int) : Int → Int := fun i => if i = -1 then len else if i = -2 then 1 else 0
def kGa (len : Int) : Int → Int := fun i => if i = -1 then len else if i = -2 then 2 else -1
def kSo : Int → Int := fun i => if i = -2 then 3 else -1
def kRo : Int → Int := fun i => if i = -2 then 4 else if i = 5 then 0 else -1
def kOr (z : Int) : Option Nat := if z < 0 then none else some z.toNat
def kRf (z : Int) : Value := va_rf (kOr z)
theorem kOr_nat (a : Nat) : kOr (a : Int) = some a := by
  unfold kOr
  rw [if_neg (by omega), Int.toNat_natCast]
theorem kRf_nat (a : Nat) : kRf (a : Int) = .ref a := by
  unfold kRf
  rw [kOr_nat]; rfl
theorem kRf_none : kRf (-1) = .null := rfl
/-- cell c is a row of ints, that long -/
def kArr (E : kE) (M : kM) (c len : Int) : Prop := (3 ≤ c ∧ c < 6 ∧ len = 40) ∨ (8 ≤ c ∧ c < 10 ∧ len = 40) ∨ (11 ≤ c ∧ c < kn E ∧ M c (-2) = 0 ∧ M c (-1) = len ∧ 0 ≤ len ∧ len ≤ 100000)
def kC (E : kE) (M : kM) (c : Int) : va_E :=
  if c < 3 then .inr (1, [.ref (E.2.2 (c + 3)), .int (zI (M c 1))])
  else if 6 ≤ c ∧ c < 8 then .inr (0, [.ref (E.2.2 (c - 6)), .ref (E.2.2 (c + 2))])
  else if c = 10 then .inr (2, [.ref (E.2.2 6), .ref (E.2.2 7), .ref (E.2.2 2)])
  else if c < 11 then .inl (kaI E, 40, .inl (fun j => zI (M c (j : Int))))
  else if M c (-2) = 0 then .inl (kaI E, (M c (-1)).toNat, .inl (fun j => zI (M c (j : Int))))
  else if M c (-2) = 1 then .inl (kaZ E, (M c (-1)).toNat, .inl (fun j => zI (M c (j : Int))))
  else if M c (-2) = 2 then .inl (kaG E, (M c (-1)).toNat, .inr (.inr (.inr (.inr (fun j => kOr (M c (j : Int)))))))
  else if M c (-2) = 3 then .inr (4, [kRf (M c 0), kRf (M c 1)])
  else .inr (3, [kRf (M c 0), kRf (M c 1), kRf (M c 2), kRf (M c 3), kRf (M c 4), .int (zI (M c 5)), kRf (M c 6), kRf (M c 7), kRf (M c 8), kRf (M c 9)])
def kW (E : kE) (M : kM) : va_W := (List.range (kn E).toNat).map (fun k : Nat => (E.2.2 (k : Int), kC E M (k : Int)))
abbrev kT (E : kE) : List (ClassId × FieldType) := [(kaI E, .int), (kaG E, .array .int), (kaZ E, .boolean)]
def kInj (E : kE) : Prop := ∀ i j : Int, 0 ≤ i → i < kn E → 0 ≤ j → j < kn E → E.2.2 i = E.2.2 j → i = j
def kA (E : kE) (sz : Nat) : Nat → Prop := fun q => (∃ c : Int, 0 ≤ c ∧ c < kn E ∧ q = E.2.2 c) ∨ sz ≤ q
theorem kC_congr {E : kE} {M M' : kM} {c : Int} (h : ∀ i, M' c i = M c i) : kC E M' c = kC E M c := by
  unfold kC
  simp only [h]
theorem kW_len (E : kE) (M : kM) : (kW E M).length = (kn E).toNat := by simp [kW]
theorem kW_get (E : kE) (M : kM) {c : Int} (h : 0 ≤ c ∧ c < kn E) : (kW E M)[c.toNat]? = some (E.2.2 c, kC E M c) := by
  have h1 : c.toNat < (kn E).toNat := by omega
  have h2 : ((c.toNat : Nat) : Int) = c := by omega
  simp only [kW, List.getElem?_map, List.getElem?_range h1, Option.map_some, h2]
theorem kW_inv {E : kE} {M : kM} {k : Nat} {q : Nat × va_E} (h : (kW E M)[k]? = some q) : (k : Int) < kn E ∧ q = (E.2.2 (k : Int), kC E M (k : Int)) := by
  have h1 : k < (kn E).toNat := by rw [← kW_len E M]; exact (List.getElem?_eq_some_iff.mp h).1
  refine ⟨by omega, ?_⟩
  have h2 := kW_get E M (c := (k : Int)) (by omega)
  rw [Int.toNat_natCast, h] at h2
  exact Option.some.inj h2
theorem kW_set {E : kE} {M M' : kM} {c : Int} {e : va_E} (hc : 0 ≤ c ∧ c < kn E) (he : kC E M' c = e) (ho : ∀ k : Int, k ≠ c → ∀ i, M' k i = M k i) : (kW E M).set c.toNat (E.2.2 c, e) = kW E M' := by
  apply List.ext_getElem?
  intro k
  by_cases hk : k < (kn E).toNat
  · have g := kW_get E M' (c := (k : Int)) (by omega)
    rw [Int.toNat_natCast] at g
    rw [g]
    by_cases e1 : k = c.toNat
    · subst e1
      have h2 : ((c.toNat : Nat) : Int) = c := by omega
      rw [List.getElem?_set_self (by rw [kW_len]; exact hk), h2, he]
    · rw [List.getElem?_set_ne (Ne.symm e1)]
      have g2 := kW_get E M (c := (k : Int)) (by omega)
      rw [Int.toNat_natCast] at g2
      rw [g2, kC_congr (ho (k : Int) (by omega))]
  · rw [List.getElem?_eq_none (by rw [List.length_set, kW_len]; omega), List.getElem?_eq_none (by rw [kW_len]; omega)]
theorem kW_D {E : kE} (hE : kInj E) (M : kM) {A : Nat → Prop} (hA : ∀ c : Int, 0 ≤ c → c < kn E → A (E.2.2 c)) : va_D A (kW E M) := by
  refine ⟨fun i j x y hi hj hxy => ?_, fun k q hk => ?_⟩
  · obtain ⟨h1, rfl⟩ := kW_inv hi
    obtain ⟨h2, rfl⟩ := kW_inv hj
    have := hE (i : Int) (j : Int) (by omega) (by omega) (by omega) (by omega) hxy
    omega
  · obtain ⟨h1, rfl⟩ := kW_inv hk
    exact hA _ (by omega) (by omega)
theorem kW_DA {E : kE} (hE : kInj E) (M : kM) (sz : Nat) : va_D (kA E sz) (kW E M) := kW_D hE M (fun c h1 h2 => Or.inl ⟨c, h1, h2, rfl⟩)
theorem kC_S {E : kE} {M : kM} {c : Int} (h : 0 ≤ c ∧ c < 3) : kC E M c = .inr (1, [.ref (E.2.2 (c + 3)), .int (zI (M c 1))]) := if_pos h.2
theorem kC_H {E : kE} {M : kM} {c : Int} (h : 6 ≤ c ∧ c < 8) : kC E M c = .inr (0, [.ref (E.2.2 (c - 6)), .ref (E.2.2 (c + 2))]) := by
  unfold kC
  rw [if_neg (by omega), if_pos h]
theorem kC_X {E : kE} {M : kM} : kC E M 10 = .inr (2, [.ref (E.2.2 6), .ref (E.2.2 7), .ref (E.2.2 2)]) := by simp [kC]
theorem kC_40 {E : kE} {M : kM} {c : Int} (h : (3 ≤ c ∧ c < 6) ∨ (8 ≤ c ∧ c < 10)) : kC E M c = .inl (kaI E, 40, .inl (fun j => zI (M c (j : Int)))) := by
  unfold kC
  rw [if_neg (by omega), if_neg (by omega), if_neg (by omega), if_pos (by omega)]
theorem kC_I {E : kE} {M : kM} {c : Int} (h : 11 ≤ c) (hk : M c (-2) = 0) : kC E M c = .inl (kaI E, (M c (-1)).toNat, .inl (fun j => zI (M c (j : Int)))) := by
  unfold kC
  rw [if_neg (by omega), if_neg (by omega), if_neg (by omega), if_neg (by omega), if_pos hk]
theorem kC_Z {E : kE} {M : kM} {c : Int} (h : 11 ≤ c) (hk : M c (-2) = 1) : kC E M c = .inl (kaZ E, (M c (-1)).toNat, .inl (fun j => zI (M c (j : Int)))) := by
  unfold kC
  rw [if_neg (by omega), if_neg (by omega), if_neg (by omega), if_neg (by omega), if_neg (by omega), if_pos hk]
theorem kC_G {E : kE} {M : kM} {c : Int} (h : 11 ≤ c) (hk : M c (-2) = 2) : kC E M c = .inl (kaG E, (M c (-1)).toNat, .inr (.inr (.inr (.inr (fun j => kOr (M c (j : Int))))))) := by
  unfold kC
  rw [if_neg (by omega), if_neg (by omega), if_neg (by omega), if_neg (by omega), if_neg (by omega), if_neg (by omega), if_pos hk]
theorem kC_Sim {E : kE} {M : kM} {c : Int} (h : 11 ≤ c) (hk : M c (-2) = 3) : kC E M c = .inr (4, [kRf (M c 0), kRf (M c 1)]) := by
  unfold kC
  rw [if_neg (by omega), if_neg (by omega), if_neg (by omega), if_neg (by omega), if_neg (by omega), if_neg (by omega), if_neg (by omega), if_pos hk]
theorem kC_Rows {E : kE} {M : kM} {c : Int} (h : 11 ≤ c) (hk : M c (-2) = 4) : kC E M c = .inr (3, [kRf (M c 0), kRf (M c 1), kRf (M c 2), kRf (M c 3), kRf (M c 4), .int (zI (M c 5)), kRf (M c 6), kRf (M c 7), kRf (M c 8), kRf (M c 9)]) := by
  unfold kC
  rw [if_neg (by omega), if_neg (by omega), if_neg (by omega), if_neg (by omega), if_neg (by omega), if_neg (by omega), if_neg (by omega), if_neg (by omega)]
theorem kC_A {E : kE} {M : kM} {c len : Int} (h : kArr E M c len) : kC E M c = .inl (kaI E, len.toNat, .inl (fun j => zI (M c (j : Int)))) := by
  rcases h with ⟨h1, h2, rfl⟩ | ⟨h1, h2, rfl⟩ | ⟨h1, h2, h3, h4, h5, h6⟩
  · exact kC_40 (by omega)
  · exact kC_40 (by omega)
  · rw [kC_I h1 h3, h4]
theorem kArr_rng {E : kE} {M : kM} {c len : Int} (h : kArr E M c len) (hn : 11 ≤ kn E) : 0 ≤ c ∧ c < kn E ∧ 0 ≤ len ∧ len ≤ 100000 := by
  unfold kArr at h
  omega
theorem kC_ext {E E1 : kE} {M M1 : kM} {c : Int} (h1 : E1.2.1.1 = E.2.1.1) (h2 : ∀ k : Int, k < 11 → E1.2.2 k = E.2.2 k) (h3 : ∀ i, M1 c i = M c i) : kC E1 M1 c = kC E M c := by
  have e1 : kaI E1 = kaI E := congrArg (fun x => x.1) h1
  have e2 : kaG E1 = kaG E := congrArg (fun x => x.2.1) h1
  have e3 : kaZ E1 = kaZ E := congrArg (fun x => x.2.2) h1
  unfold kC
  simp only [h3, e1, e2, e3]
  split
  · rw [h2 _ (by omega)]
  split
  · rw [h2 _ (by omega), h2 _ (by omega)]
  split
  · rw [h2 _ (by omega), h2 _ (by omega), h2 _ (by omega)]
  · rfl
/-- a world with more cells: classes and addresses of those there were are the same -/
def kExt (E E1 : kE) : Prop := E1.1 = E.1 ∧ E1.2.1.1 = E.2.1.1 ∧ kn E ≤ kn E1 ∧ ∀ c : Int, c < kn E → E1.2.2 c = E.2.2 c
theorem kExt.rf (E : kE) : kExt E E := ⟨rfl, rfl, Int.le_refl _, fun _ _ => rfl⟩
theorem kExt.tr {E E1 E2 : kE} (h : kExt E E1) (g : kExt E1 E2) : kExt E E2 := ⟨g.1.trans h.1, g.2.1.trans h.2.1, Int.le_trans h.2.2.1 g.2.2.1, fun c hc => (g.2.2.2 c (Int.lt_of_lt_of_le hc h.2.2.1)).trans (h.2.2.2 c hc)⟩
theorem kExt.ad {E E1 : kE} (h : kExt E E1) {c : Int} (hc : c < kn E) : E1.2.2 c = E.2.2 c := h.2.2.2 c hc
def kX (E : kE) (q : Nat) : kE := (E.1, (E.2.1.1, kn E + 1), fun c => if c = kn E then q else E.2.2 c)
theorem kX_ext (E : kE) (q : Nat) : kExt E (kX E q) := ⟨rfl, rfl, Int.le_of_lt (Int.lt_succ _), fun c hc => if_neg (by omega)⟩
theorem kX_at (E : kE) (q : Nat) : (kX E q).2.2 (kn E) = q := if_pos rfl
theorem kX_n (E : kE) (q : Nat) : kn (kX E q) = kn E + 1 := rfl
/-- the cells may be written: they are apart, and of A; so is all that comes from sz on -/
def kG (A : Nat → Prop) (sz : Nat) (E : kE) : Prop := kInj E ∧ (∀ c : Int, 0 ≤ c → c < kn E → A (E.2.2 c)) ∧ ∀ q : Nat, sz ≤ q → A q
theorem kG.rf {E : kE} (hE : kInj E) (sz : Nat) : kG (kA E sz) sz E := ⟨hE, fun c h1 h2 => Or.inl ⟨c, h1, h2, rfl⟩, fun _ h => Or.inr h⟩
theorem kG.D {A : Nat → Prop} {sz : Nat} {E : kE} (h : kG A sz E) (M : kM) : va_D A (kW E M) := kW_D h.1 M h.2.1
theorem kG.of {A : Nat → Prop} {sz : Nat} {E : kE} {M : kM} (hD : va_D A (kW E M)) (hs : ∀ q : Nat, sz ≤ q → A q) : kG A sz E := by
  refine ⟨fun i j i1 i2 j1 j2 hij => ?_, fun c c1 c2 => hD.2 _ _ (kW_get E M ⟨c1, c2⟩), hs⟩
  have := hD.1 _ _ _ _ (kW_get E M ⟨i1, i2⟩) (kW_get E M ⟨j1, j2⟩) hij
  omega
theorem kG.sub {A : Nat → Prop} {sz sz1 : Nat} {E : kE} (h : kG A sz E) (h1 : sz ≤ sz1) : ∀ q : Nat, kA E sz1 q → A q := fun q hq => hq.elim (fun ⟨c, c1, c2, e⟩ => by rw [e]; exact h.2.1 c c1 c2) (fun g => h.2.2 q (Nat.le_trans h1 g))
/-- what a call made comes beside what there is -/
theorem kG.tr {A : Nat → Prop} {sz sz1 : Nat} {E E1 : kE} (h : kG A sz E) (h1 : sz ≤ sz1) (g : kG (kA E sz1) sz1 E1) : kG A sz E1 := ⟨g.1, fun c c1 c2 => h.sub h1 _ (g.2.1 c c1 c2), h.2.2⟩
theorem kW_push {E : kE} {M M1 : kM} {q : Nat} {e : va_E} (hn : 11 ≤ kn E) (ho : ∀ c : Int, c < kn E → ∀ i, M1 c i = M c i) (he : kC (kX E q) M1 (kn E) = e) : kW E M ++ [(q, e)] = kW (kX E q) M1 := by
  unfold kW
  rw [kX_n, show (kn E + 1).toNat = (kn E).toNat + 1 by omega, List.range_succ, List.map_append]
  congr 1
  · apply List.map_congr_left
    intro k hk
    have hk2 : k < (kn E).toNat := List.mem_range.mp hk
    rw [(kX_ext E q).ad (c := (k : Int)) (by omega), kC_ext (E := E) (E1 := kX E q) (M := M) rfl (fun j hj => (kX_ext E q).ad (by omega)) (ho (k : Int) (by omega))]
  · show [(q, e)] = [((kX E q).2.2 (((kn E).toNat : Nat) : Int), kC (kX E q) M1 (((kn E).toNat : Nat) : Int))]
    rw [show (((kn E).toNat : Nat) : Int) = kn E by omega, kX_at, he]
/-- the links to a nest mate's private fields and methods, which no word list holds -/
def kN (U : State) : Prop := va_Nw (.fieldLinkNest RX0 36 "HemSuffixes$Stitches" "length" "I" "HemSuffixes") U ∧ va_Nw (.fieldLinkNest RX2 37 "HemSuffixes$Stitches" "length" "I" "HemSuffixes") U ∧ va_Nw (.fieldLinkNest RX2 34 "HemSuffixes$Hem" "stitches" "LHemSuffixes$Stitches;" "HemSuffixes") U ∧ va_Nw (.methodLinkNest RX4 18 yL_common "HemSuffixesLaw") U ∧ va_Nw (.methodLinkNest RL 61 yX4_init "HemSuffixesLaw") U
theorem kN.warm {s U : State} (hW : s.WarmedH U.vm) (h : kN s) : kN U := ⟨va_Nw.warmF hW h.1, va_Nw.warmF hW h.2.1, va_Nw.warmF hW h.2.2.1, va_Nw.warmM hW h.2.2.2.1, va_Nw.warmM hW h.2.2.2.2⟩
theorem kN.same {u U : State} (hv : u.vm = U.vm) (h : kN u) : kN U := ⟨va_Nw.same rfl hv h.1, va_Nw.same rfl hv h.2.1, va_Nw.same rfl hv h.2.2.1, va_Nw.same rfl hv h.2.2.2.1, va_Nw.same rfl hv h.2.2.2.2⟩
theorem va_AOA.moved {ty : FieldType} {u U : State} (hvm : u.vm.Alike U.vm) (h : va_AOA ty u) : va_AOA ty U := arrayOver_alikeB hvm h
def kK (E : kE) (U : State) : Prop := va_K E.1 vwCl (kT E) U ∧ kN U ∧ va_AOA .int U ∧ 11 ≤ kn E
theorem kK.warm {E : kE} {s U : State} (hW : s.WarmedH U.vm) (h : kK E s) : kK E U := ⟨va_K.moved hW.alike h.1, kN.warm hW h.2.1, va_AOA.moved hW.alike h.2.2.1, h.2.2.2⟩
theorem kK.same {E : kE} {u U : State} (hv : u.vm = U.vm) (h : kK E u) : kK E U := ⟨va_K.moved (by rw [hv]; exact Vm.Alike.refl U.vm) h.1, kN.same hv h.2.1, va_AOA.moved (by rw [hv]; exact Vm.Alike.refl U.vm) h.2.2.1, h.2.2.2⟩
theorem kK.ext {E E1 : kE} {U : State} (h : kK E U) (g : kExt E E1) : kK E1 U := by
  refine ⟨?_, h.2.1, h.2.2.1, Int.le_trans h.2.2.2 g.2.2.1⟩
  have e1 : kT E1 = kT E := congrArg (fun x : ClassId × ClassId × ClassId => [(x.1, FieldType.int), (x.2.1, FieldType.array .int), (x.2.2, FieldType.boolean)]) g.2.1
  rw [g.1, e1]
  exact h.1
