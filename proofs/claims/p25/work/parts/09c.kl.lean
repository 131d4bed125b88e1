/-! ===== more rows: numbers of which the range alone is known; the law's own objects ===== -/
section KL
variable {p : Program} {l : Launch} {e : Env} {R : Room} {s : State} {m : MethodId} {args : Array Value} {below : List Frame} {meth : Method} {c : Code} {H H0 : Heap} {locs : List Loc} {cells slots : Nat} {Q : State → Prop}
variable {cc bytes : ByteArray} {pc : Nat} {ls : Array Slot} {rest st : List Value} {E : kE} {M : kM} {nL maxL index n mc ms : Nat} {Ts ws : List Cond} {own C : String} {y : MethodName} {ret : Option FieldType} {rm : Room} {As : List Value} {b : Nat} {A : Nat → Prop}
theorem k_any {v : Int32} (k : ∀ z : Int, -2147483648 ≤ z ∧ z ≤ 2147483647 → W p l e R s m args below meth c H locs cells slots Q (F0 m pc ls (.int (zI z) :: rest))) : W p l e R s m args below meth c H locs cells slots Q (F0 m pc ls (.int v :: rest)) := by
  rw [zI_of v]
  exact k _ (zI_rng v)
theorem k_shr (hx : p.tables.exec = Jvm.exec) (hb : c.code = cc) {x y : Int32} (hdg : decode cc pc = .ok (.ishr, 1)) (k : ∀ z : Int, -2147483648 ≤ z ∧ z ≤ 2147483647 → W p l e R s m args below meth c H locs cells slots Q (F0 m (pc + 1) ls (.int (zI z) :: rest))) : W p l e R s m args below meth c H locs cells slots Q (F0 m pc ls (.int y :: .int x :: rest)) := lv_ishr hx hb hdg (k_any k)
theorem k_and31 (hx : p.tables.exec = Jvm.exec) (hb : c.code = cc) {x : Int32} (hdg : decode cc pc = .ok (.iand, 1)) (k : ∀ z : Int, 0 ≤ z ∧ z ≤ 2147483647 → W p l e R s m args below meth c H locs cells slots Q (F0 m (pc + 1) ls (.int (zI z) :: rest))) : W p l e R s m args below meth c H locs cells slots Q (F0 m pc ls (.int (2147483647 : Int32) :: .int x :: rest)) := by
  refine lv_iand hx hb hdg ?_
  obtain ⟨j, hj, e1⟩ := pk_andE x (m := (2147483647 : Int32)) 31 (by decide)
  rw [e1, show nI j = zI (j : Int) by rw [nI, zI]; exact (Int32.ofInt_eq_ofNat).symm]
  exact k _ (by omega)
theorem k_and01 (hx : p.tables.exec = Jvm.exec) (hb : c.code = cc) {a d : Int} (ha : a = 0 ∨ a = 1) (hd : d = 0 ∨ d = 1) (hdg : decode cc pc = .ok (.iand, 1)) (k : ∀ z : Int, (z = 1 ∧ a = 1 ∧ d = 1) ∨ (z = 0 ∧ (a = 0 ∨ d = 0)) → W p l e R s m args below meth c H locs cells slots Q (F0 m (pc + 1) ls (.int (zI z) :: rest))) : W p l e R s m args below meth c H locs cells slots Q (F0 m pc ls (.int (zI d) :: .int (zI a) :: rest)) := by
  refine lv_iand hx hb hdg ?_
  rcases ha with rfl | rfl <;> rcases hd with rfl | rfl
  · exact k 0 (by omega)
  · exact k 0 (by omega)
  · exact k 0 (by omega)
  · exact k 1 (by omega)
theorem zI_div {a b : Int} (h : 0 ≤ a ∧ a ≤ 2147483647 ∧ 0 < b ∧ b ≤ 2147483647) : zI a / zI b = zI (a / b) := by
  have ea : zI a = nI a.toNat := by
    rw [nI, zI]; rw [← Int32.ofInt_eq_ofNat]; congr 1; omega
  have eb : zI b = nI b.toNat := by
    rw [nI, zI]; rw [← Int32.ofInt_eq_ofNat]; congr 1; omega
  rw [ea, eb, pk_div (by omega) (by omega) (by omega)]
  have e1 : a = (a.toNat : Int) := by omega
  have e2 : b = (b.toNat : Int) := by omega
  rw [nI, zI, ← Int32.ofInt_eq_ofNat]
  congr 1
  rw [Int.natCast_ediv, ← e1, ← e2]
theorem k_div (hx : p.tables.exec = Jvm.exec) (hb : c.code = cc) {a b : Int} (hdg : decode cc pc = .ok (.idiv, 1)) (h : 0 ≤ a ∧ a ≤ 2147483647 ∧ 0 < b ∧ b ≤ 2147483647) (k : W p l e R s m args below meth c H locs cells slots Q (F0 m (pc + 1) ls (.int (zI (a / b)) :: rest))) : W p l e R s m args below meth c H locs cells slots Q (F0 m pc ls (.int (zI b) :: .int (zI a) :: rest)) :=
  lv_idiv hx hb hdg (fun q => by have := (zI_eq (a := b) (b := 0) (by omega)).mp q; omega) (by rw [zI_div h]; exact k)
theorem k_spush (hx : p.tables.exec = Jvm.exec) (hb : c.code = cc) {n : Int} (hdg : decode cc pc = .ok (.sipush n, 3)) (hv : (Int16.ofInt n).toInt32 = zI n) (k : W p l e R s m args below meth c H locs cells slots Q (F0 m (pc + 3) ls (.int (zI n) :: rest))) : W p l e R s m args below meth c H locs cells slots Q (F0 m pc ls rest) := lv_sipush hx hb hdg hv k
theorem k_abs (S : CallFix p m c cc nL s args Ts own) (hsz : ls.size = nL) (hlink : (Cond.methodLink own index Lib.Math.abs.name).before args s = true) (hstat : (Cond.static Lib.Math.abs.name).before args s = true) (hini : (Cond.initialized "java/lang/Math").before args s = true) (hcode : (Cond.code Lib.Math.abs.name Lib.Math.abs.code 1 (some .int)).before args s = true)
    (hR : 1 ≤ R.frames ∧ (rest.map fun v => v.category).sum + 13 ≤ R.locals) (hf : cells ≤ R.cells ∧ slots ≤ R.slots) {a : Int} (h : -2147483647 ≤ a ∧ a ≤ 2147483647) (hdg : decode cc pc = .ok (.invokestatic index, 3))
    (kk : ∀ z : Int, (0 ≤ a ∧ z = a) ∨ (a < 0 ∧ z = -a) → W p l e R s m args below meth c H locs cells slots Q (F0 m (pc + 3) ls (.int (zI z) :: rest))) : W p l e R s m args below meth c H locs cells slots Q (F0 m pc ls (.int (zI a) :: rest)) := by
  refine va_mabs S.1 S.2.1 (S.2.2.1.trans hsz.symm) S.2.2.2.1 hlink hstat hini hcode hR.1 hR.2 hf.1 hf.2 hdg ?_
  split
  · rename_i q
    rw [zI_0] at q
    exact kk a (Or.inl ⟨(zI_le (by omega)).mp q, rfl⟩)
  · rename_i q
    rw [zI_0] at q ⊢
    rw [zI_le (by omega)] at q
    rw [zI_sub]
    exact kk (0 - a) (Or.inr ⟨by omega, by omega⟩)
/-- a nest mate's private static method -/
theorem k_callSN {host : String} {post : Int → Prop} (S : CallFix p m c cc nL s args Ts own) (hK : kK E s) (hP : va_P E.1 vwCl (kW E M) H) (hM : kRO l y ws rm E M As post) (cw : va_CN R s args own index y host bytes maxL ret ws rm 0 0 n ∧ (Cond.static y).before args s = true ∧ True)
    (hn : As.length = n) (hsz : ls.size = nL) (hst : st = As.reverse ++ rest) (hw : (rest.map fun v => v.category).sum ≤ 8) (hdg : decode cc pc = .ok (.invokestatic index, 3)) (hf : cells + 0 ≤ R.cells ∧ slots + 0 ≤ R.slots)
    (kk : ∀ z : Int, post z → W p l e R s m args below meth c H locs cells slots Q (F0 m (pc + 3) ls (.int (zI z) :: rest))) : W p l e R s m args below meth c H locs cells slots Q (F0 m pc ls st) := by
  intro T hT X
  obtain ⟨v, st₀, t, T', L, h0, X', hL, e1, e2, hq, st⟩ := va_runSN S hM cw ⟨kPre_blind, fun U hU hW => ⟨rfl, by rw [hU]; exact hP, kK.warm hW hK⟩⟩ rfl hn hsz hst (lv_room hw) hdg hf T hT X
  obtain ⟨r, hv, ⟨z, rfl, hz⟩, hh⟩ := hq
  cases hv
  obtain ⟨t2, a1, b1⟩ := kk z hz T' (by rw [e1, hh, h0]) (Stand.forget X' (fun q h => (hL q h).elim))
  exact ⟨t2, st t2 a1, b1⟩
end KL
theorem kArr_ext {E E1 : kE} {M M1 : kM} {c len : Int} (hX : kExt E E1) (hM : ∀ k i : Int, k < kn E → M1 k i = M k i) (h : kArr E M c len) : kArr E1 M1 c len := by
  have := hX.2.2.1
  unfold kArr at h ⊢
  rcases h with h | h | ⟨h1, h2, h3, h4, h5⟩
  · exact Or.inl h
  · exact Or.inr (Or.inl h)
  · exact Or.inr (Or.inr ⟨h1, by omega, by rw [hM c _ h2]; exact h3, by rw [hM c _ h2]; exact h4, h5⟩)
/-- the law's Sim at the cell g: its hems and its sample are the rows y 0, y 1, y 2, L of ints long, X their ints -/
def kSm (E : kE) (M : kM) (g : Int) (y L : Int → Int) (X : Int → Int → Int) : Prop :=
  (11 ≤ g ∧ g + 1 < kn E ∧ M g (-2) = 3 ∧ M g 0 = (E.2.2 (g + 1) : Int) ∧ M g 1 = (E.2.2 (y 2) : Int)) ∧
  (M (g + 1) (-2) = 2 ∧ M (g + 1) (-1) = 2 ∧ ∀ h : Int, 0 ≤ h → h < 2 → M (g + 1) h = (E.2.2 (y h) : Int)) ∧
  ∀ i : Int, 0 ≤ i → i < 3 → (11 ≤ y i ∧ y i < kn E ∧ y i ≠ g ∧ y i ≠ g + 1) ∧ M (y i) (-2) = 0 ∧ (M (y i) (-1) = L i ∧ 0 ≤ L i ∧ L i ≤ 40) ∧ ∀ j : Int, 0 ≤ j → j < L i → M (y i) j = X i j
theorem kSm.arr {E : kE} {M : kM} {g : Int} {y L : Int → Int} {X : Int → Int → Int} (h : kSm E M g y L X) {i : Int} (hi : 0 ≤ i ∧ i < 3) : kArr E M (y i) (L i) := by
  obtain ⟨h1, h2, h3, h4⟩ := h.2.2 i hi.1 hi.2
  exact Or.inr (Or.inr ⟨h1.1, h1.2.1, h2, h3.1, h3.2.1, by omega⟩)
theorem kSm.at {E : kE} {M : kM} {g : Int} {y L : Int → Int} {X : Int → Int → Int} (h : kSm E M g y L X) {i j : Int} (hi : 0 ≤ i ∧ i < 3) (hj : 0 ≤ j ∧ j < L i) : M (y i) j = X i j := (h.2.2 i hi.1 hi.2).2.2.2 j hj.1 hj.2
theorem kSm.len {E : kE} {M : kM} {g : Int} {y L : Int → Int} {X : Int → Int → Int} (h : kSm E M g y L X) {i : Int} (hi : 0 ≤ i ∧ i < 3) : 0 ≤ L i ∧ L i ≤ 40 := (h.2.2 i hi.1 hi.2).2.2.1.2
/-- the same Sim in a world that has more, or in which it has not changed -/
theorem kSm.ext {E E1 : kE} {M M1 : kM} {g : Int} {y L : Int → Int} {X : Int → Int → Int} (h : kSm E M g y L X) (hX : kExt E E1) (hM : ∀ k i : Int, 11 ≤ k → k < kn E → M1 k i = M k i) : kSm E1 M1 g y L X := by
  have hn := hX.2.2.1
  obtain ⟨⟨a1, a2, a3, a4, a5⟩, ⟨b1, b2, b3⟩, c1⟩ := h
  have d := fun (i : Int) (h1 : 0 ≤ i) (h2 : i < 3) => (c1 i h1 h2).1
  have d2 := d 2 (by omega) (by omega)
  refine ⟨⟨a1, by omega, by rw [hM g _ a1 (by omega)]; exact a3, by rw [hM g _ a1 (by omega), hX.ad a2]; exact a4, by rw [hM g _ a1 (by omega), hX.ad d2.2.1]; exact a5⟩, ⟨by rw [hM _ _ (by omega) a2]; exact b1, by rw [hM _ _ (by omega) a2]; exact b2, fun k h1 h2 => by rw [hM _ _ (by omega) a2, hX.ad (d k h1 (by omega)).2.1]; exact b3 k h1 h2⟩, fun i h1 h2 => ?_⟩
  obtain ⟨q1, q2, q3, q4⟩ := c1 i h1 h2
  exact ⟨⟨q1.1, by omega, q1.2.2⟩, by rw [hM _ _ q1.1 q1.2.1]; exact q2, ⟨by rw [hM _ _ q1.1 q1.2.1]; exact q3.1, q3.2⟩, fun j j1 j2 => by rw [hM _ _ q1.1 q1.2.1]; exact q4 j j1 j2⟩
theorem kSm.like {E : kE} {M : kM} {g : Int} {y L L' : Int → Int} {X X' : Int → Int → Int} (h : kSm E M g y L X) (h1 : ∀ i : Int, 0 ≤ i → i < 3 → L' i = L i) (h2 : ∀ i j : Int, 0 ≤ i → i < 3 → 0 ≤ j → j < L i → X' i j = X i j) : kSm E M g y L' X' := by
  refine ⟨h.1, h.2.1, fun i i1 i2 => ?_⟩
  obtain ⟨q1, q2, q3, q4⟩ := h.2.2 i i1 i2
  rw [h1 i i1 i2]
  exact ⟨q1, q2, q3, fun j j1 j2 => by rw [h2 i j i1 i2 j1 j2]; exact q4 j j1 j2⟩
/-- a hem, or the sample, is put in another row's place -/
theorem kSm.hem {E : kE} {M M1 : kM} {g : Int} {y L : Int → Int} {X : Int → Int → Int} (h : kSm E M g y L X) {k x len : Int} {f : Int → Int} (hk : 0 ≤ k ∧ k < 2) (hM : M1 = kU M (g + 1) k (E.2.2 x : Int)) (hx : 11 ≤ x ∧ x < kn E ∧ x ≠ g ∧ x ≠ g + 1) (hx2 : M x (-2) = 0) (hx3 : M x (-1) = len ∧ 0 ≤ len ∧ len ≤ 40) (hx4 : ∀ j : Int, 0 ≤ j → j < len → M x j = f j) :
    kSm E M1 g (fun i => if i = k then x else y i) (fun i => if i = k then len else L i) (fun i => if i = k then f else X i) := by
  obtain ⟨⟨a1, a2, a3, a4, a5⟩, ⟨b1, b2, b3⟩, c1⟩ := h
  subst hM
  refine ⟨⟨a1, a2, by rw [kU_cell (by omega)]; exact a3, by rw [kU_cell (by omega)]; exact a4, ?_⟩, ⟨by rw [kU_place (by omega)]; exact b1, by rw [kU_place (by omega)]; exact b2, fun q h1 h2 => ?_⟩, fun i h1 h2 => ?_⟩
  · rw [kU_cell (by omega)]
    show M g 1 = (E.2.2 (if (2 : Int) = k then x else y 2) : Int)
    rw [if_neg (by omega)]; exact a5
  · show kU M (g + 1) k (E.2.2 x : Int) (g + 1) q = (E.2.2 (if q = k then x else y q) : Int)
    by_cases e : q = k
    · rw [if_pos e, e, kU_same]
    · rw [if_neg e, kU_place e]; exact b3 q h1 h2
  · obtain ⟨q1, q2, q3, q4⟩ := c1 i h1 h2
    by_cases e : i = k
    · simp only [if_pos e]
      rw [kU_cell hx.2.2.2, kU_cell hx.2.2.2]
      exact ⟨hx, hx2, hx3, fun j j1 j2 => by rw [kU_cell hx.2.2.2]; exact hx4 j j1 j2⟩
    · simp only [if_neg e]
      rw [kU_cell q1.2.2.2, kU_cell q1.2.2.2]
      exact ⟨q1, q2, q3, fun j j1 j2 => by rw [kU_cell q1.2.2.2]; exact q4 j j1 j2⟩
theorem kSm.smp {E : kE} {M M1 : kM} {g : Int} {y L : Int → Int} {X : Int → Int → Int} (h : kSm E M g y L X) {x len : Int} {f : Int → Int} (hM : M1 = kU M g 1 (E.2.2 x : Int)) (hx : 11 ≤ x ∧ x < kn E ∧ x ≠ g ∧ x ≠ g + 1) (hx2 : M x (-2) = 0) (hx3 : M x (-1) = len ∧ 0 ≤ len ∧ len ≤ 40) (hx4 : ∀ j : Int, 0 ≤ j → j < len → M x j = f j) :
    kSm E M1 g (fun i => if i = 2 then x else y i) (fun i => if i = 2 then len else L i) (fun i => if i = 2 then f else X i) := by
  obtain ⟨⟨a1, a2, a3, a4, a5⟩, ⟨b1, b2, b3⟩, c1⟩ := h
  subst hM
  refine ⟨⟨a1, a2, by rw [kU_place (by omega)]; exact a3, by rw [kU_place (by omega)]; exact a4, by rw [kU_same]; rfl⟩, ⟨by rw [kU_cell (by omega)]; exact b1, by rw [kU_cell (by omega)]; exact b2, fun q h1 h2 => ?_⟩, fun i h1 h2 => ?_⟩
  · rw [kU_cell (by omega)]
    show M (g + 1) q = (E.2.2 (if q = 2 then x else y q) : Int)
    rw [if_neg (by omega)]; exact b3 q h1 h2
  · obtain ⟨q1, q2, q3, q4⟩ := c1 i h1 h2
    by_cases e : i = 2
    · simp only [if_pos e]
      rw [kU_cell hx.2.2.1, kU_cell hx.2.2.1]
      exact ⟨hx, hx2, hx3, fun j j1 j2 => by rw [kU_cell hx.2.2.1]; exact hx4 j j1 j2⟩
    · simp only [if_neg e]
      rw [kU_cell q1.2.2.1, kU_cell q1.2.2.1]
      exact ⟨q1, q2, q3, fun j j1 j2 => by rw [kU_cell q1.2.2.1]; exact q4 j j1 j2⟩
/-! the law's Rows at the cell r: its cells are r to r + 19 -/
def kRfd (k off : Int) : Prop := (k = 0 ∧ off = 1) ∨ (k = 1 ∧ off = 2) ∨ (k = 2 ∧ off = 3) ∨ (k = 3 ∧ off = 6) ∨ (k = 4 ∧ off = 9) ∨ (k = 6 ∧ off = 12) ∨ (k = 7 ∧ off = 15) ∨ (k = 8 ∧ off = 16) ∨ (k = 9 ∧ off = 19)
def kRgp (off : Int) : Prop := off = 3 ∨ off = 6 ∨ off = 9 ∨ off = 12 ∨ off = 16
def kRof (off len : Int) : Prop := (off = 1 ∧ len = 15300) ∨ ((off = 2 ∨ off = 4 ∨ off = 5 ∨ off = 7 ∨ off = 8 ∨ off = 10 ∨ off = 11) ∧ len = 1700) ∨ ((off = 13 ∨ off = 14) ∧ len = 900) ∨ ((off = 17 ∨ off = 18) ∧ len = 42) ∨ ((off = 15 ∨ off = 19) ∧ len = 2)
def kLy (E : kE) (M : kM) (r : Int) : Prop :=
  (11 ≤ r ∧ r + 19 < kn E ∧ M r (-2) = 4) ∧ (∀ k off : Int, kRfd k off → M r k = (E.2.2 (r + off) : Int)) ∧
  (∀ off : Int, kRgp off → M (r + off) (-2) = 2 ∧ M (r + off) (-1) = 2 ∧ ∀ h : Int, 0 ≤ h → h < 2 → M (r + off) h = (E.2.2 (r + (off + 1 + h)) : Int)) ∧
  ∀ off len : Int, kRof off len → M (r + off) (-2) = 0 ∧ M (r + off) (-1) = len
theorem kLy.arr {E : kE} {M : kM} {r : Int} (h : kLy E M r) {c : Int} (off len : Int) (ho : kRof off len) (hc : c = r + off) : kArr E M c len := by
  obtain ⟨a, -, -, d⟩ := h
  obtain ⟨d1, d2⟩ := d off len ho
  subst hc
  unfold kRof at ho
  exact Or.inr (Or.inr ⟨by omega, by omega, d1, d2, by omega, by omega⟩)
theorem kLy.grp {E : kE} {M : kM} {r : Int} (h : kLy E M r) {c : Int} (off : Int) (ho : kRgp off) (hc : c = r + off) : kArG E M c 2 := by
  obtain ⟨a, -, b, -⟩ := h
  obtain ⟨d1, d2, -⟩ := b off ho
  subst hc
  unfold kRgp at ho
  exact ⟨by omega, by omega, d1, d2, by omega, by omega⟩
theorem kLy.row {E : kE} {M : kM} {r : Int} (h : kLy E M r) {c x k : Int} (off : Int) (ho : kRgp off) (hc : c = r + off) (hk : 0 ≤ k ∧ k < 2) (hx : x = c + 1 + k) : M c k = (E.2.2 x : Int) := by
  obtain ⟨-, -, b, -⟩ := h
  have := (b off ho).2.2 k hk.1 hk.2
  subst hc
  rw [this, hx, show r + (off + 1 + k) = r + off + 1 + k by omega]
theorem kLy.fld {E : kE} {M : kM} {r : Int} (h : kLy E M r) {k x : Int} (off : Int) (ho : kRfd k off) (hx : x = r + off) : M r k = (E.2.2 x : Int) := by
  rw [hx]; exact h.2.1 k off ho
theorem kLy.of {E : kE} {M M1 : kM} {r : Int} (h : kLy E M r) (hM : ∀ k i : Int, r ≤ k → k ≤ r + 19 → (i < 0 ∨ (k = r ∧ i ≠ 5) ∨ kRgp (k - r)) → M1 k i = M k i) : kLy E M1 r := by
  obtain ⟨a, b, c, d⟩ := h
  refine ⟨⟨a.1, a.2.1, by rw [hM r _ (by omega) (by omega) (Or.inl (by omega))]; exact a.2.2⟩, fun k off hk => ?_, fun off ho => ?_, fun off len ho => ?_⟩
  · have h5 : k ≠ 5 := by unfold kRfd at hk; omega
    rw [hM r k (by omega) (by omega) (Or.inr (Or.inl ⟨rfl, h5⟩))]; exact b k off hk
  · obtain ⟨c1, c2, c3⟩ := c off ho
    have hr : 0 ≤ off ∧ off ≤ 19 := by unfold kRgp at ho; omega
    have hg : kRgp (r + off - r) := by rw [show r + off - r = off by omega]; exact ho
    exact ⟨by rw [hM _ _ (by omega) (by omega) (Or.inl (by omega))]; exact c1, by rw [hM _ _ (by omega) (by omega) (Or.inl (by omega))]; exact c2, fun k k1 k2 => by rw [hM _ _ (by omega) (by omega) (Or.inr (Or.inr hg))]; exact c3 k k1 k2⟩
  · obtain ⟨d1, d2⟩ := d off len ho
    have hr : 0 ≤ off ∧ off ≤ 19 := by unfold kRof at ho; omega
    exact ⟨by rw [hM _ _ (by omega) (by omega) (Or.inl (by omega))]; exact d1, by rw [hM _ _ (by omega) (by omega) (Or.inl (by omega))]; exact d2⟩
/-- a number is written into one of its rows -/
theorem kLy.put {E : kE} {M M1 : kM} {r c j v : Int} (h : kLy E M r) (hM : M1 = kU M c j v) (hj : 0 ≤ j) (off len : Int) (ho : kRof off len) (hc : c = r + off) : kLy E M1 r := by
  subst hM
  refine h.of (fun k i k1 k2 hk => ?_)
  rw [kU_at, if_neg]
  rintro ⟨q1, q2⟩
  unfold kRgp at hk
  unfold kRof at ho
  omega
theorem kLy.nod {E : kE} {M M1 : kM} {r v : Int} (h : kLy E M r) (hM : M1 = kU M r 5 v) : kLy E M1 r := by
  subst hM
  refine h.of (fun k i k1 k2 hk => ?_)
  rw [kU_at, if_neg]
  rintro ⟨q1, q2⟩
  unfold kRgp at hk
  omega
theorem kLy.ext {E E1 : kE} {M M1 : kM} {r : Int} (h : kLy E M r) (hX : kExt E E1) (hM : ∀ k i : Int, 11 ≤ k → k < kn E → M1 k i = M k i) : kLy E1 M1 r := by
  have hn := hX.2.2.1
  obtain ⟨a, b, c, d⟩ := h
  refine ⟨⟨a.1, by omega, by rw [hM r _ a.1 (by omega)]; exact a.2.2⟩, fun k off hk => ?_, fun off ho => ?_, fun off len ho => ?_⟩
  · have ho : 0 ≤ off ∧ off ≤ 19 := by unfold kRfd at hk; omega
    rw [hM r _ a.1 (by omega), hX.ad (by omega)]; exact b k off hk
  · obtain ⟨c1, c2, c3⟩ := c off ho
    have hr : 0 ≤ off ∧ off ≤ 16 := by unfold kRgp at ho; omega
    exact ⟨by rw [hM _ _ (by omega) (by omega)]; exact c1, by rw [hM _ _ (by omega) (by omega)]; exact c2, fun k k1 k2 => by rw [hM _ _ (by omega) (by omega), hX.ad (by omega)]; exact c3 k k1 k2⟩
  · obtain ⟨d1, d2⟩ := d off len ho
    have hr : 0 ≤ off ∧ off ≤ 19 := by unfold kRof at ho; omega
    exact ⟨by rw [hM _ _ (by omega) (by omega)]; exact d1, by rw [hM _ _ (by omega) (by omega)]; exact d2⟩
