/-! ===== rows of rows at once, and what the constructors of the law's objects write ===== -/
theorem kNw_hit {M : kM} {n : Int} {f : Int → Int} : kNw M n f n = f := funext (fun _ => if_pos rfl)
/-- two rows behind each other -/
def kGb (a b : Int) : Int → Int := fun i => if i = -1 then 2 else if i = -2 then 2 else if i = 0 then a else if i = 1 then b else -1
section KN
variable {p : Program} {l : Launch} {e : Env} {R : Room} {s : State} {m : MethodId} {args : Array Value} {below : List Frame} {meth : Method} {c : Code} {H H0 : Heap} {locs : List Loc} {cells slots : Nat} {Q : State → Prop}
variable {cc bytes : ByteArray} {pc : Nat} {ls : Array Slot} {rest st : List Value} {E : kE} {M : kM} {nL maxL index n mc ms : Nat} {Ts ws : List Cond} {own C : String} {y : MethodName} {ret : Option FieldType} {rm : Room} {As : List Value} {b : Nat} {A : Nat → Prop}
theorem k_newM (S : CallFix p m c cc nL s args Ts own) (hK : kK E s) (hG : kG A H0.size E) (hP : va_P E.1 vwCl (kW E M) H) (hS : va_S A H0 H locs) (hcl : (Cond.classLink own index "[[I").before args s = true) (harr : (Cond.arrayClass .int).before args s = true) {len : Int} (hlen : 0 ≤ len ∧ len ≤ 20000) (hcells : cells + 3 ≤ R.cells) (hslots : slots + (2 + 2 * len.toNat) ≤ R.slots) (hdg : decode cc pc = .ok (.multianewarray index 2, 4))
    (kk : ∀ (E1 : kE) (H1 : Heap), kExt E E1 → kn E1 = kn E + 3 → kK E1 s → kG A H0.size E1 → va_P E1.1 vwCl (kW E1 (kNw (kNw (kNw M (kn E) (kGb (E1.2.2 (kn E + 1) : Int) (E1.2.2 (kn E + 2) : Int))) (kn E + 1) (kIa len)) (kn E + 2) (kIa len))) H1 → va_S A H0 H1 locs → W p l e R s m args below meth c H1 locs (cells + 3) (slots + (2 + 2 * len.toNat)) Q (F0 m (pc + 4) ls (.ref (E1.2.2 (kn E)) :: rest))) : W p l e R s m args below meth c H locs cells slots Q (F0 m pc ls (.int (zI len) :: .int (zI 2) :: rest)) := by
  have hn := hK.2.2.2
  have neg : ∀ j : Int, 0 ≤ j → j ≤ 20000 → ¬ zI j < 0 := fun j j1 j2 q => by
    rw [zI_0, zI_lt (by omega)] at q
    omega
  have hP0 : va_P E.1 vwCl (kW E M ++ va_pl [] (fun _ => kC E M 0)) H := by
    show va_P E.1 vwCl (kW E M ++ []) H
    rw [List.append_nil]; exact hP
  have hD0 : va_D A (kW E M ++ va_pl [] (fun _ => kC E M 0)) := by
    show va_D A (kW E M ++ [])
    rw [List.append_nil]; exact hG.D M
  refine va_mna (X := kW E M) (L := []) (f := fun _ => kC E M 0) (ty := .int) (cy := kaI E) (z := (len.toNat, .inl (fun _ => zI 0))) (N' := 2) (K' := len.toNat) S.1 S.2.1 S.2.2.2.1 hcl hK.2.2.1 harr (hK.1.2 0 _ rfl).2 hK.1 hP0 hD0 hS hG.2.2 (neg 2 (by omega) (by omega)) (neg len hlen.1 hlen.2) (by rw [zI_nat (by omega)]; rfl) (by rw [zI_nat (by omega)]) (by omega) (Nat.le_trans (Nat.mul_le_mul_right _ (show len.toNat ≤ 20000 by omega)) (Nat.le_of_ble_eq_true rfl)) (by omega) rfl rfl (by omega) (by omega) (fun c => ?_) hdg (fun q r cA H1 h1 h2 hK1 hP1 hD1 hS1 => ?_)
  · show ({ cls := c, slots := Array.replicate len.toNat (.int (zI 0)), vm := .none } : Cell) = arrV c len.toNat (fun _ => .int (zI 0))
    rw [arrV_new]
  · have ec := kK_cls (k := 1) hK rfl (hK.1.2 1 _ rfl).2 hK1 (fun C q => by cases q)
    subst ec
    have el : va_pl ([] ++ (List.range 2).map r) (vr_up (fun _ => kC E M 0) ((List.range 2).map r) (.inl (kaI E, len.toNat, .inl (fun _ => zI 0)))) = [(r 0, kArI E len.toNat), (r 1, kArI E len.toNat)] := by
      have e0 : (List.range 2).map r = [r 0, r 1] := rfl
      rw [e0]
      unfold va_pl
      show [(r 0, vr_up _ [r 0, r 1] _ (r 0)), (r 1, vr_up _ [r 0, r 1] _ (r 1))] = _
      rw [vr_up_in (by simp), vr_up_in (by simp)]
    rw [el] at hP1 hD1
    -- the three cells, one behind the other
    obtain ⟨E1, hE1⟩ : ∃ E1, E1 = kX E q := ⟨_, rfl⟩
    obtain ⟨E2, hE2⟩ : ∃ E2, E2 = kX E1 (r 0) := ⟨_, rfl⟩
    obtain ⟨E3, hE3⟩ : ∃ E3, E3 = kX E2 (r 1) := ⟨_, rfl⟩
    have n1 : kn E1 = kn E + 1 := by rw [hE1]; rfl
    have n2 : kn E2 = kn E + 2 := by rw [hE2, kX_n, n1]; omega
    have n3 : kn E3 = kn E + 3 := by rw [hE3, kX_n, n2]; omega
    have x1 : kExt E E1 := by rw [hE1]; exact kX_ext E q
    have x2 : kExt E1 E2 := by rw [hE2]; exact kX_ext E1 (r 0)
    have x3 : kExt E2 E3 := by rw [hE3]; exact kX_ext E2 (r 1)
    have a0 : E3.2.2 (kn E) = q := by rw [x3.ad (by omega), x2.ad (by omega), hE1, kX_at]
    have a1 : E3.2.2 (kn E + 1) = r 0 := by rw [x3.ad (by omega), hE2, ← n1, kX_at]
    have a2 : E3.2.2 (kn E + 2) = r 1 := by rw [hE3, ← n2, kX_at]
    obtain ⟨M1, hM1⟩ : ∃ M1, M1 = kNw M (kn E) (kGb (r 0 : Int) (r 1 : Int)) := ⟨_, rfl⟩
    obtain ⟨M2, hM2⟩ : ∃ M2, M2 = kNw M1 (kn E1) (kIa len) := ⟨_, rfl⟩
    obtain ⟨M3, hM3⟩ : ∃ M3, M3 = kNw M2 (kn E2) (kIa len) := ⟨_, rfl⟩
    have k1 : kC (kX E q) M1 (kn E) = .inl (kaG E, 2, .inr (.inr (.inr (.inr (fun i => if i < 2 then some (r i) else none))))) := by
      rw [hM1, kC_G hn (by rw [kNw_hit]; rfl), kNw_hit]
      show (Sum.inl (kaG E, 2, .inr (.inr (.inr (.inr (fun j => kOr (kGb (r 0 : Int) (r 1 : Int) (j : Int))))))) : va_E) = _
      congr 7
      funext j
      unfold kGb
      rw [if_neg (by omega), if_neg (by omega)]
      by_cases j0 : j = 0
      · subst j0
        rw [if_pos (show ((0 : Nat) : Int) = 0 from rfl), if_pos (by omega), kOr_nat]
      · by_cases j1 : j = 1
        · subst j1
          rw [if_neg (by omega), if_pos (show ((1 : Nat) : Int) = 1 from rfl), if_pos (by omega), kOr_nat]
        · rw [if_neg (by omega), if_neg (by omega), if_neg (by omega)]
          rfl
    have w1 : kW E M ++ [(q, .inl (kaG E, 2, .inr (.inr (.inr (.inr (fun i => if i < 2 then some (r i) else none))))))] = kW E1 M1 := by
      rw [hE1]
      exact kW_push hn (fun c hc i => by rw [hM1]; exact kNw_ne (by omega)) k1
    have i1 : kaI E1 = kaI E := by rw [hE1]; rfl
    have i2 : kaI E2 = kaI E := by rw [hE2]; exact i1
    have w2 : kW E1 M1 ++ [(r 0, kArI E len.toNat)] = kW E2 M2 := by
      rw [hE2]
      refine kW_push (by omega) (fun c hc i => by rw [hM2]; exact kNw_ne (by omega)) ?_
      rw [hM2, kC_Ia (by omega), i1]
    have w3 : kW E2 M2 ++ [(r 1, kArI E len.toNat)] = kW E3 M3 := by
      rw [hE3]
      refine kW_push (by omega) (fun c hc i => by rw [hM3]; exact kNw_ne (by omega)) ?_
      rw [hM3, kC_Ia (by omega), i2]
    have wall : (kW E M ++ [(q, .inl (kaG E, 2, .inr (.inr (.inr (.inr (fun i => if i < 2 then some (r i) else none))))))]) ++ [(r 0, kArI E len.toNat), (r 1, kArI E len.toNat)] = kW E3 M3 := by
      rw [w1, ← w3, ← w2, List.append_assoc]; rfl
    rw [wall] at hP1 hD1
    have x : kExt E E3 := x1.tr (x2.tr x3)
    have hP2 : va_P E3.1 vwCl (kW E3 M3) H1 := by rw [x.1]; exact hP1
    have eM : M3 = kNw (kNw (kNw M (kn E) (kGb (E3.2.2 (kn E + 1) : Int) (E3.2.2 (kn E + 2) : Int))) (kn E + 1) (kIa len)) (kn E + 2) (kIa len) := by rw [hM3, hM2, hM1, n1, n2, a1, a2]
    rw [eM] at hP2
    refine W.cs (cells' := cells + 3) (slots' := slots + (2 + 2 * len.toNat)) (by omega) (by omega) ?_
    rw [← a0]
    exact kk E3 H1 x n3 (hK.ext x) (kG.of hD1 hG.2.2) hP2 hS1
/-- a final field of Rows, in its constructor -/
theorem k_putrow (S : CallFix p m c cc nL s args Ts own) (hK : kK E s) (hG : kG A H0.size E) (hP : va_P E.1 vwCl (kW E M) H) (hS : va_S A H0 H locs) (hin : ∀ w ∈ wsX30, w ∈ Ts) (hinit : meth.name = "<init>") (k : Nat) (ty : FieldType) (hk : k < 10) (hk5 : k ≠ 5) (hty : tyX3 k = ty) (hty2 : ty = .array .int ∨ ty = .array (.array .int)) {index : Nat} (hlink : (Cond.fieldLink RX3 index "HemSuffixesLaw$Rows" (TX3 k).2.1 (TX3 k).2.2.1).before args s = true) (hown : own = RX3) (hdg : decode cc pc = .ok (.putfield index, 3)) {x kz : Int} {v : Nat} (hkz : kz = (k : Int)) (hc : 11 ≤ x ∧ x < kn E ∧ M x (-2) = 4)
    (kk : ∀ (H1 : Heap) (locs1 : List Loc), va_P E.1 vwCl (kW E (kU M x kz (v : Int))) H1 → va_S A H0 H1 locs1 → W p l e R s m args below meth c H1 locs1 cells slots Q (F0 m (pc + 3) ls rest)) : W p l e R s m args below meth c H locs cells slots Q (F0 m pc ls (.ref v :: .ref (E.2.2 x) :: rest)) := by
  subst hown
  have key : ∀ e : va_E, kC E (kU M x kz (v : Int)) x = e → va_P E.1 vwCl ((kW E M).set x.toNat (E.2.2 x, e)) = va_P E.1 vwCl (kW E (kU M x kz (v : Int))) := fun e he => by rw [kW_set (by omega) he (fun k hk i => kU_cell hk)]
  have h2 : kU M x kz (v : Int) x (-2) = 4 := by rw [kU_place (by omega)]; exact hc.2.2
  match k, hk, hk5, hty, hlink, hkz with
  | 0, _, _, hty, hlink, hkz =>
    have hkz : kz = 0 := hkz
    subst hkz
    refine va_putF (v := .ref v) (ty := .array .int) (C := RX3) (T := TX3) (N := 10) (ci := 3) S.1 S.2.1 S.2.2.2.2 hin tyX3 tyX3_ok nmX3 S.2.2.2.1 hK.1 hP (hG.D M) hS x.toNat (by rw [kW_get E M (by omega), kC_Rows hc.1 hc.2.2]) rfl 0 (by decide) hlink (fun y hy => hy) rfl hinit rfl rfl rfl rfl (Nat.le_of_ble_eq_true rfl) hdg (fun H1 locs1 h1 _ h3 => kk H1 locs1 ?_ h3)
    rw [key _ (by rw [kC_Rows hc.1 h2, kU_same, kU_place (by decide), kU_place (by decide), kU_place (by decide), kU_place (by decide), kU_place (by decide), kU_place (by decide), kU_place (by decide), kU_place (by decide), kU_place (by decide), kRf_nat]; rfl)] at h1
    exact h1
  | 1, _, _, hty, hlink, hkz =>
    have hkz : kz = 1 := hkz
    subst hkz
    refine va_putF (v := .ref v) (ty := .array .int) (C := RX3) (T := TX3) (N := 10) (ci := 3) S.1 S.2.1 S.2.2.2.2 hin tyX3 tyX3_ok nmX3 S.2.2.2.1 hK.1 hP (hG.D M) hS x.toNat (by rw [kW_get E M (by omega), kC_Rows hc.1 hc.2.2]) rfl 1 (by decide) hlink (fun y hy => hy) rfl hinit rfl rfl rfl rfl (Nat.le_of_ble_eq_true rfl) hdg (fun H1 locs1 h1 _ h3 => kk H1 locs1 ?_ h3)
    rw [key _ (by rw [kC_Rows hc.1 h2, kU_same, kU_place (by decide), kU_place (by decide), kU_place (by decide), kU_place (by decide), kU_place (by decide), kU_place (by decide), kU_place (by decide), kU_place (by decide), kU_place (by decide), kRf_nat]; rfl)] at h1
    exact h1
  | 2, _, _, hty, hlink, hkz =>
    have hkz : kz = 2 := hkz
    subst hkz
    refine va_putF (v := .ref v) (ty := .array (.array .int)) (C := RX3) (T := TX3) (N := 10) (ci := 3) S.1 S.2.1 S.2.2.2.2 hin tyX3 tyX3_ok nmX3 S.2.2.2.1 hK.1 hP (hG.D M) hS x.toNat (by rw [kW_get E M (by omega), kC_Rows hc.1 hc.2.2]) rfl 2 (by decide) hlink (fun y hy => hy) rfl hinit rfl rfl rfl rfl (Nat.le_of_ble_eq_true rfl) hdg (fun H1 locs1 h1 _ h3 => kk H1 locs1 ?_ h3)
    rw [key _ (by rw [kC_Rows hc.1 h2, kU_same, kU_place (by decide), kU_place (by decide), kU_place (by decide), kU_place (by decide), kU_place (by decide), kU_place (by decide), kU_place (by decide), kU_place (by decide), kU_place (by decide), kRf_nat]; rfl)] at h1
    exact h1
  | 3, _, _, hty, hlink, hkz =>
    have hkz : kz = 3 := hkz
    subst hkz
    refine va_putF (v := .ref v) (ty := .array (.array .int)) (C := RX3) (T := TX3) (N := 10) (ci := 3) S.1 S.2.1 S.2.2.2.2 hin tyX3 tyX3_ok nmX3 S.2.2.2.1 hK.1 hP (hG.D M) hS x.toNat (by rw [kW_get E M (by omega), kC_Rows hc.1 hc.2.2]) rfl 3 (by decide) hlink (fun y hy => hy) rfl hinit rfl rfl rfl rfl (Nat.le_of_ble_eq_true rfl) hdg (fun H1 locs1 h1 _ h3 => kk H1 locs1 ?_ h3)
    rw [key _ (by rw [kC_Rows hc.1 h2, kU_same, kU_place (by decide), kU_place (by decide), kU_place (by decide), kU_place (by decide), kU_place (by decide), kU_place (by decide), kU_place (by decide), kU_place (by decide), kU_place (by decide), kRf_nat]; rfl)] at h1
    exact h1
  | 4, _, _, hty, hlink, hkz =>
    have hkz : kz = 4 := hkz
    subst hkz
    refine va_putF (v := .ref v) (ty := .array (.array .int)) (C := RX3) (T := TX3) (N := 10) (ci := 3) S.1 S.2.1 S.2.2.2.2 hin tyX3 tyX3_ok nmX3 S.2.2.2.1 hK.1 hP (hG.D M) hS x.toNat (by rw [kW_get E M (by omega), kC_Rows hc.1 hc.2.2]) rfl 4 (by decide) hlink (fun y hy => hy) rfl hinit rfl rfl rfl rfl (Nat.le_of_ble_eq_true rfl) hdg (fun H1 locs1 h1 _ h3 => kk H1 locs1 ?_ h3)
    rw [key _ (by rw [kC_Rows hc.1 h2, kU_same, kU_place (by decide), kU_place (by decide), kU_place (by decide), kU_place (by decide), kU_place (by decide), kU_place (by decide), kU_place (by decide), kU_place (by decide), kU_place (by decide), kRf_nat]; rfl)] at h1
    exact h1
  | 6, _, _, hty, hlink, hkz =>
    have hkz : kz = 6 := hkz
    subst hkz
    refine va_putF (v := .ref v) (ty := .array (.array .int)) (C := RX3) (T := TX3) (N := 10) (ci := 3) S.1 S.2.1 S.2.2.2.2 hin tyX3 tyX3_ok nmX3 S.2.2.2.1 hK.1 hP (hG.D M) hS x.toNat (by rw [kW_get E M (by omega), kC_Rows hc.1 hc.2.2]) rfl 6 (by decide) hlink (fun y hy => hy) rfl hinit rfl rfl rfl rfl (Nat.le_of_ble_eq_true rfl) hdg (fun H1 locs1 h1 _ h3 => kk H1 locs1 ?_ h3)
    rw [key _ (by rw [kC_Rows hc.1 h2, kU_same, kU_place (by decide), kU_place (by decide), kU_place (by decide), kU_place (by decide), kU_place (by decide), kU_place (by decide), kU_place (by decide), kU_place (by decide), kU_place (by decide), kRf_nat]; rfl)] at h1
    exact h1
  | 7, _, _, hty, hlink, hkz =>
    have hkz : kz = 7 := hkz
    subst hkz
    refine va_putF (v := .ref v) (ty := .array .int) (C := RX3) (T := TX3) (N := 10) (ci := 3) S.1 S.2.1 S.2.2.2.2 hin tyX3 tyX3_ok nmX3 S.2.2.2.1 hK.1 hP (hG.D M) hS x.toNat (by rw [kW_get E M (by omega), kC_Rows hc.1 hc.2.2]) rfl 7 (by decide) hlink (fun y hy => hy) rfl hinit rfl rfl rfl rfl (Nat.le_of_ble_eq_true rfl) hdg (fun H1 locs1 h1 _ h3 => kk H1 locs1 ?_ h3)
    rw [key _ (by rw [kC_Rows hc.1 h2, kU_same, kU_place (by decide), kU_place (by decide), kU_place (by decide), kU_place (by decide), kU_place (by decide), kU_place (by decide), kU_place (by decide), kU_place (by decide), kU_place (by decide), kRf_nat]; rfl)] at h1
    exact h1
  | 8, _, _, hty, hlink, hkz =>
    have hkz : kz = 8 := hkz
    subst hkz
    refine va_putF (v := .ref v) (ty := .array (.array .int)) (C := RX3) (T := TX3) (N := 10) (ci := 3) S.1 S.2.1 S.2.2.2.2 hin tyX3 tyX3_ok nmX3 S.2.2.2.1 hK.1 hP (hG.D M) hS x.toNat (by rw [kW_get E M (by omega), kC_Rows hc.1 hc.2.2]) rfl 8 (by decide) hlink (fun y hy => hy) rfl hinit rfl rfl rfl rfl (Nat.le_of_ble_eq_true rfl) hdg (fun H1 locs1 h1 _ h3 => kk H1 locs1 ?_ h3)
    rw [key _ (by rw [kC_Rows hc.1 h2, kU_same, kU_place (by decide), kU_place (by decide), kU_place (by decide), kU_place (by decide), kU_place (by decide), kU_place (by decide), kU_place (by decide), kU_place (by decide), kU_place (by decide), kRf_nat]; rfl)] at h1
    exact h1
  | 9, _, _, hty, hlink, hkz =>
    have hkz : kz = 9 := hkz
    subst hkz
    refine va_putF (v := .ref v) (ty := .array .int) (C := RX3) (T := TX3) (N := 10) (ci := 3) S.1 S.2.1 S.2.2.2.2 hin tyX3 tyX3_ok nmX3 S.2.2.2.1 hK.1 hP (hG.D M) hS x.toNat (by rw [kW_get E M (by omega), kC_Rows hc.1 hc.2.2]) rfl 9 (by decide) hlink (fun y hy => hy) rfl hinit rfl rfl rfl rfl (Nat.le_of_ble_eq_true rfl) hdg (fun H1 locs1 h1 _ h3 => kk H1 locs1 ?_ h3)
    rw [key _ (by rw [kC_Rows hc.1 h2, kU_same, kU_place (by decide), kU_place (by decide), kU_place (by decide), kU_place (by decide), kU_place (by decide), kU_place (by decide), kU_place (by decide), kU_place (by decide), kU_place (by decide), kRf_nat]; rfl)] at h1
    exact h1
/-- new objects of the law -/
theorem k_newSim (S : CallFix p m c cc nL s args Ts own) (hK : kK E s) (hG : kG A H0.size E) (hP : va_P E.1 vwCl (kW E M) H) (hS : va_S A H0 H locs) (hin : ∀ w ∈ wsX40, w ∈ Ts) (hcl : (Cond.classLink own index RX4).before args s = true) (hinst : (Cond.instantiable RX4 2).before args s = true) (hini : (Cond.initialized RX4).before args s = true) (hcells : cells + 1 ≤ R.cells) (hslots : slots + 2 ≤ R.slots) (hdg : decode cc pc = .ok (.new index, 3))
    (kk : ∀ (E1 : kE) (H1 : Heap), kExt E E1 → kn E1 = kn E + 1 → kK E1 s → kG A H0.size E1 → va_P E1.1 vwCl (kW E1 (kNw M (kn E) kSo)) H1 → va_S A H0 H1 locs → W p l e R s m args below meth c H1 locs (cells + 1) (slots + 2) Q (F0 m (pc + 3) ls (.ref (E1.2.2 (kn E)) :: rest))) : W p l e R s m args below meth c H locs cells slots Q (F0 m pc ls rest) := by
  have hn := hK.2.2.2
  refine va_new (ci := 4) (fs := [.null, .null]) (C := RX4) (T := TX4) (N := 2) S.1 S.2.1 S.2.2.2.2 hin tyX4 tyX4_ok S.2.2.2.1 hcl hinst hini hK.1 hP (hG.D M) hS hG.2.2 rfl (fun j hj => by rcases (show j = 0 ∨ j = 1 by omega) with rfl | rfl <;> rfl) hcells hslots hdg (fun q H1 hP1 hD1 hS1 => ?_)
  have hkc : kC (kX E q) (kNw M (kn E) kSo) (kn E) = .inr (4, [.null, .null]) := by
    rw [kC_Sim hn (by rw [kNw_hit]; rfl), kNw_hit]; rfl
  rw [kW_push hn (M1 := kNw M (kn E) kSo) (fun c hc i => kNw_ne (by omega)) hkc] at hP1 hD1
  have hr : (.ref q : Value) = .ref ((kX E q).2.2 (kn E)) := by rw [kX_at]
  rw [hr]
  exact kk (kX E q) H1 (kX_ext E q) rfl (hK.ext (kX_ext E q)) (kG.of hD1 hG.2.2) hP1 hS1
theorem k_newRows (S : CallFix p m c cc nL s args Ts own) (hK : kK E s) (hG : kG A H0.size E) (hP : va_P E.1 vwCl (kW E M) H) (hS : va_S A H0 H locs) (hin : ∀ w ∈ wsX30, w ∈ Ts) (hcl : (Cond.classLink own index RX3).before args s = true) (hinst : (Cond.instantiable RX3 10).before args s = true) (hini : (Cond.initialized RX3).before args s = true) (hcells : cells + 1 ≤ R.cells) (hslots : slots + 10 ≤ R.slots) (hdg : decode cc pc = .ok (.new index, 3))
    (kk : ∀ (E1 : kE) (H1 : Heap), kExt E E1 → kn E1 = kn E + 1 → kK E1 s → kG A H0.size E1 → va_P E1.1 vwCl (kW E1 (kNw M (kn E) kRo)) H1 → va_S A H0 H1 locs → W p l e R s m args below meth c H1 locs (cells + 1) (slots + 10) Q (F0 m (pc + 3) ls (.ref (E1.2.2 (kn E)) :: rest))) : W p l e R s m args below meth c H locs cells slots Q (F0 m pc ls rest) := by
  have hn := hK.2.2.2
  refine va_new (ci := 3) (fs := [.null, .null, .null, .null, .null, .int (zI 0), .null, .null, .null, .null]) (C := RX3) (T := TX3) (N := 10) S.1 S.2.1 S.2.2.2.2 hin tyX3 tyX3_ok S.2.2.2.1 hcl hinst hini hK.1 hP (hG.D M) hS hG.2.2 rfl (fun j hj => by rcases (show j = 0 ∨ j = 1 ∨ j = 2 ∨ j = 3 ∨ j = 4 ∨ j = 5 ∨ j = 6 ∨ j = 7 ∨ j = 8 ∨ j = 9 by omega) with rfl | rfl | rfl | rfl | rfl | rfl | rfl | rfl | rfl | rfl <;> rfl) hcells hslots hdg (fun q H1 hP1 hD1 hS1 => ?_)
  have hkc : kC (kX E q) (kNw M (kn E) kRo) (kn E) = .inr (3, [.null, .null, .null, .null, .null, .int (zI 0), .null, .null, .null, .null]) := by
    rw [kC_Rows hn (by rw [kNw_hit]; rfl), kNw_hit]; rfl
  rw [kW_push hn (M1 := kNw M (kn E) kRo) (fun c hc i => kNw_ne (by omega)) hkc] at hP1 hD1
  have hr : (.ref q : Value) = .ref ((kX E q).2.2 (kn E)) := by rw [kX_at]
  rw [hr]
  exact kk (kX E q) H1 (kX_ext E q) rfl (hK.ext (kX_ext E q)) (kG.of hD1 hG.2.2) hP1 hS1
end KN
