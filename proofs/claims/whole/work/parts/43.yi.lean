/-- the reference's cells, 11 to 101 -/
def kYW (E : kE) : va_W := (List.range 91).map (fun k : Nat => (E.2.2 ((k : Int) + 11), kC E (fun _ _ => 0) ((k : Int) + 11)))
def kYix (k : Nat) : Nat := if k = 0 then 0 else if k = 1 then 1 else if k = 4 then 2 else if k = 5 then 3 else if k = 6 then 4 else if k = 48 then 5 else if k = 49 then 6 else if k < 4 then k + 5 else if k < 48 then k + 2 else k
def kYad (h0 q8 q17 q25 q35 q45 q55 : Nat) (r8 r35 r55 : Nat → Nat) : Int → Nat := fun c => if c = 11 then h0 else if c = 12 then q8 else if c = 15 then q17 else if c = 16 then q25 else if c = 17 then q35 else if c = 59 then q45 else if c = 60 then q55 else if c < 15 then r8 (c - 13).toNat else if c < 59 then r35 (c - 18).toNat else r55 (c - 61).toNat
theorem k_in8 {L1 L2 : List Nat} {i : Nat} {a : Nat} (h : L1[i]? = some a) : (L1 ++ L2)[i]? = some a := by
  rw [List.getElem?_append_left (List.getElem?_eq_some_iff.mp h).1]; exact h
theorem k_inr {L1 L2 : List Nat} {n i : Nat} {a : Nat} (hn : L1.length = n) (h : L2[i]? = some a) : (L1 ++ L2)[n + i]? = some a := by
  rw [List.getElem?_append_right (by omega), show n + i - L1.length = i by omega]; exact h
theorem k_rng {n i : Nat} {r : Nat → Nat} (h : i < n) : ((List.range n).map r)[i]? = some (r i) := by
  rw [List.getElem?_map, List.getElem?_range h]; rfl
theorem k_plg {X : va_W} {L : List Nat} {f : Nat → va_E} {n i a : Nat} (hn : X.length = n) (h : L[i]? = some a) : (X ++ va_pl L f)[n + i]? = some (a, f a) := by
  rw [List.getElem?_append_right (by omega), show n + i - X.length = i by omega]
  unfold va_pl
  rw [List.getElem?_map, h]; rfl
theorem k_rmem {n i : Nat} {r : Nat → Nat} (h : i < n) : r i ∈ (List.range n).map r := List.mem_map.mpr ⟨i, List.mem_range.mpr h, rfl⟩
theorem kC_12 {E : kE} {M : kM} : kC E M 12 = .inl (E.2.1.2.1, 2, .inr (.inr (.inr (.inr (kRows E.2.2 13 2))))) := by simp [kC]
theorem kC_17 {E : kE} {M : kM} : kC E M 17 = .inl (E.2.1.2.1, 41, .inr (.inr (.inr (.inr (kRows E.2.2 18 41))))) := by simp [kC]
theorem kC_60 {E : kE} {M : kM} : kC E M 60 = .inl (E.2.1.2.1, 41, .inr (.inr (.inr (.inr (kRows E.2.2 61 41))))) := by simp [kC]
theorem k_yw0 {E : kE} {A : Nat → Prop} {H : Heap} (h0 q8 q17 q25 q35 q45 q55 : Nat) {ad : Int → Nat} {r8 r35 r55 : Nat → Nat} (n35 : ∀ i : Nat, i < 41 → r35 i ∉ [] ++ (List.range 2).map r8) (n55 : ∀ i : Nat, i < 41 → r55 i ∉ ([] ++ (List.range 2).map r8) ++ (List.range 41).map r35)
    (a11 : ad 11 = h0) (a12 : ad 12 = q8) (a15 : ad 15 = q17) (a16 : ad 16 = q25) (a17 : ad 17 = q35) (a59 : ad 59 = q45) (a60 : ad 60 = q55) (b8 : ∀ i : Nat, i < 2 → ad (13 + (i : Int)) = r8 i) (b35 : ∀ i : Nat, i < 41 → ad (18 + (i : Int)) = r35 i) (b55 : ∀ i : Nat, i < 41 → ad (61 + (i : Int)) = r55 i)
    (hP : va_P E.1 vwCl ([(h0, .inr (3, [.int (zI 0), .ref q8, .ref q17, .ref q25, .int (zI 0), .ref q35, .ref q45, .ref q55])), (q8, .inl (E.2.1.2.1, 2, .inr (.inr (.inr (.inr (fun i => if i < 2 then some (r8 i) else none)))))), (q17, kArI E 2), (q25, kArI E 12), (q35, .inl (E.2.1.2.1, 41, .inr (.inr (.inr (.inr (fun i => if i < 41 then some (r35 i) else none)))))), (q45, kArI E 40), (q55, .inl (E.2.1.2.1, 41, .inr (.inr (.inr (.inr (fun i => if i < 41 then some (r55 i) else none))))))] ++ va_pl (((([] ++ (List.range 2).map r8) ++ (List.range 41).map r35) ++ (List.range 41).map r55)) ((vr_up ((vr_up ((vr_up ((fun _ => kArI E 0)) ((List.range 2).map r8) (kArI E 40))) ((List.range 41).map r35) (kArI E 41))) ((List.range 41).map r55) (kArI E 41)))) H) (hD : va_D A ([(h0, .inr (3, [.int (zI 0), .ref q8, .ref q17, .ref q25, .int (zI 0), .ref q35, .ref q45, .ref q55])), (q8, .inl (E.2.1.2.1, 2, .inr (.inr (.inr (.inr (fun i => if i < 2 then some (r8 i) else none)))))), (q17, kArI E 2), (q25, kArI E 12), (q35, .inl (E.2.1.2.1, 41, .inr (.inr (.inr (.inr (fun i => if i < 41 then some (r35 i) else none)))))), (q45, kArI E 40), (q55, .inl (E.2.1.2.1, 41, .inr (.inr (.inr (.inr (fun i => if i < 41 then some (r55 i) else none))))))] ++ va_pl (((([] ++ (List.range 2).map r8) ++ (List.range 41).map r35) ++ (List.range 41).map r55)) ((vr_up ((vr_up ((vr_up ((fun _ => kArI E 0)) ((List.range 2).map r8) (kArI E 40))) ((List.range 41).map r35) (kArI E 41))) ((List.range 41).map r55) (kArI E 41))))) : va_P E.1 vwCl (kYW (E.1, E.2.1, ad)) H ∧ va_D A (kYW (E.1, E.2.1, ad)) := by
  have rows : ∀ (r0 : Int) (n : Nat) (r : Nat → Nat), (∀ i : Nat, i < n → ad (r0 + (i : Int)) = r i) → (fun i => if i < n then some (r i) else none) = kRows ad r0 n := by
    intro r0 n r h
    funext j
    unfold kRows
    by_cases g : j < n
    · rw [if_pos g, if_pos g, h j g]
    · rw [if_neg g, if_neg g]
  refine k_pick _ kYix (fun a b ha hb => ?_) (fun k hk => ?_) hP hD
  · have d : ∀ x : Fin 91, ∀ y : Fin 91, kYix x.1 = kYix y.1 → x.1 = y.1 := by decide +kernel
    exact d ⟨a, ha⟩ ⟨b, hb⟩
  · have hc : k = 0 ∨ k = 1 ∨ k = 4 ∨ k = 5 ∨ k = 6 ∨ k = 48 ∨ k = 49 ∨ (2 ≤ k ∧ k < 4) ∨ (7 ≤ k ∧ k < 48) ∨ (50 ≤ k ∧ k < 91) := by omega
    rcases hc with rfl | rfl | rfl | rfl | rfl | rfl | rfl | hc | hc | hc
    · show some (h0, _) = some (ad 11, kC (E.1, E.2.1, ad) (fun _ _ => 0) 11)
      rw [kC_Y, a11]
      show _ = some (h0, (Sum.inr (3, [.int (zI 0), .ref (ad 12), .ref (ad 15), .ref (ad 16), .int (zI 0), .ref (ad 17), .ref (ad 59), .ref (ad 60)]) : va_E))
      rw [a12, a15, a16, a17, a59, a60]
    · show some (q8, _) = some (ad 12, kC (E.1, E.2.1, ad) (fun _ _ => 0) 12)
      rw [kC_12, a12, rows 13 2 r8 b8]
    · show some (q17, _) = some (ad 15, kC (E.1, E.2.1, ad) (fun _ _ => 0) 15)
      rw [kC_A (n := 2) (by unfold kArr; omega), a15]
    · show some (q25, _) = some (ad 16, kC (E.1, E.2.1, ad) (fun _ _ => 0) 16)
      rw [kC_A (n := 12) (by unfold kArr; omega), a16]
    · show some (q35, _) = some (ad 17, kC (E.1, E.2.1, ad) (fun _ _ => 0) 17)
      rw [kC_17, a17, rows 18 41 r35 b35]
    · show some (q45, _) = some (ad 59, kC (E.1, E.2.1, ad) (fun _ _ => 0) 59)
      rw [kC_A (n := 40) (by unfold kArr; omega), a59]
    · show some (q55, _) = some (ad 60, kC (E.1, E.2.1, ad) (fun _ _ => 0) 60)
      rw [kC_60, a60, rows 61 41 r55 b55]
    · obtain ⟨j, rfl⟩ : ∃ j : Nat, k = 2 + j := ⟨k - 2, by omega⟩
      have hj : j < 2 := by omega
      have e : kYix (2 + j) = 7 + j := by
        rcases (show j = 0 ∨ j = 1 by omega) with rfl | rfl <;> rfl
      rw [e]
      refine (k_plg (n := 7) (i := j) (a := r8 j) rfl (k_in8 (k_in8 (k_rng hj)))).trans ?_
      rw [vr_up_ne (fun h => by
        obtain ⟨i, hi, q⟩ := List.mem_map.mp h
        exact n55 i (List.mem_range.mp hi) (by rw [q]; exact List.mem_append_left _ (k_rmem hj))), vr_up_ne (fun h => by
        obtain ⟨i, hi, q⟩ := List.mem_map.mp h
        exact n35 i (List.mem_range.mp hi) (by rw [q]; exact k_rmem hj)), vr_up_in (k_rmem hj)]
      show some (r8 j, _) = some (ad (((2 + j : Nat) : Int) + 11), kC (E.1, E.2.1, ad) (fun _ _ => 0) (((2 + j : Nat) : Int) + 11))
      rw [show ((2 + j : Nat) : Int) + 11 = 13 + (j : Int) by omega, b8 j hj, kC_A (n := 40) (by unfold kArr; omega)]
    · obtain ⟨j, rfl⟩ : ∃ j : Nat, k = 7 + j := ⟨k - 7, by omega⟩
      have hj : j < 41 := by omega
      have e : kYix (7 + j) = 7 + (2 + j) := by
        unfold kYix
        rw [if_neg (by omega), if_neg (by omega), if_neg (by omega), if_neg (by omega), if_neg (by omega), if_neg (by omega), if_neg (by omega), if_neg (by omega), if_pos (by omega)]
        omega
      rw [e]
      refine (k_plg (n := 7) (i := 2 + j) (a := r35 j) rfl (k_in8 (k_inr (by simp) (k_rng hj)))).trans ?_
      rw [vr_up_ne (fun h => by
        obtain ⟨i, hi, q⟩ := List.mem_map.mp h
        exact n55 i (List.mem_range.mp hi) (by rw [q]; exact List.mem_append_right _ (k_rmem hj))), vr_up_in (k_rmem hj)]
      show some (r35 j, _) = some (ad (((7 + j : Nat) : Int) + 11), kC (E.1, E.2.1, ad) (fun _ _ => 0) (((7 + j : Nat) : Int) + 11))
      rw [show ((7 + j : Nat) : Int) + 11 = 18 + (j : Int) by omega, b35 j hj, kC_A (n := 41) (by unfold kArr; omega)]
    · obtain ⟨j, rfl⟩ : ∃ j : Nat, k = 50 + j := ⟨k - 50, by omega⟩
      have hj : j < 41 := by omega
      have e : kYix (50 + j) = 7 + (43 + j) := by
        unfold kYix
        rw [if_neg (by omega), if_neg (by omega), if_neg (by omega), if_neg (by omega), if_neg (by omega), if_neg (by omega), if_neg (by omega), if_neg (by omega), if_neg (by omega)]
        omega
      rw [e]
      refine (k_plg (n := 7) (i := 43 + j) (a := r55 j) rfl (k_inr (by simp) (k_rng hj))).trans ?_
      rw [vr_up_in (k_rmem hj)]
      show some (r55 j, _) = some (ad (((50 + j : Nat) : Int) + 11), kC (E.1, E.2.1, ad) (fun _ _ => 0) (((50 + j : Nat) : Int) + 11))
      rw [show ((50 + j : Nat) : Int) + 11 = 61 + (j : Int) by omega, b55 j hj, kC_A (n := 41) (by unfold kArr; omega)]
theorem k_yw {E : kE} {A : Nat → Prop} {H : Heap} (h0 q8 q17 q25 q35 q45 q55 : Nat) {r8 r35 r55 : Nat → Nat} (i8 : ∀ i j : Nat, i < 2 → j < 2 → r8 i = r8 j → i = j) (n8 : ∀ i : Nat, i < 2 → r8 i ∉ ([] : List Nat)) (i35 : ∀ i j : Nat, i < 41 → j < 41 → r35 i = r35 j → i = j) (n35 : ∀ i : Nat, i < 41 → r35 i ∉ [] ++ (List.range 2).map r8) (i55 : ∀ i j : Nat, i < 41 → j < 41 → r55 i = r55 j → i = j) (n55 : ∀ i : Nat, i < 41 → r55 i ∉ ([] ++ (List.range 2).map r8) ++ (List.range 41).map r35)
    (hP : va_P E.1 vwCl ([(h0, .inr (3, [.int (zI 0), .ref q8, .ref q17, .ref q25, .int (zI 0), .ref q35, .ref q45, .ref q55])), (q8, .inl (E.2.1.2.1, 2, .inr (.inr (.inr (.inr (fun i => if i < 2 then some (r8 i) else none)))))), (q17, kArI E 2), (q25, kArI E 12), (q35, .inl (E.2.1.2.1, 41, .inr (.inr (.inr (.inr (fun i => if i < 41 then some (r35 i) else none)))))), (q45, kArI E 40), (q55, .inl (E.2.1.2.1, 41, .inr (.inr (.inr (.inr (fun i => if i < 41 then some (r55 i) else none))))))] ++ va_pl (((([] ++ (List.range 2).map r8) ++ (List.range 41).map r35) ++ (List.range 41).map r55)) ((vr_up ((vr_up ((vr_up ((fun _ => kArI E 0)) ((List.range 2).map r8) (kArI E 40))) ((List.range 41).map r35) (kArI E 41))) ((List.range 41).map r55) (kArI E 41)))) H) (hD : va_D A ([(h0, .inr (3, [.int (zI 0), .ref q8, .ref q17, .ref q25, .int (zI 0), .ref q35, .ref q45, .ref q55])), (q8, .inl (E.2.1.2.1, 2, .inr (.inr (.inr (.inr (fun i => if i < 2 then some (r8 i) else none)))))), (q17, kArI E 2), (q25, kArI E 12), (q35, .inl (E.2.1.2.1, 41, .inr (.inr (.inr (.inr (fun i => if i < 41 then some (r35 i) else none)))))), (q45, kArI E 40), (q55, .inl (E.2.1.2.1, 41, .inr (.inr (.inr (.inr (fun i => if i < 41 then some (r55 i) else none))))))] ++ va_pl (((([] ++ (List.range 2).map r8) ++ (List.range 41).map r35) ++ (List.range 41).map r55)) ((vr_up ((vr_up ((vr_up ((fun _ => kArI E 0)) ((List.range 2).map r8) (kArI E 40))) ((List.range 41).map r35) (kArI E 41))) ((List.range 41).map r55) (kArI E 41))))) : va_P E.1 vwCl (kYW (E.1, E.2.1, kYad h0 q8 q17 q25 q35 q45 q55 r8 r35 r55)) H ∧ va_D A (kYW (E.1, E.2.1, kYad h0 q8 q17 q25 q35 q45 q55 r8 r35 r55)) := by
  refine k_yw0 h0 q8 q17 q25 q35 q45 q55 n35 n55 rfl rfl rfl rfl rfl rfl rfl (fun i hi => ?_) (fun i hi => ?_) (fun i hi => ?_) hP hD
  · unfold kYad
    rw [if_neg (by omega), if_neg (by omega), if_neg (by omega), if_neg (by omega), if_neg (by omega), if_neg (by omega), if_neg (by omega), if_pos (by omega), show (13 + (i : Int) - 13).toNat = i by omega]
  · unfold kYad
    rw [if_neg (by omega), if_neg (by omega), if_neg (by omega), if_neg (by omega), if_neg (by omega), if_neg (by omega), if_neg (by omega), if_neg (by omega), if_pos (by omega), show (18 + (i : Int) - 18).toNat = i by omega]
  · unfold kYad
    rw [if_neg (by omega), if_neg (by omega), if_neg (by omega), if_neg (by omega), if_neg (by omega), if_neg (by omega), if_neg (by omega), if_neg (by omega), if_neg (by omega), show (61 + (i : Int) - 61).toNat = i by omega]
abbrev rX3_init : Room := { frames := 1, cells := 90, slots := 3580, locals := 20 }
set_option maxHeartbeats 4000000 in
set_option maxRecDepth 100000 in
theorem c_X3_init (l : Launch) (E : kE) (h0 : Nat) : kINy l yX3_init wsX3_init rX3_init 90 3580 E h0 (.inr (3, [.int (zI 0), .null, .null, .null, .int (zI 0), .null, .null, .null])) (fun w => ∃ ad : Int → Nat, ad 11 = h0 ∧ w = kYW (E.1, E.2.1, ad)) := by
  refine kINy_of (cc := cX3_init) (maxL := 1) RX3 (by decide) rfl rfl rfl (by decide) ?_
  intro p e s m args below meth c ls Q A S hP hD hS hK hAO hA hin ends hl
  have hx := S.1
  have hb := S.2.1
  have hinX30 : ∀ w ∈ wsX30, w ∈ wsX3_init := fun w h => List.mem_cons_of_mem _ (List.mem_append_right _ (h))
  have hP : va_P E.1 vwCl ([(h0, .inr (3, [.int (zI 0), .null, .null, .null, .int (zI 0), .null, .null, .null]))] ++ va_pl ([]) ((fun _ => kArI E 0))) s.heap := hP
  have hD : va_D A ([(h0, .inr (3, [.int (zI 0), .null, .null, .null, .int (zI 0), .null, .null, .null]))] ++ va_pl ([]) ((fun _ => kArI E 0))) := hD
  refine lv_aload_n hx hb dX3_init_0 rfl (lv_at hl 0 rfl) ?_
  refine W.objInit hx hb S.2.2.2.1 (S.2.2.2.2 _ (List.mem_cons_of_mem _ (List.mem_append_left _ (List.mem_of_getElem? (i := 0) rfl)))) (S.2.2.2.2 _ (List.mem_cons_of_mem _ (List.mem_append_left _ (List.mem_of_getElem? (i := 1) rfl)))) (S.2.2.2.2 _ (List.mem_cons_of_mem _ (List.mem_append_left _ (List.mem_of_getElem? (i := 2) rfl)))) rfl (by rw [S.2.2.1]; exact hl.1) rfl dX3_init_1 (Nat.le_of_ble_eq_true rfl) (Nat.le_of_ble_eq_true rfl) ?_
  refine W.eq (g2 := F0 m 4 ls []) rfl ?_
  refine lv_aload_n hx hb dX3_init_4 rfl (lv_at hl 0 rfl) ?_
  refine k_push hx hb dX3_init_5 ?_
  refine k_bpush hx hb dX3_init_6 (by decide) ?_
  refine k_newR (L := []) (f := (fun _ => kArI E 0)) S hK hAO hP hD hS hA (S.2.2.2.2 _ (List.mem_cons_of_mem _ (List.mem_append_left _ (List.mem_of_getElem? (i := 3) rfl)))) (S.2.2.2.2 _ (List.mem_cons_of_mem _ (List.mem_append_left _ (List.mem_of_getElem? (i := 4) rfl)))) (N := 2) (K := 40) ⟨by decide, by decide⟩ (Nat.le_of_ble_eq_true rfl) (Nat.le_of_ble_eq_true rfl) dX3_init_8 (fun q8 r8 H i8 n8 hP hD hS => ?_)
  have hP : va_P E.1 vwCl ([(h0, .inr (3, [.int (zI 0), .null, .null, .null, .int (zI 0), .null, .null, .null])), (q8, .inl (E.2.1.2.1, 2, .inr (.inr (.inr (.inr (fun i => if i < 2 then some (r8 i) else none))))))] ++ va_pl ([] ++ (List.range 2).map r8) (vr_up ((fun _ => kArI E 0)) ((List.range 2).map r8) (kArI E 40))) H := hP
  have hD : va_D A ([(h0, .inr (3, [.int (zI 0), .null, .null, .null, .int (zI 0), .null, .null, .null])), (q8, .inl (E.2.1.2.1, 2, .inr (.inr (.inr (.inr (fun i => if i < 2 then some (r8 i) else none))))))] ++ va_pl ([] ++ (List.range 2).map r8) (vr_up ((fun _ => kArI E 0)) ((List.range 2).map r8) (kArI E 40))) := hD
  refine va_putF (v := .ref q8) (ty := .array (.array .int)) (C := RX3) (T := TX3) (N := 8) (ci := 3) hx hb S.2.2.2.2 hinX30 tyX3 tyX3_ok nmX3 S.2.2.2.1 hK.1 hP hD hS 0 rfl rfl 1 (by decide) (S.2.2.2.2 _ (List.mem_cons_of_mem _ (List.mem_append_left _ (List.mem_of_getElem? (i := 5) rfl)))) (fun _ h9 => h9) rfl hin rfl rfl rfl rfl (Nat.le_of_ble_eq_true rfl) dX3_init_12 (fun H locs hP hD hS => ?_)
  have hP : va_P E.1 vwCl ([(h0, .inr (3, [.int (zI 0), .ref q8, .null, .null, .int (zI 0), .null, .null, .null])), (q8, .inl (E.2.1.2.1, 2, .inr (.inr (.inr (.inr (fun i => if i < 2 then some (r8 i) else none))))))] ++ va_pl (([] ++ (List.range 2).map r8)) ((vr_up ((fun _ => kArI E 0)) ((List.range 2).map r8) (kArI E 40)))) H := hP
  have hD : va_D A ([(h0, .inr (3, [.int (zI 0), .ref q8, .null, .null, .int (zI 0), .null, .null, .null])), (q8, .inl (E.2.1.2.1, 2, .inr (.inr (.inr (.inr (fun i => if i < 2 then some (r8 i) else none))))))] ++ va_pl (([] ++ (List.range 2).map r8)) ((vr_up ((fun _ => kArI E 0)) ((List.range 2).map r8) (kArI E 40)))) := hD
  refine lv_aload_n hx hb dX3_init_15 rfl (lv_at hl 0 rfl) ?_
  refine k_push hx hb dX3_init_16 ?_
  refine k_newJ (L := ([] ++ (List.range 2).map r8)) (f := (vr_up ((fun _ => kArI E 0)) ((List.range 2).map r8) (kArI E 40))) S hK hP hD hS hA (S.2.2.2.2 _ (List.mem_cons_of_mem _ (List.mem_append_left _ (List.mem_of_getElem? (i := 4) rfl)))) (N := 2) (by decide) (Nat.le_of_ble_eq_true rfl) (Nat.le_of_ble_eq_true rfl) dX3_init_17 (fun q17 H hP hD hS => ?_)
  have hP : va_P E.1 vwCl ([(h0, .inr (3, [.int (zI 0), .ref q8, .null, .null, .int (zI 0), .null, .null, .null])), (q8, .inl (E.2.1.2.1, 2, .inr (.inr (.inr (.inr (fun i => if i < 2 then some (r8 i) else none)))))), (q17, kArI E 2)] ++ va_pl (([] ++ (List.range 2).map r8)) ((vr_up ((fun _ => kArI E 0)) ((List.range 2).map r8) (kArI E 40)))) H := hP
  have hD : va_D A ([(h0, .inr (3, [.int (zI 0), .ref q8, .null, .null, .int (zI 0), .null, .null, .null])), (q8, .inl (E.2.1.2.1, 2, .inr (.inr (.inr (.inr (fun i => if i < 2 then some (r8 i) else none)))))), (q17, kArI E 2)] ++ va_pl (([] ++ (List.range 2).map r8)) ((vr_up ((fun _ => kArI E 0)) ((List.range 2).map r8) (kArI E 40)))) := hD
  refine va_putF (v := .ref q17) (ty := .array .int) (C := RX3) (T := TX3) (N := 8) (ci := 3) hx hb S.2.2.2.2 hinX30 tyX3 tyX3_ok nmX3 S.2.2.2.1 hK.1 hP hD hS 0 rfl rfl 2 (by decide) (S.2.2.2.2 _ (List.mem_cons_of_mem _ (List.mem_append_left _ (List.mem_of_getElem? (i := 6) rfl)))) (fun _ h9 => h9) rfl hin rfl rfl rfl rfl (Nat.le_of_ble_eq_true rfl) dX3_init_19 (fun H locs hP hD hS => ?_)
  have hP : va_P E.1 vwCl ([(h0, .inr (3, [.int (zI 0), .ref q8, .ref q17, .null, .int (zI 0), .null, .null, .null])), (q8, .inl (E.2.1.2.1, 2, .inr (.inr (.inr (.inr (fun i => if i < 2 then some (r8 i) else none)))))), (q17, kArI E 2)] ++ va_pl (([] ++ (List.range 2).map r8)) ((vr_up ((fun _ => kArI E 0)) ((List.range 2).map r8) (kArI E 40)))) H := hP
  have hD : va_D A ([(h0, .inr (3, [.int (zI 0), .ref q8, .ref q17, .null, .int (zI 0), .null, .null, .null])), (q8, .inl (E.2.1.2.1, 2, .inr (.inr (.inr (.inr (fun i => if i < 2 then some (r8 i) else none)))))), (q17, kArI E 2)] ++ va_pl (([] ++ (List.range 2).map r8)) ((vr_up ((fun _ => kArI E 0)) ((List.range 2).map r8) (kArI E 40)))) := hD
  refine lv_aload_n hx hb dX3_init_22 rfl (lv_at hl 0 rfl) ?_
  refine k_bpush hx hb dX3_init_23 (by decide) ?_
  refine k_newJ (L := ([] ++ (List.range 2).map r8)) (f := (vr_up ((fun _ => kArI E 0)) ((List.range 2).map r8) (kArI E 40))) S hK hP hD hS hA (S.2.2.2.2 _ (List.mem_cons_of_mem _ (List.mem_append_left _ (List.mem_of_getElem? (i := 4) rfl)))) (N := 12) (by decide) (Nat.le_of_ble_eq_true rfl) (Nat.le_of_ble_eq_true rfl) dX3_init_25 (fun q25 H hP hD hS => ?_)
  have hP : va_P E.1 vwCl ([(h0, .inr (3, [.int (zI 0), .ref q8, .ref q17, .null, .int (zI 0), .null, .null, .null])), (q8, .inl (E.2.1.2.1, 2, .inr (.inr (.inr (.inr (fun i => if i < 2 then some (r8 i) else none)))))), (q17, kArI E 2), (q25, kArI E 12)] ++ va_pl (([] ++ (List.range 2).map r8)) ((vr_up ((fun _ => kArI E 0)) ((List.range 2).map r8) (kArI E 40)))) H := hP
  have hD : va_D A ([(h0, .inr (3, [.int (zI 0), .ref q8, .ref q17, .null, .int (zI 0), .null, .null, .null])), (q8, .inl (E.2.1.2.1, 2, .inr (.inr (.inr (.inr (fun i => if i < 2 then some (r8 i) else none)))))), (q17, kArI E 2), (q25, kArI E 12)] ++ va_pl (([] ++ (List.range 2).map r8)) ((vr_up ((fun _ => kArI E 0)) ((List.range 2).map r8) (kArI E 40)))) := hD
  refine va_putF (v := .ref q25) (ty := .array .int) (C := RX3) (T := TX3) (N := 8) (ci := 3) hx hb S.2.2.2.2 hinX30 tyX3 tyX3_ok nmX3 S.2.2.2.1 hK.1 hP hD hS 0 rfl rfl 3 (by decide) (S.2.2.2.2 _ (List.mem_cons_of_mem _ (List.mem_append_left _ (List.mem_of_getElem? (i := 7) rfl)))) (fun _ h9 => h9) rfl hin rfl rfl rfl rfl (Nat.le_of_ble_eq_true rfl) dX3_init_27 (fun H locs hP hD hS => ?_)
  have hP : va_P E.1 vwCl ([(h0, .inr (3, [.int (zI 0), .ref q8, .ref q17, .ref q25, .int (zI 0), .null, .null, .null])), (q8, .inl (E.2.1.2.1, 2, .inr (.inr (.inr (.inr (fun i => if i < 2 then some (r8 i) else none)))))), (q17, kArI E 2), (q25, kArI E 12)] ++ va_pl (([] ++ (List.range 2).map r8)) ((vr_up ((fun _ => kArI E 0)) ((List.range 2).map r8) (kArI E 40)))) H := hP
  have hD : va_D A ([(h0, .inr (3, [.int (zI 0), .ref q8, .ref q17, .ref q25, .int (zI 0), .null, .null, .null])), (q8, .inl (E.2.1.2.1, 2, .inr (.inr (.inr (.inr (fun i => if i < 2 then some (r8 i) else none)))))), (q17, kArI E 2), (q25, kArI E 12)] ++ va_pl (([] ++ (List.range 2).map r8)) ((vr_up ((fun _ => kArI E 0)) ((List.range 2).map r8) (kArI E 40)))) := hD
  refine lv_aload_n hx hb dX3_init_30 rfl (lv_at hl 0 rfl) ?_
  refine k_bpush hx hb dX3_init_31 (by decide) ?_
  refine k_bpush hx hb dX3_init_33 (by decide) ?_
  refine k_newR (L := ([] ++ (List.range 2).map r8)) (f := (vr_up ((fun _ => kArI E 0)) ((List.range 2).map r8) (kArI E 40))) S hK hAO hP hD hS hA (S.2.2.2.2 _ (List.mem_cons_of_mem _ (List.mem_append_left _ (List.mem_of_getElem? (i := 3) rfl)))) (S.2.2.2.2 _ (List.mem_cons_of_mem _ (List.mem_append_left _ (List.mem_of_getElem? (i := 4) rfl)))) (N := 41) (K := 41) ⟨by decide, by decide⟩ (Nat.le_of_ble_eq_true rfl) (Nat.le_of_ble_eq_true rfl) dX3_init_35 (fun q35 r35 H i35 n35 hP hD hS => ?_)
  have hP : va_P E.1 vwCl ([(h0, .inr (3, [.int (zI 0), .ref q8, .ref q17, .ref q25, .int (zI 0), .null, .null, .null])), (q8, .inl (E.2.1.2.1, 2, .inr (.inr (.inr (.inr (fun i => if i < 2 then some (r8 i) else none)))))), (q17, kArI E 2), (q25, kArI E 12), (q35, .inl (E.2.1.2.1, 41, .inr (.inr (.inr (.inr (fun i => if i < 41 then some (r35 i) else none))))))] ++ va_pl (([] ++ (List.range 2).map r8) ++ (List.range 41).map r35) (vr_up ((vr_up ((fun _ => kArI E 0)) ((List.range 2).map r8) (kArI E 40))) ((List.range 41).map r35) (kArI E 41))) H := hP
  have hD : va_D A ([(h0, .inr (3, [.int (zI 0), .ref q8, .ref q17, .ref q25, .int (zI 0), .null, .null, .null])), (q8, .inl (E.2.1.2.1, 2, .inr (.inr (.inr (.inr (fun i => if i < 2 then some (r8 i) else none)))))), (q17, kArI E 2), (q25, kArI E 12), (q35, .inl (E.2.1.2.1, 41, .inr (.inr (.inr (.inr (fun i => if i < 41 then some (r35 i) else none))))))] ++ va_pl (([] ++ (List.range 2).map r8) ++ (List.range 41).map r35) (vr_up ((vr_up ((fun _ => kArI E 0)) ((List.range 2).map r8) (kArI E 40))) ((List.range 41).map r35) (kArI E 41))) := hD
  refine va_putF (v := .ref q35) (ty := .array (.array .int)) (C := RX3) (T := TX3) (N := 8) (ci := 3) hx hb S.2.2.2.2 hinX30 tyX3 tyX3_ok nmX3 S.2.2.2.1 hK.1 hP hD hS 0 rfl rfl 5 (by decide) (S.2.2.2.2 _ (List.mem_cons_of_mem _ (List.mem_append_left _ (List.mem_of_getElem? (i := 8) rfl)))) (fun _ h9 => h9) rfl hin rfl rfl rfl rfl (Nat.le_of_ble_eq_true rfl) dX3_init_39 (fun H locs hP hD hS => ?_)
  have hP : va_P E.1 vwCl ([(h0, .inr (3, [.int (zI 0), .ref q8, .ref q17, .ref q25, .int (zI 0), .ref q35, .null, .null])), (q8, .inl (E.2.1.2.1, 2, .inr (.inr (.inr (.inr (fun i => if i < 2 then some (r8 i) else none)))))), (q17, kArI E 2), (q25, kArI E 12), (q35, .inl (E.2.1.2.1, 41, .inr (.inr (.inr (.inr (fun i => if i < 41 then some (r35 i) else none))))))] ++ va_pl ((([] ++ (List.range 2).map r8) ++ (List.range 41).map r35)) ((vr_up ((vr_up ((fun _ => kArI E 0)) ((List.range 2).map r8) (kArI E 40))) ((List.range 41).map r35) (kArI E 41)))) H := hP
  have hD : va_D A ([(h0, .inr (3, [.int (zI 0), .ref q8, .ref q17, .ref q25, .int (zI 0), .ref q35, .null, .null])), (q8, .inl (E.2.1.2.1, 2, .inr (.inr (.inr (.inr (fun i => if i < 2 then some (r8 i) else none)))))), (q17, kArI E 2), (q25, kArI E 12), (q35, .inl (E.2.1.2.1, 41, .inr (.inr (.inr (.inr (fun i => if i < 41 then some (r35 i) else none))))))] ++ va_pl ((([] ++ (List.range 2).map r8) ++ (List.range 41).map r35)) ((vr_up ((vr_up ((fun _ => kArI E 0)) ((List.range 2).map r8) (kArI E 40))) ((List.range 41).map r35) (kArI E 41)))) := hD
  refine lv_aload_n hx hb dX3_init_42 rfl (lv_at hl 0 rfl) ?_
  refine k_bpush hx hb dX3_init_43 (by decide) ?_
  refine k_newJ (L := (([] ++ (List.range 2).map r8) ++ (List.range 41).map r35)) (f := (vr_up ((vr_up ((fun _ => kArI E 0)) ((List.range 2).map r8) (kArI E 40))) ((List.range 41).map r35) (kArI E 41))) S hK hP hD hS hA (S.2.2.2.2 _ (List.mem_cons_of_mem _ (List.mem_append_left _ (List.mem_of_getElem? (i := 4) rfl)))) (N := 40) (by decide) (Nat.le_of_ble_eq_true rfl) (Nat.le_of_ble_eq_true rfl) dX3_init_45 (fun q45 H hP hD hS => ?_)
  have hP : va_P E.1 vwCl ([(h0, .inr (3, [.int (zI 0), .ref q8, .ref q17, .ref q25, .int (zI 0), .ref q35, .null, .null])), (q8, .inl (E.2.1.2.1, 2, .inr (.inr (.inr (.inr (fun i => if i < 2 then some (r8 i) else none)))))), (q17, kArI E 2), (q25, kArI E 12), (q35, .inl (E.2.1.2.1, 41, .inr (.inr (.inr (.inr (fun i => if i < 41 then some (r35 i) else none)))))), (q45, kArI E 40)] ++ va_pl ((([] ++ (List.range 2).map r8) ++ (List.range 41).map r35)) ((vr_up ((vr_up ((fun _ => kArI E 0)) ((List.range 2).map r8) (kArI E 40))) ((List.range 41).map r35) (kArI E 41)))) H := hP
  have hD : va_D A ([(h0, .inr (3, [.int (zI 0), .ref q8, .ref q17, .ref q25, .int (zI 0), .ref q35, .null, .null])), (q8, .inl (E.2.1.2.1, 2, .inr (.inr (.inr (.inr (fun i => if i < 2 then some (r8 i) else none)))))), (q17, kArI E 2), (q25, kArI E 12), (q35, .inl (E.2.1.2.1, 41, .inr (.inr (.inr (.inr (fun i => if i < 41 then some (r35 i) else none)))))), (q45, kArI E 40)] ++ va_pl ((([] ++ (List.range 2).map r8) ++ (List.range 41).map r35)) ((vr_up ((vr_up ((fun _ => kArI E 0)) ((List.range 2).map r8) (kArI E 40))) ((List.range 41).map r35) (kArI E 41)))) := hD
  refine va_putF (v := .ref q45) (ty := .array .int) (C := RX3) (T := TX3) (N := 8) (ci := 3) hx hb S.2.2.2.2 hinX30 tyX3 tyX3_ok nmX3 S.2.2.2.1 hK.1 hP hD hS 0 rfl rfl 6 (by decide) (S.2.2.2.2 _ (List.mem_cons_of_mem _ (List.mem_append_left _ (List.mem_of_getElem? (i := 9) rfl)))) (fun _ h9 => h9) rfl hin rfl rfl rfl rfl (Nat.le_of_ble_eq_true rfl) dX3_init_47 (fun H locs hP hD hS => ?_)
  have hP : va_P E.1 vwCl ([(h0, .inr (3, [.int (zI 0), .ref q8, .ref q17, .ref q25, .int (zI 0), .ref q35, .ref q45, .null])), (q8, .inl (E.2.1.2.1, 2, .inr (.inr (.inr (.inr (fun i => if i < 2 then some (r8 i) else none)))))), (q17, kArI E 2), (q25, kArI E 12), (q35, .inl (E.2.1.2.1, 41, .inr (.inr (.inr (.inr (fun i => if i < 41 then some (r35 i) else none)))))), (q45, kArI E 40)] ++ va_pl ((([] ++ (List.range 2).map r8) ++ (List.range 41).map r35)) ((vr_up ((vr_up ((fun _ => kArI E 0)) ((List.range 2).map r8) (kArI E 40))) ((List.range 41).map r35) (kArI E 41)))) H := hP
  have hD : va_D A ([(h0, .inr (3, [.int (zI 0), .ref q8, .ref q17, .ref q25, .int (zI 0), .ref q35, .ref q45, .null])), (q8, .inl (E.2.1.2.1, 2, .inr (.inr (.inr (.inr (fun i => if i < 2 then some (r8 i) else none)))))), (q17, kArI E 2), (q25, kArI E 12), (q35, .inl (E.2.1.2.1, 41, .inr (.inr (.inr (.inr (fun i => if i < 41 then some (r35 i) else none)))))), (q45, kArI E 40)] ++ va_pl ((([] ++ (List.range 2).map r8) ++ (List.range 41).map r35)) ((vr_up ((vr_up ((fun _ => kArI E 0)) ((List.range 2).map r8) (kArI E 40))) ((List.range 41).map r35) (kArI E 41)))) := hD
  refine lv_aload_n hx hb dX3_init_50 rfl (lv_at hl 0 rfl) ?_
  refine k_bpush hx hb dX3_init_51 (by decide) ?_
  refine k_bpush hx hb dX3_init_53 (by decide) ?_
  refine k_newR (L := (([] ++ (List.range 2).map r8) ++ (List.range 41).map r35)) (f := (vr_up ((vr_up ((fun _ => kArI E 0)) ((List.range 2).map r8) (kArI E 40))) ((List.range 41).map r35) (kArI E 41))) S hK hAO hP hD hS hA (S.2.2.2.2 _ (List.mem_cons_of_mem _ (List.mem_append_left _ (List.mem_of_getElem? (i := 3) rfl)))) (S.2.2.2.2 _ (List.mem_cons_of_mem _ (List.mem_append_left _ (List.mem_of_getElem? (i := 4) rfl)))) (N := 41) (K := 41) ⟨by decide, by decide⟩ (Nat.le_of_ble_eq_true rfl) (Nat.le_of_ble_eq_true rfl) dX3_init_55 (fun q55 r55 H i55 n55 hP hD hS => ?_)
  have hP : va_P E.1 vwCl ([(h0, .inr (3, [.int (zI 0), .ref q8, .ref q17, .ref q25, .int (zI 0), .ref q35, .ref q45, .null])), (q8, .inl (E.2.1.2.1, 2, .inr (.inr (.inr (.inr (fun i => if i < 2 then some (r8 i) else none)))))), (q17, kArI E 2), (q25, kArI E 12), (q35, .inl (E.2.1.2.1, 41, .inr (.inr (.inr (.inr (fun i => if i < 41 then some (r35 i) else none)))))), (q45, kArI E 40), (q55, .inl (E.2.1.2.1, 41, .inr (.inr (.inr (.inr (fun i => if i < 41 then some (r55 i) else none))))))] ++ va_pl ((([] ++ (List.range 2).map r8) ++ (List.range 41).map r35) ++ (List.range 41).map r55) (vr_up ((vr_up ((vr_up ((fun _ => kArI E 0)) ((List.range 2).map r8) (kArI E 40))) ((List.range 41).map r35) (kArI E 41))) ((List.range 41).map r55) (kArI E 41))) H := hP
  have hD : va_D A ([(h0, .inr (3, [.int (zI 0), .ref q8, .ref q17, .ref q25, .int (zI 0), .ref q35, .ref q45, .null])), (q8, .inl (E.2.1.2.1, 2, .inr (.inr (.inr (.inr (fun i => if i < 2 then some (r8 i) else none)))))), (q17, kArI E 2), (q25, kArI E 12), (q35, .inl (E.2.1.2.1, 41, .inr (.inr (.inr (.inr (fun i => if i < 41 then some (r35 i) else none)))))), (q45, kArI E 40), (q55, .inl (E.2.1.2.1, 41, .inr (.inr (.inr (.inr (fun i => if i < 41 then some (r55 i) else none))))))] ++ va_pl ((([] ++ (List.range 2).map r8) ++ (List.range 41).map r35) ++ (List.range 41).map r55) (vr_up ((vr_up ((vr_up ((fun _ => kArI E 0)) ((List.range 2).map r8) (kArI E 40))) ((List.range 41).map r35) (kArI E 41))) ((List.range 41).map r55) (kArI E 41))) := hD
  refine va_putF (v := .ref q55) (ty := .array (.array .int)) (C := RX3) (T := TX3) (N := 8) (ci := 3) hx hb S.2.2.2.2 hinX30 tyX3 tyX3_ok nmX3 S.2.2.2.1 hK.1 hP hD hS 0 rfl rfl 7 (by decide) (S.2.2.2.2 _ (List.mem_cons_of_mem _ (List.mem_append_left _ (List.mem_of_getElem? (i := 10) rfl)))) (fun _ h9 => h9) rfl hin rfl rfl rfl rfl (Nat.le_of_ble_eq_true rfl) dX3_init_59 (fun H locs hP hD hS => ?_)
  have hP : va_P E.1 vwCl ([(h0, .inr (3, [.int (zI 0), .ref q8, .ref q17, .ref q25, .int (zI 0), .ref q35, .ref q45, .ref q55])), (q8, .inl (E.2.1.2.1, 2, .inr (.inr (.inr (.inr (fun i => if i < 2 then some (r8 i) else none)))))), (q17, kArI E 2), (q25, kArI E 12), (q35, .inl (E.2.1.2.1, 41, .inr (.inr (.inr (.inr (fun i => if i < 41 then some (r35 i) else none)))))), (q45, kArI E 40), (q55, .inl (E.2.1.2.1, 41, .inr (.inr (.inr (.inr (fun i => if i < 41 then some (r55 i) else none))))))] ++ va_pl (((([] ++ (List.range 2).map r8) ++ (List.range 41).map r35) ++ (List.range 41).map r55)) ((vr_up ((vr_up ((vr_up ((fun _ => kArI E 0)) ((List.range 2).map r8) (kArI E 40))) ((List.range 41).map r35) (kArI E 41))) ((List.range 41).map r55) (kArI E 41)))) H := hP
  have hD : va_D A ([(h0, .inr (3, [.int (zI 0), .ref q8, .ref q17, .ref q25, .int (zI 0), .ref q35, .ref q45, .ref q55])), (q8, .inl (E.2.1.2.1, 2, .inr (.inr (.inr (.inr (fun i => if i < 2 then some (r8 i) else none)))))), (q17, kArI E 2), (q25, kArI E 12), (q35, .inl (E.2.1.2.1, 41, .inr (.inr (.inr (.inr (fun i => if i < 41 then some (r35 i) else none)))))), (q45, kArI E 40), (q55, .inl (E.2.1.2.1, 41, .inr (.inr (.inr (.inr (fun i => if i < 41 then some (r55 i) else none))))))] ++ va_pl (((([] ++ (List.range 2).map r8) ++ (List.range 41).map r35) ++ (List.range 41).map r55)) ((vr_up ((vr_up ((vr_up ((fun _ => kArI E 0)) ((List.range 2).map r8) (kArI E 40))) ((List.range 41).map r35) (kArI E 41))) ((List.range 41).map r55) (kArI E 41)))) := hD
  obtain ⟨g1, g2⟩ := k_yw h0 q8 q17 q25 q35 q45 q55 i8 n8 i35 n35 i55 n55 hP hD
  exact ends _ _ _ _ _ dX3_init_62 g1 g2 hS ⟨_, rfl, rfl⟩
