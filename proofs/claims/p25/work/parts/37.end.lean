set_option maxHeartbeats 4000000 in
set_option maxRecDepth 100000 in
theorem s_same_end {pg : Program} {l : Launch} {en : Env} {s0 : State} {mi : MethodId} {ar : Array Value} {bl : List Frame} {me : Method} {co : Code} {ls : Array Slot} {Q : State → Prop} {H : Heap} {locs : List Loc} {E0 E : kE} {M N : kM} {g r sum pairs h : Int} {y : Int → Int} (hI : kI0 M) (hV : kVw E0 E M N g r y) (hsum : sum = kSS M 0 + kSS M 1) (hpr : pairs = kPr (M 0 1) + kPr (M 1 1)) (S : CallFix pg mi co cX4_isSame 11 s0 ar wsX4_isSame RX4) (hP : va_P E.1 vwCl (kW E N) H) (hK : kK E s0) (hS : va_S (kA E0 s0.heap.size) s0.heap H locs) (hG : kG (kA E0 s0.heap.size) s0.heap.size E)
    (ends : ∀ (pc : Nat) (ls : Array Slot) (d1 : Drawn) (H : Heap) (locs : List Loc), decode cX4_isSame pc = .ok (.ireturn, 1) → s0.drawn.sameBut d1 lw_cs → va_S (kA E0 s0.heap.size) s0.heap H locs → W pg l en rX4_isSame (s0.setDrawn d1) mi ar bl me co H locs 28 29287 Q (F0 mi pc ls [.int (zI 1)]))
    (hl : lv_has ls 11 [(5, .int (zI sum)), (6, .int (zI pairs)), (7, .int (zI h)), (0, .ref (E.2.2 g)), (1, .ref (E.2.2 10)), (2, .ref (E.2.2 r))]) : W pg l en rX4_isSame s0 mi ar bl me co H locs 28 29287 Q (F0 mi 392 ls []) := by
  have hx := S.1
  have hb := S.2.1
  have hd0 : s0.drawn.sameBut s0.drawn lw_cs := Drawn.sameBut.refl s0.drawn lw_cs
  have hIN := hV.1.I0 hI
  have hn0 := hI.1 0 (by omega)
  have hn1 := hI.1 1 (by omega)
  have hpr1 : 0 ≤ kPr (M 0 1) ∧ kPr (M 0 1) ≤ 40 := by unfold kPr; split <;> omega
  have hpr2 : 0 ≤ kPr (M 1 1) ∧ kPr (M 1 1) ≤ 40 := by unfold kPr; split <;> omega
  refine W.base ?_
  refine lv_aload_n hx hb dX4_isSame_392 rfl (lv_at hl 4 rfl) ?_
  refine k_callMDG (As := []) (rest := []) hd0 (S.drawn _) hK hG hP hS (c_X2_mean l E hG.1 N hIN.1 hIN.2.1) (cwV 0 (S.drawn _).2.2.2.2 gX4_isSame_X2_mean rfl rfl rfl (by decide +kernel) ⟨Nat.le_of_ble_eq_true rfl, Nat.le_of_ble_eq_true rfl⟩) (k_rX hK hP rfl) rfl hl.1 rfl (Nat.le_of_ble_eq_true rfl) dX4_isSame_393 ⟨Nat.le_of_ble_eq_true rfl, Nat.le_of_ble_eq_true rfl⟩ (fun r1 M1 H locs d1 hd1 h1 hP hS => ?_)
  obtain ⟨rfl, hm⟩ := h1
  rw [hV.1.fn (c := 3) (by omega), hV.1.fn (c := 4) (by omega), hV.1.fn (c := 0) (by omega), hV.1.fn (c := 1) (by omega)] at hm
  have hm2 := kIsMean_num hm ⟨by omega, by omega⟩ (hI.2.1 0 (by omega)) (hI.2.1 1 (by omega))
  have e1 : r1 = kMean sum pairs := by rw [hsum, hpr]; exact hm2.1
  have hv := hm2.2
  refine lv_iload hx hb dX4_isSame_396 (lv_at hl 1 rfl) ?_
  have key : W pg l en rX4_isSame (s0.setDrawn d1) mi ar bl me co H locs 28 29287 Q (F0 mi 412 ls [.double r1, .double r1]) := by
    refine lv_dcmp hx hb dX4_isSame_412 ?_
    rw [kDcmp_self hv]
    refine k_ne0 (tgt := 420) hx hb dX4_isSame_413 (by decide) (by omega) (fun c => absurd rfl c) (fun _ => ?_)
    refine k_push hx hb dX4_isSame_416 ?_
    refine lv_goto (tgt := 421) hx hb dX4_isSame_417 (by decide) ?_
    exact ends _ _ d1 _ _ dX4_isSame_421 hd1 hS
  refine k_ne0 (tgt := 405) hx hb dX4_isSame_398 (by decide) (by omega) (fun c => ?_) (fun c => ?_)
  · have e2 : r1 = FP.ddiv (FP.i2d (zI sum)) (FP.i2d (zI pairs)) := by rw [e1]; unfold kMean; rw [if_neg c]
    refine lv_iload hx hb dX4_isSame_405 (lv_at hl 0 rfl) ?_
    refine lv_i2d hx hb dX4_isSame_407 ?_
    refine lv_iload hx hb dX4_isSame_408 (lv_at hl 1 rfl) ?_
    refine lv_i2d hx hb dX4_isSame_410 ?_
    refine lv_ddiv hx hb dX4_isSame_411 (kN64 (by rw [← e2]; exact hv)) ?_
    rw [← e2]
    exact key
  · have e2 : r1 = FP.dconst0 := by rw [e1]; unfold kMean; rw [if_pos (by omega)]
    refine lv_dconst0 hx hb dX4_isSame_401 ?_
    refine lv_goto (tgt := 412) hx hb dX4_isSame_402 (by decide) ?_
    rw [← e2]
    exact key
