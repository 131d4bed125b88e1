set_option maxHeartbeats 4000000 in
set_option maxRecDepth 100000 in
theorem s_law_mean {pg : Program} {l : Launch} {en : Env} {s : State} {mi : MethodId} {ar : Array Value} {bl : List Frame} {me : Method} {co : Code} {ls : Array Slot} {Q : State → Prop} {H : Heap} {locs : List Loc} {E0 E1 E : kE} {M N : kM} {g x time dg u w : Int} {y : Int → Int} {bs cells slots : Nat} {d0 : Drawn} (hd0 : s.drawn.sameBut d0 lw_cs) (hI : kI0 M) (hV : kVs E1 E M N g y) (hu : u = kSS M 0 + kSS M 1) (hw : w = kPr (M 0 1) + kPr (M 1 1)) (Sd : ∀ d : Drawn, CallFix pg mi co cL_law 23 (s.setDrawn d) ar wsL_law RL) (hP : va_P E.1 vwCl (kW E N) H) (hK : kK E s) (hS : va_S (kA E0 s.heap.size) s.heap H locs) (hG : kG (kA E0 s.heap.size) s.heap.size E) (hcs0 : cells ≤ 600130 ∧ slots ≤ 7301080)
    (next : ∀ (d1 : Drawn) (H : Heap) (locs : List Loc), s.drawn.sameBut d1 lw_cs → va_P E.1 vwCl (kW E N) H → va_S (kA E0 s.heap.size) s.heap H locs → W pg l en room_1 (s.setDrawn d1) mi ar bl me co H locs cells slots Q (F0 mi 1110 ls []))
    (hl : lv_has ls 23 [(0, .ref bs), (1, .ref (E.2.2 10)), (2, .ref (E.2.2 g)), (3, .int (zI time)), (4, .int (zI x)), (5, .long (lI dg)), (7, .int (zI u)), (8, .int (zI w))]) : W pg l en room_1 (s.setDrawn d0) mi ar bl me co H locs cells slots Q (F0 mi 1084 ls []) := by
  have hx := (Sd d0).1
  have hb := (Sd d0).2.1
  have hIN := hV.I0 hI
  have hn0 := hI.1 0 (by omega)
  have hn1 := hI.1 1 (by omega)
  have hpr1 : 0 ≤ kPr (M 0 1) ∧ kPr (M 0 1) ≤ 40 := by unfold kPr; split <;> omega
  have hpr2 : 0 ≤ kPr (M 1 1) ∧ kPr (M 1 1) ≤ 40 := by unfold kPr; split <;> omega
  refine lv_aload_n hx hb dL_law_1084 rfl (lv_at hl 1 rfl) ?_
  refine k_callMDG (As := []) (rest := []) hd0 (Sd d0) hK hG hP hS (c_X2_mean l E hG.1 N hIN.1 hIN.2.1) (cwV 0 (Sd d0).2.2.2.2 gL_law_X2_mean rfl rfl rfl (by decide +kernel) ⟨Nat.le_of_ble_eq_true rfl, Nat.le_of_ble_eq_true rfl⟩) (k_rX hK hP rfl) rfl hl.1 rfl (Nat.le_of_ble_eq_true rfl) dL_law_1085 ⟨by show _ ≤ (600130 : Nat); omega, by show _ ≤ (7301080 : Nat); omega⟩ (fun r1 M1 H locs d1 hd1 h1 hP9 hS9 => ?_)
  obtain ⟨rfl, hm⟩ := h1
  rw [hV.fn (c := 3) (by omega), hV.fn (c := 4) (by omega), hV.fn (c := 0) (by omega), hV.fn (c := 1) (by omega)] at hm
  have hm2 := kIsMean_num hm ⟨by omega, by omega⟩ (hI.2.1 0 (by omega)) (hI.2.1 1 (by omega))
  have e1 : r1 = kMean u w := by rw [hu, hw]; exact hm2.1
  have hv := hm2.2
  refine lv_iload hx hb dL_law_1088 (lv_at hl 7 rfl) ?_
  have key : W pg l en room_1 (s.setDrawn d1) mi ar bl me co H locs cells slots Q (F0 mi 1104 ls [.double r1, .double r1]) := by
    refine lv_dcmp hx hb dL_law_1104 ?_
    rw [kDcmp_self hv]
    refine k_eq0 (tgt := 1110) hx hb dL_law_1105 (by decide) (by omega) (fun _ => ?_) (fun c => absurd rfl c)
    exact next d1 H locs hd1 hP9 hS9
  refine k_ne0 (tgt := 1097) hx hb dL_law_1090 (by decide) (by omega) (fun c => ?_) (fun c => ?_)
  · have e2 : r1 = FP.ddiv (FP.i2d (zI u)) (FP.i2d (zI w)) := by rw [e1]; unfold kMean; rw [if_neg c]
    refine lv_iload hx hb dL_law_1097 (lv_at hl 6 rfl) ?_
    refine lv_i2d hx hb dL_law_1099 ?_
    refine lv_iload hx hb dL_law_1100 (lv_at hl 7 rfl) ?_
    refine lv_i2d hx hb dL_law_1102 ?_
    refine lv_ddiv hx hb dL_law_1103 (kN64 (by rw [← e2]; exact hv)) ?_
    rw [← e2]
    exact key
  · have e2 : r1 = FP.dconst0 := by rw [e1]; unfold kMean; rw [if_pos (by omega)]
    refine lv_dconst0 hx hb dL_law_1093 ?_
    refine lv_goto (tgt := 1104) hx hb dL_law_1094 (by decide) ?_
    rw [← e2]
    exact key
