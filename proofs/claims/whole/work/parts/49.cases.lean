set_option maxHeartbeats 4000000 in
set_option maxRecDepth 100000 in
theorem lw_c_clear {pg : Program} {l : Launch} {en : Env} {s0 : State} {mi : MethodId} {ar : Array Value} {bl : List Frame} {me : Method} {co : Code} {H H0 : Heap} {locs : List Loc} {cells slots : Nat} {Q : State → Prop} {ls : Array Slot} {E : kE} {M : kM} {bs : Nat} {i : Int} (S : CallFix pg mi co cL_law 9 s0 ar wsL_law RL) (hE : kInj E) (hK : kK E s0) (hI : kI M) (hP : va_P E.1 vwCl (kW E M) H) (hS : va_S (kA E H0.size) H0 H locs) (hc : cells + 1 ≤ 601024 ∧ slots + 6 ≤ 7293034) (hl : lv_has ls 9 [(4, .int (zI i)), (3, .ref (E.2.2 102)), (2, .ref (E.2.2 11)), (1, .ref (E.2.2 10)), (0, .ref bs)])
    (next : ∀ (M1 : kM) (H1 : Heap) (locs1 : List Loc) (ls1 : Array Slot), kI M1 → va_P E.1 vwCl (kW E M1) H1 → va_S (kA E H0.size) H0 H1 locs1 → lv_has ls1 9 [(4, .int (zI i)), (3, .ref (E.2.2 102)), (2, .ref (E.2.2 11)), (1, .ref (E.2.2 10)), (0, .ref bs)] → W pg l en room_1 s0 mi ar bl me co H1 locs1 (cells + 1) (slots + 6) Q (F0 mi 1416 ls1 [])) : W pg l en room_1 s0 mi ar bl me co H locs cells slots Q (F0 mi 400 ls []) := by
  have hx := S.1
  have hb := S.2.1
  obtain ⟨hs0, hs1, hsv⟩ := hI.1 2 (by omega)
  refine lv_aload_n hx hb dL_law_400 rfl (lv_at hl 3 rfl) ?_
  refine k_callVW (As := []) (rest := []) S hK hP hS (c_X2_clear l E hE M hI.1) (cwV 0 S.2.2.2.2 gL_law_X2_clear rfl rfl rfl (by decide +kernel) ⟨Nat.le_of_ble_eq_true rfl, Nat.le_of_ble_eq_true rfl⟩) (k_rX hK hP rfl) rfl hl.1 rfl (Nat.le_of_ble_eq_true rfl) dL_law_401 ⟨Nat.le_trans (Nat.le_add_right cells 1) hc.1, Nat.le_trans (Nat.le_add_right slots 6) hc.2⟩ (fun z1 M1 H locs h1 hP hS => ?_)
  obtain ⟨eM1, ez⟩ := h1
  refine lv_aload_n hx hb dL_law_404 rfl (lv_at hl 2 rfl) ?_
  refine k_callVW (As := []) (rest := [.int (zI z1)]) S hK hP hS (c_X3_clear l E hE M1 (kWm_eq (kI_wm hI) (fun c9 k9 c91 c92 => by rw [eM1, kU_at, if_neg (by omega)]))) (cwV 0 S.2.2.2.2 gL_law_X3_clear rfl rfl rfl (by decide +kernel) ⟨Nat.le_of_ble_eq_true rfl, Nat.le_of_ble_eq_true rfl⟩) (k_rY hK hP rfl) rfl hl.1 rfl (Nat.le_of_ble_eq_true rfl) dL_law_405 ⟨Nat.le_trans (Nat.le_add_right cells 1) hc.1, Nat.le_trans (Nat.le_add_right slots 6) hc.2⟩ (fun z2 M2 H locs h2 hP hS => ?_)
  obtain ⟨y1, y2, y3, y4, y5⟩ := h2
  have hk := kI_clr hI eM1 y3
  have hk2 := hk.2
  refine k_eq (tgt := 1416) hx hb dL_law_408 (by decide) (by omega) (fun _ => ?_) (fun q => absurd (show z1 = z2 by omega) q)
  refine W.widen (k := cells + 1) (n := slots + 6) (by omega) (by omega) ?_
  exact next _ _ _ _ hk.1 hP hS hl
set_option maxHeartbeats 4000000 in
set_option maxRecDepth 100000 in
theorem lw_c_digest {pg : Program} {l : Launch} {en : Env} {s0 : State} {mi : MethodId} {ar : Array Value} {bl : List Frame} {me : Method} {co : Code} {H H0 : Heap} {locs : List Loc} {cells slots : Nat} {Q : State → Prop} {ls : Array Slot} {E : kE} {M : kM} {bs : Nat} {i : Int} (S : CallFix pg mi co cL_law 9 s0 ar wsL_law RL) (hE : kInj E) (hK : kK E s0) (hI : kI M) (hP : va_P E.1 vwCl (kW E M) H) (hS : va_S (kA E H0.size) H0 H locs) (hc : cells + 1 ≤ 601024 ∧ slots + 6 ≤ 7293034) (hl : lv_has ls 9 [(4, .int (zI i)), (3, .ref (E.2.2 102)), (2, .ref (E.2.2 11)), (1, .ref (E.2.2 10)), (0, .ref bs)])
    (next : ∀ (M1 : kM) (H1 : Heap) (locs1 : List Loc) (ls1 : Array Slot), kI M1 → va_P E.1 vwCl (kW E M1) H1 → va_S (kA E H0.size) H0 H1 locs1 → lv_has ls1 9 [(4, .int (zI i)), (3, .ref (E.2.2 102)), (2, .ref (E.2.2 11)), (1, .ref (E.2.2 10)), (0, .ref bs)] → W pg l en room_1 s0 mi ar bl me co H1 locs1 (cells + 1) (slots + 6) Q (F0 mi 1416 ls1 [])) : W pg l en room_1 s0 mi ar bl me co H locs cells slots Q (F0 mi 1402 ls []) := by
  have hx := S.1
  have hb := S.2.1
  refine lv_aload_n hx hb dL_law_1402 rfl (lv_at hl 3 rfl) ?_
  refine k_callVl (As := []) (rest := []) S hK hP (c_X2_digest l E M hI.1 (kI_O hI)) (cwV 0 S.2.2.2.2 gL_law_X2_digest rfl rfl rfl (by decide +kernel) ⟨Nat.le_of_ble_eq_true rfl, Nat.le_of_ble_eq_true rfl⟩) (k_rX hK hP rfl) rfl hl.1 rfl (Nat.le_of_ble_eq_true rfl) dL_law_1403 ⟨Nat.le_trans (Nat.le_add_right cells 1) hc.1, Nat.le_trans (Nat.le_add_right slots 6) hc.2⟩ (fun z1 h1 => ?_)
  refine lv_aload_n hx hb dL_law_1406 rfl (lv_at hl 2 rfl) ?_
  refine k_callVWl (As := []) (rest := [.long (lI z1)]) S hK hP hS (c_X3_digest l E hE M (kI_wm hI)) (cwV 0 S.2.2.2.2 gL_law_X3_digest rfl rfl rfl (by decide +kernel) ⟨Nat.le_of_ble_eq_true rfl, Nat.le_of_ble_eq_true rfl⟩) (k_rY hK hP rfl) rfl hl.1 rfl (Nat.le_of_ble_eq_true rfl) dL_law_1407 ⟨Nat.le_trans (Nat.le_add_right cells 1) hc.1, Nat.le_trans (Nat.le_add_right slots 6) hc.2⟩ (fun z2 M2 H locs h2 hP hS => ?_)
  obtain ⟨y1, y2, y3⟩ := h2
  have a1 : M 13 = M 3 := kI_13 hI (g := 0) (by omega)
  have a2 : M 14 = M 4 := kI_13 hI (g := 1) (by omega)
  have e : z1 = z2 := by rw [h1, y3, a1, a2, kI_16 hI, kI_15 hI (g := 0) (by omega), kI_15 hI (g := 1) (by omega), hI.2.2.2.1]
  rw [e]
  refine k_lcmpE hx hb dL_law_1410 ?_
  refine k_eq0 (tgt := 1416) hx hb dL_law_1411 (by decide) (by omega) (fun _ => ?_) (fun q => absurd rfl q)
  refine W.widen (k := cells + 1) (n := slots + 6) (by omega) (by omega) ?_
  exact next _ _ _ _ (kI_m hI y1) hP hS hl
set_option maxHeartbeats 4000000 in
set_option maxRecDepth 100000 in
theorem lw_c_mean {pg : Program} {l : Launch} {en : Env} {s0 : State} {mi : MethodId} {ar : Array Value} {bl : List Frame} {me : Method} {co : Code} {H H0 : Heap} {locs : List Loc} {cells slots : Nat} {Q : State → Prop} {ls : Array Slot} {E : kE} {M : kM} {bs : Nat} {i : Int} (Sd : ∀ d : Drawn, CallFix pg mi co cL_law 9 (s0.setDrawn d) ar wsL_law RL) {d0 : Drawn} (hd0 : s0.drawn.sameBut d0 lw_cs) (hE : kInj E) (hK : kK E s0) (hI : kI M) (hP : va_P E.1 vwCl (kW E M) H) (hS : va_S (kA E H0.size) H0 H locs) (hc : cells + 1 ≤ 601024 ∧ slots + 6 ≤ 7293034) (hl : lv_has ls 9 [(4, .int (zI i)), (3, .ref (E.2.2 102)), (2, .ref (E.2.2 11)), (1, .ref (E.2.2 10)), (0, .ref bs)])
    (next : ∀ (M1 : kM) (H1 : Heap) (locs1 : List Loc) (ls1 : Array Slot) (d1 : Drawn), s0.drawn.sameBut d1 lw_cs → kI M1 → va_P E.1 vwCl (kW E M1) H1 → va_S (kA E H0.size) H0 H1 locs1 → lv_has ls1 9 [(4, .int (zI i)), (3, .ref (E.2.2 102)), (2, .ref (E.2.2 11)), (1, .ref (E.2.2 10)), (0, .ref bs)] → W pg l en room_1 (s0.setDrawn d1) mi ar bl me co H1 locs1 (cells + 1) (slots + 6) Q (F0 mi 1416 ls1 [])) : W pg l en room_1 (s0.setDrawn d0) mi ar bl me co H locs cells slots Q (F0 mi 1361 ls []) := by
  have hx := (Sd d0).1
  have hb := (Sd d0).2.1
  refine lv_aload_n hx hb dL_law_1361 rfl (lv_at hl 3 rfl) ?_
  refine k_callMD (As := []) (rest := []) hd0 (Sd d0) hK hP hS (c_X2_mean l E hE M hI.1 (kI_O hI)) (cwV 0 (Sd d0).2.2.2.2 gL_law_X2_mean rfl rfl rfl (by decide +kernel) ⟨Nat.le_of_ble_eq_true rfl, Nat.le_of_ble_eq_true rfl⟩) (k_rX hK hP rfl) rfl hl.1 rfl (Nat.le_of_ble_eq_true rfl) dL_law_1362 ⟨Nat.le_trans (Nat.le_add_right cells 1) hc.1, Nat.le_trans (Nat.le_add_right slots 6) hc.2⟩ (fun r1 M1 H locs d1 hd1 h1 hP hS => ?_)
  obtain ⟨eM, h1⟩ := h1
  rw [eM] at hP
  refine lv_dstore (lv' := [(5, .double r1), (4, .int (zI i)), (3, .ref (E.2.2 102)), (2, .ref (E.2.2 11)), (1, .ref (E.2.2 10)), (0, .ref bs)]) hx hb dL_law_1365 hl (by decide) rfl (fun ls hl => ?_)
  refine lv_aload_n hx hb dL_law_1367 rfl (lv_at hl 3 rfl) ?_
  refine k_callMD (As := []) (rest := []) hd1 (Sd d1) hK hP hS (c_X3_mean l E hE M (kI_wm hI)) (cwV 0 (Sd d1).2.2.2.2 gL_law_X3_mean rfl rfl rfl (by decide +kernel) ⟨Nat.le_of_ble_eq_true rfl, Nat.le_of_ble_eq_true rfl⟩) (k_rY hK hP rfl) rfl hl.1 rfl (Nat.le_of_ble_eq_true rfl) dL_law_1368 ⟨Nat.le_trans (Nat.le_add_right cells 1) hc.1, Nat.le_trans (Nat.le_add_right slots 6) hc.2⟩ (fun r2 M2 H locs d2 hd2 h2 hP hS => ?_)
  obtain ⟨y1, y2, y3⟩ := h2
  have a1 : M 13 = M 3 := kI_13 hI (g := 0) (by omega)
  have a2 : M 14 = M 4 := kI_13 hI (g := 1) (by omega)
  rw [a1, a2, kI_15 hI (g := 0) (by omega), kI_15 hI (g := 1) (by omega)] at y3
  obtain ⟨v, g1, g2⟩ := kIsMean_two h1 y3
  have key : Op.cmpValue (FP.dcmp r1 r2) CmpOp.l = 0 ∨ (Op.cmpValue (FP.dcmp r1 r1) CmpOp.l ≠ 0 ∧ Op.cmpValue (FP.dcmp r2 r2) CmpOp.l ≠ 0) := by
    rcases kAlike g1 g2 with e | ⟨n1, n2⟩
    · subst e
      by_cases q : Op.cmpValue (FP.dcmp r1 r1) CmpOp.l = 0
      · exact Or.inl q
      · exact Or.inr ⟨q, q⟩
    · exact Or.inr ⟨by rw [(kNaN n1 r1).1]; decide, by rw [(kNaN n2 r2).1]; decide⟩
  have fin : ∀ ls : Array Slot, lv_has ls 9 [(7, .double r2), (5, .double r1), (4, .int (zI i)), (3, .ref (E.2.2 102)), (2, .ref (E.2.2 11)), (1, .ref (E.2.2 10)), (0, .ref bs)] → W pg l en room_1 (s0.setDrawn d2) mi ar bl me co H locs cells slots Q (F0 mi 1399 ls []) := by
    intro ls hl
    refine lv_goto (tgt := 1416) hx hb dL_law_1399 (by decide) ?_
    refine W.widen (k := cells + 1) (n := slots + 6) (by omega) (by omega) ?_
    exact next _ _ _ _ d2 hd2 (kI_m hI y1) hP hS (lv_sub hl [2, 3, 4, 5, 6] rfl)
  refine lv_dstore (lv' := [(7, .double r2), (5, .double r1), (4, .int (zI i)), (3, .ref (E.2.2 102)), (2, .ref (E.2.2 11)), (1, .ref (E.2.2 10)), (0, .ref bs)]) hx hb dL_law_1371 hl (by decide) rfl (fun ls hl => ?_)
  refine lv_dload hx hb dL_law_1373 (lv_at hl 1 rfl) ?_
  refine lv_dload hx hb dL_law_1375 (lv_at hl 0 rfl) ?_
  refine lv_dcmp hx hb dL_law_1377 ?_
  refine lv_if_eq (tgt := 1399) hx hb dL_law_1378 (by decide) (fun _ => fin ls hl) (fun k1 => ?_)
  have k2 := key.resolve_left k1
  refine lv_dload hx hb dL_law_1381 (lv_at hl 1 rfl) ?_
  refine lv_dload hx hb dL_law_1383 (lv_at hl 1 rfl) ?_
  refine lv_dcmp hx hb dL_law_1385 ?_
  refine lv_if_eq (tgt := 1397) hx hb dL_law_1386 (by decide) (fun k3 => absurd k3 k2.1) (fun _ => ?_)
  refine lv_dload hx hb dL_law_1389 (lv_at hl 0 rfl) ?_
  refine lv_dload hx hb dL_law_1391 (lv_at hl 0 rfl) ?_
  refine lv_dcmp hx hb dL_law_1393 ?_
  exact lv_if_ne (tgt := 1399) hx hb dL_law_1394 (by decide) (fun _ => fin ls hl) (fun k3 => absurd k3 k2.2)
