abbrev rX2_hemOf_b : Room := { frames := 6, cells := 1, slots := 6, locals := 99 }
set_option maxHeartbeats 4000000 in
set_option maxRecDepth 100000 in
theorem c_X2_hemOf_b (l : Launch) (E : kE) (hlst : l.stackTraces = false) (M : kM) (h : Int) (hb : h < 0 ∨ 2 ≤ h) (h32 : -2147483648 ≤ h ∧ h ≤ 2147483647) : kTX l yX2_hemOf wsX2_hemOf rX2_hemOf_b E M [.ref (E.2.2 10), .int (zI h)] kIOB := by
  refine kTX_of (cc := cX2_hemOf) (maxL := 2) RX2 (by decide) rfl rfl (Nat.le_of_ble_eq_true rfl) ?_
  intro pg en s0 mi ar bl me co ls S hP hK hX hZ hlocks htab hl
  have hx := S.1
  have hb := S.2.1
  have hinX20 : ∀ w ∈ wsX20, w ∈ wsX2_hemOf := fun w h => List.mem_cons_of_mem _ (List.mem_append_left _ (List.mem_append_right _ (h)))
  have hl : lv_has ls 2 [(0, .ref (E.2.2 10)), (1, .int (zI h))] := hl
  refine lv_iload_n hx hb dX2_hemOf_0 rfl (lv_at hl 1 rfl) ?_
  refine k_ne0 (tgt := 9) hx hb dX2_hemOf_1 (by decide) (by omega) (fun c_1 => ?_) (fun c_1 => ?_)
  · skip
    refine lv_iload_n hx hb dX2_hemOf_9 rfl (lv_at hl 1 rfl) ?_
    refine k_push hx hb dX2_hemOf_10 ?_
    refine k_ne (tgt := 19) hx hb dX2_hemOf_11 (by decide) (by omega) (fun c_11 => ?_) (fun c_11 => ?_)
    · skip
      exact k_throw (X := kIOB) (text := "hem is not 0 to 1") S hlst hX hZ hP hlocks htab hl.1 (by decide) (S.2.2.2.2 _ (List.mem_cons_of_mem _ (List.mem_append_left _ (List.mem_append_left _ (List.mem_of_getElem? (i := 0) rfl))))) (S.2.2.2.2 _ (List.mem_cons_of_mem _ (List.mem_append_left _ (List.mem_append_left _ (List.mem_of_getElem? (i := 1) rfl))))) (fun w h => List.mem_cons_of_mem _ (List.mem_append_right _ (h))) kb_96 hX.2.1.2.2 kg_96 (by decide) dX2_hemOf_19 dX2_hemOf_22 dX2_hemOf_23 dX2_hemOf_25 dX2_hemOf_28 ⟨Nat.le_of_ble_eq_true rfl, Nat.le_of_ble_eq_true rfl, Nat.le_of_ble_eq_true rfl, Nat.le_of_ble_eq_true rfl⟩
    · exact absurd c_11 (by omega)
  · exact absurd c_1 (by omega)
abbrev rX2_requireStitch_b : Room := { frames := 6, cells := 1, slots := 6, locals := 99 }
set_option maxHeartbeats 4000000 in
set_option maxRecDepth 100000 in
theorem c_X2_requireStitch_b (l : Launch) (E : kE) (hlst : l.stackTraces = false) (M : kM) (st : Int) (hst : st < 0 ∨ 8 < st) (h32 : -2147483648 ≤ st ∧ st ≤ 2147483647) : kTX l yX2_requireStitch wsX2_requireStitch rX2_requireStitch_b E M [.int (zI st)] kIAE := by
  refine kTX_of (cc := cX2_requireStitch) (maxL := 1) RX2 (by decide) rfl rfl (Nat.le_of_ble_eq_true rfl) ?_
  intro pg en s0 mi ar bl me co ls S hP hK hX hZ hlocks htab hl
  have hx := S.1
  have hb := S.2.1
  have hl : lv_has ls 1 [(0, .int (zI st))] := hl
  refine lv_iload_n hx hb dX2_requireStitch_0 rfl (lv_at hl 0 rfl) ?_
  refine k_lt0 (tgt := 10) hx hb dX2_requireStitch_1 (by decide) (by omega) (fun c_1 => ?_) (fun c_1 => ?_)
  · skip
    exact k_throw (X := kIAE) (text := "stitch is not 0 to 8") S hlst hX hZ hP hlocks htab hl.1 (by decide) (S.2.2.2.2 _ (List.mem_cons_of_mem _ (List.mem_append_left _ (List.mem_of_getElem? (i := 0) rfl)))) (S.2.2.2.2 _ (List.mem_cons_of_mem _ (List.mem_append_left _ (List.mem_of_getElem? (i := 1) rfl)))) (fun w h => List.mem_cons_of_mem _ (List.mem_append_right _ (h))) kb_55 hX.2.1.2.1 kg_55 (by decide) dX2_requireStitch_10 dX2_requireStitch_13 dX2_requireStitch_14 dX2_requireStitch_16 dX2_requireStitch_19 ⟨Nat.le_of_ble_eq_true rfl, Nat.le_of_ble_eq_true rfl, Nat.le_of_ble_eq_true rfl, Nat.le_of_ble_eq_true rfl⟩
  · skip
    refine lv_iload_n hx hb dX2_requireStitch_4 rfl (lv_at hl 0 rfl) ?_
    refine k_bpush hx hb dX2_requireStitch_5 (by decide) ?_
    refine k_lt (tgt := 20) hx hb dX2_requireStitch_7 (by decide) (by omega) (fun c_7 => ?_) (fun c_7 => ?_)
    · exact absurd c_7 (by omega)
    · skip
      exact k_throw (X := kIAE) (text := "stitch is not 0 to 8") S hlst hX hZ hP hlocks htab hl.1 (by decide) (S.2.2.2.2 _ (List.mem_cons_of_mem _ (List.mem_append_left _ (List.mem_of_getElem? (i := 0) rfl)))) (S.2.2.2.2 _ (List.mem_cons_of_mem _ (List.mem_append_left _ (List.mem_of_getElem? (i := 1) rfl)))) (fun w h => List.mem_cons_of_mem _ (List.mem_append_right _ (h))) kb_55 hX.2.1.2.1 kg_55 (by decide) dX2_requireStitch_10 dX2_requireStitch_13 dX2_requireStitch_14 dX2_requireStitch_16 dX2_requireStitch_19 ⟨Nat.le_of_ble_eq_true rfl, Nat.le_of_ble_eq_true rfl, Nat.le_of_ble_eq_true rfl, Nat.le_of_ble_eq_true rfl⟩
abbrev rX2_requirePlace_b : Room := { frames := 6, cells := 1, slots := 6, locals := 99 }
set_option maxHeartbeats 4000000 in
set_option maxRecDepth 100000 in
theorem c_X2_requirePlace_b (l : Launch) (E : kE) (hlst : l.stackTraces = false) (M : kM) (i p : Int) (hi : 0 ≤ i ∧ i < 3) (hW : kWf M) (hp : p < 0 ∨ M i 1 ≤ p) (h32 : -2147483648 ≤ p ∧ p ≤ 2147483647) : kTX l yX2_requirePlace wsX2_requirePlace rX2_requirePlace_b E M [.ref (E.2.2 i), .int (zI p)] kIOB := by
  refine kTX_of (cc := cX2_requirePlace) (maxL := 2) RX2 (by decide) rfl rfl (Nat.le_of_ble_eq_true rfl) ?_
  intro pg en s0 mi ar bl me co ls S hP hK hX hZ hlocks htab hl
  have hx := S.1
  have hb := S.2.1
  have hinX10 : ∀ w ∈ wsX10, w ∈ wsX2_requirePlace := fun w h => List.mem_cons_of_mem _ (List.mem_append_left _ (List.mem_append_right _ (h)))
  have hl : lv_has ls 2 [(0, .ref (E.2.2 i)), (1, .int (zI p))] := hl
  obtain ⟨hn0, hn1, hv⟩ := hW i (by omega)
  refine lv_iload_n hx hb dX2_requirePlace_0 rfl (lv_at hl 1 rfl) ?_
  refine k_lt0 (tgt := 12) hx hb dX2_requirePlace_1 (by decide) (by omega) (fun c_1 => ?_) (fun c_1 => ?_)
  · skip
    exact k_throw (X := kIOB) (text := "there is no such place") S hlst hX hZ hP hlocks htab hl.1 (by decide) (S.2.2.2.2 _ (List.mem_cons_of_mem _ (List.mem_append_left _ (List.mem_append_left _ (List.mem_of_getElem? (i := 0) rfl))))) (S.2.2.2.2 _ (List.mem_cons_of_mem _ (List.mem_append_left _ (List.mem_append_left _ (List.mem_of_getElem? (i := 1) rfl))))) (fun w h => List.mem_cons_of_mem _ (List.mem_append_right _ (h))) kb_96 hX.2.1.2.2 kg_96 (by decide) dX2_requirePlace_12 dX2_requirePlace_15 dX2_requirePlace_16 dX2_requirePlace_18 dX2_requirePlace_21 ⟨Nat.le_of_ble_eq_true rfl, Nat.le_of_ble_eq_true rfl, Nat.le_of_ble_eq_true rfl, Nat.le_of_ble_eq_true rfl⟩
  · skip
    refine lv_iload_n hx hb dX2_requirePlace_4 rfl (lv_at hl 1 rfl) ?_
    refine lv_aload_n hx hb dX2_requirePlace_5 rfl (lv_at hl 0 rfl) ?_
    refine k_lengthN S hK hP hinX10 hK.2.2.1 dX2_requirePlace_6 (by omega) ?_
    refine k_lt (tgt := 22) hx hb dX2_requirePlace_9 (by decide) (by omega) (fun c_9 => ?_) (fun c_9 => ?_)
    · exact absurd c_9 (by omega)
    · skip
      exact k_throw (X := kIOB) (text := "there is no such place") S hlst hX hZ hP hlocks htab hl.1 (by decide) (S.2.2.2.2 _ (List.mem_cons_of_mem _ (List.mem_append_left _ (List.mem_append_left _ (List.mem_of_getElem? (i := 0) rfl))))) (S.2.2.2.2 _ (List.mem_cons_of_mem _ (List.mem_append_left _ (List.mem_append_left _ (List.mem_of_getElem? (i := 1) rfl))))) (fun w h => List.mem_cons_of_mem _ (List.mem_append_right _ (h))) kb_96 hX.2.1.2.2 kg_96 (by decide) dX2_requirePlace_12 dX2_requirePlace_15 dX2_requirePlace_16 dX2_requirePlace_18 dX2_requirePlace_21 ⟨Nat.le_of_ble_eq_true rfl, Nat.le_of_ble_eq_true rfl, Nat.le_of_ble_eq_true rfl, Nat.le_of_ble_eq_true rfl⟩
abbrev rX2_sew_b1 : Room := { frames := 7, cells := 1, slots := 6, locals := 137 }
set_option maxHeartbeats 4000000 in
set_option maxRecDepth 100000 in
theorem c_X2_sew_b1 (l : Launch) (E : kE) (hlst : l.stackTraces = false) (M : kM) (h st : Int) (hb : h < 0 ∨ 2 ≤ h) (h32 : -2147483648 ≤ h ∧ h ≤ 2147483647 ∧ -2147483648 ≤ st ∧ st ≤ 2147483647) : kTX l yX2_sew wsX2_sew rX2_sew_b1 E M [.ref (E.2.2 10), .int (zI h), .int (zI st)] kIOB := by
  refine kTX_of (cc := cX2_sew) (maxL := 4) RX2 (by decide) rfl rfl (Nat.le_of_ble_eq_true rfl) ?_
  intro pg en s0 mi ar bl me co ls S hP hK hX hZ hlocks htab hl
  have hx := S.1
  have hb := S.2.1
  have hinX00 : ∀ w ∈ wsX00, w ∈ wsX2_sew := fun w h => List.mem_cons_of_mem _ (List.mem_append_left _ (List.mem_append_left _ (List.mem_append_left _ (List.mem_append_left _ (List.mem_append_left _ (List.mem_append_right _ (h)))))))
  have hinX10 : ∀ w ∈ wsX10, w ∈ wsX2_sew := fun w h => List.mem_cons_of_mem _ (List.mem_append_left _ (List.mem_append_left _ (List.mem_append_left _ (List.mem_append_left _ (List.mem_append_right _ (h))))))
  have hinX20 : ∀ w ∈ wsX20, w ∈ wsX2_sew := fun w h => List.mem_cons_of_mem _ (List.mem_append_left _ (List.mem_append_left _ (List.mem_append_left _ (List.mem_append_right _ (h)))))
  have hl : lv_has ls 4 [(0, .ref (E.2.2 10)), (1, .int (zI h)), (2, .int (zI st))] := hl
  refine lv_aload_n hx hb dX2_sew_0 rfl (lv_at hl 0 rfl) ?_
  refine lv_iload_n hx hb dX2_sew_1 rfl (lv_at hl 1 rfl) ?_
  exact k_thr (k_runVX (As := [.int (zI h)]) (rest := []) S hK hX hZ hP va_S.rf (c_X2_hemOf_b l E hlst M h (by omega) (by omega)) (cwV 1 S.2.2.2.2 gX2_sew_X2_hemOf rfl rfl rfl (by decide +kernel) ⟨Nat.le_of_ble_eq_true rfl, Nat.le_of_ble_eq_true rfl⟩) (k_rX hK hP rfl) rfl hl.1 rfl (Nat.le_of_ble_eq_true rfl) dX2_sew_2 ⟨Nat.le_of_ble_eq_true rfl, Nat.le_of_ble_eq_true rfl⟩) (fun _ _ _ h => h) va_S.rf (fun ce q9 H1 locs1 hP1 hS1 hc1 hv1 hcl1 => k_out htab hlocks hP1 hS1 hc1 hv1 hcl1 ⟨Nat.le_of_ble_eq_true rfl, Nat.le_of_ble_eq_true rfl⟩)
abbrev rX2_sew_b2 : Room := { frames := 7, cells := 1, slots := 6, locals := 137 }
set_option maxHeartbeats 4000000 in
set_option maxRecDepth 100000 in
theorem c_X2_sew_b2 (l : Launch) (E : kE) (hlst : l.stackTraces = false) (M : kM) (h st : Int) (hh : 0 ≤ h ∧ h < 2) (hW : kWf M) (hst : st < 0 ∨ 8 < st) (h32 : -2147483648 ≤ st ∧ st ≤ 2147483647) : kTX l yX2_sew wsX2_sew rX2_sew_b2 E M [.ref (E.2.2 10), .int (zI h), .int (zI st)] kIAE := by
  refine kTX_of (cc := cX2_sew) (maxL := 4) RX2 (by decide) rfl rfl (Nat.le_of_ble_eq_true rfl) ?_
  intro pg en s0 mi ar bl me co ls S hP hK hX hZ hlocks htab hl
  have hx := S.1
  have hb := S.2.1
  have hinX00 : ∀ w ∈ wsX00, w ∈ wsX2_sew := fun w h => List.mem_cons_of_mem _ (List.mem_append_left _ (List.mem_append_left _ (List.mem_append_left _ (List.mem_append_left _ (List.mem_append_left _ (List.mem_append_right _ (h)))))))
  have hinX10 : ∀ w ∈ wsX10, w ∈ wsX2_sew := fun w h => List.mem_cons_of_mem _ (List.mem_append_left _ (List.mem_append_left _ (List.mem_append_left _ (List.mem_append_left _ (List.mem_append_right _ (h))))))
  have hinX20 : ∀ w ∈ wsX20, w ∈ wsX2_sew := fun w h => List.mem_cons_of_mem _ (List.mem_append_left _ (List.mem_append_left _ (List.mem_append_left _ (List.mem_append_right _ (h)))))
  have hl : lv_has ls 4 [(0, .ref (E.2.2 10)), (1, .int (zI h)), (2, .int (zI st))] := hl
  obtain ⟨hn0, hn1, hv⟩ := hW h (by omega)
  obtain ⟨hs0, hs1, hsv⟩ := hW 2 (by omega)
  refine lv_aload_n hx hb dX2_sew_0 rfl (lv_at hl 0 rfl) ?_
  refine lv_iload_n hx hb dX2_sew_1 rfl (lv_at hl 1 rfl) ?_
  refine k_callVr (As := [.int (zI h)]) (rest := []) S hK hP (c_X2_hemOf l E M h (by omega)) (cwV 1 S.2.2.2.2 gX2_sew_X2_hemOf rfl rfl rfl (by decide +kernel) ⟨Nat.le_of_ble_eq_true rfl, Nat.le_of_ble_eq_true rfl⟩) (k_rX hK hP rfl) rfl hl.1 rfl (Nat.le_of_ble_eq_true rfl) dX2_sew_2 ⟨Nat.le_of_ble_eq_true rfl, Nat.le_of_ble_eq_true rfl⟩ ?_
  refine lv_astore_n (lv' := [(3, .ref (E.2.2 (6 + h))), (0, .ref (E.2.2 10)), (1, .int (zI h)), (2, .int (zI st))]) hx hb dX2_sew_5 rfl hl (by decide) rfl (fun ls hl => ?_)
  refine lv_iload_n hx hb dX2_sew_6 rfl (lv_at hl 3 rfl) ?_
  exact k_thr (k_runSX (As := [.int (zI st)]) (rest := []) S hK hX hZ hP va_S.rf (c_X2_requireStitch_b l E hlst M st (by omega) (by omega)) (va_cwS 1 S.2.2.2.2 gX2_sew_X2_requireStitch rfl rfl rfl (by decide +kernel) ⟨Nat.le_of_ble_eq_true rfl, Nat.le_of_ble_eq_true rfl⟩) rfl hl.1 rfl (Nat.le_of_ble_eq_true rfl) dX2_sew_7 ⟨Nat.le_of_ble_eq_true rfl, Nat.le_of_ble_eq_true rfl⟩) (fun _ _ _ h => h) va_S.rf (fun ce q9 H1 locs1 hP1 hS1 hc1 hv1 hcl1 => k_out htab hlocks hP1 hS1 hc1 hv1 hcl1 ⟨Nat.le_of_ble_eq_true rfl, Nat.le_of_ble_eq_true rfl⟩)
abbrev rX2_sew_b3 : Room := { frames := 6, cells := 1, slots := 6, locals := 137 }
set_option maxHeartbeats 4000000 in
set_option maxRecDepth 100000 in
theorem c_X2_sew_b3 (l : Launch) (E : kE) (hlst : l.stackTraces = false) (M : kM) (h st : Int) (hh : 0 ≤ h ∧ h < 2) (hW : kWf M) (hst : 0 ≤ st ∧ st ≤ 8) (hf : M h 1 = 40) : kTX l yX2_sew wsX2_sew rX2_sew_b3 E M [.ref (E.2.2 10), .int (zI h), .int (zI st)] kISE := by
  refine kTX_of (cc := cX2_sew) (maxL := 4) RX2 (by decide) rfl rfl (Nat.le_of_ble_eq_true rfl) ?_
  intro pg en s0 mi ar bl me co ls S hP hK hX hZ hlocks htab hl
  have hx := S.1
  have hb := S.2.1
  have hinX00 : ∀ w ∈ wsX00, w ∈ wsX2_sew := fun w h => List.mem_cons_of_mem _ (List.mem_append_left _ (List.mem_append_left _ (List.mem_append_left _ (List.mem_append_left _ (List.mem_append_left _ (List.mem_append_right _ (h)))))))
  have hinX10 : ∀ w ∈ wsX10, w ∈ wsX2_sew := fun w h => List.mem_cons_of_mem _ (List.mem_append_left _ (List.mem_append_left _ (List.mem_append_left _ (List.mem_append_left _ (List.mem_append_right _ (h))))))
  have hinX20 : ∀ w ∈ wsX20, w ∈ wsX2_sew := fun w h => List.mem_cons_of_mem _ (List.mem_append_left _ (List.mem_append_left _ (List.mem_append_left _ (List.mem_append_right _ (h)))))
  have hl : lv_has ls 4 [(0, .ref (E.2.2 10)), (1, .int (zI h)), (2, .int (zI st))] := hl
  obtain ⟨hn0, hn1, hv⟩ := hW h (by omega)
  obtain ⟨hs0, hs1, hsv⟩ := hW 2 (by omega)
  refine lv_aload_n hx hb dX2_sew_0 rfl (lv_at hl 0 rfl) ?_
  refine lv_iload_n hx hb dX2_sew_1 rfl (lv_at hl 1 rfl) ?_
  refine k_callVr (As := [.int (zI h)]) (rest := []) S hK hP (c_X2_hemOf l E M h (by omega)) (cwV 1 S.2.2.2.2 gX2_sew_X2_hemOf rfl rfl rfl (by decide +kernel) ⟨Nat.le_of_ble_eq_true rfl, Nat.le_of_ble_eq_true rfl⟩) (k_rX hK hP rfl) rfl hl.1 rfl (Nat.le_of_ble_eq_true rfl) dX2_sew_2 ⟨Nat.le_of_ble_eq_true rfl, Nat.le_of_ble_eq_true rfl⟩ ?_
  refine lv_astore_n (lv' := [(3, .ref (E.2.2 (6 + h))), (0, .ref (E.2.2 10)), (1, .int (zI h)), (2, .int (zI st))]) hx hb dX2_sew_5 rfl hl (by decide) rfl (fun ls hl => ?_)
  refine lv_iload_n hx hb dX2_sew_6 rfl (lv_at hl 3 rfl) ?_
  refine k_callSv (As := [.int (zI st)]) (rest := []) S hK hP (c_X2_requireStitch l E M st (by omega)) (va_cwS 1 S.2.2.2.2 gX2_sew_X2_requireStitch rfl rfl rfl (by decide +kernel) ⟨Nat.le_of_ble_eq_true rfl, Nat.le_of_ble_eq_true rfl⟩) rfl hl.1 rfl (Nat.le_of_ble_eq_true rfl) dX2_sew_7 ⟨Nat.le_of_ble_eq_true rfl, Nat.le_of_ble_eq_true rfl⟩ ?_
  refine lv_aload_n hx hb dX2_sew_10 rfl (lv_at hl 0 rfl) ?_
  refine k_stitchesN S hK hP hinX00 hK.2.2.2 dX2_sew_11 (by omega) (h) (by omega) ?_
  refine k_lengthN S hK hP hinX10 hK.2.2.1 dX2_sew_14 (by omega) ?_
  refine k_bpush hx hb dX2_sew_17 (by decide) ?_
  refine k_lt (tgt := 32) hx hb dX2_sew_19 (by decide) (by omega) (fun c_19 => ?_) (fun c_19 => ?_)
  · exact absurd c_19 (by omega)
  · skip
    exact k_throw (X := kISE) (text := "the hem is full") S hlst hX hZ hP hlocks htab hl.1 (by decide) (S.2.2.2.2 _ (List.mem_cons_of_mem _ (List.mem_append_left _ (List.mem_append_left _ (List.mem_append_left _ (List.mem_append_left _ (List.mem_append_left _ (List.mem_append_left _ (List.mem_append_left _ (List.mem_of_getElem? (i := 0) rfl)))))))))) (S.2.2.2.2 _ (List.mem_cons_of_mem _ (List.mem_append_left _ (List.mem_append_left _ (List.mem_append_left _ (List.mem_append_left _ (List.mem_append_left _ (List.mem_append_left _ (List.mem_append_left _ (List.mem_of_getElem? (i := 1) rfl)))))))))) (fun w h => List.mem_cons_of_mem _ (List.mem_append_left _ (List.mem_append_left _ (List.mem_append_right _ (h))))) kb_45 hX.2.1.1 kg_45 (by decide) dX2_sew_22 dX2_sew_25 dX2_sew_26 dX2_sew_28 dX2_sew_31 ⟨Nat.le_of_ble_eq_true rfl, Nat.le_of_ble_eq_true rfl, Nat.le_of_ble_eq_true rfl, Nat.le_of_ble_eq_true rfl⟩
abbrev rX2_again_b1 : Room := { frames := 7, cells := 1, slots := 6, locals := 138 }
set_option maxHeartbeats 4000000 in
set_option maxRecDepth 100000 in
theorem c_X2_again_b1 (l : Launch) (E : kE) (hlst : l.stackTraces = false) (M : kM) (h r : Int) (hb : h < 0 ∨ 2 ≤ h) (h32 : -2147483648 ≤ h ∧ h ≤ 2147483647 ∧ -2147483648 ≤ r ∧ r ≤ 2147483647) : kTX l yX2_again wsX2_again rX2_again_b1 E M [.ref (E.2.2 10), .int (zI h), .int (zI r)] kIOB := by
  refine kTX_of (cc := cX2_again) (maxL := 5) RX2 (by decide) rfl rfl (Nat.le_of_ble_eq_true rfl) ?_
  intro pg en s0 mi ar bl me co ls S hP hK hX hZ hlocks htab hl
  have hx := S.1
  have hb := S.2.1
  have hinX00 : ∀ w ∈ wsX00, w ∈ wsX2_again := fun w h => List.mem_cons_of_mem _ (List.mem_append_left _ (List.mem_append_left _ (List.mem_append_left _ (List.mem_append_left _ (List.mem_append_left _ (List.mem_append_right _ (h)))))))
  have hinX10 : ∀ w ∈ wsX10, w ∈ wsX2_again := fun w h => List.mem_cons_of_mem _ (List.mem_append_left _ (List.mem_append_left _ (List.mem_append_left _ (List.mem_append_left _ (List.mem_append_right _ (h))))))
  have hinX20 : ∀ w ∈ wsX20, w ∈ wsX2_again := fun w h => List.mem_cons_of_mem _ (List.mem_append_left _ (List.mem_append_left _ (List.mem_append_left _ (List.mem_append_right _ (h)))))
  have hl : lv_has ls 5 [(0, .ref (E.2.2 10)), (1, .int (zI h)), (2, .int (zI r))] := hl
  refine lv_aload_n hx hb dX2_again_0 rfl (lv_at hl 0 rfl) ?_
  refine lv_iload_n hx hb dX2_again_1 rfl (lv_at hl 1 rfl) ?_
  exact k_thr (k_runVX (As := [.int (zI h)]) (rest := []) S hK hX hZ hP va_S.rf (c_X2_hemOf_b l E hlst M h (by omega) (by omega)) (cwV 1 S.2.2.2.2 gX2_again_X2_hemOf rfl rfl rfl (by decide +kernel) ⟨Nat.le_of_ble_eq_true rfl, Nat.le_of_ble_eq_true rfl⟩) (k_rX hK hP rfl) rfl hl.1 rfl (Nat.le_of_ble_eq_true rfl) dX2_again_2 ⟨Nat.le_of_ble_eq_true rfl, Nat.le_of_ble_eq_true rfl⟩) (fun _ _ _ h => h) va_S.rf (fun ce q9 H1 locs1 hP1 hS1 hc1 hv1 hcl1 => k_out htab hlocks hP1 hS1 hc1 hv1 hcl1 ⟨Nat.le_of_ble_eq_true rfl, Nat.le_of_ble_eq_true rfl⟩)
abbrev rX2_again_b2 : Room := { frames := 6, cells := 1, slots := 6, locals := 138 }
set_option maxHeartbeats 4000000 in
set_option maxRecDepth 100000 in
theorem c_X2_again_b2 (l : Launch) (E : kE) (hlst : l.stackTraces = false) (M : kM) (h r : Int) (hh : 0 ≤ h ∧ h < 2) (hW : kWf M) (hr : r < 1 ∨ 40 < r) (h32 : -2147483648 ≤ r ∧ r ≤ 2147483647) : kTX l yX2_again wsX2_again rX2_again_b2 E M [.ref (E.2.2 10), .int (zI h), .int (zI r)] kIAE := by
  refine kTX_of (cc := cX2_again) (maxL := 5) RX2 (by decide) rfl rfl (Nat.le_of_ble_eq_true rfl) ?_
  intro pg en s0 mi ar bl me co ls S hP hK hX hZ hlocks htab hl
  have hx := S.1
  have hb := S.2.1
  have hinX00 : ∀ w ∈ wsX00, w ∈ wsX2_again := fun w h => List.mem_cons_of_mem _ (List.mem_append_left _ (List.mem_append_left _ (List.mem_append_left _ (List.mem_append_left _ (List.mem_append_left _ (List.mem_append_right _ (h)))))))
  have hinX10 : ∀ w ∈ wsX10, w ∈ wsX2_again := fun w h => List.mem_cons_of_mem _ (List.mem_append_left _ (List.mem_append_left _ (List.mem_append_left _ (List.mem_append_left _ (List.mem_append_right _ (h))))))
  have hinX20 : ∀ w ∈ wsX20, w ∈ wsX2_again := fun w h => List.mem_cons_of_mem _ (List.mem_append_left _ (List.mem_append_left _ (List.mem_append_left _ (List.mem_append_right _ (h)))))
  have hl : lv_has ls 5 [(0, .ref (E.2.2 10)), (1, .int (zI h)), (2, .int (zI r))] := hl
  obtain ⟨hn0, hn1, hv⟩ := hW h (by omega)
  obtain ⟨hs0, hs1, hsv⟩ := hW 2 (by omega)
  refine lv_aload_n hx hb dX2_again_0 rfl (lv_at hl 0 rfl) ?_
  refine lv_iload_n hx hb dX2_again_1 rfl (lv_at hl 1 rfl) ?_
  refine k_callVr (As := [.int (zI h)]) (rest := []) S hK hP (c_X2_hemOf l E M h (by omega)) (cwV 1 S.2.2.2.2 gX2_again_X2_hemOf rfl rfl rfl (by decide +kernel) ⟨Nat.le_of_ble_eq_true rfl, Nat.le_of_ble_eq_true rfl⟩) (k_rX hK hP rfl) rfl hl.1 rfl (Nat.le_of_ble_eq_true rfl) dX2_again_2 ⟨Nat.le_of_ble_eq_true rfl, Nat.le_of_ble_eq_true rfl⟩ ?_
  refine lv_astore_n (lv' := [(3, .ref (E.2.2 (6 + h))), (0, .ref (E.2.2 10)), (1, .int (zI h)), (2, .int (zI r))]) hx hb dX2_again_5 rfl hl (by decide) rfl (fun ls hl => ?_)
  refine lv_iload_n hx hb dX2_again_6 rfl (lv_at hl 3 rfl) ?_
  refine k_push hx hb dX2_again_7 ?_
  refine k_lt (tgt := 17) hx hb dX2_again_8 (by decide) (by omega) (fun c_8 => ?_) (fun c_8 => ?_)
  · skip
    exact k_throw (X := kIAE) (text := "many is not 1 to 40") S hlst hX hZ hP hlocks htab hl.1 (by decide) (S.2.2.2.2 _ (List.mem_cons_of_mem _ (List.mem_append_left _ (List.mem_append_left _ (List.mem_append_left _ (List.mem_append_left _ (List.mem_append_left _ (List.mem_append_left _ (List.mem_append_left _ (List.mem_of_getElem? (i := 0) rfl)))))))))) (S.2.2.2.2 _ (List.mem_cons_of_mem _ (List.mem_append_left _ (List.mem_append_left _ (List.mem_append_left _ (List.mem_append_left _ (List.mem_append_left _ (List.mem_append_left _ (List.mem_append_left _ (List.mem_of_getElem? (i := 1) rfl)))))))))) (fun w h => List.mem_cons_of_mem _ (List.mem_append_left _ (List.mem_append_left _ (List.mem_append_right _ (h))))) kb_55 hX.2.1.2.1 kg_55 (by decide) dX2_again_17 dX2_again_20 dX2_again_21 dX2_again_23 dX2_again_26 ⟨Nat.le_of_ble_eq_true rfl, Nat.le_of_ble_eq_true rfl, Nat.le_of_ble_eq_true rfl, Nat.le_of_ble_eq_true rfl⟩
  · skip
    refine lv_iload_n hx hb dX2_again_11 rfl (lv_at hl 3 rfl) ?_
    refine k_bpush hx hb dX2_again_12 (by decide) ?_
    refine k_le (tgt := 27) hx hb dX2_again_14 (by decide) (by omega) (fun c_14 => ?_) (fun c_14 => ?_)
    · exact absurd c_14 (by omega)
    · skip
      exact k_throw (X := kIAE) (text := "many is not 1 to 40") S hlst hX hZ hP hlocks htab hl.1 (by decide) (S.2.2.2.2 _ (List.mem_cons_of_mem _ (List.mem_append_left _ (List.mem_append_left _ (List.mem_append_left _ (List.mem_append_left _ (List.mem_append_left _ (List.mem_append_left _ (List.mem_append_left _ (List.mem_of_getElem? (i := 0) rfl)))))))))) (S.2.2.2.2 _ (List.mem_cons_of_mem _ (List.mem_append_left _ (List.mem_append_left _ (List.mem_append_left _ (List.mem_append_left _ (List.mem_append_left _ (List.mem_append_left _ (List.mem_append_left _ (List.mem_of_getElem? (i := 1) rfl)))))))))) (fun w h => List.mem_cons_of_mem _ (List.mem_append_left _ (List.mem_append_left _ (List.mem_append_right _ (h))))) kb_55 hX.2.1.2.1 kg_55 (by decide) dX2_again_17 dX2_again_20 dX2_again_21 dX2_again_23 dX2_again_26 ⟨Nat.le_of_ble_eq_true rfl, Nat.le_of_ble_eq_true rfl, Nat.le_of_ble_eq_true rfl, Nat.le_of_ble_eq_true rfl⟩
abbrev rX2_again_b3 : Room := { frames := 6, cells := 1, slots := 6, locals := 138 }
set_option maxHeartbeats 4000000 in
set_option maxRecDepth 100000 in
theorem c_X2_again_b3 (l : Launch) (E : kE) (hlst : l.stackTraces = false) (M : kM) (h r : Int) (hh : 0 ≤ h ∧ h < 2) (hW : kWf M) (hr : 1 ≤ r ∧ r ≤ 40 ∧ (M h 1 = 0 ∨ 40 < M h 1 + r)) : kTX l yX2_again wsX2_again rX2_again_b3 E M [.ref (E.2.2 10), .int (zI h), .int (zI r)] kISE := by
  refine kTX_of (cc := cX2_again) (maxL := 5) RX2 (by decide) rfl rfl (Nat.le_of_ble_eq_true rfl) ?_
  intro pg en s0 mi ar bl me co ls S hP hK hX hZ hlocks htab hl
  have hx := S.1
  have hb := S.2.1
  have hinX00 : ∀ w ∈ wsX00, w ∈ wsX2_again := fun w h => List.mem_cons_of_mem _ (List.mem_append_left _ (List.mem_append_left _ (List.mem_append_left _ (List.mem_append_left _ (List.mem_append_left _ (List.mem_append_right _ (h)))))))
  have hinX10 : ∀ w ∈ wsX10, w ∈ wsX2_again := fun w h => List.mem_cons_of_mem _ (List.mem_append_left _ (List.mem_append_left _ (List.mem_append_left _ (List.mem_append_left _ (List.mem_append_right _ (h))))))
  have hinX20 : ∀ w ∈ wsX20, w ∈ wsX2_again := fun w h => List.mem_cons_of_mem _ (List.mem_append_left _ (List.mem_append_left _ (List.mem_append_left _ (List.mem_append_right _ (h)))))
  have hl : lv_has ls 5 [(0, .ref (E.2.2 10)), (1, .int (zI h)), (2, .int (zI r))] := hl
  obtain ⟨hn0, hn1, hv⟩ := hW h (by omega)
  obtain ⟨hs0, hs1, hsv⟩ := hW 2 (by omega)
  refine lv_aload_n hx hb dX2_again_0 rfl (lv_at hl 0 rfl) ?_
  refine lv_iload_n hx hb dX2_again_1 rfl (lv_at hl 1 rfl) ?_
  refine k_callVr (As := [.int (zI h)]) (rest := []) S hK hP (c_X2_hemOf l E M h (by omega)) (cwV 1 S.2.2.2.2 gX2_again_X2_hemOf rfl rfl rfl (by decide +kernel) ⟨Nat.le_of_ble_eq_true rfl, Nat.le_of_ble_eq_true rfl⟩) (k_rX hK hP rfl) rfl hl.1 rfl (Nat.le_of_ble_eq_true rfl) dX2_again_2 ⟨Nat.le_of_ble_eq_true rfl, Nat.le_of_ble_eq_true rfl⟩ ?_
  refine lv_astore_n (lv' := [(3, .ref (E.2.2 (6 + h))), (0, .ref (E.2.2 10)), (1, .int (zI h)), (2, .int (zI r))]) hx hb dX2_again_5 rfl hl (by decide) rfl (fun ls hl => ?_)
  refine lv_iload_n hx hb dX2_again_6 rfl (lv_at hl 3 rfl) ?_
  refine k_push hx hb dX2_again_7 ?_
  refine k_lt (tgt := 17) hx hb dX2_again_8 (by decide) (by omega) (fun c_8 => ?_) (fun c_8 => ?_)
  · exact absurd c_8 (by omega)
  · skip
    refine lv_iload_n hx hb dX2_again_11 rfl (lv_at hl 3 rfl) ?_
    refine k_bpush hx hb dX2_again_12 (by decide) ?_
    refine k_le (tgt := 27) hx hb dX2_again_14 (by decide) (by omega) (fun c_14 => ?_) (fun c_14 => ?_)
    · skip
      refine lv_aload_n hx hb dX2_again_27 rfl (lv_at hl 0 rfl) ?_
      refine k_stitchesN S hK hP hinX00 hK.2.2.2 dX2_again_28 (by omega) (h) (by omega) ?_
      refine k_lengthN S hK hP hinX10 hK.2.2.1 dX2_again_31 (by omega) ?_
      refine k_nm (fun v4_34 ev4_34 => ?_)
      refine lv_istore (lv' := [(4, .int (zI v4_34)), (3, .ref (E.2.2 (6 + h))), (0, .ref (E.2.2 10)), (1, .int (zI h)), (2, .int (zI r))]) hx hb dX2_again_34 hl (by decide) rfl (fun ls hl => ?_)
      refine lv_iload hx hb dX2_again_36 (lv_at hl 0 rfl) ?_
      refine k_eq0 (tgt := 50) hx hb dX2_again_38 (by decide) (by omega) (fun c_38 => ?_) (fun c_38 => ?_)
      · skip
        exact k_throw (X := kISE) (text := "the hem is empty, or has no room") S hlst hX hZ hP hlocks htab hl.1 (by decide) (S.2.2.2.2 _ (List.mem_cons_of_mem _ (List.mem_append_left _ (List.mem_append_left _ (List.mem_append_left _ (List.mem_append_left _ (List.mem_append_left _ (List.mem_append_left _ (List.mem_append_left _ (List.mem_of_getElem? (i := 2) rfl)))))))))) (S.2.2.2.2 _ (List.mem_cons_of_mem _ (List.mem_append_left _ (List.mem_append_left _ (List.mem_append_left _ (List.mem_append_left _ (List.mem_append_left _ (List.mem_append_left _ (List.mem_append_left _ (List.mem_of_getElem? (i := 3) rfl)))))))))) (fun w h => List.mem_cons_of_mem _ (List.mem_append_left _ (List.mem_append_right _ (h)))) kb_45 hX.2.1.1 kg_45 (by decide) dX2_again_50 dX2_again_53 dX2_again_54 dX2_again_56 dX2_again_59 ⟨Nat.le_of_ble_eq_true rfl, Nat.le_of_ble_eq_true rfl, Nat.le_of_ble_eq_true rfl, Nat.le_of_ble_eq_true rfl⟩
      · skip
        refine lv_iload hx hb dX2_again_41 (lv_at hl 0 rfl) ?_
        refine lv_iload_n hx hb dX2_again_43 rfl (lv_at hl 4 rfl) ?_
        refine k_add hx hb dX2_again_44 ?_
        refine k_bpush hx hb dX2_again_45 (by decide) ?_
        refine k_le (tgt := 60) hx hb dX2_again_47 (by decide) (by omega) (fun c_47 => ?_) (fun c_47 => ?_)
        · exact absurd c_47 (by omega)
        · skip
          exact k_throw (X := kISE) (text := "the hem is empty, or has no room") S hlst hX hZ hP hlocks htab hl.1 (by decide) (S.2.2.2.2 _ (List.mem_cons_of_mem _ (List.mem_append_left _ (List.mem_append_left _ (List.mem_append_left _ (List.mem_append_left _ (List.mem_append_left _ (List.mem_append_left _ (List.mem_append_left _ (List.mem_of_getElem? (i := 2) rfl)))))))))) (S.2.2.2.2 _ (List.mem_cons_of_mem _ (List.mem_append_left _ (List.mem_append_left _ (List.mem_append_left _ (List.mem_append_left _ (List.mem_append_left _ (List.mem_append_left _ (List.mem_append_left _ (List.mem_of_getElem? (i := 3) rfl)))))))))) (fun w h => List.mem_cons_of_mem _ (List.mem_append_left _ (List.mem_append_right _ (h)))) kb_45 hX.2.1.1 kg_45 (by decide) dX2_again_50 dX2_again_53 dX2_again_54 dX2_again_56 dX2_again_59 ⟨Nat.le_of_ble_eq_true rfl, Nat.le_of_ble_eq_true rfl, Nat.le_of_ble_eq_true rfl, Nat.le_of_ble_eq_true rfl⟩
    · exact absurd c_14 (by omega)
abbrev rX2_unpick_b1 : Room := { frames := 7, cells := 1, slots := 6, locals := 137 }
set_option maxHeartbeats 4000000 in
set_option maxRecDepth 100000 in
theorem c_X2_unpick_b1 (l : Launch) (E : kE) (hlst : l.stackTraces = false) (M : kM) (h r : Int) (hb : h < 0 ∨ 2 ≤ h) (h32 : -2147483648 ≤ h ∧ h ≤ 2147483647 ∧ -2147483648 ≤ r ∧ r ≤ 2147483647) : kTX l yX2_unpick wsX2_unpick rX2_unpick_b1 E M [.ref (E.2.2 10), .int (zI h), .int (zI r)] kIOB := by
  refine kTX_of (cc := cX2_unpick) (maxL := 4) RX2 (by decide) rfl rfl (Nat.le_of_ble_eq_true rfl) ?_
  intro pg en s0 mi ar bl me co ls S hP hK hX hZ hlocks htab hl
  have hx := S.1
  have hb := S.2.1
  have hinX00 : ∀ w ∈ wsX00, w ∈ wsX2_unpick := fun w h => List.mem_cons_of_mem _ (List.mem_append_left _ (List.mem_append_left _ (List.mem_append_left _ (List.mem_append_left _ (List.mem_append_right _ (h))))))
  have hinX10 : ∀ w ∈ wsX10, w ∈ wsX2_unpick := fun w h => List.mem_cons_of_mem _ (List.mem_append_left _ (List.mem_append_left _ (List.mem_append_left _ (List.mem_append_right _ (h)))))
  have hinX20 : ∀ w ∈ wsX20, w ∈ wsX2_unpick := fun w h => List.mem_cons_of_mem _ (List.mem_append_left _ (List.mem_append_left _ (List.mem_append_right _ (h))))
  have hl : lv_has ls 4 [(0, .ref (E.2.2 10)), (1, .int (zI h)), (2, .int (zI r))] := hl
  refine lv_aload_n hx hb dX2_unpick_0 rfl (lv_at hl 0 rfl) ?_
  refine lv_iload_n hx hb dX2_unpick_1 rfl (lv_at hl 1 rfl) ?_
  exact k_thr (k_runVX (As := [.int (zI h)]) (rest := []) S hK hX hZ hP va_S.rf (c_X2_hemOf_b l E hlst M h (by omega) (by omega)) (cwV 1 S.2.2.2.2 gX2_unpick_X2_hemOf rfl rfl rfl (by decide +kernel) ⟨Nat.le_of_ble_eq_true rfl, Nat.le_of_ble_eq_true rfl⟩) (k_rX hK hP rfl) rfl hl.1 rfl (Nat.le_of_ble_eq_true rfl) dX2_unpick_2 ⟨Nat.le_of_ble_eq_true rfl, Nat.le_of_ble_eq_true rfl⟩) (fun _ _ _ h => h) va_S.rf (fun ce q9 H1 locs1 hP1 hS1 hc1 hv1 hcl1 => k_out htab hlocks hP1 hS1 hc1 hv1 hcl1 ⟨Nat.le_of_ble_eq_true rfl, Nat.le_of_ble_eq_true rfl⟩)
abbrev rX2_unpick_b2 : Room := { frames := 6, cells := 1, slots := 6, locals := 137 }
set_option maxHeartbeats 4000000 in
set_option maxRecDepth 100000 in
theorem c_X2_unpick_b2 (l : Launch) (E : kE) (hlst : l.stackTraces = false) (M : kM) (h r : Int) (hh : 0 ≤ h ∧ h < 2) (hW : kWf M) (hr : r < 1 ∨ M h 1 < r) (h32 : -2147483648 ≤ r ∧ r ≤ 2147483647) : kTX l yX2_unpick wsX2_unpick rX2_unpick_b2 E M [.ref (E.2.2 10), .int (zI h), .int (zI r)] kIAE := by
  refine kTX_of (cc := cX2_unpick) (maxL := 4) RX2 (by decide) rfl rfl (Nat.le_of_ble_eq_true rfl) ?_
  intro pg en s0 mi ar bl me co ls S hP hK hX hZ hlocks htab hl
  have hx := S.1
  have hb := S.2.1
  have hinX00 : ∀ w ∈ wsX00, w ∈ wsX2_unpick := fun w h => List.mem_cons_of_mem _ (List.mem_append_left _ (List.mem_append_left _ (List.mem_append_left _ (List.mem_append_left _ (List.mem_append_right _ (h))))))
  have hinX10 : ∀ w ∈ wsX10, w ∈ wsX2_unpick := fun w h => List.mem_cons_of_mem _ (List.mem_append_left _ (List.mem_append_left _ (List.mem_append_left _ (List.mem_append_right _ (h)))))
  have hinX20 : ∀ w ∈ wsX20, w ∈ wsX2_unpick := fun w h => List.mem_cons_of_mem _ (List.mem_append_left _ (List.mem_append_left _ (List.mem_append_right _ (h))))
  have hl : lv_has ls 4 [(0, .ref (E.2.2 10)), (1, .int (zI h)), (2, .int (zI r))] := hl
  obtain ⟨hn0, hn1, hv⟩ := hW h (by omega)
  obtain ⟨hs0, hs1, hsv⟩ := hW 2 (by omega)
  refine lv_aload_n hx hb dX2_unpick_0 rfl (lv_at hl 0 rfl) ?_
  refine lv_iload_n hx hb dX2_unpick_1 rfl (lv_at hl 1 rfl) ?_
  refine k_callVr (As := [.int (zI h)]) (rest := []) S hK hP (c_X2_hemOf l E M h (by omega)) (cwV 1 S.2.2.2.2 gX2_unpick_X2_hemOf rfl rfl rfl (by decide +kernel) ⟨Nat.le_of_ble_eq_true rfl, Nat.le_of_ble_eq_true rfl⟩) (k_rX hK hP rfl) rfl hl.1 rfl (Nat.le_of_ble_eq_true rfl) dX2_unpick_2 ⟨Nat.le_of_ble_eq_true rfl, Nat.le_of_ble_eq_true rfl⟩ ?_
  refine lv_astore_n (lv' := [(3, .ref (E.2.2 (6 + h))), (0, .ref (E.2.2 10)), (1, .int (zI h)), (2, .int (zI r))]) hx hb dX2_unpick_5 rfl hl (by decide) rfl (fun ls hl => ?_)
  refine lv_iload_n hx hb dX2_unpick_6 rfl (lv_at hl 3 rfl) ?_
  refine k_push hx hb dX2_unpick_7 ?_
  refine k_lt (tgt := 22) hx hb dX2_unpick_8 (by decide) (by omega) (fun c_8 => ?_) (fun c_8 => ?_)
  · skip
    exact k_throw (X := kIAE) (text := "the hem has not so many stitches") S hlst hX hZ hP hlocks htab hl.1 (by decide) (S.2.2.2.2 _ (List.mem_cons_of_mem _ (List.mem_append_left _ (List.mem_append_left _ (List.mem_append_left _ (List.mem_append_left _ (List.mem_append_left _ (List.mem_append_left _ (List.mem_of_getElem? (i := 0) rfl))))))))) (S.2.2.2.2 _ (List.mem_cons_of_mem _ (List.mem_append_left _ (List.mem_append_left _ (List.mem_append_left _ (List.mem_append_left _ (List.mem_append_left _ (List.mem_append_left _ (List.mem_of_getElem? (i := 1) rfl))))))))) (fun w h => List.mem_cons_of_mem _ (List.mem_append_left _ (List.mem_append_right _ (h)))) kb_55 hX.2.1.2.1 kg_55 (by decide) dX2_unpick_22 dX2_unpick_25 dX2_unpick_26 dX2_unpick_28 dX2_unpick_31 ⟨Nat.le_of_ble_eq_true rfl, Nat.le_of_ble_eq_true rfl, Nat.le_of_ble_eq_true rfl, Nat.le_of_ble_eq_true rfl⟩
  · skip
    refine lv_iload_n hx hb dX2_unpick_11 rfl (lv_at hl 3 rfl) ?_
    refine lv_aload_n hx hb dX2_unpick_12 rfl (lv_at hl 0 rfl) ?_
    refine k_stitchesN S hK hP hinX00 hK.2.2.2 dX2_unpick_13 (by omega) (h) (by omega) ?_
    refine k_lengthN S hK hP hinX10 hK.2.2.1 dX2_unpick_16 (by omega) ?_
    refine k_le (tgt := 32) hx hb dX2_unpick_19 (by decide) (by omega) (fun c_19 => ?_) (fun c_19 => ?_)
    · exact absurd c_19 (by omega)
    · skip
      exact k_throw (X := kIAE) (text := "the hem has not so many stitches") S hlst hX hZ hP hlocks htab hl.1 (by decide) (S.2.2.2.2 _ (List.mem_cons_of_mem _ (List.mem_append_left _ (List.mem_append_left _ (List.mem_append_left _ (List.mem_append_left _ (List.mem_append_left _ (List.mem_append_left _ (List.mem_of_getElem? (i := 0) rfl))))))))) (S.2.2.2.2 _ (List.mem_cons_of_mem _ (List.mem_append_left _ (List.mem_append_left _ (List.mem_append_left _ (List.mem_append_left _ (List.mem_append_left _ (List.mem_append_left _ (List.mem_of_getElem? (i := 1) rfl))))))))) (fun w h => List.mem_cons_of_mem _ (List.mem_append_left _ (List.mem_append_right _ (h)))) kb_55 hX.2.1.2.1 kg_55 (by decide) dX2_unpick_22 dX2_unpick_25 dX2_unpick_26 dX2_unpick_28 dX2_unpick_31 ⟨Nat.le_of_ble_eq_true rfl, Nat.le_of_ble_eq_true rfl, Nat.le_of_ble_eq_true rfl, Nat.le_of_ble_eq_true rfl⟩
abbrev rX2_add_b1 : Room := { frames := 7, cells := 1, slots := 6, locals := 119 }
set_option maxHeartbeats 4000000 in
set_option maxRecDepth 100000 in
theorem c_X2_add_b1 (l : Launch) (E : kE) (hlst : l.stackTraces = false) (M : kM) (st : Int) (hst : st < 0 ∨ 8 < st) (h32 : -2147483648 ≤ st ∧ st ≤ 2147483647) : kTX l yX2_add wsX2_add rX2_add_b1 E M [.ref (E.2.2 10), .int (zI st)] kIAE := by
  refine kTX_of (cc := cX2_add) (maxL := 2) RX2 (by decide) rfl rfl (Nat.le_of_ble_eq_true rfl) ?_
  intro pg en s0 mi ar bl me co ls S hP hK hX hZ hlocks htab hl
  have hx := S.1
  have hb := S.2.1
  have hinX10 : ∀ w ∈ wsX10, w ∈ wsX2_add := fun w h => List.mem_cons_of_mem _ (List.mem_append_left _ (List.mem_append_left _ (List.mem_append_right _ (h))))
  have hinX20 : ∀ w ∈ wsX20, w ∈ wsX2_add := fun w h => List.mem_cons_of_mem _ (List.mem_append_left _ (List.mem_append_left _ (List.mem_append_left _ (List.mem_append_right _ (h)))))
  have hl : lv_has ls 2 [(0, .ref (E.2.2 10)), (1, .int (zI st))] := hl
  refine lv_iload_n hx hb dX2_add_0 rfl (lv_at hl 1 rfl) ?_
  exact k_thr (k_runSX (As := [.int (zI st)]) (rest := []) S hK hX hZ hP va_S.rf (c_X2_requireStitch_b l E hlst M st (by omega) (by omega)) (va_cwS 1 S.2.2.2.2 gX2_add_X2_requireStitch rfl rfl rfl (by decide +kernel) ⟨Nat.le_of_ble_eq_true rfl, Nat.le_of_ble_eq_true rfl⟩) rfl hl.1 rfl (Nat.le_of_ble_eq_true rfl) dX2_add_1 ⟨Nat.le_of_ble_eq_true rfl, Nat.le_of_ble_eq_true rfl⟩) (fun _ _ _ h => h) va_S.rf (fun ce q9 H1 locs1 hP1 hS1 hc1 hv1 hcl1 => k_out htab hlocks hP1 hS1 hc1 hv1 hcl1 ⟨Nat.le_of_ble_eq_true rfl, Nat.le_of_ble_eq_true rfl⟩)
abbrev rX2_add_b2 : Room := { frames := 6, cells := 1, slots := 6, locals := 99 }
set_option maxHeartbeats 4000000 in
set_option maxRecDepth 100000 in
theorem c_X2_add_b2 (l : Launch) (E : kE) (hlst : l.stackTraces = false) (M : kM) (st : Int) (hW : kWf M) (hst : 0 ≤ st ∧ st ≤ 8) (hf : 12 ≤ M 2 1) : kTX l yX2_add wsX2_add rX2_add_b2 E M [.ref (E.2.2 10), .int (zI st)] kISE := by
  refine kTX_of (cc := cX2_add) (maxL := 2) RX2 (by decide) rfl rfl (Nat.le_of_ble_eq_true rfl) ?_
  intro pg en s0 mi ar bl me co ls S hP hK hX hZ hlocks htab hl
  have hx := S.1
  have hb := S.2.1
  have hinX10 : ∀ w ∈ wsX10, w ∈ wsX2_add := fun w h => List.mem_cons_of_mem _ (List.mem_append_left _ (List.mem_append_left _ (List.mem_append_right _ (h))))
  have hinX20 : ∀ w ∈ wsX20, w ∈ wsX2_add := fun w h => List.mem_cons_of_mem _ (List.mem_append_left _ (List.mem_append_left _ (List.mem_append_left _ (List.mem_append_right _ (h)))))
  have hl : lv_has ls 2 [(0, .ref (E.2.2 10)), (1, .int (zI st))] := hl
  obtain ⟨hn0, hn1, hv⟩ := hW 0 (by omega)
  obtain ⟨hm0, hm1, hw1⟩ := hW 1 (by omega)
  obtain ⟨hs0, hs1, hsv⟩ := hW 2 (by omega)
  refine lv_iload_n hx hb dX2_add_0 rfl (lv_at hl 1 rfl) ?_
  refine k_callSv (As := [.int (zI st)]) (rest := []) S hK hP (c_X2_requireStitch l E M st (by omega)) (va_cwS 1 S.2.2.2.2 gX2_add_X2_requireStitch rfl rfl rfl (by decide +kernel) ⟨Nat.le_of_ble_eq_true rfl, Nat.le_of_ble_eq_true rfl⟩) rfl hl.1 rfl (Nat.le_of_ble_eq_true rfl) dX2_add_1 ⟨Nat.le_of_ble_eq_true rfl, Nat.le_of_ble_eq_true rfl⟩ ?_
  refine lv_aload_n hx hb dX2_add_4 rfl (lv_at hl 0 rfl) ?_
  refine k_own S hK hP hinX20 2 (by decide) (S.2.2.2.2 _ (List.mem_cons_of_mem _ (List.mem_append_left _ (List.mem_append_left _ (List.mem_append_left _ (List.mem_append_left _ (List.mem_of_getElem? (i := 2) rfl))))))) dX2_add_5 rfl (2) rfl rfl ?_
  refine k_lengthN S hK hP hinX10 hK.2.2.1 dX2_add_8 (by omega) ?_
  refine k_bpush hx hb dX2_add_11 (by decide) ?_
  refine k_lt (tgt := 26) hx hb dX2_add_13 (by decide) (by omega) (fun c_13 => ?_) (fun c_13 => ?_)
  · exact absurd c_13 (by omega)
  · skip
    exact k_throw (X := kISE) (text := "the sample is full") S hlst hX hZ hP hlocks htab hl.1 (by decide) (S.2.2.2.2 _ (List.mem_cons_of_mem _ (List.mem_append_left _ (List.mem_append_left _ (List.mem_append_left _ (List.mem_append_left _ (List.mem_of_getElem? (i := 0) rfl))))))) (S.2.2.2.2 _ (List.mem_cons_of_mem _ (List.mem_append_left _ (List.mem_append_left _ (List.mem_append_left _ (List.mem_append_left _ (List.mem_of_getElem? (i := 1) rfl))))))) (fun w h => List.mem_cons_of_mem _ (List.mem_append_left _ (List.mem_append_right _ (h)))) kb_45 hX.2.1.1 kg_45 (by decide) dX2_add_16 dX2_add_19 dX2_add_20 dX2_add_22 dX2_add_25 ⟨Nat.le_of_ble_eq_true rfl, Nat.le_of_ble_eq_true rfl, Nat.le_of_ble_eq_true rfl, Nat.le_of_ble_eq_true rfl⟩
abbrev rX2_stitch_b1 : Room := { frames := 7, cells := 1, slots := 6, locals := 120 }
set_option maxHeartbeats 4000000 in
set_option maxRecDepth 100000 in
theorem c_X2_stitch_b1 (l : Launch) (E : kE) (hlst : l.stackTraces = false) (M : kM) (h p : Int) (hb : h < 0 ∨ 2 ≤ h) (h32 : -2147483648 ≤ h ∧ h ≤ 2147483647 ∧ -2147483648 ≤ p ∧ p ≤ 2147483647) : kTX l yX2_stitch wsX2_stitch rX2_stitch_b1 E M [.ref (E.2.2 10), .int (zI h), .int (zI p)] kIOB := by
  refine kTX_of (cc := cX2_stitch) (maxL := 4) RX2 (by decide) rfl rfl (Nat.le_of_ble_eq_true rfl) ?_
  intro pg en s0 mi ar bl me co ls S hP hK hX hZ hlocks htab hl
  have hx := S.1
  have hb := S.2.1
  have hinX00 : ∀ w ∈ wsX00, w ∈ wsX2_stitch := fun w h => List.mem_cons_of_mem _ (List.mem_append_left _ (List.mem_append_left _ (List.mem_append_left _ (List.mem_append_right _ (h)))))
  have hinX10 : ∀ w ∈ wsX10, w ∈ wsX2_stitch := fun w h => List.mem_cons_of_mem _ (List.mem_append_left _ (List.mem_append_right _ (h)))
  have hinX20 : ∀ w ∈ wsX20, w ∈ wsX2_stitch := fun w h => List.mem_cons_of_mem _ (List.mem_append_left _ (List.mem_append_left _ (List.mem_append_right _ (h))))
  have hl : lv_has ls 4 [(0, .ref (E.2.2 10)), (1, .int (zI h)), (2, .int (zI p))] := hl
  refine lv_aload_n hx hb dX2_stitch_0 rfl (lv_at hl 0 rfl) ?_
  refine lv_iload_n hx hb dX2_stitch_1 rfl (lv_at hl 1 rfl) ?_
  exact k_thr (k_runVX (As := [.int (zI h)]) (rest := []) S hK hX hZ hP va_S.rf (c_X2_hemOf_b l E hlst M h (by omega) (by omega)) (cwV 1 S.2.2.2.2 gX2_stitch_X2_hemOf rfl rfl rfl (by decide +kernel) ⟨Nat.le_of_ble_eq_true rfl, Nat.le_of_ble_eq_true rfl⟩) (k_rX hK hP rfl) rfl hl.1 rfl (Nat.le_of_ble_eq_true rfl) dX2_stitch_2 ⟨Nat.le_of_ble_eq_true rfl, Nat.le_of_ble_eq_true rfl⟩) (fun _ _ _ h => h) va_S.rf (fun ce q9 H1 locs1 hP1 hS1 hc1 hv1 hcl1 => k_out htab hlocks hP1 hS1 hc1 hv1 hcl1 ⟨Nat.le_of_ble_eq_true rfl, Nat.le_of_ble_eq_true rfl⟩)
abbrev rX2_stitch_b2 : Room := { frames := 7, cells := 1, slots := 6, locals := 120 }
set_option maxHeartbeats 4000000 in
set_option maxRecDepth 100000 in
theorem c_X2_stitch_b2 (l : Launch) (E : kE) (hlst : l.stackTraces = false) (M : kM) (h p : Int) (hh : 0 ≤ h ∧ h < 2) (hW : kWf M) (hp : p < 0 ∨ M h 1 ≤ p) (h32 : -2147483648 ≤ p ∧ p ≤ 2147483647) : kTX l yX2_stitch wsX2_stitch rX2_stitch_b2 E M [.ref (E.2.2 10), .int (zI h), .int (zI p)] kIOB := by
  refine kTX_of (cc := cX2_stitch) (maxL := 4) RX2 (by decide) rfl rfl (Nat.le_of_ble_eq_true rfl) ?_
  intro pg en s0 mi ar bl me co ls S hP hK hX hZ hlocks htab hl
  have hx := S.1
  have hb := S.2.1
  have hinX00 : ∀ w ∈ wsX00, w ∈ wsX2_stitch := fun w h => List.mem_cons_of_mem _ (List.mem_append_left _ (List.mem_append_left _ (List.mem_append_left _ (List.mem_append_right _ (h)))))
  have hinX10 : ∀ w ∈ wsX10, w ∈ wsX2_stitch := fun w h => List.mem_cons_of_mem _ (List.mem_append_left _ (List.mem_append_right _ (h)))
  have hinX20 : ∀ w ∈ wsX20, w ∈ wsX2_stitch := fun w h => List.mem_cons_of_mem _ (List.mem_append_left _ (List.mem_append_left _ (List.mem_append_right _ (h))))
  have hl : lv_has ls 4 [(0, .ref (E.2.2 10)), (1, .int (zI h)), (2, .int (zI p))] := hl
  obtain ⟨hn0, hn1, hv⟩ := hW h (by omega)
  obtain ⟨hs0, hs1, hsv⟩ := hW 2 (by omega)
  refine lv_aload_n hx hb dX2_stitch_0 rfl (lv_at hl 0 rfl) ?_
  refine lv_iload_n hx hb dX2_stitch_1 rfl (lv_at hl 1 rfl) ?_
  refine k_callVr (As := [.int (zI h)]) (rest := []) S hK hP (c_X2_hemOf l E M h (by omega)) (cwV 1 S.2.2.2.2 gX2_stitch_X2_hemOf rfl rfl rfl (by decide +kernel) ⟨Nat.le_of_ble_eq_true rfl, Nat.le_of_ble_eq_true rfl⟩) (k_rX hK hP rfl) rfl hl.1 rfl (Nat.le_of_ble_eq_true rfl) dX2_stitch_2 ⟨Nat.le_of_ble_eq_true rfl, Nat.le_of_ble_eq_true rfl⟩ ?_
  refine k_stitchesN S hK hP hinX00 hK.2.2.2 dX2_stitch_5 (by omega) (h) (by omega) ?_
  refine lv_astore_n (lv' := [(3, .ref (E.2.2 h)), (0, .ref (E.2.2 10)), (1, .int (zI h)), (2, .int (zI p))]) hx hb dX2_stitch_8 rfl hl (by decide) rfl (fun ls hl => ?_)
  refine lv_aload_n hx hb dX2_stitch_9 rfl (lv_at hl 0 rfl) ?_
  refine lv_iload_n hx hb dX2_stitch_10 rfl (lv_at hl 3 rfl) ?_
  exact k_thr (k_runSX (As := [.ref (E.2.2 h), .int (zI p)]) (rest := []) S hK hX hZ hP va_S.rf (c_X2_requirePlace_b l E hlst M h p (by omega) (by assumption) (by omega) (by omega)) (va_cwS 2 S.2.2.2.2 gX2_stitch_X2_requirePlace rfl rfl rfl (by decide +kernel) ⟨Nat.le_of_ble_eq_true rfl, Nat.le_of_ble_eq_true rfl⟩) rfl hl.1 rfl (Nat.le_of_ble_eq_true rfl) dX2_stitch_11 ⟨Nat.le_of_ble_eq_true rfl, Nat.le_of_ble_eq_true rfl⟩) (fun _ _ _ h => h) va_S.rf (fun ce q9 H1 locs1 hP1 hS1 hc1 hv1 hcl1 => k_out htab hlocks hP1 hS1 hc1 hv1 hcl1 ⟨Nat.le_of_ble_eq_true rfl, Nat.le_of_ble_eq_true rfl⟩)
abbrev rX2_end_b1 : Room := { frames := 7, cells := 1, slots := 6, locals := 120 }
set_option maxHeartbeats 4000000 in
set_option maxRecDepth 100000 in
theorem c_X2_end_b1 (l : Launch) (E : kE) (hlst : l.stackTraces = false) (M : kM) (h r : Int) (hb : h < 0 ∨ 2 ≤ h) (h32 : -2147483648 ≤ h ∧ h ≤ 2147483647 ∧ -2147483648 ≤ r ∧ r ≤ 2147483647) : kTX l yX2_end wsX2_end rX2_end_b1 E M [.ref (E.2.2 10), .int (zI h), .int (zI r)] kIOB := by
  refine kTX_of (cc := cX2_end) (maxL := 4) RX2 (by decide) rfl rfl (Nat.le_of_ble_eq_true rfl) ?_
  intro pg en s0 mi ar bl me co ls S hP hK hX hZ hlocks htab hl
  have hx := S.1
  have hb := S.2.1
  have hinX00 : ∀ w ∈ wsX00, w ∈ wsX2_end := fun w h => List.mem_cons_of_mem _ (List.mem_append_left _ (List.mem_append_left _ (List.mem_append_left _ (List.mem_append_right _ (h)))))
  have hinX10 : ∀ w ∈ wsX10, w ∈ wsX2_end := fun w h => List.mem_cons_of_mem _ (List.mem_append_left _ (List.mem_append_right _ (h)))
  have hinX20 : ∀ w ∈ wsX20, w ∈ wsX2_end := fun w h => List.mem_cons_of_mem _ (List.mem_append_left _ (List.mem_append_left _ (List.mem_append_right _ (h))))
  have hl : lv_has ls 4 [(0, .ref (E.2.2 10)), (1, .int (zI h)), (2, .int (zI r))] := hl
  refine lv_aload_n hx hb dX2_end_0 rfl (lv_at hl 0 rfl) ?_
  refine lv_iload_n hx hb dX2_end_1 rfl (lv_at hl 1 rfl) ?_
  exact k_thr (k_runVX (As := [.int (zI h)]) (rest := []) S hK hX hZ hP va_S.rf (c_X2_hemOf_b l E hlst M h (by omega) (by omega)) (cwV 1 S.2.2.2.2 gX2_end_X2_hemOf rfl rfl rfl (by decide +kernel) ⟨Nat.le_of_ble_eq_true rfl, Nat.le_of_ble_eq_true rfl⟩) (k_rX hK hP rfl) rfl hl.1 rfl (Nat.le_of_ble_eq_true rfl) dX2_end_2 ⟨Nat.le_of_ble_eq_true rfl, Nat.le_of_ble_eq_true rfl⟩) (fun _ _ _ h => h) va_S.rf (fun ce q9 H1 locs1 hP1 hS1 hc1 hv1 hcl1 => k_out htab hlocks hP1 hS1 hc1 hv1 hcl1 ⟨Nat.le_of_ble_eq_true rfl, Nat.le_of_ble_eq_true rfl⟩)
abbrev rX2_end_b2 : Room := { frames := 7, cells := 1, slots := 6, locals := 120 }
set_option maxHeartbeats 4000000 in
set_option maxRecDepth 100000 in
theorem c_X2_end_b2 (l : Launch) (E : kE) (hlst : l.stackTraces = false) (M : kM) (h r : Int) (hh : 0 ≤ h ∧ h < 2) (hW : kWf M) (hp : r < 0 ∨ M h 1 ≤ r) (h32 : -2147483648 ≤ r ∧ r ≤ 2147483647) : kTX l yX2_end wsX2_end rX2_end_b2 E M [.ref (E.2.2 10), .int (zI h), .int (zI r)] kIOB := by
  refine kTX_of (cc := cX2_end) (maxL := 4) RX2 (by decide) rfl rfl (Nat.le_of_ble_eq_true rfl) ?_
  intro pg en s0 mi ar bl me co ls S hP hK hX hZ hlocks htab hl
  have hx := S.1
  have hb := S.2.1
  have hinX00 : ∀ w ∈ wsX00, w ∈ wsX2_end := fun w h => List.mem_cons_of_mem _ (List.mem_append_left _ (List.mem_append_left _ (List.mem_append_left _ (List.mem_append_right _ (h)))))
  have hinX10 : ∀ w ∈ wsX10, w ∈ wsX2_end := fun w h => List.mem_cons_of_mem _ (List.mem_append_left _ (List.mem_append_right _ (h)))
  have hinX20 : ∀ w ∈ wsX20, w ∈ wsX2_end := fun w h => List.mem_cons_of_mem _ (List.mem_append_left _ (List.mem_append_left _ (List.mem_append_right _ (h))))
  have hl : lv_has ls 4 [(0, .ref (E.2.2 10)), (1, .int (zI h)), (2, .int (zI r))] := hl
  obtain ⟨hn0, hn1, hv⟩ := hW h (by omega)
  obtain ⟨hs0, hs1, hsv⟩ := hW 2 (by omega)
  refine lv_aload_n hx hb dX2_end_0 rfl (lv_at hl 0 rfl) ?_
  refine lv_iload_n hx hb dX2_end_1 rfl (lv_at hl 1 rfl) ?_
  refine k_callVr (As := [.int (zI h)]) (rest := []) S hK hP (c_X2_hemOf l E M h (by omega)) (cwV 1 S.2.2.2.2 gX2_end_X2_hemOf rfl rfl rfl (by decide +kernel) ⟨Nat.le_of_ble_eq_true rfl, Nat.le_of_ble_eq_true rfl⟩) (k_rX hK hP rfl) rfl hl.1 rfl (Nat.le_of_ble_eq_true rfl) dX2_end_2 ⟨Nat.le_of_ble_eq_true rfl, Nat.le_of_ble_eq_true rfl⟩ ?_
  refine lv_astore_n (lv' := [(3, .ref (E.2.2 (6 + h))), (0, .ref (E.2.2 10)), (1, .int (zI h)), (2, .int (zI r))]) hx hb dX2_end_5 rfl hl (by decide) rfl (fun ls hl => ?_)
  refine lv_aload_n hx hb dX2_end_6 rfl (lv_at hl 0 rfl) ?_
  refine k_stitchesN S hK hP hinX00 hK.2.2.2 dX2_end_7 (by omega) (h) (by omega) ?_
  refine lv_iload_n hx hb dX2_end_10 rfl (lv_at hl 3 rfl) ?_
  exact k_thr (k_runSX (As := [.ref (E.2.2 h), .int (zI r)]) (rest := []) S hK hX hZ hP va_S.rf (c_X2_requirePlace_b l E hlst M h r (by omega) (by assumption) (by omega) (by omega)) (va_cwS 2 S.2.2.2.2 gX2_end_X2_requirePlace rfl rfl rfl (by decide +kernel) ⟨Nat.le_of_ble_eq_true rfl, Nat.le_of_ble_eq_true rfl⟩) rfl hl.1 rfl (Nat.le_of_ble_eq_true rfl) dX2_end_11 ⟨Nat.le_of_ble_eq_true rfl, Nat.le_of_ble_eq_true rfl⟩) (fun _ _ _ h => h) va_S.rf (fun ce q9 H1 locs1 hP1 hS1 hc1 hv1 hcl1 => k_out htab hlocks hP1 hS1 hc1 hv1 hcl1 ⟨Nat.le_of_ble_eq_true rfl, Nat.le_of_ble_eq_true rfl⟩)
abbrev rX2_rank_b1 : Room := { frames := 7, cells := 1, slots := 6, locals := 120 }
set_option maxHeartbeats 4000000 in
set_option maxRecDepth 100000 in
theorem c_X2_rank_b1 (l : Launch) (E : kE) (hlst : l.stackTraces = false) (M : kM) (h p : Int) (hb : h < 0 ∨ 2 ≤ h) (h32 : -2147483648 ≤ h ∧ h ≤ 2147483647 ∧ -2147483648 ≤ p ∧ p ≤ 2147483647) : kTX l yX2_rank wsX2_rank rX2_rank_b1 E M [.ref (E.2.2 10), .int (zI h), .int (zI p)] kIOB := by
  refine kTX_of (cc := cX2_rank) (maxL := 4) RX2 (by decide) rfl rfl (Nat.le_of_ble_eq_true rfl) ?_
  intro pg en s0 mi ar bl me co ls S hP hK hX hZ hlocks htab hl
  have hx := S.1
  have hb := S.2.1
  have hinX00 : ∀ w ∈ wsX00, w ∈ wsX2_rank := fun w h => List.mem_cons_of_mem _ (List.mem_append_left _ (List.mem_append_left _ (List.mem_append_left _ (List.mem_append_right _ (h)))))
  have hinX10 : ∀ w ∈ wsX10, w ∈ wsX2_rank := fun w h => List.mem_cons_of_mem _ (List.mem_append_left _ (List.mem_append_right _ (h)))
  have hinX20 : ∀ w ∈ wsX20, w ∈ wsX2_rank := fun w h => List.mem_cons_of_mem _ (List.mem_append_left _ (List.mem_append_left _ (List.mem_append_right _ (h))))
  have hl : lv_has ls 4 [(0, .ref (E.2.2 10)), (1, .int (zI h)), (2, .int (zI p))] := hl
  refine lv_aload_n hx hb dX2_rank_0 rfl (lv_at hl 0 rfl) ?_
  refine lv_iload_n hx hb dX2_rank_1 rfl (lv_at hl 1 rfl) ?_
  exact k_thr (k_runVX (As := [.int (zI h)]) (rest := []) S hK hX hZ hP va_S.rf (c_X2_hemOf_b l E hlst M h (by omega) (by omega)) (cwV 1 S.2.2.2.2 gX2_rank_X2_hemOf rfl rfl rfl (by decide +kernel) ⟨Nat.le_of_ble_eq_true rfl, Nat.le_of_ble_eq_true rfl⟩) (k_rX hK hP rfl) rfl hl.1 rfl (Nat.le_of_ble_eq_true rfl) dX2_rank_2 ⟨Nat.le_of_ble_eq_true rfl, Nat.le_of_ble_eq_true rfl⟩) (fun _ _ _ h => h) va_S.rf (fun ce q9 H1 locs1 hP1 hS1 hc1 hv1 hcl1 => k_out htab hlocks hP1 hS1 hc1 hv1 hcl1 ⟨Nat.le_of_ble_eq_true rfl, Nat.le_of_ble_eq_true rfl⟩)
abbrev rX2_rank_b2 : Room := { frames := 7, cells := 1, slots := 6, locals := 120 }
set_option maxHeartbeats 4000000 in
set_option maxRecDepth 100000 in
theorem c_X2_rank_b2 (l : Launch) (E : kE) (hlst : l.stackTraces = false) (M : kM) (h p : Int) (hh : 0 ≤ h ∧ h < 2) (hW : kWf M) (hp : p < 0 ∨ M h 1 ≤ p) (h32 : -2147483648 ≤ p ∧ p ≤ 2147483647) : kTX l yX2_rank wsX2_rank rX2_rank_b2 E M [.ref (E.2.2 10), .int (zI h), .int (zI p)] kIOB := by
  refine kTX_of (cc := cX2_rank) (maxL := 4) RX2 (by decide) rfl rfl (Nat.le_of_ble_eq_true rfl) ?_
  intro pg en s0 mi ar bl me co ls S hP hK hX hZ hlocks htab hl
  have hx := S.1
  have hb := S.2.1
  have hinX00 : ∀ w ∈ wsX00, w ∈ wsX2_rank := fun w h => List.mem_cons_of_mem _ (List.mem_append_left _ (List.mem_append_left _ (List.mem_append_left _ (List.mem_append_right _ (h)))))
  have hinX10 : ∀ w ∈ wsX10, w ∈ wsX2_rank := fun w h => List.mem_cons_of_mem _ (List.mem_append_left _ (List.mem_append_right _ (h)))
  have hinX20 : ∀ w ∈ wsX20, w ∈ wsX2_rank := fun w h => List.mem_cons_of_mem _ (List.mem_append_left _ (List.mem_append_left _ (List.mem_append_right _ (h))))
  have hl : lv_has ls 4 [(0, .ref (E.2.2 10)), (1, .int (zI h)), (2, .int (zI p))] := hl
  obtain ⟨hn0, hn1, hv⟩ := hW h (by omega)
  obtain ⟨hs0, hs1, hsv⟩ := hW 2 (by omega)
  refine lv_aload_n hx hb dX2_rank_0 rfl (lv_at hl 0 rfl) ?_
  refine lv_iload_n hx hb dX2_rank_1 rfl (lv_at hl 1 rfl) ?_
  refine k_callVr (As := [.int (zI h)]) (rest := []) S hK hP (c_X2_hemOf l E M h (by omega)) (cwV 1 S.2.2.2.2 gX2_rank_X2_hemOf rfl rfl rfl (by decide +kernel) ⟨Nat.le_of_ble_eq_true rfl, Nat.le_of_ble_eq_true rfl⟩) (k_rX hK hP rfl) rfl hl.1 rfl (Nat.le_of_ble_eq_true rfl) dX2_rank_2 ⟨Nat.le_of_ble_eq_true rfl, Nat.le_of_ble_eq_true rfl⟩ ?_
  refine lv_astore_n (lv' := [(3, .ref (E.2.2 (6 + h))), (0, .ref (E.2.2 10)), (1, .int (zI h)), (2, .int (zI p))]) hx hb dX2_rank_5 rfl hl (by decide) rfl (fun ls hl => ?_)
  refine lv_aload_n hx hb dX2_rank_6 rfl (lv_at hl 0 rfl) ?_
  refine k_stitchesN S hK hP hinX00 hK.2.2.2 dX2_rank_7 (by omega) (h) (by omega) ?_
  refine lv_iload_n hx hb dX2_rank_10 rfl (lv_at hl 3 rfl) ?_
  exact k_thr (k_runSX (As := [.ref (E.2.2 h), .int (zI p)]) (rest := []) S hK hX hZ hP va_S.rf (c_X2_requirePlace_b l E hlst M h p (by omega) (by assumption) (by omega) (by omega)) (va_cwS 2 S.2.2.2.2 gX2_rank_X2_requirePlace rfl rfl rfl (by decide +kernel) ⟨Nat.le_of_ble_eq_true rfl, Nat.le_of_ble_eq_true rfl⟩) rfl hl.1 rfl (Nat.le_of_ble_eq_true rfl) dX2_rank_11 ⟨Nat.le_of_ble_eq_true rfl, Nat.le_of_ble_eq_true rfl⟩) (fun _ _ _ h => h) va_S.rf (fun ce q9 H1 locs1 hP1 hS1 hc1 hv1 hcl1 => k_out htab hlocks hP1 hS1 hc1 hv1 hcl1 ⟨Nat.le_of_ble_eq_true rfl, Nat.le_of_ble_eq_true rfl⟩)
abbrev rX2_common_b1 : Room := { frames := 7, cells := 1, slots := 6, locals := 120 }
set_option maxHeartbeats 4000000 in
set_option maxRecDepth 100000 in
theorem c_X2_common_b1 (l : Launch) (E : kE) (hlst : l.stackTraces = false) (M : kM) (h a b : Int) (hb : h < 0 ∨ 2 ≤ h) (h32 : -2147483648 ≤ h ∧ h ≤ 2147483647 ∧ -2147483648 ≤ a ∧ a ≤ 2147483647 ∧ -2147483648 ≤ b ∧ b ≤ 2147483647) : kTX l yX2_common wsX2_common rX2_common_b1 E M [.ref (E.2.2 10), .int (zI h), .int (zI a), .int (zI b)] kIOB := by
  refine kTX_of (cc := cX2_common) (maxL := 5) RX2 (by decide) rfl rfl (Nat.le_of_ble_eq_true rfl) ?_
  intro pg en s0 mi ar bl me co ls S hP hK hX hZ hlocks htab hl
  have hx := S.1
  have hb := S.2.1
  have hinX00 : ∀ w ∈ wsX00, w ∈ wsX2_common := fun w h => List.mem_cons_of_mem _ (List.mem_append_left _ (List.mem_append_left _ (List.mem_append_left _ (List.mem_append_right _ (h)))))
  have hinX10 : ∀ w ∈ wsX10, w ∈ wsX2_common := fun w h => List.mem_cons_of_mem _ (List.mem_append_left _ (List.mem_append_right _ (h)))
  have hinX20 : ∀ w ∈ wsX20, w ∈ wsX2_common := fun w h => List.mem_cons_of_mem _ (List.mem_append_left _ (List.mem_append_left _ (List.mem_append_right _ (h))))
  have hl : lv_has ls 5 [(0, .ref (E.2.2 10)), (1, .int (zI h)), (2, .int (zI a)), (3, .int (zI b))] := hl
  refine lv_aload_n hx hb dX2_common_0 rfl (lv_at hl 0 rfl) ?_
  refine lv_iload_n hx hb dX2_common_1 rfl (lv_at hl 1 rfl) ?_
  exact k_thr (k_runVX (As := [.int (zI h)]) (rest := []) S hK hX hZ hP va_S.rf (c_X2_hemOf_b l E hlst M h (by omega) (by omega)) (cwV 1 S.2.2.2.2 gX2_common_X2_hemOf rfl rfl rfl (by decide +kernel) ⟨Nat.le_of_ble_eq_true rfl, Nat.le_of_ble_eq_true rfl⟩) (k_rX hK hP rfl) rfl hl.1 rfl (Nat.le_of_ble_eq_true rfl) dX2_common_2 ⟨Nat.le_of_ble_eq_true rfl, Nat.le_of_ble_eq_true rfl⟩) (fun _ _ _ h => h) va_S.rf (fun ce q9 H1 locs1 hP1 hS1 hc1 hv1 hcl1 => k_out htab hlocks hP1 hS1 hc1 hv1 hcl1 ⟨Nat.le_of_ble_eq_true rfl, Nat.le_of_ble_eq_true rfl⟩)
abbrev rX2_common_b2 : Room := { frames := 7, cells := 1, slots := 6, locals := 120 }
set_option maxHeartbeats 4000000 in
set_option maxRecDepth 100000 in
theorem c_X2_common_b2 (l : Launch) (E : kE) (hlst : l.stackTraces = false) (M : kM) (h a b : Int) (hh : 0 ≤ h ∧ h < 2) (hW : kWf M) (hp : a < 0 ∨ M h 1 ≤ a) (h32 : -2147483648 ≤ a ∧ a ≤ 2147483647 ∧ -2147483648 ≤ b ∧ b ≤ 2147483647) : kTX l yX2_common wsX2_common rX2_common_b2 E M [.ref (E.2.2 10), .int (zI h), .int (zI a), .int (zI b)] kIOB := by
  refine kTX_of (cc := cX2_common) (maxL := 5) RX2 (by decide) rfl rfl (Nat.le_of_ble_eq_true rfl) ?_
  intro pg en s0 mi ar bl me co ls S hP hK hX hZ hlocks htab hl
  have hx := S.1
  have hb := S.2.1
  have hinX00 : ∀ w ∈ wsX00, w ∈ wsX2_common := fun w h => List.mem_cons_of_mem _ (List.mem_append_left _ (List.mem_append_left _ (List.mem_append_left _ (List.mem_append_right _ (h)))))
  have hinX10 : ∀ w ∈ wsX10, w ∈ wsX2_common := fun w h => List.mem_cons_of_mem _ (List.mem_append_left _ (List.mem_append_right _ (h)))
  have hinX20 : ∀ w ∈ wsX20, w ∈ wsX2_common := fun w h => List.mem_cons_of_mem _ (List.mem_append_left _ (List.mem_append_left _ (List.mem_append_right _ (h))))
  have hl : lv_has ls 5 [(0, .ref (E.2.2 10)), (1, .int (zI h)), (2, .int (zI a)), (3, .int (zI b))] := hl
  obtain ⟨hn0, hn1, hv⟩ := hW h (by omega)
  obtain ⟨hs0, hs1, hsv⟩ := hW 2 (by omega)
  refine lv_aload_n hx hb dX2_common_0 rfl (lv_at hl 0 rfl) ?_
  refine lv_iload_n hx hb dX2_common_1 rfl (lv_at hl 1 rfl) ?_
  refine k_callVr (As := [.int (zI h)]) (rest := []) S hK hP (c_X2_hemOf l E M h (by omega)) (cwV 1 S.2.2.2.2 gX2_common_X2_hemOf rfl rfl rfl (by decide +kernel) ⟨Nat.le_of_ble_eq_true rfl, Nat.le_of_ble_eq_true rfl⟩) (k_rX hK hP rfl) rfl hl.1 rfl (Nat.le_of_ble_eq_true rfl) dX2_common_2 ⟨Nat.le_of_ble_eq_true rfl, Nat.le_of_ble_eq_true rfl⟩ ?_
  refine k_stitchesN S hK hP hinX00 hK.2.2.2 dX2_common_5 (by omega) (h) (by omega) ?_
  refine lv_astore (lv' := [(4, .ref (E.2.2 h)), (0, .ref (E.2.2 10)), (1, .int (zI h)), (2, .int (zI a)), (3, .int (zI b))]) hx hb dX2_common_8 hl (by decide) rfl (fun ls hl => ?_)
  refine lv_aload hx hb dX2_common_10 (lv_at hl 0 rfl) ?_
  refine lv_iload_n hx hb dX2_common_12 rfl (lv_at hl 3 rfl) ?_
  exact k_thr (k_runSX (As := [.ref (E.2.2 h), .int (zI a)]) (rest := []) S hK hX hZ hP va_S.rf (c_X2_requirePlace_b l E hlst M h a (by omega) (by assumption) (by omega) (by omega)) (va_cwS 2 S.2.2.2.2 gX2_common_X2_requirePlace rfl rfl rfl (by decide +kernel) ⟨Nat.le_of_ble_eq_true rfl, Nat.le_of_ble_eq_true rfl⟩) rfl hl.1 rfl (Nat.le_of_ble_eq_true rfl) dX2_common_13 ⟨Nat.le_of_ble_eq_true rfl, Nat.le_of_ble_eq_true rfl⟩) (fun _ _ _ h => h) va_S.rf (fun ce q9 H1 locs1 hP1 hS1 hc1 hv1 hcl1 => k_out htab hlocks hP1 hS1 hc1 hv1 hcl1 ⟨Nat.le_of_ble_eq_true rfl, Nat.le_of_ble_eq_true rfl⟩)
abbrev rX2_common_b3 : Room := { frames := 7, cells := 1, slots := 6, locals := 120 }
set_option maxHeartbeats 4000000 in
set_option maxRecDepth 100000 in
theorem c_X2_common_b3 (l : Launch) (E : kE) (hlst : l.stackTraces = false) (M : kM) (h a b : Int) (hh : 0 ≤ h ∧ h < 2) (hW : kWf M) (ha : 0 ≤ a ∧ a < M h 1) (hp : b < 0 ∨ M h 1 ≤ b) (h32 : -2147483648 ≤ a ∧ a ≤ 2147483647 ∧ -2147483648 ≤ b ∧ b ≤ 2147483647) : kTX l yX2_common wsX2_common rX2_common_b3 E M [.ref (E.2.2 10), .int (zI h), .int (zI a), .int (zI b)] kIOB := by
  refine kTX_of (cc := cX2_common) (maxL := 5) RX2 (by decide) rfl rfl (Nat.le_of_ble_eq_true rfl) ?_
  intro pg en s0 mi ar bl me co ls S hP hK hX hZ hlocks htab hl
  have hx := S.1
  have hb := S.2.1
  have hinX00 : ∀ w ∈ wsX00, w ∈ wsX2_common := fun w h => List.mem_cons_of_mem _ (List.mem_append_left _ (List.mem_append_left _ (List.mem_append_left _ (List.mem_append_right _ (h)))))
  have hinX10 : ∀ w ∈ wsX10, w ∈ wsX2_common := fun w h => List.mem_cons_of_mem _ (List.mem_append_left _ (List.mem_append_right _ (h)))
  have hinX20 : ∀ w ∈ wsX20, w ∈ wsX2_common := fun w h => List.mem_cons_of_mem _ (List.mem_append_left _ (List.mem_append_left _ (List.mem_append_right _ (h))))
  have hl : lv_has ls 5 [(0, .ref (E.2.2 10)), (1, .int (zI h)), (2, .int (zI a)), (3, .int (zI b))] := hl
  obtain ⟨hn0, hn1, hv⟩ := hW h (by omega)
  obtain ⟨hs0, hs1, hsv⟩ := hW 2 (by omega)
  refine lv_aload_n hx hb dX2_common_0 rfl (lv_at hl 0 rfl) ?_
  refine lv_iload_n hx hb dX2_common_1 rfl (lv_at hl 1 rfl) ?_
  refine k_callVr (As := [.int (zI h)]) (rest := []) S hK hP (c_X2_hemOf l E M h (by omega)) (cwV 1 S.2.2.2.2 gX2_common_X2_hemOf rfl rfl rfl (by decide +kernel) ⟨Nat.le_of_ble_eq_true rfl, Nat.le_of_ble_eq_true rfl⟩) (k_rX hK hP rfl) rfl hl.1 rfl (Nat.le_of_ble_eq_true rfl) dX2_common_2 ⟨Nat.le_of_ble_eq_true rfl, Nat.le_of_ble_eq_true rfl⟩ ?_
  refine k_stitchesN S hK hP hinX00 hK.2.2.2 dX2_common_5 (by omega) (h) (by omega) ?_
  refine lv_astore (lv' := [(4, .ref (E.2.2 h)), (0, .ref (E.2.2 10)), (1, .int (zI h)), (2, .int (zI a)), (3, .int (zI b))]) hx hb dX2_common_8 hl (by decide) rfl (fun ls hl => ?_)
  refine lv_aload hx hb dX2_common_10 (lv_at hl 0 rfl) ?_
  refine lv_iload_n hx hb dX2_common_12 rfl (lv_at hl 3 rfl) ?_
  refine k_callSv (As := [.ref (E.2.2 h), .int (zI a)]) (rest := []) S hK hP (c_X2_requirePlace l E M h a (by omega) (by assumption) (by omega)) (va_cwS 2 S.2.2.2.2 gX2_common_X2_requirePlace rfl rfl rfl (by decide +kernel) ⟨Nat.le_of_ble_eq_true rfl, Nat.le_of_ble_eq_true rfl⟩) rfl hl.1 rfl (Nat.le_of_ble_eq_true rfl) dX2_common_13 ⟨Nat.le_of_ble_eq_true rfl, Nat.le_of_ble_eq_true rfl⟩ ?_
  refine lv_aload hx hb dX2_common_16 (lv_at hl 0 rfl) ?_
  refine lv_iload_n hx hb dX2_common_18 rfl (lv_at hl 4 rfl) ?_
  exact k_thr (k_runSX (As := [.ref (E.2.2 h), .int (zI b)]) (rest := []) S hK hX hZ hP va_S.rf (c_X2_requirePlace_b l E hlst M h b (by omega) (by assumption) (by omega) (by omega)) (va_cwS 2 S.2.2.2.2 gX2_common_X2_requirePlace rfl rfl rfl (by decide +kernel) ⟨Nat.le_of_ble_eq_true rfl, Nat.le_of_ble_eq_true rfl⟩) rfl hl.1 rfl (Nat.le_of_ble_eq_true rfl) dX2_common_19 ⟨Nat.le_of_ble_eq_true rfl, Nat.le_of_ble_eq_true rfl⟩) (fun _ _ _ h => h) va_S.rf (fun ce q9 H1 locs1 hP1 hS1 hc1 hv1 hcl1 => k_out htab hlocks hP1 hS1 hc1 hv1 hcl1 ⟨Nat.le_of_ble_eq_true rfl, Nat.le_of_ble_eq_true rfl⟩)
abbrev rX2_against_b1 : Room := { frames := 7, cells := 1, slots := 6, locals := 120 }
set_option maxHeartbeats 4000000 in
set_option maxRecDepth 100000 in
theorem c_X2_against_b1 (l : Launch) (E : kE) (hlst : l.stackTraces = false) (M : kM) (a b : Int) (hW : kWf M) (hp : a < 0 ∨ M 0 1 ≤ a) (h32 : -2147483648 ≤ a ∧ a ≤ 2147483647 ∧ -2147483648 ≤ b ∧ b ≤ 2147483647) : kTX l yX2_against wsX2_against rX2_against_b1 E M [.ref (E.2.2 10), .int (zI a), .int (zI b)] kIOB := by
  refine kTX_of (cc := cX2_against) (maxL := 3) RX2 (by decide) rfl rfl (Nat.le_of_ble_eq_true rfl) ?_
  intro pg en s0 mi ar bl me co ls S hP hK hX hZ hlocks htab hl
  have hx := S.1
  have hb := S.2.1
  have hinX00 : ∀ w ∈ wsX00, w ∈ wsX2_against := fun w h => List.mem_cons_of_mem _ (List.mem_append_left _ (List.mem_append_left _ (List.mem_append_right _ (h))))
  have hinX10 : ∀ w ∈ wsX10, w ∈ wsX2_against := fun w h => List.mem_cons_of_mem _ (List.mem_append_left _ (List.mem_append_right _ (h)))
  have hinX20 : ∀ w ∈ wsX20, w ∈ wsX2_against := fun w h => List.mem_cons_of_mem _ (List.mem_append_left _ (List.mem_append_left _ (List.mem_append_left _ (List.mem_append_right _ (h)))))
  have hl : lv_has ls 3 [(0, .ref (E.2.2 10)), (1, .int (zI a)), (2, .int (zI b))] := hl
  obtain ⟨hn0, hn1, hv⟩ := hW 0 (by omega)
  obtain ⟨hm0, hm1, hw1⟩ := hW 1 (by omega)
  obtain ⟨hs0, hs1, hsv⟩ := hW 2 (by omega)
  refine lv_aload_n hx hb dX2_against_0 rfl (lv_at hl 0 rfl) ?_
  refine k_own S hK hP hinX20 0 (by decide) (S.2.2.2.2 _ (List.mem_cons_of_mem _ (List.mem_append_left _ (List.mem_append_left _ (List.mem_append_left _ (List.mem_append_left _ (List.mem_append_left _ (List.mem_of_getElem? (i := 0) rfl)))))))) dX2_against_1 rfl (6 + 0) rfl rfl ?_
  refine k_stitchesN S hK hP hinX00 hK.2.2.2 dX2_against_4 (by omega) (0) (by omega) ?_
  refine lv_iload_n hx hb dX2_against_7 rfl (lv_at hl 1 rfl) ?_
  exact k_thr (k_runSX (As := [.ref (E.2.2 0), .int (zI a)]) (rest := []) S hK hX hZ hP va_S.rf (c_X2_requirePlace_b l E hlst M 0 a (by omega) (by assumption) (by omega) (by omega)) (va_cwS 2 S.2.2.2.2 gX2_against_X2_requirePlace rfl rfl rfl (by decide +kernel) ⟨Nat.le_of_ble_eq_true rfl, Nat.le_of_ble_eq_true rfl⟩) rfl hl.1 rfl (Nat.le_of_ble_eq_true rfl) dX2_against_8 ⟨Nat.le_of_ble_eq_true rfl, Nat.le_of_ble_eq_true rfl⟩) (fun _ _ _ h => h) va_S.rf (fun ce q9 H1 locs1 hP1 hS1 hc1 hv1 hcl1 => k_out htab hlocks hP1 hS1 hc1 hv1 hcl1 ⟨Nat.le_of_ble_eq_true rfl, Nat.le_of_ble_eq_true rfl⟩)
abbrev rX2_against_b2 : Room := { frames := 7, cells := 1, slots := 6, locals := 120 }
set_option maxHeartbeats 4000000 in
set_option maxRecDepth 100000 in
theorem c_X2_against_b2 (l : Launch) (E : kE) (hlst : l.stackTraces = false) (M : kM) (a b : Int) (hW : kWf M) (ha : 0 ≤ a ∧ a < M 0 1) (hp : b < 0 ∨ M 1 1 ≤ b) (h32 : -2147483648 ≤ a ∧ a ≤ 2147483647 ∧ -2147483648 ≤ b ∧ b ≤ 2147483647) : kTX l yX2_against wsX2_against rX2_against_b2 E M [.ref (E.2.2 10), .int (zI a), .int (zI b)] kIOB := by
  refine kTX_of (cc := cX2_against) (maxL := 3) RX2 (by decide) rfl rfl (Nat.le_of_ble_eq_true rfl) ?_
  intro pg en s0 mi ar bl me co ls S hP hK hX hZ hlocks htab hl
  have hx := S.1
  have hb := S.2.1
  have hinX00 : ∀ w ∈ wsX00, w ∈ wsX2_against := fun w h => List.mem_cons_of_mem _ (List.mem_append_left _ (List.mem_append_left _ (List.mem_append_right _ (h))))
  have hinX10 : ∀ w ∈ wsX10, w ∈ wsX2_against := fun w h => List.mem_cons_of_mem _ (List.mem_append_left _ (List.mem_append_right _ (h)))
  have hinX20 : ∀ w ∈ wsX20, w ∈ wsX2_against := fun w h => List.mem_cons_of_mem _ (List.mem_append_left _ (List.mem_append_left _ (List.mem_append_left _ (List.mem_append_right _ (h)))))
  have hl : lv_has ls 3 [(0, .ref (E.2.2 10)), (1, .int (zI a)), (2, .int (zI b))] := hl
  obtain ⟨hn0, hn1, hv⟩ := hW 0 (by omega)
  obtain ⟨hm0, hm1, hw1⟩ := hW 1 (by omega)
  obtain ⟨hs0, hs1, hsv⟩ := hW 2 (by omega)
  refine lv_aload_n hx hb dX2_against_0 rfl (lv_at hl 0 rfl) ?_
  refine k_own S hK hP hinX20 0 (by decide) (S.2.2.2.2 _ (List.mem_cons_of_mem _ (List.mem_append_left _ (List.mem_append_left _ (List.mem_append_left _ (List.mem_append_left _ (List.mem_append_left _ (List.mem_of_getElem? (i := 0) rfl)))))))) dX2_against_1 rfl (6 + 0) rfl rfl ?_
  refine k_stitchesN S hK hP hinX00 hK.2.2.2 dX2_against_4 (by omega) (0) (by omega) ?_
  refine lv_iload_n hx hb dX2_against_7 rfl (lv_at hl 1 rfl) ?_
  refine k_callSv (As := [.ref (E.2.2 0), .int (zI a)]) (rest := []) S hK hP (c_X2_requirePlace l E M 0 a (by omega) (by assumption) (by omega)) (va_cwS 2 S.2.2.2.2 gX2_against_X2_requirePlace rfl rfl rfl (by decide +kernel) ⟨Nat.le_of_ble_eq_true rfl, Nat.le_of_ble_eq_true rfl⟩) rfl hl.1 rfl (Nat.le_of_ble_eq_true rfl) dX2_against_8 ⟨Nat.le_of_ble_eq_true rfl, Nat.le_of_ble_eq_true rfl⟩ ?_
  refine lv_aload_n hx hb dX2_against_11 rfl (lv_at hl 0 rfl) ?_
  refine k_own S hK hP hinX20 1 (by decide) (S.2.2.2.2 _ (List.mem_cons_of_mem _ (List.mem_append_left _ (List.mem_append_left _ (List.mem_append_left _ (List.mem_append_left _ (List.mem_append_left _ (List.mem_of_getElem? (i := 1) rfl)))))))) dX2_against_12 rfl (6 + 1) rfl rfl ?_
  refine k_stitchesN S hK hP hinX00 hK.2.2.2 dX2_against_15 (by omega) (1) (by omega) ?_
  refine lv_iload_n hx hb dX2_against_18 rfl (lv_at hl 2 rfl) ?_
  exact k_thr (k_runSX (As := [.ref (E.2.2 1), .int (zI b)]) (rest := []) S hK hX hZ hP va_S.rf (c_X2_requirePlace_b l E hlst M 1 b (by omega) (by assumption) (by omega) (by omega)) (va_cwS 2 S.2.2.2.2 gX2_against_X2_requirePlace rfl rfl rfl (by decide +kernel) ⟨Nat.le_of_ble_eq_true rfl, Nat.le_of_ble_eq_true rfl⟩) rfl hl.1 rfl (Nat.le_of_ble_eq_true rfl) dX2_against_19 ⟨Nat.le_of_ble_eq_true rfl, Nat.le_of_ble_eq_true rfl⟩) (fun _ _ _ h => h) va_S.rf (fun ce q9 H1 locs1 hP1 hS1 hc1 hv1 hcl1 => k_out htab hlocks hP1 hS1 hc1 hv1 hcl1 ⟨Nat.le_of_ble_eq_true rfl, Nat.le_of_ble_eq_true rfl⟩)
abbrev rX2_count_b1 : Room := { frames := 6, cells := 1, slots := 6, locals := 116 }
set_option maxHeartbeats 4000000 in
set_option maxRecDepth 100000 in
theorem c_X2_count_b1 (l : Launch) (E : kE) (hlst : l.stackTraces = false) (M : kM) (w : Int) (hw : w < 0 ∨ 5 < w) (h32 : -2147483648 ≤ w ∧ w ≤ 2147483647) : kTX l yX2_count wsX2_count rX2_count_b1 E M [.ref (E.2.2 10), .int (zI w)] kIOB := by
  refine kTX_of (cc := cX2_count) (maxL := 2) RX2 (by decide) rfl rfl (Nat.le_of_ble_eq_true rfl) ?_
  intro pg en s0 mi ar bl me co ls S hP hK hX hZ hlocks htab hl
  have hx := S.1
  have hb := S.2.1
  have hinX00 : ∀ w ∈ wsX00, w ∈ wsX2_count := fun w h => List.mem_cons_of_mem _ (List.mem_append_left _ (List.mem_append_left _ (List.mem_append_right _ (h))))
  have hinX10 : ∀ w ∈ wsX10, w ∈ wsX2_count := fun w h => List.mem_cons_of_mem _ (List.mem_append_left _ (List.mem_append_right _ (h)))
  have hinX20 : ∀ w ∈ wsX20, w ∈ wsX2_count := fun w h => List.mem_cons_of_mem _ (List.mem_append_left _ (List.mem_append_left _ (List.mem_append_left _ (List.mem_append_right _ (h)))))
  have hl : lv_has ls 2 [(0, .ref (E.2.2 10)), (1, .int (zI w))] := hl
  refine lv_iload_n hx hb dX2_count_0 rfl (lv_at hl 1 rfl) ?_
  refine lv_tableOut (tgt := 95) hx hb dX2_count_1 (by rw [zI_toInt (by omega)]; omega) (by decide) ?_
  exact k_throw (X := kIOB) (text := "what is not 0 to 5") S hlst hX hZ hP hlocks htab hl.1 (by decide) (S.2.2.2.2 _ (List.mem_cons_of_mem _ (List.mem_append_left _ (List.mem_append_left _ (List.mem_append_left _ (List.mem_append_left _ (List.mem_append_left _ (List.mem_of_getElem? (i := 0) rfl)))))))) (S.2.2.2.2 _ (List.mem_cons_of_mem _ (List.mem_append_left _ (List.mem_append_left _ (List.mem_append_left _ (List.mem_append_left _ (List.mem_append_left _ (List.mem_of_getElem? (i := 1) rfl)))))))) (fun w h => List.mem_cons_of_mem _ (List.mem_append_right _ (h))) kb_96 hX.2.1.2.2 kg_96 (by decide) dX2_count_95 dX2_count_98 dX2_count_99 dX2_count_101 dX2_count_104 ⟨Nat.le_of_ble_eq_true rfl, Nat.le_of_ble_eq_true rfl, Nat.le_of_ble_eq_true rfl, Nat.le_of_ble_eq_true rfl⟩
abbrev rX2_repeat_b1 : Room := { frames := 7, cells := 1, slots := 6, locals := 120 }
set_option maxHeartbeats 4000000 in
set_option maxRecDepth 100000 in
theorem c_X2_repeat_b1 (l : Launch) (E : kE) (hlst : l.stackTraces = false) (M : kM) (h w : Int) (hb : h < 0 ∨ 2 ≤ h) (h32 : -2147483648 ≤ h ∧ h ≤ 2147483647 ∧ -2147483648 ≤ w ∧ w ≤ 2147483647) : kTX l yX2_repeat wsX2_repeat rX2_repeat_b1 E M [.ref (E.2.2 10), .int (zI h), .int (zI w)] kIOB := by
  refine kTX_of (cc := cX2_repeat) (maxL := 7) RX2 (by decide) rfl rfl (Nat.le_of_ble_eq_true rfl) ?_
  intro pg en s0 mi ar bl me co ls S hP hK hX hZ hlocks htab hl
  have hx := S.1
  have hb := S.2.1
  have hinX00 : ∀ w ∈ wsX00, w ∈ wsX2_repeat := fun w h => List.mem_cons_of_mem _ (List.mem_append_left _ (List.mem_append_left _ (List.mem_append_left _ (List.mem_append_right _ (h)))))
  have hinX10 : ∀ w ∈ wsX10, w ∈ wsX2_repeat := fun w h => List.mem_cons_of_mem _ (List.mem_append_left _ (List.mem_append_right _ (h)))
  have hinX20 : ∀ w ∈ wsX20, w ∈ wsX2_repeat := fun w h => List.mem_cons_of_mem _ (List.mem_append_left _ (List.mem_append_left _ (List.mem_append_right _ (h))))
  have hl : lv_has ls 7 [(0, .ref (E.2.2 10)), (1, .int (zI h)), (2, .int (zI w))] := hl
  refine lv_aload_n hx hb dX2_repeat_0 rfl (lv_at hl 0 rfl) ?_
  refine lv_iload_n hx hb dX2_repeat_1 rfl (lv_at hl 1 rfl) ?_
  exact k_thr (k_runVX (As := [.int (zI h)]) (rest := []) S hK hX hZ hP va_S.rf (c_X2_hemOf_b l E hlst M h (by omega) (by omega)) (cwV 1 S.2.2.2.2 gX2_repeat_X2_hemOf rfl rfl rfl (by decide +kernel) ⟨Nat.le_of_ble_eq_true rfl, Nat.le_of_ble_eq_true rfl⟩) (k_rX hK hP rfl) rfl hl.1 rfl (Nat.le_of_ble_eq_true rfl) dX2_repeat_2 ⟨Nat.le_of_ble_eq_true rfl, Nat.le_of_ble_eq_true rfl⟩) (fun _ _ _ h => h) va_S.rf (fun ce q9 H1 locs1 hP1 hS1 hc1 hv1 hcl1 => k_out htab hlocks hP1 hS1 hc1 hv1 hcl1 ⟨Nat.le_of_ble_eq_true rfl, Nat.le_of_ble_eq_true rfl⟩)
abbrev rX2_repeat_b2 : Room := { frames := 6, cells := 1, slots := 6, locals := 99 }
set_option maxHeartbeats 4000000 in
set_option maxRecDepth 100000 in
theorem c_X2_repeat_b2 (l : Launch) (E : kE) (hlst : l.stackTraces = false) (M : kM) (h w : Int) (hh : 0 ≤ h ∧ h < 2) (hw : w < 0 ∨ 2 < w) (h32 : -2147483648 ≤ w ∧ w ≤ 2147483647) : kTX l yX2_repeat wsX2_repeat rX2_repeat_b2 E M [.ref (E.2.2 10), .int (zI h), .int (zI w)] kIOB := by
  refine kTX_of (cc := cX2_repeat) (maxL := 7) RX2 (by decide) rfl rfl (Nat.le_of_ble_eq_true rfl) ?_
  intro pg en s0 mi ar bl me co ls S hP hK hX hZ hlocks htab hl
  have hx := S.1
  have hb := S.2.1
  have hinX00 : ∀ w ∈ wsX00, w ∈ wsX2_repeat := fun w h => List.mem_cons_of_mem _ (List.mem_append_left _ (List.mem_append_left _ (List.mem_append_left _ (List.mem_append_right _ (h)))))
  have hinX10 : ∀ w ∈ wsX10, w ∈ wsX2_repeat := fun w h => List.mem_cons_of_mem _ (List.mem_append_left _ (List.mem_append_right _ (h)))
  have hinX20 : ∀ w ∈ wsX20, w ∈ wsX2_repeat := fun w h => List.mem_cons_of_mem _ (List.mem_append_left _ (List.mem_append_left _ (List.mem_append_right _ (h))))
  have hl : lv_has ls 7 [(0, .ref (E.2.2 10)), (1, .int (zI h)), (2, .int (zI w))] := hl
  refine lv_aload_n hx hb dX2_repeat_0 rfl (lv_at hl 0 rfl) ?_
  refine lv_iload_n hx hb dX2_repeat_1 rfl (lv_at hl 1 rfl) ?_
  refine k_callVr (As := [.int (zI h)]) (rest := []) S hK hP (c_X2_hemOf l E M h (by omega)) (cwV 1 S.2.2.2.2 gX2_repeat_X2_hemOf rfl rfl rfl (by decide +kernel) ⟨Nat.le_of_ble_eq_true rfl, Nat.le_of_ble_eq_true rfl⟩) (k_rX hK hP rfl) rfl hl.1 rfl (Nat.le_of_ble_eq_true rfl) dX2_repeat_2 ⟨Nat.le_of_ble_eq_true rfl, Nat.le_of_ble_eq_true rfl⟩ ?_
  refine lv_astore_n (lv' := [(3, .ref (E.2.2 (6 + h))), (0, .ref (E.2.2 10)), (1, .int (zI h)), (2, .int (zI w))]) hx hb dX2_repeat_5 rfl hl (by decide) rfl (fun ls hl => ?_)
  refine lv_iload_n hx hb dX2_repeat_6 rfl (lv_at hl 3 rfl) ?_
  refine k_lt0 (tgt := 15) hx hb dX2_repeat_7 (by decide) (by omega) (fun c_7 => ?_) (fun c_7 => ?_)
  · skip
    exact k_throw (X := kIOB) (text := "what is not 0 to 2") S hlst hX hZ hP hlocks htab hl.1 (by decide) (S.2.2.2.2 _ (List.mem_cons_of_mem _ (List.mem_append_left _ (List.mem_append_left _ (List.mem_append_left _ (List.mem_append_left _ (List.mem_append_left _ (List.mem_of_getElem? (i := 0) rfl)))))))) (S.2.2.2.2 _ (List.mem_cons_of_mem _ (List.mem_append_left _ (List.mem_append_left _ (List.mem_append_left _ (List.mem_append_left _ (List.mem_append_left _ (List.mem_of_getElem? (i := 1) rfl)))))))) (fun w h => List.mem_cons_of_mem _ (List.mem_append_right _ (h))) kb_96 hX.2.1.2.2 kg_96 (by decide) dX2_repeat_15 dX2_repeat_18 dX2_repeat_19 dX2_repeat_21 dX2_repeat_24 ⟨Nat.le_of_ble_eq_true rfl, Nat.le_of_ble_eq_true rfl, Nat.le_of_ble_eq_true rfl, Nat.le_of_ble_eq_true rfl⟩
  · skip
    refine lv_iload_n hx hb dX2_repeat_10 rfl (lv_at hl 3 rfl) ?_
    refine k_push hx hb dX2_repeat_11 ?_
    refine k_lt (tgt := 25) hx hb dX2_repeat_12 (by decide) (by omega) (fun c_12 => ?_) (fun c_12 => ?_)
    · exact absurd c_12 (by omega)
    · skip
      exact k_throw (X := kIOB) (text := "what is not 0 to 2") S hlst hX hZ hP hlocks htab hl.1 (by decide) (S.2.2.2.2 _ (List.mem_cons_of_mem _ (List.mem_append_left _ (List.mem_append_left _ (List.mem_append_left _ (List.mem_append_left _ (List.mem_append_left _ (List.mem_of_getElem? (i := 0) rfl)))))))) (S.2.2.2.2 _ (List.mem_cons_of_mem _ (List.mem_append_left _ (List.mem_append_left _ (List.mem_append_left _ (List.mem_append_left _ (List.mem_append_left _ (List.mem_of_getElem? (i := 1) rfl)))))))) (fun w h => List.mem_cons_of_mem _ (List.mem_append_right _ (h))) kb_96 hX.2.1.2.2 kg_96 (by decide) dX2_repeat_15 dX2_repeat_18 dX2_repeat_19 dX2_repeat_21 dX2_repeat_24 ⟨Nat.le_of_ble_eq_true rfl, Nat.le_of_ble_eq_true rfl, Nat.le_of_ble_eq_true rfl, Nat.le_of_ble_eq_true rfl⟩
abbrev rX2_row_b1 : Room := { frames := 7, cells := 1, slots := 6, locals := 120 }
set_option maxHeartbeats 4000000 in
set_option maxRecDepth 100000 in
theorem c_X2_row_b1 (l : Launch) (E : kE) (hlst : l.stackTraces = false) (M : kM) (h num : Int) (hb : h < 0 ∨ 2 ≤ h) (h32 : -2147483648 ≤ h ∧ h ≤ 2147483647 ∧ -2147483648 ≤ num ∧ num ≤ 2147483647) : kTX l yX2_row wsX2_row rX2_row_b1 E M [.ref (E.2.2 10), .int (zI h), .int (zI num)] kIOB := by
  refine kTX_of (cc := cX2_row) (maxL := 4) RX2 (by decide) rfl rfl (Nat.le_of_ble_eq_true rfl) ?_
  intro pg en s0 mi ar bl me co ls S hP hK hX hZ hlocks htab hl
  have hx := S.1
  have hb := S.2.1
  have hinX00 : ∀ w ∈ wsX00, w ∈ wsX2_row := fun w h => List.mem_cons_of_mem _ (List.mem_append_left _ (List.mem_append_left _ (List.mem_append_right _ (h))))
  have hinX10 : ∀ w ∈ wsX10, w ∈ wsX2_row := fun w h => List.mem_cons_of_mem _ (List.mem_append_left _ (List.mem_append_right _ (h)))
  have hinX20 : ∀ w ∈ wsX20, w ∈ wsX2_row := fun w h => List.mem_cons_of_mem _ (List.mem_append_left _ (List.mem_append_left _ (List.mem_append_left _ (List.mem_append_right _ (h)))))
  have hl : lv_has ls 4 [(0, .ref (E.2.2 10)), (1, .int (zI h)), (2, .int (zI num))] := hl
  refine lv_aload_n hx hb dX2_row_0 rfl (lv_at hl 0 rfl) ?_
  refine lv_iload_n hx hb dX2_row_1 rfl (lv_at hl 1 rfl) ?_
  exact k_thr (k_runVX (As := [.int (zI h)]) (rest := []) S hK hX hZ hP va_S.rf (c_X2_hemOf_b l E hlst M h (by omega) (by omega)) (cwV 1 S.2.2.2.2 gX2_row_X2_hemOf rfl rfl rfl (by decide +kernel) ⟨Nat.le_of_ble_eq_true rfl, Nat.le_of_ble_eq_true rfl⟩) (k_rX hK hP rfl) rfl hl.1 rfl (Nat.le_of_ble_eq_true rfl) dX2_row_2 ⟨Nat.le_of_ble_eq_true rfl, Nat.le_of_ble_eq_true rfl⟩) (fun _ _ _ h => h) va_S.rf (fun ce q9 H1 locs1 hP1 hS1 hc1 hv1 hcl1 => k_out htab hlocks hP1 hS1 hc1 hv1 hcl1 ⟨Nat.le_of_ble_eq_true rfl, Nat.le_of_ble_eq_true rfl⟩)
abbrev rX2_row_b2 : Room := { frames := 6, cells := 1, slots := 6, locals := 119 }
set_option maxHeartbeats 4000000 in
set_option maxRecDepth 100000 in
theorem c_X2_row_b2 (l : Launch) (E : kE) (hlst : l.stackTraces = false) (M : kM) (h num : Int) (hh : 0 ≤ h ∧ h < 2) (hW : kWf M) (hO2 : ∀ h : Int, 0 ≤ h ∧ h < 2 → kO M h) (hw : num < 0 ∨ kTot (M (h + 3)) (M h 1) ≤ num) (h32 : -2147483648 ≤ num ∧ num ≤ 2147483647) : kTX l yX2_row wsX2_row rX2_row_b2 E M [.ref (E.2.2 10), .int (zI h), .int (zI num)] kIOB := by
  refine kTX_of (cc := cX2_row) (maxL := 4) RX2 (by decide) rfl rfl (Nat.le_of_ble_eq_true rfl) ?_
  intro pg en s0 mi ar bl me co ls S hP hK hX hZ hlocks htab hl
  have hx := S.1
  have hb := S.2.1
  have hinX00 : ∀ w ∈ wsX00, w ∈ wsX2_row := fun w h => List.mem_cons_of_mem _ (List.mem_append_left _ (List.mem_append_left _ (List.mem_append_right _ (h))))
  have hinX10 : ∀ w ∈ wsX10, w ∈ wsX2_row := fun w h => List.mem_cons_of_mem _ (List.mem_append_left _ (List.mem_append_right _ (h)))
  have hinX20 : ∀ w ∈ wsX20, w ∈ wsX2_row := fun w h => List.mem_cons_of_mem _ (List.mem_append_left _ (List.mem_append_left _ (List.mem_append_left _ (List.mem_append_right _ (h)))))
  have hl : lv_has ls 4 [(0, .ref (E.2.2 10)), (1, .int (zI h)), (2, .int (zI num))] := hl
  obtain ⟨hn0, hn1, hv⟩ := hW h (by omega)
  obtain ⟨hs0, hs1, hsv⟩ := hW 2 (by omega)
  refine lv_aload_n hx hb dX2_row_0 rfl (lv_at hl 0 rfl) ?_
  refine lv_iload_n hx hb dX2_row_1 rfl (lv_at hl 1 rfl) ?_
  refine k_callVr (As := [.int (zI h)]) (rest := []) S hK hP (c_X2_hemOf l E M h (by omega)) (cwV 1 S.2.2.2.2 gX2_row_X2_hemOf rfl rfl rfl (by decide +kernel) ⟨Nat.le_of_ble_eq_true rfl, Nat.le_of_ble_eq_true rfl⟩) (k_rX hK hP rfl) rfl hl.1 rfl (Nat.le_of_ble_eq_true rfl) dX2_row_2 ⟨Nat.le_of_ble_eq_true rfl, Nat.le_of_ble_eq_true rfl⟩ ?_
  refine lv_astore_n (lv' := [(3, .ref (E.2.2 (6 + h))), (0, .ref (E.2.2 10)), (1, .int (zI h)), (2, .int (zI num))]) hx hb dX2_row_5 rfl hl (by decide) rfl (fun ls hl => ?_)
  refine lv_iload_n hx hb dX2_row_6 rfl (lv_at hl 3 rfl) ?_
  refine k_lt0 (tgt := 18) hx hb dX2_row_7 (by decide) (by omega) (fun c_7 => ?_) (fun c_7 => ?_)
  · skip
    exact k_throw (X := kIOB) (text := "there is no such row") S hlst hX hZ hP hlocks htab hl.1 (by decide) (S.2.2.2.2 _ (List.mem_cons_of_mem _ (List.mem_append_left _ (List.mem_append_left _ (List.mem_append_left _ (List.mem_append_left _ (List.mem_append_left _ (List.mem_of_getElem? (i := 0) rfl)))))))) (S.2.2.2.2 _ (List.mem_cons_of_mem _ (List.mem_append_left _ (List.mem_append_left _ (List.mem_append_left _ (List.mem_append_left _ (List.mem_append_left _ (List.mem_of_getElem? (i := 1) rfl)))))))) (fun w h => List.mem_cons_of_mem _ (List.mem_append_right _ (h))) kb_96 hX.2.1.2.2 kg_96 (by decide) dX2_row_18 dX2_row_21 dX2_row_22 dX2_row_24 dX2_row_27 ⟨Nat.le_of_ble_eq_true rfl, Nat.le_of_ble_eq_true rfl, Nat.le_of_ble_eq_true rfl, Nat.le_of_ble_eq_true rfl⟩
  · skip
    refine lv_iload_n hx hb dX2_row_10 rfl (lv_at hl 3 rfl) ?_
    refine lv_aload_n hx hb dX2_row_11 rfl (lv_at hl 0 rfl) ?_
    refine k_callV (As := []) (rest := [.int (zI num)]) S hK hP (c_X0_differentRows l E M h (by omega) (by assumption) (by exact hO2 _ (by omega))) (cwV 0 S.2.2.2.2 gX2_row_X0_differentRows rfl rfl rfl (by decide +kernel) ⟨Nat.le_of_ble_eq_true rfl, Nat.le_of_ble_eq_true rfl⟩) (k_rH hK hP (by omega)) rfl hl.1 rfl (Nat.le_of_ble_eq_true rfl) dX2_row_12 ⟨Nat.le_of_ble_eq_true rfl, Nat.le_of_ble_eq_true rfl⟩ (fun z_12 h_12 => ?_)
    have qt : z_12 = kTot (M (h + 3)) (M h 1) := h_12.1.trans (kRw_tot (by omega) (hO2 h hh))
    refine k_lt (tgt := 28) hx hb dX2_row_15 (by decide) (by omega) (fun c_15 => ?_) (fun c_15 => ?_)
    · exact absurd c_15 (by omega)
    · skip
      exact k_throw (X := kIOB) (text := "there is no such row") S hlst hX hZ hP hlocks htab hl.1 (by decide) (S.2.2.2.2 _ (List.mem_cons_of_mem _ (List.mem_append_left _ (List.mem_append_left _ (List.mem_append_left _ (List.mem_append_left _ (List.mem_append_left _ (List.mem_of_getElem? (i := 0) rfl)))))))) (S.2.2.2.2 _ (List.mem_cons_of_mem _ (List.mem_append_left _ (List.mem_append_left _ (List.mem_append_left _ (List.mem_append_left _ (List.mem_append_left _ (List.mem_of_getElem? (i := 1) rfl)))))))) (fun w h => List.mem_cons_of_mem _ (List.mem_append_right _ (h))) kb_96 hX.2.1.2.2 kg_96 (by decide) dX2_row_18 dX2_row_21 dX2_row_22 dX2_row_24 dX2_row_27 ⟨Nat.le_of_ble_eq_true rfl, Nat.le_of_ble_eq_true rfl, Nat.le_of_ble_eq_true rfl, Nat.le_of_ble_eq_true rfl⟩
abbrev rX2_found_b1 : Room := { frames := 7, cells := 1, slots := 6, locals := 120 }
set_option maxHeartbeats 4000000 in
set_option maxRecDepth 100000 in
theorem c_X2_found_b1 (l : Launch) (E : kE) (hlst : l.stackTraces = false) (M : kM) (h : Int) (hb : h < 0 ∨ 2 ≤ h) (h32 : -2147483648 ≤ h ∧ h ≤ 2147483647) : kTX l yX2_found wsX2_found rX2_found_b1 E M [.ref (E.2.2 10), .int (zI h)] kIOB := by
  refine kTX_of (cc := cX2_found) (maxL := 2) RX2 (by decide) rfl rfl (Nat.le_of_ble_eq_true rfl) ?_
  intro pg en s0 mi ar bl me co ls S hP hK hX hZ hlocks htab hl
  have hx := S.1
  have hb := S.2.1
  have hinX00 : ∀ w ∈ wsX00, w ∈ wsX2_found := fun w h => List.mem_cons_of_mem _ (List.mem_append_left _ (List.mem_append_left _ (List.mem_append_left _ (List.mem_append_right _ (h)))))
  have hinX10 : ∀ w ∈ wsX10, w ∈ wsX2_found := fun w h => List.mem_cons_of_mem _ (List.mem_append_left _ (List.mem_append_right _ (h)))
  have hinX20 : ∀ w ∈ wsX20, w ∈ wsX2_found := fun w h => List.mem_cons_of_mem _ (List.mem_append_left _ (List.mem_append_left _ (List.mem_append_right _ (h))))
  have hl : lv_has ls 2 [(0, .ref (E.2.2 10)), (1, .int (zI h))] := hl
  refine lv_aload_n hx hb dX2_found_0 rfl (lv_at hl 0 rfl) ?_
  refine lv_iload_n hx hb dX2_found_1 rfl (lv_at hl 1 rfl) ?_
  exact k_thr (k_runVX (As := [.int (zI h)]) (rest := []) S hK hX hZ hP va_S.rf (c_X2_hemOf_b l E hlst M h (by omega) (by omega)) (cwV 1 S.2.2.2.2 gX2_found_X2_hemOf rfl rfl rfl (by decide +kernel) ⟨Nat.le_of_ble_eq_true rfl, Nat.le_of_ble_eq_true rfl⟩) (k_rX hK hP rfl) rfl hl.1 rfl (Nat.le_of_ble_eq_true rfl) dX2_found_2 ⟨Nat.le_of_ble_eq_true rfl, Nat.le_of_ble_eq_true rfl⟩) (fun _ _ _ h => h) va_S.rf (fun ce q9 H1 locs1 hP1 hS1 hc1 hv1 hcl1 => k_out htab hlocks hP1 hS1 hc1 hv1 hcl1 ⟨Nat.le_of_ble_eq_true rfl, Nat.le_of_ble_eq_true rfl⟩)
abbrev rX2_first_b1 : Room := { frames := 7, cells := 1, slots := 6, locals := 120 }
set_option maxHeartbeats 4000000 in
set_option maxRecDepth 100000 in
theorem c_X2_first_b1 (l : Launch) (E : kE) (hlst : l.stackTraces = false) (M : kM) (h : Int) (hb : h < 0 ∨ 2 ≤ h) (h32 : -2147483648 ≤ h ∧ h ≤ 2147483647) : kTX l yX2_first wsX2_first rX2_first_b1 E M [.ref (E.2.2 10), .int (zI h)] kIOB := by
  refine kTX_of (cc := cX2_first) (maxL := 2) RX2 (by decide) rfl rfl (Nat.le_of_ble_eq_true rfl) ?_
  intro pg en s0 mi ar bl me co ls S hP hK hX hZ hlocks htab hl
  have hx := S.1
  have hb := S.2.1
  have hinX00 : ∀ w ∈ wsX00, w ∈ wsX2_first := fun w h => List.mem_cons_of_mem _ (List.mem_append_left _ (List.mem_append_left _ (List.mem_append_left _ (List.mem_append_right _ (h)))))
  have hinX10 : ∀ w ∈ wsX10, w ∈ wsX2_first := fun w h => List.mem_cons_of_mem _ (List.mem_append_left _ (List.mem_append_right _ (h)))
  have hinX20 : ∀ w ∈ wsX20, w ∈ wsX2_first := fun w h => List.mem_cons_of_mem _ (List.mem_append_left _ (List.mem_append_left _ (List.mem_append_right _ (h))))
  have hl : lv_has ls 2 [(0, .ref (E.2.2 10)), (1, .int (zI h))] := hl
  refine lv_aload_n hx hb dX2_first_0 rfl (lv_at hl 0 rfl) ?_
  refine lv_iload_n hx hb dX2_first_1 rfl (lv_at hl 1 rfl) ?_
  exact k_thr (k_runVX (As := [.int (zI h)]) (rest := []) S hK hX hZ hP va_S.rf (c_X2_hemOf_b l E hlst M h (by omega) (by omega)) (cwV 1 S.2.2.2.2 gX2_first_X2_hemOf rfl rfl rfl (by decide +kernel) ⟨Nat.le_of_ble_eq_true rfl, Nat.le_of_ble_eq_true rfl⟩) (k_rX hK hP rfl) rfl hl.1 rfl (Nat.le_of_ble_eq_true rfl) dX2_first_2 ⟨Nat.le_of_ble_eq_true rfl, Nat.le_of_ble_eq_true rfl⟩) (fun _ _ _ h => h) va_S.rf (fun ce q9 H1 locs1 hP1 hS1 hc1 hv1 hcl1 => k_out htab hlocks hP1 hS1 hc1 hv1 hcl1 ⟨Nat.le_of_ble_eq_true rfl, Nat.le_of_ble_eq_true rfl⟩)
abbrev rX2_period_b1 : Room := { frames := 7, cells := 1, slots := 6, locals := 120 }
set_option maxHeartbeats 4000000 in
set_option maxRecDepth 100000 in
theorem c_X2_period_b1 (l : Launch) (E : kE) (hlst : l.stackTraces = false) (M : kM) (h : Int) (hb : h < 0 ∨ 2 ≤ h) (h32 : -2147483648 ≤ h ∧ h ≤ 2147483647) : kTX l yX2_period wsX2_period rX2_period_b1 E M [.ref (E.2.2 10), .int (zI h)] kIOB := by
  refine kTX_of (cc := cX2_period) (maxL := 2) RX2 (by decide) rfl rfl (Nat.le_of_ble_eq_true rfl) ?_
  intro pg en s0 mi ar bl me co ls S hP hK hX hZ hlocks htab hl
  have hx := S.1
  have hb := S.2.1
  have hinX00 : ∀ w ∈ wsX00, w ∈ wsX2_period := fun w h => List.mem_cons_of_mem _ (List.mem_append_left _ (List.mem_append_left _ (List.mem_append_left _ (List.mem_append_right _ (h)))))
  have hinX10 : ∀ w ∈ wsX10, w ∈ wsX2_period := fun w h => List.mem_cons_of_mem _ (List.mem_append_left _ (List.mem_append_right _ (h)))
  have hinX20 : ∀ w ∈ wsX20, w ∈ wsX2_period := fun w h => List.mem_cons_of_mem _ (List.mem_append_left _ (List.mem_append_left _ (List.mem_append_right _ (h))))
  have hl : lv_has ls 2 [(0, .ref (E.2.2 10)), (1, .int (zI h))] := hl
  refine lv_aload_n hx hb dX2_period_0 rfl (lv_at hl 0 rfl) ?_
  refine lv_iload_n hx hb dX2_period_1 rfl (lv_at hl 1 rfl) ?_
  exact k_thr (k_runVX (As := [.int (zI h)]) (rest := []) S hK hX hZ hP va_S.rf (c_X2_hemOf_b l E hlst M h (by omega) (by omega)) (cwV 1 S.2.2.2.2 gX2_period_X2_hemOf rfl rfl rfl (by decide +kernel) ⟨Nat.le_of_ble_eq_true rfl, Nat.le_of_ble_eq_true rfl⟩) (k_rX hK hP rfl) rfl hl.1 rfl (Nat.le_of_ble_eq_true rfl) dX2_period_2 ⟨Nat.le_of_ble_eq_true rfl, Nat.le_of_ble_eq_true rfl⟩) (fun _ _ _ h => h) va_S.rf (fun ce q9 H1 locs1 hP1 hS1 hc1 hv1 hcl1 => k_out htab hlocks hP1 hS1 hc1 hv1 hcl1 ⟨Nat.le_of_ble_eq_true rfl, Nat.le_of_ble_eq_true rfl⟩)
abbrev rX2_turned_b1 : Room := { frames := 7, cells := 1, slots := 6, locals := 120 }
set_option maxHeartbeats 4000000 in
set_option maxRecDepth 100000 in
theorem c_X2_turned_b1 (l : Launch) (E : kE) (hlst : l.stackTraces = false) (M : kM) (h : Int) (hb : h < 0 ∨ 2 ≤ h) (h32 : -2147483648 ≤ h ∧ h ≤ 2147483647) : kTX l yX2_turned wsX2_turned rX2_turned_b1 E M [.ref (E.2.2 10), .int (zI h)] kIOB := by
  refine kTX_of (cc := cX2_turned) (maxL := 2) RX2 (by decide) rfl rfl (Nat.le_of_ble_eq_true rfl) ?_
  intro pg en s0 mi ar bl me co ls S hP hK hX hZ hlocks htab hl
  have hx := S.1
  have hb := S.2.1
  have hinX00 : ∀ w ∈ wsX00, w ∈ wsX2_turned := fun w h => List.mem_cons_of_mem _ (List.mem_append_left _ (List.mem_append_left _ (List.mem_append_left _ (List.mem_append_right _ (h)))))
  have hinX10 : ∀ w ∈ wsX10, w ∈ wsX2_turned := fun w h => List.mem_cons_of_mem _ (List.mem_append_left _ (List.mem_append_right _ (h)))
  have hinX20 : ∀ w ∈ wsX20, w ∈ wsX2_turned := fun w h => List.mem_cons_of_mem _ (List.mem_append_left _ (List.mem_append_left _ (List.mem_append_right _ (h))))
  have hl : lv_has ls 2 [(0, .ref (E.2.2 10)), (1, .int (zI h))] := hl
  refine lv_aload_n hx hb dX2_turned_0 rfl (lv_at hl 0 rfl) ?_
  refine lv_iload_n hx hb dX2_turned_1 rfl (lv_at hl 1 rfl) ?_
  exact k_thr (k_runVX (As := [.int (zI h)]) (rest := []) S hK hX hZ hP va_S.rf (c_X2_hemOf_b l E hlst M h (by omega) (by omega)) (cwV 1 S.2.2.2.2 gX2_turned_X2_hemOf rfl rfl rfl (by decide +kernel) ⟨Nat.le_of_ble_eq_true rfl, Nat.le_of_ble_eq_true rfl⟩) (k_rX hK hP rfl) rfl hl.1 rfl (Nat.le_of_ble_eq_true rfl) dX2_turned_2 ⟨Nat.le_of_ble_eq_true rfl, Nat.le_of_ble_eq_true rfl⟩) (fun _ _ _ h => h) va_S.rf (fun ce q9 H1 locs1 hP1 hS1 hc1 hv1 hcl1 => k_out htab hlocks hP1 hS1 hc1 hv1 hcl1 ⟨Nat.le_of_ble_eq_true rfl, Nat.le_of_ble_eq_true rfl⟩)
abbrev rX2_advise_b1 : Room := { frames := 7, cells := 1, slots := 6, locals := 120 }
set_option maxHeartbeats 4000000 in
set_option maxRecDepth 100000 in
theorem c_X2_advise_b1 (l : Launch) (E : kE) (hlst : l.stackTraces = false) (M : kM) (h : Int) (hb : h < 0 ∨ 2 ≤ h) (h32 : -2147483648 ≤ h ∧ h ≤ 2147483647) : kTX l yX2_advise wsX2_advise rX2_advise_b1 E M [.ref (E.2.2 10), .int (zI h)] kIOB := by
  refine kTX_of (cc := cX2_advise) (maxL := 7) RX2 (by decide) rfl rfl (Nat.le_of_ble_eq_true rfl) ?_
  intro pg en s0 mi ar bl me co ls S hP hK hX hZ hlocks htab hl
  have hx := S.1
  have hb := S.2.1
  have hinX00 : ∀ w ∈ wsX00, w ∈ wsX2_advise := fun w h => List.mem_cons_of_mem _ (List.mem_append_left _ (List.mem_append_left _ (List.mem_append_left _ (List.mem_append_right _ (h)))))
  have hinX10 : ∀ w ∈ wsX10, w ∈ wsX2_advise := fun w h => List.mem_cons_of_mem _ (List.mem_append_left _ (List.mem_append_right _ (h)))
  have hinX20 : ∀ w ∈ wsX20, w ∈ wsX2_advise := fun w h => List.mem_cons_of_mem _ (List.mem_append_left _ (List.mem_append_left _ (List.mem_append_right _ (h))))
  have hl : lv_has ls 7 [(0, .ref (E.2.2 10)), (1, .int (zI h))] := hl
  refine lv_aload_n hx hb dX2_advise_0 rfl (lv_at hl 0 rfl) ?_
  refine lv_iload_n hx hb dX2_advise_1 rfl (lv_at hl 1 rfl) ?_
  exact k_thr (k_runVX (As := [.int (zI h)]) (rest := []) S hK hX hZ hP va_S.rf (c_X2_hemOf_b l E hlst M h (by omega) (by omega)) (cwV 1 S.2.2.2.2 gX2_advise_X2_hemOf rfl rfl rfl (by decide +kernel) ⟨Nat.le_of_ble_eq_true rfl, Nat.le_of_ble_eq_true rfl⟩) (k_rX hK hP rfl) rfl hl.1 rfl (Nat.le_of_ble_eq_true rfl) dX2_advise_2 ⟨Nat.le_of_ble_eq_true rfl, Nat.le_of_ble_eq_true rfl⟩) (fun _ _ _ h => h) va_S.rf (fun ce q9 H1 locs1 hP1 hS1 hc1 hv1 hcl1 => k_out htab hlocks hP1 hS1 hc1 hv1 hcl1 ⟨Nat.le_of_ble_eq_true rfl, Nat.le_of_ble_eq_true rfl⟩)
abbrev rX2_seam_b1 : Room := { frames := 6, cells := 1, slots := 6, locals := 116 }
set_option maxHeartbeats 4000000 in
set_option maxRecDepth 100000 in
theorem c_X2_seam_b1 (l : Launch) (E : kE) (hlst : l.stackTraces = false) (M : kM) (w : Int) (hw : w < 0 ∨ 2 < w) (h32 : -2147483648 ≤ w ∧ w ≤ 2147483647) : kTX l yX2_seam wsX2_seam rX2_seam_b1 E M [.ref (E.2.2 10), .int (zI w)] kIOB := by
  refine kTX_of (cc := cX2_seam) (maxL := 5) RX2 (by decide) rfl rfl (Nat.le_of_ble_eq_true rfl) ?_
  intro pg en s0 mi ar bl me co ls S hP hK hX hZ hlocks htab hl
  have hx := S.1
  have hb := S.2.1
  have hinX00 : ∀ w ∈ wsX00, w ∈ wsX2_seam := fun w h => List.mem_cons_of_mem _ (List.mem_append_left _ (List.mem_append_left _ (List.mem_append_right _ (h))))
  have hinX10 : ∀ w ∈ wsX10, w ∈ wsX2_seam := fun w h => List.mem_cons_of_mem _ (List.mem_append_left _ (List.mem_append_right _ (h)))
  have hinX20 : ∀ w ∈ wsX20, w ∈ wsX2_seam := fun w h => List.mem_cons_of_mem _ (List.mem_append_left _ (List.mem_append_left _ (List.mem_append_left _ (List.mem_append_right _ (h)))))
  have hl : lv_has ls 5 [(0, .ref (E.2.2 10)), (1, .int (zI w))] := hl
  refine lv_iload_n hx hb dX2_seam_0 rfl (lv_at hl 1 rfl) ?_
  refine k_lt0 (tgt := 9) hx hb dX2_seam_1 (by decide) (by omega) (fun c_1 => ?_) (fun c_1 => ?_)
  · skip
    exact k_throw (X := kIOB) (text := "what is not 0 to 2") S hlst hX hZ hP hlocks htab hl.1 (by decide) (S.2.2.2.2 _ (List.mem_cons_of_mem _ (List.mem_append_left _ (List.mem_append_left _ (List.mem_append_left _ (List.mem_append_left _ (List.mem_append_left _ (List.mem_of_getElem? (i := 0) rfl)))))))) (S.2.2.2.2 _ (List.mem_cons_of_mem _ (List.mem_append_left _ (List.mem_append_left _ (List.mem_append_left _ (List.mem_append_left _ (List.mem_append_left _ (List.mem_of_getElem? (i := 1) rfl)))))))) (fun w h => List.mem_cons_of_mem _ (List.mem_append_right _ (h))) kb_96 hX.2.1.2.2 kg_96 (by decide) dX2_seam_9 dX2_seam_12 dX2_seam_13 dX2_seam_15 dX2_seam_18 ⟨Nat.le_of_ble_eq_true rfl, Nat.le_of_ble_eq_true rfl, Nat.le_of_ble_eq_true rfl, Nat.le_of_ble_eq_true rfl⟩
  · skip
    refine lv_iload_n hx hb dX2_seam_4 rfl (lv_at hl 1 rfl) ?_
    refine k_push hx hb dX2_seam_5 ?_
    refine k_lt (tgt := 19) hx hb dX2_seam_6 (by decide) (by omega) (fun c_6 => ?_) (fun c_6 => ?_)
    · exact absurd c_6 (by omega)
    · skip
      exact k_throw (X := kIOB) (text := "what is not 0 to 2") S hlst hX hZ hP hlocks htab hl.1 (by decide) (S.2.2.2.2 _ (List.mem_cons_of_mem _ (List.mem_append_left _ (List.mem_append_left _ (List.mem_append_left _ (List.mem_append_left _ (List.mem_append_left _ (List.mem_of_getElem? (i := 0) rfl)))))))) (S.2.2.2.2 _ (List.mem_cons_of_mem _ (List.mem_append_left _ (List.mem_append_left _ (List.mem_append_left _ (List.mem_append_left _ (List.mem_append_left _ (List.mem_of_getElem? (i := 1) rfl)))))))) (fun w h => List.mem_cons_of_mem _ (List.mem_append_right _ (h))) kb_96 hX.2.1.2.2 kg_96 (by decide) dX2_seam_9 dX2_seam_12 dX2_seam_13 dX2_seam_15 dX2_seam_18 ⟨Nat.le_of_ble_eq_true rfl, Nat.le_of_ble_eq_true rfl, Nat.le_of_ble_eq_true rfl, Nat.le_of_ble_eq_true rfl⟩
abbrev rX2_would_b1 : Room := { frames := 7, cells := 1, slots := 6, locals := 120 }
set_option maxHeartbeats 4000000 in
set_option maxRecDepth 100000 in
theorem c_X2_would_b1 (l : Launch) (E : kE) (hlst : l.stackTraces = false) (M : kM) (h st : Int) (hb : h < 0 ∨ 2 ≤ h) (h32 : -2147483648 ≤ h ∧ h ≤ 2147483647 ∧ -2147483648 ≤ st ∧ st ≤ 2147483647) : kTX l yX2_would wsX2_would rX2_would_b1 E M [.ref (E.2.2 10), .int (zI h), .int (zI st)] kIOB := by
  refine kTX_of (cc := cX2_would) (maxL := 4) RX2 (by decide) rfl rfl (Nat.le_of_ble_eq_true rfl) ?_
  intro pg en s0 mi ar bl me co ls S hP hK hX hZ hlocks htab hl
  have hx := S.1
  have hb := S.2.1
  have hinX00 : ∀ w ∈ wsX00, w ∈ wsX2_would := fun w h => List.mem_cons_of_mem _ (List.mem_append_left _ (List.mem_append_left _ (List.mem_append_left _ (List.mem_append_left _ (List.mem_append_right _ (h))))))
  have hinX10 : ∀ w ∈ wsX10, w ∈ wsX2_would := fun w h => List.mem_cons_of_mem _ (List.mem_append_left _ (List.mem_append_left _ (List.mem_append_right _ (h))))
  have hinX20 : ∀ w ∈ wsX20, w ∈ wsX2_would := fun w h => List.mem_cons_of_mem _ (List.mem_append_left _ (List.mem_append_left _ (List.mem_append_left _ (List.mem_append_right _ (h)))))
  have hl : lv_has ls 4 [(0, .ref (E.2.2 10)), (1, .int (zI h)), (2, .int (zI st))] := hl
  refine lv_aload_n hx hb dX2_would_0 rfl (lv_at hl 0 rfl) ?_
  refine lv_iload_n hx hb dX2_would_1 rfl (lv_at hl 1 rfl) ?_
  exact k_thr (k_runVX (As := [.int (zI h)]) (rest := []) S hK hX hZ hP va_S.rf (c_X2_hemOf_b l E hlst M h (by omega) (by omega)) (cwV 1 S.2.2.2.2 gX2_would_X2_hemOf rfl rfl rfl (by decide +kernel) ⟨Nat.le_of_ble_eq_true rfl, Nat.le_of_ble_eq_true rfl⟩) (k_rX hK hP rfl) rfl hl.1 rfl (Nat.le_of_ble_eq_true rfl) dX2_would_2 ⟨Nat.le_of_ble_eq_true rfl, Nat.le_of_ble_eq_true rfl⟩) (fun _ _ _ h => h) va_S.rf (fun ce q9 H1 locs1 hP1 hS1 hc1 hv1 hcl1 => k_out htab hlocks hP1 hS1 hc1 hv1 hcl1 ⟨Nat.le_of_ble_eq_true rfl, Nat.le_of_ble_eq_true rfl⟩)
abbrev rX2_would_b2 : Room := { frames := 7, cells := 1, slots := 6, locals := 119 }
set_option maxHeartbeats 4000000 in
set_option maxRecDepth 100000 in
theorem c_X2_would_b2 (l : Launch) (E : kE) (hlst : l.stackTraces = false) (M : kM) (h st : Int) (hh : 0 ≤ h ∧ h < 2) (hW : kWf M) (hst : st < 0 ∨ 8 < st) (h32 : -2147483648 ≤ st ∧ st ≤ 2147483647) : kTX l yX2_would wsX2_would rX2_would_b2 E M [.ref (E.2.2 10), .int (zI h), .int (zI st)] kIAE := by
  refine kTX_of (cc := cX2_would) (maxL := 4) RX2 (by decide) rfl rfl (Nat.le_of_ble_eq_true rfl) ?_
  intro pg en s0 mi ar bl me co ls S hP hK hX hZ hlocks htab hl
  have hx := S.1
  have hb := S.2.1
  have hinX00 : ∀ w ∈ wsX00, w ∈ wsX2_would := fun w h => List.mem_cons_of_mem _ (List.mem_append_left _ (List.mem_append_left _ (List.mem_append_left _ (List.mem_append_left _ (List.mem_append_right _ (h))))))
  have hinX10 : ∀ w ∈ wsX10, w ∈ wsX2_would := fun w h => List.mem_cons_of_mem _ (List.mem_append_left _ (List.mem_append_left _ (List.mem_append_right _ (h))))
  have hinX20 : ∀ w ∈ wsX20, w ∈ wsX2_would := fun w h => List.mem_cons_of_mem _ (List.mem_append_left _ (List.mem_append_left _ (List.mem_append_left _ (List.mem_append_right _ (h)))))
  have hl : lv_has ls 4 [(0, .ref (E.2.2 10)), (1, .int (zI h)), (2, .int (zI st))] := hl
  obtain ⟨hn0, hn1, hv⟩ := hW h (by omega)
  obtain ⟨hs0, hs1, hsv⟩ := hW 2 (by omega)
  refine lv_aload_n hx hb dX2_would_0 rfl (lv_at hl 0 rfl) ?_
  refine lv_iload_n hx hb dX2_would_1 rfl (lv_at hl 1 rfl) ?_
  refine k_callVr (As := [.int (zI h)]) (rest := []) S hK hP (c_X2_hemOf l E M h (by omega)) (cwV 1 S.2.2.2.2 gX2_would_X2_hemOf rfl rfl rfl (by decide +kernel) ⟨Nat.le_of_ble_eq_true rfl, Nat.le_of_ble_eq_true rfl⟩) (k_rX hK hP rfl) rfl hl.1 rfl (Nat.le_of_ble_eq_true rfl) dX2_would_2 ⟨Nat.le_of_ble_eq_true rfl, Nat.le_of_ble_eq_true rfl⟩ ?_
  refine lv_astore_n (lv' := [(3, .ref (E.2.2 (6 + h))), (0, .ref (E.2.2 10)), (1, .int (zI h)), (2, .int (zI st))]) hx hb dX2_would_5 rfl hl (by decide) rfl (fun ls hl => ?_)
  refine lv_iload_n hx hb dX2_would_6 rfl (lv_at hl 3 rfl) ?_
  exact k_thr (k_runSX (As := [.int (zI st)]) (rest := []) S hK hX hZ hP va_S.rf (c_X2_requireStitch_b l E hlst M st (by omega) (by omega)) (va_cwS 1 S.2.2.2.2 gX2_would_X2_requireStitch rfl rfl rfl (by decide +kernel) ⟨Nat.le_of_ble_eq_true rfl, Nat.le_of_ble_eq_true rfl⟩) rfl hl.1 rfl (Nat.le_of_ble_eq_true rfl) dX2_would_7 ⟨Nat.le_of_ble_eq_true rfl, Nat.le_of_ble_eq_true rfl⟩) (fun _ _ _ h => h) va_S.rf (fun ce q9 H1 locs1 hP1 hS1 hc1 hv1 hcl1 => k_out htab hlocks hP1 hS1 hc1 hv1 hcl1 ⟨Nat.le_of_ble_eq_true rfl, Nat.le_of_ble_eq_true rfl⟩)
