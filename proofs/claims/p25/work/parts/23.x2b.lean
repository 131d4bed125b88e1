abbrev rX2_sew_b3 : Room := { frames := 6, cells := 1, slots := 6, locals := 137 }
set_option maxHeartbeats 4000000 in
set_option maxRecDepth 100000 in
theorem c_X2_sew_b3 (l : Launch) (E : kE) (hlst : l.stackTraces = false) (M : kM) (h st : Int) (hh : 0 ≤ h ∧ h < 2) (hW : kWf M) (hst : 0 ≤ st ∧ st ≤ 8) (hf : M h 1 = 40) : kTX l yX2_sew wsX2_sew rX2_sew_b3 E M [.ref (E.2.2 10), .int (zI h), .int (zI st)] kISE := by
  refine kTX_of (cc := cX2_sew) (maxL := 4) RX2 (by decide) rfl rfl (Nat.le_of_ble_eq_true rfl) ?_
  intro pg en s0 mi ar bl me co ls S hP hK hX hZ hlocks htab hl
  have hx := S.1
  have hb := S.2.1
  have hinX00 : ∀ w ∈ wsX00, w ∈ wsX2_sew := fun w h => List.mem_cons_of_mem _ (List.mem_append_left _ (List.mem_append_left _ (List.mem_append_left _ (List.mem_append_left _ (List.mem_append_left _ (List.mem_append_right _ (h)))))))
  have hinX10 : ∀ w ∈ wsX10, w ∈ wsX2_sew := fun w h => List.mem_cons_of_mem _ (List.mem_append_left _ (List.mem_append_left _ (List.mem_append_left _ (List.mem_append_left _ (List.mem_append_right _ (h))))))
  have hinX20 : ∀ w ∈ wsX20, w ∈ wsX2_sew := fun w h => List.mem_cons_of_mem _ (List.mem_append_left _ (List.mem_append_left _ (List.mem_append_left _ (List.mem_append_right _ (h)))))
  have hl : lv_has ls 4 [(0, .ref (E.2.2 10)), (1, .int (zI h)), (2, .int (zI st))] := hl
  obtain ⟨hn0, hn1, hv⟩ := hW h (by omega)
  obtain ⟨hs0, hs1, hsv⟩ := hW 2 (by omega)
  refine lv_aload_n hx hb dX2_sew_0 rfl (lv_at hl 0 rfl) ?_
  refine lv_iload_n hx hb dX2_sew_1 rfl (lv_at hl 1 rfl) ?_
  refine k_callVr (As := [.int (zI h)]) (rest := []) S hK hP (c_X2_hemOf l E M h (by omega)) (cwV 1 S.2.2.2.2 gX2_sew_X2_hemOf rfl rfl rfl (by decide +kernel) ⟨Nat.le_of_ble_eq_true rfl, Nat.le_of_ble_eq_true rfl⟩) (k_rX hK hP rfl) rfl hl.1 rfl (Nat.le_of_ble_eq_true rfl) dX2_sew_2 ⟨Nat.le_of_ble_eq_true rfl, Nat.le_of_ble_eq_true rfl⟩ ?_
  refine lv_astore_n (lv' := [(3, .ref (E.2.2 (6 + h))), (0, .ref (E.2.2 10)), (1, .int (zI h)), (2, .int (zI st))]) hx hb dX2_sew_5 rfl hl (by decide) rfl (fun ls hl => ?_)
  refine lv_iload_n hx hb dX2_sew_6 rfl (lv_at hl 3 rfl) ?_
  refine k_callSv (As := [.int (zI st)]) (rest := []) S hK hP (c_X2_requireStitch l E M st (by omega)) (va_cwS 1 S.2.2.2.2 gX2_sew_X2_requireStitch rfl rfl rfl (by decide +kernel) ⟨Nat.le_of_ble_eq_true rfl, Nat.le_of_ble_eq_true rfl⟩) rfl hl.1 rfl (Nat.le_of_ble_eq_true rfl) dX2_sew_7 ⟨Nat.le_of_ble_eq_true rfl, Nat.le_of_ble_eq_true rfl⟩ ?_
  refine lv_aload_n hx hb dX2_sew_10 rfl (lv_at hl 0 rfl) ?_
  refine k_stitchesN S hK hP hinX00 hK.2.1.2.2.1 dX2_sew_11 (by omega) (h) (by omega) ?_
  refine k_lengthN S hK hP hinX10 hK.2.1.2.1 dX2_sew_14 (by omega) ?_
  refine k_bpush hx hb dX2_sew_17 (by decide) ?_
  refine k_lt (tgt := 32) hx hb dX2_sew_19 (by decide) (by omega) (fun c_19 => ?_) (fun c_19 => ?_)
  · exact absurd c_19 (by omega)
  · skip
    exact k_throw (X := kISE) (text := "the hem is full") S hlst hX hZ hP hlocks htab hl.1 (by decide) (S.2.2.2.2 _ (List.mem_cons_of_mem _ (List.mem_append_left _ (List.mem_append_left _ (List.mem_append_left _ (List.mem_append_left _ (List.mem_append_left _ (List.mem_append_left _ (List.mem_append_left _ (List.mem_of_getElem? (i := 0) rfl)))))))))) (S.2.2.2.2 _ (List.mem_cons_of_mem _ (List.mem_append_left _ (List.mem_append_left _ (List.mem_append_left _ (List.mem_append_left _ (List.mem_append_left _ (List.mem_append_left _ (List.mem_append_left _ (List.mem_of_getElem? (i := 1) rfl)))))))))) (fun w h => List.mem_cons_of_mem _ (List.mem_append_left _ (List.mem_append_left _ (List.mem_append_right _ (h))))) kb_45 hX.2.1 kg_45 (by decide) dX2_sew_22 dX2_sew_25 dX2_sew_26 dX2_sew_28 dX2_sew_31 ⟨Nat.le_of_ble_eq_true rfl, Nat.le_of_ble_eq_true rfl, Nat.le_of_ble_eq_true rfl, Nat.le_of_ble_eq_true rfl⟩
abbrev rX2_again_b3 : Room := { frames := 6, cells := 1, slots := 6, locals := 138 }
set_option maxHeartbeats 4000000 in
set_option maxRecDepth 100000 in
theorem c_X2_again_b3 (l : Launch) (E : kE) (hlst : l.stackTraces = false) (M : kM) (h r : Int) (hh : 0 ≤ h ∧ h < 2) (hW : kWf M) (hr : 1 ≤ r ∧ r ≤ 40 ∧ (M h 1 = 0 ∨ 40 < M h 1 + r)) : kTX l yX2_again wsX2_again rX2_again_b3 E M [.ref (E.2.2 10), .int (zI h), .int (zI r)] kISE := by
  refine kTX_of (cc := cX2_again) (maxL := 5) RX2 (by decide) rfl rfl (Nat.le_of_ble_eq_true rfl) ?_
  intro pg en s0 mi ar bl me co ls S hP hK hX hZ hlocks htab hl
  have hx := S.1
  have hb := S.2.1
  have hinX00 : ∀ w ∈ wsX00, w ∈ wsX2_again := fun w h => List.mem_cons_of_mem _ (List.mem_append_left _ (List.mem_append_left _ (List.mem_append_left _ (List.mem_append_left _ (List.mem_append_left _ (List.mem_append_right _ (h)))))))
  have hinX10 : ∀ w ∈ wsX10, w ∈ wsX2_again := fun w h => List.mem_cons_of_mem _ (List.mem_append_left _ (List.mem_append_left _ (List.mem_append_left _ (List.mem_append_left _ (List.mem_append_right _ (h))))))
  have hinX20 : ∀ w ∈ wsX20, w ∈ wsX2_again := fun w h => List.mem_cons_of_mem _ (List.mem_append_left _ (List.mem_append_left _ (List.mem_append_left _ (List.mem_append_right _ (h)))))
  have hl : lv_has ls 5 [(0, .ref (E.2.2 10)), (1, .int (zI h)), (2, .int (zI r))] := hl
  obtain ⟨hn0, hn1, hv⟩ := hW h (by omega)
  obtain ⟨hs0, hs1, hsv⟩ := hW 2 (by omega)
  refine lv_aload_n hx hb dX2_again_0 rfl (lv_at hl 0 rfl) ?_
  refine lv_iload_n hx hb dX2_again_1 rfl (lv_at hl 1 rfl) ?_
  refine k_callVr (As := [.int (zI h)]) (rest := []) S hK hP (c_X2_hemOf l E M h (by omega)) (cwV 1 S.2.2.2.2 gX2_again_X2_hemOf rfl rfl rfl (by decide +kernel) ⟨Nat.le_of_ble_eq_true rfl, Nat.le_of_ble_eq_true rfl⟩) (k_rX hK hP rfl) rfl hl.1 rfl (Nat.le_of_ble_eq_true rfl) dX2_again_2 ⟨Nat.le_of_ble_eq_true rfl, Nat.le_of_ble_eq_true rfl⟩ ?_
  refine lv_astore_n (lv' := [(3, .ref (E.2.2 (6 + h))), (0, .ref (E.2.2 10)), (1, .int (zI h)), (2, .int (zI r))]) hx hb dX2_again_5 rfl hl (by decide) rfl (fun ls hl => ?_)
  refine lv_iload_n hx hb dX2_again_6 rfl (lv_at hl 3 rfl) ?_
  refine k_push hx hb dX2_again_7 ?_
  refine k_lt (tgt := 17) hx hb dX2_again_8 (by decide) (by omega) (fun c_8 => ?_) (fun c_8 => ?_)
  · exact absurd c_8 (by omega)
  · skip
    refine lv_iload_n hx hb dX2_again_11 rfl (lv_at hl 3 rfl) ?_
    refine k_bpush hx hb dX2_again_12 (by decide) ?_
    refine k_le (tgt := 27) hx hb dX2_again_14 (by decide) (by omega) (fun c_14 => ?_) (fun c_14 => ?_)
    · skip
      refine lv_aload_n hx hb dX2_again_27 rfl (lv_at hl 0 rfl) ?_
      refine k_stitchesN S hK hP hinX00 hK.2.1.2.2.1 dX2_again_28 (by omega) (h) (by omega) ?_
      refine k_lengthN S hK hP hinX10 hK.2.1.2.1 dX2_again_31 (by omega) ?_
      refine k_nm (fun v4_34 ev4_34 => ?_)
      refine lv_istore (lv' := [(4, .int (zI v4_34)), (3, .ref (E.2.2 (6 + h))), (0, .ref (E.2.2 10)), (1, .int (zI h)), (2, .int (zI r))]) hx hb dX2_again_34 hl (by decide) rfl (fun ls hl => ?_)
      refine lv_iload hx hb dX2_again_36 (lv_at hl 0 rfl) ?_
      refine k_eq0 (tgt := 50) hx hb dX2_again_38 (by decide) (by omega) (fun c_38 => ?_) (fun c_38 => ?_)
      · skip
        exact k_throw (X := kISE) (text := "the hem is empty, or has no room") S hlst hX hZ hP hlocks htab hl.1 (by decide) (S.2.2.2.2 _ (List.mem_cons_of_mem _ (List.mem_append_left _ (List.mem_append_left _ (List.mem_append_left _ (List.mem_append_left _ (List.mem_append_left _ (List.mem_append_left _ (List.mem_append_left _ (List.mem_of_getElem? (i := 2) rfl)))))))))) (S.2.2.2.2 _ (List.mem_cons_of_mem _ (List.mem_append_left _ (List.mem_append_left _ (List.mem_append_left _ (List.mem_append_left _ (List.mem_append_left _ (List.mem_append_left _ (List.mem_append_left _ (List.mem_of_getElem? (i := 3) rfl)))))))))) (fun w h => List.mem_cons_of_mem _ (List.mem_append_left _ (List.mem_append_right _ (h)))) kb_45 hX.2.1 kg_45 (by decide) dX2_again_50 dX2_again_53 dX2_again_54 dX2_again_56 dX2_again_59 ⟨Nat.le_of_ble_eq_true rfl, Nat.le_of_ble_eq_true rfl, Nat.le_of_ble_eq_true rfl, Nat.le_of_ble_eq_true rfl⟩
      · skip
        refine lv_iload hx hb dX2_again_41 (lv_at hl 0 rfl) ?_
        refine lv_iload_n hx hb dX2_again_43 rfl (lv_at hl 4 rfl) ?_
        refine k_add hx hb dX2_again_44 ?_
        refine k_bpush hx hb dX2_again_45 (by decide) ?_
        refine k_le (tgt := 60) hx hb dX2_again_47 (by decide) (by omega) (fun c_47 => ?_) (fun c_47 => ?_)
        · exact absurd c_47 (by omega)
        · skip
          exact k_throw (X := kISE) (text := "the hem is empty, or has no room") S hlst hX hZ hP hlocks htab hl.1 (by decide) (S.2.2.2.2 _ (List.mem_cons_of_mem _ (List.mem_append_left _ (List.mem_append_left _ (List.mem_append_left _ (List.mem_append_left _ (List.mem_append_left _ (List.mem_append_left _ (List.mem_append_left _ (List.mem_of_getElem? (i := 2) rfl)))))))))) (S.2.2.2.2 _ (List.mem_cons_of_mem _ (List.mem_append_left _ (List.mem_append_left _ (List.mem_append_left _ (List.mem_append_left _ (List.mem_append_left _ (List.mem_append_left _ (List.mem_append_left _ (List.mem_of_getElem? (i := 3) rfl)))))))))) (fun w h => List.mem_cons_of_mem _ (List.mem_append_left _ (List.mem_append_right _ (h)))) kb_45 hX.2.1 kg_45 (by decide) dX2_again_50 dX2_again_53 dX2_again_54 dX2_again_56 dX2_again_59 ⟨Nat.le_of_ble_eq_true rfl, Nat.le_of_ble_eq_true rfl, Nat.le_of_ble_eq_true rfl, Nat.le_of_ble_eq_true rfl⟩
    · exact absurd c_14 (by omega)
abbrev rX2_add_b2 : Room := { frames := 6, cells := 1, slots := 6, locals := 99 }
set_option maxHeartbeats 4000000 in
set_option maxRecDepth 100000 in
theorem c_X2_add_b2 (l : Launch) (E : kE) (hlst : l.stackTraces = false) (M : kM) (st : Int) (hW : kWf M) (hst : 0 ≤ st ∧ st ≤ 8) (hf : 12 ≤ M 2 1) : kTX l yX2_add wsX2_add rX2_add_b2 E M [.ref (E.2.2 10), .int (zI st)] kISE := by
  refine kTX_of (cc := cX2_add) (maxL := 2) RX2 (by decide) rfl rfl (Nat.le_of_ble_eq_true rfl) ?_
  intro pg en s0 mi ar bl me co ls S hP hK hX hZ hlocks htab hl
  have hx := S.1
  have hb := S.2.1
  have hinX10 : ∀ w ∈ wsX10, w ∈ wsX2_add := fun w h => List.mem_cons_of_mem _ (List.mem_append_left _ (List.mem_append_left _ (List.mem_append_right _ (h))))
  have hinX20 : ∀ w ∈ wsX20, w ∈ wsX2_add := fun w h => List.mem_cons_of_mem _ (List.mem_append_left _ (List.mem_append_left _ (List.mem_append_left _ (List.mem_append_right _ (h)))))
  have hl : lv_has ls 2 [(0, .ref (E.2.2 10)), (1, .int (zI st))] := hl
  obtain ⟨hn0, hn1, hv⟩ := hW 0 (by omega)
  obtain ⟨hm0, hm1, hw1⟩ := hW 1 (by omega)
  obtain ⟨hs0, hs1, hsv⟩ := hW 2 (by omega)
  refine lv_iload_n hx hb dX2_add_0 rfl (lv_at hl 1 rfl) ?_
  refine k_callSv (As := [.int (zI st)]) (rest := []) S hK hP (c_X2_requireStitch l E M st (by omega)) (va_cwS 1 S.2.2.2.2 gX2_add_X2_requireStitch rfl rfl rfl (by decide +kernel) ⟨Nat.le_of_ble_eq_true rfl, Nat.le_of_ble_eq_true rfl⟩) rfl hl.1 rfl (Nat.le_of_ble_eq_true rfl) dX2_add_1 ⟨Nat.le_of_ble_eq_true rfl, Nat.le_of_ble_eq_true rfl⟩ ?_
  refine lv_aload_n hx hb dX2_add_4 rfl (lv_at hl 0 rfl) ?_
  refine k_own S hK hP hinX20 2 (by decide) (S.2.2.2.2 _ (List.mem_cons_of_mem _ (List.mem_append_left _ (List.mem_append_left _ (List.mem_append_left _ (List.mem_append_left _ (List.mem_of_getElem? (i := 2) rfl))))))) dX2_add_5 rfl (2) rfl rfl ?_
  refine k_lengthN S hK hP hinX10 hK.2.1.2.1 dX2_add_8 (by omega) ?_
  refine k_bpush hx hb dX2_add_11 (by decide) ?_
  refine k_lt (tgt := 26) hx hb dX2_add_13 (by decide) (by omega) (fun c_13 => ?_) (fun c_13 => ?_)
  · exact absurd c_13 (by omega)
  · skip
    exact k_throw (X := kISE) (text := "the sample is full") S hlst hX hZ hP hlocks htab hl.1 (by decide) (S.2.2.2.2 _ (List.mem_cons_of_mem _ (List.mem_append_left _ (List.mem_append_left _ (List.mem_append_left _ (List.mem_append_left _ (List.mem_of_getElem? (i := 0) rfl))))))) (S.2.2.2.2 _ (List.mem_cons_of_mem _ (List.mem_append_left _ (List.mem_append_left _ (List.mem_append_left _ (List.mem_append_left _ (List.mem_of_getElem? (i := 1) rfl))))))) (fun w h => List.mem_cons_of_mem _ (List.mem_append_left _ (List.mem_append_right _ (h)))) kb_45 hX.2.1 kg_45 (by decide) dX2_add_16 dX2_add_19 dX2_add_20 dX2_add_22 dX2_add_25 ⟨Nat.le_of_ble_eq_true rfl, Nat.le_of_ble_eq_true rfl, Nat.le_of_ble_eq_true rfl, Nat.le_of_ble_eq_true rfl⟩
