abbrev rX2_hemOf : Room := { frames := 0, cells := 0, slots := 0, locals := 0 }
set_option maxHeartbeats 4000000 in
set_option maxRecDepth 100000 in
theorem c_X2_hemOf (l : Launch) (E : kE) (M : kM) (h : Int) (hh : 0 ≤ h ∧ h < 2) : kROr l yX2_hemOf wsX2_hemOf rX2_hemOf E M [.ref (E.2.2 10), .int (zI h)] (6 + h) := by
  refine kROr_of (cc := cX2_hemOf) (maxL := 2) RX2 (by decide) rfl rfl (Nat.le_of_ble_eq_true rfl) ?_
  intro pg en s0 mi ar bl me co ls Q S hP hK ends hl
  have hx := S.1
  have hb := S.2.1
  have hinX20 : ∀ w ∈ wsX20, w ∈ wsX2_hemOf := fun w h => List.mem_cons_of_mem _ (List.mem_append_left _ (List.mem_append_right _ (h)))
  have hl : lv_has ls 2 [(0, .ref (E.2.2 10)), (1, .int (zI h))] := hl
  refine lv_iload_n hx hb dX2_hemOf_0 rfl (lv_at hl 1 rfl) ?_
  refine k_ne0 (tgt := 9) hx hb dX2_hemOf_1 (by decide) (by omega) (fun c_1 => ?_) (fun c_1 => ?_)
  · skip
    refine lv_iload_n hx hb dX2_hemOf_9 rfl (lv_at hl 1 rfl) ?_
    refine k_push hx hb dX2_hemOf_10 ?_
    refine k_ne (tgt := 19) hx hb dX2_hemOf_11 (by decide) (by omega) (fun c_11 => ?_) (fun c_11 => ?_)
    · exact absurd c_11 (by omega)
    · skip
      refine lv_aload_n hx hb dX2_hemOf_14 rfl (lv_at hl 0 rfl) ?_
      refine k_own S hK hP hinX20 1 (by decide) (S.2.2.2.2 _ (List.mem_cons_of_mem _ (List.mem_append_left _ (List.mem_append_left _ (List.mem_of_getElem? (i := 3) rfl))))) dX2_hemOf_15 rfl (6 + 1) rfl rfl ?_
      subst c_11
      exact ends _ _ dX2_hemOf_18
  · skip
    refine lv_aload_n hx hb dX2_hemOf_4 rfl (lv_at hl 0 rfl) ?_
    refine k_own S hK hP hinX20 0 (by decide) (S.2.2.2.2 _ (List.mem_cons_of_mem _ (List.mem_append_left _ (List.mem_append_left _ (List.mem_of_getElem? (i := 2) rfl))))) dX2_hemOf_5 rfl (6 + 0) rfl rfl ?_
    subst c_1
    exact ends _ _ dX2_hemOf_8
abbrev rX2_requireStitch : Room := { frames := 0, cells := 0, slots := 0, locals := 0 }
set_option maxHeartbeats 4000000 in
set_option maxRecDepth 100000 in
theorem c_X2_requireStitch (l : Launch) (E : kE) (M : kM) (st : Int) (hst : 0 ≤ st ∧ st ≤ 8) : kROv l yX2_requireStitch wsX2_requireStitch rX2_requireStitch E M [.int (zI st)] := by
  refine kROv_of (cc := cX2_requireStitch) (maxL := 1) RX2 (by decide) rfl rfl (Nat.le_of_ble_eq_true rfl) ?_
  intro pg en s0 mi ar bl me co ls Q S hP hK ends hl
  have hx := S.1
  have hb := S.2.1
  have hl : lv_has ls 1 [(0, .int (zI st))] := hl
  refine lv_iload_n hx hb dX2_requireStitch_0 rfl (lv_at hl 0 rfl) ?_
  refine k_lt0 (tgt := 10) hx hb dX2_requireStitch_1 (by decide) (by omega) (fun c_1 => ?_) (fun c_1 => ?_)
  · exact absurd c_1 (by omega)
  · skip
    refine lv_iload_n hx hb dX2_requireStitch_4 rfl (lv_at hl 0 rfl) ?_
    refine k_bpush hx hb dX2_requireStitch_5 (by decide) ?_
    refine k_lt (tgt := 20) hx hb dX2_requireStitch_7 (by decide) (by omega) (fun c_7 => ?_) (fun c_7 => ?_)
    · skip
      exact ends _ _ dX2_requireStitch_20
    · exact absurd c_7 (by omega)
abbrev rX2_requirePlace : Room := { frames := 0, cells := 0, slots := 0, locals := 0 }
set_option maxHeartbeats 4000000 in
set_option maxRecDepth 100000 in
theorem c_X2_requirePlace (l : Launch) (E : kE) (M : kM) (i p : Int) (hi : 0 ≤ i ∧ i < 3) (hW : kWf M) (hp : 0 ≤ p ∧ p < M i 1) : kROv l yX2_requirePlace wsX2_requirePlace rX2_requirePlace E M [.ref (E.2.2 i), .int (zI p)] := by
  refine kROv_of (cc := cX2_requirePlace) (maxL := 2) RX2 (by decide) rfl rfl (Nat.le_of_ble_eq_true rfl) ?_
  intro pg en s0 mi ar bl me co ls Q S hP hK ends hl
  have hx := S.1
  have hb := S.2.1
  have hinX10 : ∀ w ∈ wsX10, w ∈ wsX2_requirePlace := fun w h => List.mem_cons_of_mem _ (List.mem_append_left _ (List.mem_append_right _ (h)))
  have hl : lv_has ls 2 [(0, .ref (E.2.2 i)), (1, .int (zI p))] := hl
  obtain ⟨hn0, hn1, hv⟩ := hW i (by omega)
  refine lv_iload_n hx hb dX2_requirePlace_0 rfl (lv_at hl 1 rfl) ?_
  refine k_lt0 (tgt := 12) hx hb dX2_requirePlace_1 (by decide) (by omega) (fun c_1 => ?_) (fun c_1 => ?_)
  · exact absurd c_1 (by omega)
  · skip
    refine lv_iload_n hx hb dX2_requirePlace_4 rfl (lv_at hl 1 rfl) ?_
    refine lv_aload_n hx hb dX2_requirePlace_5 rfl (lv_at hl 0 rfl) ?_
    refine k_lengthN S hK hP hinX10 hK.2.1.2.1 dX2_requirePlace_6 (by omega) ?_
    refine k_lt (tgt := 22) hx hb dX2_requirePlace_9 (by decide) (by omega) (fun c_9 => ?_) (fun c_9 => ?_)
    · skip
      exact ends _ _ dX2_requirePlace_22
    · exact absurd c_9 (by omega)
abbrev rX2_sew : Room := { frames := 6, cells := 0, slots := 0, locals := 137 }
set_option maxHeartbeats 4000000 in
set_option maxRecDepth 100000 in
theorem c_X2_sew (l : Launch) (E : kE) (hE : kInj E) (M : kM) (h st : Int) (hh : 0 ≤ h ∧ h < 2) (hW : kWf M) (hst : 0 ≤ st ∧ st ≤ 8) (hlt : M h 1 < 40) : kRW l yX2_sew wsX2_sew rX2_sew E M [.ref (E.2.2 10), .int (zI h), .int (zI st)] (fun z N => (∀ c k : Int, c ≠ 8 + h → N c k = kU (kU M (h + 3) (M h 1) st) h 1 (M h 1 + 1) c k) ∧ kO N h ∧ z = M h 1 + 1) := by
  refine kRW_of (cc := cX2_sew) (maxL := 4) (rt := .int) RX2 (by decide) rfl rfl (Nat.le_of_ble_eq_true rfl) k_nariW ?_
  intro pg en s0 mi ar bl me co ls Q S hP hS hK ends hl
  have hx := S.1
  have hb := S.2.1
  have hinX00 : ∀ w ∈ wsX00, w ∈ wsX2_sew := fun w h => List.mem_cons_of_mem _ (List.mem_append_left _ (List.mem_append_left _ (List.mem_append_left _ (List.mem_append_left _ (List.mem_append_left _ (List.mem_append_right _ (h)))))))
  have hinX10 : ∀ w ∈ wsX10, w ∈ wsX2_sew := fun w h => List.mem_cons_of_mem _ (List.mem_append_left _ (List.mem_append_left _ (List.mem_append_left _ (List.mem_append_left _ (List.mem_append_right _ (h))))))
  have hinX20 : ∀ w ∈ wsX20, w ∈ wsX2_sew := fun w h => List.mem_cons_of_mem _ (List.mem_append_left _ (List.mem_append_left _ (List.mem_append_left _ (List.mem_append_right _ (h)))))
  have hl : lv_has ls 4 [(0, .ref (E.2.2 10)), (1, .int (zI h)), (2, .int (zI st))] := hl
  obtain ⟨hn0, hn1, hv⟩ := hW h (by omega)
  obtain ⟨hs0, hs1, hsv⟩ := hW 2 (by omega)
  refine lv_aload_n hx hb dX2_sew_0 rfl (lv_at hl 0 rfl) ?_
  refine lv_iload_n hx hb dX2_sew_1 rfl (lv_at hl 1 rfl) ?_
  refine k_callVr (As := [.int (zI h)]) (rest := []) S hK hP (c_X2_hemOf l E M h (by omega)) (cwV 1 S.2.2.2.2 gX2_sew_X2_hemOf rfl rfl rfl (by decide +kernel) ⟨Nat.le_of_ble_eq_true rfl, Nat.le_of_ble_eq_true rfl⟩) (k_rX hK hP rfl) rfl hl.1 rfl (Nat.le_of_ble_eq_true rfl) dX2_sew_2 ⟨Nat.le_of_ble_eq_true rfl, Nat.le_of_ble_eq_true rfl⟩ ?_
  refine lv_astore_n (lv' := [(3, .ref (E.2.2 (6 + h))), (0, .ref (E.2.2 10)), (1, .int (zI h)), (2, .int (zI st))]) hx hb dX2_sew_5 rfl hl (by decide) rfl (fun ls hl => ?_)
  refine lv_iload_n hx hb dX2_sew_6 rfl (lv_at hl 3 rfl) ?_
  refine k_callSv (As := [.int (zI st)]) (rest := []) S hK hP (c_X2_requireStitch l E M st (by omega)) (va_cwS 1 S.2.2.2.2 gX2_sew_X2_requireStitch rfl rfl rfl (by decide +kernel) ⟨Nat.le_of_ble_eq_true rfl, Nat.le_of_ble_eq_true rfl⟩) rfl hl.1 rfl (Nat.le_of_ble_eq_true rfl) dX2_sew_7 ⟨Nat.le_of_ble_eq_true rfl, Nat.le_of_ble_eq_true rfl⟩ ?_
  refine lv_aload_n hx hb dX2_sew_10 rfl (lv_at hl 0 rfl) ?_
  refine k_stitchesN S hK hP hinX00 hK.2.1.2.2.1 dX2_sew_11 (by omega) (h) (by omega) ?_
  refine k_lengthN S hK hP hinX10 hK.2.1.2.1 dX2_sew_14 (by omega) ?_
  refine k_bpush hx hb dX2_sew_17 (by decide) ?_
  refine k_lt (tgt := 32) hx hb dX2_sew_19 (by decide) (by omega) (fun c_19 => ?_) (fun c_19 => ?_)
  · skip
    refine lv_aload_n hx hb dX2_sew_32 rfl (lv_at hl 0 rfl) ?_
    refine lv_iload_n hx hb dX2_sew_33 rfl (lv_at hl 3 rfl) ?_
    refine k_callVV (As := [.int (zI st)]) (rest := []) S hK hP hS (c_X0_sewOn l E hE M h st (by omega) (by assumption) (by omega) (by omega)) (cwV 1 S.2.2.2.2 gX2_sew_X0_sewOn rfl rfl rfl (by decide +kernel) ⟨Nat.le_of_ble_eq_true rfl, Nat.le_of_ble_eq_true rfl⟩) (k_rH hK hP (by omega)) rfl hl.1 rfl (Nat.le_of_ble_eq_true rfl) dX2_sew_34 ⟨Nat.le_of_ble_eq_true rfl, Nat.le_of_ble_eq_true rfl⟩ (fun M_34 H locs h_34 hP hS => ?_)
    refine lv_aload_n hx hb dX2_sew_37 rfl (lv_at hl 0 rfl) ?_
    refine k_stitchesN S hK hP hinX00 hK.2.1.2.2.1 dX2_sew_38 (by omega) (h) (by omega) ?_
    refine k_lengthN S hK hP hinX10 hK.2.1.2.1 dX2_sew_41 (by omega) ?_
    refine ends _ _ (M_34 h 1) M_34 _ _ dX2_sew_44 hP hS ?_
    refine ⟨h_34.1, h_34.2, ?_⟩
    rw [h_34.1 h 1 (by omega), kU_same]
  · exact absurd c_19 (by omega)
abbrev rX2_again : Room := { frames := 6, cells := 0, slots := 0, locals := 138 }
set_option maxHeartbeats 4000000 in
set_option maxRecDepth 100000 in
theorem c_X2_again (l : Launch) (E : kE) (hE : kInj E) (M : kM) (h r : Int) (hh : 0 ≤ h ∧ h < 2) (hW : kWf M) (hr : 1 ≤ r ∧ 1 ≤ M h 1 ∧ M h 1 + r ≤ 40) : kRW l yX2_again wsX2_again rX2_again E M [.ref (E.2.2 10), .int (zI h), .int (zI r)] (fun z N => (∀ c k : Int, c ≠ 8 + h → c ≠ h + 3 → c ≠ h → N c k = M c k) ∧ N h 1 = M h 1 + r ∧ (∀ k : Int, (k < M h 1 ∨ M h 1 + r ≤ k) → N (h + 3) k = M (h + 3) k) ∧ (∀ k : Int, M h 1 ≤ k → k < M h 1 + r → N (h + 3) k = N (h + 3) (k - M h 1)) ∧ kWf N ∧ kO N h ∧ z = M h 1 + r) := by
  refine kRW_of (cc := cX2_again) (maxL := 5) (rt := .int) RX2 (by decide) rfl rfl (Nat.le_of_ble_eq_true rfl) k_nariW ?_
  intro pg en s0 mi ar bl me co ls Q S hP hS hK ends hl
  have hx := S.1
  have hb := S.2.1
  have hinX00 : ∀ w ∈ wsX00, w ∈ wsX2_again := fun w h => List.mem_cons_of_mem _ (List.mem_append_left _ (List.mem_append_left _ (List.mem_append_left _ (List.mem_append_left _ (List.mem_append_left _ (List.mem_append_right _ (h)))))))
  have hinX10 : ∀ w ∈ wsX10, w ∈ wsX2_again := fun w h => List.mem_cons_of_mem _ (List.mem_append_left _ (List.mem_append_left _ (List.mem_append_left _ (List.mem_append_left _ (List.mem_append_right _ (h))))))
  have hinX20 : ∀ w ∈ wsX20, w ∈ wsX2_again := fun w h => List.mem_cons_of_mem _ (List.mem_append_left _ (List.mem_append_left _ (List.mem_append_left _ (List.mem_append_right _ (h)))))
  have hl : lv_has ls 5 [(0, .ref (E.2.2 10)), (1, .int (zI h)), (2, .int (zI r))] := hl
  obtain ⟨hn0, hn1, hv⟩ := hW h (by omega)
  obtain ⟨hs0, hs1, hsv⟩ := hW 2 (by omega)
  refine lv_aload_n hx hb dX2_again_0 rfl (lv_at hl 0 rfl) ?_
  refine lv_iload_n hx hb dX2_again_1 rfl (lv_at hl 1 rfl) ?_
  refine k_callVr (As := [.int (zI h)]) (rest := []) S hK hP (c_X2_hemOf l E M h (by omega)) (cwV 1 S.2.2.2.2 gX2_again_X2_hemOf rfl rfl rfl (by decide +kernel) ⟨Nat.le_of_ble_eq_true rfl, Nat.le_of_ble_eq_true rfl⟩) (k_rX hK hP rfl) rfl hl.1 rfl (Nat.le_of_ble_eq_true rfl) dX2_again_2 ⟨Nat.le_of_ble_eq_true rfl, Nat.le_of_ble_eq_true rfl⟩ ?_
  refine lv_astore_n (lv' := [(3, .ref (E.2.2 (6 + h))), (0, .ref (E.2.2 10)), (1, .int (zI h)), (2, .int (zI r))]) hx hb dX2_again_5 rfl hl (by decide) rfl (fun ls hl => ?_)
  refine lv_iload_n hx hb dX2_again_6 rfl (lv_at hl 3 rfl) ?_
  refine k_push hx hb dX2_again_7 ?_
  refine k_lt (tgt := 17) hx hb dX2_again_8 (by decide) (by omega) (fun c_8 => ?_) (fun c_8 => ?_)
  · exact absurd c_8 (by omega)
  · skip
    refine lv_iload_n hx hb dX2_again_11 rfl (lv_at hl 3 rfl) ?_
    refine k_bpush hx hb dX2_again_12 (by decide) ?_
    refine k_le (tgt := 27) hx hb dX2_again_14 (by decide) (by omega) (fun c_14 => ?_) (fun c_14 => ?_)
    · skip
      refine lv_aload_n hx hb dX2_again_27 rfl (lv_at hl 0 rfl) ?_
      refine k_stitchesN S hK hP hinX00 hK.2.1.2.2.1 dX2_again_28 (by omega) (h) (by omega) ?_
      refine k_lengthN S hK hP hinX10 hK.2.1.2.1 dX2_again_31 (by omega) ?_
      refine k_nm (fun v4_34 ev4_34 => ?_)
      refine lv_istore (lv' := [(4, .int (zI v4_34)), (3, .ref (E.2.2 (6 + h))), (0, .ref (E.2.2 10)), (1, .int (zI h)), (2, .int (zI r))]) hx hb dX2_again_34 hl (by decide) rfl (fun ls hl => ?_)
      refine lv_iload hx hb dX2_again_36 (lv_at hl 0 rfl) ?_
      refine k_eq0 (tgt := 50) hx hb dX2_again_38 (by decide) (by omega) (fun c_38 => ?_) (fun c_38 => ?_)
      · exact absurd c_38 (by omega)
      · skip
        refine lv_iload hx hb dX2_again_41 (lv_at hl 0 rfl) ?_
        refine lv_iload_n hx hb dX2_again_43 rfl (lv_at hl 4 rfl) ?_
        refine k_add hx hb dX2_again_44 ?_
        refine k_bpush hx hb dX2_again_45 (by decide) ?_
        refine k_le (tgt := 60) hx hb dX2_again_47 (by decide) (by omega) (fun c_47 => ?_) (fun c_47 => ?_)
        · skip
          refine lv_aload_n hx hb dX2_again_60 rfl (lv_at hl 1 rfl) ?_
          refine lv_iload_n hx hb dX2_again_61 rfl (lv_at hl 4 rfl) ?_
          refine k_callVV (As := [.int (zI r)]) (rest := []) S hK hP hS (c_X0_sewBeginning l E hE M h r (by omega) (by assumption) (by omega)) (cwV 1 S.2.2.2.2 gX2_again_X0_sewBeginning rfl rfl rfl (by decide +kernel) ⟨Nat.le_of_ble_eq_true rfl, Nat.le_of_ble_eq_true rfl⟩) (k_rH hK hP (by omega)) rfl hl.1 rfl (Nat.le_of_ble_eq_true rfl) dX2_again_62 ⟨Nat.le_of_ble_eq_true rfl, Nat.le_of_ble_eq_true rfl⟩ (fun M_62 H locs h_62 hP hS => ?_)
          refine lv_aload_n hx hb dX2_again_65 rfl (lv_at hl 1 rfl) ?_
          refine k_stitchesN S hK hP hinX00 hK.2.1.2.2.1 dX2_again_66 (by omega) (h) (by omega) ?_
          refine k_lengthN S hK hP hinX10 hK.2.1.2.1 dX2_again_69 (by omega) ?_
          refine ends _ _ (M_62 h 1) M_62 _ _ dX2_again_72 hP hS ?_
          obtain ⟨q1, q2, q3, q4, q5, q6⟩ := h_62
          exact ⟨q1, q2, q3, q4, q5, q6, q2⟩
        · exact absurd c_47 (by omega)
    · exact absurd c_14 (by omega)
abbrev rX2_unpick : Room := { frames := 6, cells := 0, slots := 0, locals := 137 }
set_option maxHeartbeats 4000000 in
set_option maxRecDepth 100000 in
theorem c_X2_unpick (l : Launch) (E : kE) (hE : kInj E) (M : kM) (h r : Int) (hh : 0 ≤ h ∧ h < 2) (hW : kWf M) (hr : 1 ≤ r ∧ r ≤ M h 1) : kRW l yX2_unpick wsX2_unpick rX2_unpick E M [.ref (E.2.2 10), .int (zI h), .int (zI r)] (fun z N => (∀ c k : Int, c ≠ 8 + h → N c k = kU M h 1 (M h 1 - r) c k) ∧ kO N h ∧ z = M h 1 - r) := by
  refine kRW_of (cc := cX2_unpick) (maxL := 4) (rt := .int) RX2 (by decide) rfl rfl (Nat.le_of_ble_eq_true rfl) k_nariW ?_
  intro pg en s0 mi ar bl me co ls Q S hP hS hK ends hl
  have hx := S.1
  have hb := S.2.1
  have hinX00 : ∀ w ∈ wsX00, w ∈ wsX2_unpick := fun w h => List.mem_cons_of_mem _ (List.mem_append_left _ (List.mem_append_left _ (List.mem_append_left _ (List.mem_append_left _ (List.mem_append_right _ (h))))))
  have hinX10 : ∀ w ∈ wsX10, w ∈ wsX2_unpick := fun w h => List.mem_cons_of_mem _ (List.mem_append_left _ (List.mem_append_left _ (List.mem_append_left _ (List.mem_append_right _ (h)))))
  have hinX20 : ∀ w ∈ wsX20, w ∈ wsX2_unpick := fun w h => List.mem_cons_of_mem _ (List.mem_append_left _ (List.mem_append_left _ (List.mem_append_right _ (h))))
  have hl : lv_has ls 4 [(0, .ref (E.2.2 10)), (1, .int (zI h)), (2, .int (zI r))] := hl
  obtain ⟨hn0, hn1, hv⟩ := hW h (by omega)
  obtain ⟨hs0, hs1, hsv⟩ := hW 2 (by omega)
  refine lv_aload_n hx hb dX2_unpick_0 rfl (lv_at hl 0 rfl) ?_
  refine lv_iload_n hx hb dX2_unpick_1 rfl (lv_at hl 1 rfl) ?_
  refine k_callVr (As := [.int (zI h)]) (rest := []) S hK hP (c_X2_hemOf l E M h (by omega)) (cwV 1 S.2.2.2.2 gX2_unpick_X2_hemOf rfl rfl rfl (by decide +kernel) ⟨Nat.le_of_ble_eq_true rfl, Nat.le_of_ble_eq_true rfl⟩) (k_rX hK hP rfl) rfl hl.1 rfl (Nat.le_of_ble_eq_true rfl) dX2_unpick_2 ⟨Nat.le_of_ble_eq_true rfl, Nat.le_of_ble_eq_true rfl⟩ ?_
  refine lv_astore_n (lv' := [(3, .ref (E.2.2 (6 + h))), (0, .ref (E.2.2 10)), (1, .int (zI h)), (2, .int (zI r))]) hx hb dX2_unpick_5 rfl hl (by decide) rfl (fun ls hl => ?_)
  refine lv_iload_n hx hb dX2_unpick_6 rfl (lv_at hl 3 rfl) ?_
  refine k_push hx hb dX2_unpick_7 ?_
  refine k_lt (tgt := 22) hx hb dX2_unpick_8 (by decide) (by omega) (fun c_8 => ?_) (fun c_8 => ?_)
  · exact absurd c_8 (by omega)
  · skip
    refine lv_iload_n hx hb dX2_unpick_11 rfl (lv_at hl 3 rfl) ?_
    refine lv_aload_n hx hb dX2_unpick_12 rfl (lv_at hl 0 rfl) ?_
    refine k_stitchesN S hK hP hinX00 hK.2.1.2.2.1 dX2_unpick_13 (by omega) (h) (by omega) ?_
    refine k_lengthN S hK hP hinX10 hK.2.1.2.1 dX2_unpick_16 (by omega) ?_
    refine k_le (tgt := 32) hx hb dX2_unpick_19 (by decide) (by omega) (fun c_19 => ?_) (fun c_19 => ?_)
    · skip
      refine lv_aload_n hx hb dX2_unpick_32 rfl (lv_at hl 0 rfl) ?_
      refine lv_iload_n hx hb dX2_unpick_33 rfl (lv_at hl 3 rfl) ?_
      refine k_callVV (As := [.int (zI r)]) (rest := []) S hK hP hS (c_X0_takeOff l E hE M h r (by omega) (by assumption) (by omega)) (cwV 1 S.2.2.2.2 gX2_unpick_X0_takeOff rfl rfl rfl (by decide +kernel) ⟨Nat.le_of_ble_eq_true rfl, Nat.le_of_ble_eq_true rfl⟩) (k_rH hK hP (by omega)) rfl hl.1 rfl (Nat.le_of_ble_eq_true rfl) dX2_unpick_34 ⟨Nat.le_of_ble_eq_true rfl, Nat.le_of_ble_eq_true rfl⟩ (fun M_34 H locs h_34 hP hS => ?_)
      refine lv_aload_n hx hb dX2_unpick_37 rfl (lv_at hl 0 rfl) ?_
      refine k_stitchesN S hK hP hinX00 hK.2.1.2.2.1 dX2_unpick_38 (by omega) (h) (by omega) ?_
      refine k_lengthN S hK hP hinX10 hK.2.1.2.1 dX2_unpick_41 (by omega) ?_
      refine ends _ _ (M_34 h 1) M_34 _ _ dX2_unpick_44 hP hS ?_
      refine ⟨h_34.1, h_34.2, ?_⟩
      rw [h_34.1 h 1 (by omega), kU_same]
    · exact absurd c_19 (by omega)
abbrev rX2_add : Room := { frames := 1, cells := 0, slots := 0, locals := 21 }
set_option maxHeartbeats 4000000 in
set_option maxRecDepth 100000 in
theorem c_X2_add (l : Launch) (E : kE) (hE : kInj E) (M : kM) (st : Int) (hW : kWf M) (hst : 0 ≤ st ∧ st ≤ 8) (hlt : M 2 1 < 12) : kRW l yX2_add wsX2_add rX2_add E M [.ref (E.2.2 10), .int (zI st)] (fun z N => N = kU (kU M 5 (M 2 1) st) 2 1 (M 2 1 + 1) ∧ z = M 2 1 + 1) := by
  refine kRW_of (cc := cX2_add) (maxL := 2) (rt := .int) RX2 (by decide) rfl rfl (Nat.le_of_ble_eq_true rfl) k_nariW ?_
  intro pg en s0 mi ar bl me co ls Q S hP hS hK ends hl
  have hx := S.1
  have hb := S.2.1
  have hinX10 : ∀ w ∈ wsX10, w ∈ wsX2_add := fun w h => List.mem_cons_of_mem _ (List.mem_append_left _ (List.mem_append_left _ (List.mem_append_right _ (h))))
  have hinX20 : ∀ w ∈ wsX20, w ∈ wsX2_add := fun w h => List.mem_cons_of_mem _ (List.mem_append_left _ (List.mem_append_left _ (List.mem_append_left _ (List.mem_append_right _ (h)))))
  have hl : lv_has ls 2 [(0, .ref (E.2.2 10)), (1, .int (zI st))] := hl
  obtain ⟨hn0, hn1, hv⟩ := hW 0 (by omega)
  obtain ⟨hm0, hm1, hw1⟩ := hW 1 (by omega)
  obtain ⟨hs0, hs1, hsv⟩ := hW 2 (by omega)
  refine lv_iload_n hx hb dX2_add_0 rfl (lv_at hl 1 rfl) ?_
  refine k_callSv (As := [.int (zI st)]) (rest := []) S hK hP (c_X2_requireStitch l E M st (by omega)) (va_cwS 1 S.2.2.2.2 gX2_add_X2_requireStitch rfl rfl rfl (by decide +kernel) ⟨Nat.le_of_ble_eq_true rfl, Nat.le_of_ble_eq_true rfl⟩) rfl hl.1 rfl (Nat.le_of_ble_eq_true rfl) dX2_add_1 ⟨Nat.le_of_ble_eq_true rfl, Nat.le_of_ble_eq_true rfl⟩ ?_
  refine lv_aload_n hx hb dX2_add_4 rfl (lv_at hl 0 rfl) ?_
  refine k_own S hK hP hinX20 2 (by decide) (S.2.2.2.2 _ (List.mem_cons_of_mem _ (List.mem_append_left _ (List.mem_append_left _ (List.mem_append_left _ (List.mem_append_left _ (List.mem_of_getElem? (i := 2) rfl))))))) dX2_add_5 rfl (2) rfl rfl ?_
  refine k_lengthN S hK hP hinX10 hK.2.1.2.1 dX2_add_8 (by omega) ?_
  refine k_bpush hx hb dX2_add_11 (by decide) ?_
  refine k_lt (tgt := 26) hx hb dX2_add_13 (by decide) (by omega) (fun c_13 => ?_) (fun c_13 => ?_)
  · skip
    refine lv_aload_n hx hb dX2_add_26 rfl (lv_at hl 0 rfl) ?_
    refine k_own S hK hP hinX20 2 (by decide) (S.2.2.2.2 _ (List.mem_cons_of_mem _ (List.mem_append_left _ (List.mem_append_left _ (List.mem_append_left _ (List.mem_append_left _ (List.mem_of_getElem? (i := 2) rfl))))))) dX2_add_27 rfl (2) rfl rfl ?_
    refine lv_iload_n hx hb dX2_add_30 rfl (lv_at hl 1 rfl) ?_
    refine k_callVV (As := [.int (zI st)]) (rest := []) S hK hP hS (c_X1_append l E hE M 2 st (by omega) (by assumption) (by omega) (by omega)) (cwV 1 S.2.2.2.2 gX2_add_X1_append rfl rfl rfl (by decide +kernel) ⟨Nat.le_of_ble_eq_true rfl, Nat.le_of_ble_eq_true rfl⟩) (k_rS hK hP (by omega)) rfl hl.1 rfl (Nat.le_of_ble_eq_true rfl) dX2_add_31 ⟨Nat.le_of_ble_eq_true rfl, Nat.le_of_ble_eq_true rfl⟩ (fun M_31 H locs h_31 hP hS => ?_)
    refine lv_aload_n hx hb dX2_add_34 rfl (lv_at hl 0 rfl) ?_
    refine k_own S hK hP hinX20 2 (by decide) (S.2.2.2.2 _ (List.mem_cons_of_mem _ (List.mem_append_left _ (List.mem_append_left _ (List.mem_append_left _ (List.mem_append_left _ (List.mem_of_getElem? (i := 2) rfl))))))) dX2_add_35 rfl (2) rfl rfl ?_
    refine k_lengthN S hK hP hinX10 hK.2.1.2.1 dX2_add_38 (by omega) ?_
    refine ends _ _ (M_31 2 1) M_31 _ _ dX2_add_41 hP hS ?_
    refine ⟨h_31, ?_⟩
    rw [h_31, kU_same]
  · exact absurd c_13 (by omega)
abbrev rX2_clear : Room := { frames := 1, cells := 0, slots := 0, locals := 21 }
set_option maxHeartbeats 4000000 in
set_option maxRecDepth 100000 in
theorem c_X2_clear (l : Launch) (E : kE) (hE : kInj E) (M : kM) (hW : kWf M) : kRW l yX2_clear wsX2_clear rX2_clear E M [.ref (E.2.2 10)] (fun z N => N = kU M 2 1 0 ∧ z = M 2 1) := by
  refine kRW_of (cc := cX2_clear) (maxL := 2) (rt := .int) RX2 (by decide) rfl rfl (Nat.le_of_ble_eq_true rfl) k_nariW ?_
  intro pg en s0 mi ar bl me co ls Q S hP hS hK ends hl
  have hx := S.1
  have hb := S.2.1
  have hinX10 : ∀ w ∈ wsX10, w ∈ wsX2_clear := fun w h => List.mem_cons_of_mem _ (List.mem_append_right _ (h))
  have hinX20 : ∀ w ∈ wsX20, w ∈ wsX2_clear := fun w h => List.mem_cons_of_mem _ (List.mem_append_left _ (List.mem_append_right _ (h)))
  have hl : lv_has ls 2 [(0, .ref (E.2.2 10))] := hl
  obtain ⟨hn0, hn1, hv⟩ := hW 0 (by omega)
  obtain ⟨hm0, hm1, hw1⟩ := hW 1 (by omega)
  obtain ⟨hs0, hs1, hsv⟩ := hW 2 (by omega)
  refine lv_aload_n hx hb dX2_clear_0 rfl (lv_at hl 0 rfl) ?_
  refine k_own S hK hP hinX20 2 (by decide) (S.2.2.2.2 _ (List.mem_cons_of_mem _ (List.mem_append_left _ (List.mem_append_left _ (List.mem_of_getElem? (i := 0) rfl))))) dX2_clear_1 rfl (2) rfl rfl ?_
  refine k_lengthN S hK hP hinX10 hK.2.1.2.1 dX2_clear_4 (by omega) ?_
  refine k_nm (fun v1_7 ev1_7 => ?_)
  refine lv_istore_n (lv' := [(1, .int (zI v1_7)), (0, .ref (E.2.2 10))]) hx hb dX2_clear_7 rfl hl (by decide) rfl (fun ls hl => ?_)
  refine lv_aload_n hx hb dX2_clear_8 rfl (lv_at hl 1 rfl) ?_
  refine k_own S hK hP hinX20 2 (by decide) (S.2.2.2.2 _ (List.mem_cons_of_mem _ (List.mem_append_left _ (List.mem_append_left _ (List.mem_of_getElem? (i := 0) rfl))))) dX2_clear_9 rfl (2) rfl rfl ?_
  refine lv_iload_n hx hb dX2_clear_12 rfl (lv_at hl 0 rfl) ?_
  refine k_callVV (As := [.int (zI v1_7)]) (rest := []) S hK hP hS (c_X1_drop l E hE M 2 v1_7 (by omega) (by assumption) (by omega)) (cwV 1 S.2.2.2.2 gX2_clear_X1_drop rfl rfl rfl (by decide +kernel) ⟨Nat.le_of_ble_eq_true rfl, Nat.le_of_ble_eq_true rfl⟩) (k_rS hK hP (by omega)) rfl hl.1 rfl (Nat.le_of_ble_eq_true rfl) dX2_clear_13 ⟨Nat.le_of_ble_eq_true rfl, Nat.le_of_ble_eq_true rfl⟩ (fun M_13 H locs h_13 hP hS => ?_)
  refine lv_iload_n hx hb dX2_clear_16 rfl (lv_at hl 0 rfl) ?_
  refine ends _ _ (v1_7) M_13 _ _ dX2_clear_17 hP hS ?_
  exact ⟨by rw [h_13, show M 2 1 - v1_7 = 0 by omega], by omega⟩
abbrev rX2_stitch : Room := { frames := 1, cells := 0, slots := 0, locals := 21 }
set_option maxHeartbeats 4000000 in
set_option maxRecDepth 100000 in
theorem c_X2_stitch (l : Launch) (E : kE) (M : kM) (h p : Int) (hh : 0 ≤ h ∧ h < 2) (hW : kWf M) (hp : 0 ≤ p ∧ p < M h 1) : kRO l yX2_stitch wsX2_stitch rX2_stitch E M [.ref (E.2.2 10), .int (zI h), .int (zI p)] (fun z => z = M (h + 3) p ∧ 0 ≤ z ∧ z ≤ 8) := by
  refine kRO_of (cc := cX2_stitch) (maxL := 4) (rt := .int) RX2 (by decide) rfl rfl (Nat.le_of_ble_eq_true rfl) k_nari ?_
  intro pg en s0 mi ar bl me co ls Q S hP hK ends hl
  have hx := S.1
  have hb := S.2.1
  have hinX00 : ∀ w ∈ wsX00, w ∈ wsX2_stitch := fun w h => List.mem_cons_of_mem _ (List.mem_append_left _ (List.mem_append_left _ (List.mem_append_left _ (List.mem_append_right _ (h)))))
  have hinX10 : ∀ w ∈ wsX10, w ∈ wsX2_stitch := fun w h => List.mem_cons_of_mem _ (List.mem_append_left _ (List.mem_append_right _ (h)))
  have hinX20 : ∀ w ∈ wsX20, w ∈ wsX2_stitch := fun w h => List.mem_cons_of_mem _ (List.mem_append_left _ (List.mem_append_left _ (List.mem_append_right _ (h))))
  have hl : lv_has ls 4 [(0, .ref (E.2.2 10)), (1, .int (zI h)), (2, .int (zI p))] := hl
  obtain ⟨hn0, hn1, hv⟩ := hW h (by omega)
  obtain ⟨hs0, hs1, hsv⟩ := hW 2 (by omega)
  refine lv_aload_n hx hb dX2_stitch_0 rfl (lv_at hl 0 rfl) ?_
  refine lv_iload_n hx hb dX2_stitch_1 rfl (lv_at hl 1 rfl) ?_
  refine k_callVr (As := [.int (zI h)]) (rest := []) S hK hP (c_X2_hemOf l E M h (by omega)) (cwV 1 S.2.2.2.2 gX2_stitch_X2_hemOf rfl rfl rfl (by decide +kernel) ⟨Nat.le_of_ble_eq_true rfl, Nat.le_of_ble_eq_true rfl⟩) (k_rX hK hP rfl) rfl hl.1 rfl (Nat.le_of_ble_eq_true rfl) dX2_stitch_2 ⟨Nat.le_of_ble_eq_true rfl, Nat.le_of_ble_eq_true rfl⟩ ?_
  refine k_stitchesN S hK hP hinX00 hK.2.1.2.2.1 dX2_stitch_5 (by omega) (h) (by omega) ?_
  refine lv_astore_n (lv' := [(3, .ref (E.2.2 h)), (0, .ref (E.2.2 10)), (1, .int (zI h)), (2, .int (zI p))]) hx hb dX2_stitch_8 rfl hl (by decide) rfl (fun ls hl => ?_)
  refine lv_aload_n hx hb dX2_stitch_9 rfl (lv_at hl 0 rfl) ?_
  refine lv_iload_n hx hb dX2_stitch_10 rfl (lv_at hl 3 rfl) ?_
  refine k_callSv (As := [.ref (E.2.2 h), .int (zI p)]) (rest := []) S hK hP (c_X2_requirePlace l E M h p (by omega) (by assumption) (by omega)) (va_cwS 2 S.2.2.2.2 gX2_stitch_X2_requirePlace rfl rfl rfl (by decide +kernel) ⟨Nat.le_of_ble_eq_true rfl, Nat.le_of_ble_eq_true rfl⟩) rfl hl.1 rfl (Nat.le_of_ble_eq_true rfl) dX2_stitch_11 ⟨Nat.le_of_ble_eq_true rfl, Nat.le_of_ble_eq_true rfl⟩ ?_
  refine lv_aload_n hx hb dX2_stitch_14 rfl (lv_at hl 0 rfl) ?_
  refine lv_iload_n hx hb dX2_stitch_15 rfl (lv_at hl 3 rfl) ?_
  refine k_callV (As := [.int (zI p)]) (rest := []) S hK hP (c_X1_at l E M h p (by omega) (by assumption) (by omega)) (cwV 1 S.2.2.2.2 gX2_stitch_X1_at rfl rfl rfl (by decide +kernel) ⟨Nat.le_of_ble_eq_true rfl, Nat.le_of_ble_eq_true rfl⟩) (k_rS hK hP (by omega)) rfl hl.1 rfl (Nat.le_of_ble_eq_true rfl) dX2_stitch_16 ⟨Nat.le_of_ble_eq_true rfl, Nat.le_of_ble_eq_true rfl⟩ (fun z_16 h_16 => ?_)
  refine ends _ _ (z_16) dX2_stitch_19 ?_
  omega
abbrev rX2_end : Room := { frames := 1, cells := 0, slots := 0, locals := 21 }
set_option maxHeartbeats 4000000 in
set_option maxRecDepth 100000 in
theorem c_X2_end (l : Launch) (E : kE) (M : kM) (h r : Int) (hh : 0 ≤ h ∧ h < 2) (hW : kWf M) (hO2 : ∀ h : Int, 0 ≤ h ∧ h < 2 → kO M h) (hp : 0 ≤ r ∧ r < M h 1) : kRO l yX2_end wsX2_end rX2_end E M [.ref (E.2.2 10), .int (zI h), .int (zI r)] (fun z => kIsEnd (M (h + 3)) (M h 1) r z ∧ 0 ≤ z ∧ z < 40) := by
  refine kRO_of (cc := cX2_end) (maxL := 4) (rt := .int) RX2 (by decide) rfl rfl (Nat.le_of_ble_eq_true rfl) k_nari ?_
  intro pg en s0 mi ar bl me co ls Q S hP hK ends hl
  have hx := S.1
  have hb := S.2.1
  have hinX00 : ∀ w ∈ wsX00, w ∈ wsX2_end := fun w h => List.mem_cons_of_mem _ (List.mem_append_left _ (List.mem_append_left _ (List.mem_append_left _ (List.mem_append_right _ (h)))))
  have hinX10 : ∀ w ∈ wsX10, w ∈ wsX2_end := fun w h => List.mem_cons_of_mem _ (List.mem_append_left _ (List.mem_append_right _ (h)))
  have hinX20 : ∀ w ∈ wsX20, w ∈ wsX2_end := fun w h => List.mem_cons_of_mem _ (List.mem_append_left _ (List.mem_append_left _ (List.mem_append_right _ (h))))
  have hl : lv_has ls 4 [(0, .ref (E.2.2 10)), (1, .int (zI h)), (2, .int (zI r))] := hl
  obtain ⟨hn0, hn1, hv⟩ := hW h (by omega)
  obtain ⟨hs0, hs1, hsv⟩ := hW 2 (by omega)
  refine lv_aload_n hx hb dX2_end_0 rfl (lv_at hl 0 rfl) ?_
  refine lv_iload_n hx hb dX2_end_1 rfl (lv_at hl 1 rfl) ?_
  refine k_callVr (As := [.int (zI h)]) (rest := []) S hK hP (c_X2_hemOf l E M h (by omega)) (cwV 1 S.2.2.2.2 gX2_end_X2_hemOf rfl rfl rfl (by decide +kernel) ⟨Nat.le_of_ble_eq_true rfl, Nat.le_of_ble_eq_true rfl⟩) (k_rX hK hP rfl) rfl hl.1 rfl (Nat.le_of_ble_eq_true rfl) dX2_end_2 ⟨Nat.le_of_ble_eq_true rfl, Nat.le_of_ble_eq_true rfl⟩ ?_
  refine lv_astore_n (lv' := [(3, .ref (E.2.2 (6 + h))), (0, .ref (E.2.2 10)), (1, .int (zI h)), (2, .int (zI r))]) hx hb dX2_end_5 rfl hl (by decide) rfl (fun ls hl => ?_)
  refine lv_aload_n hx hb dX2_end_6 rfl (lv_at hl 0 rfl) ?_
  refine k_stitchesN S hK hP hinX00 hK.2.1.2.2.1 dX2_end_7 (by omega) (h) (by omega) ?_
  refine lv_iload_n hx hb dX2_end_10 rfl (lv_at hl 3 rfl) ?_
  refine k_callSv (As := [.ref (E.2.2 h), .int (zI r)]) (rest := []) S hK hP (c_X2_requirePlace l E M h r (by omega) (by assumption) (by omega)) (va_cwS 2 S.2.2.2.2 gX2_end_X2_requirePlace rfl rfl rfl (by decide +kernel) ⟨Nat.le_of_ble_eq_true rfl, Nat.le_of_ble_eq_true rfl⟩) rfl hl.1 rfl (Nat.le_of_ble_eq_true rfl) dX2_end_11 ⟨Nat.le_of_ble_eq_true rfl, Nat.le_of_ble_eq_true rfl⟩ ?_
  refine lv_aload_n hx hb dX2_end_14 rfl (lv_at hl 0 rfl) ?_
  refine lv_iload_n hx hb dX2_end_15 rfl (lv_at hl 3 rfl) ?_
  refine k_callV (As := [.int (zI r)]) (rest := []) S hK hP (c_X0_placeAt l E M h r (by omega) (by assumption) (by exact hO2 _ (by omega)) (by omega)) (cwV 1 S.2.2.2.2 gX2_end_X0_placeAt rfl rfl rfl (by decide +kernel) ⟨Nat.le_of_ble_eq_true rfl, Nat.le_of_ble_eq_true rfl⟩) (k_rH hK hP (by omega)) rfl hl.1 rfl (Nat.le_of_ble_eq_true rfl) dX2_end_16 ⟨Nat.le_of_ble_eq_true rfl, Nat.le_of_ble_eq_true rfl⟩ (fun z_16 h_16 => ?_)
  refine ends _ _ (z_16) dX2_end_19 ?_
  have q := kOrd_at (hO2 h hh) (r := r) (by omega)
  have e : z_16 = M (8 + h) r := by omega
  rw [← e] at q
  exact ⟨⟨by omega, by omega, q⟩, by omega, by omega⟩
abbrev rX2_rank : Room := { frames := 2, cells := 0, slots := 0, locals := 43 }
set_option maxHeartbeats 4000000 in
set_option maxRecDepth 100000 in
theorem c_X2_rank (l : Launch) (E : kE) (M : kM) (h p : Int) (hh : 0 ≤ h ∧ h < 2) (hW : kWf M) (hO2 : ∀ h : Int, 0 ≤ h ∧ h < 2 → kO M h) (hp : 0 ≤ p ∧ p < M h 1) : kRO l yX2_rank wsX2_rank rX2_rank E M [.ref (E.2.2 10), .int (zI h), .int (zI p)] (fun z => z = kRk (M (h + 3)) (M h 1) p ∧ 0 ≤ z ∧ z < 40) := by
  refine kRO_of (cc := cX2_rank) (maxL := 4) (rt := .int) RX2 (by decide) rfl rfl (Nat.le_of_ble_eq_true rfl) k_nari ?_
  intro pg en s0 mi ar bl me co ls Q S hP hK ends hl
  have hx := S.1
  have hb := S.2.1
  have hinX00 : ∀ w ∈ wsX00, w ∈ wsX2_rank := fun w h => List.mem_cons_of_mem _ (List.mem_append_left _ (List.mem_append_left _ (List.mem_append_left _ (List.mem_append_right _ (h)))))
  have hinX10 : ∀ w ∈ wsX10, w ∈ wsX2_rank := fun w h => List.mem_cons_of_mem _ (List.mem_append_left _ (List.mem_append_right _ (h)))
  have hinX20 : ∀ w ∈ wsX20, w ∈ wsX2_rank := fun w h => List.mem_cons_of_mem _ (List.mem_append_left _ (List.mem_append_left _ (List.mem_append_right _ (h))))
  have hl : lv_has ls 4 [(0, .ref (E.2.2 10)), (1, .int (zI h)), (2, .int (zI p))] := hl
  obtain ⟨hn0, hn1, hv⟩ := hW h (by omega)
  obtain ⟨hs0, hs1, hsv⟩ := hW 2 (by omega)
  refine lv_aload_n hx hb dX2_rank_0 rfl (lv_at hl 0 rfl) ?_
  refine lv_iload_n hx hb dX2_rank_1 rfl (lv_at hl 1 rfl) ?_
  refine k_callVr (As := [.int (zI h)]) (rest := []) S hK hP (c_X2_hemOf l E M h (by omega)) (cwV 1 S.2.2.2.2 gX2_rank_X2_hemOf rfl rfl rfl (by decide +kernel) ⟨Nat.le_of_ble_eq_true rfl, Nat.le_of_ble_eq_true rfl⟩) (k_rX hK hP rfl) rfl hl.1 rfl (Nat.le_of_ble_eq_true rfl) dX2_rank_2 ⟨Nat.le_of_ble_eq_true rfl, Nat.le_of_ble_eq_true rfl⟩ ?_
  refine lv_astore_n (lv' := [(3, .ref (E.2.2 (6 + h))), (0, .ref (E.2.2 10)), (1, .int (zI h)), (2, .int (zI p))]) hx hb dX2_rank_5 rfl hl (by decide) rfl (fun ls hl => ?_)
  refine lv_aload_n hx hb dX2_rank_6 rfl (lv_at hl 0 rfl) ?_
  refine k_stitchesN S hK hP hinX00 hK.2.1.2.2.1 dX2_rank_7 (by omega) (h) (by omega) ?_
  refine lv_iload_n hx hb dX2_rank_10 rfl (lv_at hl 3 rfl) ?_
  refine k_callSv (As := [.ref (E.2.2 h), .int (zI p)]) (rest := []) S hK hP (c_X2_requirePlace l E M h p (by omega) (by assumption) (by omega)) (va_cwS 2 S.2.2.2.2 gX2_rank_X2_requirePlace rfl rfl rfl (by decide +kernel) ⟨Nat.le_of_ble_eq_true rfl, Nat.le_of_ble_eq_true rfl⟩) rfl hl.1 rfl (Nat.le_of_ble_eq_true rfl) dX2_rank_11 ⟨Nat.le_of_ble_eq_true rfl, Nat.le_of_ble_eq_true rfl⟩ ?_
  refine lv_aload_n hx hb dX2_rank_14 rfl (lv_at hl 0 rfl) ?_
  refine lv_iload_n hx hb dX2_rank_15 rfl (lv_at hl 3 rfl) ?_
  refine k_callV (As := [.int (zI p)]) (rest := []) S hK hP (c_X0_rankOf l E M h p (by omega) (by assumption) (by exact hO2 _ (by omega)) (by omega)) (cwV 1 S.2.2.2.2 gX2_rank_X0_rankOf rfl rfl rfl (by decide +kernel) ⟨Nat.le_of_ble_eq_true rfl, Nat.le_of_ble_eq_true rfl⟩) (k_rH hK hP (by omega)) rfl hl.1 rfl (Nat.le_of_ble_eq_true rfl) dX2_rank_16 ⟨Nat.le_of_ble_eq_true rfl, Nat.le_of_ble_eq_true rfl⟩ (fun z_16 h_16 => ?_)
  refine ends _ _ (z_16) dX2_rank_19 ?_
  rcases h_16 with ⟨g1, g2, g3⟩ | ⟨g1, g2⟩
  · have q := kOrd_at (hO2 h hh) (r := z_16) ⟨g1, g2⟩
    rw [g3] at q
    exact ⟨q.symm, by omega, by omega⟩
  · have q := kRk_rng (x := M (h + 3)) (n := M h 1) (a := p) hp
    exact absurd (kOrd_rk_at (hO2 h hh) (a := p) hp) (g2 _ q.1 q.2)
abbrev rX2_common : Room := { frames := 2, cells := 0, slots := 0, locals := 46 }
set_option maxHeartbeats 4000000 in
set_option maxRecDepth 100000 in
theorem c_X2_common (l : Launch) (E : kE) (M : kM) (h a b : Int) (hh : 0 ≤ h ∧ h < 2) (hW : kWf M) (hp : 0 ≤ a ∧ a < M h 1 ∧ 0 ≤ b ∧ b < M h 1) : kRO l yX2_common wsX2_common rX2_common E M [.ref (E.2.2 10), .int (zI h), .int (zI a), .int (zI b)] (fun z => z = kL (M (h + 3)) (M h 1) a (M (h + 3)) (M h 1) b ∧ 0 ≤ z ∧ z ≤ 40) := by
  refine kRO_of (cc := cX2_common) (maxL := 5) (rt := .int) RX2 (by decide) rfl rfl (Nat.le_of_ble_eq_true rfl) k_nari ?_
  intro pg en s0 mi ar bl me co ls Q S hP hK ends hl
  have hx := S.1
  have hb := S.2.1
  have hinX00 : ∀ w ∈ wsX00, w ∈ wsX2_common := fun w h => List.mem_cons_of_mem _ (List.mem_append_left _ (List.mem_append_left _ (List.mem_append_left _ (List.mem_append_right _ (h)))))
  have hinX10 : ∀ w ∈ wsX10, w ∈ wsX2_common := fun w h => List.mem_cons_of_mem _ (List.mem_append_left _ (List.mem_append_right _ (h)))
  have hinX20 : ∀ w ∈ wsX20, w ∈ wsX2_common := fun w h => List.mem_cons_of_mem _ (List.mem_append_left _ (List.mem_append_left _ (List.mem_append_right _ (h))))
  have hl : lv_has ls 5 [(0, .ref (E.2.2 10)), (1, .int (zI h)), (2, .int (zI a)), (3, .int (zI b))] := hl
  obtain ⟨hn0, hn1, hv⟩ := hW h (by omega)
  obtain ⟨hs0, hs1, hsv⟩ := hW 2 (by omega)
  refine lv_aload_n hx hb dX2_common_0 rfl (lv_at hl 0 rfl) ?_
  refine lv_iload_n hx hb dX2_common_1 rfl (lv_at hl 1 rfl) ?_
  refine k_callVr (As := [.int (zI h)]) (rest := []) S hK hP (c_X2_hemOf l E M h (by omega)) (cwV 1 S.2.2.2.2 gX2_common_X2_hemOf rfl rfl rfl (by decide +kernel) ⟨Nat.le_of_ble_eq_true rfl, Nat.le_of_ble_eq_true rfl⟩) (k_rX hK hP rfl) rfl hl.1 rfl (Nat.le_of_ble_eq_true rfl) dX2_common_2 ⟨Nat.le_of_ble_eq_true rfl, Nat.le_of_ble_eq_true rfl⟩ ?_
  refine k_stitchesN S hK hP hinX00 hK.2.1.2.2.1 dX2_common_5 (by omega) (h) (by omega) ?_
  refine lv_astore (lv' := [(4, .ref (E.2.2 h)), (0, .ref (E.2.2 10)), (1, .int (zI h)), (2, .int (zI a)), (3, .int (zI b))]) hx hb dX2_common_8 hl (by decide) rfl (fun ls hl => ?_)
  refine lv_aload hx hb dX2_common_10 (lv_at hl 0 rfl) ?_
  refine lv_iload_n hx hb dX2_common_12 rfl (lv_at hl 3 rfl) ?_
  refine k_callSv (As := [.ref (E.2.2 h), .int (zI a)]) (rest := []) S hK hP (c_X2_requirePlace l E M h a (by omega) (by assumption) (by omega)) (va_cwS 2 S.2.2.2.2 gX2_common_X2_requirePlace rfl rfl rfl (by decide +kernel) ⟨Nat.le_of_ble_eq_true rfl, Nat.le_of_ble_eq_true rfl⟩) rfl hl.1 rfl (Nat.le_of_ble_eq_true rfl) dX2_common_13 ⟨Nat.le_of_ble_eq_true rfl, Nat.le_of_ble_eq_true rfl⟩ ?_
  refine lv_aload hx hb dX2_common_16 (lv_at hl 0 rfl) ?_
  refine lv_iload_n hx hb dX2_common_18 rfl (lv_at hl 4 rfl) ?_
  refine k_callSv (As := [.ref (E.2.2 h), .int (zI b)]) (rest := []) S hK hP (c_X2_requirePlace l E M h b (by omega) (by assumption) (by omega)) (va_cwS 2 S.2.2.2.2 gX2_common_X2_requirePlace rfl rfl rfl (by decide +kernel) ⟨Nat.le_of_ble_eq_true rfl, Nat.le_of_ble_eq_true rfl⟩) rfl hl.1 rfl (Nat.le_of_ble_eq_true rfl) dX2_common_19 ⟨Nat.le_of_ble_eq_true rfl, Nat.le_of_ble_eq_true rfl⟩ ?_
  refine lv_aload hx hb dX2_common_22 (lv_at hl 0 rfl) ?_
  refine lv_iload_n hx hb dX2_common_24 rfl (lv_at hl 3 rfl) ?_
  refine lv_aload hx hb dX2_common_25 (lv_at hl 0 rfl) ?_
  refine lv_iload_n hx hb dX2_common_27 rfl (lv_at hl 4 rfl) ?_
  refine k_callV (As := [.int (zI a), .ref (E.2.2 h), .int (zI b)]) (rest := []) S hK hP (c_X1_sharedWith l E M h a h b (by omega) (by omega) (by assumption) (by omega) (by omega)) (cwV 3 S.2.2.2.2 gX2_common_X1_sharedWith rfl rfl rfl (by decide +kernel) ⟨Nat.le_of_ble_eq_true rfl, Nat.le_of_ble_eq_true rfl⟩) (k_rS hK hP (by omega)) rfl hl.1 rfl (Nat.le_of_ble_eq_true rfl) dX2_common_28 ⟨Nat.le_of_ble_eq_true rfl, Nat.le_of_ble_eq_true rfl⟩ (fun z_28 h_28 => ?_)
  refine ends _ _ (z_28) dX2_common_31 ?_
  have q := kL_of h_28
  obtain ⟨q1, q2, -⟩ := h_28
  exact ⟨q, by omega, by omega⟩
abbrev rX2_against : Room := { frames := 3, cells := 0, slots := 0, locals := 72 }
set_option maxHeartbeats 4000000 in
set_option maxRecDepth 100000 in
theorem c_X2_against (l : Launch) (E : kE) (M : kM) (a b : Int) (hW : kWf M) (hp : 0 ≤ a ∧ a < M 0 1 ∧ 0 ≤ b ∧ b < M 1 1) : kRO l yX2_against wsX2_against rX2_against E M [.ref (E.2.2 10), .int (zI a), .int (zI b)] (fun z => kD (M 3) (M 0 1) a (M 4) (M 1 1) b z ∧ -41 ≤ z ∧ z ≤ 41) := by
  refine kRO_of (cc := cX2_against) (maxL := 3) (rt := .int) RX2 (by decide) rfl rfl (Nat.le_of_ble_eq_true rfl) k_nari ?_
  intro pg en s0 mi ar bl me co ls Q S hP hK ends hl
  have hx := S.1
  have hb := S.2.1
  have hinX00 : ∀ w ∈ wsX00, w ∈ wsX2_against := fun w h => List.mem_cons_of_mem _ (List.mem_append_left _ (List.mem_append_left _ (List.mem_append_right _ (h))))
  have hinX10 : ∀ w ∈ wsX10, w ∈ wsX2_against := fun w h => List.mem_cons_of_mem _ (List.mem_append_left _ (List.mem_append_right _ (h)))
  have hinX20 : ∀ w ∈ wsX20, w ∈ wsX2_against := fun w h => List.mem_cons_of_mem _ (List.mem_append_left _ (List.mem_append_left _ (List.mem_append_left _ (List.mem_append_right _ (h)))))
  have hl : lv_has ls 3 [(0, .ref (E.2.2 10)), (1, .int (zI a)), (2, .int (zI b))] := hl
  obtain ⟨hn0, hn1, hv⟩ := hW 0 (by omega)
  obtain ⟨hm0, hm1, hw1⟩ := hW 1 (by omega)
  obtain ⟨hs0, hs1, hsv⟩ := hW 2 (by omega)
  refine lv_aload_n hx hb dX2_against_0 rfl (lv_at hl 0 rfl) ?_
  refine k_own S hK hP hinX20 0 (by decide) (S.2.2.2.2 _ (List.mem_cons_of_mem _ (List.mem_append_left _ (List.mem_append_left _ (List.mem_append_left _ (List.mem_append_left _ (List.mem_append_left _ (List.mem_of_getElem? (i := 0) rfl)))))))) dX2_against_1 rfl (6 + 0) rfl rfl ?_
  refine k_stitchesN S hK hP hinX00 hK.2.1.2.2.1 dX2_against_4 (by omega) (0) (by omega) ?_
  refine lv_iload_n hx hb dX2_against_7 rfl (lv_at hl 1 rfl) ?_
  refine k_callSv (As := [.ref (E.2.2 0), .int (zI a)]) (rest := []) S hK hP (c_X2_requirePlace l E M 0 a (by omega) (by assumption) (by omega)) (va_cwS 2 S.2.2.2.2 gX2_against_X2_requirePlace rfl rfl rfl (by decide +kernel) ⟨Nat.le_of_ble_eq_true rfl, Nat.le_of_ble_eq_true rfl⟩) rfl hl.1 rfl (Nat.le_of_ble_eq_true rfl) dX2_against_8 ⟨Nat.le_of_ble_eq_true rfl, Nat.le_of_ble_eq_true rfl⟩ ?_
  refine lv_aload_n hx hb dX2_against_11 rfl (lv_at hl 0 rfl) ?_
  refine k_own S hK hP hinX20 1 (by decide) (S.2.2.2.2 _ (List.mem_cons_of_mem _ (List.mem_append_left _ (List.mem_append_left _ (List.mem_append_left _ (List.mem_append_left _ (List.mem_append_left _ (List.mem_of_getElem? (i := 1) rfl)))))))) dX2_against_12 rfl (6 + 1) rfl rfl ?_
  refine k_stitchesN S hK hP hinX00 hK.2.1.2.2.1 dX2_against_15 (by omega) (1) (by omega) ?_
  refine lv_iload_n hx hb dX2_against_18 rfl (lv_at hl 2 rfl) ?_
  refine k_callSv (As := [.ref (E.2.2 1), .int (zI b)]) (rest := []) S hK hP (c_X2_requirePlace l E M 1 b (by omega) (by assumption) (by omega)) (va_cwS 2 S.2.2.2.2 gX2_against_X2_requirePlace rfl rfl rfl (by decide +kernel) ⟨Nat.le_of_ble_eq_true rfl, Nat.le_of_ble_eq_true rfl⟩) rfl hl.1 rfl (Nat.le_of_ble_eq_true rfl) dX2_against_19 ⟨Nat.le_of_ble_eq_true rfl, Nat.le_of_ble_eq_true rfl⟩ ?_
  refine lv_aload_n hx hb dX2_against_22 rfl (lv_at hl 0 rfl) ?_
  refine k_own S hK hP hinX20 0 (by decide) (S.2.2.2.2 _ (List.mem_cons_of_mem _ (List.mem_append_left _ (List.mem_append_left _ (List.mem_append_left _ (List.mem_append_left _ (List.mem_append_left _ (List.mem_of_getElem? (i := 0) rfl)))))))) dX2_against_23 rfl (6 + 0) rfl rfl ?_
  refine k_stitchesN S hK hP hinX00 hK.2.1.2.2.1 dX2_against_26 (by omega) (0) (by omega) ?_
  refine lv_iload_n hx hb dX2_against_29 rfl (lv_at hl 1 rfl) ?_
  refine lv_aload_n hx hb dX2_against_30 rfl (lv_at hl 0 rfl) ?_
  refine k_own S hK hP hinX20 1 (by decide) (S.2.2.2.2 _ (List.mem_cons_of_mem _ (List.mem_append_left _ (List.mem_append_left _ (List.mem_append_left _ (List.mem_append_left _ (List.mem_append_left _ (List.mem_of_getElem? (i := 1) rfl)))))))) dX2_against_31 rfl (6 + 1) rfl rfl ?_
  refine k_stitchesN S hK hP hinX00 hK.2.1.2.2.1 dX2_against_34 (by omega) (1) (by omega) ?_
  refine lv_iload_n hx hb dX2_against_37 rfl (lv_at hl 2 rfl) ?_
  refine k_callV (As := [.int (zI a), .ref (E.2.2 1), .int (zI b)]) (rest := []) S hK hP (c_X1_difference l E M 0 a 1 b (by omega) (by omega) (by assumption) (by omega) (by omega)) (cwV 3 S.2.2.2.2 gX2_against_X1_difference rfl rfl rfl (by decide +kernel) ⟨Nat.le_of_ble_eq_true rfl, Nat.le_of_ble_eq_true rfl⟩) (k_rS hK hP (by omega)) rfl hl.1 rfl (Nat.le_of_ble_eq_true rfl) dX2_against_38 ⟨Nat.le_of_ble_eq_true rfl, Nat.le_of_ble_eq_true rfl⟩ (fun z_38 h_38 => ?_)
  refine ends _ _ (z_38) dX2_against_41 ?_
  exact h_38
abbrev rX2_seamLengthFrom : Room := { frames := 3, cells := 0, slots := 0, locals := 70 }
set_option maxHeartbeats 4000000 in
set_option maxRecDepth 100000 in
theorem c_X2_seamLengthFrom (l : Launch) (E : kE) (M : kM) (p : Int) (hW : kWf M) (hp : -1 ≤ p ∧ p ≤ M 0 1) : kRO l yX2_seamLengthFrom wsX2_seamLengthFrom rX2_seamLengthFrom E M [.ref (E.2.2 10), .int (zI p)] (fun z => ((p < 0 ∧ z = 0) ∨ (0 ≤ p ∧ z = kMac (M 3) (M 0 1) (M 4) (M 1 1) p)) ∧ 0 ≤ z ∧ z ≤ 40) := by
  refine kRO_of (cc := cX2_seamLengthFrom) (maxL := 2) (rt := .int) RX2 (by decide) rfl rfl (Nat.le_of_ble_eq_true rfl) k_nari ?_
  intro pg en s0 mi ar bl me co ls Q S hP hK ends hl
  have hx := S.1
  have hb := S.2.1
  have hinX00 : ∀ w ∈ wsX00, w ∈ wsX2_seamLengthFrom := fun w h => List.mem_cons_of_mem _ (List.mem_append_left _ (List.mem_append_right _ (h)))
  have hinX10 : ∀ w ∈ wsX10, w ∈ wsX2_seamLengthFrom := fun w h => List.mem_cons_of_mem _ (List.mem_append_right _ (h))
  have hinX20 : ∀ w ∈ wsX20, w ∈ wsX2_seamLengthFrom := fun w h => List.mem_cons_of_mem _ (List.mem_append_left _ (List.mem_append_left _ (List.mem_append_right _ (h))))
  have hl : lv_has ls 2 [(0, .ref (E.2.2 10)), (1, .int (zI p))] := hl
  obtain ⟨hn0, hn1, hv⟩ := hW 0 (by omega)
  obtain ⟨hm0, hm1, hw1⟩ := hW 1 (by omega)
  obtain ⟨hs0, hs1, hsv⟩ := hW 2 (by omega)
  refine lv_aload_n hx hb dX2_seamLengthFrom_0 rfl (lv_at hl 0 rfl) ?_
  refine k_own S hK hP hinX20 0 (by decide) (S.2.2.2.2 _ (List.mem_cons_of_mem _ (List.mem_append_left _ (List.mem_append_left _ (List.mem_append_left _ (List.mem_of_getElem? (i := 0) rfl)))))) dX2_seamLengthFrom_1 rfl (6 + 0) rfl rfl ?_
  refine k_stitchesN S hK hP hinX00 hK.2.1.2.2.1 dX2_seamLengthFrom_4 (by omega) (0) (by omega) ?_
  refine lv_iload_n hx hb dX2_seamLengthFrom_7 rfl (lv_at hl 1 rfl) ?_
  refine lv_aload_n hx hb dX2_seamLengthFrom_8 rfl (lv_at hl 0 rfl) ?_
  refine k_own S hK hP hinX20 1 (by decide) (S.2.2.2.2 _ (List.mem_cons_of_mem _ (List.mem_append_left _ (List.mem_append_left _ (List.mem_append_left _ (List.mem_of_getElem? (i := 1) rfl)))))) dX2_seamLengthFrom_9 rfl (6 + 1) rfl rfl ?_
  refine k_stitchesN S hK hP hinX00 hK.2.1.2.2.1 dX2_seamLengthFrom_12 (by omega) (1) (by omega) ?_
  refine k_callV (As := [.int (zI p), .ref (E.2.2 1)]) (rest := []) S hK hP (c_X1_mostSharedWith l E M 0 p 1 (by omega) (by omega) (by assumption) (by omega)) (cwV 2 S.2.2.2.2 gX2_seamLengthFrom_X1_mostSharedWith rfl rfl rfl (by decide +kernel) ⟨Nat.le_of_ble_eq_true rfl, Nat.le_of_ble_eq_true rfl⟩) (k_rS hK hP (by omega)) rfl hl.1 rfl (Nat.le_of_ble_eq_true rfl) dX2_seamLengthFrom_15 ⟨Nat.le_of_ble_eq_true rfl, Nat.le_of_ble_eq_true rfl⟩ (fun z_15 h_15 => ?_)
  refine ends _ _ (z_15) dX2_seamLengthFrom_18 ?_
  refine ⟨?_, h_15.2⟩
  rcases h_15.1 with g | g
  · exact Or.inl g
  · exact Or.inr ⟨g.1, kMac_of hp.2 g.2⟩
abbrev rX2_seamPlace : Room := { frames := 4, cells := 0, slots := 0, locals := 91 }
set_option maxHeartbeats 4000000 in
set_option maxRecDepth 100000 in
theorem c_X2_seamPlace (l : Launch) (E : kE) (M : kM) (hW : kWf M) (hO2 : ∀ h : Int, 0 ≤ h ∧ h < 2 → kO M h) : kRO l yX2_seamPlace wsX2_seamPlace rX2_seamPlace E M [.ref (E.2.2 10)] (fun z => ((z = -1 ∧ ∀ r : Int, 0 ≤ r → r < M 0 1 → kMac (M 3) (M 0 1) (M 4) (M 1 1) (M 8 r) ≤ 0) ∨ (∃ q : Int, 0 ≤ q ∧ q < M 0 1 ∧ z = M 8 q ∧ 0 < kMac (M 3) (M 0 1) (M 4) (M 1 1) z ∧ (∀ r : Int, 0 ≤ r → r < M 0 1 → kMac (M 3) (M 0 1) (M 4) (M 1 1) (M 8 r) ≤ kMac (M 3) (M 0 1) (M 4) (M 1 1) z) ∧ ∀ r : Int, 0 ≤ r → r < q → kMac (M 3) (M 0 1) (M 4) (M 1 1) (M 8 r) < kMac (M 3) (M 0 1) (M 4) (M 1 1) z)) ∧ -1 ≤ z ∧ (z < M 0 1 ∨ z = -1)) := by
  refine kRO_of (cc := cX2_seamPlace) (maxL := 6) (rt := .int) RX2 (by decide) rfl rfl (Nat.le_of_ble_eq_true rfl) k_nari ?_
  intro pg en s0 mi ar bl me co ls Q S hP hK ends hl
  have hx := S.1
  have hb := S.2.1
  have hinX00 : ∀ w ∈ wsX00, w ∈ wsX2_seamPlace := fun w h => List.mem_cons_of_mem _ (List.mem_append_left _ (List.mem_append_right _ (h)))
  have hinX10 : ∀ w ∈ wsX10, w ∈ wsX2_seamPlace := fun w h => List.mem_cons_of_mem _ (List.mem_append_right _ (h))
  have hinX20 : ∀ w ∈ wsX20, w ∈ wsX2_seamPlace := fun w h => List.mem_cons_of_mem _ (List.mem_append_left _ (List.mem_append_left _ (List.mem_append_right _ (h))))
  have hl : lv_has ls 6 [(0, .ref (E.2.2 10))] := hl
  obtain ⟨hn0, hn1, hv⟩ := hW 0 (by omega)
  obtain ⟨hm0, hm1, hw1⟩ := hW 1 (by omega)
  obtain ⟨hs0, hs1, hsv⟩ := hW 2 (by omega)
  refine k_push hx hb dX2_seamPlace_0 ?_
  refine lv_istore_n (lv' := [(1, .int (zI (-1))), (0, .ref (E.2.2 10))]) hx hb dX2_seamPlace_1 rfl hl (by decide) rfl (fun ls hl => ?_)
  refine k_push hx hb dX2_seamPlace_2 ?_
  refine lv_istore_n (lv' := [(2, .int (zI 0)), (1, .int (zI (-1))), (0, .ref (E.2.2 10))]) hx hb dX2_seamPlace_3 rfl hl (by decide) rfl (fun ls hl => ?_)
  refine k_push hx hb dX2_seamPlace_4 ?_
  refine lv_istore_n (lv' := [(3, .int (zI 0)), (2, .int (zI 0)), (1, .int (zI (-1))), (0, .ref (E.2.2 10))]) hx hb dX2_seamPlace_5 rfl hl (by decide) rfl (fun ls hl => ?_)
  have lp_6 : ∀ (n_6 : Nat) (b : Int) (k : Int) (r : Int), (0 ≤ r ∧ r ≤ M 0 1 ∧ 0 ≤ k ∧ k ≤ 40 ∧ ((b = -1 ∧ k = 0) ∨ (0 ≤ b ∧ b < M 0 1 ∧ 0 < k))) → (0 ≤ b → k = kMac (M 3) (M 0 1) (M 4) (M 1 1) b ∧ ∃ q : Int, 0 ≤ q ∧ q < r ∧ b = M 8 q ∧ ∀ s : Int, 0 ≤ s → s < q → kMac (M 3) (M 0 1) (M 4) (M 1 1) (M 8 s) < k) → (∀ s : Int, 0 ≤ s → s < r → kMac (M 3) (M 0 1) (M 4) (M 1 1) (M 8 s) ≤ k) → (M 0 1 - r < (n_6 : Int)) → ∀ ls : Array Slot, lv_has ls 6 [(0, .ref (E.2.2 10)), (1, .int (zI b)), (2, .int (zI k)), (3, .int (zI r))] → W pg l en rX2_seamPlace s0 mi ar bl me co s0.heap [] 0 0 Q (F0 mi 6 ls []) := by
    intro n_6
    induction n_6 with
    | zero => intro b k r h1 h2 h3 hm_6; exfalso; omega
    | succ n_6 ih_6 =>
      intro b k r h1 h2 h3 hm_6 ls hl
      refine lv_iload_n hx hb dX2_seamPlace_6 rfl (lv_at hl 3 rfl) ?_
      refine lv_aload_n hx hb dX2_seamPlace_7 rfl (lv_at hl 0 rfl) ?_
      refine k_own S hK hP hinX20 0 (by decide) (S.2.2.2.2 _ (List.mem_cons_of_mem _ (List.mem_append_left _ (List.mem_append_left _ (List.mem_append_left _ (List.mem_append_left _ (List.mem_of_getElem? (i := 0) rfl))))))) dX2_seamPlace_8 rfl (6 + 0) rfl rfl ?_
      refine k_stitchesN S hK hP hinX00 hK.2.1.2.2.1 dX2_seamPlace_11 (by omega) (0) (by omega) ?_
      refine k_lengthN S hK hP hinX10 hK.2.1.2.1 dX2_seamPlace_14 (by omega) ?_
      refine k_ge (tgt := 56) hx hb dX2_seamPlace_17 (by decide) (by omega) (fun c_17 => ?_) (fun c_17 => ?_)
      · skip
        refine lv_iload_n hx hb dX2_seamPlace_56 rfl (lv_at hl 1 rfl) ?_
        refine ends _ _ (b) dX2_seamPlace_57 ?_
        rcases h1.2.2.2.2 with g | g
        · exact ⟨Or.inl ⟨g.1, fun s g1 g2 => by have := h3 s g1 (by omega); omega⟩, by omega, by omega⟩
        · obtain ⟨e, q, g1, g2, g3, g4⟩ := h2 g.1
          exact ⟨Or.inr ⟨q, g1, by omega, g3, by omega, fun s s1 s2 => by have := h3 s s1 (by omega); omega, fun s s1 s2 => by have := g4 s s1 s2; omega⟩, by omega, by omega⟩
      · skip
        refine lv_aload_n hx hb dX2_seamPlace_20 rfl (lv_at hl 0 rfl) ?_
        refine k_own S hK hP hinX20 0 (by decide) (S.2.2.2.2 _ (List.mem_cons_of_mem _ (List.mem_append_left _ (List.mem_append_left _ (List.mem_append_left _ (List.mem_append_left _ (List.mem_of_getElem? (i := 0) rfl))))))) dX2_seamPlace_21 rfl (6 + 0) rfl rfl ?_
        refine lv_iload_n hx hb dX2_seamPlace_24 rfl (lv_at hl 3 rfl) ?_
        refine k_callV (As := [.int (zI r)]) (rest := []) S hK hP (c_X0_placeAt l E M 0 r (by omega) (by assumption) (by exact hO2 _ (by omega)) (by omega)) (cwV 1 S.2.2.2.2 gX2_seamPlace_X0_placeAt rfl rfl rfl (by decide +kernel) ⟨Nat.le_of_ble_eq_true rfl, Nat.le_of_ble_eq_true rfl⟩) (k_rH hK hP (by omega)) rfl hl.1 rfl (Nat.le_of_ble_eq_true rfl) dX2_seamPlace_25 ⟨Nat.le_of_ble_eq_true rfl, Nat.le_of_ble_eq_true rfl⟩ (fun z_25 h_25 => ?_)
        have q1 : z_25 = M 8 r ∧ 0 ≤ z_25 ∧ z_25 < M 0 1 := by
          rcases h_25 with g | g
          · exact ⟨g.2.2.1, g.2.2.2⟩
          · omega
        refine lv_istore (lv' := [(4, .int (zI z_25)), (0, .ref (E.2.2 10)), (1, .int (zI b)), (2, .int (zI k)), (3, .int (zI r))]) hx hb dX2_seamPlace_28 hl (by decide) rfl (fun ls hl => ?_)
        refine lv_aload_n hx hb dX2_seamPlace_30 rfl (lv_at hl 1 rfl) ?_
        refine lv_iload hx hb dX2_seamPlace_31 (lv_at hl 0 rfl) ?_
        refine k_callV (As := [.int (zI z_25)]) (rest := []) S hK hP (c_X2_seamLengthFrom l E M z_25 (by assumption) (by omega)) (cwV 1 S.2.2.2.2 gX2_seamPlace_X2_seamLengthFrom rfl rfl rfl (by decide +kernel) ⟨Nat.le_of_ble_eq_true rfl, Nat.le_of_ble_eq_true rfl⟩) (k_rX hK hP rfl) rfl hl.1 rfl (Nat.le_of_ble_eq_true rfl) dX2_seamPlace_33 ⟨Nat.le_of_ble_eq_true rfl, Nat.le_of_ble_eq_true rfl⟩ (fun z_33 h_33 => ?_)
        have q2 : z_33 = kMac (M 3) (M 0 1) (M 4) (M 1 1) z_25 := (h_33.1.resolve_left (fun g => by omega)).2
        have q3 : z_33 = kMac (M 3) (M 0 1) (M 4) (M 1 1) (M 8 r) := by rw [← q1.1]; exact q2
        refine lv_istore (lv' := [(5, .int (zI z_33)), (4, .int (zI z_25)), (0, .ref (E.2.2 10)), (1, .int (zI b)), (2, .int (zI k)), (3, .int (zI r))]) hx hb dX2_seamPlace_36 hl (by decide) rfl (fun ls hl => ?_)
        refine lv_iload hx hb dX2_seamPlace_38 (lv_at hl 0 rfl) ?_
        refine lv_iload_n hx hb dX2_seamPlace_40 rfl (lv_at hl 4 rfl) ?_
        refine k_le (tgt := 50) hx hb dX2_seamPlace_41 (by decide) (by omega) (fun c_41 => ?_) (fun c_41 => ?_)
        · skip
          obtain ⟨v3_50, ev3_50⟩ : ∃ v : Int, v = r + 1 := ⟨_, rfl⟩
          refine k_incN (v := v3_50) (lv' := [(3, .int (zI v3_50)), (5, .int (zI z_33)), (4, .int (zI z_25)), (0, .ref (E.2.2 10)), (1, .int (zI b)), (2, .int (zI k))]) hx hb dX2_seamPlace_50 hl (k := 5) rfl ev3_50 (by decide) rfl (fun ls hl => ?_)
          refine lv_goto (tgt := 6) hx hb dX2_seamPlace_53 (by decide) ?_
          refine ih_6 b k v3_50 (by clear h2; omega) ?_ ?_ (by omega) _ (lv_sub hl [3, 4, 5, 0] rfl)
          · first
              | exact (fun g => ⟨(h2 g).1, (h2 g).2.elim (fun q g2 => ⟨q, g2.1, by omega, g2.2.2⟩)⟩)
              | (refine fun g => ⟨q2, r, by omega, by omega, q1.1, fun s g1 g2 => ?_⟩
                 have := h3 s g1 (by omega); omega)
          · intro s g1 g2
            by_cases g : s = r
            · rw [g]; omega
            · have := h3 s g1 (by omega); omega
        · skip
          refine lv_iload hx hb dX2_seamPlace_44 (lv_at hl 1 rfl) ?_
          refine lv_istore_n (lv' := [(1, .int (zI z_25)), (5, .int (zI z_33)), (4, .int (zI z_25)), (0, .ref (E.2.2 10)), (2, .int (zI k)), (3, .int (zI r))]) hx hb dX2_seamPlace_46 rfl hl (by decide) rfl (fun ls hl => ?_)
          refine lv_iload hx hb dX2_seamPlace_47 (lv_at hl 1 rfl) ?_
          refine lv_istore_n (lv' := [(2, .int (zI z_33)), (1, .int (zI z_25)), (5, .int (zI z_33)), (4, .int (zI z_25)), (0, .ref (E.2.2 10)), (3, .int (zI r))]) hx hb dX2_seamPlace_49 rfl hl (by decide) rfl (fun ls hl => ?_)
          obtain ⟨v3_50, ev3_50⟩ : ∃ v : Int, v = r + 1 := ⟨_, rfl⟩
          refine k_incN (v := v3_50) (lv' := [(3, .int (zI v3_50)), (2, .int (zI z_33)), (1, .int (zI z_25)), (5, .int (zI z_33)), (4, .int (zI z_25)), (0, .ref (E.2.2 10))]) hx hb dX2_seamPlace_50 hl (k := 5) rfl ev3_50 (by decide) rfl (fun ls hl => ?_)
          refine lv_goto (tgt := 6) hx hb dX2_seamPlace_53 (by decide) ?_
          refine ih_6 z_25 z_33 v3_50 (by clear h2; omega) ?_ ?_ (by omega) _ (lv_sub hl [5, 2, 1, 0] rfl)
          · first
              | exact (fun g => ⟨(h2 g).1, (h2 g).2.elim (fun q g2 => ⟨q, g2.1, by omega, g2.2.2⟩)⟩)
              | (refine fun g => ⟨q2, r, by omega, by omega, q1.1, fun s g1 g2 => ?_⟩
                 have := h3 s g1 (by omega); omega)
          · intro s g1 g2
            by_cases g : s = r
            · rw [g]; omega
            · have := h3 s g1 (by omega); omega
  refine lp_6 (((M 0 1 - 0 : Int)).toNat + 1) (-1) 0 0 (by omega) (by intro g; exfalso; omega) (by intro s g1 g2; exfalso; omega) (by omega) _ (lv_sub hl [3, 2, 1, 0] rfl)
abbrev rX2_count : Room := { frames := 5, cells := 0, slots := 0, locals := 116 }
set_option maxHeartbeats 4000000 in
set_option maxRecDepth 100000 in
theorem c_X2_count (l : Launch) (E : kE) (M : kM) (w : Int) (hW : kWf M) (hO2 : ∀ h : Int, 0 ≤ h ∧ h < 2 → kO M h) (hw : 0 ≤ w ∧ w ≤ 5) : kRO l yX2_count wsX2_count rX2_count E M [.ref (E.2.2 10), .int (zI w)] (fun z => kIsCount (M 3) (M 0 1) (M 4) (M 1 1) (M 2 1) w z ∧ -1 ≤ z ∧ z ≤ 1600) := by
  refine kRO_of (cc := cX2_count) (maxL := 2) (rt := .int) RX2 (by decide) rfl rfl (Nat.le_of_ble_eq_true rfl) k_nari ?_
  intro pg en s0 mi ar bl me co ls Q S hP hK ends hl
  have hx := S.1
  have hb := S.2.1
  have hinX00 : ∀ w ∈ wsX00, w ∈ wsX2_count := fun w h => List.mem_cons_of_mem _ (List.mem_append_left _ (List.mem_append_left _ (List.mem_append_right _ (h))))
  have hinX10 : ∀ w ∈ wsX10, w ∈ wsX2_count := fun w h => List.mem_cons_of_mem _ (List.mem_append_left _ (List.mem_append_right _ (h)))
  have hinX20 : ∀ w ∈ wsX20, w ∈ wsX2_count := fun w h => List.mem_cons_of_mem _ (List.mem_append_left _ (List.mem_append_left _ (List.mem_append_left _ (List.mem_append_right _ (h)))))
  have hl : lv_has ls 2 [(0, .ref (E.2.2 10)), (1, .int (zI w))] := hl
  obtain ⟨hn0, hn1, hv⟩ := hW 0 (by omega)
  obtain ⟨hm0, hm1, hw1⟩ := hW 1 (by omega)
  obtain ⟨hs0, hs1, hsv⟩ := hW 2 (by omega)
  refine lv_iload_n hx hb dX2_count_0 rfl (lv_at hl 1 rfl) ?_
  have hcase : w = 0 ∨ w = 1 ∨ w = 2 ∨ w = 3 ∨ w = 4 ∨ w = 5 := by omega
  rcases hcase with hc_0 | hc_1 | hc_2 | hc_3 | hc_4 | hc_5
  · refine lv_tableIn (tgt := 40) (off := 39) hx hb dX2_count_1 (by rw [zI_toInt (by omega)]; omega) (by rw [zI_toInt (by omega)]; omega) (by rw [zI_toInt (by omega), hc_0]; rfl) (by decide) ?_
    refine lv_aload_n hx hb dX2_count_40 rfl (lv_at hl 0 rfl) ?_
    refine k_own S hK hP hinX20 0 (by decide) (S.2.2.2.2 _ (List.mem_cons_of_mem _ (List.mem_append_left _ (List.mem_append_left _ (List.mem_append_left _ (List.mem_append_left _ (List.mem_append_left _ (List.mem_of_getElem? (i := 2) rfl)))))))) dX2_count_41 rfl (6 + 0) rfl rfl ?_
    refine k_stitchesN S hK hP hinX00 hK.2.1.2.2.1 dX2_count_44 (by omega) (0) (by omega) ?_
    refine k_lengthN S hK hP hinX10 hK.2.1.2.1 dX2_count_47 (by omega) ?_
    refine ends _ _ (M 0 1) dX2_count_50 ?_
    exact ⟨Or.inl ⟨hc_0, rfl⟩, by omega, by omega⟩
  · refine lv_tableIn (tgt := 51) (off := 50) hx hb dX2_count_1 (by rw [zI_toInt (by omega)]; omega) (by rw [zI_toInt (by omega)]; omega) (by rw [zI_toInt (by omega), hc_1]; rfl) (by decide) ?_
    refine lv_aload_n hx hb dX2_count_51 rfl (lv_at hl 0 rfl) ?_
    refine k_own S hK hP hinX20 1 (by decide) (S.2.2.2.2 _ (List.mem_cons_of_mem _ (List.mem_append_left _ (List.mem_append_left _ (List.mem_append_left _ (List.mem_append_left _ (List.mem_append_left _ (List.mem_of_getElem? (i := 3) rfl)))))))) dX2_count_52 rfl (6 + 1) rfl rfl ?_
    refine k_stitchesN S hK hP hinX00 hK.2.1.2.2.1 dX2_count_55 (by omega) (1) (by omega) ?_
    refine k_lengthN S hK hP hinX10 hK.2.1.2.1 dX2_count_58 (by omega) ?_
    refine ends _ _ (M 1 1) dX2_count_61 ?_
    exact ⟨Or.inr (Or.inl ⟨hc_1, rfl⟩), by omega, by omega⟩
  · refine lv_tableIn (tgt := 62) (off := 61) hx hb dX2_count_1 (by rw [zI_toInt (by omega)]; omega) (by rw [zI_toInt (by omega)]; omega) (by rw [zI_toInt (by omega), hc_2]; rfl) (by decide) ?_
    refine lv_aload_n hx hb dX2_count_62 rfl (lv_at hl 0 rfl) ?_
    refine k_own S hK hP hinX20 2 (by decide) (S.2.2.2.2 _ (List.mem_cons_of_mem _ (List.mem_append_left _ (List.mem_append_left _ (List.mem_append_left _ (List.mem_append_left _ (List.mem_append_left _ (List.mem_of_getElem? (i := 4) rfl)))))))) dX2_count_63 rfl (2) rfl rfl ?_
    refine k_lengthN S hK hP hinX10 hK.2.1.2.1 dX2_count_66 (by omega) ?_
    refine ends _ _ (M 2 1) dX2_count_69 ?_
    exact ⟨Or.inr (Or.inr (Or.inl ⟨hc_2, rfl⟩)), by omega, by omega⟩
  · refine lv_tableIn (tgt := 70) (off := 69) hx hb dX2_count_1 (by rw [zI_toInt (by omega)]; omega) (by rw [zI_toInt (by omega)]; omega) (by rw [zI_toInt (by omega), hc_3]; rfl) (by decide) ?_
    refine lv_aload_n hx hb dX2_count_70 rfl (lv_at hl 0 rfl) ?_
    refine k_own S hK hP hinX20 0 (by decide) (S.2.2.2.2 _ (List.mem_cons_of_mem _ (List.mem_append_left _ (List.mem_append_left _ (List.mem_append_left _ (List.mem_append_left _ (List.mem_append_left _ (List.mem_of_getElem? (i := 2) rfl)))))))) dX2_count_71 rfl (6 + 0) rfl rfl ?_
    refine k_callV (As := []) (rest := []) S hK hP (c_X0_differentRows l E M 0 (by omega) (by assumption) (by exact hO2 _ (by omega))) (cwV 0 S.2.2.2.2 gX2_count_X0_differentRows rfl rfl rfl (by decide +kernel) ⟨Nat.le_of_ble_eq_true rfl, Nat.le_of_ble_eq_true rfl⟩) (k_rH hK hP (by omega)) rfl hl.1 rfl (Nat.le_of_ble_eq_true rfl) dX2_count_74 ⟨Nat.le_of_ble_eq_true rfl, Nat.le_of_ble_eq_true rfl⟩ (fun z_74 h_74 => ?_)
    refine ends _ _ (z_74) dX2_count_77 ?_
    exact ⟨Or.inr (Or.inr (Or.inr (Or.inl ⟨hc_3, h_74.1.trans (kRw_tot (by omega) (hO2 0 (by omega)))⟩))), by omega, by omega⟩
  · refine lv_tableIn (tgt := 78) (off := 77) hx hb dX2_count_1 (by rw [zI_toInt (by omega)]; omega) (by rw [zI_toInt (by omega)]; omega) (by rw [zI_toInt (by omega), hc_4]; rfl) (by decide) ?_
    refine lv_aload_n hx hb dX2_count_78 rfl (lv_at hl 0 rfl) ?_
    refine k_own S hK hP hinX20 1 (by decide) (S.2.2.2.2 _ (List.mem_cons_of_mem _ (List.mem_append_left _ (List.mem_append_left _ (List.mem_append_left _ (List.mem_append_left _ (List.mem_append_left _ (List.mem_of_getElem? (i := 3) rfl)))))))) dX2_count_79 rfl (6 + 1) rfl rfl ?_
    refine k_callV (As := []) (rest := []) S hK hP (c_X0_differentRows l E M 1 (by omega) (by assumption) (by exact hO2 _ (by omega))) (cwV 0 S.2.2.2.2 gX2_count_X0_differentRows rfl rfl rfl (by decide +kernel) ⟨Nat.le_of_ble_eq_true rfl, Nat.le_of_ble_eq_true rfl⟩) (k_rH hK hP (by omega)) rfl hl.1 rfl (Nat.le_of_ble_eq_true rfl) dX2_count_82 ⟨Nat.le_of_ble_eq_true rfl, Nat.le_of_ble_eq_true rfl⟩ (fun z_82 h_82 => ?_)
    refine ends _ _ (z_82) dX2_count_85 ?_
    exact ⟨Or.inr (Or.inr (Or.inr (Or.inr (Or.inl ⟨hc_4, h_82.1.trans (kRw_tot (by omega) (hO2 1 (by omega)))⟩)))), by omega, by omega⟩
  · refine lv_tableIn (tgt := 86) (off := 85) hx hb dX2_count_1 (by rw [zI_toInt (by omega)]; omega) (by rw [zI_toInt (by omega)]; omega) (by rw [zI_toInt (by omega), hc_5]; rfl) (by decide) ?_
    refine lv_aload_n hx hb dX2_count_86 rfl (lv_at hl 0 rfl) ?_
    refine lv_aload_n hx hb dX2_count_87 rfl (lv_at hl 0 rfl) ?_
    refine k_callV (As := []) (rest := [.ref (E.2.2 10)]) S hK hP (c_X2_seamPlace l E M  (by assumption) (by assumption)) (cwV 0 S.2.2.2.2 gX2_count_X2_seamPlace rfl rfl rfl (by decide +kernel) ⟨Nat.le_of_ble_eq_true rfl, Nat.le_of_ble_eq_true rfl⟩) (k_rX hK hP rfl) rfl hl.1 rfl (Nat.le_of_ble_eq_true rfl) dX2_count_88 ⟨Nat.le_of_ble_eq_true rfl, Nat.le_of_ble_eq_true rfl⟩ (fun z_88 h_88 => ?_)
    refine k_callV (As := [.int (zI z_88)]) (rest := []) S hK hP (c_X2_seamLengthFrom l E M z_88 (by assumption) (by omega)) (cwV 1 S.2.2.2.2 gX2_count_X2_seamLengthFrom rfl rfl rfl (by decide +kernel) ⟨Nat.le_of_ble_eq_true rfl, Nat.le_of_ble_eq_true rfl⟩) (k_rX hK hP rfl) rfl hl.1 rfl (Nat.le_of_ble_eq_true rfl) dX2_count_91 ⟨Nat.le_of_ble_eq_true rfl, Nat.le_of_ble_eq_true rfl⟩ (fun z_91 h_91 => ?_)
    refine ends _ _ (z_91) dX2_count_94 ?_
    refine ⟨Or.inr (Or.inr (Or.inr (Or.inr (Or.inr ⟨hc_5, ?_⟩)))), by omega, by omega⟩
    have hO0 : kOrd (M 3) (M 0 1) (M 8) := hO2 0 (by omega)
    rcases h_88.1 with ⟨g1, g2⟩ | ⟨q, g1, g2, g3, g4, g5, g6⟩
    · exact ⟨-1, 0, kSeam_none hO0 g2, Or.inl ⟨rfl, by omega⟩⟩
    · have rq := hO0.1 q g1 g2
      have e : z_91 = kMac (M 3) (M 0 1) (M 4) (M 1 1) z_88 := (h_91.1.resolve_left (fun g => by omega)).2
      have rg := kMac_rng (x := M 3) (nx := M 0 1) (y := M 4) (ny := M 1 1) (a := z_88) (by omega)
      obtain ⟨b, b1, b2, b3⟩ := kFst_ex (x := M 3) (n := M 0 1) (p := z_88) (k := z_91) (by omega) (by omega)
      rw [e, g3] at b3
      rw [g3] at g4 g5 g6
      exact ⟨b, _, kSeam_some hO0 ⟨g1, g2⟩ g4 g5 g6 b3 b1, Or.inl ⟨rfl, by rw [e, g3]⟩⟩
abbrev rX2_seam : Room := { frames := 5, cells := 0, slots := 0, locals := 116 }
set_option maxHeartbeats 4000000 in
set_option maxRecDepth 100000 in
theorem c_X2_seam (l : Launch) (E : kE) (M : kM) (w : Int) (hW : kWf M) (hO2 : ∀ h : Int, 0 ≤ h ∧ h < 2 → kO M h) (hw : 0 ≤ w ∧ w ≤ 2) : kRO l yX2_seam wsX2_seam rX2_seam E M [.ref (E.2.2 10), .int (zI w)] (fun z => kIsSeam (M 3) (M 0 1) (M 4) (M 1 1) w z ∧ -1 ≤ z ∧ z ≤ 40) := by
  refine kRO_of (cc := cX2_seam) (maxL := 5) (rt := .int) RX2 (by decide) rfl rfl (Nat.le_of_ble_eq_true rfl) k_nari ?_
  intro pg en s0 mi ar bl me co ls Q S hP hK ends hl
  have hx := S.1
  have hb := S.2.1
  have hinX00 : ∀ w ∈ wsX00, w ∈ wsX2_seam := fun w h => List.mem_cons_of_mem _ (List.mem_append_left _ (List.mem_append_left _ (List.mem_append_right _ (h))))
  have hinX10 : ∀ w ∈ wsX10, w ∈ wsX2_seam := fun w h => List.mem_cons_of_mem _ (List.mem_append_left _ (List.mem_append_right _ (h)))
  have hinX20 : ∀ w ∈ wsX20, w ∈ wsX2_seam := fun w h => List.mem_cons_of_mem _ (List.mem_append_left _ (List.mem_append_left _ (List.mem_append_left _ (List.mem_append_right _ (h)))))
  have hl : lv_has ls 5 [(0, .ref (E.2.2 10)), (1, .int (zI w))] := hl
  obtain ⟨hn0, hn1, hv⟩ := hW 0 (by omega)
  obtain ⟨hm0, hm1, hw1⟩ := hW 1 (by omega)
  obtain ⟨hs0, hs1, hsv⟩ := hW 2 (by omega)
  refine lv_iload_n hx hb dX2_seam_0 rfl (lv_at hl 1 rfl) ?_
  refine k_lt0 (tgt := 9) hx hb dX2_seam_1 (by decide) (by omega) (fun c_1 => ?_) (fun c_1 => ?_)
  · exact absurd c_1 (by omega)
  · skip
    refine lv_iload_n hx hb dX2_seam_4 rfl (lv_at hl 1 rfl) ?_
    refine k_push hx hb dX2_seam_5 ?_
    refine k_lt (tgt := 19) hx hb dX2_seam_6 (by decide) (by omega) (fun c_6 => ?_) (fun c_6 => ?_)
    · skip
      refine lv_aload_n hx hb dX2_seam_19 rfl (lv_at hl 0 rfl) ?_
      refine k_callV (As := []) (rest := []) S hK hP (c_X2_seamPlace l E M  (by assumption) (by assumption)) (cwV 0 S.2.2.2.2 gX2_seam_X2_seamPlace rfl rfl rfl (by decide +kernel) ⟨Nat.le_of_ble_eq_true rfl, Nat.le_of_ble_eq_true rfl⟩) (k_rX hK hP rfl) rfl hl.1 rfl (Nat.le_of_ble_eq_true rfl) dX2_seam_20 ⟨Nat.le_of_ble_eq_true rfl, Nat.le_of_ble_eq_true rfl⟩ (fun z_20 h_20 => ?_)
      refine lv_istore_n (lv' := [(2, .int (zI z_20)), (0, .ref (E.2.2 10)), (1, .int (zI w))]) hx hb dX2_seam_23 rfl hl (by decide) rfl (fun ls hl => ?_)
      refine lv_aload_n hx hb dX2_seam_24 rfl (lv_at hl 1 rfl) ?_
      refine lv_iload_n hx hb dX2_seam_25 rfl (lv_at hl 0 rfl) ?_
      refine k_callV (As := [.int (zI z_20)]) (rest := []) S hK hP (c_X2_seamLengthFrom l E M z_20 (by assumption) (by omega)) (cwV 1 S.2.2.2.2 gX2_seam_X2_seamLengthFrom rfl rfl rfl (by decide +kernel) ⟨Nat.le_of_ble_eq_true rfl, Nat.le_of_ble_eq_true rfl⟩) (k_rX hK hP rfl) rfl hl.1 rfl (Nat.le_of_ble_eq_true rfl) dX2_seam_26 ⟨Nat.le_of_ble_eq_true rfl, Nat.le_of_ble_eq_true rfl⟩ (fun z_26 h_26 => ?_)
      have hO0 : kOrd (M 3) (M 0 1) (M 8) := hO2 0 (by omega)
      have hs : ∃ b : Int, kTop (kMac (M 3) (M 0 1) (M 4) (M 1 1)) (M 3) (M 0 1) (M 0 1) b z_26 ∧ ((b = -1 ∧ z_20 = -1 ∧ z_26 = 0) ∨ (0 ≤ b ∧ b ≤ 40 ∧ 0 ≤ z_20 ∧ 0 < z_26 ∧ z_26 = kMac (M 3) (M 0 1) (M 4) (M 1 1) z_20 ∧ z_20 + z_26 ≤ M 0 1 ∧ kFst (M 3) (M 0 1) (M 3) z_20 z_26 b)) := by
        rcases h_20.1 with ⟨g1, g2⟩ | ⟨q, g1, g2, g3, g4, g5, g6⟩
        · have e : z_26 = 0 := by omega
          refine ⟨-1, ?_, Or.inl ⟨rfl, g1, e⟩⟩
          rw [e]; exact kSeam_none hO0 g2
        · have rq := hO0.1 q g1 g2
          have e : z_26 = kMac (M 3) (M 0 1) (M 4) (M 1 1) z_20 := (h_26.1.resolve_left (fun g => by omega)).2
          have rg := kMac_rng (x := M 3) (nx := M 0 1) (y := M 4) (ny := M 1 1) (a := z_20) (by omega)
          obtain ⟨b, b1, b2, b3⟩ := kFst_ex (x := M 3) (n := M 0 1) (p := z_20) (k := z_26) (by omega) (by omega)
          refine ⟨b, ?_, Or.inr ⟨b1, by omega, by omega, by omega, e, by omega, b3⟩⟩
          rw [e, g3] at b3 ⊢
          rw [g3] at g4 g5 g6
          exact kSeam_some hO0 ⟨g1, g2⟩ g4 g5 g6 b3 b1
      obtain ⟨b, t1, t2⟩ := hs
      refine lv_istore_n (lv' := [(3, .int (zI z_26)), (2, .int (zI z_20)), (0, .ref (E.2.2 10)), (1, .int (zI w))]) hx hb dX2_seam_29 rfl hl (by decide) rfl (fun ls hl => ?_)
      refine lv_iload_n hx hb dX2_seam_30 rfl (lv_at hl 3 rfl) ?_
      refine k_ne0 (tgt := 36) hx hb dX2_seam_31 (by decide) (by omega) (fun c_31 => ?_) (fun c_31 => ?_)
      · skip
        refine lv_iload_n hx hb dX2_seam_36 rfl (lv_at hl 3 rfl) ?_
        refine k_push hx hb dX2_seam_37 ?_
        refine k_ne (tgt := 51) hx hb dX2_seam_38 (by decide) (by omega) (fun c_38 => ?_) (fun c_38 => ?_)
        · skip
          refine lv_aload_n hx hb dX2_seam_51 rfl (lv_at hl 2 rfl) ?_
          refine k_own S hK hP hinX20 1 (by decide) (S.2.2.2.2 _ (List.mem_cons_of_mem _ (List.mem_append_left _ (List.mem_append_left _ (List.mem_append_left _ (List.mem_append_left _ (List.mem_append_left _ (List.mem_of_getElem? (i := 3) rfl)))))))) dX2_seam_52 rfl (6 + 1) rfl rfl ?_
          refine k_stitchesN S hK hP hinX00 hK.2.1.2.2.1 dX2_seam_55 (by omega) (1) (by omega) ?_
          refine lv_astore (lv' := [(4, .ref (E.2.2 1)), (3, .int (zI z_26)), (2, .int (zI z_20)), (0, .ref (E.2.2 10)), (1, .int (zI w))]) hx hb dX2_seam_58 hl (by decide) rfl (fun ls hl => ?_)
          refine lv_aload hx hb dX2_seam_60 (lv_at hl 0 rfl) ?_
          refine lv_aload_n hx hb dX2_seam_62 rfl (lv_at hl 3 rfl) ?_
          refine k_own S hK hP hinX20 0 (by decide) (S.2.2.2.2 _ (List.mem_cons_of_mem _ (List.mem_append_left _ (List.mem_append_left _ (List.mem_append_left _ (List.mem_append_left _ (List.mem_append_left _ (List.mem_of_getElem? (i := 2) rfl)))))))) dX2_seam_63 rfl (6 + 0) rfl rfl ?_
          refine k_stitchesN S hK hP hinX00 hK.2.1.2.2.1 dX2_seam_66 (by omega) (0) (by omega) ?_
          refine lv_iload_n hx hb dX2_seam_69 rfl (lv_at hl 2 rfl) ?_
          refine lv_iload_n hx hb dX2_seam_70 rfl (lv_at hl 1 rfl) ?_
          refine k_callV (As := [.ref (E.2.2 0), .int (zI z_20), .int (zI z_26)]) (rest := []) S hK hP (c_X1_firstPlaceOf l E M 1 0 z_20 z_26 (by omega) (by omega) (by assumption) (by omega) (by omega)) (cwV 3 S.2.2.2.2 gX2_seam_X1_firstPlaceOf rfl rfl rfl (by decide +kernel) ⟨Nat.le_of_ble_eq_true rfl, Nat.le_of_ble_eq_true rfl⟩) (k_rS hK hP (by omega)) rfl hl.1 rfl (Nat.le_of_ble_eq_true rfl) dX2_seam_71 ⟨Nat.le_of_ble_eq_true rfl, Nat.le_of_ble_eq_true rfl⟩ (fun z_71 h_71 => ?_)
          refine ends _ _ (z_71) dX2_seam_74 ?_
          first
            | (refine ⟨⟨b, z_26, t1, Or.inr (Or.inl ⟨by omega, ?_⟩)⟩, by omega, by omega⟩
               rcases t2 with t2 | ⟨p1, p2, p3, p4, p5, p6, p7⟩
               · omega
               · exact kFst_one (by omega) (h_71.1.resolve_left (fun g => by omega)).2 p7)
            | (refine ⟨⟨b, z_26, t1, Or.inr (Or.inr ⟨by omega, by omega, ?_⟩)⟩, by omega, by omega⟩
               rcases t2 with t2 | ⟨p1, p2, p3, p4, p5, p6, p7⟩
               · exact Or.inl ⟨by omega, by omega⟩
               · exact Or.inr ⟨p1, kSeam_at ⟨p3, p6⟩ p4 p1 p7 p5 (h_71.1.resolve_left (fun g => by omega)).2⟩)
        · skip
          refine lv_aload_n hx hb dX2_seam_41 rfl (lv_at hl 2 rfl) ?_
          refine k_own S hK hP hinX20 0 (by decide) (S.2.2.2.2 _ (List.mem_cons_of_mem _ (List.mem_append_left _ (List.mem_append_left _ (List.mem_append_left _ (List.mem_append_left _ (List.mem_append_left _ (List.mem_of_getElem? (i := 2) rfl)))))))) dX2_seam_42 rfl (6 + 0) rfl rfl ?_
          refine k_stitchesN S hK hP hinX00 hK.2.1.2.2.1 dX2_seam_45 (by omega) (0) (by omega) ?_
          refine lv_goto (tgt := 58) hx hb dX2_seam_48 (by decide) ?_
          refine lv_astore (lv' := [(4, .ref (E.2.2 0)), (3, .int (zI z_26)), (2, .int (zI z_20)), (0, .ref (E.2.2 10)), (1, .int (zI w))]) hx hb dX2_seam_58 hl (by decide) rfl (fun ls hl => ?_)
          refine lv_aload hx hb dX2_seam_60 (lv_at hl 0 rfl) ?_
          refine lv_aload_n hx hb dX2_seam_62 rfl (lv_at hl 3 rfl) ?_
          refine k_own S hK hP hinX20 0 (by decide) (S.2.2.2.2 _ (List.mem_cons_of_mem _ (List.mem_append_left _ (List.mem_append_left _ (List.mem_append_left _ (List.mem_append_left _ (List.mem_append_left _ (List.mem_of_getElem? (i := 2) rfl)))))))) dX2_seam_63 rfl (6 + 0) rfl rfl ?_
          refine k_stitchesN S hK hP hinX00 hK.2.1.2.2.1 dX2_seam_66 (by omega) (0) (by omega) ?_
          refine lv_iload_n hx hb dX2_seam_69 rfl (lv_at hl 2 rfl) ?_
          refine lv_iload_n hx hb dX2_seam_70 rfl (lv_at hl 1 rfl) ?_
          refine k_callV (As := [.ref (E.2.2 0), .int (zI z_20), .int (zI z_26)]) (rest := []) S hK hP (c_X1_firstPlaceOf l E M 0 0 z_20 z_26 (by omega) (by omega) (by assumption) (by omega) (by omega)) (cwV 3 S.2.2.2.2 gX2_seam_X1_firstPlaceOf rfl rfl rfl (by decide +kernel) ⟨Nat.le_of_ble_eq_true rfl, Nat.le_of_ble_eq_true rfl⟩) (k_rS hK hP (by omega)) rfl hl.1 rfl (Nat.le_of_ble_eq_true rfl) dX2_seam_71 ⟨Nat.le_of_ble_eq_true rfl, Nat.le_of_ble_eq_true rfl⟩ (fun z_71 h_71 => ?_)
          refine ends _ _ (z_71) dX2_seam_74 ?_
          first
            | (refine ⟨⟨b, z_26, t1, Or.inr (Or.inl ⟨by omega, ?_⟩)⟩, by omega, by omega⟩
               rcases t2 with t2 | ⟨p1, p2, p3, p4, p5, p6, p7⟩
               · omega
               · exact kFst_one (by omega) (h_71.1.resolve_left (fun g => by omega)).2 p7)
            | (refine ⟨⟨b, z_26, t1, Or.inr (Or.inr ⟨by omega, by omega, ?_⟩)⟩, by omega, by omega⟩
               rcases t2 with t2 | ⟨p1, p2, p3, p4, p5, p6, p7⟩
               · exact Or.inl ⟨by omega, by omega⟩
               · exact Or.inr ⟨p1, kSeam_at ⟨p3, p6⟩ p4 p1 p7 p5 (h_71.1.resolve_left (fun g => by omega)).2⟩)
      · skip
        refine lv_iload_n hx hb dX2_seam_34 rfl (lv_at hl 0 rfl) ?_
        refine ends _ _ (z_26) dX2_seam_35 ?_
        exact ⟨⟨b, z_26, t1, Or.inl ⟨by omega, rfl⟩⟩, by omega, by omega⟩
    · exact absurd c_6 (by omega)
abbrev rX2_repeat : Room := { frames := 4, cells := 0, slots := 0, locals := 95 }
set_option maxHeartbeats 4000000 in
set_option maxRecDepth 100000 in
theorem c_X2_repeat (l : Launch) (E : kE) (M : kM) (h w : Int) (hh : 0 ≤ h ∧ h < 2) (hW : kWf M) (hO2 : ∀ h : Int, 0 ≤ h ∧ h < 2 → kO M h) (hw : 0 ≤ w ∧ w ≤ 2) : kRO l yX2_repeat wsX2_repeat rX2_repeat E M [.ref (E.2.2 10), .int (zI h), .int (zI w)] (fun z => kIsRep (M (h + 3)) (M h 1) w z ∧ -1 ≤ z ∧ z ≤ 40) := by
  refine kRO_of (cc := cX2_repeat) (maxL := 7) (rt := .int) RX2 (by decide) rfl rfl (Nat.le_of_ble_eq_true rfl) k_nari ?_
  intro pg en s0 mi ar bl me co ls Q S hP hK ends hl
  have hx := S.1
  have hb := S.2.1
  have hinX00 : ∀ w ∈ wsX00, w ∈ wsX2_repeat := fun w h => List.mem_cons_of_mem _ (List.mem_append_left _ (List.mem_append_left _ (List.mem_append_left _ (List.mem_append_right _ (h)))))
  have hinX10 : ∀ w ∈ wsX10, w ∈ wsX2_repeat := fun w h => List.mem_cons_of_mem _ (List.mem_append_left _ (List.mem_append_right _ (h)))
  have hinX20 : ∀ w ∈ wsX20, w ∈ wsX2_repeat := fun w h => List.mem_cons_of_mem _ (List.mem_append_left _ (List.mem_append_left _ (List.mem_append_right _ (h))))
  have hl : lv_has ls 7 [(0, .ref (E.2.2 10)), (1, .int (zI h)), (2, .int (zI w))] := hl
  obtain ⟨hn0, hn1, hv⟩ := hW h (by omega)
  obtain ⟨hs0, hs1, hsv⟩ := hW 2 (by omega)
  refine lv_aload_n hx hb dX2_repeat_0 rfl (lv_at hl 0 rfl) ?_
  refine lv_iload_n hx hb dX2_repeat_1 rfl (lv_at hl 1 rfl) ?_
  refine k_callVr (As := [.int (zI h)]) (rest := []) S hK hP (c_X2_hemOf l E M h (by omega)) (cwV 1 S.2.2.2.2 gX2_repeat_X2_hemOf rfl rfl rfl (by decide +kernel) ⟨Nat.le_of_ble_eq_true rfl, Nat.le_of_ble_eq_true rfl⟩) (k_rX hK hP rfl) rfl hl.1 rfl (Nat.le_of_ble_eq_true rfl) dX2_repeat_2 ⟨Nat.le_of_ble_eq_true rfl, Nat.le_of_ble_eq_true rfl⟩ ?_
  refine lv_astore_n (lv' := [(3, .ref (E.2.2 (6 + h))), (0, .ref (E.2.2 10)), (1, .int (zI h)), (2, .int (zI w))]) hx hb dX2_repeat_5 rfl hl (by decide) rfl (fun ls hl => ?_)
  refine lv_iload_n hx hb dX2_repeat_6 rfl (lv_at hl 3 rfl) ?_
  refine k_lt0 (tgt := 15) hx hb dX2_repeat_7 (by decide) (by omega) (fun c_7 => ?_) (fun c_7 => ?_)
  · exact absurd c_7 (by omega)
  · skip
    refine lv_iload_n hx hb dX2_repeat_10 rfl (lv_at hl 3 rfl) ?_
    refine k_push hx hb dX2_repeat_11 ?_
    refine k_lt (tgt := 25) hx hb dX2_repeat_12 (by decide) (by omega) (fun c_12 => ?_) (fun c_12 => ?_)
    · skip
      refine lv_aload_n hx hb dX2_repeat_25 rfl (lv_at hl 0 rfl) ?_
      refine k_callV (As := []) (rest := []) S hK hP (c_X0_repeatRank l E M h (by omega) (by assumption) (by exact hO2 _ (by omega))) (cwV 0 S.2.2.2.2 gX2_repeat_X0_repeatRank rfl rfl rfl (by decide +kernel) ⟨Nat.le_of_ble_eq_true rfl, Nat.le_of_ble_eq_true rfl⟩) (k_rH hK hP (by omega)) rfl hl.1 rfl (Nat.le_of_ble_eq_true rfl) dX2_repeat_26 ⟨Nat.le_of_ble_eq_true rfl, Nat.le_of_ble_eq_true rfl⟩ (fun z_26 h_26 => ?_)
      refine lv_istore (lv' := [(4, .int (zI z_26)), (3, .ref (E.2.2 (6 + h))), (0, .ref (E.2.2 10)), (1, .int (zI h)), (2, .int (zI w))]) hx hb dX2_repeat_29 hl (by decide) rfl (fun ls hl => ?_)
      refine lv_aload_n hx hb dX2_repeat_31 rfl (lv_at hl 1 rfl) ?_
      refine lv_iload hx hb dX2_repeat_32 (lv_at hl 0 rfl) ?_
      refine k_callV (As := [.int (zI z_26)]) (rest := []) S hK hP (c_X0_sharedWithNext l E M h z_26 (by omega) (by assumption) (by exact hO2 _ (by omega)) (by omega)) (cwV 1 S.2.2.2.2 gX2_repeat_X0_sharedWithNext rfl rfl rfl (by decide +kernel) ⟨Nat.le_of_ble_eq_true rfl, Nat.le_of_ble_eq_true rfl⟩) (k_rH hK hP (by omega)) rfl hl.1 rfl (Nat.le_of_ble_eq_true rfl) dX2_repeat_34 ⟨Nat.le_of_ble_eq_true rfl, Nat.le_of_ble_eq_true rfl⟩ (fun z_34 h_34 => ?_)
      have hOh : kOrd (M (h + 3)) (M h 1) (M (8 + h)) := hO2 h hh
      have hs : ∃ b : Int, kTop (kMbs (M (h + 3)) (M h 1)) (M (h + 3)) (M h 1) (M h 1) b z_34 ∧ ((b = -1 ∧ z_26 = -1 ∧ z_34 = 0) ∨ (0 ≤ b ∧ b ≤ 40 ∧ 0 ≤ z_26 ∧ z_26 < M h 1 ∧ 0 < z_34 ∧ 0 ≤ M (8 + h) z_26 ∧ M (8 + h) z_26 + z_34 ≤ M h 1 ∧ kFst (M (h + 3)) (M h 1) (M (h + 3)) (M (8 + h) z_26) z_34 b)) := by
        rcases h_26 with ⟨g1, g2⟩ | ⟨g1, g2, g3, g4, g5⟩
        · have e : z_34 = 0 := by rw [h_34.1]; exact kNx_out (by omega)
          refine ⟨-1, ?_, Or.inl ⟨rfl, g1, e⟩⟩
          rw [e]; exact kRep_none hOh g2
        · have e := h_34.1
          have rg := (kNx_rng hOh z_26).2.1 (by omega)
          have rp := hOh.1 z_26 (by omega) (by omega)
          have ri : z_26 + 1 < M h 1 := by
            rcases Int.lt_or_le (z_26 + 1) (M h 1) with g | g
            · exact g
            · rw [kNx_out (by omega)] at g3; omega
          have rg2 := (rg ri).1
          obtain ⟨b, b1, b2, b3⟩ := kFst_ex (x := M (h + 3)) (n := M h 1) (p := M (8 + h) z_26) (k := z_34) (by omega) (by omega)
          refine ⟨b, ?_, Or.inr ⟨b1, by omega, by omega, by omega, by omega, by omega, by omega, b3⟩⟩
          rw [e] at b3 ⊢
          exact kRep_some hOh ⟨g1, g2⟩ g3 g4 g5 b3 b1
      obtain ⟨b, t1, t2⟩ := hs
      refine lv_istore (lv' := [(5, .int (zI z_34)), (4, .int (zI z_26)), (3, .ref (E.2.2 (6 + h))), (0, .ref (E.2.2 10)), (1, .int (zI h)), (2, .int (zI w))]) hx hb dX2_repeat_37 hl (by decide) rfl (fun ls hl => ?_)
      refine lv_iload_n hx hb dX2_repeat_39 rfl (lv_at hl 5 rfl) ?_
      refine k_ne0 (tgt := 46) hx hb dX2_repeat_40 (by decide) (by omega) (fun c_40 => ?_) (fun c_40 => ?_)
      · skip
        refine lv_aload_n hx hb dX2_repeat_46 rfl (lv_at hl 2 rfl) ?_
        refine lv_iload hx hb dX2_repeat_47 (lv_at hl 1 rfl) ?_
        refine k_callV (As := [.int (zI z_26)]) (rest := []) S hK hP (c_X0_placeAt l E M h z_26 (by omega) (by assumption) (by exact hO2 _ (by omega)) (by omega)) (cwV 1 S.2.2.2.2 gX2_repeat_X0_placeAt rfl rfl rfl (by decide +kernel) ⟨Nat.le_of_ble_eq_true rfl, Nat.le_of_ble_eq_true rfl⟩) (k_rH hK hP (by omega)) rfl hl.1 rfl (Nat.le_of_ble_eq_true rfl) dX2_repeat_49 ⟨Nat.le_of_ble_eq_true rfl, Nat.le_of_ble_eq_true rfl⟩ (fun z_49 h_49 => ?_)
        have q3 : 0 ≤ z_26 → z_49 = M (8 + h) z_26 := by intro g; omega
        refine lv_istore (lv' := [(6, .int (zI z_49)), (5, .int (zI z_34)), (4, .int (zI z_26)), (3, .ref (E.2.2 (6 + h))), (0, .ref (E.2.2 10)), (1, .int (zI h)), (2, .int (zI w))]) hx hb dX2_repeat_52 hl (by decide) rfl (fun ls hl => ?_)
        refine lv_iload_n hx hb dX2_repeat_54 rfl (lv_at hl 6 rfl) ?_
        refine k_push hx hb dX2_repeat_55 ?_
        refine k_ne (tgt := 75) hx hb dX2_repeat_56 (by decide) (by omega) (fun c_56 => ?_) (fun c_56 => ?_)
        · skip
          refine lv_aload_n hx hb dX2_repeat_75 rfl (lv_at hl 3 rfl) ?_
          refine k_stitchesN S hK hP hinX00 hK.2.1.2.2.1 dX2_repeat_76 (by omega) (h) (by omega) ?_
          refine lv_aload_n hx hb dX2_repeat_79 rfl (lv_at hl 3 rfl) ?_
          refine k_stitchesN S hK hP hinX00 hK.2.1.2.2.1 dX2_repeat_80 (by omega) (h) (by omega) ?_
          refine lv_iload hx hb dX2_repeat_83 (lv_at hl 0 rfl) ?_
          refine lv_iload hx hb dX2_repeat_85 (lv_at hl 1 rfl) ?_
          refine k_callV (As := [.ref (E.2.2 h), .int (zI z_49), .int (zI z_34)]) (rest := []) S hK hP (c_X1_placesOf l E M h h z_49 z_34 (by omega) (by omega) (by assumption) (by omega) (by omega)) (cwV 3 S.2.2.2.2 gX2_repeat_X1_placesOf rfl rfl rfl (by decide +kernel) ⟨Nat.le_of_ble_eq_true rfl, Nat.le_of_ble_eq_true rfl⟩) (k_rS hK hP (by omega)) rfl hl.1 rfl (Nat.le_of_ble_eq_true rfl) dX2_repeat_87 ⟨Nat.le_of_ble_eq_true rfl, Nat.le_of_ble_eq_true rfl⟩ (fun z_87 h_87 => ?_)
          refine ends _ _ (z_87) dX2_repeat_90 ?_
          refine ⟨⟨b, z_34, t1, Or.inr (Or.inr ⟨by omega, by omega, ?_⟩)⟩, by omega, by omega⟩
          rcases t2 with t2 | ⟨p1, p2, p3, p4, p5, p6, p7, p8⟩
          · exact Or.inl ⟨by omega, by omega⟩
          · have p9 := (h_87.1.resolve_left (fun g => by omega)).2
            rw [q3 p3] at p9
            exact Or.inr ⟨p1, p9.trans (kPlaces_rep (by omega) ⟨p6, p7⟩ p1 p8)⟩
        · skip
          refine lv_aload_n hx hb dX2_repeat_59 rfl (lv_at hl 3 rfl) ?_
          refine k_stitchesN S hK hP hinX00 hK.2.1.2.2.1 dX2_repeat_60 (by omega) (h) (by omega) ?_
          refine lv_aload_n hx hb dX2_repeat_63 rfl (lv_at hl 3 rfl) ?_
          refine k_stitchesN S hK hP hinX00 hK.2.1.2.2.1 dX2_repeat_64 (by omega) (h) (by omega) ?_
          refine lv_iload hx hb dX2_repeat_67 (lv_at hl 0 rfl) ?_
          refine lv_iload hx hb dX2_repeat_69 (lv_at hl 1 rfl) ?_
          refine k_callV (As := [.ref (E.2.2 h), .int (zI z_49), .int (zI z_34)]) (rest := []) S hK hP (c_X1_firstPlaceOf l E M h h z_49 z_34 (by omega) (by omega) (by assumption) (by omega) (by omega)) (cwV 3 S.2.2.2.2 gX2_repeat_X1_firstPlaceOf rfl rfl rfl (by decide +kernel) ⟨Nat.le_of_ble_eq_true rfl, Nat.le_of_ble_eq_true rfl⟩) (k_rS hK hP (by omega)) rfl hl.1 rfl (Nat.le_of_ble_eq_true rfl) dX2_repeat_71 ⟨Nat.le_of_ble_eq_true rfl, Nat.le_of_ble_eq_true rfl⟩ (fun z_71 h_71 => ?_)
          refine ends _ _ (z_71) dX2_repeat_74 ?_
          refine ⟨⟨b, z_34, t1, Or.inr (Or.inl ⟨by omega, ?_⟩)⟩, by omega, by omega⟩
          rcases t2 with t2 | ⟨p1, p2, p3, p4, p5, p6, p7, p8⟩
          · omega
          · rw [← q3 p3] at p8
            exact kFst_one (by omega) (h_71.1.resolve_left (fun g => by omega)).2 p8
      · skip
        refine lv_iload hx hb dX2_repeat_43 (lv_at hl 0 rfl) ?_
        refine ends _ _ (z_34) dX2_repeat_45 ?_
        exact ⟨⟨b, z_34, t1, Or.inl ⟨by omega, rfl⟩⟩, by omega, by omega⟩
    · exact absurd c_12 (by omega)
abbrev rX2_row : Room := { frames := 5, cells := 0, slots := 0, locals := 119 }
set_option maxHeartbeats 4000000 in
set_option maxRecDepth 100000 in
theorem c_X2_row (l : Launch) (E : kE) (M : kM) (h num : Int) (hh : 0 ≤ h ∧ h < 2) (hW : kWf M) (hO2 : ∀ h : Int, 0 ≤ h ∧ h < 2 → kO M h) (hnum : 0 ≤ num ∧ num < kTot (M (h + 3)) (M h 1) ∧ num ≤ 2147483647) : kRO l yX2_row wsX2_row rX2_row E M [.ref (E.2.2 10), .int (zI h), .int (zI num)] (fun z => kIsRow (M (h + 3)) (M h 1) num z ∧ -100 ≤ z ∧ z ≤ 3000) := by
  refine kRO_of (cc := cX2_row) (maxL := 4) (rt := .int) RX2 (by decide) rfl rfl (Nat.le_of_ble_eq_true rfl) k_nari ?_
  intro pg en s0 mi ar bl me co ls Q S hP hK ends hl
  have hx := S.1
  have hb := S.2.1
  have hinX00 : ∀ w ∈ wsX00, w ∈ wsX2_row := fun w h => List.mem_cons_of_mem _ (List.mem_append_left _ (List.mem_append_left _ (List.mem_append_right _ (h))))
  have hinX10 : ∀ w ∈ wsX10, w ∈ wsX2_row := fun w h => List.mem_cons_of_mem _ (List.mem_append_left _ (List.mem_append_right _ (h)))
  have hinX20 : ∀ w ∈ wsX20, w ∈ wsX2_row := fun w h => List.mem_cons_of_mem _ (List.mem_append_left _ (List.mem_append_left _ (List.mem_append_left _ (List.mem_append_right _ (h)))))
  have hl : lv_has ls 4 [(0, .ref (E.2.2 10)), (1, .int (zI h)), (2, .int (zI num))] := hl
  obtain ⟨hn0, hn1, hv⟩ := hW h (by omega)
  obtain ⟨hs0, hs1, hsv⟩ := hW 2 (by omega)
  refine lv_aload_n hx hb dX2_row_0 rfl (lv_at hl 0 rfl) ?_
  refine lv_iload_n hx hb dX2_row_1 rfl (lv_at hl 1 rfl) ?_
  refine k_callVr (As := [.int (zI h)]) (rest := []) S hK hP (c_X2_hemOf l E M h (by omega)) (cwV 1 S.2.2.2.2 gX2_row_X2_hemOf rfl rfl rfl (by decide +kernel) ⟨Nat.le_of_ble_eq_true rfl, Nat.le_of_ble_eq_true rfl⟩) (k_rX hK hP rfl) rfl hl.1 rfl (Nat.le_of_ble_eq_true rfl) dX2_row_2 ⟨Nat.le_of_ble_eq_true rfl, Nat.le_of_ble_eq_true rfl⟩ ?_
  refine lv_astore_n (lv' := [(3, .ref (E.2.2 (6 + h))), (0, .ref (E.2.2 10)), (1, .int (zI h)), (2, .int (zI num))]) hx hb dX2_row_5 rfl hl (by decide) rfl (fun ls hl => ?_)
  refine lv_iload_n hx hb dX2_row_6 rfl (lv_at hl 3 rfl) ?_
  refine k_lt0 (tgt := 18) hx hb dX2_row_7 (by decide) (by omega) (fun c_7 => ?_) (fun c_7 => ?_)
  · exact absurd c_7 (by omega)
  · skip
    refine lv_iload_n hx hb dX2_row_10 rfl (lv_at hl 3 rfl) ?_
    refine lv_aload_n hx hb dX2_row_11 rfl (lv_at hl 0 rfl) ?_
    refine k_callV (As := []) (rest := [.int (zI num)]) S hK hP (c_X0_differentRows l E M h (by omega) (by assumption) (by exact hO2 _ (by omega))) (cwV 0 S.2.2.2.2 gX2_row_X0_differentRows rfl rfl rfl (by decide +kernel) ⟨Nat.le_of_ble_eq_true rfl, Nat.le_of_ble_eq_true rfl⟩) (k_rH hK hP (by omega)) rfl hl.1 rfl (Nat.le_of_ble_eq_true rfl) dX2_row_12 ⟨Nat.le_of_ble_eq_true rfl, Nat.le_of_ble_eq_true rfl⟩ (fun z_12 h_12 => ?_)
    have qt : z_12 = kTot (M (h + 3)) (M h 1) := h_12.1.trans (kRw_tot (by omega) (hO2 h hh))
    refine k_lt (tgt := 28) hx hb dX2_row_15 (by decide) (by omega) (fun c_15 => ?_) (fun c_15 => ?_)
    · skip
      refine lv_aload_n hx hb dX2_row_28 rfl (lv_at hl 0 rfl) ?_
      refine lv_iload_n hx hb dX2_row_29 rfl (lv_at hl 3 rfl) ?_
      refine k_callV (As := [.int (zI num)]) (rest := []) S hK hP (c_X0_rowOfNumber l E M h num (by omega) (by assumption) (by exact hO2 _ (by omega)) (by have e := h_12.1; omega)) (cwV 1 S.2.2.2.2 gX2_row_X0_rowOfNumber rfl rfl rfl (by decide +kernel) ⟨Nat.le_of_ble_eq_true rfl, Nat.le_of_ble_eq_true rfl⟩) (k_rH hK hP (by omega)) rfl hl.1 rfl (Nat.le_of_ble_eq_true rfl) dX2_row_30 ⟨Nat.le_of_ble_eq_true rfl, Nat.le_of_ble_eq_true rfl⟩ (fun z_30 h_30 => ?_)
      refine ends _ _ (z_30) dX2_row_33 ?_
      obtain ⟨⟨r, lf, w, q1, q2, q3, q4, q5, q6, q7⟩, b1, b2⟩ := h_30
      exact ⟨⟨M (8 + h), r, lf, w, hO2 h hh, q1, q2, q3, q4, q5, q6, q7⟩, b1, b2⟩
    · exact absurd c_15 (by omega)
abbrev rX2_found : Room := { frames := 4, cells := 0, slots := 0, locals := 95 }
set_option maxHeartbeats 4000000 in
set_option maxRecDepth 100000 in
theorem c_X2_found (l : Launch) (E : kE) (M : kM) (h : Int) (hh : 0 ≤ h ∧ h < 2) (hW : kWf M) : kRO l yX2_found wsX2_found rX2_found E M [.ref (E.2.2 10), .int (zI h)] (fun z => z = kCnt (kSmp (M (h + 3)) (M h 1) (M 5) (M 2 1)) (M h 1).toNat ∧ 0 ≤ z ∧ z ≤ 40) := by
  refine kRO_of (cc := cX2_found) (maxL := 2) (rt := .int) RX2 (by decide) rfl rfl (Nat.le_of_ble_eq_true rfl) k_nari ?_
  intro pg en s0 mi ar bl me co ls Q S hP hK ends hl
  have hx := S.1
  have hb := S.2.1
  have hinX00 : ∀ w ∈ wsX00, w ∈ wsX2_found := fun w h => List.mem_cons_of_mem _ (List.mem_append_left _ (List.mem_append_left _ (List.mem_append_left _ (List.mem_append_right _ (h)))))
  have hinX10 : ∀ w ∈ wsX10, w ∈ wsX2_found := fun w h => List.mem_cons_of_mem _ (List.mem_append_left _ (List.mem_append_right _ (h)))
  have hinX20 : ∀ w ∈ wsX20, w ∈ wsX2_found := fun w h => List.mem_cons_of_mem _ (List.mem_append_left _ (List.mem_append_left _ (List.mem_append_right _ (h))))
  have hl : lv_has ls 2 [(0, .ref (E.2.2 10)), (1, .int (zI h))] := hl
  obtain ⟨hn0, hn1, hv⟩ := hW h (by omega)
  obtain ⟨hs0, hs1, hsv⟩ := hW 2 (by omega)
  refine lv_aload_n hx hb dX2_found_0 rfl (lv_at hl 0 rfl) ?_
  refine lv_iload_n hx hb dX2_found_1 rfl (lv_at hl 1 rfl) ?_
  refine k_callVr (As := [.int (zI h)]) (rest := []) S hK hP (c_X2_hemOf l E M h (by omega)) (cwV 1 S.2.2.2.2 gX2_found_X2_hemOf rfl rfl rfl (by decide +kernel) ⟨Nat.le_of_ble_eq_true rfl, Nat.le_of_ble_eq_true rfl⟩) (k_rX hK hP rfl) rfl hl.1 rfl (Nat.le_of_ble_eq_true rfl) dX2_found_2 ⟨Nat.le_of_ble_eq_true rfl, Nat.le_of_ble_eq_true rfl⟩ ?_
  refine k_stitchesN S hK hP hinX00 hK.2.1.2.2.1 dX2_found_5 (by omega) (h) (by omega) ?_
  refine lv_aload_n hx hb dX2_found_8 rfl (lv_at hl 0 rfl) ?_
  refine k_own S hK hP hinX20 2 (by decide) (S.2.2.2.2 _ (List.mem_cons_of_mem _ (List.mem_append_left _ (List.mem_append_left _ (List.mem_append_left _ (List.mem_append_left _ (List.mem_append_left _ (List.mem_of_getElem? (i := 0) rfl)))))))) dX2_found_9 rfl (2) rfl rfl ?_
  refine k_push hx hb dX2_found_12 ?_
  refine lv_aload_n hx hb dX2_found_13 rfl (lv_at hl 0 rfl) ?_
  refine k_own S hK hP hinX20 2 (by decide) (S.2.2.2.2 _ (List.mem_cons_of_mem _ (List.mem_append_left _ (List.mem_append_left _ (List.mem_append_left _ (List.mem_append_left _ (List.mem_append_left _ (List.mem_of_getElem? (i := 0) rfl)))))))) dX2_found_14 rfl (2) rfl rfl ?_
  refine k_lengthN S hK hP hinX10 hK.2.1.2.1 dX2_found_17 (by omega) ?_
  refine k_callV (As := [.ref (E.2.2 2), .int (zI 0), .int (zI (M 2 1))]) (rest := []) S hK hP (c_X1_placesOf l E M h 2 0 (M 2 1) (by omega) (by omega) (by assumption) (by omega) (by omega)) (cwV 3 S.2.2.2.2 gX2_found_X1_placesOf rfl rfl rfl (by decide +kernel) ⟨Nat.le_of_ble_eq_true rfl, Nat.le_of_ble_eq_true rfl⟩) (k_rS hK hP (by omega)) rfl hl.1 rfl (Nat.le_of_ble_eq_true rfl) dX2_found_20 ⟨Nat.le_of_ble_eq_true rfl, Nat.le_of_ble_eq_true rfl⟩ (fun z_20 h_20 => ?_)
  refine ends _ _ (z_20) dX2_found_23 ?_
  exact ⟨kCnt_smp h_20.1, h_20.2⟩
abbrev rX2_first : Room := { frames := 4, cells := 0, slots := 0, locals := 94 }
set_option maxHeartbeats 4000000 in
set_option maxRecDepth 100000 in
theorem c_X2_first (l : Launch) (E : kE) (M : kM) (h : Int) (hh : 0 ≤ h ∧ h < 2) (hW : kWf M) : kRO l yX2_first wsX2_first rX2_first E M [.ref (E.2.2 10), .int (zI h)] (fun z => kIsFirst (M (h + 3)) (M h 1) (M 5) (M 2 1) z ∧ -1 ≤ z ∧ z ≤ 40) := by
  refine kRO_of (cc := cX2_first) (maxL := 2) (rt := .int) RX2 (by decide) rfl rfl (Nat.le_of_ble_eq_true rfl) k_nari ?_
  intro pg en s0 mi ar bl me co ls Q S hP hK ends hl
  have hx := S.1
  have hb := S.2.1
  have hinX00 : ∀ w ∈ wsX00, w ∈ wsX2_first := fun w h => List.mem_cons_of_mem _ (List.mem_append_left _ (List.mem_append_left _ (List.mem_append_left _ (List.mem_append_right _ (h)))))
  have hinX10 : ∀ w ∈ wsX10, w ∈ wsX2_first := fun w h => List.mem_cons_of_mem _ (List.mem_append_left _ (List.mem_append_right _ (h)))
  have hinX20 : ∀ w ∈ wsX20, w ∈ wsX2_first := fun w h => List.mem_cons_of_mem _ (List.mem_append_left _ (List.mem_append_left _ (List.mem_append_right _ (h))))
  have hl : lv_has ls 2 [(0, .ref (E.2.2 10)), (1, .int (zI h))] := hl
  obtain ⟨hn0, hn1, hv⟩ := hW h (by omega)
  obtain ⟨hs0, hs1, hsv⟩ := hW 2 (by omega)
  refine lv_aload_n hx hb dX2_first_0 rfl (lv_at hl 0 rfl) ?_
  refine lv_iload_n hx hb dX2_first_1 rfl (lv_at hl 1 rfl) ?_
  refine k_callVr (As := [.int (zI h)]) (rest := []) S hK hP (c_X2_hemOf l E M h (by omega)) (cwV 1 S.2.2.2.2 gX2_first_X2_hemOf rfl rfl rfl (by decide +kernel) ⟨Nat.le_of_ble_eq_true rfl, Nat.le_of_ble_eq_true rfl⟩) (k_rX hK hP rfl) rfl hl.1 rfl (Nat.le_of_ble_eq_true rfl) dX2_first_2 ⟨Nat.le_of_ble_eq_true rfl, Nat.le_of_ble_eq_true rfl⟩ ?_
  refine k_stitchesN S hK hP hinX00 hK.2.1.2.2.1 dX2_first_5 (by omega) (h) (by omega) ?_
  refine lv_aload_n hx hb dX2_first_8 rfl (lv_at hl 0 rfl) ?_
  refine k_own S hK hP hinX20 2 (by decide) (S.2.2.2.2 _ (List.mem_cons_of_mem _ (List.mem_append_left _ (List.mem_append_left _ (List.mem_append_left _ (List.mem_append_left _ (List.mem_append_left _ (List.mem_of_getElem? (i := 0) rfl)))))))) dX2_first_9 rfl (2) rfl rfl ?_
  refine k_push hx hb dX2_first_12 ?_
  refine lv_aload_n hx hb dX2_first_13 rfl (lv_at hl 0 rfl) ?_
  refine k_own S hK hP hinX20 2 (by decide) (S.2.2.2.2 _ (List.mem_cons_of_mem _ (List.mem_append_left _ (List.mem_append_left _ (List.mem_append_left _ (List.mem_append_left _ (List.mem_append_left _ (List.mem_of_getElem? (i := 0) rfl)))))))) dX2_first_14 rfl (2) rfl rfl ?_
  refine k_lengthN S hK hP hinX10 hK.2.1.2.1 dX2_first_17 (by omega) ?_
  refine k_callV (As := [.ref (E.2.2 2), .int (zI 0), .int (zI (M 2 1))]) (rest := []) S hK hP (c_X1_firstPlaceOf l E M h 2 0 (M 2 1) (by omega) (by omega) (by assumption) (by omega) (by omega)) (cwV 3 S.2.2.2.2 gX2_first_X1_firstPlaceOf rfl rfl rfl (by decide +kernel) ⟨Nat.le_of_ble_eq_true rfl, Nat.le_of_ble_eq_true rfl⟩) (k_rS hK hP (by omega)) rfl hl.1 rfl (Nat.le_of_ble_eq_true rfl) dX2_first_20 ⟨Nat.le_of_ble_eq_true rfl, Nat.le_of_ble_eq_true rfl⟩ (fun z_20 h_20 => ?_)
  refine ends _ _ (z_20) dX2_first_23 ?_
  exact ⟨kFirst_smp h_20.1, h_20.2⟩
abbrev rX2_period : Room := { frames := 3, cells := 0, slots := 0, locals := 67 }
set_option maxHeartbeats 4000000 in
set_option maxRecDepth 100000 in
theorem c_X2_period (l : Launch) (E : kE) (M : kM) (h : Int) (hh : 0 ≤ h ∧ h < 2) (hW : kWf M) : kRO l yX2_period wsX2_period rX2_period E M [.ref (E.2.2 10), .int (zI h)] (fun z => kIsPer (M (h + 3)) (M h 1) z ∧ 0 ≤ z ∧ z ≤ 40) := by
  refine kRO_of (cc := cX2_period) (maxL := 2) (rt := .int) RX2 (by decide) rfl rfl (Nat.le_of_ble_eq_true rfl) k_nari ?_
  intro pg en s0 mi ar bl me co ls Q S hP hK ends hl
  have hx := S.1
  have hb := S.2.1
  have hinX00 : ∀ w ∈ wsX00, w ∈ wsX2_period := fun w h => List.mem_cons_of_mem _ (List.mem_append_left _ (List.mem_append_left _ (List.mem_append_left _ (List.mem_append_right _ (h)))))
  have hinX10 : ∀ w ∈ wsX10, w ∈ wsX2_period := fun w h => List.mem_cons_of_mem _ (List.mem_append_left _ (List.mem_append_right _ (h)))
  have hinX20 : ∀ w ∈ wsX20, w ∈ wsX2_period := fun w h => List.mem_cons_of_mem _ (List.mem_append_left _ (List.mem_append_left _ (List.mem_append_right _ (h))))
  have hl : lv_has ls 2 [(0, .ref (E.2.2 10)), (1, .int (zI h))] := hl
  obtain ⟨hn0, hn1, hv⟩ := hW h (by omega)
  obtain ⟨hs0, hs1, hsv⟩ := hW 2 (by omega)
  refine lv_aload_n hx hb dX2_period_0 rfl (lv_at hl 0 rfl) ?_
  refine lv_iload_n hx hb dX2_period_1 rfl (lv_at hl 1 rfl) ?_
  refine k_callVr (As := [.int (zI h)]) (rest := []) S hK hP (c_X2_hemOf l E M h (by omega)) (cwV 1 S.2.2.2.2 gX2_period_X2_hemOf rfl rfl rfl (by decide +kernel) ⟨Nat.le_of_ble_eq_true rfl, Nat.le_of_ble_eq_true rfl⟩) (k_rX hK hP rfl) rfl hl.1 rfl (Nat.le_of_ble_eq_true rfl) dX2_period_2 ⟨Nat.le_of_ble_eq_true rfl, Nat.le_of_ble_eq_true rfl⟩ ?_
  refine k_stitchesN S hK hP hinX00 hK.2.1.2.2.1 dX2_period_5 (by omega) (h) (by omega) ?_
  refine k_callV (As := []) (rest := []) S hK hP (c_X1_leastPeriod l E M h (by omega) (by assumption)) (cwV 0 S.2.2.2.2 gX2_period_X1_leastPeriod rfl rfl rfl (by decide +kernel) ⟨Nat.le_of_ble_eq_true rfl, Nat.le_of_ble_eq_true rfl⟩) (k_rS hK hP (by omega)) rfl hl.1 rfl (Nat.le_of_ble_eq_true rfl) dX2_period_8 ⟨Nat.le_of_ble_eq_true rfl, Nat.le_of_ble_eq_true rfl⟩ (fun z_8 h_8 => ?_)
  refine ends _ _ (z_8) dX2_period_11 ?_
  exact ⟨h_8, by omega, by omega⟩
abbrev rX2_turned : Room := { frames := 4, cells := 0, slots := 0, locals := 89 }
set_option maxHeartbeats 4000000 in
set_option maxRecDepth 100000 in
theorem c_X2_turned (l : Launch) (E : kE) (M : kM) (h : Int) (hh : 0 ≤ h ∧ h < 2) (hW : kWf M) : kRO l yX2_turned wsX2_turned rX2_turned E M [.ref (E.2.2 10), .int (zI h)] (fun z => kIsTurn (M (h + 3)) (M h 1) z ∧ -1 ≤ z ∧ z < 40) := by
  refine kRO_of (cc := cX2_turned) (maxL := 2) (rt := .int) RX2 (by decide) rfl rfl (Nat.le_of_ble_eq_true rfl) k_nari ?_
  intro pg en s0 mi ar bl me co ls Q S hP hK ends hl
  have hx := S.1
  have hb := S.2.1
  have hinX00 : ∀ w ∈ wsX00, w ∈ wsX2_turned := fun w h => List.mem_cons_of_mem _ (List.mem_append_left _ (List.mem_append_left _ (List.mem_append_left _ (List.mem_append_right _ (h)))))
  have hinX10 : ∀ w ∈ wsX10, w ∈ wsX2_turned := fun w h => List.mem_cons_of_mem _ (List.mem_append_left _ (List.mem_append_right _ (h)))
  have hinX20 : ∀ w ∈ wsX20, w ∈ wsX2_turned := fun w h => List.mem_cons_of_mem _ (List.mem_append_left _ (List.mem_append_left _ (List.mem_append_right _ (h))))
  have hl : lv_has ls 2 [(0, .ref (E.2.2 10)), (1, .int (zI h))] := hl
  obtain ⟨hn0, hn1, hv⟩ := hW h (by omega)
  obtain ⟨hs0, hs1, hsv⟩ := hW 2 (by omega)
  refine lv_aload_n hx hb dX2_turned_0 rfl (lv_at hl 0 rfl) ?_
  refine lv_iload_n hx hb dX2_turned_1 rfl (lv_at hl 1 rfl) ?_
  refine k_callVr (As := [.int (zI h)]) (rest := []) S hK hP (c_X2_hemOf l E M h (by omega)) (cwV 1 S.2.2.2.2 gX2_turned_X2_hemOf rfl rfl rfl (by decide +kernel) ⟨Nat.le_of_ble_eq_true rfl, Nat.le_of_ble_eq_true rfl⟩) (k_rX hK hP rfl) rfl hl.1 rfl (Nat.le_of_ble_eq_true rfl) dX2_turned_2 ⟨Nat.le_of_ble_eq_true rfl, Nat.le_of_ble_eq_true rfl⟩ ?_
  refine k_stitchesN S hK hP hinX00 hK.2.1.2.2.1 dX2_turned_5 (by omega) (h) (by omega) ?_
  refine k_callV (As := []) (rest := []) S hK hP (c_X1_bestBeginning l E M h (by omega) (by assumption)) (cwV 0 S.2.2.2.2 gX2_turned_X1_bestBeginning rfl rfl rfl (by decide +kernel) ⟨Nat.le_of_ble_eq_true rfl, Nat.le_of_ble_eq_true rfl⟩) (k_rS hK hP (by omega)) rfl hl.1 rfl (Nat.le_of_ble_eq_true rfl) dX2_turned_8 ⟨Nat.le_of_ble_eq_true rfl, Nat.le_of_ble_eq_true rfl⟩ (fun z_8 h_8 => ?_)
  refine ends _ _ (z_8) dX2_turned_11 ?_
  refine ⟨?_, by omega, by omega⟩
  rcases h_8 with g | g
  · exact Or.inl g
  · exact Or.inr ⟨g.1, g.2.1⟩
abbrev rX2_mixed : Room := { frames := 0, cells := 0, slots := 0, locals := 0 }
set_option maxHeartbeats 4000000 in
set_option maxRecDepth 100000 in
theorem c_X2_mixed (l : Launch) (E : kE) (M : kM) (d q : Int) (hq : -2147483648 ≤ q ∧ q ≤ 2147483647) : kROl l yX2_mixed wsX2_mixed rX2_mixed E M [.long (lI d), .int (zI q)] (fun z => z = d * 31 + q) := by
  refine kROl_of (cc := cX2_mixed) (maxL := 3) RX2 (by decide) rfl rfl (Nat.le_of_ble_eq_true rfl) ?_
  intro pg en s0 mi ar bl me co ls Q S hP hK ends hl
  have hx := S.1
  have hb := S.2.1
  have hl : lv_has ls 3 [(0, .long (lI d)), (2, .int (zI q))] := hl
  refine lv_lload_n hx hb dX2_mixed_0 rfl (lv_at hl 0 rfl) ?_
  refine k_ldc2 hx hb S.2.2.2.1 (S.2.2.2.2 _ (List.mem_cons_of_mem _ (List.mem_of_getElem? (i := 0) rfl))) (n := 31) (by decide) dX2_mixed_1 ?_
  refine k_lmul hx hb dX2_mixed_4 ?_
  refine lv_iload_n hx hb dX2_mixed_5 rfl (lv_at hl 1 rfl) ?_
  refine k_i2l hx hb dX2_mixed_6 (by omega) ?_
  refine k_ladd hx hb dX2_mixed_7 ?_
  refine ends _ _ ((d * 31) + q) dX2_mixed_8 ?_
  rfl
abbrev rX2_stitchesMixed : Room := { frames := 1, cells := 0, slots := 0, locals := 22 }
set_option maxHeartbeats 4000000 in
set_option maxRecDepth 100000 in
theorem c_X2_stitchesMixed (l : Launch) (E : kE) (M : kM) (d i : Int) (hi : 0 ≤ i ∧ i < 3) (hW : kWf M) : kROl l yX2_stitchesMixed wsX2_stitchesMixed rX2_stitchesMixed E M [.long (lI d), .ref (E.2.2 i)] (fun z => z = kMix d (M (i + 3)) (M i 1).toNat) := by
  refine kROl_of (cc := cX2_stitchesMixed) (maxL := 6) RX2 (by decide) rfl rfl (Nat.le_of_ble_eq_true rfl) ?_
  intro pg en s0 mi ar bl me co ls Q S hP hK ends hl
  have hx := S.1
  have hb := S.2.1
  have hinX10 : ∀ w ∈ wsX10, w ∈ wsX2_stitchesMixed := fun w h => List.mem_cons_of_mem _ (List.mem_append_right _ (h))
  have hl : lv_has ls 6 [(0, .long (lI d)), (2, .ref (E.2.2 i))] := hl
  obtain ⟨hn0, hn1, hv⟩ := hW i (by omega)
  refine lv_lload_n hx hb dX2_stitchesMixed_0 rfl (lv_at hl 0 rfl) ?_
  refine lv_lstore_n (lv' := [(3, .long (lI d)), (0, .long (lI d)), (2, .ref (E.2.2 i))]) hx hb dX2_stitchesMixed_1 rfl hl (by decide) rfl (fun ls hl => ?_)
  refine k_push hx hb dX2_stitchesMixed_2 ?_
  refine lv_istore (lv' := [(5, .int (zI 0)), (3, .long (lI d)), (0, .long (lI d)), (2, .ref (E.2.2 i))]) hx hb dX2_stitchesMixed_3 hl (by decide) rfl (fun ls hl => ?_)
  have lp_5 : ∀ (n_5 : Nat) (t : Int) (k : Int), (0 ≤ k ∧ k ≤ M i 1) → (t = kMix d (M (i + 3)) k.toNat) → (M i 1 - k < (n_5 : Int)) → ∀ ls : Array Slot, lv_has ls 6 [(0, .long (lI d)), (2, .ref (E.2.2 i)), (3, .long (lI t)), (5, .int (zI k))] → W pg l en rX2_stitchesMixed s0 mi ar bl me co s0.heap [] 0 0 Q (F0 mi 5 ls []) := by
    intro n_5
    induction n_5 with
    | zero => intro t k h1 h2 hm_5; exfalso; omega
    | succ n_5 ih_5 =>
      intro t k h1 h2 hm_5 ls hl
      refine lv_iload hx hb dX2_stitchesMixed_5 (lv_at hl 3 rfl) ?_
      refine lv_aload_n hx hb dX2_stitchesMixed_7 rfl (lv_at hl 1 rfl) ?_
      refine k_lengthN S hK hP hinX10 hK.2.1.2.1 dX2_stitchesMixed_8 (by omega) ?_
      refine k_ge (tgt := 31) hx hb dX2_stitchesMixed_11 (by decide) (by omega) (fun c_11 => ?_) (fun c_11 => ?_)
      · skip
        refine lv_lload_n hx hb dX2_stitchesMixed_31 rfl (lv_at hl 2 rfl) ?_
        refine ends _ _ (t) dX2_stitchesMixed_32 ?_
        rw [h2, show k = M i 1 by omega]
      · skip
        refine lv_lload_n hx hb dX2_stitchesMixed_14 rfl (lv_at hl 2 rfl) ?_
        refine lv_aload_n hx hb dX2_stitchesMixed_15 rfl (lv_at hl 1 rfl) ?_
        refine lv_iload hx hb dX2_stitchesMixed_16 (lv_at hl 3 rfl) ?_
        refine k_callV (As := [.int (zI k)]) (rest := [.long (lI t)]) S hK hP (c_X1_at l E M i k (by omega) (by assumption) (by omega)) (cwV 1 S.2.2.2.2 gX2_stitchesMixed_X1_at rfl rfl rfl (by decide +kernel) ⟨Nat.le_of_ble_eq_true rfl, Nat.le_of_ble_eq_true rfl⟩) (k_rS hK hP (by omega)) rfl hl.1 rfl (Nat.le_of_ble_eq_true rfl) dX2_stitchesMixed_18 ⟨Nat.le_of_ble_eq_true rfl, Nat.le_of_ble_eq_true rfl⟩ (fun z_18 h_18 => ?_)
        refine k_callSl (As := [.long (lI t), .int (zI z_18)]) (rest := []) S hK hP (c_X2_mixed l E M t z_18 (by omega)) (va_cwS 2 S.2.2.2.2 gX2_stitchesMixed_X2_mixed rfl rfl rfl (by decide +kernel) ⟨Nat.le_of_ble_eq_true rfl, Nat.le_of_ble_eq_true rfl⟩) rfl hl.1 rfl (Nat.le_of_ble_eq_true rfl) dX2_stitchesMixed_21 ⟨Nat.le_of_ble_eq_true rfl, Nat.le_of_ble_eq_true rfl⟩ (fun z_21 h_21 => ?_)
        refine lv_lstore_n (lv' := [(3, .long (lI z_21)), (0, .long (lI d)), (2, .ref (E.2.2 i)), (5, .int (zI k))]) hx hb dX2_stitchesMixed_24 rfl hl (by decide) rfl (fun ls hl => ?_)
        obtain ⟨v5_25, ev5_25⟩ : ∃ v : Int, v = k + 1 := ⟨_, rfl⟩
        refine k_incN (v := v5_25) (lv' := [(5, .int (zI v5_25)), (3, .long (lI z_21)), (0, .long (lI d)), (2, .ref (E.2.2 i))]) hx hb dX2_stitchesMixed_25 hl (k := 3) rfl ev5_25 (by decide) rfl (fun ls hl => ?_)
        refine lv_goto (tgt := 5) hx hb dX2_stitchesMixed_28 (by decide) ?_
        refine ih_5 z_21 v5_25 (by omega) ?_ (by omega) _ (lv_sub hl [2, 3, 1, 0] rfl)
        · subst ev5_25
          rw [kMix_step _ _ (by omega), ← h2, h_21, show z_18 = M (i + 3) k by omega]
  refine lp_5 (((M i 1 - 0 : Int)).toNat + 1) d 0 (by omega) (by rfl) (by omega) _ (lv_sub hl [2, 3, 1, 0] rfl)
abbrev rX2_hemMixed : Room := { frames := 5, cells := 0, slots := 0, locals := 121 }
set_option maxHeartbeats 4000000 in
set_option maxRecDepth 100000 in
theorem c_X2_hemMixed (l : Launch) (E : kE) (M : kM) (d h : Int) (hh : 0 ≤ h ∧ h < 2) (hW : kWf M) (hO2 : ∀ h : Int, 0 ≤ h ∧ h < 2 → kO M h) : kROl l yX2_hemMixed wsX2_hemMixed rX2_hemMixed E M [.ref (E.2.2 10), .long (lI d), .int (zI h)] (fun z => z = kDigH d (M (h + 3)) (M h 1) (M 5) (M 2 1)) := by
  refine kROl_of (cc := cX2_hemMixed) (maxL := 8) RX2 (by decide) rfl rfl (Nat.le_of_ble_eq_true rfl) ?_
  intro pg en s0 mi ar bl me co ls Q S hP hK ends hl
  have hx := S.1
  have hb := S.2.1
  have hinX00 : ∀ w ∈ wsX00, w ∈ wsX2_hemMixed := fun w h => List.mem_cons_of_mem _ (List.mem_append_left _ (List.mem_append_left _ (List.mem_append_left _ (List.mem_append_right _ (h)))))
  have hinX10 : ∀ w ∈ wsX10, w ∈ wsX2_hemMixed := fun w h => List.mem_cons_of_mem _ (List.mem_append_left _ (List.mem_append_left _ (List.mem_append_right _ (h))))
  have hinX20 : ∀ w ∈ wsX20, w ∈ wsX2_hemMixed := fun w h => List.mem_cons_of_mem _ (List.mem_append_left _ (List.mem_append_right _ (h)))
  have hl : lv_has ls 8 [(0, .ref (E.2.2 10)), (1, .long (lI d)), (3, .int (zI h))] := hl
  obtain ⟨hn0, hn1, hv⟩ := hW h (by omega)
  obtain ⟨hs0, hs1, hsv⟩ := hW 2 (by omega)
  refine lv_aload_n hx hb dX2_hemMixed_0 rfl (lv_at hl 0 rfl) ?_
  refine lv_iload_n hx hb dX2_hemMixed_1 rfl (lv_at hl 2 rfl) ?_
  refine k_callVr (As := [.int (zI h)]) (rest := []) S hK hP (c_X2_hemOf l E M h (by omega)) (cwV 1 S.2.2.2.2 gX2_hemMixed_X2_hemOf rfl rfl rfl (by decide +kernel) ⟨Nat.le_of_ble_eq_true rfl, Nat.le_of_ble_eq_true rfl⟩) (k_rX hK hP rfl) rfl hl.1 rfl (Nat.le_of_ble_eq_true rfl) dX2_hemMixed_2 ⟨Nat.le_of_ble_eq_true rfl, Nat.le_of_ble_eq_true rfl⟩ ?_
  refine lv_astore (lv' := [(4, .ref (E.2.2 (6 + h))), (0, .ref (E.2.2 10)), (1, .long (lI d)), (3, .int (zI h))]) hx hb dX2_hemMixed_5 hl (by decide) rfl (fun ls hl => ?_)
  refine lv_lload_n hx hb dX2_hemMixed_7 rfl (lv_at hl 2 rfl) ?_
  refine lv_aload hx hb dX2_hemMixed_8 (lv_at hl 0 rfl) ?_
  refine k_stitchesN S hK hP hinX00 hK.2.1.2.2.1 dX2_hemMixed_10 (by omega) (h) (by omega) ?_
  refine k_callSl (As := [.long (lI d), .ref (E.2.2 h)]) (rest := []) S hK hP (c_X2_stitchesMixed l E M d h (by omega) (by assumption)) (va_cwS 2 S.2.2.2.2 gX2_hemMixed_X2_stitchesMixed rfl rfl rfl (by decide +kernel) ⟨Nat.le_of_ble_eq_true rfl, Nat.le_of_ble_eq_true rfl⟩) rfl hl.1 rfl (Nat.le_of_ble_eq_true rfl) dX2_hemMixed_13 ⟨Nat.le_of_ble_eq_true rfl, Nat.le_of_ble_eq_true rfl⟩ (fun z_13 h_13 => ?_)
  refine lv_lstore (lv' := [(5, .long (lI z_13)), (4, .ref (E.2.2 (6 + h))), (0, .ref (E.2.2 10)), (1, .long (lI d)), (3, .int (zI h))]) hx hb dX2_hemMixed_16 hl (by decide) rfl (fun ls hl => ?_)
  refine k_push hx hb dX2_hemMixed_18 ?_
  refine lv_istore (lv' := [(7, .int (zI 0)), (5, .long (lI z_13)), (4, .ref (E.2.2 (6 + h))), (0, .ref (E.2.2 10)), (1, .long (lI d)), (3, .int (zI h))]) hx hb dX2_hemMixed_19 hl (by decide) rfl (fun ls hl => ?_)
  have lp_21 : ∀ (n_21 : Nat) (t : Int) (k : Int), (0 ≤ k ∧ k ≤ M h 1) → (t = kMix z_13 (fun r => kVal (kIsEnd (M (h + 3)) (M h 1) r)) k.toNat) → (M h 1 - k < (n_21 : Int)) → ∀ ls : Array Slot, lv_has ls 8 [(0, .ref (E.2.2 10)), (1, .long (lI d)), (3, .int (zI h)), (4, .ref (E.2.2 (6 + h))), (5, .long (lI t)), (7, .int (zI k))] → W pg l en rX2_hemMixed s0 mi ar bl me co s0.heap [] 0 0 Q (F0 mi 21 ls []) := by
    intro n_21
    induction n_21 with
    | zero => intro t k h1 h2 hm_21; exfalso; omega
    | succ n_21 ih_21 =>
      intro t k h1 h2 hm_21 ls hl
      refine lv_iload hx hb dX2_hemMixed_21 (lv_at hl 5 rfl) ?_
      refine lv_aload hx hb dX2_hemMixed_23 (lv_at hl 3 rfl) ?_
      refine k_stitchesN S hK hP hinX00 hK.2.1.2.2.1 dX2_hemMixed_25 (by omega) (h) (by omega) ?_
      refine k_lengthN S hK hP hinX10 hK.2.1.2.1 dX2_hemMixed_28 (by omega) ?_
      refine k_ge (tgt := 54) hx hb dX2_hemMixed_31 (by decide) (by omega) (fun c_31 => ?_) (fun c_31 => ?_)
      · skip
        refine k_push hx hb dX2_hemMixed_54 ?_
        refine lv_istore (lv' := [(7, .int (zI 0)), (0, .ref (E.2.2 10)), (1, .long (lI d)), (3, .int (zI h)), (4, .ref (E.2.2 (6 + h))), (5, .long (lI t))]) hx hb dX2_hemMixed_55 hl (by decide) rfl (fun ls hl => ?_)
        have lp_57 : ∀ (n_57 : Nat) (u : Int) (w : Int), (0 ≤ w ∧ w ≤ 3) → (u = kMix t (fun w => kVal (kIsRep (M (h + 3)) (M h 1) w)) w.toNat) → (3 - w < (n_57 : Int)) → ∀ ls : Array Slot, lv_has ls 8 [(0, .ref (E.2.2 10)), (1, .long (lI d)), (3, .int (zI h)), (4, .ref (E.2.2 (6 + h))), (5, .long (lI u)), (7, .int (zI w))] → W pg l en rX2_hemMixed s0 mi ar bl me co s0.heap [] 0 0 Q (F0 mi 57 ls []) := by
          intro n_57
          induction n_57 with
          | zero => intro u w g1 g2 hm_57; exfalso; omega
          | succ n_57 ih_57 =>
            intro u w g1 g2 hm_57 ls hl
            refine lv_iload hx hb dX2_hemMixed_57 (lv_at hl 5 rfl) ?_
            refine k_push hx hb dX2_hemMixed_59 ?_
            refine k_ge (tgt := 83) hx hb dX2_hemMixed_60 (by decide) (by omega) (fun c_60 => ?_) (fun c_60 => ?_)
            · skip
              refine lv_lload hx hb dX2_hemMixed_83 (lv_at hl 4 rfl) ?_
              refine lv_aload_n hx hb dX2_hemMixed_85 rfl (lv_at hl 0 rfl) ?_
              refine lv_iload_n hx hb dX2_hemMixed_86 rfl (lv_at hl 2 rfl) ?_
              refine k_callV (As := [.int (zI h)]) (rest := [.long (lI u)]) S hK hP (c_X2_period l E M h (by omega) (by assumption)) (cwV 1 S.2.2.2.2 gX2_hemMixed_X2_period rfl rfl rfl (by decide +kernel) ⟨Nat.le_of_ble_eq_true rfl, Nat.le_of_ble_eq_true rfl⟩) (k_rX hK hP rfl) rfl hl.1 rfl (Nat.le_of_ble_eq_true rfl) dX2_hemMixed_87 ⟨Nat.le_of_ble_eq_true rfl, Nat.le_of_ble_eq_true rfl⟩ (fun z_87 h_87 => ?_)
              have q87 := kVal_of h_87.1 (fun _ _ => kIsPer_one)
              refine k_callSl (As := [.long (lI u), .int (zI z_87)]) (rest := []) S hK hP (c_X2_mixed l E M u z_87 (by omega)) (va_cwS 2 S.2.2.2.2 gX2_hemMixed_X2_mixed rfl rfl rfl (by decide +kernel) ⟨Nat.le_of_ble_eq_true rfl, Nat.le_of_ble_eq_true rfl⟩) rfl hl.1 rfl (Nat.le_of_ble_eq_true rfl) dX2_hemMixed_90 ⟨Nat.le_of_ble_eq_true rfl, Nat.le_of_ble_eq_true rfl⟩ (fun z_90 h_90 => ?_)
              refine lv_lstore (lv' := [(5, .long (lI z_90)), (0, .ref (E.2.2 10)), (1, .long (lI d)), (3, .int (zI h)), (4, .ref (E.2.2 (6 + h))), (7, .int (zI w))]) hx hb dX2_hemMixed_93 hl (by decide) rfl (fun ls hl => ?_)
              refine lv_lload hx hb dX2_hemMixed_95 (lv_at hl 0 rfl) ?_
              refine lv_aload_n hx hb dX2_hemMixed_97 rfl (lv_at hl 1 rfl) ?_
              refine lv_iload_n hx hb dX2_hemMixed_98 rfl (lv_at hl 3 rfl) ?_
              refine k_callV (As := [.int (zI h)]) (rest := [.long (lI z_90)]) S hK hP (c_X2_turned l E M h (by omega) (by assumption)) (cwV 1 S.2.2.2.2 gX2_hemMixed_X2_turned rfl rfl rfl (by decide +kernel) ⟨Nat.le_of_ble_eq_true rfl, Nat.le_of_ble_eq_true rfl⟩) (k_rX hK hP rfl) rfl hl.1 rfl (Nat.le_of_ble_eq_true rfl) dX2_hemMixed_99 ⟨Nat.le_of_ble_eq_true rfl, Nat.le_of_ble_eq_true rfl⟩ (fun z_99 h_99 => ?_)
              have q99 := kVal_of h_99.1 (fun _ _ => kIsTurn_one)
              refine k_callSl (As := [.long (lI z_90), .int (zI z_99)]) (rest := []) S hK hP (c_X2_mixed l E M z_90 z_99 (by omega)) (va_cwS 2 S.2.2.2.2 gX2_hemMixed_X2_mixed rfl rfl rfl (by decide +kernel) ⟨Nat.le_of_ble_eq_true rfl, Nat.le_of_ble_eq_true rfl⟩) rfl hl.1 rfl (Nat.le_of_ble_eq_true rfl) dX2_hemMixed_102 ⟨Nat.le_of_ble_eq_true rfl, Nat.le_of_ble_eq_true rfl⟩ (fun z_102 h_102 => ?_)
              refine lv_lstore (lv' := [(5, .long (lI z_102)), (0, .ref (E.2.2 10)), (1, .long (lI d)), (3, .int (zI h)), (4, .ref (E.2.2 (6 + h))), (7, .int (zI w))]) hx hb dX2_hemMixed_105 hl (by decide) rfl (fun ls hl => ?_)
              refine lv_lload hx hb dX2_hemMixed_107 (lv_at hl 0 rfl) ?_
              refine lv_aload_n hx hb dX2_hemMixed_109 rfl (lv_at hl 1 rfl) ?_
              refine lv_iload_n hx hb dX2_hemMixed_110 rfl (lv_at hl 3 rfl) ?_
              refine k_callV (As := [.int (zI h)]) (rest := [.long (lI z_102)]) S hK hP (c_X2_found l E M h (by omega) (by assumption)) (cwV 1 S.2.2.2.2 gX2_hemMixed_X2_found rfl rfl rfl (by decide +kernel) ⟨Nat.le_of_ble_eq_true rfl, Nat.le_of_ble_eq_true rfl⟩) (k_rX hK hP rfl) rfl hl.1 rfl (Nat.le_of_ble_eq_true rfl) dX2_hemMixed_111 ⟨Nat.le_of_ble_eq_true rfl, Nat.le_of_ble_eq_true rfl⟩ (fun z_111 h_111 => ?_)
              refine k_callSl (As := [.long (lI z_102), .int (zI z_111)]) (rest := []) S hK hP (c_X2_mixed l E M z_102 z_111 (by omega)) (va_cwS 2 S.2.2.2.2 gX2_hemMixed_X2_mixed rfl rfl rfl (by decide +kernel) ⟨Nat.le_of_ble_eq_true rfl, Nat.le_of_ble_eq_true rfl⟩) rfl hl.1 rfl (Nat.le_of_ble_eq_true rfl) dX2_hemMixed_114 ⟨Nat.le_of_ble_eq_true rfl, Nat.le_of_ble_eq_true rfl⟩ (fun z_114 h_114 => ?_)
              refine ends _ _ (z_114) dX2_hemMixed_117 ?_
              rw [h_114, h_102, h_90, h_111.1, q99, q87, g2, h2, h_13, show w = 3 by omega, show k = M h 1 by omega]
              rfl
            · skip
              refine lv_lload hx hb dX2_hemMixed_63 (lv_at hl 4 rfl) ?_
              refine lv_aload_n hx hb dX2_hemMixed_65 rfl (lv_at hl 0 rfl) ?_
              refine lv_iload_n hx hb dX2_hemMixed_66 rfl (lv_at hl 2 rfl) ?_
              refine lv_iload hx hb dX2_hemMixed_67 (lv_at hl 5 rfl) ?_
              refine k_callV (As := [.int (zI h), .int (zI w)]) (rest := [.long (lI u)]) S hK hP (c_X2_repeat l E M h w (by omega) (by assumption) (by assumption) (by omega)) (cwV 2 S.2.2.2.2 gX2_hemMixed_X2_repeat rfl rfl rfl (by decide +kernel) ⟨Nat.le_of_ble_eq_true rfl, Nat.le_of_ble_eq_true rfl⟩) (k_rX hK hP rfl) rfl hl.1 rfl (Nat.le_of_ble_eq_true rfl) dX2_hemMixed_69 ⟨Nat.le_of_ble_eq_true rfl, Nat.le_of_ble_eq_true rfl⟩ (fun z_69 h_69 => ?_)
              have q69 := kVal_of h_69.1 (fun _ _ => kIsRep_one)
              refine k_callSl (As := [.long (lI u), .int (zI z_69)]) (rest := []) S hK hP (c_X2_mixed l E M u z_69 (by omega)) (va_cwS 2 S.2.2.2.2 gX2_hemMixed_X2_mixed rfl rfl rfl (by decide +kernel) ⟨Nat.le_of_ble_eq_true rfl, Nat.le_of_ble_eq_true rfl⟩) rfl hl.1 rfl (Nat.le_of_ble_eq_true rfl) dX2_hemMixed_72 ⟨Nat.le_of_ble_eq_true rfl, Nat.le_of_ble_eq_true rfl⟩ (fun z_72 h_72 => ?_)
              refine lv_lstore (lv' := [(5, .long (lI z_72)), (0, .ref (E.2.2 10)), (1, .long (lI d)), (3, .int (zI h)), (4, .ref (E.2.2 (6 + h))), (7, .int (zI w))]) hx hb dX2_hemMixed_75 hl (by decide) rfl (fun ls hl => ?_)
              obtain ⟨v7_77, ev7_77⟩ : ∃ v : Int, v = w + 1 := ⟨_, rfl⟩
              refine k_incN (v := v7_77) (lv' := [(7, .int (zI v7_77)), (5, .long (lI z_72)), (0, .ref (E.2.2 10)), (1, .long (lI d)), (3, .int (zI h)), (4, .ref (E.2.2 (6 + h)))]) hx hb dX2_hemMixed_77 hl (k := 5) rfl ev7_77 (by decide) rfl (fun ls hl => ?_)
              refine lv_goto (tgt := 57) hx hb dX2_hemMixed_80 (by decide) ?_
              refine ih_57 z_72 v7_77 (by omega) ?_ (by omega) _ (lv_sub hl [2, 3, 4, 5, 1, 0] rfl)
              · subst ev7_77
                rw [kMix_step _ _ (by omega), ← g2, h_72, q69]
        refine lp_57 (((3 - 0 : Int)).toNat + 1) t 0 (by omega) (by rfl) (by omega) _ (lv_sub hl [1, 2, 3, 4, 5, 0] rfl)
      · skip
        refine lv_lload hx hb dX2_hemMixed_34 (lv_at hl 4 rfl) ?_
        refine lv_aload hx hb dX2_hemMixed_36 (lv_at hl 3 rfl) ?_
        refine lv_iload hx hb dX2_hemMixed_38 (lv_at hl 5 rfl) ?_
        refine k_callV (As := [.int (zI k)]) (rest := [.long (lI t)]) S hK hP (c_X0_placeAt l E M h k (by omega) (by assumption) (by exact hO2 _ (by omega)) (by omega)) (cwV 1 S.2.2.2.2 gX2_hemMixed_X0_placeAt rfl rfl rfl (by decide +kernel) ⟨Nat.le_of_ble_eq_true rfl, Nat.le_of_ble_eq_true rfl⟩) (k_rH hK hP (by omega)) rfl hl.1 rfl (Nat.le_of_ble_eq_true rfl) dX2_hemMixed_40 ⟨Nat.le_of_ble_eq_true rfl, Nat.le_of_ble_eq_true rfl⟩ (fun z_40 h_40 => ?_)
        have q40 := hO2 h hh
        have q41 := kOrd_at q40 (r := k) (by omega)
        have q42 := q40.1 k (by omega) (by omega)
        have e42 : z_40 = M (8 + h) k := by omega
        rw [← e42] at q41
        have q43 : z_40 = kVal (kIsEnd (M (h + 3)) (M h 1) k) := kVal_of ⟨by omega, by omega, q41⟩ (fun _ _ => kIsEnd_one)
        refine k_callSl (As := [.long (lI t), .int (zI z_40)]) (rest := []) S hK hP (c_X2_mixed l E M t z_40 (by omega)) (va_cwS 2 S.2.2.2.2 gX2_hemMixed_X2_mixed rfl rfl rfl (by decide +kernel) ⟨Nat.le_of_ble_eq_true rfl, Nat.le_of_ble_eq_true rfl⟩) rfl hl.1 rfl (Nat.le_of_ble_eq_true rfl) dX2_hemMixed_43 ⟨Nat.le_of_ble_eq_true rfl, Nat.le_of_ble_eq_true rfl⟩ (fun z_43 h_43 => ?_)
        refine lv_lstore (lv' := [(5, .long (lI z_43)), (0, .ref (E.2.2 10)), (1, .long (lI d)), (3, .int (zI h)), (4, .ref (E.2.2 (6 + h))), (7, .int (zI k))]) hx hb dX2_hemMixed_46 hl (by decide) rfl (fun ls hl => ?_)
        obtain ⟨v7_48, ev7_48⟩ : ∃ v : Int, v = k + 1 := ⟨_, rfl⟩
        refine k_incN (v := v7_48) (lv' := [(7, .int (zI v7_48)), (5, .long (lI z_43)), (0, .ref (E.2.2 10)), (1, .long (lI d)), (3, .int (zI h)), (4, .ref (E.2.2 (6 + h)))]) hx hb dX2_hemMixed_48 hl (k := 5) rfl ev7_48 (by decide) rfl (fun ls hl => ?_)
        refine lv_goto (tgt := 21) hx hb dX2_hemMixed_51 (by decide) ?_
        refine ih_21 z_43 v7_48 (by omega) ?_ (by omega) _ (lv_sub hl [2, 3, 4, 5, 1, 0] rfl)
        · subst ev7_48
          rw [kMix_step _ _ (by omega), ← h2, h_43, q43]
  refine lp_21 (((M h 1 - 0 : Int)).toNat + 1) z_13 0 (by omega) (by rfl) (by omega) _ (lv_sub hl [3, 4, 5, 2, 1, 0] rfl)
abbrev rX2_digest : Room := { frames := 6, cells := 0, slots := 0, locals := 148 }
set_option maxHeartbeats 4000000 in
set_option maxRecDepth 100000 in
theorem c_X2_digest (l : Launch) (E : kE) (M : kM) (hW : kWf M) (hO2 : ∀ h : Int, 0 ≤ h ∧ h < 2 → kO M h) : kROl l yX2_digest wsX2_digest rX2_digest E M [.ref (E.2.2 10)] (fun z => z = kDig (M 3) (M 0 1) (M 4) (M 1 1) (M 5) (M 2 1)) := by
  refine kROl_of (cc := cX2_digest) (maxL := 4) RX2 (by decide) rfl rfl (Nat.le_of_ble_eq_true rfl) ?_
  intro pg en s0 mi ar bl me co ls Q S hP hK ends hl
  have hx := S.1
  have hb := S.2.1
  have hinX00 : ∀ w ∈ wsX00, w ∈ wsX2_digest := fun w h => List.mem_cons_of_mem _ (List.mem_append_left _ (List.mem_append_left _ (List.mem_append_right _ (h))))
  have hinX10 : ∀ w ∈ wsX10, w ∈ wsX2_digest := fun w h => List.mem_cons_of_mem _ (List.mem_append_left _ (List.mem_append_right _ (h)))
  have hinX20 : ∀ w ∈ wsX20, w ∈ wsX2_digest := fun w h => List.mem_cons_of_mem _ (List.mem_append_left _ (List.mem_append_left _ (List.mem_append_left _ (List.mem_append_right _ (h)))))
  have hl : lv_has ls 4 [(0, .ref (E.2.2 10))] := hl
  obtain ⟨hn0, hn1, hv⟩ := hW 0 (by omega)
  obtain ⟨hm0, hm1, hw1⟩ := hW 1 (by omega)
  obtain ⟨hs0, hs1, hsv⟩ := hW 2 (by omega)
  refine k_ldc2 hx hb S.2.2.2.1 (S.2.2.2.2 _ (List.mem_cons_of_mem _ (List.mem_append_left _ (List.mem_append_left _ (List.mem_append_left _ (List.mem_append_left _ (List.mem_append_left _ (List.mem_of_getElem? (i := 0) rfl)))))))) (n := 1483) (by decide) dX2_digest_0 ?_
  refine lv_lstore_n (lv' := [(1, .long (lI 1483)), (0, .ref (E.2.2 10))]) hx hb dX2_digest_3 rfl hl (by decide) rfl (fun ls hl => ?_)
  refine k_push hx hb dX2_digest_4 ?_
  refine lv_istore_n (lv' := [(3, .int (zI 0)), (1, .long (lI 1483)), (0, .ref (E.2.2 10))]) hx hb dX2_digest_5 rfl hl (by decide) rfl (fun ls hl => ?_)
  have lp_6 : ∀ (n_6 : Nat) (t : Int) (w : Int), (0 ≤ w ∧ w ≤ 6) → (t = kMix 1483 (fun w => kVal (kIsCount (M 3) (M 0 1) (M 4) (M 1 1) (M 2 1) w)) w.toNat) → (6 - w < (n_6 : Int)) → ∀ ls : Array Slot, lv_has ls 4 [(0, .ref (E.2.2 10)), (1, .long (lI t)), (3, .int (zI w))] → W pg l en rX2_digest s0 mi ar bl me co s0.heap [] 0 0 Q (F0 mi 6 ls []) := by
    intro n_6
    induction n_6 with
    | zero => intro t w h1 h2 hm_6; exfalso; omega
    | succ n_6 ih_6 =>
      intro t w h1 h2 hm_6 ls hl
      refine lv_iload_n hx hb dX2_digest_6 rfl (lv_at hl 2 rfl) ?_
      refine k_bpush hx hb dX2_digest_7 (by decide) ?_
      refine k_ge (tgt := 28) hx hb dX2_digest_9 (by decide) (by omega) (fun c_9 => ?_) (fun c_9 => ?_)
      · skip
        refine lv_aload_n hx hb dX2_digest_28 rfl (lv_at hl 0 rfl) ?_
        refine lv_lload_n hx hb dX2_digest_29 rfl (lv_at hl 1 rfl) ?_
        refine k_push hx hb dX2_digest_30 ?_
        refine k_callVl (As := [.long (lI t), .int (zI 0)]) (rest := []) S hK hP (c_X2_hemMixed l E M t 0 (by omega) (by assumption) (by assumption)) (cwV 2 S.2.2.2.2 gX2_digest_X2_hemMixed rfl rfl rfl (by decide +kernel) ⟨Nat.le_of_ble_eq_true rfl, Nat.le_of_ble_eq_true rfl⟩) (k_rX hK hP rfl) rfl hl.1 rfl (Nat.le_of_ble_eq_true rfl) dX2_digest_31 ⟨Nat.le_of_ble_eq_true rfl, Nat.le_of_ble_eq_true rfl⟩ (fun z_31 h_31 => ?_)
        refine lv_lstore_n (lv' := [(1, .long (lI z_31)), (0, .ref (E.2.2 10)), (3, .int (zI w))]) hx hb dX2_digest_34 rfl hl (by decide) rfl (fun ls hl => ?_)
        refine lv_aload_n hx hb dX2_digest_35 rfl (lv_at hl 1 rfl) ?_
        refine lv_lload_n hx hb dX2_digest_36 rfl (lv_at hl 0 rfl) ?_
        refine k_push hx hb dX2_digest_37 ?_
        refine k_callVl (As := [.long (lI z_31), .int (zI 1)]) (rest := []) S hK hP (c_X2_hemMixed l E M z_31 1 (by omega) (by assumption) (by assumption)) (cwV 2 S.2.2.2.2 gX2_digest_X2_hemMixed rfl rfl rfl (by decide +kernel) ⟨Nat.le_of_ble_eq_true rfl, Nat.le_of_ble_eq_true rfl⟩) (k_rX hK hP rfl) rfl hl.1 rfl (Nat.le_of_ble_eq_true rfl) dX2_digest_38 ⟨Nat.le_of_ble_eq_true rfl, Nat.le_of_ble_eq_true rfl⟩ (fun z_38 h_38 => ?_)
        refine lv_lstore_n (lv' := [(1, .long (lI z_38)), (0, .ref (E.2.2 10)), (3, .int (zI w))]) hx hb dX2_digest_41 rfl hl (by decide) rfl (fun ls hl => ?_)
        refine lv_lload_n hx hb dX2_digest_42 rfl (lv_at hl 0 rfl) ?_
        refine lv_aload_n hx hb dX2_digest_43 rfl (lv_at hl 1 rfl) ?_
        refine k_own S hK hP hinX20 2 (by decide) (S.2.2.2.2 _ (List.mem_cons_of_mem _ (List.mem_append_left _ (List.mem_append_left _ (List.mem_append_left _ (List.mem_append_left _ (List.mem_append_left _ (List.mem_of_getElem? (i := 1) rfl)))))))) dX2_digest_44 rfl (2) rfl rfl ?_
        refine k_callSl (As := [.long (lI z_38), .ref (E.2.2 2)]) (rest := []) S hK hP (c_X2_stitchesMixed l E M z_38 2 (by omega) (by assumption)) (va_cwS 2 S.2.2.2.2 gX2_digest_X2_stitchesMixed rfl rfl rfl (by decide +kernel) ⟨Nat.le_of_ble_eq_true rfl, Nat.le_of_ble_eq_true rfl⟩) rfl hl.1 rfl (Nat.le_of_ble_eq_true rfl) dX2_digest_47 ⟨Nat.le_of_ble_eq_true rfl, Nat.le_of_ble_eq_true rfl⟩ (fun z_47 h_47 => ?_)
        refine lv_lstore_n (lv' := [(1, .long (lI z_47)), (0, .ref (E.2.2 10)), (3, .int (zI w))]) hx hb dX2_digest_50 rfl hl (by decide) rfl (fun ls hl => ?_)
        refine k_push hx hb dX2_digest_51 ?_
        refine lv_istore_n (lv' := [(3, .int (zI 0)), (1, .long (lI z_47)), (0, .ref (E.2.2 10))]) hx hb dX2_digest_52 rfl hl (by decide) rfl (fun ls hl => ?_)
        have lp_53 : ∀ (n_53 : Nat) (u : Int) (w2 : Int), (0 ≤ w2 ∧ w2 ≤ 3) → (u = kMix z_47 (fun w => kVal (kIsSeam (M 3) (M 0 1) (M 4) (M 1 1) w)) w2.toNat) → (3 - w2 < (n_53 : Int)) → ∀ ls : Array Slot, lv_has ls 4 [(0, .ref (E.2.2 10)), (1, .long (lI u)), (3, .int (zI w2))] → W pg l en rX2_digest s0 mi ar bl me co s0.heap [] 0 0 Q (F0 mi 53 ls []) := by
          intro n_53
          induction n_53 with
          | zero => intro u w2 g1 g2 hm_53; exfalso; omega
          | succ n_53 ih_53 =>
            intro u w2 g1 g2 hm_53 ls hl
            refine lv_iload_n hx hb dX2_digest_53 rfl (lv_at hl 2 rfl) ?_
            refine k_push hx hb dX2_digest_54 ?_
            refine k_ge (tgt := 74) hx hb dX2_digest_55 (by decide) (by omega) (fun c_55 => ?_) (fun c_55 => ?_)
            · skip
              refine lv_lload_n hx hb dX2_digest_74 rfl (lv_at hl 1 rfl) ?_
              refine ends _ _ (u) dX2_digest_75 ?_
              rw [g2, h_47, h_38, h_31, h2, show w = 6 by omega, show w2 = 3 by omega]
              rfl
            · skip
              refine lv_lload_n hx hb dX2_digest_58 rfl (lv_at hl 1 rfl) ?_
              refine lv_aload_n hx hb dX2_digest_59 rfl (lv_at hl 0 rfl) ?_
              refine lv_iload_n hx hb dX2_digest_60 rfl (lv_at hl 2 rfl) ?_
              refine k_callV (As := [.int (zI w2)]) (rest := [.long (lI u)]) S hK hP (c_X2_seam l E M w2 (by assumption) (by assumption) (by omega)) (cwV 1 S.2.2.2.2 gX2_digest_X2_seam rfl rfl rfl (by decide +kernel) ⟨Nat.le_of_ble_eq_true rfl, Nat.le_of_ble_eq_true rfl⟩) (k_rX hK hP rfl) rfl hl.1 rfl (Nat.le_of_ble_eq_true rfl) dX2_digest_61 ⟨Nat.le_of_ble_eq_true rfl, Nat.le_of_ble_eq_true rfl⟩ (fun z_61 h_61 => ?_)
              have q61 := kVal_of h_61.1 (fun _ _ => kIsSeam_one)
              refine k_callSl (As := [.long (lI u), .int (zI z_61)]) (rest := []) S hK hP (c_X2_mixed l E M u z_61 (by omega)) (va_cwS 2 S.2.2.2.2 gX2_digest_X2_mixed rfl rfl rfl (by decide +kernel) ⟨Nat.le_of_ble_eq_true rfl, Nat.le_of_ble_eq_true rfl⟩) rfl hl.1 rfl (Nat.le_of_ble_eq_true rfl) dX2_digest_64 ⟨Nat.le_of_ble_eq_true rfl, Nat.le_of_ble_eq_true rfl⟩ (fun z_64 h_64 => ?_)
              refine lv_lstore_n (lv' := [(1, .long (lI z_64)), (0, .ref (E.2.2 10)), (3, .int (zI w2))]) hx hb dX2_digest_67 rfl hl (by decide) rfl (fun ls hl => ?_)
              obtain ⟨v3_68, ev3_68⟩ : ∃ v : Int, v = w2 + 1 := ⟨_, rfl⟩
              refine k_incN (v := v3_68) (lv' := [(3, .int (zI v3_68)), (1, .long (lI z_64)), (0, .ref (E.2.2 10))]) hx hb dX2_digest_68 hl (k := 2) rfl ev3_68 (by decide) rfl (fun ls hl => ?_)
              refine lv_goto (tgt := 53) hx hb dX2_digest_71 (by decide) ?_
              refine ih_53 z_64 v3_68 (by omega) ?_ (by omega) _ (lv_sub hl [2, 1, 0] rfl)
              · subst ev3_68
                rw [kMix_step _ _ (by omega), ← g2, h_64, q61]
        refine lp_53 (((3 - 0 : Int)).toNat + 1) z_47 0 (by omega) (by rfl) (by omega) _ (lv_sub hl [2, 1, 0] rfl)
      · skip
        refine lv_lload_n hx hb dX2_digest_12 rfl (lv_at hl 1 rfl) ?_
        refine lv_aload_n hx hb dX2_digest_13 rfl (lv_at hl 0 rfl) ?_
        refine lv_iload_n hx hb dX2_digest_14 rfl (lv_at hl 2 rfl) ?_
        refine k_callV (As := [.int (zI w)]) (rest := [.long (lI t)]) S hK hP (c_X2_count l E M w (by assumption) (by assumption) (by omega)) (cwV 1 S.2.2.2.2 gX2_digest_X2_count rfl rfl rfl (by decide +kernel) ⟨Nat.le_of_ble_eq_true rfl, Nat.le_of_ble_eq_true rfl⟩) (k_rX hK hP rfl) rfl hl.1 rfl (Nat.le_of_ble_eq_true rfl) dX2_digest_15 ⟨Nat.le_of_ble_eq_true rfl, Nat.le_of_ble_eq_true rfl⟩ (fun z_15 h_15 => ?_)
        have q15 := kVal_of h_15.1 (fun _ _ => kIsCount_one)
        refine k_callSl (As := [.long (lI t), .int (zI z_15)]) (rest := []) S hK hP (c_X2_mixed l E M t z_15 (by omega)) (va_cwS 2 S.2.2.2.2 gX2_digest_X2_mixed rfl rfl rfl (by decide +kernel) ⟨Nat.le_of_ble_eq_true rfl, Nat.le_of_ble_eq_true rfl⟩) rfl hl.1 rfl (Nat.le_of_ble_eq_true rfl) dX2_digest_18 ⟨Nat.le_of_ble_eq_true rfl, Nat.le_of_ble_eq_true rfl⟩ (fun z_18 h_18 => ?_)
        refine lv_lstore_n (lv' := [(1, .long (lI z_18)), (0, .ref (E.2.2 10)), (3, .int (zI w))]) hx hb dX2_digest_21 rfl hl (by decide) rfl (fun ls hl => ?_)
        obtain ⟨v3_22, ev3_22⟩ : ∃ v : Int, v = w + 1 := ⟨_, rfl⟩
        refine k_incN (v := v3_22) (lv' := [(3, .int (zI v3_22)), (1, .long (lI z_18)), (0, .ref (E.2.2 10))]) hx hb dX2_digest_22 hl (k := 2) rfl ev3_22 (by decide) rfl (fun ls hl => ?_)
        refine lv_goto (tgt := 6) hx hb dX2_digest_25 (by decide) ?_
        refine ih_6 z_18 v3_22 (by omega) ?_ (by omega) _ (lv_sub hl [2, 1, 0] rfl)
        · subst ev3_22
          rw [kMix_step _ _ (by omega), ← h2, h_18, q15]
  refine lp_6 (((6 - 0 : Int)).toNat + 1) 1483 0 (by omega) (by rfl) (by omega) _ (lv_sub hl [2, 1, 0] rfl)
