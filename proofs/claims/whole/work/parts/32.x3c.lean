abbrev rX3_sew : Room := { frames := 2, cells := 0, slots := 0, locals := 42 }
set_option maxHeartbeats 4000000 in
set_option maxRecDepth 100000 in
theorem c_X3_sew (l : Launch) (E : kE) (hE : kInj E) (M : kM) (h st : Int) (hW : kWm M) (h1 : -2147483648 ≤ h ∧ h ≤ 2147483647 ∧ -2147483648 ≤ st ∧ st ≤ 2147483647) : kRW l yX3_sew wsX3_sew rX3_sew E M [.ref (E.2.2 11), .int (zI h), .int (zI st)] (fun z N => (((h < 0 ∨ 2 ≤ h) ∧ N 11 0 = 1 ∧ kFt M N) ∨ (0 ≤ h ∧ h < 2 ∧ (st < 0 ∨ 8 < st) ∧ N 11 0 = 2 ∧ kFt M N) ∨ (0 ≤ h ∧ h < 2 ∧ 0 ≤ st ∧ st ≤ 8 ∧ M 15 h = 40 ∧ N 11 0 = 3 ∧ kFt M N) ∨ (0 ≤ h ∧ h < 2 ∧ 0 ≤ st ∧ st ≤ 8 ∧ M 15 h < 40 ∧ N 11 0 = 0 ∧ z = M 15 h + 1 ∧ kFt (kU (kU M (13 + h) (M 15 h) st) 15 h (M 15 h + 1)) N)) ∧ 0 ≤ z ∧ z ≤ 40) := by
  refine kRW_of (cc := cX3_sew) (maxL := 3) (rt := .int) RX3 (by decide) rfl rfl (Nat.le_of_ble_eq_true rfl) k_nariW ?_
  intro pg en s0 mi ar bl me co ls Q S hP hS hK ends hl
  have hx := S.1
  have hb := S.2.1
  have hinX30 : ∀ w ∈ wsX30, w ∈ wsX3_sew := fun w h => List.mem_cons_of_mem _ (List.mem_append_right _ (h))
  have hl : lv_has ls 3 [(0, .ref (E.2.2 11)), (1, .int (zI h)), (2, .int (zI st))] := hl
  obtain ⟨hWh, hs0, hs1, hsv⟩ := id hW
  refine lv_aload_n hx hb dX3_sew_0 rfl (lv_at hl 0 rfl) ?_
  refine k_push hx hb dX3_sew_1 ?_
  refine k_putmod S hK hE hP hS hinX30 0 (by decide) (S.2.2.2.2 _ (List.mem_cons_of_mem _ (List.mem_append_left _ (List.mem_of_getElem? (i := 0) rfl)))) dX3_sew_2 rfl (fun H locs hP hS => ?_)
  obtain ⟨M2, eM2⟩ : ∃ N9 : kM, N9 = kU M 11 0 0 := ⟨_, rfl⟩
  have hP : va_P E.1 vwCl (kW E M2) H := by rw [eM2]; exact hP
  have t2 := kFt_of eM2
  have t0 : M2 11 0 = 0 := kFt_11 eM2
  have hW2 : kWm M2 := kWm_t hW t2
  have t15 : M2 15 h = M 15 h := t2 15 h (by omega)
  refine lv_iload_n hx hb dX3_sew_5 rfl (lv_at hl 1 rfl) ?_
  refine k_callS (As := [.int (zI h)]) (rest := []) S hK hP (c_X3_isHem l E M2 h (by omega)) (va_cwS 1 S.2.2.2.2 gX3_sew_X3_isHem rfl rfl rfl (by decide +kernel) ⟨Nat.le_of_ble_eq_true rfl, Nat.le_of_ble_eq_true rfl⟩) rfl hl.1 rfl (Nat.le_of_ble_eq_true rfl) dX3_sew_6 ⟨Nat.le_of_ble_eq_true rfl, Nat.le_of_ble_eq_true rfl⟩ (fun z_6 h_6 => ?_)
  refine k_ne0 (tgt := 18) hx hb dX3_sew_9 (by decide) (by omega) (fun c_9 => ?_) (fun c_9 => ?_)
  · skip
    obtain ⟨hn0, hn1, hv⟩ := hWh h (by omega)
    refine lv_iload_n hx hb dX3_sew_18 rfl (lv_at hl 2 rfl) ?_
    refine k_callS (As := [.int (zI st)]) (rest := []) S hK hP (c_X3_isStitch l E M2 st (by omega)) (va_cwS 1 S.2.2.2.2 gX3_sew_X3_isStitch rfl rfl rfl (by decide +kernel) ⟨Nat.le_of_ble_eq_true rfl, Nat.le_of_ble_eq_true rfl⟩) rfl hl.1 rfl (Nat.le_of_ble_eq_true rfl) dX3_sew_19 ⟨Nat.le_of_ble_eq_true rfl, Nat.le_of_ble_eq_true rfl⟩ (fun z_19 h_19 => ?_)
    refine k_ne0 (tgt := 31) hx hb dX3_sew_22 (by decide) (by omega) (fun c_22 => ?_) (fun c_22 => ?_)
    · skip
      refine lv_aload_n hx hb dX3_sew_31 rfl (lv_at hl 0 rfl) ?_
      refine k_mod S hK hP hinX30 2 (by decide) (S.2.2.2.2 _ (List.mem_cons_of_mem _ (List.mem_append_left _ (List.mem_of_getElem? (i := 1) rfl)))) dX3_sew_32 rfl (.ref (E.2.2 15)) rfl rfl ?_
      refine lv_iload_n hx hb dX3_sew_35 rfl (lv_at hl 1 rfl) ?_
      refine k_ald S hK hP 2 (by unfold kArr; omega) (by omega) dX3_sew_36 ?_
      refine k_bpush hx hb dX3_sew_37 (by decide) ?_
      refine k_ne (tgt := 48) hx hb dX3_sew_39 (by decide) (by omega) (fun c_39 => ?_) (fun c_39 => ?_)
      · skip
        refine lv_aload_n hx hb dX3_sew_48 rfl (lv_at hl 0 rfl) ?_
        refine k_mod S hK hP hinX30 1 (by decide) (S.2.2.2.2 _ (List.mem_cons_of_mem _ (List.mem_append_left _ (List.mem_of_getElem? (i := 2) rfl)))) dX3_sew_49 rfl (.ref (E.2.2 12)) rfl rfl ?_
        refine lv_iload_n hx hb dX3_sew_52 rfl (lv_at hl 1 rfl) ?_
        refine k_aald S hK hP (13 + h) 2 (by unfold kRow; omega) dX3_sew_53 ?_
        refine lv_aload_n hx hb dX3_sew_54 rfl (lv_at hl 0 rfl) ?_
        refine k_mod S hK hP hinX30 2 (by decide) (S.2.2.2.2 _ (List.mem_cons_of_mem _ (List.mem_append_left _ (List.mem_of_getElem? (i := 1) rfl)))) dX3_sew_55 rfl (.ref (E.2.2 15)) rfl rfl ?_
        refine lv_iload_n hx hb dX3_sew_58 rfl (lv_at hl 1 rfl) ?_
        refine k_ald S hK hP 2 (by unfold kArr; omega) (by omega) dX3_sew_59 ?_
        refine lv_iload_n hx hb dX3_sew_60 rfl (lv_at hl 2 rfl) ?_
        refine k_ast S hK hE hP hS 40 (by unfold kArr; omega) (by omega) dX3_sew_61 (fun H locs hP hS => ?_)
        obtain ⟨M61, eM61⟩ : ∃ N9 : kM, N9 = kU M2 (13 + h) (M2 15 h) st := ⟨_, rfl⟩
        rw [← eM61] at hP
        have q1 : M61 15 h = M 15 h := by rw [eM61, kU_cell (by omega)]; exact t15
        refine lv_aload_n hx hb dX3_sew_62 rfl (lv_at hl 0 rfl) ?_
        refine k_mod S hK hP hinX30 2 (by decide) (S.2.2.2.2 _ (List.mem_cons_of_mem _ (List.mem_append_left _ (List.mem_of_getElem? (i := 1) rfl)))) dX3_sew_63 rfl (.ref (E.2.2 15)) rfl rfl ?_
        refine lv_iload_n hx hb dX3_sew_66 rfl (lv_at hl 1 rfl) ?_
        refine lv_dup2_11 hx hb dX3_sew_67 rfl rfl ?_
        refine k_ald S hK hP 2 (by unfold kArr; omega) (by omega) dX3_sew_68 ?_
        refine k_push hx hb dX3_sew_69 ?_
        refine k_add hx hb dX3_sew_70 ?_
        refine k_ast S hK hE hP hS 2 (by unfold kArr; omega) (by omega) dX3_sew_71 (fun H locs hP hS => ?_)
        obtain ⟨M71, eM71⟩ : ∃ N9 : kM, N9 = kU M61 15 h ((M61 15 h) + 1) := ⟨_, rfl⟩
        rw [← eM71] at hP
        have q2 : M71 15 h = M 15 h + 1 := by rw [eM71, kU_same, q1]
        refine lv_aload_n hx hb dX3_sew_72 rfl (lv_at hl 0 rfl) ?_
        refine k_mod S hK hP hinX30 2 (by decide) (S.2.2.2.2 _ (List.mem_cons_of_mem _ (List.mem_append_left _ (List.mem_of_getElem? (i := 1) rfl)))) dX3_sew_73 rfl (.ref (E.2.2 15)) rfl rfl ?_
        refine lv_iload_n hx hb dX3_sew_76 rfl (lv_at hl 1 rfl) ?_
        refine k_ald S hK hP 2 (by unfold kArr; omega) (by omega) dX3_sew_77 ?_
        refine ends _ _ (M71 15 h) M71 _ _ dX3_sew_78 hP hS ?_
        refine ⟨Or.inr (Or.inr (Or.inr ⟨by omega, by omega, by omega, by omega, by omega, ?_, q2, fun c k g => ?_⟩)), by omega, by omega⟩
        · rw [eM71, kU_cell (by omega), eM61, kU_cell (by omega)]; exact t0
        · rw [eM71, kU_at, q1, eM61, kU_at, t15, t2 c k g]; rfl
      · skip
        refine lv_aload_n hx hb dX3_sew_42 rfl (lv_at hl 0 rfl) ?_
        refine k_push hx hb dX3_sew_43 ?_
        refine k_callVW (As := [.int (zI 3)]) (rest := []) S hK hP hS (c_X3_no l E hE M2 3 ) (cwV 1 S.2.2.2.2 gX3_sew_X3_no rfl rfl rfl (by decide +kernel) ⟨Nat.le_of_ble_eq_true rfl, Nat.le_of_ble_eq_true rfl⟩) (k_rY hK hP rfl) rfl hl.1 rfl (Nat.le_of_ble_eq_true rfl) dX3_sew_44 ⟨Nat.le_of_ble_eq_true rfl, Nat.le_of_ble_eq_true rfl⟩ (fun z_44 M_44 H locs h_44 hP hS => ?_)
        refine ends _ _ (z_44) M_44 _ _ dX3_sew_47 hP hS ?_
        exact ⟨Or.inr (Or.inr (Or.inl ⟨by omega, by omega, by omega, by omega, by omega, kFt_11 h_44.2, kFt_trans t2 (kFt_of h_44.2)⟩)), by have := h_44.1; omega⟩
    · skip
      refine lv_aload_n hx hb dX3_sew_25 rfl (lv_at hl 0 rfl) ?_
      refine k_push hx hb dX3_sew_26 ?_
      refine k_callVW (As := [.int (zI 2)]) (rest := []) S hK hP hS (c_X3_no l E hE M2 2 ) (cwV 1 S.2.2.2.2 gX3_sew_X3_no rfl rfl rfl (by decide +kernel) ⟨Nat.le_of_ble_eq_true rfl, Nat.le_of_ble_eq_true rfl⟩) (k_rY hK hP rfl) rfl hl.1 rfl (Nat.le_of_ble_eq_true rfl) dX3_sew_27 ⟨Nat.le_of_ble_eq_true rfl, Nat.le_of_ble_eq_true rfl⟩ (fun z_27 M_27 H locs h_27 hP hS => ?_)
      refine ends _ _ (z_27) M_27 _ _ dX3_sew_30 hP hS ?_
      exact ⟨Or.inr (Or.inl ⟨by omega, by omega, by omega, kFt_11 h_27.2, kFt_trans t2 (kFt_of h_27.2)⟩), by have := h_27.1; omega⟩
  · skip
    refine lv_aload_n hx hb dX3_sew_12 rfl (lv_at hl 0 rfl) ?_
    refine k_push hx hb dX3_sew_13 ?_
    refine k_callVW (As := [.int (zI 1)]) (rest := []) S hK hP hS (c_X3_no l E hE M2 1 ) (cwV 1 S.2.2.2.2 gX3_sew_X3_no rfl rfl rfl (by decide +kernel) ⟨Nat.le_of_ble_eq_true rfl, Nat.le_of_ble_eq_true rfl⟩) (k_rY hK hP rfl) rfl hl.1 rfl (Nat.le_of_ble_eq_true rfl) dX3_sew_14 ⟨Nat.le_of_ble_eq_true rfl, Nat.le_of_ble_eq_true rfl⟩ (fun z_14 M_14 H locs h_14 hP hS => ?_)
    refine ends _ _ (z_14) M_14 _ _ dX3_sew_17 hP hS ?_
    exact ⟨Or.inl ⟨by omega, kFt_11 h_14.2, kFt_trans t2 (kFt_of h_14.2)⟩, by have := h_14.1; omega⟩
abbrev rX3_again : Room := { frames := 2, cells := 0, slots := 0, locals := 42 }
set_option maxHeartbeats 4000000 in
set_option maxRecDepth 100000 in
theorem c_X3_again (l : Launch) (E : kE) (hE : kInj E) (M : kM) (h r : Int) (hW : kWm M) (h1 : -2147483648 ≤ h ∧ h ≤ 2147483647 ∧ -2147483648 ≤ r ∧ r ≤ 2147483647) : kRW l yX3_again wsX3_again rX3_again E M [.ref (E.2.2 11), .int (zI h), .int (zI r)] (fun z N => (((h < 0 ∨ 2 ≤ h) ∧ N 11 0 = 1 ∧ kFt M N) ∨ (0 ≤ h ∧ h < 2 ∧ (r < 1 ∨ 40 < r) ∧ N 11 0 = 2 ∧ kFt M N) ∨ (0 ≤ h ∧ h < 2 ∧ 1 ≤ r ∧ r ≤ 40 ∧ (M 15 h = 0 ∨ 40 < M 15 h + r) ∧ N 11 0 = 3 ∧ kFt M N) ∨ (0 ≤ h ∧ h < 2 ∧ 1 ≤ r ∧ 1 ≤ M 15 h ∧ M 15 h + r ≤ 40 ∧ N 11 0 = 0 ∧ z = M 15 h + r ∧ N 15 h = M 15 h + r ∧ (∀ k : Int, (k < M 15 h ∨ M 15 h + r ≤ k) → N (13 + h) k = M (13 + h) k) ∧ (∀ k : Int, M 15 h ≤ k → k < M 15 h + r → N (13 + h) k = N (13 + h) (k - M 15 h)) ∧ ∀ c k : Int, (c ≠ 11 ∨ k ≠ 0) → c ≠ 13 + h → (c ≠ 15 ∨ k ≠ h) → N c k = M c k)) ∧ 0 ≤ z ∧ z ≤ 40) := by
  refine kRW_of (cc := cX3_again) (maxL := 5) (rt := .int) RX3 (by decide) rfl rfl (Nat.le_of_ble_eq_true rfl) k_nariW ?_
  intro pg en s0 mi ar bl me co ls Q S hP hS hK ends hl
  have hx := S.1
  have hb := S.2.1
  have hinX30 : ∀ w ∈ wsX30, w ∈ wsX3_again := fun w h => List.mem_cons_of_mem _ (List.mem_append_right _ (h))
  have hl : lv_has ls 5 [(0, .ref (E.2.2 11)), (1, .int (zI h)), (2, .int (zI r))] := hl
  obtain ⟨hWh, hs0, hs1, hsv⟩ := id hW
  refine lv_aload_n hx hb dX3_again_0 rfl (lv_at hl 0 rfl) ?_
  refine k_push hx hb dX3_again_1 ?_
  refine k_putmod S hK hE hP hS hinX30 0 (by decide) (S.2.2.2.2 _ (List.mem_cons_of_mem _ (List.mem_append_left _ (List.mem_of_getElem? (i := 0) rfl)))) dX3_again_2 rfl (fun H locs hP hS => ?_)
  obtain ⟨M2, eM2⟩ : ∃ N9 : kM, N9 = kU M 11 0 0 := ⟨_, rfl⟩
  have hP : va_P E.1 vwCl (kW E M2) H := by rw [eM2]; exact hP
  have t2 := kFt_of eM2
  have t0 : M2 11 0 = 0 := kFt_11 eM2
  have hW2 : kWm M2 := kWm_t hW t2
  have t15 : M2 15 h = M 15 h := t2 15 h (by omega)
  refine lv_iload_n hx hb dX3_again_5 rfl (lv_at hl 1 rfl) ?_
  refine k_callS (As := [.int (zI h)]) (rest := []) S hK hP (c_X3_isHem l E M2 h (by omega)) (va_cwS 1 S.2.2.2.2 gX3_again_X3_isHem rfl rfl rfl (by decide +kernel) ⟨Nat.le_of_ble_eq_true rfl, Nat.le_of_ble_eq_true rfl⟩) rfl hl.1 rfl (Nat.le_of_ble_eq_true rfl) dX3_again_6 ⟨Nat.le_of_ble_eq_true rfl, Nat.le_of_ble_eq_true rfl⟩ (fun z_6 h_6 => ?_)
  refine k_ne0 (tgt := 18) hx hb dX3_again_9 (by decide) (by omega) (fun c_9 => ?_) (fun c_9 => ?_)
  · skip
    obtain ⟨hn0, hn1, hv⟩ := hWh h (by omega)
    refine lv_iload_n hx hb dX3_again_18 rfl (lv_at hl 2 rfl) ?_
    refine k_push hx hb dX3_again_19 ?_
    refine k_bpush hx hb dX3_again_20 (by decide) ?_
    refine k_callS (As := [.int (zI r), .int (zI 1), .int (zI 40)]) (rest := []) S hK hP (c_X3_isIn l E M2 r 1 40 (by omega)) (va_cwS 3 S.2.2.2.2 gX3_again_X3_isIn rfl rfl rfl (by decide +kernel) ⟨Nat.le_of_ble_eq_true rfl, Nat.le_of_ble_eq_true rfl⟩) rfl hl.1 rfl (Nat.le_of_ble_eq_true rfl) dX3_again_22 ⟨Nat.le_of_ble_eq_true rfl, Nat.le_of_ble_eq_true rfl⟩ (fun z_22 h_22 => ?_)
    refine k_ne0 (tgt := 34) hx hb dX3_again_25 (by decide) (by omega) (fun c_25 => ?_) (fun c_25 => ?_)
    · skip
      refine lv_aload_n hx hb dX3_again_34 rfl (lv_at hl 0 rfl) ?_
      refine k_mod S hK hP hinX30 2 (by decide) (S.2.2.2.2 _ (List.mem_cons_of_mem _ (List.mem_append_left _ (List.mem_of_getElem? (i := 1) rfl)))) dX3_again_35 rfl (.ref (E.2.2 15)) rfl rfl ?_
      refine lv_iload_n hx hb dX3_again_38 rfl (lv_at hl 1 rfl) ?_
      refine k_ald S hK hP 2 (by unfold kArr; omega) (by omega) dX3_again_39 ?_
      refine k_eq0 (tgt := 56) hx hb dX3_again_40 (by decide) (by omega) (fun c_40 => ?_) (fun c_40 => ?_)
      · skip
        refine lv_aload_n hx hb dX3_again_56 rfl (lv_at hl 0 rfl) ?_
        refine k_push hx hb dX3_again_57 ?_
        refine k_callVW (As := [.int (zI 3)]) (rest := []) S hK hP hS (c_X3_no l E hE M2 3 ) (cwV 1 S.2.2.2.2 gX3_again_X3_no rfl rfl rfl (by decide +kernel) ⟨Nat.le_of_ble_eq_true rfl, Nat.le_of_ble_eq_true rfl⟩) (k_rY hK hP rfl) rfl hl.1 rfl (Nat.le_of_ble_eq_true rfl) dX3_again_58 ⟨Nat.le_of_ble_eq_true rfl, Nat.le_of_ble_eq_true rfl⟩ (fun z_58 M_58 H locs h_58 hP hS => ?_)
        refine ends _ _ (z_58) M_58 _ _ dX3_again_61 hP hS ?_
        exact ⟨Or.inr (Or.inr (Or.inl ⟨by omega, by omega, by omega, by omega, by omega, kFt_11 h_58.2, kFt_trans t2 (kFt_of h_58.2)⟩)), by have := h_58.1; omega⟩
      · skip
        refine lv_aload_n hx hb dX3_again_43 rfl (lv_at hl 0 rfl) ?_
        refine k_mod S hK hP hinX30 2 (by decide) (S.2.2.2.2 _ (List.mem_cons_of_mem _ (List.mem_append_left _ (List.mem_of_getElem? (i := 1) rfl)))) dX3_again_44 rfl (.ref (E.2.2 15)) rfl rfl ?_
        refine lv_iload_n hx hb dX3_again_47 rfl (lv_at hl 1 rfl) ?_
        refine k_ald S hK hP 2 (by unfold kArr; omega) (by omega) dX3_again_48 ?_
        refine lv_iload_n hx hb dX3_again_49 rfl (lv_at hl 2 rfl) ?_
        refine k_add hx hb dX3_again_50 ?_
        refine k_bpush hx hb dX3_again_51 (by decide) ?_
        refine k_le (tgt := 62) hx hb dX3_again_53 (by decide) (by omega) (fun c_53 => ?_) (fun c_53 => ?_)
        · skip
          refine lv_aload_n hx hb dX3_again_62 rfl (lv_at hl 0 rfl) ?_
          refine k_mod S hK hP hinX30 2 (by decide) (S.2.2.2.2 _ (List.mem_cons_of_mem _ (List.mem_append_left _ (List.mem_of_getElem? (i := 1) rfl)))) dX3_again_63 rfl (.ref (E.2.2 15)) rfl rfl ?_
          refine lv_iload_n hx hb dX3_again_66 rfl (lv_at hl 1 rfl) ?_
          refine k_ald S hK hP 2 (by unfold kArr; omega) (by omega) dX3_again_67 ?_
          refine k_nm (fun v3_68 ev3_68 => ?_)
          refine lv_istore_n (lv' := [(3, .int (zI v3_68)), (0, .ref (E.2.2 11)), (1, .int (zI h)), (2, .int (zI r))]) hx hb dX3_again_68 rfl hl (by decide) rfl (fun ls hl => ?_)
          refine k_push hx hb dX3_again_69 ?_
          refine lv_istore (lv' := [(4, .int (zI 0)), (3, .int (zI v3_68)), (0, .ref (E.2.2 11)), (1, .int (zI h)), (2, .int (zI r))]) hx hb dX3_again_70 hl (by decide) rfl (fun ls hl => ?_)
          have lp_72 : ∀ (n_72 : Nat) (t : Int) (N : kM) (H : Heap) (locs : List Loc), (0 ≤ t ∧ t ≤ r) → (∀ c k : Int, c ≠ 13 + h → N c k = M2 c k) → (∀ k : Int, (k < M 15 h ∨ M 15 h + t ≤ k) → N (13 + h) k = M (13 + h) k) → (∀ k : Int, M 15 h ≤ k → k < M 15 h + t → N (13 + h) k = N (13 + h) (k - M 15 h)) → (r - t < (n_72 : Int)) → va_P E.1 vwCl (kW E N) H → va_S (kA E s0.heap.size) s0.heap H locs → ∀ ls : Array Slot, lv_has ls 5 [(0, .ref (E.2.2 11)), (1, .int (zI h)), (2, .int (zI r)), (3, .int (zI v3_68)), (4, .int (zI t))] → W pg l en rX3_again s0 mi ar bl me co H locs 0 0 Q (F0 mi 72 ls []) := by
            intro n_72
            induction n_72 with
            | zero => intro t N H locs g1 g2 g3 g4 hm_72; exfalso; omega
            | succ n_72 ih_72 =>
              intro t N H locs g1 g2 g3 g4 hm_72 hP hS ls hl
              have q15 : N 15 h = M 15 h := by rw [g2 15 h (by omega)]; exact t15
              refine lv_iload hx hb dX3_again_72 (lv_at hl 4 rfl) ?_
              refine lv_iload_n hx hb dX3_again_74 rfl (lv_at hl 2 rfl) ?_
              refine k_ge (tgt := 104) hx hb dX3_again_75 (by decide) (by omega) (fun c_75 => ?_) (fun c_75 => ?_)
              · skip
                refine lv_aload_n hx hb dX3_again_104 rfl (lv_at hl 0 rfl) ?_
                refine k_mod S hK hP hinX30 2 (by decide) (S.2.2.2.2 _ (List.mem_cons_of_mem _ (List.mem_append_left _ (List.mem_of_getElem? (i := 1) rfl)))) dX3_again_105 rfl (.ref (E.2.2 15)) rfl rfl ?_
                refine lv_iload_n hx hb dX3_again_108 rfl (lv_at hl 1 rfl) ?_
                refine lv_dup2_11 hx hb dX3_again_109 rfl rfl ?_
                refine k_ald S hK hP 2 (by unfold kArr; omega) (by omega) dX3_again_110 ?_
                refine lv_iload_n hx hb dX3_again_111 rfl (lv_at hl 2 rfl) ?_
                refine k_add hx hb dX3_again_112 ?_
                refine k_ast S hK hE hP hS 2 (by unfold kArr; omega) (by omega) dX3_again_113 (fun H locs hP hS => ?_)
                obtain ⟨M113, eM113⟩ : ∃ N9 : kM, N9 = kU N 15 h ((N 15 h) + r) := ⟨_, rfl⟩
                rw [← eM113] at hP
                have q2 : M113 15 h = M 15 h + r := by rw [eM113, kU_same, q15]
                refine lv_aload_n hx hb dX3_again_114 rfl (lv_at hl 0 rfl) ?_
                refine k_mod S hK hP hinX30 2 (by decide) (S.2.2.2.2 _ (List.mem_cons_of_mem _ (List.mem_append_left _ (List.mem_of_getElem? (i := 1) rfl)))) dX3_again_115 rfl (.ref (E.2.2 15)) rfl rfl ?_
                refine lv_iload_n hx hb dX3_again_118 rfl (lv_at hl 1 rfl) ?_
                refine k_ald S hK hP 2 (by unfold kArr; omega) (by omega) dX3_again_119 ?_
                refine ends _ _ (M113 15 h) M113 _ _ dX3_again_120 hP hS ?_
                refine ⟨Or.inr (Or.inr (Or.inr ⟨by omega, by omega, by omega, by omega, by omega, ?_, q2, q2, fun k g => ?_, fun k k1 k2 => ?_, fun c k c1 c2 c3 => ?_⟩)), by omega, by omega⟩
                · rw [eM113, kU_cell (by omega), g2 11 0 (by omega)]; exact t0
                · rw [eM113, kU_cell (by omega)]; exact g3 k (by omega)
                · rw [eM113, kU_cell (by omega), kU_cell (by omega)]; exact g4 k k1 (by omega)
                · rw [eM113, kU_at, if_neg (by omega), g2 c k c2]; exact t2 c k c1
              · skip
                refine lv_aload_n hx hb dX3_again_78 rfl (lv_at hl 0 rfl) ?_
                refine k_mod S hK hP hinX30 1 (by decide) (S.2.2.2.2 _ (List.mem_cons_of_mem _ (List.mem_append_left _ (List.mem_of_getElem? (i := 2) rfl)))) dX3_again_79 rfl (.ref (E.2.2 12)) rfl rfl ?_
                refine lv_iload_n hx hb dX3_again_82 rfl (lv_at hl 1 rfl) ?_
                refine k_aald S hK hP (13 + h) 2 (by unfold kRow; omega) dX3_again_83 ?_
                refine lv_iload_n hx hb dX3_again_84 rfl (lv_at hl 3 rfl) ?_
                refine lv_iload hx hb dX3_again_85 (lv_at hl 4 rfl) ?_
                refine k_add hx hb dX3_again_87 ?_
                refine lv_aload_n hx hb dX3_again_88 rfl (lv_at hl 0 rfl) ?_
                refine k_mod S hK hP hinX30 1 (by decide) (S.2.2.2.2 _ (List.mem_cons_of_mem _ (List.mem_append_left _ (List.mem_of_getElem? (i := 2) rfl)))) dX3_again_89 rfl (.ref (E.2.2 12)) rfl rfl ?_
                refine lv_iload_n hx hb dX3_again_92 rfl (lv_at hl 1 rfl) ?_
                refine k_aald S hK hP (13 + h) 2 (by unfold kRow; omega) dX3_again_93 ?_
                refine lv_iload hx hb dX3_again_94 (lv_at hl 4 rfl) ?_
                refine k_ald S hK hP 40 (by unfold kArr; omega) (by omega) dX3_again_96 ?_
                refine k_ast S hK hE hP hS 40 (by unfold kArr; omega) (by omega) dX3_again_97 (fun H locs hP hS => ?_)
                obtain ⟨M97, eM97⟩ : ∃ N9 : kM, N9 = kU N (13 + h) (v3_68 + t) (N (13 + h) t) := ⟨_, rfl⟩
                rw [← eM97] at hP
                obtain ⟨v4_98, ev4_98⟩ : ∃ v : Int, v = t + 1 := ⟨_, rfl⟩
                refine k_incN (v := v4_98) (lv' := [(4, .int (zI v4_98)), (0, .ref (E.2.2 11)), (1, .int (zI h)), (2, .int (zI r)), (3, .int (zI v3_68))]) hx hb dX3_again_98 hl (k := 4) rfl ev4_98 (by decide) rfl (fun ls hl => ?_)
                refine lv_goto (tgt := 72) hx hb dX3_again_101 (by decide) ?_
                refine ih_72 v4_98 M97 _ _ (by omega) ?_ ?_ ?_ (by omega) hP hS _ (lv_sub hl [1, 2, 3, 4, 0] rfl)
                · intro c k g
                  rw [eM97, kU_cell g]; exact g2 c k g
                · intro k g
                  rw [eM97, kU_place (by omega)]; exact g3 k (by omega)
                · intro k q1 q2
                  rw [eM97]
                  by_cases g : k = v3_68 + t
                  · rw [g, kU_same, kU_place (by omega), show v3_68 + t - M 15 h = t by omega]
                  · rw [kU_place g, kU_place (by omega)]; exact g4 k q1 (by omega)
          refine lp_72 (((r - 0 : Int)).toNat + 1) 0 M2 _ _ (by omega) (by intro c k _; rfl) (by intro k _; exact t2 (13 + h) k (by omega)) (by intro k q1 q2; exfalso; omega) (by omega) hP hS _ (lv_sub hl [2, 3, 4, 1, 0] rfl)
        · skip
          refine lv_aload_n hx hb dX3_again_56 rfl (lv_at hl 0 rfl) ?_
          refine k_push hx hb dX3_again_57 ?_
          refine k_callVW (As := [.int (zI 3)]) (rest := []) S hK hP hS (c_X3_no l E hE M2 3 ) (cwV 1 S.2.2.2.2 gX3_again_X3_no rfl rfl rfl (by decide +kernel) ⟨Nat.le_of_ble_eq_true rfl, Nat.le_of_ble_eq_true rfl⟩) (k_rY hK hP rfl) rfl hl.1 rfl (Nat.le_of_ble_eq_true rfl) dX3_again_58 ⟨Nat.le_of_ble_eq_true rfl, Nat.le_of_ble_eq_true rfl⟩ (fun z_58 M_58 H locs h_58 hP hS => ?_)
          refine ends _ _ (z_58) M_58 _ _ dX3_again_61 hP hS ?_
          exact ⟨Or.inr (Or.inr (Or.inl ⟨by omega, by omega, by omega, by omega, by omega, kFt_11 h_58.2, kFt_trans t2 (kFt_of h_58.2)⟩)), by have := h_58.1; omega⟩
    · skip
      refine lv_aload_n hx hb dX3_again_28 rfl (lv_at hl 0 rfl) ?_
      refine k_push hx hb dX3_again_29 ?_
      refine k_callVW (As := [.int (zI 2)]) (rest := []) S hK hP hS (c_X3_no l E hE M2 2 ) (cwV 1 S.2.2.2.2 gX3_again_X3_no rfl rfl rfl (by decide +kernel) ⟨Nat.le_of_ble_eq_true rfl, Nat.le_of_ble_eq_true rfl⟩) (k_rY hK hP rfl) rfl hl.1 rfl (Nat.le_of_ble_eq_true rfl) dX3_again_30 ⟨Nat.le_of_ble_eq_true rfl, Nat.le_of_ble_eq_true rfl⟩ (fun z_30 M_30 H locs h_30 hP hS => ?_)
      refine ends _ _ (z_30) M_30 _ _ dX3_again_33 hP hS ?_
      exact ⟨Or.inr (Or.inl ⟨by omega, by omega, by omega, kFt_11 h_30.2, kFt_trans t2 (kFt_of h_30.2)⟩), by have := h_30.1; omega⟩
  · skip
    refine lv_aload_n hx hb dX3_again_12 rfl (lv_at hl 0 rfl) ?_
    refine k_push hx hb dX3_again_13 ?_
    refine k_callVW (As := [.int (zI 1)]) (rest := []) S hK hP hS (c_X3_no l E hE M2 1 ) (cwV 1 S.2.2.2.2 gX3_again_X3_no rfl rfl rfl (by decide +kernel) ⟨Nat.le_of_ble_eq_true rfl, Nat.le_of_ble_eq_true rfl⟩) (k_rY hK hP rfl) rfl hl.1 rfl (Nat.le_of_ble_eq_true rfl) dX3_again_14 ⟨Nat.le_of_ble_eq_true rfl, Nat.le_of_ble_eq_true rfl⟩ (fun z_14 M_14 H locs h_14 hP hS => ?_)
    refine ends _ _ (z_14) M_14 _ _ dX3_again_17 hP hS ?_
    exact ⟨Or.inl ⟨by omega, kFt_11 h_14.2, kFt_trans t2 (kFt_of h_14.2)⟩, by have := h_14.1; omega⟩
abbrev rX3_unpick : Room := { frames := 2, cells := 0, slots := 0, locals := 42 }
set_option maxHeartbeats 4000000 in
set_option maxRecDepth 100000 in
theorem c_X3_unpick (l : Launch) (E : kE) (hE : kInj E) (M : kM) (h r : Int) (hW : kWm M) (h1 : -2147483648 ≤ h ∧ h ≤ 2147483647 ∧ -2147483648 ≤ r ∧ r ≤ 2147483647) : kRW l yX3_unpick wsX3_unpick rX3_unpick E M [.ref (E.2.2 11), .int (zI h), .int (zI r)] (fun z N => (((h < 0 ∨ 2 ≤ h) ∧ N 11 0 = 1 ∧ kFt M N) ∨ (0 ≤ h ∧ h < 2 ∧ (r < 1 ∨ M 15 h < r) ∧ N 11 0 = 2 ∧ kFt M N) ∨ (0 ≤ h ∧ h < 2 ∧ 1 ≤ r ∧ r ≤ M 15 h ∧ N 11 0 = 0 ∧ z = M 15 h - r ∧ kFt (kU M 15 h (M 15 h - r)) N)) ∧ 0 ≤ z ∧ z ≤ 40) := by
  refine kRW_of (cc := cX3_unpick) (maxL := 3) (rt := .int) RX3 (by decide) rfl rfl (Nat.le_of_ble_eq_true rfl) k_nariW ?_
  intro pg en s0 mi ar bl me co ls Q S hP hS hK ends hl
  have hx := S.1
  have hb := S.2.1
  have hinX30 : ∀ w ∈ wsX30, w ∈ wsX3_unpick := fun w h => List.mem_cons_of_mem _ (List.mem_append_right _ (h))
  have hl : lv_has ls 3 [(0, .ref (E.2.2 11)), (1, .int (zI h)), (2, .int (zI r))] := hl
  obtain ⟨hWh, hs0, hs1, hsv⟩ := id hW
  refine lv_aload_n hx hb dX3_unpick_0 rfl (lv_at hl 0 rfl) ?_
  refine k_push hx hb dX3_unpick_1 ?_
  refine k_putmod S hK hE hP hS hinX30 0 (by decide) (S.2.2.2.2 _ (List.mem_cons_of_mem _ (List.mem_append_left _ (List.mem_of_getElem? (i := 0) rfl)))) dX3_unpick_2 rfl (fun H locs hP hS => ?_)
  obtain ⟨M2, eM2⟩ : ∃ N9 : kM, N9 = kU M 11 0 0 := ⟨_, rfl⟩
  have hP : va_P E.1 vwCl (kW E M2) H := by rw [eM2]; exact hP
  have t2 := kFt_of eM2
  have t0 : M2 11 0 = 0 := kFt_11 eM2
  have hW2 : kWm M2 := kWm_t hW t2
  have t15 : M2 15 h = M 15 h := t2 15 h (by omega)
  refine lv_iload_n hx hb dX3_unpick_5 rfl (lv_at hl 1 rfl) ?_
  refine k_callS (As := [.int (zI h)]) (rest := []) S hK hP (c_X3_isHem l E M2 h (by omega)) (va_cwS 1 S.2.2.2.2 gX3_unpick_X3_isHem rfl rfl rfl (by decide +kernel) ⟨Nat.le_of_ble_eq_true rfl, Nat.le_of_ble_eq_true rfl⟩) rfl hl.1 rfl (Nat.le_of_ble_eq_true rfl) dX3_unpick_6 ⟨Nat.le_of_ble_eq_true rfl, Nat.le_of_ble_eq_true rfl⟩ (fun z_6 h_6 => ?_)
  refine k_ne0 (tgt := 18) hx hb dX3_unpick_9 (by decide) (by omega) (fun c_9 => ?_) (fun c_9 => ?_)
  · skip
    obtain ⟨hn0, hn1, hv⟩ := hWh h (by omega)
    refine lv_iload_n hx hb dX3_unpick_18 rfl (lv_at hl 2 rfl) ?_
    refine k_push hx hb dX3_unpick_19 ?_
    refine lv_aload_n hx hb dX3_unpick_20 rfl (lv_at hl 0 rfl) ?_
    refine k_mod S hK hP hinX30 2 (by decide) (S.2.2.2.2 _ (List.mem_cons_of_mem _ (List.mem_append_left _ (List.mem_of_getElem? (i := 1) rfl)))) dX3_unpick_21 rfl (.ref (E.2.2 15)) rfl rfl ?_
    refine lv_iload_n hx hb dX3_unpick_24 rfl (lv_at hl 1 rfl) ?_
    refine k_ald S hK hP 2 (by unfold kArr; omega) (by omega) dX3_unpick_25 ?_
    refine k_callS (As := [.int (zI r), .int (zI 1), .int (zI (M2 15 h))]) (rest := []) S hK hP (c_X3_isIn l E M2 r 1 (M2 15 h) (by omega)) (va_cwS 3 S.2.2.2.2 gX3_unpick_X3_isIn rfl rfl rfl (by decide +kernel) ⟨Nat.le_of_ble_eq_true rfl, Nat.le_of_ble_eq_true rfl⟩) rfl hl.1 rfl (Nat.le_of_ble_eq_true rfl) dX3_unpick_26 ⟨Nat.le_of_ble_eq_true rfl, Nat.le_of_ble_eq_true rfl⟩ (fun z_26 h_26 => ?_)
    refine k_ne0 (tgt := 38) hx hb dX3_unpick_29 (by decide) (by omega) (fun c_29 => ?_) (fun c_29 => ?_)
    · skip
      refine lv_aload_n hx hb dX3_unpick_38 rfl (lv_at hl 0 rfl) ?_
      refine k_mod S hK hP hinX30 2 (by decide) (S.2.2.2.2 _ (List.mem_cons_of_mem _ (List.mem_append_left _ (List.mem_of_getElem? (i := 1) rfl)))) dX3_unpick_39 rfl (.ref (E.2.2 15)) rfl rfl ?_
      refine lv_iload_n hx hb dX3_unpick_42 rfl (lv_at hl 1 rfl) ?_
      refine lv_dup2_11 hx hb dX3_unpick_43 rfl rfl ?_
      refine k_ald S hK hP 2 (by unfold kArr; omega) (by omega) dX3_unpick_44 ?_
      refine lv_iload_n hx hb dX3_unpick_45 rfl (lv_at hl 2 rfl) ?_
      refine k_sub hx hb dX3_unpick_46 ?_
      refine k_ast S hK hE hP hS 2 (by unfold kArr; omega) (by omega) dX3_unpick_47 (fun H locs hP hS => ?_)
      obtain ⟨M47, eM47⟩ : ∃ N9 : kM, N9 = kU M2 15 h ((M2 15 h) - r) := ⟨_, rfl⟩
      rw [← eM47] at hP
      have q2 : M47 15 h = M 15 h - r := by rw [eM47, kU_same, t15]
      refine lv_aload_n hx hb dX3_unpick_48 rfl (lv_at hl 0 rfl) ?_
      refine k_mod S hK hP hinX30 2 (by decide) (S.2.2.2.2 _ (List.mem_cons_of_mem _ (List.mem_append_left _ (List.mem_of_getElem? (i := 1) rfl)))) dX3_unpick_49 rfl (.ref (E.2.2 15)) rfl rfl ?_
      refine lv_iload_n hx hb dX3_unpick_52 rfl (lv_at hl 1 rfl) ?_
      refine k_ald S hK hP 2 (by unfold kArr; omega) (by omega) dX3_unpick_53 ?_
      refine ends _ _ (M47 15 h) M47 _ _ dX3_unpick_54 hP hS ?_
      refine ⟨Or.inr (Or.inr ⟨by omega, by omega, by omega, by omega, ?_, q2, fun c k g => ?_⟩), by omega, by omega⟩
      · rw [eM47, kU_cell (by omega)]; exact t0
      · rw [eM47, kU_at, t15, t2 c k g]; rfl
    · skip
      refine lv_aload_n hx hb dX3_unpick_32 rfl (lv_at hl 0 rfl) ?_
      refine k_push hx hb dX3_unpick_33 ?_
      refine k_callVW (As := [.int (zI 2)]) (rest := []) S hK hP hS (c_X3_no l E hE M2 2 ) (cwV 1 S.2.2.2.2 gX3_unpick_X3_no rfl rfl rfl (by decide +kernel) ⟨Nat.le_of_ble_eq_true rfl, Nat.le_of_ble_eq_true rfl⟩) (k_rY hK hP rfl) rfl hl.1 rfl (Nat.le_of_ble_eq_true rfl) dX3_unpick_34 ⟨Nat.le_of_ble_eq_true rfl, Nat.le_of_ble_eq_true rfl⟩ (fun z_34 M_34 H locs h_34 hP hS => ?_)
      refine ends _ _ (z_34) M_34 _ _ dX3_unpick_37 hP hS ?_
      exact ⟨Or.inr (Or.inl ⟨by omega, by omega, by omega, kFt_11 h_34.2, kFt_trans t2 (kFt_of h_34.2)⟩), by have := h_34.1; omega⟩
  · skip
    refine lv_aload_n hx hb dX3_unpick_12 rfl (lv_at hl 0 rfl) ?_
    refine k_push hx hb dX3_unpick_13 ?_
    refine k_callVW (As := [.int (zI 1)]) (rest := []) S hK hP hS (c_X3_no l E hE M2 1 ) (cwV 1 S.2.2.2.2 gX3_unpick_X3_no rfl rfl rfl (by decide +kernel) ⟨Nat.le_of_ble_eq_true rfl, Nat.le_of_ble_eq_true rfl⟩) (k_rY hK hP rfl) rfl hl.1 rfl (Nat.le_of_ble_eq_true rfl) dX3_unpick_14 ⟨Nat.le_of_ble_eq_true rfl, Nat.le_of_ble_eq_true rfl⟩ (fun z_14 M_14 H locs h_14 hP hS => ?_)
    refine ends _ _ (z_14) M_14 _ _ dX3_unpick_17 hP hS ?_
    exact ⟨Or.inl ⟨by omega, kFt_11 h_14.2, kFt_trans t2 (kFt_of h_14.2)⟩, by have := h_14.1; omega⟩
abbrev rX3_add : Room := { frames := 2, cells := 0, slots := 0, locals := 42 }
set_option maxHeartbeats 4000000 in
set_option maxRecDepth 100000 in
theorem c_X3_add (l : Launch) (E : kE) (hE : kInj E) (M : kM) (st : Int) (hW : kWm M) (h1 : -2147483648 ≤ st ∧ st ≤ 2147483647) : kRW l yX3_add wsX3_add rX3_add E M [.ref (E.2.2 11), .int (zI st)] (fun z N => (((st < 0 ∨ 8 < st) ∧ N 11 0 = 1 ∧ kFt M N) ∨ (0 ≤ st ∧ st ≤ 8 ∧ M 11 4 = 12 ∧ N 11 0 = 2 ∧ kFt M N) ∨ (0 ≤ st ∧ st ≤ 8 ∧ M 11 4 < 12 ∧ N 11 0 = 0 ∧ z = M 11 4 + 1 ∧ kFt (kU (kU M 16 (M 11 4) st) 11 4 (M 11 4 + 1)) N)) ∧ 0 ≤ z ∧ z ≤ 40) := by
  refine kRW_of (cc := cX3_add) (maxL := 2) (rt := .int) RX3 (by decide) rfl rfl (Nat.le_of_ble_eq_true rfl) k_nariW ?_
  intro pg en s0 mi ar bl me co ls Q S hP hS hK ends hl
  have hx := S.1
  have hb := S.2.1
  have hinX30 : ∀ w ∈ wsX30, w ∈ wsX3_add := fun w h => List.mem_cons_of_mem _ (List.mem_append_right _ (h))
  have hl : lv_has ls 2 [(0, .ref (E.2.2 11)), (1, .int (zI st))] := hl
  obtain ⟨hWh, hs0, hs1, hsv⟩ := id hW
  refine lv_aload_n hx hb dX3_add_0 rfl (lv_at hl 0 rfl) ?_
  refine k_push hx hb dX3_add_1 ?_
  refine k_putmod S hK hE hP hS hinX30 0 (by decide) (S.2.2.2.2 _ (List.mem_cons_of_mem _ (List.mem_append_left _ (List.mem_of_getElem? (i := 0) rfl)))) dX3_add_2 rfl (fun H locs hP hS => ?_)
  obtain ⟨M2, eM2⟩ : ∃ N9 : kM, N9 = kU M 11 0 0 := ⟨_, rfl⟩
  have hP : va_P E.1 vwCl (kW E M2) H := by rw [eM2]; exact hP
  have t2 := kFt_of eM2
  have t0 : M2 11 0 = 0 := kFt_11 eM2
  have hW2 : kWm M2 := kWm_t hW t2
  have t4 : M2 11 4 = M 11 4 := t2 11 4 (by omega)
  refine lv_iload_n hx hb dX3_add_5 rfl (lv_at hl 1 rfl) ?_
  refine k_callS (As := [.int (zI st)]) (rest := []) S hK hP (c_X3_isStitch l E M2 st (by omega)) (va_cwS 1 S.2.2.2.2 gX3_add_X3_isStitch rfl rfl rfl (by decide +kernel) ⟨Nat.le_of_ble_eq_true rfl, Nat.le_of_ble_eq_true rfl⟩) rfl hl.1 rfl (Nat.le_of_ble_eq_true rfl) dX3_add_6 ⟨Nat.le_of_ble_eq_true rfl, Nat.le_of_ble_eq_true rfl⟩ (fun z_6 h_6 => ?_)
  refine k_ne0 (tgt := 18) hx hb dX3_add_9 (by decide) (by omega) (fun c_9 => ?_) (fun c_9 => ?_)
  · skip
    refine lv_aload_n hx hb dX3_add_18 rfl (lv_at hl 0 rfl) ?_
    refine k_mod S hK hP hinX30 4 (by decide) (S.2.2.2.2 _ (List.mem_cons_of_mem _ (List.mem_append_left _ (List.mem_of_getElem? (i := 1) rfl)))) dX3_add_19 rfl (.int (zI (M2 11 4))) rfl rfl ?_
    refine k_bpush hx hb dX3_add_22 (by decide) ?_
    refine k_ne (tgt := 33) hx hb dX3_add_24 (by decide) (by omega) (fun c_24 => ?_) (fun c_24 => ?_)
    · skip
      refine lv_aload_n hx hb dX3_add_33 rfl (lv_at hl 0 rfl) ?_
      refine k_mod S hK hP hinX30 3 (by decide) (S.2.2.2.2 _ (List.mem_cons_of_mem _ (List.mem_append_left _ (List.mem_of_getElem? (i := 2) rfl)))) dX3_add_34 rfl (.ref (E.2.2 16)) rfl rfl ?_
      refine lv_aload_n hx hb dX3_add_37 rfl (lv_at hl 0 rfl) ?_
      refine k_mod S hK hP hinX30 4 (by decide) (S.2.2.2.2 _ (List.mem_cons_of_mem _ (List.mem_append_left _ (List.mem_of_getElem? (i := 1) rfl)))) dX3_add_38 rfl (.int (zI (M2 11 4))) rfl rfl ?_
      refine lv_iload_n hx hb dX3_add_41 rfl (lv_at hl 1 rfl) ?_
      refine k_ast S hK hE hP hS 12 (by unfold kArr; omega) (by omega) dX3_add_42 (fun H locs hP hS => ?_)
      obtain ⟨M42, eM42⟩ : ∃ N9 : kM, N9 = kU M2 16 (M2 11 4) st := ⟨_, rfl⟩
      rw [← eM42] at hP
      have q1 : M42 11 4 = M 11 4 := by rw [eM42, kU_cell (by omega)]; exact t4
      refine lv_aload_n hx hb dX3_add_43 rfl (lv_at hl 0 rfl) ?_
      refine lv_dup hx hb dX3_add_44 rfl ?_
      refine k_mod S hK hP hinX30 4 (by decide) (S.2.2.2.2 _ (List.mem_cons_of_mem _ (List.mem_append_left _ (List.mem_of_getElem? (i := 1) rfl)))) dX3_add_45 rfl (.int (zI (M42 11 4))) rfl rfl ?_
      refine k_push hx hb dX3_add_48 ?_
      refine k_add hx hb dX3_add_49 ?_
      refine k_putmod S hK hE hP hS hinX30 4 (by decide) (S.2.2.2.2 _ (List.mem_cons_of_mem _ (List.mem_append_left _ (List.mem_of_getElem? (i := 1) rfl)))) dX3_add_50 rfl (fun H locs hP hS => ?_)
      obtain ⟨M50, eM50⟩ : ∃ N9 : kM, N9 = kU M42 11 4 ((M42 11 4) + 1) := ⟨_, rfl⟩
      have hP : va_P E.1 vwCl (kW E M50) H := by rw [eM50]; exact hP
      have q2 : M50 11 4 = M 11 4 + 1 := by rw [eM50, kU_same, q1]
      refine lv_aload_n hx hb dX3_add_53 rfl (lv_at hl 0 rfl) ?_
      refine k_mod S hK hP hinX30 4 (by decide) (S.2.2.2.2 _ (List.mem_cons_of_mem _ (List.mem_append_left _ (List.mem_of_getElem? (i := 1) rfl)))) dX3_add_54 rfl (.int (zI (M50 11 4))) rfl rfl ?_
      refine ends _ _ (M50 11 4) M50 _ _ dX3_add_57 hP hS ?_
      refine ⟨Or.inr (Or.inr ⟨by omega, by omega, by omega, ?_, q2, fun c k g => ?_⟩), by omega, by omega⟩
      · rw [eM50, kU_at, if_neg (by omega), eM42, kU_cell (by omega)]; exact t0
      · rw [eM50, kU_at, q1, eM42, kU_at, t4, t2 c k g]; rfl
    · skip
      refine lv_aload_n hx hb dX3_add_27 rfl (lv_at hl 0 rfl) ?_
      refine k_push hx hb dX3_add_28 ?_
      refine k_callVW (As := [.int (zI 2)]) (rest := []) S hK hP hS (c_X3_no l E hE M2 2 ) (cwV 1 S.2.2.2.2 gX3_add_X3_no rfl rfl rfl (by decide +kernel) ⟨Nat.le_of_ble_eq_true rfl, Nat.le_of_ble_eq_true rfl⟩) (k_rY hK hP rfl) rfl hl.1 rfl (Nat.le_of_ble_eq_true rfl) dX3_add_29 ⟨Nat.le_of_ble_eq_true rfl, Nat.le_of_ble_eq_true rfl⟩ (fun z_29 M_29 H locs h_29 hP hS => ?_)
      refine ends _ _ (z_29) M_29 _ _ dX3_add_32 hP hS ?_
      exact ⟨Or.inr (Or.inl ⟨by omega, by omega, by omega, kFt_11 h_29.2, kFt_trans t2 (kFt_of h_29.2)⟩), by have := h_29.1; omega⟩
  · skip
    refine lv_aload_n hx hb dX3_add_12 rfl (lv_at hl 0 rfl) ?_
    refine k_push hx hb dX3_add_13 ?_
    refine k_callVW (As := [.int (zI 1)]) (rest := []) S hK hP hS (c_X3_no l E hE M2 1 ) (cwV 1 S.2.2.2.2 gX3_add_X3_no rfl rfl rfl (by decide +kernel) ⟨Nat.le_of_ble_eq_true rfl, Nat.le_of_ble_eq_true rfl⟩) (k_rY hK hP rfl) rfl hl.1 rfl (Nat.le_of_ble_eq_true rfl) dX3_add_14 ⟨Nat.le_of_ble_eq_true rfl, Nat.le_of_ble_eq_true rfl⟩ (fun z_14 M_14 H locs h_14 hP hS => ?_)
    refine ends _ _ (z_14) M_14 _ _ dX3_add_17 hP hS ?_
    exact ⟨Or.inl ⟨by omega, kFt_11 h_14.2, kFt_trans t2 (kFt_of h_14.2)⟩, by have := h_14.1; omega⟩
abbrev rX3_clear : Room := { frames := 0, cells := 0, slots := 0, locals := 0 }
set_option maxHeartbeats 4000000 in
set_option maxRecDepth 100000 in
theorem c_X3_clear (l : Launch) (E : kE) (hE : kInj E) (M : kM) (hW : kWm M) : kRW l yX3_clear wsX3_clear rX3_clear E M [.ref (E.2.2 11)] (fun z N => z = M 11 4 ∧ N 11 0 = 0 ∧ kFt (kU M 11 4 0) N ∧ 0 ≤ z ∧ z ≤ 40) := by
  refine kRW_of (cc := cX3_clear) (maxL := 2) (rt := .int) RX3 (by decide) rfl rfl (Nat.le_of_ble_eq_true rfl) k_nariW ?_
  intro pg en s0 mi ar bl me co ls Q S hP hS hK ends hl
  have hx := S.1
  have hb := S.2.1
  have hinX30 : ∀ w ∈ wsX30, w ∈ wsX3_clear := fun w h => List.mem_cons_of_mem _ (List.mem_append_right _ (h))
  have hl : lv_has ls 2 [(0, .ref (E.2.2 11))] := hl
  obtain ⟨hWh, hs0, hs1, hsv⟩ := id hW
  refine lv_aload_n hx hb dX3_clear_0 rfl (lv_at hl 0 rfl) ?_
  refine k_push hx hb dX3_clear_1 ?_
  refine k_putmod S hK hE hP hS hinX30 0 (by decide) (S.2.2.2.2 _ (List.mem_cons_of_mem _ (List.mem_append_left _ (List.mem_of_getElem? (i := 0) rfl)))) dX3_clear_2 rfl (fun H locs hP hS => ?_)
  obtain ⟨M2, eM2⟩ : ∃ N9 : kM, N9 = kU M 11 0 0 := ⟨_, rfl⟩
  have hP : va_P E.1 vwCl (kW E M2) H := by rw [eM2]; exact hP
  have t2 := kFt_of eM2
  have t0 : M2 11 0 = 0 := kFt_11 eM2
  have hW2 : kWm M2 := kWm_t hW t2
  have t4 : M2 11 4 = M 11 4 := t2 11 4 (by omega)
  refine lv_aload_n hx hb dX3_clear_5 rfl (lv_at hl 0 rfl) ?_
  refine k_mod S hK hP hinX30 4 (by decide) (S.2.2.2.2 _ (List.mem_cons_of_mem _ (List.mem_append_left _ (List.mem_of_getElem? (i := 1) rfl)))) dX3_clear_6 rfl (.int (zI (M2 11 4))) rfl rfl ?_
  refine k_nm (fun v1_9 ev1_9 => ?_)
  refine lv_istore_n (lv' := [(1, .int (zI v1_9)), (0, .ref (E.2.2 11))]) hx hb dX3_clear_9 rfl hl (by decide) rfl (fun ls hl => ?_)
  refine lv_aload_n hx hb dX3_clear_10 rfl (lv_at hl 1 rfl) ?_
  refine k_push hx hb dX3_clear_11 ?_
  refine k_putmod S hK hE hP hS hinX30 4 (by decide) (S.2.2.2.2 _ (List.mem_cons_of_mem _ (List.mem_append_left _ (List.mem_of_getElem? (i := 1) rfl)))) dX3_clear_12 rfl (fun H locs hP hS => ?_)
  obtain ⟨M12, eM12⟩ : ∃ N9 : kM, N9 = kU M2 11 4 0 := ⟨_, rfl⟩
  have hP : va_P E.1 vwCl (kW E M12) H := by rw [eM12]; exact hP
  refine lv_iload_n hx hb dX3_clear_15 rfl (lv_at hl 0 rfl) ?_
  refine ends _ _ (v1_9) M12 _ _ dX3_clear_16 hP hS ?_
  refine ⟨by omega, ?_, fun c k g => ?_, by omega, by omega⟩
  · rw [eM12, kU_at, if_neg (by omega)]; exact t0
  · rw [eM12, kU_at, t2 c k g]; rfl
abbrev rX3_stitch : Room := { frames := 3, cells := 0, slots := 0, locals := 64 }
set_option maxHeartbeats 4000000 in
set_option maxRecDepth 100000 in
theorem c_X3_stitch (l : Launch) (E : kE) (hE : kInj E) (M : kM) (h p : Int) (hW : kWm M) (h1 : -2147483648 ≤ h ∧ h ≤ 2147483647 ∧ -2147483648 ≤ p ∧ p ≤ 2147483647) : kRW l yX3_stitch wsX3_stitch rX3_stitch E M [.ref (E.2.2 11), .int (zI h), .int (zI p)] (fun z N => kFm M N ∧ ((0 ≤ h ∧ h < 2 ∧ 0 ≤ p ∧ p < M 15 h ∧ N 11 0 = 0 ∧ z = M (13 + h) p) ∨ ((h < 0 ∨ 2 ≤ h ∨ p < 0 ∨ M 15 h ≤ p) ∧ N 11 0 = 1)) ∧ -1 ≤ z ∧ z ≤ 3000) := by
  refine kRW_of (cc := cX3_stitch) (maxL := 3) (rt := .int) RX3 (by decide) rfl rfl (Nat.le_of_ble_eq_true rfl) k_nariW ?_
  intro pg en s0 mi ar bl me co ls Q S hP hS hK ends hl
  have hx := S.1
  have hb := S.2.1
  have hinX30 : ∀ w ∈ wsX30, w ∈ wsX3_stitch := fun w h => List.mem_cons_of_mem _ (List.mem_append_right _ (h))
  have hl : lv_has ls 3 [(0, .ref (E.2.2 11)), (1, .int (zI h)), (2, .int (zI p))] := hl
  obtain ⟨hWh, hs0, hs1, hsv⟩ := id hW
  refine lv_aload_n hx hb dX3_stitch_0 rfl (lv_at hl 0 rfl) ?_
  refine k_push hx hb dX3_stitch_1 ?_
  refine k_putmod S hK hE hP hS hinX30 0 (by decide) (S.2.2.2.2 _ (List.mem_cons_of_mem _ (List.mem_append_left _ (List.mem_of_getElem? (i := 0) rfl)))) dX3_stitch_2 rfl (fun H locs hP hS => ?_)
  obtain ⟨M2, eM2⟩ : ∃ N9 : kM, N9 = kU M 11 0 0 := ⟨_, rfl⟩
  have hP : va_P E.1 vwCl (kW E M2) H := by rw [eM2]; exact hP
  have t2 := kFt_of eM2
  have t0 : M2 11 0 = 0 := kFt_11 eM2
  have hW2 : kWm M2 := kWm_t hW t2
  have t15 : M2 15 h = M 15 h := t2 15 h (by omega)
  refine lv_aload_n hx hb dX3_stitch_5 rfl (lv_at hl 0 rfl) ?_
  refine lv_iload_n hx hb dX3_stitch_6 rfl (lv_at hl 1 rfl) ?_
  refine lv_iload_n hx hb dX3_stitch_7 rfl (lv_at hl 2 rfl) ?_
  refine k_callV (As := [.int (zI h), .int (zI p)]) (rest := []) S hK hP (c_X3_isPlace l E M2 h p (by assumption) (by omega)) (cwV 2 S.2.2.2.2 gX3_stitch_X3_isPlace rfl rfl rfl (by decide +kernel) ⟨Nat.le_of_ble_eq_true rfl, Nat.le_of_ble_eq_true rfl⟩) (k_rY hK hP rfl) rfl hl.1 rfl (Nat.le_of_ble_eq_true rfl) dX3_stitch_8 ⟨Nat.le_of_ble_eq_true rfl, Nat.le_of_ble_eq_true rfl⟩ (fun z_8 h_8 => ?_)
  refine k_eq0 (tgt := 25) hx hb dX3_stitch_11 (by decide) (by omega) (fun c_11 => ?_) (fun c_11 => ?_)
  · skip
    refine lv_aload_n hx hb dX3_stitch_25 rfl (lv_at hl 0 rfl) ?_
    refine k_push hx hb dX3_stitch_26 ?_
    refine k_callVW (As := [.int (zI 1)]) (rest := []) S hK hP hS (c_X3_no l E hE M2 1 ) (cwV 1 S.2.2.2.2 gX3_stitch_X3_no rfl rfl rfl (by decide +kernel) ⟨Nat.le_of_ble_eq_true rfl, Nat.le_of_ble_eq_true rfl⟩) (k_rY hK hP rfl) rfl hl.1 rfl (Nat.le_of_ble_eq_true rfl) dX3_stitch_27 ⟨Nat.le_of_ble_eq_true rfl, Nat.le_of_ble_eq_true rfl⟩ (fun z_27 M_27 H locs h_27 hP hS => ?_)
    refine ends _ _ (z_27) M_27 _ _ dX3_stitch_30 hP hS ?_
    first
      | exact ⟨kFt_m t2, Or.inl ⟨by omega, by omega, by omega, by omega, t0, q1⟩, by omega, by omega⟩
      | exact ⟨kFt_m (kFt_trans t2 (kFt_of h_27.2)), Or.inr ⟨by omega, kFt_11 h_27.2⟩, by have := h_27.1; omega, by have := h_27.1; omega⟩
  · skip
    obtain ⟨hn0, hn1, hv⟩ := hWh h (by omega)
    refine lv_aload_n hx hb dX3_stitch_14 rfl (lv_at hl 0 rfl) ?_
    refine k_mod S hK hP hinX30 1 (by decide) (S.2.2.2.2 _ (List.mem_cons_of_mem _ (List.mem_append_left _ (List.mem_of_getElem? (i := 1) rfl)))) dX3_stitch_15 rfl (.ref (E.2.2 12)) rfl rfl ?_
    refine lv_iload_n hx hb dX3_stitch_18 rfl (lv_at hl 1 rfl) ?_
    refine k_aald S hK hP (13 + h) 2 (by unfold kRow; omega) dX3_stitch_19 ?_
    refine lv_iload_n hx hb dX3_stitch_20 rfl (lv_at hl 2 rfl) ?_
    refine k_ald S hK hP 40 (by unfold kArr; omega) (by omega) dX3_stitch_21 ?_
    have q1 : M2 (13 + h) p = M (13 + h) p := t2 (13 + h) p (by omega)
    have q2 := hv p (by omega) (by omega)
    refine lv_goto (tgt := 30) hx hb dX3_stitch_22 (by decide) ?_
    refine ends _ _ (M2 (13 + h) p) M2 _ _ dX3_stitch_30 hP hS ?_
    first
      | exact ⟨kFt_m t2, Or.inl ⟨by omega, by omega, by omega, by omega, t0, q1⟩, by omega, by omega⟩
      | exact ⟨kFt_m (kFt_trans t2 (kFt_of h_27.2)), Or.inr ⟨by omega, kFt_11 h_27.2⟩, by have := h_27.1; omega, by have := h_27.1; omega⟩
abbrev rX3_counted : Room := { frames := 3, cells := 0, slots := 0, locals := 75 }
set_option maxHeartbeats 4000000 in
set_option maxRecDepth 100000 in
theorem c_X3_counted (l : Launch) (E : kE) (hE : kInj E) (M : kM) (w : Int) (hW : kWm M) (hw : 0 ≤ w ∧ w ≤ 5) : kRW l yX3_counted wsX3_counted rX3_counted E M [.ref (E.2.2 11), .int (zI w)] (fun z N => kFm M N ∧ N 11 0 = M 11 0 ∧ kIsCount (M 13) (M 15 0) (M 14) (M 15 1) (M 11 4) w z ∧ -1 ≤ z ∧ z ≤ 1600) := by
  refine kRW_of (cc := cX3_counted) (maxL := 2) (rt := .int) RX3 (by decide) rfl rfl (Nat.le_of_ble_eq_true rfl) k_nariW ?_
  intro pg en s0 mi ar bl me co ls Q S hP hS hK ends hl
  have hx := S.1
  have hb := S.2.1
  have hinX30 : ∀ w ∈ wsX30, w ∈ wsX3_counted := fun w h => List.mem_cons_of_mem _ (List.mem_append_right _ (h))
  have hl : lv_has ls 2 [(0, .ref (E.2.2 11)), (1, .int (zI w))] := hl
  obtain ⟨hWh, hs0, hs1, hsv⟩ := id hW
  obtain ⟨hn0, hn1, hv⟩ := hWh 0 (by omega)
  obtain ⟨hm0, hm1, hw1⟩ := hWh 1 (by omega)
  refine lv_iload_n hx hb dX3_counted_0 rfl (lv_at hl 1 rfl) ?_
  refine k_push hx hb dX3_counted_1 ?_
  refine k_ge (tgt := 14) hx hb dX3_counted_2 (by decide) (by omega) (fun c_2 => ?_) (fun c_2 => ?_)
  · skip
    refine lv_iload_n hx hb dX3_counted_14 rfl (lv_at hl 1 rfl) ?_
    refine k_push hx hb dX3_counted_15 ?_
    refine k_ne (tgt := 26) hx hb dX3_counted_16 (by decide) (by omega) (fun c_16 => ?_) (fun c_16 => ?_)
    · skip
      refine lv_iload_n hx hb dX3_counted_26 rfl (lv_at hl 1 rfl) ?_
      refine k_push hx hb dX3_counted_27 ?_
      refine k_ge (tgt := 41) hx hb dX3_counted_28 (by decide) (by omega) (fun c_28 => ?_) (fun c_28 => ?_)
      · skip
        refine lv_aload_n hx hb dX3_counted_41 rfl (lv_at hl 0 rfl) ?_
        refine k_push hx hb dX3_counted_42 ?_
        refine k_callVW (As := [.int (zI 0)]) (rest := []) S hK hP hS (c_X3_seamTold l E hE M 0 (by assumption) (by omega)) (cwV 1 S.2.2.2.2 gX3_counted_X3_seamTold rfl rfl rfl (by decide +kernel) ⟨Nat.le_of_ble_eq_true rfl, Nat.le_of_ble_eq_true rfl⟩) (k_rY hK hP rfl) rfl hl.1 rfl (Nat.le_of_ble_eq_true rfl) dX3_counted_43 ⟨Nat.le_of_ble_eq_true rfl, Nat.le_of_ble_eq_true rfl⟩ (fun z_43 M_43 H locs h_43 hP hS => ?_)
        refine ends _ _ (z_43) M_43 _ _ dX3_counted_46 hP hS ?_
        have hc : w = 0 ∨ w = 1 ∨ w = 2 ∨ w = 3 ∨ w = 4 ∨ w = 5 := by omega
        first
          | exact ⟨h_43.1 |> fun q => kFm_F q (by omega), h_43.1 11 0 (by omega), Or.inr (Or.inr (Or.inr (Or.inr (Or.inr ⟨by omega, h_43.2.1⟩)))), by omega, by omega⟩
          | (obtain ⟨q1, q2, q3⟩ := h_35
             refine ⟨kFm_F q1 (by omega), q1 11 0 (by omega), ?_, by omega, by omega⟩
             by_cases q : w = 3
             · subst q; exact Or.inr (Or.inr (Or.inr (Or.inl ⟨rfl, q2⟩)))
             · have q4 : w = 4 := by omega
               subst q4; exact Or.inr (Or.inr (Or.inr (Or.inr (Or.inl ⟨rfl, q2⟩)))))
          | exact ⟨fun c k _ _ => rfl, rfl, Or.inr (Or.inr (Or.inl ⟨by omega, rfl⟩)), by omega, by omega⟩
          | (refine ⟨fun c k _ _ => rfl, rfl, ?_, ?_⟩ <;> (rcases (show w = 0 ∨ w = 1 by omega) with q | q <;> subst q) <;> first | exact Or.inl ⟨rfl, rfl⟩ | exact Or.inr (Or.inl ⟨rfl, rfl⟩) | omega)
      · skip
        refine lv_aload_n hx hb dX3_counted_31 rfl (lv_at hl 0 rfl) ?_
        refine lv_iload_n hx hb dX3_counted_32 rfl (lv_at hl 1 rfl) ?_
        refine k_push hx hb dX3_counted_33 ?_
        refine k_sub hx hb dX3_counted_34 ?_
        refine k_callVW (As := [.int (zI (w - 3))]) (rest := []) S hK hP hS (c_X3_differentRows l E hE M (w - 3) (by omega) (by assumption)) (cwV 1 S.2.2.2.2 gX3_counted_X3_differentRows rfl rfl rfl (by decide +kernel) ⟨Nat.le_of_ble_eq_true rfl, Nat.le_of_ble_eq_true rfl⟩) (k_rY hK hP rfl) rfl hl.1 rfl (Nat.le_of_ble_eq_true rfl) dX3_counted_35 ⟨Nat.le_of_ble_eq_true rfl, Nat.le_of_ble_eq_true rfl⟩ (fun z_35 M_35 H locs h_35 hP hS => ?_)
        refine lv_goto (tgt := 46) hx hb dX3_counted_38 (by decide) ?_
        refine ends _ _ (z_35) M_35 _ _ dX3_counted_46 hP hS ?_
        have hc : w = 0 ∨ w = 1 ∨ w = 2 ∨ w = 3 ∨ w = 4 ∨ w = 5 := by omega
        first
          | exact ⟨h_43.1 |> fun q => kFm_F q (by omega), h_43.1 11 0 (by omega), Or.inr (Or.inr (Or.inr (Or.inr (Or.inr ⟨by omega, h_43.2.1⟩)))), by omega, by omega⟩
          | (obtain ⟨q1, q2, q3⟩ := h_35
             refine ⟨kFm_F q1 (by omega), q1 11 0 (by omega), ?_, by omega, by omega⟩
             by_cases q : w = 3
             · subst q; exact Or.inr (Or.inr (Or.inr (Or.inl ⟨rfl, q2⟩)))
             · have q4 : w = 4 := by omega
               subst q4; exact Or.inr (Or.inr (Or.inr (Or.inr (Or.inl ⟨rfl, q2⟩)))))
          | exact ⟨fun c k _ _ => rfl, rfl, Or.inr (Or.inr (Or.inl ⟨by omega, rfl⟩)), by omega, by omega⟩
          | (refine ⟨fun c k _ _ => rfl, rfl, ?_, ?_⟩ <;> (rcases (show w = 0 ∨ w = 1 by omega) with q | q <;> subst q) <;> first | exact Or.inl ⟨rfl, rfl⟩ | exact Or.inr (Or.inl ⟨rfl, rfl⟩) | omega)
    · skip
      refine lv_aload_n hx hb dX3_counted_19 rfl (lv_at hl 0 rfl) ?_
      refine k_mod S hK hP hinX30 4 (by decide) (S.2.2.2.2 _ (List.mem_cons_of_mem _ (List.mem_append_left _ (List.mem_append_left _ (List.mem_of_getElem? (i := 1) rfl))))) dX3_counted_20 rfl (.int (zI (M 11 4))) rfl rfl ?_
      refine lv_goto (tgt := 46) hx hb dX3_counted_23 (by decide) ?_
      refine ends _ _ (M 11 4) M _ _ dX3_counted_46 hP hS ?_
      have hc : w = 0 ∨ w = 1 ∨ w = 2 ∨ w = 3 ∨ w = 4 ∨ w = 5 := by omega
      first
        | exact ⟨h_43.1 |> fun q => kFm_F q (by omega), h_43.1 11 0 (by omega), Or.inr (Or.inr (Or.inr (Or.inr (Or.inr ⟨by omega, h_43.2.1⟩)))), by omega, by omega⟩
        | (obtain ⟨q1, q2, q3⟩ := h_35
           refine ⟨kFm_F q1 (by omega), q1 11 0 (by omega), ?_, by omega, by omega⟩
           by_cases q : w = 3
           · subst q; exact Or.inr (Or.inr (Or.inr (Or.inl ⟨rfl, q2⟩)))
           · have q4 : w = 4 := by omega
             subst q4; exact Or.inr (Or.inr (Or.inr (Or.inr (Or.inl ⟨rfl, q2⟩)))))
        | exact ⟨fun c k _ _ => rfl, rfl, Or.inr (Or.inr (Or.inl ⟨by omega, rfl⟩)), by omega, by omega⟩
        | (refine ⟨fun c k _ _ => rfl, rfl, ?_, ?_⟩ <;> (rcases (show w = 0 ∨ w = 1 by omega) with q | q <;> subst q) <;> first | exact Or.inl ⟨rfl, rfl⟩ | exact Or.inr (Or.inl ⟨rfl, rfl⟩) | omega)
  · skip
    refine lv_aload_n hx hb dX3_counted_5 rfl (lv_at hl 0 rfl) ?_
    refine k_mod S hK hP hinX30 2 (by decide) (S.2.2.2.2 _ (List.mem_cons_of_mem _ (List.mem_append_left _ (List.mem_append_left _ (List.mem_of_getElem? (i := 0) rfl))))) dX3_counted_6 rfl (.ref (E.2.2 15)) rfl rfl ?_
    refine lv_iload_n hx hb dX3_counted_9 rfl (lv_at hl 1 rfl) ?_
    refine k_ald S hK hP 2 (by unfold kArr; omega) (by omega) dX3_counted_10 ?_
    refine lv_goto (tgt := 46) hx hb dX3_counted_11 (by decide) ?_
    refine ends _ _ (M 15 w) M _ _ dX3_counted_46 hP hS ?_
    have hc : w = 0 ∨ w = 1 ∨ w = 2 ∨ w = 3 ∨ w = 4 ∨ w = 5 := by omega
    first
      | exact ⟨h_43.1 |> fun q => kFm_F q (by omega), h_43.1 11 0 (by omega), Or.inr (Or.inr (Or.inr (Or.inr (Or.inr ⟨by omega, h_43.2.1⟩)))), by omega, by omega⟩
      | (obtain ⟨q1, q2, q3⟩ := h_35
         refine ⟨kFm_F q1 (by omega), q1 11 0 (by omega), ?_, by omega, by omega⟩
         by_cases q : w = 3
         · subst q; exact Or.inr (Or.inr (Or.inr (Or.inl ⟨rfl, q2⟩)))
         · have q4 : w = 4 := by omega
           subst q4; exact Or.inr (Or.inr (Or.inr (Or.inr (Or.inl ⟨rfl, q2⟩)))))
      | exact ⟨fun c k _ _ => rfl, rfl, Or.inr (Or.inr (Or.inl ⟨by omega, rfl⟩)), by omega, by omega⟩
      | (refine ⟨fun c k _ _ => rfl, rfl, ?_, ?_⟩ <;> (rcases (show w = 0 ∨ w = 1 by omega) with q | q <;> subst q) <;> first | exact Or.inl ⟨rfl, rfl⟩ | exact Or.inr (Or.inl ⟨rfl, rfl⟩) | omega)
abbrev rX3_count : Room := { frames := 4, cells := 0, slots := 0, locals := 96 }
set_option maxHeartbeats 4000000 in
set_option maxRecDepth 100000 in
theorem c_X3_count (l : Launch) (E : kE) (hE : kInj E) (M : kM) (w : Int) (hW : kWm M) (h1 : -2147483648 ≤ w ∧ w ≤ 2147483647) : kRW l yX3_count wsX3_count rX3_count E M [.ref (E.2.2 11), .int (zI w)] (fun z N => kFm M N ∧ ((0 ≤ w ∧ w ≤ 5 ∧ N 11 0 = 0 ∧ kIsCount (M 13) (M 15 0) (M 14) (M 15 1) (M 11 4) w z) ∨ ((w < 0 ∨ 5 < w) ∧ N 11 0 = 1)) ∧ -1 ≤ z ∧ z ≤ 3000) := by
  refine kRW_of (cc := cX3_count) (maxL := 2) (rt := .int) RX3 (by decide) rfl rfl (Nat.le_of_ble_eq_true rfl) k_nariW ?_
  intro pg en s0 mi ar bl me co ls Q S hP hS hK ends hl
  have hx := S.1
  have hb := S.2.1
  have hinX30 : ∀ w ∈ wsX30, w ∈ wsX3_count := fun w h => List.mem_cons_of_mem _ (List.mem_append_right _ (h))
  have hl : lv_has ls 2 [(0, .ref (E.2.2 11)), (1, .int (zI w))] := hl
  obtain ⟨hWh, hs0, hs1, hsv⟩ := id hW
  refine lv_aload_n hx hb dX3_count_0 rfl (lv_at hl 0 rfl) ?_
  refine k_push hx hb dX3_count_1 ?_
  refine k_putmod S hK hE hP hS hinX30 0 (by decide) (S.2.2.2.2 _ (List.mem_cons_of_mem _ (List.mem_append_left _ (List.mem_append_left _ (List.mem_of_getElem? (i := 0) rfl))))) dX3_count_2 rfl (fun H locs hP hS => ?_)
  obtain ⟨M2, eM2⟩ : ∃ N9 : kM, N9 = kU M 11 0 0 := ⟨_, rfl⟩
  have hP : va_P E.1 vwCl (kW E M2) H := by rw [eM2]; exact hP
  have t2 := kFt_of eM2
  have t0 : M2 11 0 = 0 := kFt_11 eM2
  have hW2 : kWm M2 := kWm_t hW t2
  refine lv_iload_n hx hb dX3_count_5 rfl (lv_at hl 1 rfl) ?_
  refine k_push hx hb dX3_count_6 ?_
  refine k_push hx hb dX3_count_7 ?_
  refine k_callS (As := [.int (zI w), .int (zI 0), .int (zI 5)]) (rest := []) S hK hP (c_X3_isIn l E M2 w 0 5 (by omega)) (va_cwS 3 S.2.2.2.2 gX3_count_X3_isIn rfl rfl rfl (by decide +kernel) ⟨Nat.le_of_ble_eq_true rfl, Nat.le_of_ble_eq_true rfl⟩) rfl hl.1 rfl (Nat.le_of_ble_eq_true rfl) dX3_count_8 ⟨Nat.le_of_ble_eq_true rfl, Nat.le_of_ble_eq_true rfl⟩ (fun z_8 h_8 => ?_)
  refine k_eq0 (tgt := 22) hx hb dX3_count_11 (by decide) (by omega) (fun c_11 => ?_) (fun c_11 => ?_)
  · skip
    refine lv_aload_n hx hb dX3_count_22 rfl (lv_at hl 0 rfl) ?_
    refine k_push hx hb dX3_count_23 ?_
    refine k_callVW (As := [.int (zI 1)]) (rest := []) S hK hP hS (c_X3_no l E hE M2 1 ) (cwV 1 S.2.2.2.2 gX3_count_X3_no rfl rfl rfl (by decide +kernel) ⟨Nat.le_of_ble_eq_true rfl, Nat.le_of_ble_eq_true rfl⟩) (k_rY hK hP rfl) rfl hl.1 rfl (Nat.le_of_ble_eq_true rfl) dX3_count_24 ⟨Nat.le_of_ble_eq_true rfl, Nat.le_of_ble_eq_true rfl⟩ (fun z_24 M_24 H locs h_24 hP hS => ?_)
    refine ends _ _ (z_24) M_24 _ _ dX3_count_27 hP hS ?_
    first
      | exact ⟨kFm_trans (kFt_m t2) q1, Or.inl ⟨by omega, by omega, by rw [q2]; exact t0, q3⟩, by omega, by omega⟩
      | exact ⟨kFt_m (kFt_trans t2 (kFt_of h_24.2)), Or.inr ⟨by omega, kFt_11 h_24.2⟩, by have := h_24.1; omega, by have := h_24.1; omega⟩
  · skip
    refine lv_aload_n hx hb dX3_count_14 rfl (lv_at hl 0 rfl) ?_
    refine lv_iload_n hx hb dX3_count_15 rfl (lv_at hl 1 rfl) ?_
    refine k_callVW (As := [.int (zI w)]) (rest := []) S hK hP hS (c_X3_counted l E hE M2 w (by assumption) (by omega)) (cwV 1 S.2.2.2.2 gX3_count_X3_counted rfl rfl rfl (by decide +kernel) ⟨Nat.le_of_ble_eq_true rfl, Nat.le_of_ble_eq_true rfl⟩) (k_rY hK hP rfl) rfl hl.1 rfl (Nat.le_of_ble_eq_true rfl) dX3_count_16 ⟨Nat.le_of_ble_eq_true rfl, Nat.le_of_ble_eq_true rfl⟩ (fun z_16 M_16 H locs h_16 hP hS => ?_)
    obtain ⟨q1, q2, q3, q4⟩ := h_16
    rw [kFm_row (kFt_m t2) (c := 13) (by omega), kFm_row (kFt_m t2) (c := 14) (by omega), t2 15 0 (by omega), t2 15 1 (by omega), t2 11 4 (by omega)] at q3
    refine lv_goto (tgt := 27) hx hb dX3_count_19 (by decide) ?_
    refine ends _ _ (z_16) M_16 _ _ dX3_count_27 hP hS ?_
    first
      | exact ⟨kFm_trans (kFt_m t2) q1, Or.inl ⟨by omega, by omega, by rw [q2]; exact t0, q3⟩, by omega, by omega⟩
      | exact ⟨kFt_m (kFt_trans t2 (kFt_of h_24.2)), Or.inr ⟨by omega, kFt_11 h_24.2⟩, by have := h_24.1; omega, by have := h_24.1; omega⟩
abbrev rX3_end : Room := { frames := 4, cells := 0, slots := 0, locals := 96 }
set_option maxHeartbeats 4000000 in
set_option maxRecDepth 100000 in
theorem c_X3_end (l : Launch) (E : kE) (hE : kInj E) (M : kM) (h p : Int) (hW : kWm M) (h1 : -2147483648 ≤ h ∧ h ≤ 2147483647 ∧ -2147483648 ≤ p ∧ p ≤ 2147483647) : kRW l yX3_end wsX3_end rX3_end E M [.ref (E.2.2 11), .int (zI h), .int (zI p)] (fun z N => kFm M N ∧ ((0 ≤ h ∧ h < 2 ∧ 0 ≤ p ∧ p < M 15 h ∧ N 11 0 = 0 ∧ kIsEnd (M (13 + h)) (M 15 h) p z) ∨ ((h < 0 ∨ 2 ≤ h ∨ p < 0 ∨ M 15 h ≤ p) ∧ N 11 0 = 1)) ∧ -1 ≤ z ∧ z ≤ 3000) := by
  refine kRW_of (cc := cX3_end) (maxL := 3) (rt := .int) RX3 (by decide) rfl rfl (Nat.le_of_ble_eq_true rfl) k_nariW ?_
  intro pg en s0 mi ar bl me co ls Q S hP hS hK ends hl
  have hx := S.1
  have hb := S.2.1
  have hinX30 : ∀ w ∈ wsX30, w ∈ wsX3_end := fun w h => List.mem_cons_of_mem _ (List.mem_append_right _ (h))
  have hl : lv_has ls 3 [(0, .ref (E.2.2 11)), (1, .int (zI h)), (2, .int (zI p))] := hl
  obtain ⟨hWh, hs0, hs1, hsv⟩ := id hW
  refine lv_aload_n hx hb dX3_end_0 rfl (lv_at hl 0 rfl) ?_
  refine k_push hx hb dX3_end_1 ?_
  refine k_putmod S hK hE hP hS hinX30 0 (by decide) (S.2.2.2.2 _ (List.mem_cons_of_mem _ (List.mem_append_left _ (List.mem_append_left _ (List.mem_of_getElem? (i := 0) rfl))))) dX3_end_2 rfl (fun H locs hP hS => ?_)
  obtain ⟨M2, eM2⟩ : ∃ N9 : kM, N9 = kU M 11 0 0 := ⟨_, rfl⟩
  have hP : va_P E.1 vwCl (kW E M2) H := by rw [eM2]; exact hP
  have t2 := kFt_of eM2
  have t0 : M2 11 0 = 0 := kFt_11 eM2
  have hW2 : kWm M2 := kWm_t hW t2
  have t15 : M2 15 h = M 15 h := t2 15 h (by omega)
  refine lv_aload_n hx hb dX3_end_5 rfl (lv_at hl 0 rfl) ?_
  refine lv_iload_n hx hb dX3_end_6 rfl (lv_at hl 1 rfl) ?_
  refine lv_iload_n hx hb dX3_end_7 rfl (lv_at hl 2 rfl) ?_
  refine k_callV (As := [.int (zI h), .int (zI p)]) (rest := []) S hK hP (c_X3_isPlace l E M2 h p (by assumption) (by omega)) (cwV 2 S.2.2.2.2 gX3_end_X3_isPlace rfl rfl rfl (by decide +kernel) ⟨Nat.le_of_ble_eq_true rfl, Nat.le_of_ble_eq_true rfl⟩) (k_rY hK hP rfl) rfl hl.1 rfl (Nat.le_of_ble_eq_true rfl) dX3_end_8 ⟨Nat.le_of_ble_eq_true rfl, Nat.le_of_ble_eq_true rfl⟩ (fun z_8 h_8 => ?_)
  refine k_ne0 (tgt := 20) hx hb dX3_end_11 (by decide) (by omega) (fun c_11 => ?_) (fun c_11 => ?_)
  · skip
    obtain ⟨hn0, hn1, hv⟩ := hWh h (by omega)
    refine lv_aload_n hx hb dX3_end_20 rfl (lv_at hl 0 rfl) ?_
    refine lv_iload_n hx hb dX3_end_21 rfl (lv_at hl 1 rfl) ?_
    refine k_callVV (As := [.int (zI h)]) (rest := []) S hK hP hS (c_X3_order l E hE M2 h (by omega) (by assumption)) (cwV 1 S.2.2.2.2 gX3_end_X3_order rfl rfl rfl (by decide +kernel) ⟨Nat.le_of_ble_eq_true rfl, Nat.le_of_ble_eq_true rfl⟩) (k_rY hK hP rfl) rfl hl.1 rfl (Nat.le_of_ble_eq_true rfl) dX3_end_22 ⟨Nat.le_of_ble_eq_true rfl, Nat.le_of_ble_eq_true rfl⟩ (fun M_22 H locs h_22 hP hS => ?_)
    obtain ⟨q1, q2, q3⟩ := h_22
    rw [kFm_row (kFt_m t2) (c := 13 + h) (by omega), t15] at q3
    refine lv_aload_n hx hb dX3_end_25 rfl (lv_at hl 0 rfl) ?_
    refine k_mod S hK hP hinX30 6 (by decide) (S.2.2.2.2 _ (List.mem_cons_of_mem _ (List.mem_append_left _ (List.mem_append_left _ (List.mem_of_getElem? (i := 1) rfl))))) dX3_end_26 rfl (.ref (E.2.2 59)) rfl rfl ?_
    refine lv_iload_n hx hb dX3_end_29 rfl (lv_at hl 2 rfl) ?_
    refine k_ald S hK hP 40 (by unfold kArr; omega) (by omega) dX3_end_30 ?_
    have q4 := q3.1 p (by omega) (by omega)
    have q5 := kOrd_at q3 (r := p) (by omega)
    refine ends _ _ (M_22 59 p) M_22 _ _ dX3_end_31 hP hS ?_
    exact ⟨kFm_trans (kFt_m t2) (kFm_F q1 (by omega)), Or.inl ⟨by omega, by omega, by omega, by omega, by rw [q1 11 0 (by omega)]; exact t0, by omega, by omega, q5⟩, by omega, by omega⟩
  · skip
    refine lv_aload_n hx hb dX3_end_14 rfl (lv_at hl 0 rfl) ?_
    refine k_push hx hb dX3_end_15 ?_
    refine k_callVW (As := [.int (zI 1)]) (rest := []) S hK hP hS (c_X3_no l E hE M2 1 ) (cwV 1 S.2.2.2.2 gX3_end_X3_no rfl rfl rfl (by decide +kernel) ⟨Nat.le_of_ble_eq_true rfl, Nat.le_of_ble_eq_true rfl⟩) (k_rY hK hP rfl) rfl hl.1 rfl (Nat.le_of_ble_eq_true rfl) dX3_end_16 ⟨Nat.le_of_ble_eq_true rfl, Nat.le_of_ble_eq_true rfl⟩ (fun z_16 M_16 H locs h_16 hP hS => ?_)
    refine ends _ _ (z_16) M_16 _ _ dX3_end_19 hP hS ?_
    first
      | exact ⟨kFt_m (kFt_trans t2 (kFt_of h_16.2)), Or.inr ⟨by omega, kFt_11 h_16.2⟩, by have := h_16.1; omega, by have := h_16.1; omega⟩
abbrev rX3_rank : Room := { frames := 3, cells := 0, slots := 0, locals := 74 }
set_option maxHeartbeats 4000000 in
set_option maxRecDepth 100000 in
theorem c_X3_rank (l : Launch) (E : kE) (hE : kInj E) (M : kM) (h p : Int) (hW : kWm M) (h1 : -2147483648 ≤ h ∧ h ≤ 2147483647 ∧ -2147483648 ≤ p ∧ p ≤ 2147483647) : kRW l yX3_rank wsX3_rank rX3_rank E M [.ref (E.2.2 11), .int (zI h), .int (zI p)] (fun z N => kFm M N ∧ ((0 ≤ h ∧ h < 2 ∧ 0 ≤ p ∧ p < M 15 h ∧ N 11 0 = 0 ∧ z = kRk (M (13 + h)) (M 15 h) p) ∨ ((h < 0 ∨ 2 ≤ h ∨ p < 0 ∨ M 15 h ≤ p) ∧ N 11 0 = 1)) ∧ -1 ≤ z ∧ z ≤ 3000) := by
  refine kRW_of (cc := cX3_rank) (maxL := 3) (rt := .int) RX3 (by decide) rfl rfl (Nat.le_of_ble_eq_true rfl) k_nariW ?_
  intro pg en s0 mi ar bl me co ls Q S hP hS hK ends hl
  have hx := S.1
  have hb := S.2.1
  have hinX30 : ∀ w ∈ wsX30, w ∈ wsX3_rank := fun w h => List.mem_cons_of_mem _ (List.mem_append_right _ (h))
  have hl : lv_has ls 3 [(0, .ref (E.2.2 11)), (1, .int (zI h)), (2, .int (zI p))] := hl
  obtain ⟨hWh, hs0, hs1, hsv⟩ := id hW
  refine lv_aload_n hx hb dX3_rank_0 rfl (lv_at hl 0 rfl) ?_
  refine k_push hx hb dX3_rank_1 ?_
  refine k_putmod S hK hE hP hS hinX30 0 (by decide) (S.2.2.2.2 _ (List.mem_cons_of_mem _ (List.mem_append_left _ (List.mem_append_left _ (List.mem_of_getElem? (i := 0) rfl))))) dX3_rank_2 rfl (fun H locs hP hS => ?_)
  obtain ⟨M2, eM2⟩ : ∃ N9 : kM, N9 = kU M 11 0 0 := ⟨_, rfl⟩
  have hP : va_P E.1 vwCl (kW E M2) H := by rw [eM2]; exact hP
  have t2 := kFt_of eM2
  have t0 : M2 11 0 = 0 := kFt_11 eM2
  have hW2 : kWm M2 := kWm_t hW t2
  have t15 : M2 15 h = M 15 h := t2 15 h (by omega)
  refine lv_aload_n hx hb dX3_rank_5 rfl (lv_at hl 0 rfl) ?_
  refine lv_iload_n hx hb dX3_rank_6 rfl (lv_at hl 1 rfl) ?_
  refine lv_iload_n hx hb dX3_rank_7 rfl (lv_at hl 2 rfl) ?_
  refine k_callV (As := [.int (zI h), .int (zI p)]) (rest := []) S hK hP (c_X3_isPlace l E M2 h p (by assumption) (by omega)) (cwV 2 S.2.2.2.2 gX3_rank_X3_isPlace rfl rfl rfl (by decide +kernel) ⟨Nat.le_of_ble_eq_true rfl, Nat.le_of_ble_eq_true rfl⟩) (k_rY hK hP rfl) rfl hl.1 rfl (Nat.le_of_ble_eq_true rfl) dX3_rank_8 ⟨Nat.le_of_ble_eq_true rfl, Nat.le_of_ble_eq_true rfl⟩ (fun z_8 h_8 => ?_)
  refine k_ne0 (tgt := 20) hx hb dX3_rank_11 (by decide) (by omega) (fun c_11 => ?_) (fun c_11 => ?_)
  · skip
    obtain ⟨hn0, hn1, hv⟩ := hWh h (by omega)
    refine lv_aload_n hx hb dX3_rank_20 rfl (lv_at hl 0 rfl) ?_
    refine lv_iload_n hx hb dX3_rank_21 rfl (lv_at hl 1 rfl) ?_
    refine k_callVV (As := [.int (zI h)]) (rest := []) S hK hP hS (c_X3_look l E hE M2 h (by omega) (by assumption)) (cwV 1 S.2.2.2.2 gX3_rank_X3_look rfl rfl rfl (by decide +kernel) ⟨Nat.le_of_ble_eq_true rfl, Nat.le_of_ble_eq_true rfl⟩) (k_rY hK hP rfl) rfl hl.1 rfl (Nat.le_of_ble_eq_true rfl) dX3_rank_22 ⟨Nat.le_of_ble_eq_true rfl, Nat.le_of_ble_eq_true rfl⟩ (fun M_22 H locs h_22 hP hS => ?_)
    obtain ⟨q1, hSm⟩ := h_22
    have hW3 : kWm M_22 := kWm_F hW2 q1 (by omega)
    have e1 : M_22 15 h = M 15 h := by rw [q1 15 h (by omega)]; exact t15
    have e2 : M_22 (13 + h) = M (13 + h) := by rw [kF_row q1 (by omega)]; exact kFm_row (kFt_m t2) (by omega)
    refine lv_aload_n hx hb dX3_rank_25 rfl (lv_at hl 0 rfl) ?_
    refine lv_iload_n hx hb dX3_rank_26 rfl (lv_at hl 1 rfl) ?_
    refine lv_iload_n hx hb dX3_rank_27 rfl (lv_at hl 2 rfl) ?_
    refine k_callV (As := [.int (zI h), .int (zI p)]) (rest := []) S hK hP (c_X3_rankOf l E M_22 h p (by omega) (by assumption) (by assumption) (by omega)) (cwV 2 S.2.2.2.2 gX3_rank_X3_rankOf rfl rfl rfl (by decide +kernel) ⟨Nat.le_of_ble_eq_true rfl, Nat.le_of_ble_eq_true rfl⟩) (k_rY hK hP rfl) rfl hl.1 rfl (Nat.le_of_ble_eq_true rfl) dX3_rank_28 ⟨Nat.le_of_ble_eq_true rfl, Nat.le_of_ble_eq_true rfl⟩ (fun z_28 h_28 => ?_)
    rw [e1, e2] at h_28
    refine ends _ _ (z_28) M_22 _ _ dX3_rank_31 hP hS ?_
    exact ⟨kFm_trans (kFt_m t2) (kFm_F q1 (by omega)), Or.inl ⟨by omega, by omega, by omega, by omega, by rw [q1 11 0 (by omega)]; exact t0, h_28.1⟩, by omega, by omega⟩
  · skip
    refine lv_aload_n hx hb dX3_rank_14 rfl (lv_at hl 0 rfl) ?_
    refine k_push hx hb dX3_rank_15 ?_
    refine k_callVW (As := [.int (zI 1)]) (rest := []) S hK hP hS (c_X3_no l E hE M2 1 ) (cwV 1 S.2.2.2.2 gX3_rank_X3_no rfl rfl rfl (by decide +kernel) ⟨Nat.le_of_ble_eq_true rfl, Nat.le_of_ble_eq_true rfl⟩) (k_rY hK hP rfl) rfl hl.1 rfl (Nat.le_of_ble_eq_true rfl) dX3_rank_16 ⟨Nat.le_of_ble_eq_true rfl, Nat.le_of_ble_eq_true rfl⟩ (fun z_16 M_16 H locs h_16 hP hS => ?_)
    refine ends _ _ (z_16) M_16 _ _ dX3_rank_19 hP hS ?_
    first
      | exact ⟨kFt_m (kFt_trans t2 (kFt_of h_16.2)), Or.inr ⟨by omega, kFt_11 h_16.2⟩, by have := h_16.1; omega, by have := h_16.1; omega⟩
abbrev rX3_common : Room := { frames := 3, cells := 0, slots := 0, locals := 64 }
set_option maxHeartbeats 4000000 in
set_option maxRecDepth 100000 in
theorem c_X3_common (l : Launch) (E : kE) (hE : kInj E) (M : kM) (h a b : Int) (hW : kWm M) (h1 : -2147483648 ≤ h ∧ h ≤ 2147483647 ∧ -2147483648 ≤ a ∧ a ≤ 2147483647 ∧ -2147483648 ≤ b ∧ b ≤ 2147483647) : kRW l yX3_common wsX3_common rX3_common E M [.ref (E.2.2 11), .int (zI h), .int (zI a), .int (zI b)] (fun z N => kFm M N ∧ ((0 ≤ h ∧ h < 2 ∧ 0 ≤ a ∧ a < M 15 h ∧ 0 ≤ b ∧ b < M 15 h ∧ N 11 0 = 0 ∧ z = kL (M (13 + h)) (M 15 h) a (M (13 + h)) (M 15 h) b) ∨ ((h < 0 ∨ 2 ≤ h ∨ a < 0 ∨ M 15 h ≤ a ∨ b < 0 ∨ M 15 h ≤ b) ∧ N 11 0 = 1)) ∧ -1 ≤ z ∧ z ≤ 3000) := by
  refine kRW_of (cc := cX3_common) (maxL := 4) (rt := .int) RX3 (by decide) rfl rfl (Nat.le_of_ble_eq_true rfl) k_nariW ?_
  intro pg en s0 mi ar bl me co ls Q S hP hS hK ends hl
  have hx := S.1
  have hb := S.2.1
  have hinX30 : ∀ w ∈ wsX30, w ∈ wsX3_common := fun w h => List.mem_cons_of_mem _ (List.mem_append_right _ (h))
  have hl : lv_has ls 4 [(0, .ref (E.2.2 11)), (1, .int (zI h)), (2, .int (zI a)), (3, .int (zI b))] := hl
  obtain ⟨hWh, hs0, hs1, hsv⟩ := id hW
  refine lv_aload_n hx hb dX3_common_0 rfl (lv_at hl 0 rfl) ?_
  refine k_push hx hb dX3_common_1 ?_
  refine k_putmod S hK hE hP hS hinX30 0 (by decide) (S.2.2.2.2 _ (List.mem_cons_of_mem _ (List.mem_append_left _ (List.mem_append_left _ (List.mem_of_getElem? (i := 0) rfl))))) dX3_common_2 rfl (fun H locs hP hS => ?_)
  obtain ⟨M2, eM2⟩ : ∃ N9 : kM, N9 = kU M 11 0 0 := ⟨_, rfl⟩
  have hP : va_P E.1 vwCl (kW E M2) H := by rw [eM2]; exact hP
  have t2 := kFt_of eM2
  have t0 : M2 11 0 = 0 := kFt_11 eM2
  have hW2 : kWm M2 := kWm_t hW t2
  have t15 : M2 15 h = M 15 h := t2 15 h (by omega)
  refine lv_aload_n hx hb dX3_common_5 rfl (lv_at hl 0 rfl) ?_
  refine lv_iload_n hx hb dX3_common_6 rfl (lv_at hl 1 rfl) ?_
  refine lv_iload_n hx hb dX3_common_7 rfl (lv_at hl 2 rfl) ?_
  refine k_callV (As := [.int (zI h), .int (zI a)]) (rest := []) S hK hP (c_X3_isPlace l E M2 h a (by assumption) (by omega)) (cwV 2 S.2.2.2.2 gX3_common_X3_isPlace rfl rfl rfl (by decide +kernel) ⟨Nat.le_of_ble_eq_true rfl, Nat.le_of_ble_eq_true rfl⟩) (k_rY hK hP rfl) rfl hl.1 rfl (Nat.le_of_ble_eq_true rfl) dX3_common_8 ⟨Nat.le_of_ble_eq_true rfl, Nat.le_of_ble_eq_true rfl⟩ (fun z_8 h_8 => ?_)
  refine k_eq0 (tgt := 23) hx hb dX3_common_11 (by decide) (by omega) (fun c_11 => ?_) (fun c_11 => ?_)
  · skip
    refine lv_aload_n hx hb dX3_common_23 rfl (lv_at hl 0 rfl) ?_
    refine k_push hx hb dX3_common_24 ?_
    refine k_callVW (As := [.int (zI 1)]) (rest := []) S hK hP hS (c_X3_no l E hE M2 1 ) (cwV 1 S.2.2.2.2 gX3_common_X3_no rfl rfl rfl (by decide +kernel) ⟨Nat.le_of_ble_eq_true rfl, Nat.le_of_ble_eq_true rfl⟩) (k_rY hK hP rfl) rfl hl.1 rfl (Nat.le_of_ble_eq_true rfl) dX3_common_25 ⟨Nat.le_of_ble_eq_true rfl, Nat.le_of_ble_eq_true rfl⟩ (fun z_25 M_25 H locs h_25 hP hS => ?_)
    refine ends _ _ (z_25) M_25 _ _ dX3_common_28 hP hS ?_
    first
      | exact ⟨kFt_m (kFt_trans t2 (kFt_of h_25.2)), Or.inr ⟨by omega, kFt_11 h_25.2⟩, by have := h_25.1; omega, by have := h_25.1; omega⟩
  · skip
    refine lv_aload_n hx hb dX3_common_14 rfl (lv_at hl 0 rfl) ?_
    refine lv_iload_n hx hb dX3_common_15 rfl (lv_at hl 1 rfl) ?_
    refine lv_iload_n hx hb dX3_common_16 rfl (lv_at hl 3 rfl) ?_
    refine k_callV (As := [.int (zI h), .int (zI b)]) (rest := []) S hK hP (c_X3_isPlace l E M2 h b (by assumption) (by omega)) (cwV 2 S.2.2.2.2 gX3_common_X3_isPlace rfl rfl rfl (by decide +kernel) ⟨Nat.le_of_ble_eq_true rfl, Nat.le_of_ble_eq_true rfl⟩) (k_rY hK hP rfl) rfl hl.1 rfl (Nat.le_of_ble_eq_true rfl) dX3_common_17 ⟨Nat.le_of_ble_eq_true rfl, Nat.le_of_ble_eq_true rfl⟩ (fun z_17 h_17 => ?_)
    refine k_ne0 (tgt := 29) hx hb dX3_common_20 (by decide) (by omega) (fun c_20 => ?_) (fun c_20 => ?_)
    · skip
      obtain ⟨hn0, hn1, hv⟩ := hWh h (by omega)
      refine lv_aload_n hx hb dX3_common_29 rfl (lv_at hl 0 rfl) ?_
      refine lv_iload_n hx hb dX3_common_30 rfl (lv_at hl 1 rfl) ?_
      refine k_callVV (As := [.int (zI h)]) (rest := []) S hK hP hS (c_X3_look l E hE M2 h (by omega) (by assumption)) (cwV 1 S.2.2.2.2 gX3_common_X3_look rfl rfl rfl (by decide +kernel) ⟨Nat.le_of_ble_eq_true rfl, Nat.le_of_ble_eq_true rfl⟩) (k_rY hK hP rfl) rfl hl.1 rfl (Nat.le_of_ble_eq_true rfl) dX3_common_31 ⟨Nat.le_of_ble_eq_true rfl, Nat.le_of_ble_eq_true rfl⟩ (fun M_31 H locs h_31 hP hS => ?_)
      obtain ⟨q1, hSm⟩ := h_31
      have e1 : M_31 15 h = M 15 h := by rw [q1 15 h (by omega)]; exact t15
      have e2 : M_31 (13 + h) = M (13 + h) := by rw [kF_row q1 (by omega)]; exact kFm_row (kFt_m t2) (by omega)
      have q2 := hSm a b (by omega) (by omega) (by omega) (by omega)
      rw [e1, e2] at q2
      have q3 := kL_rng (x := M (13 + h)) (y := M (13 + h)) (nx := M 15 h) (ny := M 15 h) (a := a) (b := b) (by omega) (by omega)
      refine lv_aload_n hx hb dX3_common_34 rfl (lv_at hl 0 rfl) ?_
      refine k_mod S hK hP hinX30 5 (by decide) (S.2.2.2.2 _ (List.mem_cons_of_mem _ (List.mem_append_left _ (List.mem_append_left _ (List.mem_of_getElem? (i := 1) rfl))))) dX3_common_35 rfl (.ref (E.2.2 17)) rfl rfl ?_
      refine lv_iload_n hx hb dX3_common_38 rfl (lv_at hl 2 rfl) ?_
      refine k_aald S hK hP (18 + a) 41 (by unfold kRow; omega) dX3_common_39 ?_
      refine lv_iload_n hx hb dX3_common_40 rfl (lv_at hl 3 rfl) ?_
      refine k_ald S hK hP 41 (by unfold kArr; omega) (by omega) dX3_common_41 ?_
      refine ends _ _ (M_31 (18 + a) b) M_31 _ _ dX3_common_42 hP hS ?_
      exact ⟨kFm_trans (kFt_m t2) (kFm_F q1 (by omega)), Or.inl ⟨by omega, by omega, by omega, by omega, by omega, by omega, by rw [q1 11 0 (by omega)]; exact t0, q2⟩, by omega, by omega⟩
    · skip
      refine lv_aload_n hx hb dX3_common_23 rfl (lv_at hl 0 rfl) ?_
      refine k_push hx hb dX3_common_24 ?_
      refine k_callVW (As := [.int (zI 1)]) (rest := []) S hK hP hS (c_X3_no l E hE M2 1 ) (cwV 1 S.2.2.2.2 gX3_common_X3_no rfl rfl rfl (by decide +kernel) ⟨Nat.le_of_ble_eq_true rfl, Nat.le_of_ble_eq_true rfl⟩) (k_rY hK hP rfl) rfl hl.1 rfl (Nat.le_of_ble_eq_true rfl) dX3_common_25 ⟨Nat.le_of_ble_eq_true rfl, Nat.le_of_ble_eq_true rfl⟩ (fun z_25 M_25 H locs h_25 hP hS => ?_)
      refine ends _ _ (z_25) M_25 _ _ dX3_common_28 hP hS ?_
      first
        | exact ⟨kFt_m (kFt_trans t2 (kFt_of h_25.2)), Or.inr ⟨by omega, kFt_11 h_25.2⟩, by have := h_25.1; omega, by have := h_25.1; omega⟩
abbrev rX3_against : Room := { frames := 3, cells := 0, slots := 0, locals := 64 }
set_option maxHeartbeats 4000000 in
set_option maxRecDepth 100000 in
theorem c_X3_against (l : Launch) (E : kE) (hE : kInj E) (M : kM) (a b : Int) (hW : kWm M) (h1 : -2147483648 ≤ a ∧ a ≤ 2147483647 ∧ -2147483648 ≤ b ∧ b ≤ 2147483647) : kRW l yX3_against wsX3_against rX3_against E M [.ref (E.2.2 11), .int (zI a), .int (zI b)] (fun z N => kFm M N ∧ ((0 ≤ a ∧ a < M 15 0 ∧ 0 ≤ b ∧ b < M 15 1 ∧ N 11 0 = 0 ∧ kD (M 13) (M 15 0) a (M 14) (M 15 1) b z) ∨ ((a < 0 ∨ M 15 0 ≤ a ∨ b < 0 ∨ M 15 1 ≤ b) ∧ N 11 0 = 1)) ∧ -100 ≤ z ∧ z ≤ 3000) := by
  refine kRW_of (cc := cX3_against) (maxL := 3) (rt := .int) RX3 (by decide) rfl rfl (Nat.le_of_ble_eq_true rfl) k_nariW ?_
  intro pg en s0 mi ar bl me co ls Q S hP hS hK ends hl
  have hx := S.1
  have hb := S.2.1
  have hinX30 : ∀ w ∈ wsX30, w ∈ wsX3_against := fun w h => List.mem_cons_of_mem _ (List.mem_append_right _ (h))
  have hl : lv_has ls 3 [(0, .ref (E.2.2 11)), (1, .int (zI a)), (2, .int (zI b))] := hl
  obtain ⟨hWh, hs0, hs1, hsv⟩ := id hW
  obtain ⟨hn0, hn1, hv⟩ := hWh 0 (by omega)
  obtain ⟨hm0, hm1, hw1⟩ := hWh 1 (by omega)
  refine lv_aload_n hx hb dX3_against_0 rfl (lv_at hl 0 rfl) ?_
  refine k_push hx hb dX3_against_1 ?_
  refine k_putmod S hK hE hP hS hinX30 0 (by decide) (S.2.2.2.2 _ (List.mem_cons_of_mem _ (List.mem_append_left _ (List.mem_append_left _ (List.mem_of_getElem? (i := 0) rfl))))) dX3_against_2 rfl (fun H locs hP hS => ?_)
  obtain ⟨M2, eM2⟩ : ∃ N9 : kM, N9 = kU M 11 0 0 := ⟨_, rfl⟩
  have hP : va_P E.1 vwCl (kW E M2) H := by rw [eM2]; exact hP
  have t2 := kFt_of eM2
  have t0 : M2 11 0 = 0 := kFt_11 eM2
  have hW2 : kWm M2 := kWm_t hW t2
  have t15 : M2 15 0 = M 15 0 := t2 15 0 (by omega)
  have t16 : M2 15 1 = M 15 1 := t2 15 1 (by omega)
  refine lv_aload_n hx hb dX3_against_5 rfl (lv_at hl 0 rfl) ?_
  refine k_push hx hb dX3_against_6 ?_
  refine lv_iload_n hx hb dX3_against_7 rfl (lv_at hl 1 rfl) ?_
  refine k_callV (As := [.int (zI 0), .int (zI a)]) (rest := []) S hK hP (c_X3_isPlace l E M2 0 a (by assumption) (by omega)) (cwV 2 S.2.2.2.2 gX3_against_X3_isPlace rfl rfl rfl (by decide +kernel) ⟨Nat.le_of_ble_eq_true rfl, Nat.le_of_ble_eq_true rfl⟩) (k_rY hK hP rfl) rfl hl.1 rfl (Nat.le_of_ble_eq_true rfl) dX3_against_8 ⟨Nat.le_of_ble_eq_true rfl, Nat.le_of_ble_eq_true rfl⟩ (fun z_8 h_8 => ?_)
  refine k_eq0 (tgt := 23) hx hb dX3_against_11 (by decide) (by omega) (fun c_11 => ?_) (fun c_11 => ?_)
  · skip
    refine lv_aload_n hx hb dX3_against_23 rfl (lv_at hl 0 rfl) ?_
    refine k_push hx hb dX3_against_24 ?_
    refine k_callVW (As := [.int (zI 1)]) (rest := []) S hK hP hS (c_X3_no l E hE M2 1 ) (cwV 1 S.2.2.2.2 gX3_against_X3_no rfl rfl rfl (by decide +kernel) ⟨Nat.le_of_ble_eq_true rfl, Nat.le_of_ble_eq_true rfl⟩) (k_rY hK hP rfl) rfl hl.1 rfl (Nat.le_of_ble_eq_true rfl) dX3_against_25 ⟨Nat.le_of_ble_eq_true rfl, Nat.le_of_ble_eq_true rfl⟩ (fun z_25 M_25 H locs h_25 hP hS => ?_)
    refine ends _ _ (z_25) M_25 _ _ dX3_against_28 hP hS ?_
    first
      | exact ⟨kFt_m (kFt_trans t2 (kFt_of h_25.2)), Or.inr ⟨by omega, kFt_11 h_25.2⟩, by have := h_25.1; omega, by have := h_25.1; omega⟩
  · skip
    refine lv_aload_n hx hb dX3_against_14 rfl (lv_at hl 0 rfl) ?_
    refine k_push hx hb dX3_against_15 ?_
    refine lv_iload_n hx hb dX3_against_16 rfl (lv_at hl 2 rfl) ?_
    refine k_callV (As := [.int (zI 1), .int (zI b)]) (rest := []) S hK hP (c_X3_isPlace l E M2 1 b (by assumption) (by omega)) (cwV 2 S.2.2.2.2 gX3_against_X3_isPlace rfl rfl rfl (by decide +kernel) ⟨Nat.le_of_ble_eq_true rfl, Nat.le_of_ble_eq_true rfl⟩) (k_rY hK hP rfl) rfl hl.1 rfl (Nat.le_of_ble_eq_true rfl) dX3_against_17 ⟨Nat.le_of_ble_eq_true rfl, Nat.le_of_ble_eq_true rfl⟩ (fun z_17 h_17 => ?_)
    refine k_ne0 (tgt := 29) hx hb dX3_against_20 (by decide) (by omega) (fun c_20 => ?_) (fun c_20 => ?_)
    · skip
      refine lv_aload_n hx hb dX3_against_29 rfl (lv_at hl 0 rfl) ?_
      refine k_callVV (As := []) (rest := []) S hK hP hS (c_X3_lookAtBoth l E hE M2  (by assumption)) (cwV 0 S.2.2.2.2 gX3_against_X3_lookAtBoth rfl rfl rfl (by decide +kernel) ⟨Nat.le_of_ble_eq_true rfl, Nat.le_of_ble_eq_true rfl⟩) (k_rY hK hP rfl) rfl hl.1 rfl (Nat.le_of_ble_eq_true rfl) dX3_against_30 ⟨Nat.le_of_ble_eq_true rfl, Nat.le_of_ble_eq_true rfl⟩ (fun M_30 H locs h_30 hP hS => ?_)
      obtain ⟨q1, hBo⟩ := h_30
      have e1 : M_30 15 0 = M 15 0 := by rw [q1 15 0 (by omega)]; exact t15
      have e2 : M_30 15 1 = M 15 1 := by rw [q1 15 1 (by omega)]; exact t16
      have e3 : M_30 13 = M 13 := by rw [kF_row q1 (by omega)]; exact kFm_row (kFt_m t2) (by omega)
      have e4 : M_30 14 = M 14 := by rw [kF_row q1 (by omega)]; exact kFm_row (kFt_m t2) (by omega)
      have q2 := hBo a b (by omega) (by omega) (by omega) (by omega)
      rw [e1, e2, e3, e4] at q2
      have q3 := kL_spec (x := M 13) (y := M 14) (nx := M 15 0) (ny := M 15 1) (a := a) (b := b) (by omega) (by omega)
      have q4 := kL_rng (x := M 13) (y := M 14) (nx := M 15 0) (ny := M 15 1) (a := a) (b := b) (by omega) (by omega)
      rw [← q2] at q3 q4
      have e5 : M_30 (13 + 0) = M 13 := e3
      have e6 : M_30 (13 + 1) = M 14 := e4
      refine lv_aload_n hx hb dX3_against_33 rfl (lv_at hl 0 rfl) ?_
      refine k_mod S hK hP hinX30 1 (by decide) (S.2.2.2.2 _ (List.mem_cons_of_mem _ (List.mem_append_left _ (List.mem_append_left _ (List.mem_of_getElem? (i := 1) rfl))))) dX3_against_34 rfl (.ref (E.2.2 12)) rfl rfl ?_
      refine k_push hx hb dX3_against_37 ?_
      refine k_aald S hK hP (13 + 0) 2 (by unfold kRow; omega) dX3_against_38 ?_
      refine lv_aload_n hx hb dX3_against_39 rfl (lv_at hl 0 rfl) ?_
      refine k_mod S hK hP hinX30 2 (by decide) (S.2.2.2.2 _ (List.mem_cons_of_mem _ (List.mem_append_left _ (List.mem_append_left _ (List.mem_of_getElem? (i := 2) rfl))))) dX3_against_40 rfl (.ref (E.2.2 15)) rfl rfl ?_
      refine k_push hx hb dX3_against_43 ?_
      refine k_ald S hK hP 2 (by unfold kArr; omega) (by omega) dX3_against_44 ?_
      refine lv_iload_n hx hb dX3_against_45 rfl (lv_at hl 1 rfl) ?_
      refine lv_aload_n hx hb dX3_against_46 rfl (lv_at hl 0 rfl) ?_
      refine k_mod S hK hP hinX30 1 (by decide) (S.2.2.2.2 _ (List.mem_cons_of_mem _ (List.mem_append_left _ (List.mem_append_left _ (List.mem_of_getElem? (i := 1) rfl))))) dX3_against_47 rfl (.ref (E.2.2 12)) rfl rfl ?_
      refine k_push hx hb dX3_against_50 ?_
      refine k_aald S hK hP (13 + 1) 2 (by unfold kRow; omega) dX3_against_51 ?_
      refine lv_aload_n hx hb dX3_against_52 rfl (lv_at hl 0 rfl) ?_
      refine k_mod S hK hP hinX30 2 (by decide) (S.2.2.2.2 _ (List.mem_cons_of_mem _ (List.mem_append_left _ (List.mem_append_left _ (List.mem_of_getElem? (i := 2) rfl))))) dX3_against_53 rfl (.ref (E.2.2 15)) rfl rfl ?_
      refine k_push hx hb dX3_against_56 ?_
      refine k_ald S hK hP 2 (by unfold kArr; omega) (by omega) dX3_against_57 ?_
      refine lv_iload_n hx hb dX3_against_58 rfl (lv_at hl 2 rfl) ?_
      refine lv_aload_n hx hb dX3_against_59 rfl (lv_at hl 0 rfl) ?_
      refine k_mod S hK hP hinX30 7 (by decide) (S.2.2.2.2 _ (List.mem_cons_of_mem _ (List.mem_append_left _ (List.mem_append_left _ (List.mem_of_getElem? (i := 3) rfl))))) dX3_against_60 rfl (.ref (E.2.2 60)) rfl rfl ?_
      refine lv_iload_n hx hb dX3_against_63 rfl (lv_at hl 1 rfl) ?_
      refine k_aald S hK hP (61 + a) 41 (by unfold kRow; omega) dX3_against_64 ?_
      refine lv_iload_n hx hb dX3_against_65 rfl (lv_at hl 2 rfl) ?_
      refine k_ald S hK hP 41 (by unfold kArr; omega) (by omega) dX3_against_66 ?_
      refine k_callS (As := [.ref (E.2.2 (13 + 0)), .int (zI (M_30 15 0)), .int (zI a), .ref (E.2.2 (13 + 1)), .int (zI (M_30 15 1)), .int (zI b), .int (zI (M_30 (61 + a) b))]) (rest := []) S hK hP (c_X3_by l E M_30 (13 + 0) (M_30 15 0) a (13 + 1) (M_30 15 1) b (M_30 (61 + a) b) (by omega) (by omega) (by rw [e5, e1]; exact hv) (by rw [e6, e2]; exact hw1) (by rw [e5, e6, e1, e2]; exact q3)) (va_cwS 7 S.2.2.2.2 gX3_against_X3_by rfl rfl rfl (by decide +kernel) ⟨Nat.le_of_ble_eq_true rfl, Nat.le_of_ble_eq_true rfl⟩) rfl hl.1 rfl (Nat.le_of_ble_eq_true rfl) dX3_against_67 ⟨Nat.le_of_ble_eq_true rfl, Nat.le_of_ble_eq_true rfl⟩ (fun z_67 h_67 => ?_)
      rw [e5, e6, e1, e2] at h_67
      refine lv_aload_n hx hb dX3_against_70 rfl (lv_at hl 0 rfl) ?_
      refine k_mod S hK hP hinX30 7 (by decide) (S.2.2.2.2 _ (List.mem_cons_of_mem _ (List.mem_append_left _ (List.mem_append_left _ (List.mem_of_getElem? (i := 3) rfl))))) dX3_against_71 rfl (.ref (E.2.2 60)) rfl rfl ?_
      refine lv_iload_n hx hb dX3_against_74 rfl (lv_at hl 1 rfl) ?_
      refine k_aald S hK hP (61 + a) 41 (by unfold kRow; omega) dX3_against_75 ?_
      refine lv_iload_n hx hb dX3_against_76 rfl (lv_at hl 2 rfl) ?_
      refine k_ald S hK hP 41 (by unfold kArr; omega) (by omega) dX3_against_77 ?_
      refine k_push hx hb dX3_against_78 ?_
      refine k_add hx hb dX3_against_79 ?_
      refine k_mul hx hb dX3_against_80 ?_
      refine ends _ _ (z_67 * ((M_30 (61 + a) b) + 1)) M_30 _ _ dX3_against_81 hP hS ?_
      have q5 : z_67 * (M_30 (61 + a) b + 1) = 0 ∨ z_67 * (M_30 (61 + a) b + 1) = -(M_30 (61 + a) b + 1) ∨ z_67 * (M_30 (61 + a) b + 1) = M_30 (61 + a) b + 1 := by
        rcases h_67 with ⟨_, _, q⟩ | ⟨_, q⟩ | ⟨_, q⟩ <;> rw [q] <;> omega
      refine ⟨kFm_trans (kFt_m t2) (kFm_F q1 (by omega)), Or.inl ⟨by omega, by omega, by omega, by omega, by rw [q1 11 0 (by omega)]; exact t0, ⟨_, q3, ?_⟩⟩, by omega, by omega⟩
      rcases h_67 with ⟨p1, p2, q⟩ | ⟨p1, q⟩ | ⟨p1, q⟩
      · exact Or.inl ⟨p1, p2, by rw [q]; omega⟩
      · exact Or.inr (Or.inl ⟨p1, by rw [q]; omega⟩)
      · exact Or.inr (Or.inr ⟨p1, by rw [q]; omega⟩)
    · skip
      refine lv_aload_n hx hb dX3_against_23 rfl (lv_at hl 0 rfl) ?_
      refine k_push hx hb dX3_against_24 ?_
      refine k_callVW (As := [.int (zI 1)]) (rest := []) S hK hP hS (c_X3_no l E hE M2 1 ) (cwV 1 S.2.2.2.2 gX3_against_X3_no rfl rfl rfl (by decide +kernel) ⟨Nat.le_of_ble_eq_true rfl, Nat.le_of_ble_eq_true rfl⟩) (k_rY hK hP rfl) rfl hl.1 rfl (Nat.le_of_ble_eq_true rfl) dX3_against_25 ⟨Nat.le_of_ble_eq_true rfl, Nat.le_of_ble_eq_true rfl⟩ (fun z_25 M_25 H locs h_25 hP hS => ?_)
      refine ends _ _ (z_25) M_25 _ _ dX3_against_28 hP hS ?_
      first
        | exact ⟨kFt_m (kFt_trans t2 (kFt_of h_25.2)), Or.inr ⟨by omega, kFt_11 h_25.2⟩, by have := h_25.1; omega, by have := h_25.1; omega⟩
abbrev rX3_repeat : Room := { frames := 3, cells := 0, slots := 0, locals := 76 }
set_option maxHeartbeats 4000000 in
set_option maxRecDepth 100000 in
theorem c_X3_repeat (l : Launch) (E : kE) (hE : kInj E) (M : kM) (h w : Int) (hW : kWm M) (h1 : -2147483648 ≤ h ∧ h ≤ 2147483647 ∧ -2147483648 ≤ w ∧ w ≤ 2147483647) : kRW l yX3_repeat wsX3_repeat rX3_repeat E M [.ref (E.2.2 11), .int (zI h), .int (zI w)] (fun z N => kFm M N ∧ ((0 ≤ h ∧ h < 2 ∧ 0 ≤ w ∧ w ≤ 2 ∧ N 11 0 = 0 ∧ kIsRep (M (13 + h)) (M 15 h) w z) ∨ ((h < 0 ∨ 2 ≤ h ∨ w < 0 ∨ 2 < w) ∧ N 11 0 = 1)) ∧ -1 ≤ z ∧ z ≤ 3000) := by
  refine kRW_of (cc := cX3_repeat) (maxL := 3) (rt := .int) RX3 (by decide) rfl rfl (Nat.le_of_ble_eq_true rfl) k_nariW ?_
  intro pg en s0 mi ar bl me co ls Q S hP hS hK ends hl
  have hx := S.1
  have hb := S.2.1
  have hinX30 : ∀ w ∈ wsX30, w ∈ wsX3_repeat := fun w h => List.mem_cons_of_mem _ (List.mem_append_right _ (h))
  have hl : lv_has ls 3 [(0, .ref (E.2.2 11)), (1, .int (zI h)), (2, .int (zI w))] := hl
  obtain ⟨hWh, hs0, hs1, hsv⟩ := id hW
  refine lv_aload_n hx hb dX3_repeat_0 rfl (lv_at hl 0 rfl) ?_
  refine k_push hx hb dX3_repeat_1 ?_
  refine k_putmod S hK hE hP hS hinX30 0 (by decide) (S.2.2.2.2 _ (List.mem_cons_of_mem _ (List.mem_append_left _ (List.mem_append_left _ (List.mem_of_getElem? (i := 0) rfl))))) dX3_repeat_2 rfl (fun H locs hP hS => ?_)
  obtain ⟨M2, eM2⟩ : ∃ N9 : kM, N9 = kU M 11 0 0 := ⟨_, rfl⟩
  have hP : va_P E.1 vwCl (kW E M2) H := by rw [eM2]; exact hP
  have t2 := kFt_of eM2
  have t0 : M2 11 0 = 0 := kFt_11 eM2
  have hW2 : kWm M2 := kWm_t hW t2
  have t15 : M2 15 h = M 15 h := t2 15 h (by omega)
  refine lv_iload_n hx hb dX3_repeat_5 rfl (lv_at hl 1 rfl) ?_
  refine k_callS (As := [.int (zI h)]) (rest := []) S hK hP (c_X3_isHem l E M2 h (by omega)) (va_cwS 1 S.2.2.2.2 gX3_repeat_X3_isHem rfl rfl rfl (by decide +kernel) ⟨Nat.le_of_ble_eq_true rfl, Nat.le_of_ble_eq_true rfl⟩) rfl hl.1 rfl (Nat.le_of_ble_eq_true rfl) dX3_repeat_6 ⟨Nat.le_of_ble_eq_true rfl, Nat.le_of_ble_eq_true rfl⟩ (fun z_6 h_6 => ?_)
  refine k_eq0 (tgt := 30) hx hb dX3_repeat_9 (by decide) (by omega) (fun c_9 => ?_) (fun c_9 => ?_)
  · skip
    refine lv_aload_n hx hb dX3_repeat_30 rfl (lv_at hl 0 rfl) ?_
    refine k_push hx hb dX3_repeat_31 ?_
    refine k_callVW (As := [.int (zI 1)]) (rest := []) S hK hP hS (c_X3_no l E hE M2 1 ) (cwV 1 S.2.2.2.2 gX3_repeat_X3_no rfl rfl rfl (by decide +kernel) ⟨Nat.le_of_ble_eq_true rfl, Nat.le_of_ble_eq_true rfl⟩) (k_rY hK hP rfl) rfl hl.1 rfl (Nat.le_of_ble_eq_true rfl) dX3_repeat_32 ⟨Nat.le_of_ble_eq_true rfl, Nat.le_of_ble_eq_true rfl⟩ (fun z_32 M_32 H locs h_32 hP hS => ?_)
    refine ends _ _ (z_32) M_32 _ _ dX3_repeat_35 hP hS ?_
    first
      | exact ⟨kFm_trans (kFt_m t2) (kFm_F q1 (by omega)), Or.inl ⟨by omega, by omega, by omega, by omega, by rw [q1 11 0 (by omega)]; exact t0, q2⟩, by omega, by omega⟩
      | exact ⟨kFt_m (kFt_trans t2 (kFt_of h_32.2)), Or.inr ⟨by omega, kFt_11 h_32.2⟩, by have := h_32.1; omega, by have := h_32.1; omega⟩
  · skip
    refine lv_iload_n hx hb dX3_repeat_12 rfl (lv_at hl 2 rfl) ?_
    refine k_push hx hb dX3_repeat_13 ?_
    refine k_push hx hb dX3_repeat_14 ?_
    refine k_callS (As := [.int (zI w), .int (zI 0), .int (zI 2)]) (rest := []) S hK hP (c_X3_isIn l E M2 w 0 2 (by omega)) (va_cwS 3 S.2.2.2.2 gX3_repeat_X3_isIn rfl rfl rfl (by decide +kernel) ⟨Nat.le_of_ble_eq_true rfl, Nat.le_of_ble_eq_true rfl⟩) rfl hl.1 rfl (Nat.le_of_ble_eq_true rfl) dX3_repeat_15 ⟨Nat.le_of_ble_eq_true rfl, Nat.le_of_ble_eq_true rfl⟩ (fun z_15 h_15 => ?_)
    refine k_eq0 (tgt := 30) hx hb dX3_repeat_18 (by decide) (by omega) (fun c_18 => ?_) (fun c_18 => ?_)
    · skip
      refine lv_aload_n hx hb dX3_repeat_30 rfl (lv_at hl 0 rfl) ?_
      refine k_push hx hb dX3_repeat_31 ?_
      refine k_callVW (As := [.int (zI 1)]) (rest := []) S hK hP hS (c_X3_no l E hE M2 1 ) (cwV 1 S.2.2.2.2 gX3_repeat_X3_no rfl rfl rfl (by decide +kernel) ⟨Nat.le_of_ble_eq_true rfl, Nat.le_of_ble_eq_true rfl⟩) (k_rY hK hP rfl) rfl hl.1 rfl (Nat.le_of_ble_eq_true rfl) dX3_repeat_32 ⟨Nat.le_of_ble_eq_true rfl, Nat.le_of_ble_eq_true rfl⟩ (fun z_32 M_32 H locs h_32 hP hS => ?_)
      refine ends _ _ (z_32) M_32 _ _ dX3_repeat_35 hP hS ?_
      first
        | exact ⟨kFm_trans (kFt_m t2) (kFm_F q1 (by omega)), Or.inl ⟨by omega, by omega, by omega, by omega, by rw [q1 11 0 (by omega)]; exact t0, q2⟩, by omega, by omega⟩
        | exact ⟨kFt_m (kFt_trans t2 (kFt_of h_32.2)), Or.inr ⟨by omega, kFt_11 h_32.2⟩, by have := h_32.1; omega, by have := h_32.1; omega⟩
    · skip
      refine lv_aload_n hx hb dX3_repeat_21 rfl (lv_at hl 0 rfl) ?_
      refine lv_iload_n hx hb dX3_repeat_22 rfl (lv_at hl 1 rfl) ?_
      refine lv_iload_n hx hb dX3_repeat_23 rfl (lv_at hl 2 rfl) ?_
      refine k_callVW (As := [.int (zI h), .int (zI w)]) (rest := []) S hK hP hS (c_X3_repeatTold l E hE M2 h w (by omega) (by assumption) (by omega)) (cwV 2 S.2.2.2.2 gX3_repeat_X3_repeatTold rfl rfl rfl (by decide +kernel) ⟨Nat.le_of_ble_eq_true rfl, Nat.le_of_ble_eq_true rfl⟩) (k_rY hK hP rfl) rfl hl.1 rfl (Nat.le_of_ble_eq_true rfl) dX3_repeat_24 ⟨Nat.le_of_ble_eq_true rfl, Nat.le_of_ble_eq_true rfl⟩ (fun z_24 M_24 H locs h_24 hP hS => ?_)
      obtain ⟨q1, q2, q3⟩ := h_24
      rw [kFm_row (kFt_m t2) (c := 13 + h) (by omega), t15] at q2
      refine lv_goto (tgt := 35) hx hb dX3_repeat_27 (by decide) ?_
      refine ends _ _ (z_24) M_24 _ _ dX3_repeat_35 hP hS ?_
      first
        | exact ⟨kFm_trans (kFt_m t2) (kFm_F q1 (by omega)), Or.inl ⟨by omega, by omega, by omega, by omega, by rw [q1 11 0 (by omega)]; exact t0, q2⟩, by omega, by omega⟩
        | exact ⟨kFt_m (kFt_trans t2 (kFt_of h_32.2)), Or.inr ⟨by omega, kFt_11 h_32.2⟩, by have := h_32.1; omega, by have := h_32.1; omega⟩
abbrev rX3_row : Room := { frames := 4, cells := 0, slots := 0, locals := 96 }
set_option maxHeartbeats 4000000 in
set_option maxRecDepth 100000 in
theorem c_X3_row (l : Launch) (E : kE) (hE : kInj E) (M : kM) (h num : Int) (hW : kWm M) (h1 : -2147483648 ≤ h ∧ h ≤ 2147483647 ∧ -2147483648 ≤ num ∧ num ≤ 2147483647) : kRW l yX3_row wsX3_row rX3_row E M [.ref (E.2.2 11), .int (zI h), .int (zI num)] (fun z N => kFm M N ∧ ((0 ≤ h ∧ h < 2 ∧ 0 ≤ num ∧ num < kTot (M (13 + h)) (M 15 h) ∧ N 11 0 = 0 ∧ kIsRow (M (13 + h)) (M 15 h) num z) ∨ ((h < 0 ∨ 2 ≤ h ∨ num < 0) ∧ N 11 0 = 1) ∨ (0 ≤ h ∧ h < 2 ∧ kTot (M (13 + h)) (M 15 h) ≤ num ∧ N 11 0 = 1)) ∧ -100 ≤ z ∧ z ≤ 3000) := by
  refine kRW_of (cc := cX3_row) (maxL := 8) (rt := .int) RX3 (by decide) rfl rfl (Nat.le_of_ble_eq_true rfl) k_nariW ?_
  intro pg en s0 mi ar bl me co ls Q S hP hS hK ends hl
  have hx := S.1
  have hb := S.2.1
  have hinX30 : ∀ w ∈ wsX30, w ∈ wsX3_row := fun w h => List.mem_cons_of_mem _ (List.mem_append_right _ (h))
  have hl : lv_has ls 8 [(0, .ref (E.2.2 11)), (1, .int (zI h)), (2, .int (zI num))] := hl
  obtain ⟨hWh, hs0, hs1, hsv⟩ := id hW
  refine lv_aload_n hx hb dX3_row_0 rfl (lv_at hl 0 rfl) ?_
  refine k_push hx hb dX3_row_1 ?_
  refine k_putmod S hK hE hP hS hinX30 0 (by decide) (S.2.2.2.2 _ (List.mem_cons_of_mem _ (List.mem_append_left _ (List.mem_append_left _ (List.mem_of_getElem? (i := 0) rfl))))) dX3_row_2 rfl (fun H locs hP hS => ?_)
  obtain ⟨M2, eM2⟩ : ∃ N9 : kM, N9 = kU M 11 0 0 := ⟨_, rfl⟩
  have hP : va_P E.1 vwCl (kW E M2) H := by rw [eM2]; exact hP
  have t2 := kFt_of eM2
  have t0 : M2 11 0 = 0 := kFt_11 eM2
  have hW2 : kWm M2 := kWm_t hW t2
  have t15 : M2 15 h = M 15 h := t2 15 h (by omega)
  refine lv_iload_n hx hb dX3_row_5 rfl (lv_at hl 1 rfl) ?_
  refine k_callS (As := [.int (zI h)]) (rest := []) S hK hP (c_X3_isHem l E M2 h (by omega)) (va_cwS 1 S.2.2.2.2 gX3_row_X3_isHem rfl rfl rfl (by decide +kernel) ⟨Nat.le_of_ble_eq_true rfl, Nat.le_of_ble_eq_true rfl⟩) rfl hl.1 rfl (Nat.le_of_ble_eq_true rfl) dX3_row_6 ⟨Nat.le_of_ble_eq_true rfl, Nat.le_of_ble_eq_true rfl⟩ (fun z_6 h_6 => ?_)
  refine k_eq0 (tgt := 16) hx hb dX3_row_9 (by decide) (by omega) (fun c_9 => ?_) (fun c_9 => ?_)
  · skip
    refine lv_aload_n hx hb dX3_row_16 rfl (lv_at hl 0 rfl) ?_
    refine k_push hx hb dX3_row_17 ?_
    refine k_callVW (As := [.int (zI 1)]) (rest := []) S hK hP hS (c_X3_no l E hE M2 1 ) (cwV 1 S.2.2.2.2 gX3_row_X3_no rfl rfl rfl (by decide +kernel) ⟨Nat.le_of_ble_eq_true rfl, Nat.le_of_ble_eq_true rfl⟩) (k_rY hK hP rfl) rfl hl.1 rfl (Nat.le_of_ble_eq_true rfl) dX3_row_18 ⟨Nat.le_of_ble_eq_true rfl, Nat.le_of_ble_eq_true rfl⟩ (fun z_18 M_18 H locs h_18 hP hS => ?_)
    refine ends _ _ (z_18) M_18 _ _ dX3_row_21 hP hS ?_
    first
      | exact ⟨kFt_m (kFt_trans t2 (kFt_of h_18.2)), Or.inr (Or.inl ⟨by omega, kFt_11 h_18.2⟩), by have := h_18.1; omega, by have := h_18.1; omega⟩
  · skip
    refine lv_iload_n hx hb dX3_row_12 rfl (lv_at hl 2 rfl) ?_
    refine k_ge0 (tgt := 22) hx hb dX3_row_13 (by decide) (by omega) (fun c_13 => ?_) (fun c_13 => ?_)
    · skip
      obtain ⟨hn0, hn1, hv⟩ := hWh h (by omega)
      refine lv_aload_n hx hb dX3_row_22 rfl (lv_at hl 0 rfl) ?_
      refine lv_iload_n hx hb dX3_row_23 rfl (lv_at hl 1 rfl) ?_
      refine k_callVV (As := [.int (zI h)]) (rest := []) S hK hP hS (c_X3_order l E hE M2 h (by omega) (by assumption)) (cwV 1 S.2.2.2.2 gX3_row_X3_order rfl rfl rfl (by decide +kernel) ⟨Nat.le_of_ble_eq_true rfl, Nat.le_of_ble_eq_true rfl⟩) (k_rY hK hP rfl) rfl hl.1 rfl (Nat.le_of_ble_eq_true rfl) dX3_row_24 ⟨Nat.le_of_ble_eq_true rfl, Nat.le_of_ble_eq_true rfl⟩ (fun M_24 H locs h_24 hP hS => ?_)
      obtain ⟨q1, hSm, hO⟩ := h_24
      rw [kFm_row (kFt_m t2) (c := 13 + h) (by omega), t15] at hO
      have e1 : M_24 15 h = M 15 h := by rw [q1 15 h (by omega)]; exact t15
      have e2 : M_24 (13 + h) = M (13 + h) := by rw [kF_row q1 (by omega)]; exact kFm_row (kFt_m t2) (by omega)
      have hT : kSum (kRw (M (13 + h)) (M 15 h) (M_24 59)) (M 15 h).toNat = kTot (M (13 + h)) (M 15 h) := kRw_tot hn0 hO
      have nn : ∀ k : Int, 0 ≤ k → k < M 15 h → 0 ≤ kRw (M (13 + h)) (M 15 h) (M_24 59) k := fun k k1 k2 => (kRw_rng hO ⟨k1, k2⟩).1
      refine lv_iload_n hx hb dX3_row_27 rfl (lv_at hl 2 rfl) ?_
      refine lv_istore_n (lv' := [(3, .int (zI num)), (0, .ref (E.2.2 11)), (1, .int (zI h)), (2, .int (zI num))]) hx hb dX3_row_28 rfl hl (by decide) rfl (fun ls hl => ?_)
      refine k_push hx hb dX3_row_29 ?_
      refine lv_istore (lv' := [(4, .int (zI 0)), (3, .int (zI num)), (0, .ref (E.2.2 11)), (1, .int (zI h)), (2, .int (zI num))]) hx hb dX3_row_30 hl (by decide) rfl (fun ls hl => ?_)
      have lp_32 : ∀ (n_32 : Nat) (lf : Int) (r : Int), (0 ≤ r ∧ r ≤ M 15 h ∧ 0 ≤ lf ∧ lf ≤ 2147483647) → (lf = num - kSum (kRw (M (13 + h)) (M 15 h) (M_24 59)) r.toNat) → (M 15 h - r < (n_32 : Int)) → ∀ ls : Array Slot, lv_has ls 8 [(0, .ref (E.2.2 11)), (1, .int (zI h)), (2, .int (zI num)), (3, .int (zI lf)), (4, .int (zI r))] → W pg l en rX3_row s0 mi ar bl me co H locs 0 0 Q (F0 mi 32 ls []) := by
        intro n_32
        induction n_32 with
        | zero => intro lf r g1 g2 hm_32; exfalso; omega
        | succ n_32 ih_32 =>
          intro lf r g1 g2 hm_32 ls hl
          refine lv_iload hx hb dX3_row_32 (lv_at hl 4 rfl) ?_
          refine lv_aload_n hx hb dX3_row_34 rfl (lv_at hl 0 rfl) ?_
          refine k_mod S hK hP hinX30 2 (by decide) (S.2.2.2.2 _ (List.mem_cons_of_mem _ (List.mem_append_left _ (List.mem_append_left _ (List.mem_of_getElem? (i := 1) rfl))))) dX3_row_35 rfl (.ref (E.2.2 15)) rfl rfl ?_
          refine lv_iload_n hx hb dX3_row_38 rfl (lv_at hl 1 rfl) ?_
          refine k_ald S hK hP 2 (by unfold kArr; omega) (by omega) dX3_row_39 ?_
          refine k_ge (tgt := 134) hx hb dX3_row_40 (by decide) (by omega) (fun c_40 => ?_) (fun c_40 => ?_)
          · skip
            refine lv_aload_n hx hb dX3_row_134 rfl (lv_at hl 0 rfl) ?_
            refine k_push hx hb dX3_row_135 ?_
            refine k_callVW (As := [.int (zI 1)]) (rest := []) S hK hP hS (c_X3_no l E hE M_24 1 ) (cwV 1 S.2.2.2.2 gX3_row_X3_no rfl rfl rfl (by decide +kernel) ⟨Nat.le_of_ble_eq_true rfl, Nat.le_of_ble_eq_true rfl⟩) (k_rY hK hP rfl) rfl hl.1 rfl (Nat.le_of_ble_eq_true rfl) dX3_row_136 ⟨Nat.le_of_ble_eq_true rfl, Nat.le_of_ble_eq_true rfl⟩ (fun z_136 M_136 H locs h_136 hP hS => ?_)
            refine ends _ _ (z_136) M_136 _ _ dX3_row_139 hP hS ?_
            rw [show r = M 15 h by omega, hT] at g2
            exact ⟨kFm_trans (kFt_m t2) (kFm_trans (kFm_F q1 (by omega)) (kFt_m (kFt_of h_136.2))), Or.inr (Or.inr ⟨by omega, by omega, by omega, kFt_11 h_136.2⟩), by have := h_136.1; omega, by have := h_136.1; omega⟩
          · skip
            refine lv_aload_n hx hb dX3_row_43 rfl (lv_at hl 0 rfl) ?_
            refine k_mod S hK hP hinX30 6 (by decide) (S.2.2.2.2 _ (List.mem_cons_of_mem _ (List.mem_append_left _ (List.mem_append_left _ (List.mem_of_getElem? (i := 2) rfl))))) dX3_row_44 rfl (.ref (E.2.2 59)) rfl rfl ?_
            refine lv_iload hx hb dX3_row_47 (lv_at hl 4 rfl) ?_
            refine k_ald S hK hP 40 (by unfold kArr; omega) (by omega) dX3_row_49 ?_
            have qp := hO.1 r (by omega) (by omega)
            refine k_nm (fun v5_50 ev5_50 => ?_)
            refine lv_istore (lv' := [(5, .int (zI v5_50)), (0, .ref (E.2.2 11)), (1, .int (zI h)), (2, .int (zI num)), (3, .int (zI lf)), (4, .int (zI r))]) hx hb dX3_row_50 hl (by decide) rfl (fun ls hl => ?_)
            refine lv_iload hx hb dX3_row_52 (lv_at hl 5 rfl) ?_
            refine k_ne0 (tgt := 61) hx hb dX3_row_54 (by decide) (by omega) (fun c_54 => ?_) (fun c_54 => ?_)
            · skip
              refine lv_aload_n hx hb dX3_row_61 rfl (lv_at hl 1 rfl) ?_
              refine k_mod S hK hP hinX30 5 (by decide) (S.2.2.2.2 _ (List.mem_cons_of_mem _ (List.mem_append_left _ (List.mem_append_left _ (List.mem_of_getElem? (i := 3) rfl))))) dX3_row_62 rfl (.ref (E.2.2 17)) rfl rfl ?_
              refine lv_iload hx hb dX3_row_65 (lv_at hl 0 rfl) ?_
              refine k_aald S hK hP (18 + v5_50) 41 (by unfold kRow; omega) dX3_row_67 ?_
              refine lv_aload_n hx hb dX3_row_68 rfl (lv_at hl 1 rfl) ?_
              refine k_mod S hK hP hinX30 6 (by decide) (S.2.2.2.2 _ (List.mem_cons_of_mem _ (List.mem_append_left _ (List.mem_append_left _ (List.mem_of_getElem? (i := 2) rfl))))) dX3_row_69 rfl (.ref (E.2.2 59)) rfl rfl ?_
              refine lv_iload hx hb dX3_row_72 (lv_at hl 5 rfl) ?_
              refine k_push hx hb dX3_row_74 ?_
              refine k_sub hx hb dX3_row_75 ?_
              refine k_ald S hK hP 40 (by unfold kArr; omega) (by omega) dX3_row_76 ?_
              have qp2 := hO.1 (r - 1) (by omega) (by omega)
              refine k_ald S hK hP 41 (by unfold kArr; omega) (by omega) dX3_row_77 ?_
              have qs := hSm (M_24 59 r) (M_24 59 (r - 1)) (by omega) (by omega) (by omega) (by omega)
              rw [e1, e2] at qs
              have qk := kL_rng (x := M (13 + h)) (y := M (13 + h)) (nx := M 15 h) (ny := M 15 h) (a := M_24 59 r) (b := M_24 59 (r - 1)) (by omega) (by omega)
              refine k_nm (fun v6_78 ev6_78 => ?_)
              refine lv_istore (lv' := [(6, .int (zI v6_78)), (5, .int (zI v5_50)), (0, .ref (E.2.2 11)), (1, .int (zI h)), (2, .int (zI num)), (3, .int (zI lf)), (4, .int (zI r))]) hx hb dX3_row_78 hl (by decide) rfl (fun ls hl => ?_)
              refine lv_aload_n hx hb dX3_row_80 rfl (lv_at hl 2 rfl) ?_
              refine k_mod S hK hP hinX30 2 (by decide) (S.2.2.2.2 _ (List.mem_cons_of_mem _ (List.mem_append_left _ (List.mem_append_left _ (List.mem_of_getElem? (i := 1) rfl))))) dX3_row_81 rfl (.ref (E.2.2 15)) rfl rfl ?_
              refine lv_iload_n hx hb dX3_row_84 rfl (lv_at hl 3 rfl) ?_
              refine k_ald S hK hP 2 (by unfold kArr; omega) (by omega) dX3_row_85 ?_
              refine lv_iload hx hb dX3_row_86 (lv_at hl 1 rfl) ?_
              refine k_sub hx hb dX3_row_88 ?_
              refine lv_iload hx hb dX3_row_89 (lv_at hl 0 rfl) ?_
              refine k_sub hx hb dX3_row_91 ?_
              refine k_nm (fun v7_92 ev7_92 => ?_)
              refine lv_istore (lv' := [(7, .int (zI v7_92)), (6, .int (zI v6_78)), (5, .int (zI v5_50)), (0, .ref (E.2.2 11)), (1, .int (zI h)), (2, .int (zI num)), (3, .int (zI lf)), (4, .int (zI r))]) hx hb dX3_row_92 hl (by decide) rfl (fun ls hl => ?_)
              have q6 : v6_78 = kNx (M (13 + h)) (M 15 h) (M_24 59) (r - 1) := by
                first
                | (rw [ev6_78, ev5_50, qs, kNx_in (by omega), show r - 1 + 1 = r by omega]; exact kL_symm (by omega) (by omega))
                | exact (kNx_out (by omega)).symm
              have q7 : v7_92 = kRw (M (13 + h)) (M 15 h) (M_24 59) r := by unfold kRw; omega
              have q8 := kRw_rng hO (r := r) (by omega)
              have q9 := (kNx_rng hO (r - 1)).1
              refine lv_iload_n hx hb dX3_row_94 rfl (lv_at hl 6 rfl) ?_
              refine lv_iload hx hb dX3_row_95 (lv_at hl 0 rfl) ?_
              refine k_ge (tgt := 123) hx hb dX3_row_97 (by decide) (by omega) (fun c_97 => ?_) (fun c_97 => ?_)
              · skip
                refine lv_iload_n hx hb dX3_row_123 rfl (lv_at hl 6 rfl) ?_
                refine lv_iload hx hb dX3_row_124 (lv_at hl 0 rfl) ?_
                refine k_sub hx hb dX3_row_126 ?_
                refine k_nm (fun v3_127 ev3_127 => ?_)
                refine lv_istore_n (lv' := [(3, .int (zI v3_127)), (7, .int (zI v7_92)), (6, .int (zI v6_78)), (5, .int (zI v5_50)), (0, .ref (E.2.2 11)), (1, .int (zI h)), (2, .int (zI num)), (4, .int (zI r))]) hx hb dX3_row_127 rfl hl (by decide) rfl (fun ls hl => ?_)
                obtain ⟨v4_128, ev4_128⟩ : ∃ v : Int, v = r + 1 := ⟨_, rfl⟩
                refine k_incN (v := v4_128) (lv' := [(4, .int (zI v4_128)), (3, .int (zI v3_127)), (7, .int (zI v7_92)), (6, .int (zI v6_78)), (5, .int (zI v5_50)), (0, .ref (E.2.2 11)), (1, .int (zI h)), (2, .int (zI num))]) hx hb dX3_row_128 hl (k := 7) rfl ev4_128 (by decide) rfl (fun ls hl => ?_)
                refine lv_goto (tgt := 32) hx hb dX3_row_131 (by decide) ?_
                refine ih_32 v3_127 v4_128 (by omega) ?_ (by omega) _ (lv_sub hl [5, 6, 7, 1, 0] rfl)
                · subst ev4_128
                  rw [kSum_step _ (by omega)]; omega
              · skip
                refine k_bpush hx hb dX3_row_100 (by decide) ?_
                refine lv_aload_n hx hb dX3_row_102 rfl (lv_at hl 3 rfl) ?_
                refine lv_iload hx hb dX3_row_103 (lv_at hl 2 rfl) ?_
                refine lv_iload hx hb dX3_row_105 (lv_at hl 1 rfl) ?_
                refine lv_iload_n hx hb dX3_row_107 rfl (lv_at hl 6 rfl) ?_
                refine k_add hx hb dX3_row_108 ?_
                refine k_push hx hb dX3_row_109 ?_
                refine k_add hx hb dX3_row_110 ?_
                refine k_callV (As := [.int (zI v5_50), .int (zI ((v6_78 + lf) + 1))]) (rest := [.int (zI 64)]) S hK hP (c_X3_firstPlace l E M_24 v5_50 ((v6_78 + lf) + 1) (by refine ⟨by omega, by omega, ?_, by omega⟩; rw [hSm v5_50 v5_50 (by omega) (by omega) (by omega) (by omega), e1, e2, kL_self (by omega)]; unfold kRw at q7; omega) (by intro a a1 a2; rw [hSm a v5_50 (by omega) (by omega) (by omega) (by omega), e1, e2]; have := kL_rng (x := M (13 + h)) (y := M (13 + h)) (nx := M 15 h) (ny := M 15 h) (a := a) (b := v5_50) (by omega) (by omega); omega)) (cwV 2 S.2.2.2.2 gX3_row_X3_firstPlace rfl rfl rfl (by decide +kernel) ⟨Nat.le_of_ble_eq_true rfl, Nat.le_of_ble_eq_true rfl⟩) (k_rY hK hP rfl) rfl hl.1 rfl (Nat.le_of_ble_eq_true rfl) dX3_row_111 ⟨Nat.le_of_ble_eq_true rfl, Nat.le_of_ble_eq_true rfl⟩ (fun z_111 h_111 => ?_)
                obtain ⟨f1, f2, f3, f4⟩ := h_111
                refine k_mul hx hb dX3_row_114 ?_
                refine lv_iload hx hb dX3_row_115 (lv_at hl 1 rfl) ?_
                refine k_add hx hb dX3_row_117 ?_
                refine lv_iload_n hx hb dX3_row_118 rfl (lv_at hl 6 rfl) ?_
                refine k_add hx hb dX3_row_119 ?_
                refine k_push hx hb dX3_row_120 ?_
                refine k_add hx hb dX3_row_121 ?_
                refine ends _ _ ((((64 * z_111) + v6_78) + lf) + 1) M_24 _ _ dX3_row_122 hP hS ?_
                have s1 := kSum_step (kRw (M (13 + h)) (M 15 h) (M_24 59)) (k := r) (by omega)
                have s2 := kSum_mono nn (M 15 h - (r + 1)).toNat (r + 1) (M 15 h) (by omega) (by omega) (by omega)
                have f5 : ∀ a : Int, 0 ≤ a → a ≤ v5_50 → M_24 (18 + a) v5_50 = kL (M (13 + h)) (M 15 h) a (M (13 + h)) (M 15 h) v5_50 := fun a a1 a2 => by rw [hSm a v5_50 (by omega) (by omega) (by omega) (by omega), e1, e2]
                rw [f5 _ f1 f2] at f3
                have f6 := kL_rng (x := M (13 + h)) (y := M (13 + h)) (nx := M 15 h) (ny := M 15 h) (a := z_111) (b := v5_50) (by omega) (by omega)
                have f7 : v5_50 + (kNx (M (13 + h)) (M 15 h) (M_24 59) (r - 1) + lf + 1) ≤ M 15 h := by unfold kRw at q7; omega
                refine ⟨kFm_trans (kFt_m t2) (kFm_F q1 (by omega)), Or.inl ⟨by omega, by omega, by omega, by omega, by rw [q1 11 0 (by omega)]; exact t0, ⟨M_24 59, r, lf, z_111, hO, by omega, by omega, g2, by omega, by omega, ?_, by omega⟩⟩, by omega, by omega⟩
                rw [← ev5_50]
                refine Or.inr ⟨f1, by omega, (kLC_iff (kL_spec (x := M (13 + h)) (y := M (13 + h)) (nx := M 15 h) (ny := M 15 h) (a := z_111) (b := v5_50) (by omega) (by omega)) (by omega) f7).mp (by omega), fun a a1 a2 q => ?_⟩
                have g5 := f4 a a1 a2
                rw [f5 a a1 (by omega)] at g5
                have := (kLC_iff (kL_spec (x := M (13 + h)) (y := M (13 + h)) (nx := M 15 h) (ny := M 15 h) (a := a) (b := v5_50) (by omega) (by omega)) (by omega) f7).mpr q
                omega
            · skip
              refine k_push hx hb dX3_row_57 ?_
              refine lv_goto (tgt := 78) hx hb dX3_row_58 (by decide) ?_
              refine lv_istore (lv' := [(6, .int (zI 0)), (5, .int (zI v5_50)), (0, .ref (E.2.2 11)), (1, .int (zI h)), (2, .int (zI num)), (3, .int (zI lf)), (4, .int (zI r))]) hx hb dX3_row_78 hl (by decide) rfl (fun ls hl => ?_)
              refine lv_aload_n hx hb dX3_row_80 rfl (lv_at hl 2 rfl) ?_
              refine k_mod S hK hP hinX30 2 (by decide) (S.2.2.2.2 _ (List.mem_cons_of_mem _ (List.mem_append_left _ (List.mem_append_left _ (List.mem_of_getElem? (i := 1) rfl))))) dX3_row_81 rfl (.ref (E.2.2 15)) rfl rfl ?_
              refine lv_iload_n hx hb dX3_row_84 rfl (lv_at hl 3 rfl) ?_
              refine k_ald S hK hP 2 (by unfold kArr; omega) (by omega) dX3_row_85 ?_
              refine lv_iload hx hb dX3_row_86 (lv_at hl 1 rfl) ?_
              refine k_sub hx hb dX3_row_88 ?_
              refine lv_iload hx hb dX3_row_89 (lv_at hl 0 rfl) ?_
              refine k_sub hx hb dX3_row_91 ?_
              refine k_nm (fun v7_92 ev7_92 => ?_)
              refine lv_istore (lv' := [(7, .int (zI v7_92)), (6, .int (zI 0)), (5, .int (zI v5_50)), (0, .ref (E.2.2 11)), (1, .int (zI h)), (2, .int (zI num)), (3, .int (zI lf)), (4, .int (zI r))]) hx hb dX3_row_92 hl (by decide) rfl (fun ls hl => ?_)
              have q6 : 0 = kNx (M (13 + h)) (M 15 h) (M_24 59) (r - 1) := by
                first
                | (rw [ev6_78, ev5_50, qs, kNx_in (by omega), show r - 1 + 1 = r by omega]; exact kL_symm (by omega) (by omega))
                | exact (kNx_out (by omega)).symm
              have q7 : v7_92 = kRw (M (13 + h)) (M 15 h) (M_24 59) r := by unfold kRw; omega
              have q8 := kRw_rng hO (r := r) (by omega)
              have q9 := (kNx_rng hO (r - 1)).1
              refine lv_iload_n hx hb dX3_row_94 rfl (lv_at hl 6 rfl) ?_
              refine lv_iload hx hb dX3_row_95 (lv_at hl 0 rfl) ?_
              refine k_ge (tgt := 123) hx hb dX3_row_97 (by decide) (by omega) (fun c_97 => ?_) (fun c_97 => ?_)
              · skip
                refine lv_iload_n hx hb dX3_row_123 rfl (lv_at hl 6 rfl) ?_
                refine lv_iload hx hb dX3_row_124 (lv_at hl 0 rfl) ?_
                refine k_sub hx hb dX3_row_126 ?_
                refine k_nm (fun v3_127 ev3_127 => ?_)
                refine lv_istore_n (lv' := [(3, .int (zI v3_127)), (7, .int (zI v7_92)), (6, .int (zI 0)), (5, .int (zI v5_50)), (0, .ref (E.2.2 11)), (1, .int (zI h)), (2, .int (zI num)), (4, .int (zI r))]) hx hb dX3_row_127 rfl hl (by decide) rfl (fun ls hl => ?_)
                obtain ⟨v4_128, ev4_128⟩ : ∃ v : Int, v = r + 1 := ⟨_, rfl⟩
                refine k_incN (v := v4_128) (lv' := [(4, .int (zI v4_128)), (3, .int (zI v3_127)), (7, .int (zI v7_92)), (6, .int (zI 0)), (5, .int (zI v5_50)), (0, .ref (E.2.2 11)), (1, .int (zI h)), (2, .int (zI num))]) hx hb dX3_row_128 hl (k := 7) rfl ev4_128 (by decide) rfl (fun ls hl => ?_)
                refine lv_goto (tgt := 32) hx hb dX3_row_131 (by decide) ?_
                refine ih_32 v3_127 v4_128 (by omega) ?_ (by omega) _ (lv_sub hl [5, 6, 7, 1, 0] rfl)
                · subst ev4_128
                  rw [kSum_step _ (by omega)]; omega
              · skip
                refine k_bpush hx hb dX3_row_100 (by decide) ?_
                refine lv_aload_n hx hb dX3_row_102 rfl (lv_at hl 3 rfl) ?_
                refine lv_iload hx hb dX3_row_103 (lv_at hl 2 rfl) ?_
                refine lv_iload hx hb dX3_row_105 (lv_at hl 1 rfl) ?_
                refine lv_iload_n hx hb dX3_row_107 rfl (lv_at hl 6 rfl) ?_
                refine k_add hx hb dX3_row_108 ?_
                refine k_push hx hb dX3_row_109 ?_
                refine k_add hx hb dX3_row_110 ?_
                refine k_callV (As := [.int (zI v5_50), .int (zI ((0 + lf) + 1))]) (rest := [.int (zI 64)]) S hK hP (c_X3_firstPlace l E M_24 v5_50 ((0 + lf) + 1) (by refine ⟨by omega, by omega, ?_, by omega⟩; rw [hSm v5_50 v5_50 (by omega) (by omega) (by omega) (by omega), e1, e2, kL_self (by omega)]; unfold kRw at q7; omega) (by intro a a1 a2; rw [hSm a v5_50 (by omega) (by omega) (by omega) (by omega), e1, e2]; have := kL_rng (x := M (13 + h)) (y := M (13 + h)) (nx := M 15 h) (ny := M 15 h) (a := a) (b := v5_50) (by omega) (by omega); omega)) (cwV 2 S.2.2.2.2 gX3_row_X3_firstPlace rfl rfl rfl (by decide +kernel) ⟨Nat.le_of_ble_eq_true rfl, Nat.le_of_ble_eq_true rfl⟩) (k_rY hK hP rfl) rfl hl.1 rfl (Nat.le_of_ble_eq_true rfl) dX3_row_111 ⟨Nat.le_of_ble_eq_true rfl, Nat.le_of_ble_eq_true rfl⟩ (fun z_111 h_111 => ?_)
                obtain ⟨f1, f2, f3, f4⟩ := h_111
                refine k_mul hx hb dX3_row_114 ?_
                refine lv_iload hx hb dX3_row_115 (lv_at hl 1 rfl) ?_
                refine k_add hx hb dX3_row_117 ?_
                refine lv_iload_n hx hb dX3_row_118 rfl (lv_at hl 6 rfl) ?_
                refine k_add hx hb dX3_row_119 ?_
                refine k_push hx hb dX3_row_120 ?_
                refine k_add hx hb dX3_row_121 ?_
                refine ends _ _ ((((64 * z_111) + 0) + lf) + 1) M_24 _ _ dX3_row_122 hP hS ?_
                have s1 := kSum_step (kRw (M (13 + h)) (M 15 h) (M_24 59)) (k := r) (by omega)
                have s2 := kSum_mono nn (M 15 h - (r + 1)).toNat (r + 1) (M 15 h) (by omega) (by omega) (by omega)
                have f5 : ∀ a : Int, 0 ≤ a → a ≤ v5_50 → M_24 (18 + a) v5_50 = kL (M (13 + h)) (M 15 h) a (M (13 + h)) (M 15 h) v5_50 := fun a a1 a2 => by rw [hSm a v5_50 (by omega) (by omega) (by omega) (by omega), e1, e2]
                rw [f5 _ f1 f2] at f3
                have f6 := kL_rng (x := M (13 + h)) (y := M (13 + h)) (nx := M 15 h) (ny := M 15 h) (a := z_111) (b := v5_50) (by omega) (by omega)
                have f7 : v5_50 + (kNx (M (13 + h)) (M 15 h) (M_24 59) (r - 1) + lf + 1) ≤ M 15 h := by unfold kRw at q7; omega
                refine ⟨kFm_trans (kFt_m t2) (kFm_F q1 (by omega)), Or.inl ⟨by omega, by omega, by omega, by omega, by rw [q1 11 0 (by omega)]; exact t0, ⟨M_24 59, r, lf, z_111, hO, by omega, by omega, g2, by omega, by omega, ?_, by omega⟩⟩, by omega, by omega⟩
                rw [← ev5_50]
                refine Or.inr ⟨f1, by omega, (kLC_iff (kL_spec (x := M (13 + h)) (y := M (13 + h)) (nx := M 15 h) (ny := M 15 h) (a := z_111) (b := v5_50) (by omega) (by omega)) (by omega) f7).mp (by omega), fun a a1 a2 q => ?_⟩
                have g5 := f4 a a1 a2
                rw [f5 a a1 (by omega)] at g5
                have := (kLC_iff (kL_spec (x := M (13 + h)) (y := M (13 + h)) (nx := M 15 h) (ny := M 15 h) (a := a) (b := v5_50) (by omega) (by omega)) (by omega) f7).mpr q
                omega
      refine lp_32 (((M 15 h - 0 : Int)).toNat + 1) num 0 (by omega) (by rw [kSum_0]; omega) (by omega) _ (lv_sub hl [2, 3, 4, 1, 0] rfl)
    · skip
      refine lv_aload_n hx hb dX3_row_16 rfl (lv_at hl 0 rfl) ?_
      refine k_push hx hb dX3_row_17 ?_
      refine k_callVW (As := [.int (zI 1)]) (rest := []) S hK hP hS (c_X3_no l E hE M2 1 ) (cwV 1 S.2.2.2.2 gX3_row_X3_no rfl rfl rfl (by decide +kernel) ⟨Nat.le_of_ble_eq_true rfl, Nat.le_of_ble_eq_true rfl⟩) (k_rY hK hP rfl) rfl hl.1 rfl (Nat.le_of_ble_eq_true rfl) dX3_row_18 ⟨Nat.le_of_ble_eq_true rfl, Nat.le_of_ble_eq_true rfl⟩ (fun z_18 M_18 H locs h_18 hP hS => ?_)
      refine ends _ _ (z_18) M_18 _ _ dX3_row_21 hP hS ?_
      first
        | exact ⟨kFt_m (kFt_trans t2 (kFt_of h_18.2)), Or.inr (Or.inl ⟨by omega, kFt_11 h_18.2⟩), by have := h_18.1; omega, by have := h_18.1; omega⟩
abbrev rX3_found : Room := { frames := 2, cells := 0, slots := 0, locals := 46 }
set_option maxHeartbeats 4000000 in
set_option maxRecDepth 100000 in
theorem c_X3_found (l : Launch) (E : kE) (hE : kInj E) (M : kM) (h : Int) (hW : kWm M) (h1 : -2147483648 ≤ h ∧ h ≤ 2147483647) : kRW l yX3_found wsX3_found rX3_found E M [.ref (E.2.2 11), .int (zI h)] (fun z N => kFm M N ∧ ((0 ≤ h ∧ h < 2 ∧ N 11 0 = 0 ∧ z = kCnt (kSmp (M (13 + h)) (M 15 h) (M 16) (M 11 4)) (M 15 h).toNat) ∨ ((h < 0 ∨ 2 ≤ h) ∧ N 11 0 = 1)) ∧ -1 ≤ z ∧ z ≤ 3000) := by
  refine kRW_of (cc := cX3_found) (maxL := 2) (rt := .int) RX3 (by decide) rfl rfl (Nat.le_of_ble_eq_true rfl) k_nariW ?_
  intro pg en s0 mi ar bl me co ls Q S hP hS hK ends hl
  have hx := S.1
  have hb := S.2.1
  have hinX30 : ∀ w ∈ wsX30, w ∈ wsX3_found := fun w h => List.mem_cons_of_mem _ (List.mem_append_right _ (h))
  have hl : lv_has ls 2 [(0, .ref (E.2.2 11)), (1, .int (zI h))] := hl
  obtain ⟨hWh, hs0, hs1, hsv⟩ := id hW
  refine lv_aload_n hx hb dX3_found_0 rfl (lv_at hl 0 rfl) ?_
  refine k_push hx hb dX3_found_1 ?_
  refine k_putmod S hK hE hP hS hinX30 0 (by decide) (S.2.2.2.2 _ (List.mem_cons_of_mem _ (List.mem_append_left _ (List.mem_of_getElem? (i := 0) rfl)))) dX3_found_2 rfl (fun H locs hP hS => ?_)
  obtain ⟨M2, eM2⟩ : ∃ N9 : kM, N9 = kU M 11 0 0 := ⟨_, rfl⟩
  have hP : va_P E.1 vwCl (kW E M2) H := by rw [eM2]; exact hP
  have t2 := kFt_of eM2
  have t0 : M2 11 0 = 0 := kFt_11 eM2
  have hW2 : kWm M2 := kWm_t hW t2
  have t15 : M2 15 h = M 15 h := t2 15 h (by omega)
  refine lv_iload_n hx hb dX3_found_5 rfl (lv_at hl 1 rfl) ?_
  refine k_callS (As := [.int (zI h)]) (rest := []) S hK hP (c_X3_isHem l E M2 h (by omega)) (va_cwS 1 S.2.2.2.2 gX3_found_X3_isHem rfl rfl rfl (by decide +kernel) ⟨Nat.le_of_ble_eq_true rfl, Nat.le_of_ble_eq_true rfl⟩) rfl hl.1 rfl (Nat.le_of_ble_eq_true rfl) dX3_found_6 ⟨Nat.le_of_ble_eq_true rfl, Nat.le_of_ble_eq_true rfl⟩ (fun z_6 h_6 => ?_)
  refine k_eq0 (tgt := 20) hx hb dX3_found_9 (by decide) (by omega) (fun c_9 => ?_) (fun c_9 => ?_)
  · skip
    refine lv_aload_n hx hb dX3_found_20 rfl (lv_at hl 0 rfl) ?_
    refine k_push hx hb dX3_found_21 ?_
    refine k_callVW (As := [.int (zI 1)]) (rest := []) S hK hP hS (c_X3_no l E hE M2 1 ) (cwV 1 S.2.2.2.2 gX3_found_X3_no rfl rfl rfl (by decide +kernel) ⟨Nat.le_of_ble_eq_true rfl, Nat.le_of_ble_eq_true rfl⟩) (k_rY hK hP rfl) rfl hl.1 rfl (Nat.le_of_ble_eq_true rfl) dX3_found_22 ⟨Nat.le_of_ble_eq_true rfl, Nat.le_of_ble_eq_true rfl⟩ (fun z_22 M_22 H locs h_22 hP hS => ?_)
    refine ends _ _ (z_22) M_22 _ _ dX3_found_25 hP hS ?_
    first
      | exact ⟨kFt_m t2, Or.inl ⟨by omega, by omega, t0, h_14.1⟩, by omega, by omega⟩
      | exact ⟨kFt_m (kFt_trans t2 (kFt_of h_22.2)), Or.inr ⟨by omega, kFt_11 h_22.2⟩, by have := h_22.1; omega, by have := h_22.1; omega⟩
  · skip
    refine lv_aload_n hx hb dX3_found_12 rfl (lv_at hl 0 rfl) ?_
    refine lv_iload_n hx hb dX3_found_13 rfl (lv_at hl 1 rfl) ?_
    refine k_callV (As := [.int (zI h)]) (rest := []) S hK hP (c_X3_foundIn l E M2 h (by omega) (by assumption)) (cwV 1 S.2.2.2.2 gX3_found_X3_foundIn rfl rfl rfl (by decide +kernel) ⟨Nat.le_of_ble_eq_true rfl, Nat.le_of_ble_eq_true rfl⟩) (k_rY hK hP rfl) rfl hl.1 rfl (Nat.le_of_ble_eq_true rfl) dX3_found_14 ⟨Nat.le_of_ble_eq_true rfl, Nat.le_of_ble_eq_true rfl⟩ (fun z_14 h_14 => ?_)
    rw [kFm_row (kFt_m t2) (c := 13 + h) (by omega), kFm_row (kFt_m t2) (c := 16) (by omega), t15, t2 11 4 (by omega)] at h_14
    refine lv_goto (tgt := 25) hx hb dX3_found_17 (by decide) ?_
    refine ends _ _ (z_14) M2 _ _ dX3_found_25 hP hS ?_
    first
      | exact ⟨kFt_m t2, Or.inl ⟨by omega, by omega, t0, h_14.1⟩, by omega, by omega⟩
      | exact ⟨kFt_m (kFt_trans t2 (kFt_of h_22.2)), Or.inr ⟨by omega, kFt_11 h_22.2⟩, by have := h_22.1; omega, by have := h_22.1; omega⟩
abbrev rX3_first : Room := { frames := 2, cells := 0, slots := 0, locals := 42 }
set_option maxHeartbeats 4000000 in
set_option maxRecDepth 100000 in
theorem c_X3_first (l : Launch) (E : kE) (hE : kInj E) (M : kM) (h : Int) (hW : kWm M) (h1 : -2147483648 ≤ h ∧ h ≤ 2147483647) : kRW l yX3_first wsX3_first rX3_first E M [.ref (E.2.2 11), .int (zI h)] (fun z N => kFm M N ∧ ((0 ≤ h ∧ h < 2 ∧ N 11 0 = 0 ∧ kIsFirst (M (13 + h)) (M 15 h) (M 16) (M 11 4) z) ∨ ((h < 0 ∨ 2 ≤ h) ∧ N 11 0 = 1)) ∧ -1 ≤ z ∧ z ≤ 3000) := by
  refine kRW_of (cc := cX3_first) (maxL := 3) (rt := .int) RX3 (by decide) rfl rfl (Nat.le_of_ble_eq_true rfl) k_nariW ?_
  intro pg en s0 mi ar bl me co ls Q S hP hS hK ends hl
  have hx := S.1
  have hb := S.2.1
  have hinX30 : ∀ w ∈ wsX30, w ∈ wsX3_first := fun w h => List.mem_cons_of_mem _ (List.mem_append_right _ (h))
  have hl : lv_has ls 3 [(0, .ref (E.2.2 11)), (1, .int (zI h))] := hl
  obtain ⟨hWh, hs0, hs1, hsv⟩ := id hW
  refine lv_aload_n hx hb dX3_first_0 rfl (lv_at hl 0 rfl) ?_
  refine k_push hx hb dX3_first_1 ?_
  refine k_putmod S hK hE hP hS hinX30 0 (by decide) (S.2.2.2.2 _ (List.mem_cons_of_mem _ (List.mem_append_left _ (List.mem_of_getElem? (i := 0) rfl)))) dX3_first_2 rfl (fun H locs hP hS => ?_)
  obtain ⟨M2, eM2⟩ : ∃ N9 : kM, N9 = kU M 11 0 0 := ⟨_, rfl⟩
  have hP : va_P E.1 vwCl (kW E M2) H := by rw [eM2]; exact hP
  have t2 := kFt_of eM2
  have t0 : M2 11 0 = 0 := kFt_11 eM2
  have hW2 : kWm M2 := kWm_t hW t2
  have t15 : M2 15 h = M 15 h := t2 15 h (by omega)
  refine lv_iload_n hx hb dX3_first_5 rfl (lv_at hl 1 rfl) ?_
  refine k_callS (As := [.int (zI h)]) (rest := []) S hK hP (c_X3_isHem l E M2 h (by omega)) (va_cwS 1 S.2.2.2.2 gX3_first_X3_isHem rfl rfl rfl (by decide +kernel) ⟨Nat.le_of_ble_eq_true rfl, Nat.le_of_ble_eq_true rfl⟩) rfl hl.1 rfl (Nat.le_of_ble_eq_true rfl) dX3_first_6 ⟨Nat.le_of_ble_eq_true rfl, Nat.le_of_ble_eq_true rfl⟩ (fun z_6 h_6 => ?_)
  refine k_ne0 (tgt := 18) hx hb dX3_first_9 (by decide) (by omega) (fun c_9 => ?_) (fun c_9 => ?_)
  · skip
    obtain ⟨hn0, hn1, hv⟩ := hWh h (by omega)
    refine k_push hx hb dX3_first_18 ?_
    refine lv_istore_n (lv' := [(2, .int (zI 0)), (0, .ref (E.2.2 11)), (1, .int (zI h))]) hx hb dX3_first_19 rfl hl (by decide) rfl (fun ls hl => ?_)
    have lp_20 : ∀ (n_20 : Nat) (a : Int), (0 ≤ a ∧ a ≤ M 15 h) → (∀ b : Int, 0 ≤ b → b < a → ¬ kSmp (M (13 + h)) (M 15 h) (M 16) (M 11 4) b) → (M 15 h - a < (n_20 : Int)) → ∀ ls : Array Slot, lv_has ls 3 [(0, .ref (E.2.2 11)), (1, .int (zI h)), (2, .int (zI a))] → W pg l en rX3_first s0 mi ar bl me co H locs 0 0 Q (F0 mi 20 ls []) := by
      intro n_20
      induction n_20 with
      | zero => intro a g1 g2 hm_20; exfalso; omega
      | succ n_20 ih_20 =>
        intro a g1 g2 hm_20 ls hl
        refine lv_iload_n hx hb dX3_first_20 rfl (lv_at hl 2 rfl) ?_
        refine lv_aload_n hx hb dX3_first_21 rfl (lv_at hl 0 rfl) ?_
        refine k_mod S hK hP hinX30 2 (by decide) (S.2.2.2.2 _ (List.mem_cons_of_mem _ (List.mem_append_left _ (List.mem_of_getElem? (i := 1) rfl)))) dX3_first_22 rfl (.ref (E.2.2 15)) rfl rfl ?_
        refine lv_iload_n hx hb dX3_first_25 rfl (lv_at hl 1 rfl) ?_
        refine k_ald S hK hP 2 (by unfold kArr; omega) (by omega) dX3_first_26 ?_
        refine k_ge (tgt := 47) hx hb dX3_first_27 (by decide) (by omega) (fun c_27 => ?_) (fun c_27 => ?_)
        · skip
          refine k_push hx hb dX3_first_47 ?_
          refine ends _ _ ((-1)) M2 _ _ dX3_first_48 hP hS ?_
          exact ⟨kFt_m t2, Or.inl ⟨by omega, by omega, t0, Or.inl ⟨rfl, fun b b1 b2 => g2 b b1 (by omega)⟩⟩, by omega, by omega⟩
        · skip
          refine lv_aload_n hx hb dX3_first_30 rfl (lv_at hl 0 rfl) ?_
          refine lv_iload_n hx hb dX3_first_31 rfl (lv_at hl 1 rfl) ?_
          refine lv_iload_n hx hb dX3_first_32 rfl (lv_at hl 2 rfl) ?_
          refine k_callV (As := [.int (zI h), .int (zI a)]) (rest := []) S hK hP (c_X3_isSampleAt l E M2 h a (by omega) (by assumption) (by omega)) (cwV 2 S.2.2.2.2 gX3_first_X3_isSampleAt rfl rfl rfl (by decide +kernel) ⟨Nat.le_of_ble_eq_true rfl, Nat.le_of_ble_eq_true rfl⟩) (k_rY hK hP rfl) rfl hl.1 rfl (Nat.le_of_ble_eq_true rfl) dX3_first_33 ⟨Nat.le_of_ble_eq_true rfl, Nat.le_of_ble_eq_true rfl⟩ (fun z_33 h_33 => ?_)
          rw [kFm_row (kFt_m t2) (c := 13 + h) (by omega), kFm_row (kFt_m t2) (c := 16) (by omega), t15, t2 11 4 (by omega)] at h_33
          refine k_eq0 (tgt := 41) hx hb dX3_first_36 (by decide) (by omega) (fun c_36 => ?_) (fun c_36 => ?_)
          · skip
            obtain ⟨v2_41, ev2_41⟩ : ∃ v : Int, v = a + 1 := ⟨_, rfl⟩
            refine k_incN (v := v2_41) (lv' := [(2, .int (zI v2_41)), (0, .ref (E.2.2 11)), (1, .int (zI h))]) hx hb dX3_first_41 hl (k := 2) rfl ev2_41 (by decide) rfl (fun ls hl => ?_)
            refine lv_goto (tgt := 20) hx hb dX3_first_44 (by decide) ?_
            refine ih_20 v2_41 (by omega) ?_ (by omega) _ (lv_sub hl [1, 2, 0] rfl)
            · intro b b1 b2
              by_cases q : b = a
              · rw [q]; exact (h_33.resolve_left (fun q => by omega)).2
              · exact g2 b b1 (by omega)
          · skip
            refine lv_iload_n hx hb dX3_first_39 rfl (lv_at hl 2 rfl) ?_
            refine ends _ _ (a) M2 _ _ dX3_first_40 hP hS ?_
            exact ⟨kFt_m t2, Or.inl ⟨by omega, by omega, t0, Or.inr ⟨by omega, by omega, (h_33.resolve_right (fun q => c_36 q.1)).2, g2⟩⟩, by omega, by omega⟩
    refine lp_20 (((M 15 h - 0 : Int)).toNat + 1) 0 (by omega) (by intro b b1 b2; exfalso; omega) (by omega) _ (lv_sub hl [1, 2, 0] rfl)
  · skip
    refine lv_aload_n hx hb dX3_first_12 rfl (lv_at hl 0 rfl) ?_
    refine k_push hx hb dX3_first_13 ?_
    refine k_callVW (As := [.int (zI 1)]) (rest := []) S hK hP hS (c_X3_no l E hE M2 1 ) (cwV 1 S.2.2.2.2 gX3_first_X3_no rfl rfl rfl (by decide +kernel) ⟨Nat.le_of_ble_eq_true rfl, Nat.le_of_ble_eq_true rfl⟩) (k_rY hK hP rfl) rfl hl.1 rfl (Nat.le_of_ble_eq_true rfl) dX3_first_14 ⟨Nat.le_of_ble_eq_true rfl, Nat.le_of_ble_eq_true rfl⟩ (fun z_14 M_14 H locs h_14 hP hS => ?_)
    refine ends _ _ (z_14) M_14 _ _ dX3_first_17 hP hS ?_
    first
      | exact ⟨kFt_m (kFt_trans t2 (kFt_of h_14.2)), Or.inr ⟨by omega, kFt_11 h_14.2⟩, by have := h_14.1; omega, by have := h_14.1; omega⟩
abbrev rX3_period : Room := { frames := 2, cells := 0, slots := 0, locals := 45 }
set_option maxHeartbeats 4000000 in
set_option maxRecDepth 100000 in
theorem c_X3_period (l : Launch) (E : kE) (hE : kInj E) (M : kM) (h : Int) (hW : kWm M) (h1 : -2147483648 ≤ h ∧ h ≤ 2147483647) : kRW l yX3_period wsX3_period rX3_period E M [.ref (E.2.2 11), .int (zI h)] (fun z N => kFm M N ∧ ((0 ≤ h ∧ h < 2 ∧ N 11 0 = 0 ∧ kIsPer (M (13 + h)) (M 15 h) z) ∨ ((h < 0 ∨ 2 ≤ h) ∧ N 11 0 = 1)) ∧ -1 ≤ z ∧ z ≤ 3000) := by
  refine kRW_of (cc := cX3_period) (maxL := 2) (rt := .int) RX3 (by decide) rfl rfl (Nat.le_of_ble_eq_true rfl) k_nariW ?_
  intro pg en s0 mi ar bl me co ls Q S hP hS hK ends hl
  have hx := S.1
  have hb := S.2.1
  have hinX30 : ∀ w ∈ wsX30, w ∈ wsX3_period := fun w h => List.mem_cons_of_mem _ (List.mem_append_right _ (h))
  have hl : lv_has ls 2 [(0, .ref (E.2.2 11)), (1, .int (zI h))] := hl
  obtain ⟨hWh, hs0, hs1, hsv⟩ := id hW
  refine lv_aload_n hx hb dX3_period_0 rfl (lv_at hl 0 rfl) ?_
  refine k_push hx hb dX3_period_1 ?_
  refine k_putmod S hK hE hP hS hinX30 0 (by decide) (S.2.2.2.2 _ (List.mem_cons_of_mem _ (List.mem_append_left _ (List.mem_append_left _ (List.mem_of_getElem? (i := 0) rfl))))) dX3_period_2 rfl (fun H locs hP hS => ?_)
  obtain ⟨M2, eM2⟩ : ∃ N9 : kM, N9 = kU M 11 0 0 := ⟨_, rfl⟩
  have hP : va_P E.1 vwCl (kW E M2) H := by rw [eM2]; exact hP
  have t2 := kFt_of eM2
  have t0 : M2 11 0 = 0 := kFt_11 eM2
  have hW2 : kWm M2 := kWm_t hW t2
  have t15 : M2 15 h = M 15 h := t2 15 h (by omega)
  refine lv_iload_n hx hb dX3_period_5 rfl (lv_at hl 1 rfl) ?_
  refine k_callS (As := [.int (zI h)]) (rest := []) S hK hP (c_X3_isHem l E M2 h (by omega)) (va_cwS 1 S.2.2.2.2 gX3_period_X3_isHem rfl rfl rfl (by decide +kernel) ⟨Nat.le_of_ble_eq_true rfl, Nat.le_of_ble_eq_true rfl⟩) rfl hl.1 rfl (Nat.le_of_ble_eq_true rfl) dX3_period_6 ⟨Nat.le_of_ble_eq_true rfl, Nat.le_of_ble_eq_true rfl⟩ (fun z_6 h_6 => ?_)
  refine k_eq0 (tgt := 20) hx hb dX3_period_9 (by decide) (by omega) (fun c_9 => ?_) (fun c_9 => ?_)
  · skip
    refine lv_aload_n hx hb dX3_period_20 rfl (lv_at hl 0 rfl) ?_
    refine k_push hx hb dX3_period_21 ?_
    refine k_callVW (As := [.int (zI 1)]) (rest := []) S hK hP hS (c_X3_no l E hE M2 1 ) (cwV 1 S.2.2.2.2 gX3_period_X3_no rfl rfl rfl (by decide +kernel) ⟨Nat.le_of_ble_eq_true rfl, Nat.le_of_ble_eq_true rfl⟩) (k_rY hK hP rfl) rfl hl.1 rfl (Nat.le_of_ble_eq_true rfl) dX3_period_22 ⟨Nat.le_of_ble_eq_true rfl, Nat.le_of_ble_eq_true rfl⟩ (fun z_22 M_22 H locs h_22 hP hS => ?_)
    refine ends _ _ (z_22) M_22 _ _ dX3_period_25 hP hS ?_
    first
      | exact ⟨kFt_m t2, Or.inl ⟨by omega, by omega, t0, h_14.1⟩, by omega, by omega⟩
      | exact ⟨kFt_m (kFt_trans t2 (kFt_of h_22.2)), Or.inr ⟨by omega, kFt_11 h_22.2⟩, by have := h_22.1; omega, by have := h_22.1; omega⟩
  · skip
    refine lv_aload_n hx hb dX3_period_12 rfl (lv_at hl 0 rfl) ?_
    refine lv_iload_n hx hb dX3_period_13 rfl (lv_at hl 1 rfl) ?_
    refine k_callV (As := [.int (zI h)]) (rest := []) S hK hP (c_X3_periodOf l E M2 h (by omega) (by assumption)) (cwV 1 S.2.2.2.2 gX3_period_X3_periodOf rfl rfl rfl (by decide +kernel) ⟨Nat.le_of_ble_eq_true rfl, Nat.le_of_ble_eq_true rfl⟩) (k_rY hK hP rfl) rfl hl.1 rfl (Nat.le_of_ble_eq_true rfl) dX3_period_14 ⟨Nat.le_of_ble_eq_true rfl, Nat.le_of_ble_eq_true rfl⟩ (fun z_14 h_14 => ?_)
    rw [kFm_row (kFt_m t2) (c := 13 + h) (by omega), t15] at h_14
    refine lv_goto (tgt := 25) hx hb dX3_period_17 (by decide) ?_
    refine ends _ _ (z_14) M2 _ _ dX3_period_25 hP hS ?_
    first
      | exact ⟨kFt_m t2, Or.inl ⟨by omega, by omega, t0, h_14.1⟩, by omega, by omega⟩
      | exact ⟨kFt_m (kFt_trans t2 (kFt_of h_22.2)), Or.inr ⟨by omega, kFt_11 h_22.2⟩, by have := h_22.1; omega, by have := h_22.1; omega⟩
abbrev rX3_turned : Room := { frames := 2, cells := 0, slots := 0, locals := 50 }
set_option maxHeartbeats 4000000 in
set_option maxRecDepth 100000 in
theorem c_X3_turned (l : Launch) (E : kE) (hE : kInj E) (M : kM) (h : Int) (hW : kWm M) (h1 : -2147483648 ≤ h ∧ h ≤ 2147483647) : kRW l yX3_turned wsX3_turned rX3_turned E M [.ref (E.2.2 11), .int (zI h)] (fun z N => kFm M N ∧ ((0 ≤ h ∧ h < 2 ∧ N 11 0 = 0 ∧ kIsTurn (M (13 + h)) (M 15 h) z) ∨ ((h < 0 ∨ 2 ≤ h) ∧ N 11 0 = 1)) ∧ -1 ≤ z ∧ z ≤ 3000) := by
  refine kRW_of (cc := cX3_turned) (maxL := 2) (rt := .int) RX3 (by decide) rfl rfl (Nat.le_of_ble_eq_true rfl) k_nariW ?_
  intro pg en s0 mi ar bl me co ls Q S hP hS hK ends hl
  have hx := S.1
  have hb := S.2.1
  have hinX30 : ∀ w ∈ wsX30, w ∈ wsX3_turned := fun w h => List.mem_cons_of_mem _ (List.mem_append_right _ (h))
  have hl : lv_has ls 2 [(0, .ref (E.2.2 11)), (1, .int (zI h))] := hl
  obtain ⟨hWh, hs0, hs1, hsv⟩ := id hW
  refine lv_aload_n hx hb dX3_turned_0 rfl (lv_at hl 0 rfl) ?_
  refine k_push hx hb dX3_turned_1 ?_
  refine k_putmod S hK hE hP hS hinX30 0 (by decide) (S.2.2.2.2 _ (List.mem_cons_of_mem _ (List.mem_append_left _ (List.mem_of_getElem? (i := 0) rfl)))) dX3_turned_2 rfl (fun H locs hP hS => ?_)
  obtain ⟨M2, eM2⟩ : ∃ N9 : kM, N9 = kU M 11 0 0 := ⟨_, rfl⟩
  have hP : va_P E.1 vwCl (kW E M2) H := by rw [eM2]; exact hP
  have t2 := kFt_of eM2
  have t0 : M2 11 0 = 0 := kFt_11 eM2
  have hW2 : kWm M2 := kWm_t hW t2
  have t15 : M2 15 h = M 15 h := t2 15 h (by omega)
  refine lv_iload_n hx hb dX3_turned_5 rfl (lv_at hl 1 rfl) ?_
  refine k_callS (As := [.int (zI h)]) (rest := []) S hK hP (c_X3_isHem l E M2 h (by omega)) (va_cwS 1 S.2.2.2.2 gX3_turned_X3_isHem rfl rfl rfl (by decide +kernel) ⟨Nat.le_of_ble_eq_true rfl, Nat.le_of_ble_eq_true rfl⟩) rfl hl.1 rfl (Nat.le_of_ble_eq_true rfl) dX3_turned_6 ⟨Nat.le_of_ble_eq_true rfl, Nat.le_of_ble_eq_true rfl⟩ (fun z_6 h_6 => ?_)
  refine k_eq0 (tgt := 20) hx hb dX3_turned_9 (by decide) (by omega) (fun c_9 => ?_) (fun c_9 => ?_)
  · skip
    refine lv_aload_n hx hb dX3_turned_20 rfl (lv_at hl 0 rfl) ?_
    refine k_push hx hb dX3_turned_21 ?_
    refine k_callVW (As := [.int (zI 1)]) (rest := []) S hK hP hS (c_X3_no l E hE M2 1 ) (cwV 1 S.2.2.2.2 gX3_turned_X3_no rfl rfl rfl (by decide +kernel) ⟨Nat.le_of_ble_eq_true rfl, Nat.le_of_ble_eq_true rfl⟩) (k_rY hK hP rfl) rfl hl.1 rfl (Nat.le_of_ble_eq_true rfl) dX3_turned_22 ⟨Nat.le_of_ble_eq_true rfl, Nat.le_of_ble_eq_true rfl⟩ (fun z_22 M_22 H locs h_22 hP hS => ?_)
    refine ends _ _ (z_22) M_22 _ _ dX3_turned_25 hP hS ?_
    first
      | exact ⟨kFt_m t2, Or.inl ⟨by omega, by omega, t0, h_14.1⟩, by omega, by omega⟩
      | exact ⟨kFt_m (kFt_trans t2 (kFt_of h_22.2)), Or.inr ⟨by omega, kFt_11 h_22.2⟩, by have := h_22.1; omega, by have := h_22.1; omega⟩
  · skip
    refine lv_aload_n hx hb dX3_turned_12 rfl (lv_at hl 0 rfl) ?_
    refine lv_iload_n hx hb dX3_turned_13 rfl (lv_at hl 1 rfl) ?_
    refine k_callV (As := [.int (zI h)]) (rest := []) S hK hP (c_X3_turnedOf l E M2 h (by omega) (by assumption)) (cwV 1 S.2.2.2.2 gX3_turned_X3_turnedOf rfl rfl rfl (by decide +kernel) ⟨Nat.le_of_ble_eq_true rfl, Nat.le_of_ble_eq_true rfl⟩) (k_rY hK hP rfl) rfl hl.1 rfl (Nat.le_of_ble_eq_true rfl) dX3_turned_14 ⟨Nat.le_of_ble_eq_true rfl, Nat.le_of_ble_eq_true rfl⟩ (fun z_14 h_14 => ?_)
    rw [kFm_row (kFt_m t2) (c := 13 + h) (by omega), t15] at h_14
    refine lv_goto (tgt := 25) hx hb dX3_turned_17 (by decide) ?_
    refine ends _ _ (z_14) M2 _ _ dX3_turned_25 hP hS ?_
    first
      | exact ⟨kFt_m t2, Or.inl ⟨by omega, by omega, t0, h_14.1⟩, by omega, by omega⟩
      | exact ⟨kFt_m (kFt_trans t2 (kFt_of h_22.2)), Or.inr ⟨by omega, kFt_11 h_22.2⟩, by have := h_22.1; omega, by have := h_22.1; omega⟩
abbrev rX3_seam : Room := { frames := 3, cells := 0, slots := 0, locals := 75 }
set_option maxHeartbeats 4000000 in
set_option maxRecDepth 100000 in
theorem c_X3_seam (l : Launch) (E : kE) (hE : kInj E) (M : kM) (w : Int) (hW : kWm M) (h1 : -2147483648 ≤ w ∧ w ≤ 2147483647) : kRW l yX3_seam wsX3_seam rX3_seam E M [.ref (E.2.2 11), .int (zI w)] (fun z N => kFm M N ∧ ((0 ≤ w ∧ w ≤ 2 ∧ N 11 0 = 0 ∧ kIsSeam (M 13) (M 15 0) (M 14) (M 15 1) w z) ∨ ((w < 0 ∨ 2 < w) ∧ N 11 0 = 1)) ∧ -1 ≤ z ∧ z ≤ 3000) := by
  refine kRW_of (cc := cX3_seam) (maxL := 2) (rt := .int) RX3 (by decide) rfl rfl (Nat.le_of_ble_eq_true rfl) k_nariW ?_
  intro pg en s0 mi ar bl me co ls Q S hP hS hK ends hl
  have hx := S.1
  have hb := S.2.1
  have hinX30 : ∀ w ∈ wsX30, w ∈ wsX3_seam := fun w h => List.mem_cons_of_mem _ (List.mem_append_right _ (h))
  have hl : lv_has ls 2 [(0, .ref (E.2.2 11)), (1, .int (zI w))] := hl
  obtain ⟨hWh, hs0, hs1, hsv⟩ := id hW
  refine lv_aload_n hx hb dX3_seam_0 rfl (lv_at hl 0 rfl) ?_
  refine k_push hx hb dX3_seam_1 ?_
  refine k_putmod S hK hE hP hS hinX30 0 (by decide) (S.2.2.2.2 _ (List.mem_cons_of_mem _ (List.mem_append_left _ (List.mem_append_left _ (List.mem_of_getElem? (i := 0) rfl))))) dX3_seam_2 rfl (fun H locs hP hS => ?_)
  obtain ⟨M2, eM2⟩ : ∃ N9 : kM, N9 = kU M 11 0 0 := ⟨_, rfl⟩
  have hP : va_P E.1 vwCl (kW E M2) H := by rw [eM2]; exact hP
  have t2 := kFt_of eM2
  have t0 : M2 11 0 = 0 := kFt_11 eM2
  have hW2 : kWm M2 := kWm_t hW t2
  refine lv_iload_n hx hb dX3_seam_5 rfl (lv_at hl 1 rfl) ?_
  refine k_push hx hb dX3_seam_6 ?_
  refine k_push hx hb dX3_seam_7 ?_
  refine k_callS (As := [.int (zI w), .int (zI 0), .int (zI 2)]) (rest := []) S hK hP (c_X3_isIn l E M2 w 0 2 (by omega)) (va_cwS 3 S.2.2.2.2 gX3_seam_X3_isIn rfl rfl rfl (by decide +kernel) ⟨Nat.le_of_ble_eq_true rfl, Nat.le_of_ble_eq_true rfl⟩) rfl hl.1 rfl (Nat.le_of_ble_eq_true rfl) dX3_seam_8 ⟨Nat.le_of_ble_eq_true rfl, Nat.le_of_ble_eq_true rfl⟩ (fun z_8 h_8 => ?_)
  refine k_eq0 (tgt := 22) hx hb dX3_seam_11 (by decide) (by omega) (fun c_11 => ?_) (fun c_11 => ?_)
  · skip
    refine lv_aload_n hx hb dX3_seam_22 rfl (lv_at hl 0 rfl) ?_
    refine k_push hx hb dX3_seam_23 ?_
    refine k_callVW (As := [.int (zI 1)]) (rest := []) S hK hP hS (c_X3_no l E hE M2 1 ) (cwV 1 S.2.2.2.2 gX3_seam_X3_no rfl rfl rfl (by decide +kernel) ⟨Nat.le_of_ble_eq_true rfl, Nat.le_of_ble_eq_true rfl⟩) (k_rY hK hP rfl) rfl hl.1 rfl (Nat.le_of_ble_eq_true rfl) dX3_seam_24 ⟨Nat.le_of_ble_eq_true rfl, Nat.le_of_ble_eq_true rfl⟩ (fun z_24 M_24 H locs h_24 hP hS => ?_)
    refine ends _ _ (z_24) M_24 _ _ dX3_seam_27 hP hS ?_
    first
      | exact ⟨kFm_trans (kFt_m t2) (kFm_F q1 (by omega)), Or.inl ⟨by omega, by omega, by rw [q1 11 0 (by omega)]; exact t0, q2⟩, by omega, by omega⟩
      | exact ⟨kFt_m (kFt_trans t2 (kFt_of h_24.2)), Or.inr ⟨by omega, kFt_11 h_24.2⟩, by have := h_24.1; omega, by have := h_24.1; omega⟩
  · skip
    refine lv_aload_n hx hb dX3_seam_14 rfl (lv_at hl 0 rfl) ?_
    refine lv_iload_n hx hb dX3_seam_15 rfl (lv_at hl 1 rfl) ?_
    refine k_callVW (As := [.int (zI w)]) (rest := []) S hK hP hS (c_X3_seamTold l E hE M2 w (by assumption) (by omega)) (cwV 1 S.2.2.2.2 gX3_seam_X3_seamTold rfl rfl rfl (by decide +kernel) ⟨Nat.le_of_ble_eq_true rfl, Nat.le_of_ble_eq_true rfl⟩) (k_rY hK hP rfl) rfl hl.1 rfl (Nat.le_of_ble_eq_true rfl) dX3_seam_16 ⟨Nat.le_of_ble_eq_true rfl, Nat.le_of_ble_eq_true rfl⟩ (fun z_16 M_16 H locs h_16 hP hS => ?_)
    obtain ⟨q1, q2, q3⟩ := h_16
    rw [kFm_row (kFt_m t2) (c := 13) (by omega), kFm_row (kFt_m t2) (c := 14) (by omega), t2 15 0 (by omega), t2 15 1 (by omega)] at q2
    refine lv_goto (tgt := 27) hx hb dX3_seam_19 (by decide) ?_
    refine ends _ _ (z_16) M_16 _ _ dX3_seam_27 hP hS ?_
    first
      | exact ⟨kFm_trans (kFt_m t2) (kFm_F q1 (by omega)), Or.inl ⟨by omega, by omega, by rw [q1 11 0 (by omega)]; exact t0, q2⟩, by omega, by omega⟩
      | exact ⟨kFt_m (kFt_trans t2 (kFt_of h_24.2)), Or.inr ⟨by omega, kFt_11 h_24.2⟩, by have := h_24.1; omega, by have := h_24.1; omega⟩
abbrev rX3_would : Room := { frames := 2, cells := 0, slots := 0, locals := 47 }
set_option maxHeartbeats 4000000 in
set_option maxRecDepth 100000 in
theorem c_X3_would (l : Launch) (E : kE) (hE : kInj E) (M : kM) (h st : Int) (hW : kWm M) (h1 : -2147483648 ≤ h ∧ h ≤ 2147483647 ∧ -2147483648 ≤ st ∧ st ≤ 2147483647) : kRW l yX3_would wsX3_would rX3_would E M [.ref (E.2.2 11), .int (zI h), .int (zI st)] (fun z N => kFm M N ∧ ((0 ≤ h ∧ h < 2 ∧ 0 ≤ st ∧ st ≤ 8 ∧ N 11 0 = 0 ∧ kIsNew (M (13 + h)) (M 15 h) st z) ∨ ((h < 0 ∨ 2 ≤ h) ∧ N 11 0 = 1) ∨ (0 ≤ h ∧ h < 2 ∧ (st < 0 ∨ 8 < st) ∧ N 11 0 = 2)) ∧ -1 ≤ z ∧ z ≤ 3000) := by
  refine kRW_of (cc := cX3_would) (maxL := 3) (rt := .int) RX3 (by decide) rfl rfl (Nat.le_of_ble_eq_true rfl) k_nariW ?_
  intro pg en s0 mi ar bl me co ls Q S hP hS hK ends hl
  have hx := S.1
  have hb := S.2.1
  have hinX30 : ∀ w ∈ wsX30, w ∈ wsX3_would := fun w h => List.mem_cons_of_mem _ (List.mem_append_right _ (h))
  have hl : lv_has ls 3 [(0, .ref (E.2.2 11)), (1, .int (zI h)), (2, .int (zI st))] := hl
  obtain ⟨hWh, hs0, hs1, hsv⟩ := id hW
  refine lv_aload_n hx hb dX3_would_0 rfl (lv_at hl 0 rfl) ?_
  refine k_push hx hb dX3_would_1 ?_
  refine k_putmod S hK hE hP hS hinX30 0 (by decide) (S.2.2.2.2 _ (List.mem_cons_of_mem _ (List.mem_append_left _ (List.mem_append_left _ (List.mem_of_getElem? (i := 0) rfl))))) dX3_would_2 rfl (fun H locs hP hS => ?_)
  obtain ⟨M2, eM2⟩ : ∃ N9 : kM, N9 = kU M 11 0 0 := ⟨_, rfl⟩
  have hP : va_P E.1 vwCl (kW E M2) H := by rw [eM2]; exact hP
  have t2 := kFt_of eM2
  have t0 : M2 11 0 = 0 := kFt_11 eM2
  have hW2 : kWm M2 := kWm_t hW t2
  have t15 : M2 15 h = M 15 h := t2 15 h (by omega)
  refine lv_iload_n hx hb dX3_would_5 rfl (lv_at hl 1 rfl) ?_
  refine k_callS (As := [.int (zI h)]) (rest := []) S hK hP (c_X3_isHem l E M2 h (by omega)) (va_cwS 1 S.2.2.2.2 gX3_would_X3_isHem rfl rfl rfl (by decide +kernel) ⟨Nat.le_of_ble_eq_true rfl, Nat.le_of_ble_eq_true rfl⟩) rfl hl.1 rfl (Nat.le_of_ble_eq_true rfl) dX3_would_6 ⟨Nat.le_of_ble_eq_true rfl, Nat.le_of_ble_eq_true rfl⟩ (fun z_6 h_6 => ?_)
  refine k_ne0 (tgt := 18) hx hb dX3_would_9 (by decide) (by omega) (fun c_9 => ?_) (fun c_9 => ?_)
  · skip
    refine lv_iload_n hx hb dX3_would_18 rfl (lv_at hl 2 rfl) ?_
    refine k_callS (As := [.int (zI st)]) (rest := []) S hK hP (c_X3_isStitch l E M2 st (by omega)) (va_cwS 1 S.2.2.2.2 gX3_would_X3_isStitch rfl rfl rfl (by decide +kernel) ⟨Nat.le_of_ble_eq_true rfl, Nat.le_of_ble_eq_true rfl⟩) rfl hl.1 rfl (Nat.le_of_ble_eq_true rfl) dX3_would_19 ⟨Nat.le_of_ble_eq_true rfl, Nat.le_of_ble_eq_true rfl⟩ (fun z_19 h_19 => ?_)
    refine k_eq0 (tgt := 34) hx hb dX3_would_22 (by decide) (by omega) (fun c_22 => ?_) (fun c_22 => ?_)
    · skip
      refine lv_aload_n hx hb dX3_would_34 rfl (lv_at hl 0 rfl) ?_
      refine k_push hx hb dX3_would_35 ?_
      refine k_callVW (As := [.int (zI 2)]) (rest := []) S hK hP hS (c_X3_no l E hE M2 2 ) (cwV 1 S.2.2.2.2 gX3_would_X3_no rfl rfl rfl (by decide +kernel) ⟨Nat.le_of_ble_eq_true rfl, Nat.le_of_ble_eq_true rfl⟩) (k_rY hK hP rfl) rfl hl.1 rfl (Nat.le_of_ble_eq_true rfl) dX3_would_36 ⟨Nat.le_of_ble_eq_true rfl, Nat.le_of_ble_eq_true rfl⟩ (fun z_36 M_36 H locs h_36 hP hS => ?_)
      refine ends _ _ (z_36) M_36 _ _ dX3_would_39 hP hS ?_
      first
        | exact ⟨kFt_m t2, Or.inl ⟨by omega, by omega, by omega, by omega, t0, h_28.1⟩, by omega, by omega⟩
        | exact ⟨kFt_m (kFt_trans t2 (kFt_of h_36.2)), Or.inr (Or.inr ⟨by omega, by omega, by omega, kFt_11 h_36.2⟩), by have := h_36.1; omega, by have := h_36.1; omega⟩
    · skip
      refine lv_aload_n hx hb dX3_would_25 rfl (lv_at hl 0 rfl) ?_
      refine lv_iload_n hx hb dX3_would_26 rfl (lv_at hl 1 rfl) ?_
      refine lv_iload_n hx hb dX3_would_27 rfl (lv_at hl 2 rfl) ?_
      refine k_callV (As := [.int (zI h), .int (zI st)]) (rest := []) S hK hP (c_X3_more l E M2 h st (by omega) (by assumption) (by omega)) (cwV 2 S.2.2.2.2 gX3_would_X3_more rfl rfl rfl (by decide +kernel) ⟨Nat.le_of_ble_eq_true rfl, Nat.le_of_ble_eq_true rfl⟩) (k_rY hK hP rfl) rfl hl.1 rfl (Nat.le_of_ble_eq_true rfl) dX3_would_28 ⟨Nat.le_of_ble_eq_true rfl, Nat.le_of_ble_eq_true rfl⟩ (fun z_28 h_28 => ?_)
      rw [kFm_row (kFt_m t2) (c := 13 + h) (by omega), t15] at h_28
      refine lv_goto (tgt := 39) hx hb dX3_would_31 (by decide) ?_
      refine ends _ _ (z_28) M2 _ _ dX3_would_39 hP hS ?_
      first
        | exact ⟨kFt_m t2, Or.inl ⟨by omega, by omega, by omega, by omega, t0, h_28.1⟩, by omega, by omega⟩
        | exact ⟨kFt_m (kFt_trans t2 (kFt_of h_36.2)), Or.inr (Or.inr ⟨by omega, by omega, by omega, kFt_11 h_36.2⟩), by have := h_36.1; omega, by have := h_36.1; omega⟩
  · skip
    refine lv_aload_n hx hb dX3_would_12 rfl (lv_at hl 0 rfl) ?_
    refine k_push hx hb dX3_would_13 ?_
    refine k_callVW (As := [.int (zI 1)]) (rest := []) S hK hP hS (c_X3_no l E hE M2 1 ) (cwV 1 S.2.2.2.2 gX3_would_X3_no rfl rfl rfl (by decide +kernel) ⟨Nat.le_of_ble_eq_true rfl, Nat.le_of_ble_eq_true rfl⟩) (k_rY hK hP rfl) rfl hl.1 rfl (Nat.le_of_ble_eq_true rfl) dX3_would_14 ⟨Nat.le_of_ble_eq_true rfl, Nat.le_of_ble_eq_true rfl⟩ (fun z_14 M_14 H locs h_14 hP hS => ?_)
    refine ends _ _ (z_14) M_14 _ _ dX3_would_17 hP hS ?_
    first
      | exact ⟨kFt_m (kFt_trans t2 (kFt_of h_14.2)), Or.inr (Or.inl ⟨by omega, kFt_11 h_14.2⟩), by have := h_14.1; omega, by have := h_14.1; omega⟩
abbrev rX3_advise : Room := { frames := 2, cells := 0, slots := 0, locals := 47 }
set_option maxHeartbeats 4000000 in
set_option maxRecDepth 100000 in
theorem c_X3_advise (l : Launch) (E : kE) (hE : kInj E) (M : kM) (h : Int) (hW : kWm M) (h1 : -2147483648 ≤ h ∧ h ≤ 2147483647) : kRW l yX3_advise wsX3_advise rX3_advise E M [.ref (E.2.2 11), .int (zI h)] (fun z N => kFm M N ∧ ((0 ≤ h ∧ h < 2 ∧ N 11 0 = 0 ∧ kIsAdv (M (13 + h)) (M 15 h) z) ∨ ((h < 0 ∨ 2 ≤ h) ∧ N 11 0 = 1)) ∧ -1 ≤ z ∧ z ≤ 3000) := by
  refine kRW_of (cc := cX3_advise) (maxL := 4) (rt := .int) RX3 (by decide) rfl rfl (Nat.le_of_ble_eq_true rfl) k_nariW ?_
  intro pg en s0 mi ar bl me co ls Q S hP hS hK ends hl
  have hx := S.1
  have hb := S.2.1
  have hinX30 : ∀ w ∈ wsX30, w ∈ wsX3_advise := fun w h => List.mem_cons_of_mem _ (List.mem_append_right _ (h))
  have hl : lv_has ls 4 [(0, .ref (E.2.2 11)), (1, .int (zI h))] := hl
  obtain ⟨hWh, hs0, hs1, hsv⟩ := id hW
  refine lv_aload_n hx hb dX3_advise_0 rfl (lv_at hl 0 rfl) ?_
  refine k_push hx hb dX3_advise_1 ?_
  refine k_putmod S hK hE hP hS hinX30 0 (by decide) (S.2.2.2.2 _ (List.mem_cons_of_mem _ (List.mem_append_left _ (List.mem_of_getElem? (i := 0) rfl)))) dX3_advise_2 rfl (fun H locs hP hS => ?_)
  obtain ⟨M2, eM2⟩ : ∃ N9 : kM, N9 = kU M 11 0 0 := ⟨_, rfl⟩
  have hP : va_P E.1 vwCl (kW E M2) H := by rw [eM2]; exact hP
  have t2 := kFt_of eM2
  have t0 : M2 11 0 = 0 := kFt_11 eM2
  have hW2 : kWm M2 := kWm_t hW t2
  have t15 : M2 15 h = M 15 h := t2 15 h (by omega)
  refine lv_iload_n hx hb dX3_advise_5 rfl (lv_at hl 1 rfl) ?_
  refine k_callS (As := [.int (zI h)]) (rest := []) S hK hP (c_X3_isHem l E M2 h (by omega)) (va_cwS 1 S.2.2.2.2 gX3_advise_X3_isHem rfl rfl rfl (by decide +kernel) ⟨Nat.le_of_ble_eq_true rfl, Nat.le_of_ble_eq_true rfl⟩) rfl hl.1 rfl (Nat.le_of_ble_eq_true rfl) dX3_advise_6 ⟨Nat.le_of_ble_eq_true rfl, Nat.le_of_ble_eq_true rfl⟩ (fun z_6 h_6 => ?_)
  refine k_ne0 (tgt := 18) hx hb dX3_advise_9 (by decide) (by omega) (fun c_9 => ?_) (fun c_9 => ?_)
  · skip
    obtain ⟨hn0, hn1, hv⟩ := hWh h (by omega)
    refine k_push hx hb dX3_advise_18 ?_
    refine lv_istore_n (lv' := [(2, .int (zI 0)), (0, .ref (E.2.2 11)), (1, .int (zI h))]) hx hb dX3_advise_19 rfl hl (by decide) rfl (fun ls hl => ?_)
    refine k_push hx hb dX3_advise_20 ?_
    refine lv_istore_n (lv' := [(3, .int (zI 1)), (2, .int (zI 0)), (0, .ref (E.2.2 11)), (1, .int (zI h))]) hx hb dX3_advise_21 rfl hl (by decide) rfl (fun ls hl => ?_)
    have lp_22 : ∀ (n_22 : Nat) (b : Int) (s : Int), (1 ≤ s ∧ s ≤ 9 ∧ 0 ≤ b ∧ b ≤ 8) → (b = kArg (fun s => kVal (kIsNew (M (13 + h)) (M 15 h) s)) (s - 1).toNat) → (∀ u : Int, 1 ≤ u → u < s → ∃ z : Int, kIsNew (M (13 + h)) (M 15 h) u z) → (1 < s → ∃ z : Int, kIsNew (M (13 + h)) (M 15 h) 0 z) → (9 - s < (n_22 : Int)) → ∀ ls : Array Slot, lv_has ls 4 [(0, .ref (E.2.2 11)), (1, .int (zI h)), (2, .int (zI b)), (3, .int (zI s))] → W pg l en rX3_advise s0 mi ar bl me co H locs 0 0 Q (F0 mi 22 ls []) := by
      intro n_22
      induction n_22 with
      | zero => intro b s g1 g2 g3 g4 hm_22; exfalso; omega
      | succ n_22 ih_22 =>
        intro b s g1 g2 g3 g4 hm_22 ls hl
        refine lv_iload_n hx hb dX3_advise_22 rfl (lv_at hl 3 rfl) ?_
        refine k_bpush hx hb dX3_advise_23 (by decide) ?_
        refine k_ge (tgt := 51) hx hb dX3_advise_25 (by decide) (by omega) (fun c_25 => ?_) (fun c_25 => ?_)
        · skip
          refine lv_iload_n hx hb dX3_advise_51 rfl (lv_at hl 2 rfl) ?_
          refine ends _ _ (b) M2 _ _ dX3_advise_52 hP hS ?_
          refine ⟨kFt_m t2, Or.inl ⟨by omega, by omega, t0, ⟨fun s => kVal (kIsNew (M (13 + h)) (M 15 h) s), fun u u1 u2 => ?_, ?_⟩⟩, by omega, by omega⟩
          · have q : ∃ z : Int, kIsNew (M (13 + h)) (M 15 h) u z := by
              by_cases q : u = 0
              · rw [q]; exact g4 (by omega)
              · exact g3 u (by omega) (by omega)
            exact Classical.epsilon_spec q
          · rw [g2, show s - 1 = 8 by omega]; rfl
        · skip
          refine lv_aload_n hx hb dX3_advise_28 rfl (lv_at hl 0 rfl) ?_
          refine lv_iload_n hx hb dX3_advise_29 rfl (lv_at hl 1 rfl) ?_
          refine lv_iload_n hx hb dX3_advise_30 rfl (lv_at hl 3 rfl) ?_
          refine k_callV (As := [.int (zI h), .int (zI s)]) (rest := []) S hK hP (c_X3_more l E M2 h s (by omega) (by assumption) (by omega)) (cwV 2 S.2.2.2.2 gX3_advise_X3_more rfl rfl rfl (by decide +kernel) ⟨Nat.le_of_ble_eq_true rfl, Nat.le_of_ble_eq_true rfl⟩) (k_rY hK hP rfl) rfl hl.1 rfl (Nat.le_of_ble_eq_true rfl) dX3_advise_31 ⟨Nat.le_of_ble_eq_true rfl, Nat.le_of_ble_eq_true rfl⟩ (fun z_31 h_31 => ?_)
          have q31 : z_31 = kVal (kIsNew (M (13 + h)) (M 15 h) s) := by
            have q := h_31.1
            rw [kFm_row (kFt_m t2) (c := 13 + h) (by omega), t15] at q
            exact kVal_of q (fun _ _ => kIsNew_one)
          refine lv_aload_n hx hb dX3_advise_34 rfl (lv_at hl 0 rfl) ?_
          refine lv_iload_n hx hb dX3_advise_35 rfl (lv_at hl 1 rfl) ?_
          refine lv_iload_n hx hb dX3_advise_36 rfl (lv_at hl 2 rfl) ?_
          refine k_callV (As := [.int (zI h), .int (zI b)]) (rest := [.int (zI z_31)]) S hK hP (c_X3_more l E M2 h b (by omega) (by assumption) (by omega)) (cwV 2 S.2.2.2.2 gX3_advise_X3_more rfl rfl rfl (by decide +kernel) ⟨Nat.le_of_ble_eq_true rfl, Nat.le_of_ble_eq_true rfl⟩) (k_rY hK hP rfl) rfl hl.1 rfl (Nat.le_of_ble_eq_true rfl) dX3_advise_37 ⟨Nat.le_of_ble_eq_true rfl, Nat.le_of_ble_eq_true rfl⟩ (fun z_37 h_37 => ?_)
          have q37 : z_37 = kVal (kIsNew (M (13 + h)) (M 15 h) b) := by
            have q := h_37.1
            rw [kFm_row (kFt_m t2) (c := 13 + h) (by omega), t15] at q
            exact kVal_of q (fun _ _ => kIsNew_one)
          refine k_ge (tgt := 45) hx hb dX3_advise_40 (by decide) (by omega) (fun c_40 => ?_) (fun c_40 => ?_)
          · skip
            obtain ⟨v3_45, ev3_45⟩ : ∃ v : Int, v = s + 1 := ⟨_, rfl⟩
            refine k_incN (v := v3_45) (lv' := [(3, .int (zI v3_45)), (0, .ref (E.2.2 11)), (1, .int (zI h)), (2, .int (zI b))]) hx hb dX3_advise_45 hl (k := 3) rfl ev3_45 (by decide) rfl (fun ls hl => ?_)
            refine lv_goto (tgt := 22) hx hb dX3_advise_48 (by decide) ?_
            refine ih_22 b v3_45 (by omega) ?_ ?_ ?_ (by omega) _ (lv_sub hl [1, 2, 3, 0] rfl)
            · subst ev3_45
              rw [show s + 1 - 1 = s by omega, kArg_step _ (by omega), ← g2]
              first | (rw [if_pos (by omega)]) | (rw [if_neg (by omega)])
            · intro u u1 u2
              by_cases q : u = s
              · rw [q]; have q := h_31.1; rw [kFm_row (kFt_m t2) (c := 13 + h) (by omega), t15] at q; exact ⟨_, q⟩
              · exact g3 u u1 (by omega)
            · intro _
              by_cases q : s = 1
              · have q2 := h_37.1; rw [kFm_row (kFt_m t2) (c := 13 + h) (by omega), t15, show b = 0 by rw [g2, q]; rfl] at q2; exact ⟨_, q2⟩
              · exact g4 (by omega)
          · skip
            refine lv_iload_n hx hb dX3_advise_43 rfl (lv_at hl 3 rfl) ?_
            refine lv_istore_n (lv' := [(2, .int (zI s)), (0, .ref (E.2.2 11)), (1, .int (zI h)), (3, .int (zI s))]) hx hb dX3_advise_44 rfl hl (by decide) rfl (fun ls hl => ?_)
            obtain ⟨v3_45, ev3_45⟩ : ∃ v : Int, v = s + 1 := ⟨_, rfl⟩
            refine k_incN (v := v3_45) (lv' := [(3, .int (zI v3_45)), (2, .int (zI s)), (0, .ref (E.2.2 11)), (1, .int (zI h))]) hx hb dX3_advise_45 hl (k := 3) rfl ev3_45 (by decide) rfl (fun ls hl => ?_)
            refine lv_goto (tgt := 22) hx hb dX3_advise_48 (by decide) ?_
            refine ih_22 s v3_45 (by omega) ?_ ?_ ?_ (by omega) _ (lv_sub hl [2, 3, 1, 0] rfl)
            · subst ev3_45
              rw [show s + 1 - 1 = s by omega, kArg_step _ (by omega), ← g2]
              first | (rw [if_pos (by omega)]) | (rw [if_neg (by omega)])
            · intro u u1 u2
              by_cases q : u = s
              · rw [q]; have q := h_31.1; rw [kFm_row (kFt_m t2) (c := 13 + h) (by omega), t15] at q; exact ⟨_, q⟩
              · exact g3 u u1 (by omega)
            · intro _
              by_cases q : s = 1
              · have q2 := h_37.1; rw [kFm_row (kFt_m t2) (c := 13 + h) (by omega), t15, show b = 0 by rw [g2, q]; rfl] at q2; exact ⟨_, q2⟩
              · exact g4 (by omega)
    refine lp_22 (((9 - 1 : Int)).toNat + 1) 0 1 (by omega) (by rfl) (by intro u u1 u2; exfalso; omega) (by intro q; exfalso; omega) (by omega) _ (lv_sub hl [2, 3, 1, 0] rfl)
  · skip
    refine lv_aload_n hx hb dX3_advise_12 rfl (lv_at hl 0 rfl) ?_
    refine k_push hx hb dX3_advise_13 ?_
    refine k_callVW (As := [.int (zI 1)]) (rest := []) S hK hP hS (c_X3_no l E hE M2 1 ) (cwV 1 S.2.2.2.2 gX3_advise_X3_no rfl rfl rfl (by decide +kernel) ⟨Nat.le_of_ble_eq_true rfl, Nat.le_of_ble_eq_true rfl⟩) (k_rY hK hP rfl) rfl hl.1 rfl (Nat.le_of_ble_eq_true rfl) dX3_advise_14 ⟨Nat.le_of_ble_eq_true rfl, Nat.le_of_ble_eq_true rfl⟩ (fun z_14 M_14 H locs h_14 hP hS => ?_)
    refine ends _ _ (z_14) M_14 _ _ dX3_advise_17 hP hS ?_
    first
      | exact ⟨kFt_m (kFt_trans t2 (kFt_of h_14.2)), Or.inr ⟨by omega, kFt_11 h_14.2⟩, by have := h_14.1; omega, by have := h_14.1; omega⟩
