abbrev rX2_mean : Room := { frames := 4, cells := 0, slots := 0, locals := 91 }
set_option maxHeartbeats 4000000 in
set_option maxRecDepth 100000 in
theorem c_X2_mean (l : Launch) (E : kE) (hE : kInj E) (M : kM) (hW : kWf M) (hO2 : ∀ h : Int, 0 ≤ h ∧ h < 2 → kO M h) : kMD l yX2_mean wsX2_mean rX2_mean E M [.ref (E.2.2 10)] (fun r N => N = M ∧ kIsMean (M 3) (M 0 1) (M 4) (M 1 1) r) := by
  refine kMD_of (cc := cX2_mean) (maxL := 3) RX2 (by decide) rfl rfl (Nat.le_of_ble_eq_true rfl) ?_
  intro pg en s0 mi ar bl me co ls Q S hP hS hK ends0 ends1 hl
  have hx := S.1
  have hb := S.2.1
  have hinX00 : ∀ w ∈ wsX00, w ∈ wsX2_mean := fun w h => List.mem_cons_of_mem _ (List.mem_append_left _ (List.mem_append_right _ (h)))
  have hinX10 : ∀ w ∈ wsX10, w ∈ wsX2_mean := fun w h => List.mem_cons_of_mem _ (List.mem_append_right _ (h))
  have hinX20 : ∀ w ∈ wsX20, w ∈ wsX2_mean := fun w h => List.mem_cons_of_mem _ (List.mem_append_left _ (List.mem_append_left _ (List.mem_append_right _ (h))))
  have hl : lv_has ls 3 [(0, .ref (E.2.2 10))] := hl
  obtain ⟨hn0, hn1, hv⟩ := hW 0 (by omega)
  obtain ⟨hm0, hm1, hw1⟩ := hW 1 (by omega)
  obtain ⟨hs0, hs1, hsv⟩ := hW 2 (by omega)
  refine lv_aload_n hx hb dX2_mean_0 rfl (lv_at hl 0 rfl) ?_
  refine k_own S hK hP hinX20 0 (by decide) (S.2.2.2.2 _ (List.mem_cons_of_mem _ (List.mem_append_left _ (List.mem_append_left _ (List.mem_append_left _ (List.mem_append_left _ (List.mem_of_getElem? (i := 0) rfl))))))) dX2_mean_1 rfl (6 + 0) rfl rfl ?_
  refine k_callV (As := []) (rest := []) S hK hP (c_X0_neighbourPairs l E M 0 (by omega) (by assumption)) (cwV 0 S.2.2.2.2 gX2_mean_X0_neighbourPairs rfl rfl rfl (by decide +kernel) ⟨Nat.le_of_ble_eq_true rfl, Nat.le_of_ble_eq_true rfl⟩) (k_rH hK hP (by omega)) rfl hl.1 rfl (Nat.le_of_ble_eq_true rfl) dX2_mean_4 ⟨Nat.le_of_ble_eq_true rfl, Nat.le_of_ble_eq_true rfl⟩ (fun z_4 h_4 => ?_)
  refine lv_aload_n hx hb dX2_mean_7 rfl (lv_at hl 0 rfl) ?_
  refine k_own S hK hP hinX20 1 (by decide) (S.2.2.2.2 _ (List.mem_cons_of_mem _ (List.mem_append_left _ (List.mem_append_left _ (List.mem_append_left _ (List.mem_append_left _ (List.mem_of_getElem? (i := 1) rfl))))))) dX2_mean_8 rfl (6 + 1) rfl rfl ?_
  refine k_callV (As := []) (rest := [.int (zI z_4)]) S hK hP (c_X0_neighbourPairs l E M 1 (by omega) (by assumption)) (cwV 0 S.2.2.2.2 gX2_mean_X0_neighbourPairs rfl rfl rfl (by decide +kernel) ⟨Nat.le_of_ble_eq_true rfl, Nat.le_of_ble_eq_true rfl⟩) (k_rH hK hP (by omega)) rfl hl.1 rfl (Nat.le_of_ble_eq_true rfl) dX2_mean_11 ⟨Nat.le_of_ble_eq_true rfl, Nat.le_of_ble_eq_true rfl⟩ (fun z_11 h_11 => ?_)
  refine k_add hx hb dX2_mean_14 ?_
  refine k_nm (fun v1_15 ev1_15 => ?_)
  refine lv_istore_n (lv' := [(1, .int (zI v1_15)), (0, .ref (E.2.2 10))]) hx hb dX2_mean_15 rfl hl (by decide) rfl (fun ls hl => ?_)
  have eb : v1_15 = kPr (M 0 1) + kPr (M 1 1) := by unfold kPr; split <;> split <;> omega
  refine lv_iload_n hx hb dX2_mean_16 rfl (lv_at hl 0 rfl) ?_
  refine k_ne0 (tgt := 22) hx hb dX2_mean_17 (by decide) (by omega) (fun c_17 => ?_) (fun c_17 => ?_)
  · skip
    refine lv_aload_n hx hb dX2_mean_22 rfl (lv_at hl 1 rfl) ?_
    refine k_own S hK hP hinX20 0 (by decide) (S.2.2.2.2 _ (List.mem_cons_of_mem _ (List.mem_append_left _ (List.mem_append_left _ (List.mem_append_left _ (List.mem_append_left _ (List.mem_of_getElem? (i := 0) rfl))))))) dX2_mean_23 rfl (6 + 0) rfl rfl ?_
    refine k_callV (As := []) (rest := []) S hK hP (c_X0_sharedByNeighbours l E M 0 (by omega) (by assumption) (by exact hO2 _ (by omega))) (cwV 0 S.2.2.2.2 gX2_mean_X0_sharedByNeighbours rfl rfl rfl (by decide +kernel) ⟨Nat.le_of_ble_eq_true rfl, Nat.le_of_ble_eq_true rfl⟩) (k_rH hK hP (by omega)) rfl hl.1 rfl (Nat.le_of_ble_eq_true rfl) dX2_mean_26 ⟨Nat.le_of_ble_eq_true rfl, Nat.le_of_ble_eq_true rfl⟩ (fun z_26 h_26 => ?_)
    refine lv_aload_n hx hb dX2_mean_29 rfl (lv_at hl 1 rfl) ?_
    refine k_own S hK hP hinX20 1 (by decide) (S.2.2.2.2 _ (List.mem_cons_of_mem _ (List.mem_append_left _ (List.mem_append_left _ (List.mem_append_left _ (List.mem_append_left _ (List.mem_of_getElem? (i := 1) rfl))))))) dX2_mean_30 rfl (6 + 1) rfl rfl ?_
    refine k_callV (As := []) (rest := [.int (zI z_26)]) S hK hP (c_X0_sharedByNeighbours l E M 1 (by omega) (by assumption) (by exact hO2 _ (by omega))) (cwV 0 S.2.2.2.2 gX2_mean_X0_sharedByNeighbours rfl rfl rfl (by decide +kernel) ⟨Nat.le_of_ble_eq_true rfl, Nat.le_of_ble_eq_true rfl⟩) (k_rH hK hP (by omega)) rfl hl.1 rfl (Nat.le_of_ble_eq_true rfl) dX2_mean_33 ⟨Nat.le_of_ble_eq_true rfl, Nat.le_of_ble_eq_true rfl⟩ (fun z_33 h_33 => ?_)
    refine k_add hx hb dX2_mean_36 ?_
    refine k_nm (fun v2_37 ev2_37 => ?_)
    refine lv_istore_n (lv' := [(2, .int (zI v2_37)), (1, .int (zI v1_15)), (0, .ref (E.2.2 10))]) hx hb dX2_mean_37 rfl hl (by decide) rfl (fun ls hl => ?_)
    refine lv_iload_n hx hb dX2_mean_38 rfl (lv_at hl 0 rfl) ?_
    refine lv_i2d hx hb dX2_mean_39 ?_
    refine lv_iload_n hx hb dX2_mean_40 rfl (lv_at hl 1 rfl) ?_
    refine lv_i2d hx hb dX2_mean_41 ?_
    refine ends1 _ _ v2_37 v1_15 M _ _ dX2_mean_42 dX2_mean_43 hP hS (fun r9 hr9 => ?_)
    have ea : v2_37 = kSum (kNx (M (0 + 3)) (M 0 1) (M (8 + 0))) (M 0 1).toNat + kSum (kNx (M (1 + 3)) (M 1 1) (M (8 + 1))) (M 1 1).toNat := by rw [ev2_37, h_26.1, h_33.1]
    have ea2 : v2_37 = kSum (kNx (M 3) (M 0 1) (M 8)) (M 0 1).toNat + kSum (kNx (M 4) (M 1 1) (M 9)) (M 1 1).toNat := ea
    refine ⟨rfl, M 8, M 9, hO2 0 (by omega), hO2 1 (by omega), ?_⟩
    rw [← eb, ← ea2]
    unfold kMean
    rw [if_neg (by omega)]
    exact hr9
  · skip
    refine lv_dconst0 hx hb dX2_mean_20 ?_
    refine ends0 _ _ M _ _ dX2_mean_21 hP hS ?_
    refine ⟨rfl, M 8, M 9, hO2 0 (by omega), hO2 1 (by omega), ?_⟩
    rw [← eb]
    unfold kMean
    rw [if_pos (by omega)]
    exact alike64_refl _
