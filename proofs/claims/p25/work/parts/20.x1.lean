abbrev rX1_at : Room := { frames := 0, cells := 0, slots := 0, locals := 0 }
set_option maxHeartbeats 4000000 in
set_option maxRecDepth 100000 in
/-- at: the stitch at a place, -1 outside -/
theorem c_X1_at (l : Launch) (E : kE) (M : kM) (i q : Int) (hi : 0 ≤ i ∧ i < 3) (hW : kWf M) (hq : -2147483648 ≤ q ∧ q ≤ 2147483647) : kRO l yX1_at wsX1_at rX1_at E M [.ref (E.2.2 i), .int (zI q)] (fun z => (0 ≤ q ∧ q < M i 1 ∧ z = M (i + 3) q ∧ 0 ≤ z ∧ z ≤ 8) ∨ ((q < 0 ∨ M i 1 ≤ q) ∧ z = -1)) := by
  refine kRO_of (cc := cX1_at) (maxL := 2) (rt := .int) RX1 (by decide) rfl rfl (Nat.le_of_ble_eq_true rfl) k_nari ?_
  intro pg en s0 mi ar bl me co ls Q S hP hK ends hl
  have hx := S.1
  have hb := S.2.1
  have hinX10 : ∀ w ∈ wsX10, w ∈ wsX1_at := fun w h => List.mem_cons_of_mem _ (List.mem_append_right _ (h))
  have hl : lv_has ls 2 [(0, .ref (E.2.2 i)), (1, .int (zI q))] := hl
  obtain ⟨hn0, hn1, hv⟩ := hW i hi
  refine lv_iload_n hx hb dX1_at_0 rfl (lv_at hl 1 rfl) ?_
  refine k_lt0 (tgt := 21) hx hb dX1_at_1 (by decide) (by omega) (fun c_1 => ?_) (fun c_1 => ?_)
  · skip
    refine k_push hx hb dX1_at_21 ?_
    refine ends _ _ ((-1)) dX1_at_22 ?_
    omega
  · skip
    refine lv_iload_n hx hb dX1_at_4 rfl (lv_at hl 1 rfl) ?_
    refine lv_aload_n hx hb dX1_at_5 rfl (lv_at hl 0 rfl) ?_
    refine k_length S hK hP hinX10 (S.2.2.2.2 _ (List.mem_cons_of_mem _ (List.mem_append_left _ (List.mem_of_getElem? (i := 0) rfl)))) dX1_at_6 (by omega) ?_
    refine k_ge (tgt := 21) hx hb dX1_at_9 (by decide) (by omega) (fun c_9 => ?_) (fun c_9 => ?_)
    · skip
      refine k_push hx hb dX1_at_21 ?_
      refine ends _ _ ((-1)) dX1_at_22 ?_
      omega
    · skip
      refine lv_iload_n hx hb dX1_at_12 rfl (lv_at hl 1 rfl) ?_
      refine lv_aload_n hx hb dX1_at_13 rfl (lv_at hl 0 rfl) ?_
      refine k_kinds S hK hP hinX10 (S.2.2.2.2 _ (List.mem_cons_of_mem _ (List.mem_append_left _ (List.mem_of_getElem? (i := 1) rfl)))) dX1_at_14 (by omega) ?_
      refine k_alen S hK hP 40 (by unfold kArr; omega) dX1_at_17 ?_
      refine k_lt (tgt := 23) hx hb dX1_at_18 (by decide) (by omega) (fun c_18 => ?_) (fun c_18 => ?_)
      · skip
        refine lv_aload_n hx hb dX1_at_23 rfl (lv_at hl 0 rfl) ?_
        refine k_kinds S hK hP hinX10 (S.2.2.2.2 _ (List.mem_cons_of_mem _ (List.mem_append_left _ (List.mem_of_getElem? (i := 1) rfl)))) dX1_at_24 (by omega) ?_
        refine lv_iload_n hx hb dX1_at_27 rfl (lv_at hl 1 rfl) ?_
        refine k_ald S hK hP 40 (by unfold kArr; omega) (by omega) dX1_at_28 ?_
        refine ends _ _ (M (i + 3) q) dX1_at_29 ?_
        have := hv q (by omega) (by omega)
        omega
      · exact absurd c_18 (by omega)
abbrev rX1_sharedWith : Room := { frames := 1, cells := 0, slots := 0, locals := 21 }
set_option maxHeartbeats 4000000 in
set_option maxRecDepth 100000 in
/-- how many stitches two ends have in common -/
theorem c_X1_sharedWith (l : Launch) (E : kE) (M : kM) (i p j q : Int) (hi : 0 ≤ i ∧ i < 3) (hj : 0 ≤ j ∧ j < 3) (hW : kWf M) (hp : 0 ≤ p ∧ p ≤ M i 1) (hq : 0 ≤ q ∧ q ≤ M j 1) : kRO l yX1_sharedWith wsX1_sharedWith rX1_sharedWith E M [.ref (E.2.2 i), .int (zI p), .ref (E.2.2 j), .int (zI q)] (fun z => kLC (M (i + 3)) (M i 1) p (M (j + 3)) (M j 1) q z) := by
  refine kRO_of (cc := cX1_sharedWith) (maxL := 6) (rt := .int) RX1 (by decide) rfl rfl (Nat.le_of_ble_eq_true rfl) k_nari ?_
  intro pg en s0 mi ar bl me co ls Q S hP hK ends hl
  have hx := S.1
  have hb := S.2.1
  have hinX10 : ∀ w ∈ wsX10, w ∈ wsX1_sharedWith := fun w h => List.mem_cons_of_mem _ (List.mem_append_right _ (h))
  have hl : lv_has ls 6 [(0, .ref (E.2.2 i)), (1, .int (zI p)), (2, .ref (E.2.2 j)), (3, .int (zI q))] := hl
  obtain ⟨hn0, hn1, hv⟩ := hW i hi
  obtain ⟨hm0, hm1, hw⟩ := hW j hj
  refine lv_aload_n hx hb dX1_sharedWith_0 rfl (lv_at hl 0 rfl) ?_
  refine k_length S hK hP hinX10 (S.2.2.2.2 _ (List.mem_cons_of_mem _ (List.mem_append_left _ (List.mem_of_getElem? (i := 0) rfl)))) dX1_sharedWith_1 (by omega) ?_
  refine lv_iload_n hx hb dX1_sharedWith_4 rfl (lv_at hl 1 rfl) ?_
  refine k_sub hx hb dX1_sharedWith_5 ?_
  refine lv_aload_n hx hb dX1_sharedWith_6 rfl (lv_at hl 2 rfl) ?_
  refine k_length S hK hP hinX10 (S.2.2.2.2 _ (List.mem_cons_of_mem _ (List.mem_append_left _ (List.mem_of_getElem? (i := 0) rfl)))) dX1_sharedWith_7 (by omega) ?_
  refine lv_iload_n hx hb dX1_sharedWith_10 rfl (lv_at hl 3 rfl) ?_
  refine k_sub hx hb dX1_sharedWith_11 ?_
  refine k_min S hl.1 (S.2.2.2.2 _ (List.mem_cons_of_mem _ (List.mem_append_left _ (List.mem_of_getElem? (i := 1) rfl)))) (S.2.2.2.2 _ (List.mem_cons_of_mem _ (List.mem_append_left _ (List.mem_of_getElem? (i := 2) rfl)))) (S.2.2.2.2 _ (List.mem_cons_of_mem _ (List.mem_append_left _ (List.mem_of_getElem? (i := 3) rfl)))) (S.2.2.2.2 _ (List.mem_cons_of_mem _ (List.mem_append_left _ (List.mem_of_getElem? (i := 4) rfl)))) ⟨Nat.le_of_ble_eq_true rfl, Nat.le_of_ble_eq_true rfl⟩ ⟨Nat.le_of_ble_eq_true rfl, Nat.le_of_ble_eq_true rfl⟩ (by omega) dX1_sharedWith_12 (fun z_12 h_12 => ?_)
  refine lv_istore (lv' := [(4, .int (zI z_12)), (0, .ref (E.2.2 i)), (1, .int (zI p)), (2, .ref (E.2.2 j)), (3, .int (zI q))]) hx hb dX1_sharedWith_15 hl (by decide) rfl (fun ls hl => ?_)
  refine k_push hx hb dX1_sharedWith_17 ?_
  refine lv_istore (lv' := [(5, .int (zI 0)), (4, .int (zI z_12)), (0, .ref (E.2.2 i)), (1, .int (zI p)), (2, .ref (E.2.2 j)), (3, .int (zI q))]) hx hb dX1_sharedWith_18 hl (by decide) rfl (fun ls hl => ?_)
  have lp_20 : ∀ (n_20 : Nat) (k : Int), (0 ≤ k ∧ k ≤ z_12) → (kEq (M (i + 3)) p (M (j + 3)) q k) → (z_12 - k < (n_20 : Int)) → ∀ ls : Array Slot, lv_has ls 6 [(0, .ref (E.2.2 i)), (1, .int (zI p)), (2, .ref (E.2.2 j)), (3, .int (zI q)), (4, .int (zI z_12)), (5, .int (zI k))] → W pg l en rX1_sharedWith s0 mi ar bl me co s0.heap [] 0 0 Q (F0 mi 20 ls []) := by
    intro n_20
    induction n_20 with
    | zero => intro k h1 h2 hm_20; exfalso; omega
    | succ n_20 ih_20 =>
      intro k h1 h2 hm_20 ls hl
      refine lv_iload hx hb dX1_sharedWith_20 (lv_at hl 5 rfl) ?_
      refine lv_iload hx hb dX1_sharedWith_22 (lv_at hl 4 rfl) ?_
      refine k_ge (tgt := 52) hx hb dX1_sharedWith_24 (by decide) (by omega) (fun c_24 => ?_) (fun c_24 => ?_)
      · skip
        refine lv_iload hx hb dX1_sharedWith_52 (lv_at hl 5 rfl) ?_
        refine ends _ _ (k) dX1_sharedWith_54 ?_
        refine ⟨by omega, by omega, by omega, h2, ?_⟩
        omega
      · skip
        refine lv_aload_n hx hb dX1_sharedWith_27 rfl (lv_at hl 0 rfl) ?_
        refine lv_iload_n hx hb dX1_sharedWith_28 rfl (lv_at hl 1 rfl) ?_
        refine lv_iload hx hb dX1_sharedWith_29 (lv_at hl 5 rfl) ?_
        refine k_add hx hb dX1_sharedWith_31 ?_
        refine k_callV (As := [.int (zI (p + k))]) (rest := []) S hK hP (c_X1_at l E M i (p + k) (by omega) (by assumption) (by omega)) (cwV 1 S.2.2.2.2 gX1_sharedWith_X1_at rfl rfl rfl (by decide +kernel) ⟨Nat.le_of_ble_eq_true rfl, Nat.le_of_ble_eq_true rfl⟩) (k_rS hK hP (by omega)) rfl hl.1 rfl (Nat.le_of_ble_eq_true rfl) dX1_sharedWith_32 ⟨Nat.le_of_ble_eq_true rfl, Nat.le_of_ble_eq_true rfl⟩ (fun z_32 h_32 => ?_)
        refine lv_aload_n hx hb dX1_sharedWith_35 rfl (lv_at hl 2 rfl) ?_
        refine lv_iload_n hx hb dX1_sharedWith_36 rfl (lv_at hl 3 rfl) ?_
        refine lv_iload hx hb dX1_sharedWith_37 (lv_at hl 5 rfl) ?_
        refine k_add hx hb dX1_sharedWith_39 ?_
        refine k_callV (As := [.int (zI (q + k))]) (rest := [.int (zI z_32)]) S hK hP (c_X1_at l E M j (q + k) (by omega) (by assumption) (by omega)) (cwV 1 S.2.2.2.2 gX1_sharedWith_X1_at rfl rfl rfl (by decide +kernel) ⟨Nat.le_of_ble_eq_true rfl, Nat.le_of_ble_eq_true rfl⟩) (k_rS hK hP (by omega)) rfl hl.1 rfl (Nat.le_of_ble_eq_true rfl) dX1_sharedWith_40 ⟨Nat.le_of_ble_eq_true rfl, Nat.le_of_ble_eq_true rfl⟩ (fun z_40 h_40 => ?_)
        refine k_ne (tgt := 52) hx hb dX1_sharedWith_43 (by decide) (by omega) (fun c_43 => ?_) (fun c_43 => ?_)
        · skip
          refine lv_iload hx hb dX1_sharedWith_52 (lv_at hl 5 rfl) ?_
          refine ends _ _ (k) dX1_sharedWith_54 ?_
          refine ⟨by omega, by omega, by omega, h2, ?_⟩
          omega
        · skip
          obtain ⟨v5_46, ev5_46⟩ : ∃ v : Int, v = k + 1 := ⟨_, rfl⟩
          refine k_incN (v := v5_46) (lv' := [(5, .int (zI v5_46)), (0, .ref (E.2.2 i)), (1, .int (zI p)), (2, .ref (E.2.2 j)), (3, .int (zI q)), (4, .int (zI z_12))]) hx hb dX1_sharedWith_46 hl (k := 5) rfl ev5_46 (by decide) rfl (fun ls hl => ?_)
          refine lv_goto (tgt := 20) hx hb dX1_sharedWith_49 (by decide) ?_
          refine ih_20 v5_46 (by omega) (by subst ev5_46; exact kEq_succ h2 (by omega)) (by omega) _ (lv_sub hl [1, 2, 3, 4, 5, 0] rfl)
  refine lp_20 (((z_12 - 0 : Int)).toNat + 1) 0 (by omega) (by exact kEq_0 _ _ _ _) (by omega) _ (lv_sub hl [2, 3, 4, 5, 1, 0] rfl)
abbrev rX1_difference : Room := { frames := 2, cells := 0, slots := 0, locals := 46 }
set_option maxHeartbeats 4000000 in
set_option maxRecDepth 100000 in
/-- difference: as promise 12 tells it -/
theorem c_X1_difference (l : Launch) (E : kE) (M : kM) (i p j q : Int) (hi : 0 ≤ i ∧ i < 3) (hj : 0 ≤ j ∧ j < 3) (hW : kWf M) (hp : 0 ≤ p ∧ p ≤ M i 1) (hq : 0 ≤ q ∧ q ≤ M j 1) : kRO l yX1_difference wsX1_difference rX1_difference E M [.ref (E.2.2 i), .int (zI p), .ref (E.2.2 j), .int (zI q)] (fun z => kD (M (i + 3)) (M i 1) p (M (j + 3)) (M j 1) q z ∧ -41 ≤ z ∧ z ≤ 41) := by
  refine kRO_of (cc := cX1_difference) (maxL := 7) (rt := .int) RX1 (by decide) rfl rfl (Nat.le_of_ble_eq_true rfl) k_nari ?_
  intro pg en s0 mi ar bl me co ls Q S hP hK ends hl
  have hx := S.1
  have hb := S.2.1
  have hinX10 : ∀ w ∈ wsX10, w ∈ wsX1_difference := fun w h => List.mem_cons_of_mem _ (List.mem_append_right _ (h))
  have hl : lv_has ls 7 [(0, .ref (E.2.2 i)), (1, .int (zI p)), (2, .ref (E.2.2 j)), (3, .int (zI q))] := hl
  obtain ⟨hn0, hn1, hv⟩ := hW i hi
  obtain ⟨hm0, hm1, hw⟩ := hW j hj
  refine lv_aload_n hx hb dX1_difference_0 rfl (lv_at hl 0 rfl) ?_
  refine lv_iload_n hx hb dX1_difference_1 rfl (lv_at hl 1 rfl) ?_
  refine lv_aload_n hx hb dX1_difference_2 rfl (lv_at hl 2 rfl) ?_
  refine lv_iload_n hx hb dX1_difference_3 rfl (lv_at hl 3 rfl) ?_
  refine k_callV (As := [.int (zI p), .ref (E.2.2 j), .int (zI q)]) (rest := []) S hK hP (c_X1_sharedWith l E M i p j q (by omega) (by omega) (by assumption) (by omega) (by omega)) (cwV 3 S.2.2.2.2 gX1_difference_X1_sharedWith rfl rfl rfl (by decide +kernel) ⟨Nat.le_of_ble_eq_true rfl, Nat.le_of_ble_eq_true rfl⟩) (k_rS hK hP (by omega)) rfl hl.1 rfl (Nat.le_of_ble_eq_true rfl) dX1_difference_4 ⟨Nat.le_of_ble_eq_true rfl, Nat.le_of_ble_eq_true rfl⟩ (fun z_4 h_4 => ?_)
  obtain ⟨hk0, hk1, hk2, hk3, hk4⟩ := id h_4
  refine lv_istore (lv' := [(4, .int (zI z_4)), (0, .ref (E.2.2 i)), (1, .int (zI p)), (2, .ref (E.2.2 j)), (3, .int (zI q))]) hx hb dX1_difference_7 hl (by decide) rfl (fun ls hl => ?_)
  refine lv_aload_n hx hb dX1_difference_9 rfl (lv_at hl 1 rfl) ?_
  refine lv_iload_n hx hb dX1_difference_10 rfl (lv_at hl 2 rfl) ?_
  refine lv_iload hx hb dX1_difference_11 (lv_at hl 0 rfl) ?_
  refine k_add hx hb dX1_difference_13 ?_
  refine k_callV (As := [.int (zI (p + z_4))]) (rest := []) S hK hP (c_X1_at l E M i (p + z_4) (by omega) (by assumption) (by omega)) (cwV 1 S.2.2.2.2 gX1_difference_X1_at rfl rfl rfl (by decide +kernel) ⟨Nat.le_of_ble_eq_true rfl, Nat.le_of_ble_eq_true rfl⟩) (k_rS hK hP (by omega)) rfl hl.1 rfl (Nat.le_of_ble_eq_true rfl) dX1_difference_14 ⟨Nat.le_of_ble_eq_true rfl, Nat.le_of_ble_eq_true rfl⟩ (fun z_14 h_14 => ?_)
  refine lv_istore (lv' := [(5, .int (zI z_14)), (4, .int (zI z_4)), (0, .ref (E.2.2 i)), (1, .int (zI p)), (2, .ref (E.2.2 j)), (3, .int (zI q))]) hx hb dX1_difference_17 hl (by decide) rfl (fun ls hl => ?_)
  refine lv_aload_n hx hb dX1_difference_19 rfl (lv_at hl 4 rfl) ?_
  refine lv_iload_n hx hb dX1_difference_20 rfl (lv_at hl 5 rfl) ?_
  refine lv_iload hx hb dX1_difference_21 (lv_at hl 1 rfl) ?_
  refine k_add hx hb dX1_difference_23 ?_
  refine k_callV (As := [.int (zI (q + z_4))]) (rest := []) S hK hP (c_X1_at l E M j (q + z_4) (by omega) (by assumption) (by omega)) (cwV 1 S.2.2.2.2 gX1_difference_X1_at rfl rfl rfl (by decide +kernel) ⟨Nat.le_of_ble_eq_true rfl, Nat.le_of_ble_eq_true rfl⟩) (k_rS hK hP (by omega)) rfl hl.1 rfl (Nat.le_of_ble_eq_true rfl) dX1_difference_24 ⟨Nat.le_of_ble_eq_true rfl, Nat.le_of_ble_eq_true rfl⟩ (fun z_24 h_24 => ?_)
  refine lv_istore (lv' := [(6, .int (zI z_24)), (5, .int (zI z_14)), (4, .int (zI z_4)), (0, .ref (E.2.2 i)), (1, .int (zI p)), (2, .ref (E.2.2 j)), (3, .int (zI q))]) hx hb dX1_difference_27 hl (by decide) rfl (fun ls hl => ?_)
  refine lv_iload hx hb dX1_difference_29 (lv_at hl 1 rfl) ?_
  refine lv_iload hx hb dX1_difference_31 (lv_at hl 0 rfl) ?_
  refine k_ne (tgt := 38) hx hb dX1_difference_33 (by decide) (by omega) (fun c_33 => ?_) (fun c_33 => ?_)
  · skip
    refine lv_iload hx hb dX1_difference_38 (lv_at hl 1 rfl) ?_
    refine lv_iload hx hb dX1_difference_40 (lv_at hl 0 rfl) ?_
    refine k_ge (tgt := 53) hx hb dX1_difference_42 (by decide) (by omega) (fun c_42 => ?_) (fun c_42 => ?_)
    · skip
      refine lv_iload hx hb dX1_difference_53 (lv_at hl 2 rfl) ?_
      refine k_push hx hb dX1_difference_55 ?_
      refine k_add hx hb dX1_difference_56 ?_
      refine ends _ _ (z_4 + 1) dX1_difference_57 ?_
      refine ⟨⟨z_4, h_4, Or.inr ?_⟩, by omega⟩
      first | exact Or.inl ⟨by unfold kLt; omega, by omega⟩ | exact Or.inr ⟨by unfold kLt; omega, by omega⟩
    · skip
      refine lv_iload hx hb dX1_difference_45 (lv_at hl 2 rfl) ?_
      refine k_push hx hb dX1_difference_47 ?_
      refine k_add hx hb dX1_difference_48 ?_
      refine k_neg hx hb dX1_difference_49 ?_
      refine lv_goto (tgt := 57) hx hb dX1_difference_50 (by decide) ?_
      refine ends _ _ (-(z_4 + 1)) dX1_difference_57 ?_
      refine ⟨⟨z_4, h_4, Or.inr ?_⟩, by omega⟩
      first | exact Or.inl ⟨by unfold kLt; omega, by omega⟩ | exact Or.inr ⟨by unfold kLt; omega, by omega⟩
  · skip
    refine k_push hx hb dX1_difference_36 ?_
    refine ends _ _ (0) dX1_difference_37 ?_
    refine ⟨⟨z_4, h_4, Or.inl ?_⟩, by omega⟩
    omega
abbrev rX1_mostSharedWith : Room := { frames := 2, cells := 0, slots := 0, locals := 46 }
set_option maxHeartbeats 4000000 in
set_option maxRecDepth 100000 in
theorem c_X1_mostSharedWith (l : Launch) (E : kE) (M : kM) (i p j : Int) (hi : 0 ≤ i ∧ i < 3) (hj : 0 ≤ j ∧ j < 3) (hW : kWf M) (hp : -1 ≤ p ∧ p ≤ M i 1) : kRO l yX1_mostSharedWith wsX1_mostSharedWith rX1_mostSharedWith E M [.ref (E.2.2 i), .int (zI p), .ref (E.2.2 j)] (fun z => ((p < 0 ∧ z = 0) ∨ (0 ≤ p ∧ kMx (kCom (M (i + 3)) (M i 1) p (M (j + 3)) (M j 1)) z)) ∧ 0 ≤ z ∧ z ≤ 40) := by
  refine kRO_of (cc := cX1_mostSharedWith) (maxL := 5) (rt := .int) RX1 (by decide) rfl rfl (Nat.le_of_ble_eq_true rfl) k_nari ?_
  intro pg en s0 mi ar bl me co ls Q S hP hK ends hl
  have hx := S.1
  have hb := S.2.1
  have hinX10 : ∀ w ∈ wsX10, w ∈ wsX1_mostSharedWith := fun w h => List.mem_cons_of_mem _ (List.mem_append_right _ (h))
  have hl : lv_has ls 5 [(0, .ref (E.2.2 i)), (1, .int (zI p)), (2, .ref (E.2.2 j))] := hl
  obtain ⟨hn0, hn1, hv⟩ := hW i hi
  obtain ⟨hm0, hm1, hw⟩ := hW j hj
  refine lv_iload_n hx hb dX1_mostSharedWith_0 rfl (lv_at hl 1 rfl) ?_
  refine k_ge0 (tgt := 6) hx hb dX1_mostSharedWith_1 (by decide) (by omega) (fun c_1 => ?_) (fun c_1 => ?_)
  · skip
    refine k_push hx hb dX1_mostSharedWith_6 ?_
    refine lv_istore_n (lv' := [(3, .int (zI 0)), (0, .ref (E.2.2 i)), (1, .int (zI p)), (2, .ref (E.2.2 j))]) hx hb dX1_mostSharedWith_7 rfl hl (by decide) rfl (fun ls hl => ?_)
    refine k_push hx hb dX1_mostSharedWith_8 ?_
    refine lv_istore (lv' := [(4, .int (zI 0)), (3, .int (zI 0)), (0, .ref (E.2.2 i)), (1, .int (zI p)), (2, .ref (E.2.2 j))]) hx hb dX1_mostSharedWith_9 hl (by decide) rfl (fun ls hl => ?_)
    have lp_11 : ∀ (n_11 : Nat) (k : Int) (b : Int), (0 ≤ b ∧ b ≤ M j 1 ∧ 0 ≤ k ∧ k ≤ 40) → (k = 0 ∨ kCom (M (i + 3)) (M i 1) p (M (j + 3)) (M j 1) k) → (∀ b2 : Int, 0 ≤ b2 → b2 < b → ∀ v : Int, kLC (M (i + 3)) (M i 1) p (M (j + 3)) (M j 1) b2 v → v ≤ k) → (M j 1 - b < (n_11 : Int)) → ∀ ls : Array Slot, lv_has ls 5 [(0, .ref (E.2.2 i)), (1, .int (zI p)), (2, .ref (E.2.2 j)), (3, .int (zI k)), (4, .int (zI b))] → W pg l en rX1_mostSharedWith s0 mi ar bl me co s0.heap [] 0 0 Q (F0 mi 11 ls []) := by
      intro n_11
      induction n_11 with
      | zero => intro k b h1 h2 h3 hm_11; exfalso; omega
      | succ n_11 ih_11 =>
        intro k b h1 h2 h3 hm_11 ls hl
        refine lv_iload hx hb dX1_mostSharedWith_11 (lv_at hl 4 rfl) ?_
        refine lv_iload_n hx hb dX1_mostSharedWith_13 rfl (lv_at hl 3 rfl) ?_
        refine k_add hx hb dX1_mostSharedWith_14 ?_
        refine lv_aload_n hx hb dX1_mostSharedWith_15 rfl (lv_at hl 2 rfl) ?_
        refine k_length S hK hP hinX10 (S.2.2.2.2 _ (List.mem_cons_of_mem _ (List.mem_append_left _ (List.mem_of_getElem? (i := 0) rfl)))) dX1_mostSharedWith_16 (by omega) ?_
        refine k_ge (tgt := 41) hx hb dX1_mostSharedWith_19 (by decide) (by omega) (fun c_19 => ?_) (fun c_19 => ?_)
        · skip
          refine lv_iload_n hx hb dX1_mostSharedWith_41 rfl (lv_at hl 3 rfl) ?_
          refine ends _ _ (k) dX1_mostSharedWith_42 ?_
          refine ⟨Or.inr ⟨by omega, by omega, h2, fun v hv => ?_⟩, by omega⟩
          obtain ⟨b2, g1, g2, g3⟩ := hv
          rcases Int.lt_or_le b2 b with g | g
          · exact h3 b2 g1 g v g3
          · have g4 := g3.2.2.1
            omega
        · skip
          refine lv_iload_n hx hb dX1_mostSharedWith_22 rfl (lv_at hl 3 rfl) ?_
          refine lv_aload_n hx hb dX1_mostSharedWith_23 rfl (lv_at hl 0 rfl) ?_
          refine lv_iload_n hx hb dX1_mostSharedWith_24 rfl (lv_at hl 1 rfl) ?_
          refine lv_aload_n hx hb dX1_mostSharedWith_25 rfl (lv_at hl 2 rfl) ?_
          refine lv_iload hx hb dX1_mostSharedWith_26 (lv_at hl 4 rfl) ?_
          refine k_callV (As := [.int (zI p), .ref (E.2.2 j), .int (zI b)]) (rest := [.int (zI k)]) S hK hP (c_X1_sharedWith l E M i p j b (by omega) (by omega) (by assumption) (by omega) (by omega)) (cwV 3 S.2.2.2.2 gX1_mostSharedWith_X1_sharedWith rfl rfl rfl (by decide +kernel) ⟨Nat.le_of_ble_eq_true rfl, Nat.le_of_ble_eq_true rfl⟩) (k_rS hK hP (by omega)) rfl hl.1 rfl (Nat.le_of_ble_eq_true rfl) dX1_mostSharedWith_28 ⟨Nat.le_of_ble_eq_true rfl, Nat.le_of_ble_eq_true rfl⟩ (fun z_28 h_28 => ?_)
          obtain ⟨hk0, hk1, hk2, hk3, hk4⟩ := id h_28
          refine k_max S hl.1 (S.2.2.2.2 _ (List.mem_cons_of_mem _ (List.mem_append_left _ (List.mem_of_getElem? (i := 1) rfl)))) (S.2.2.2.2 _ (List.mem_cons_of_mem _ (List.mem_append_left _ (List.mem_of_getElem? (i := 2) rfl)))) (S.2.2.2.2 _ (List.mem_cons_of_mem _ (List.mem_append_left _ (List.mem_of_getElem? (i := 3) rfl)))) (S.2.2.2.2 _ (List.mem_cons_of_mem _ (List.mem_append_left _ (List.mem_of_getElem? (i := 4) rfl)))) ⟨Nat.le_of_ble_eq_true rfl, Nat.le_of_ble_eq_true rfl⟩ ⟨Nat.le_of_ble_eq_true rfl, Nat.le_of_ble_eq_true rfl⟩ (by omega) dX1_mostSharedWith_31 (fun z_31 h_31 => ?_)
          refine lv_istore_n (lv' := [(3, .int (zI z_31)), (0, .ref (E.2.2 i)), (1, .int (zI p)), (2, .ref (E.2.2 j)), (4, .int (zI b))]) hx hb dX1_mostSharedWith_34 rfl hl (by decide) rfl (fun ls hl => ?_)
          obtain ⟨v4_35, ev4_35⟩ : ∃ v : Int, v = b + 1 := ⟨_, rfl⟩
          refine k_incN (v := v4_35) (lv' := [(4, .int (zI v4_35)), (3, .int (zI z_31)), (0, .ref (E.2.2 i)), (1, .int (zI p)), (2, .ref (E.2.2 j))]) hx hb dX1_mostSharedWith_35 hl (k := 4) rfl ev4_35 (by decide) rfl (fun ls hl => ?_)
          refine lv_goto (tgt := 11) hx hb dX1_mostSharedWith_38 (by decide) ?_
          refine ih_11 z_31 v4_35 (by omega) ?_ ?_ (by omega) _ (lv_sub hl [2, 3, 4, 1, 0] rfl)
          · rcases h_31 with g | g
            · rw [g.2]; exact Or.inr ⟨b, by omega, by omega, h_28⟩
            · rw [g.2]; exact h2
          · intro b2 g1 g2 v g3
            by_cases g : b2 = b
            · subst g
              have := kLC_one g3 h_28
              omega
            · have := h3 b2 g1 (by omega) v g3
              omega
    refine lp_11 (((M j 1 - 0 : Int)).toNat + 1) 0 0 (by omega) (by exact Or.inl rfl) (by intro b2 g1 g2; exfalso; omega) (by omega) _ (lv_sub hl [2, 3, 4, 1, 0] rfl)
  · skip
    refine k_push hx hb dX1_mostSharedWith_4 ?_
    refine ends _ _ (0) dX1_mostSharedWith_5 ?_
    omega
abbrev rX1_standsAt : Room := { frames := 2, cells := 0, slots := 0, locals := 46 }
set_option maxHeartbeats 4000000 in
set_option maxRecDepth 100000 in
theorem c_X1_standsAt (l : Launch) (E : kE) (M : kM) (i p j q r : Int) (hi : 0 ≤ i ∧ i < 3) (hj : 0 ≤ j ∧ j < 3) (hW : kWf M) (hp : 0 ≤ p ∧ p + r ≤ M i 1) (hq : 0 ≤ q ∧ q + r ≤ M j 1) (hr : 0 ≤ r) : kRO l yX1_standsAt wsX1_standsAt rX1_standsAt E M [.ref (E.2.2 i), .int (zI p), .ref (E.2.2 j), .int (zI q), .int (zI r)] (fun z => (z = 1 ∧ kEq (M (i + 3)) p (M (j + 3)) q r) ∨ (z = 0 ∧ ¬ kEq (M (i + 3)) p (M (j + 3)) q r)) := by
  refine kRO_of (cc := cX1_standsAt) (maxL := 5) (rt := .boolean) RX1 (by decide) rfl rfl (Nat.le_of_ble_eq_true rfl) (fun z hz => k_narb (by omega)) ?_
  intro pg en s0 mi ar bl me co ls Q S hP hK ends hl
  have hx := S.1
  have hb := S.2.1
  have hinX10 : ∀ w ∈ wsX10, w ∈ wsX1_standsAt := fun w h => List.mem_cons_of_mem _ (List.mem_append_right _ (h))
  have hl : lv_has ls 5 [(0, .ref (E.2.2 i)), (1, .int (zI p)), (2, .ref (E.2.2 j)), (3, .int (zI q)), (4, .int (zI r))] := hl
  obtain ⟨hn0, hn1, hv⟩ := hW i hi
  obtain ⟨hm0, hm1, hw⟩ := hW j hj
  refine lv_aload_n hx hb dX1_standsAt_0 rfl (lv_at hl 0 rfl) ?_
  refine lv_iload_n hx hb dX1_standsAt_1 rfl (lv_at hl 1 rfl) ?_
  refine lv_aload_n hx hb dX1_standsAt_2 rfl (lv_at hl 2 rfl) ?_
  refine lv_iload_n hx hb dX1_standsAt_3 rfl (lv_at hl 3 rfl) ?_
  refine k_callV (As := [.int (zI p), .ref (E.2.2 j), .int (zI q)]) (rest := []) S hK hP (c_X1_sharedWith l E M i p j q (by omega) (by omega) (by assumption) (by omega) (by omega)) (cwV 3 S.2.2.2.2 gX1_standsAt_X1_sharedWith rfl rfl rfl (by decide +kernel) ⟨Nat.le_of_ble_eq_true rfl, Nat.le_of_ble_eq_true rfl⟩) (k_rS hK hP (by omega)) rfl hl.1 rfl (Nat.le_of_ble_eq_true rfl) dX1_standsAt_4 ⟨Nat.le_of_ble_eq_true rfl, Nat.le_of_ble_eq_true rfl⟩ (fun z_4 h_4 => ?_)
  obtain ⟨hk0, hk1, hk2, hk3, hk4⟩ := id h_4
  have hki := kLC_iff h_4 hp.2 hq.2
  refine lv_iload hx hb dX1_standsAt_7 (lv_at hl 4 rfl) ?_
  refine k_lt (tgt := 16) hx hb dX1_standsAt_9 (by decide) (by omega) (fun c_9 => ?_) (fun c_9 => ?_)
  · skip
    refine k_push hx hb dX1_standsAt_16 ?_
    refine ends _ _ (0) dX1_standsAt_17 ?_
    first | exact Or.inl ⟨rfl, hki.mp (by omega)⟩ | exact Or.inr ⟨rfl, fun g => by have := hki.mpr g; omega⟩
  · skip
    refine k_push hx hb dX1_standsAt_12 ?_
    refine lv_goto (tgt := 17) hx hb dX1_standsAt_13 (by decide) ?_
    refine ends _ _ (1) dX1_standsAt_17 ?_
    first | exact Or.inl ⟨rfl, hki.mp (by omega)⟩ | exact Or.inr ⟨rfl, fun g => by have := hki.mpr g; omega⟩
abbrev rX1_firstPlaceOf : Room := { frames := 3, cells := 0, slots := 0, locals := 70 }
set_option maxHeartbeats 4000000 in
set_option maxRecDepth 100000 in
theorem c_X1_firstPlaceOf (l : Launch) (E : kE) (M : kM) (i j q r : Int) (hi : 0 ≤ i ∧ i < 3) (hj : 0 ≤ j ∧ j < 3) (hW : kWf M) (hm : r < 1 ∨ (0 ≤ q ∧ q + r ≤ M j 1)) (hr : -40 ≤ r ∧ r ≤ 40) : kRO l yX1_firstPlaceOf wsX1_firstPlaceOf rX1_firstPlaceOf E M [.ref (E.2.2 i), .ref (E.2.2 j), .int (zI q), .int (zI r)] (fun z => ((r < 1 ∧ z = -1) ∨ (1 ≤ r ∧ kFst (M (i + 3)) (M i 1) (M (j + 3)) q r z)) ∧ -1 ≤ z ∧ z ≤ 40) := by
  refine kRO_of (cc := cX1_firstPlaceOf) (maxL := 5) (rt := .int) RX1 (by decide) rfl rfl (Nat.le_of_ble_eq_true rfl) k_nari ?_
  intro pg en s0 mi ar bl me co ls Q S hP hK ends hl
  have hx := S.1
  have hb := S.2.1
  have hinX10 : ∀ w ∈ wsX10, w ∈ wsX1_firstPlaceOf := fun w h => List.mem_cons_of_mem _ (List.mem_append_right _ (h))
  have hl : lv_has ls 5 [(0, .ref (E.2.2 i)), (1, .ref (E.2.2 j)), (2, .int (zI q)), (3, .int (zI r))] := hl
  obtain ⟨hn0, hn1, hv⟩ := hW i hi
  obtain ⟨hm0, hm1, hw⟩ := hW j hj
  refine lv_iload_n hx hb dX1_firstPlaceOf_0 rfl (lv_at hl 3 rfl) ?_
  refine k_push hx hb dX1_firstPlaceOf_1 ?_
  refine k_ge (tgt := 7) hx hb dX1_firstPlaceOf_2 (by decide) (by omega) (fun c_2 => ?_) (fun c_2 => ?_)
  · skip
    refine k_push hx hb dX1_firstPlaceOf_7 ?_
    refine lv_istore (lv' := [(4, .int (zI 0)), (0, .ref (E.2.2 i)), (1, .ref (E.2.2 j)), (2, .int (zI q)), (3, .int (zI r))]) hx hb dX1_firstPlaceOf_8 hl (by decide) rfl (fun ls hl => ?_)
    have lp_10 : ∀ (n_10 : Nat) (a : Int), (0 ≤ a ∧ a ≤ M i 1) → (∀ a2 : Int, 0 ≤ a2 → a2 < a → ¬ kEq (M (i + 3)) a2 (M (j + 3)) q r) → (M i 1 - a < (n_10 : Int)) → ∀ ls : Array Slot, lv_has ls 5 [(0, .ref (E.2.2 i)), (1, .ref (E.2.2 j)), (2, .int (zI q)), (3, .int (zI r)), (4, .int (zI a))] → W pg l en rX1_firstPlaceOf s0 mi ar bl me co s0.heap [] 0 0 Q (F0 mi 10 ls []) := by
      intro n_10
      induction n_10 with
      | zero => intro a h1 h2 hm_10; exfalso; omega
      | succ n_10 ih_10 =>
        intro a h1 h2 hm_10 ls hl
        refine lv_iload hx hb dX1_firstPlaceOf_10 (lv_at hl 4 rfl) ?_
        refine lv_iload_n hx hb dX1_firstPlaceOf_12 rfl (lv_at hl 3 rfl) ?_
        refine k_add hx hb dX1_firstPlaceOf_13 ?_
        refine lv_aload_n hx hb dX1_firstPlaceOf_14 rfl (lv_at hl 0 rfl) ?_
        refine k_length S hK hP hinX10 (S.2.2.2.2 _ (List.mem_cons_of_mem _ (List.mem_append_left _ (List.mem_of_getElem? (i := 0) rfl)))) dX1_firstPlaceOf_15 (by omega) ?_
        refine k_gt (tgt := 42) hx hb dX1_firstPlaceOf_18 (by decide) (by omega) (fun c_18 => ?_) (fun c_18 => ?_)
        · skip
          refine k_push hx hb dX1_firstPlaceOf_42 ?_
          refine ends _ _ ((-1)) dX1_firstPlaceOf_43 ?_
          exact ⟨Or.inr ⟨by omega, Or.inl ⟨rfl, fun a2 g1 g2 => h2 a2 g1 (by omega)⟩⟩, by omega⟩
        · skip
          refine lv_aload_n hx hb dX1_firstPlaceOf_21 rfl (lv_at hl 0 rfl) ?_
          refine lv_iload hx hb dX1_firstPlaceOf_22 (lv_at hl 4 rfl) ?_
          refine lv_aload_n hx hb dX1_firstPlaceOf_24 rfl (lv_at hl 1 rfl) ?_
          refine lv_iload_n hx hb dX1_firstPlaceOf_25 rfl (lv_at hl 2 rfl) ?_
          refine lv_iload_n hx hb dX1_firstPlaceOf_26 rfl (lv_at hl 3 rfl) ?_
          refine k_callV (As := [.int (zI a), .ref (E.2.2 j), .int (zI q), .int (zI r)]) (rest := []) S hK hP (c_X1_standsAt l E M i a j q r (by omega) (by omega) (by assumption) (by omega) (by omega) (by omega)) (cwV 4 S.2.2.2.2 gX1_firstPlaceOf_X1_standsAt rfl rfl rfl (by decide +kernel) ⟨Nat.le_of_ble_eq_true rfl, Nat.le_of_ble_eq_true rfl⟩) (k_rS hK hP (by omega)) rfl hl.1 rfl (Nat.le_of_ble_eq_true rfl) dX1_firstPlaceOf_27 ⟨Nat.le_of_ble_eq_true rfl, Nat.le_of_ble_eq_true rfl⟩ (fun z_27 h_27 => ?_)
          refine k_eq0 (tgt := 36) hx hb dX1_firstPlaceOf_30 (by decide) (by omega) (fun c_30 => ?_) (fun c_30 => ?_)
          · skip
            obtain ⟨v4_36, ev4_36⟩ : ∃ v : Int, v = a + 1 := ⟨_, rfl⟩
            refine k_incN (v := v4_36) (lv' := [(4, .int (zI v4_36)), (0, .ref (E.2.2 i)), (1, .ref (E.2.2 j)), (2, .int (zI q)), (3, .int (zI r))]) hx hb dX1_firstPlaceOf_36 hl (k := 4) rfl ev4_36 (by decide) rfl (fun ls hl => ?_)
            refine lv_goto (tgt := 10) hx hb dX1_firstPlaceOf_39 (by decide) ?_
            refine ih_10 v4_36 (by omega) ?_ (by omega) _ (lv_sub hl [1, 2, 3, 4, 0] rfl)
            · intro a2 g1 g2
              by_cases g : a2 = a
              · subst g; exact (h_27.resolve_left (fun g => by omega)).2
              · exact h2 a2 g1 (by omega)
          · skip
            refine lv_iload hx hb dX1_firstPlaceOf_33 (lv_at hl 4 rfl) ?_
            refine ends _ _ (a) dX1_firstPlaceOf_35 ?_
            exact ⟨Or.inr ⟨by omega, Or.inr ⟨by omega, by omega, (h_27.resolve_right (fun g => c_30 g.1)).2, h2⟩⟩, by omega⟩
    refine lp_10 (((M i 1 - 0 : Int)).toNat + 1) 0 (by omega) (by intro a2 g1 g2; exfalso; omega) (by omega) _ (lv_sub hl [1, 2, 3, 4, 0] rfl)
  · skip
    refine k_push hx hb dX1_firstPlaceOf_5 ?_
    refine ends _ _ ((-1)) dX1_firstPlaceOf_6 ?_
    omega
abbrev rX1_placesOf : Room := { frames := 3, cells := 0, slots := 0, locals := 70 }
set_option maxHeartbeats 4000000 in
set_option maxRecDepth 100000 in
theorem c_X1_placesOf (l : Launch) (E : kE) (M : kM) (i j q r : Int) (hi : 0 ≤ i ∧ i < 3) (hj : 0 ≤ j ∧ j < 3) (hW : kWf M) (hm : r < 1 ∨ (0 ≤ q ∧ q + r ≤ M j 1)) (hr : -40 ≤ r ∧ r ≤ 40) : kRO l yX1_placesOf wsX1_placesOf rX1_placesOf E M [.ref (E.2.2 i), .ref (E.2.2 j), .int (zI q), .int (zI r)] (fun z => ((r < 1 ∧ z = 0) ∨ (1 ≤ r ∧ z = kCnt (kAtP (M (i + 3)) (M i 1) (M (j + 3)) q r) (M i 1).toNat)) ∧ 0 ≤ z ∧ z ≤ 40) := by
  refine kRO_of (cc := cX1_placesOf) (maxL := 6) (rt := .int) RX1 (by decide) rfl rfl (Nat.le_of_ble_eq_true rfl) k_nari ?_
  intro pg en s0 mi ar bl me co ls Q S hP hK ends hl
  have hx := S.1
  have hb := S.2.1
  have hinX10 : ∀ w ∈ wsX10, w ∈ wsX1_placesOf := fun w h => List.mem_cons_of_mem _ (List.mem_append_right _ (h))
  have hl : lv_has ls 6 [(0, .ref (E.2.2 i)), (1, .ref (E.2.2 j)), (2, .int (zI q)), (3, .int (zI r))] := hl
  obtain ⟨hn0, hn1, hv⟩ := hW i hi
  obtain ⟨hm0, hm1, hw⟩ := hW j hj
  refine lv_iload_n hx hb dX1_placesOf_0 rfl (lv_at hl 3 rfl) ?_
  refine k_push hx hb dX1_placesOf_1 ?_
  refine k_ge (tgt := 7) hx hb dX1_placesOf_2 (by decide) (by omega) (fun c_2 => ?_) (fun c_2 => ?_)
  · skip
    refine k_push hx hb dX1_placesOf_7 ?_
    refine lv_istore (lv' := [(4, .int (zI 0)), (0, .ref (E.2.2 i)), (1, .ref (E.2.2 j)), (2, .int (zI q)), (3, .int (zI r))]) hx hb dX1_placesOf_8 hl (by decide) rfl (fun ls hl => ?_)
    refine k_push hx hb dX1_placesOf_10 ?_
    refine lv_istore (lv' := [(5, .int (zI 0)), (4, .int (zI 0)), (0, .ref (E.2.2 i)), (1, .ref (E.2.2 j)), (2, .int (zI q)), (3, .int (zI r))]) hx hb dX1_placesOf_11 hl (by decide) rfl (fun ls hl => ?_)
    have lp_13 : ∀ (n_13 : Nat) (c : Int) (a : Int), (0 ≤ a ∧ a ≤ M i 1 ∧ 0 ≤ c ∧ c ≤ a) → (c = kCnt (kAtP (M (i + 3)) (M i 1) (M (j + 3)) q r) a.toNat) → (M i 1 - a < (n_13 : Int)) → ∀ ls : Array Slot, lv_has ls 6 [(0, .ref (E.2.2 i)), (1, .ref (E.2.2 j)), (2, .int (zI q)), (3, .int (zI r)), (4, .int (zI c)), (5, .int (zI a))] → W pg l en rX1_placesOf s0 mi ar bl me co s0.heap [] 0 0 Q (F0 mi 13 ls []) := by
      intro n_13
      induction n_13 with
      | zero => intro c a h1 h2 hm_13; exfalso; omega
      | succ n_13 ih_13 =>
        intro c a h1 h2 hm_13 ls hl
        refine lv_iload hx hb dX1_placesOf_13 (lv_at hl 5 rfl) ?_
        refine lv_iload_n hx hb dX1_placesOf_15 rfl (lv_at hl 3 rfl) ?_
        refine k_add hx hb dX1_placesOf_16 ?_
        refine lv_aload_n hx hb dX1_placesOf_17 rfl (lv_at hl 0 rfl) ?_
        refine k_length S hK hP hinX10 (S.2.2.2.2 _ (List.mem_cons_of_mem _ (List.mem_append_left _ (List.mem_of_getElem? (i := 0) rfl)))) dX1_placesOf_18 (by omega) ?_
        refine k_gt (tgt := 45) hx hb dX1_placesOf_21 (by decide) (by omega) (fun c_21 => ?_) (fun c_21 => ?_)
        · skip
          refine lv_iload hx hb dX1_placesOf_45 (lv_at hl 4 rfl) ?_
          refine ends _ _ (c) dX1_placesOf_47 ?_
          refine ⟨Or.inr ⟨by omega, ?_⟩, by omega⟩
          rw [h2]
          exact (kCnt_tail _ _ _ (by omega) (fun k g1 g2 g3 => by have := g3.1; omega)).symm
        · skip
          refine lv_aload_n hx hb dX1_placesOf_24 rfl (lv_at hl 0 rfl) ?_
          refine lv_iload hx hb dX1_placesOf_25 (lv_at hl 5 rfl) ?_
          refine lv_aload_n hx hb dX1_placesOf_27 rfl (lv_at hl 1 rfl) ?_
          refine lv_iload_n hx hb dX1_placesOf_28 rfl (lv_at hl 2 rfl) ?_
          refine lv_iload_n hx hb dX1_placesOf_29 rfl (lv_at hl 3 rfl) ?_
          refine k_callV (As := [.int (zI a), .ref (E.2.2 j), .int (zI q), .int (zI r)]) (rest := []) S hK hP (c_X1_standsAt l E M i a j q r (by omega) (by omega) (by assumption) (by omega) (by omega) (by omega)) (cwV 4 S.2.2.2.2 gX1_placesOf_X1_standsAt rfl rfl rfl (by decide +kernel) ⟨Nat.le_of_ble_eq_true rfl, Nat.le_of_ble_eq_true rfl⟩) (k_rS hK hP (by omega)) rfl hl.1 rfl (Nat.le_of_ble_eq_true rfl) dX1_placesOf_30 ⟨Nat.le_of_ble_eq_true rfl, Nat.le_of_ble_eq_true rfl⟩ (fun z_30 h_30 => ?_)
          refine k_eq0 (tgt := 39) hx hb dX1_placesOf_33 (by decide) (by omega) (fun c_33 => ?_) (fun c_33 => ?_)
          · skip
            obtain ⟨v5_39, ev5_39⟩ : ∃ v : Int, v = a + 1 := ⟨_, rfl⟩
            refine k_incN (v := v5_39) (lv' := [(5, .int (zI v5_39)), (0, .ref (E.2.2 i)), (1, .ref (E.2.2 j)), (2, .int (zI q)), (3, .int (zI r)), (4, .int (zI c))]) hx hb dX1_placesOf_39 hl (k := 5) rfl ev5_39 (by decide) rfl (fun ls hl => ?_)
            refine lv_goto (tgt := 13) hx hb dX1_placesOf_42 (by decide) ?_
            refine ih_13 c v5_39 (by omega) ?_ (by omega) _ (lv_sub hl [1, 2, 3, 4, 5, 0] rfl)
            · subst ev5_39
              first | (rw [ev4_36, kCnt_t _ (by omega) ⟨by omega, (h_30.resolve_right (fun g => c_33 g.1)).2⟩, ← h2]) | (rw [kCnt_f _ (by omega) (fun g => (h_30.resolve_left (fun g => by omega)).2 g.2), ← h2])
          · skip
            obtain ⟨v4_36, ev4_36⟩ : ∃ v : Int, v = c + 1 := ⟨_, rfl⟩
            refine k_incN (v := v4_36) (lv' := [(4, .int (zI v4_36)), (0, .ref (E.2.2 i)), (1, .ref (E.2.2 j)), (2, .int (zI q)), (3, .int (zI r)), (5, .int (zI a))]) hx hb dX1_placesOf_36 hl (k := 4) rfl ev4_36 (by decide) rfl (fun ls hl => ?_)
            obtain ⟨v5_39, ev5_39⟩ : ∃ v : Int, v = a + 1 := ⟨_, rfl⟩
            refine k_incN (v := v5_39) (lv' := [(5, .int (zI v5_39)), (4, .int (zI v4_36)), (0, .ref (E.2.2 i)), (1, .ref (E.2.2 j)), (2, .int (zI q)), (3, .int (zI r))]) hx hb dX1_placesOf_39 hl (k := 5) rfl ev5_39 (by decide) rfl (fun ls hl => ?_)
            refine lv_goto (tgt := 13) hx hb dX1_placesOf_42 (by decide) ?_
            refine ih_13 v4_36 v5_39 (by omega) ?_ (by omega) _ (lv_sub hl [2, 3, 4, 5, 1, 0] rfl)
            · subst ev5_39
              first | (rw [ev4_36, kCnt_t _ (by omega) ⟨by omega, (h_30.resolve_right (fun g => c_33 g.1)).2⟩, ← h2]) | (rw [kCnt_f _ (by omega) (fun g => (h_30.resolve_left (fun g => by omega)).2 g.2), ← h2])
    refine lp_13 (((M i 1 - 0 : Int)).toNat + 1) 0 0 (by omega) (by exact (kCnt_0 _).symm) (by omega) _ (lv_sub hl [2, 3, 4, 5, 1, 0] rfl)
  · skip
    refine k_push hx hb dX1_placesOf_5 ?_
    refine ends _ _ (0) dX1_placesOf_6 ?_
    omega
abbrev rX1_leastPeriod : Room := { frames := 2, cells := 0, slots := 0, locals := 46 }
set_option maxHeartbeats 4000000 in
set_option maxRecDepth 100000 in
theorem c_X1_leastPeriod (l : Launch) (E : kE) (M : kM) (i : Int) (hi : 0 ≤ i ∧ i < 3) (hW : kWf M) : kRO l yX1_leastPeriod wsX1_leastPeriod rX1_leastPeriod E M [.ref (E.2.2 i)] (fun z => (M i 1 = 0 ∧ z = 0) ∨ (1 ≤ z ∧ z ≤ M i 1 ∧ kPer (M (i + 3)) (M i 1) z ∧ ∀ p : Int, 1 ≤ p → p < z → ¬ kPer (M (i + 3)) (M i 1) p)) := by
  refine kRO_of (cc := cX1_leastPeriod) (maxL := 2) (rt := .int) RX1 (by decide) rfl rfl (Nat.le_of_ble_eq_true rfl) k_nari ?_
  intro pg en s0 mi ar bl me co ls Q S hP hK ends hl
  have hx := S.1
  have hb := S.2.1
  have hinX10 : ∀ w ∈ wsX10, w ∈ wsX1_leastPeriod := fun w h => List.mem_cons_of_mem _ (List.mem_append_right _ (h))
  have hl : lv_has ls 2 [(0, .ref (E.2.2 i))] := hl
  obtain ⟨hn0, hn1, hv⟩ := hW i hi
  refine k_push hx hb dX1_leastPeriod_0 ?_
  refine lv_istore_n (lv' := [(1, .int (zI 1)), (0, .ref (E.2.2 i))]) hx hb dX1_leastPeriod_1 rfl hl (by decide) rfl (fun ls hl => ?_)
  have lp_2 : ∀ (n_2 : Nat) (p : Int), (1 ≤ p ∧ (p ≤ M i 1 ∨ p = 1)) → (∀ a2 : Int, 1 ≤ a2 → a2 < p → ¬ kPer (M (i + 3)) (M i 1) a2) → (M i 1 + 1 - p < (n_2 : Int)) → ∀ ls : Array Slot, lv_has ls 2 [(0, .ref (E.2.2 i)), (1, .int (zI p))] → W pg l en rX1_leastPeriod s0 mi ar bl me co s0.heap [] 0 0 Q (F0 mi 2 ls []) := by
    intro n_2
    induction n_2 with
    | zero => intro p h1 h2 hm_2; exfalso; omega
    | succ n_2 ih_2 =>
      intro p h1 h2 hm_2 ls hl
      refine lv_iload_n hx hb dX1_leastPeriod_2 rfl (lv_at hl 1 rfl) ?_
      refine lv_aload_n hx hb dX1_leastPeriod_3 rfl (lv_at hl 0 rfl) ?_
      refine k_length S hK hP hinX10 (S.2.2.2.2 _ (List.mem_cons_of_mem _ (List.mem_append_left _ (List.mem_of_getElem? (i := 0) rfl)))) dX1_leastPeriod_4 (by omega) ?_
      refine k_ge (tgt := 34) hx hb dX1_leastPeriod_7 (by decide) (by omega) (fun c_7 => ?_) (fun c_7 => ?_)
      · skip
        refine lv_aload_n hx hb dX1_leastPeriod_34 rfl (lv_at hl 0 rfl) ?_
        refine k_length S hK hP hinX10 (S.2.2.2.2 _ (List.mem_cons_of_mem _ (List.mem_append_left _ (List.mem_of_getElem? (i := 0) rfl)))) dX1_leastPeriod_35 (by omega) ?_
        refine ends _ _ (M i 1) dX1_leastPeriod_38 ?_
        by_cases g : M i 1 = 0
        · exact Or.inl ⟨g, g⟩
        · refine Or.inr ⟨by omega, by omega, ?_, fun a2 g1 g2 => h2 a2 g1 (by omega)⟩
          unfold kPer; rw [Int.sub_self]; exact kEq_0 _ _ _ _
      · skip
        refine lv_aload_n hx hb dX1_leastPeriod_10 rfl (lv_at hl 0 rfl) ?_
        refine k_push hx hb dX1_leastPeriod_11 ?_
        refine lv_aload_n hx hb dX1_leastPeriod_12 rfl (lv_at hl 0 rfl) ?_
        refine lv_iload_n hx hb dX1_leastPeriod_13 rfl (lv_at hl 1 rfl) ?_
        refine k_callV (As := [.int (zI 0), .ref (E.2.2 i), .int (zI p)]) (rest := []) S hK hP (c_X1_sharedWith l E M i 0 i p (by omega) (by omega) (by assumption) (by omega) (by omega)) (cwV 3 S.2.2.2.2 gX1_leastPeriod_X1_sharedWith rfl rfl rfl (by decide +kernel) ⟨Nat.le_of_ble_eq_true rfl, Nat.le_of_ble_eq_true rfl⟩) (k_rS hK hP (by omega)) rfl hl.1 rfl (Nat.le_of_ble_eq_true rfl) dX1_leastPeriod_14 ⟨Nat.le_of_ble_eq_true rfl, Nat.le_of_ble_eq_true rfl⟩ (fun z_14 h_14 => ?_)
        obtain ⟨hk0, hk1, hk2, hk3, hk4⟩ := id h_14
        have hki := kLC_iff (m := M i 1 - p) h_14 (by omega) (by omega)
        refine lv_aload_n hx hb dX1_leastPeriod_17 rfl (lv_at hl 0 rfl) ?_
        refine k_length S hK hP hinX10 (S.2.2.2.2 _ (List.mem_cons_of_mem _ (List.mem_append_left _ (List.mem_of_getElem? (i := 0) rfl)))) dX1_leastPeriod_18 (by omega) ?_
        refine lv_iload_n hx hb dX1_leastPeriod_21 rfl (lv_at hl 1 rfl) ?_
        refine k_sub hx hb dX1_leastPeriod_22 ?_
        refine k_ne (tgt := 28) hx hb dX1_leastPeriod_23 (by decide) (by omega) (fun c_23 => ?_) (fun c_23 => ?_)
        · skip
          obtain ⟨v1_28, ev1_28⟩ : ∃ v : Int, v = p + 1 := ⟨_, rfl⟩
          refine k_incN (v := v1_28) (lv' := [(1, .int (zI v1_28)), (0, .ref (E.2.2 i))]) hx hb dX1_leastPeriod_28 hl (k := 1) rfl ev1_28 (by decide) rfl (fun ls hl => ?_)
          refine lv_goto (tgt := 2) hx hb dX1_leastPeriod_31 (by decide) ?_
          refine ih_2 v1_28 (by omega) ?_ (by omega) _ (lv_sub hl [1, 0] rfl)
          · intro a2 g1 g2
            by_cases g : a2 = p
            · subst g; exact fun q => by have := hki.mpr q; omega
            · exact h2 a2 g1 (by omega)
        · skip
          refine lv_iload_n hx hb dX1_leastPeriod_26 rfl (lv_at hl 1 rfl) ?_
          refine ends _ _ (p) dX1_leastPeriod_27 ?_
          exact Or.inr ⟨by omega, by omega, hki.mp (by omega), h2⟩
  refine lp_2 (((M i 1 + 1 - 1 : Int)).toNat + 1) 1 (by omega) (by intro a2 g1 g2; exfalso; omega) (by omega) _ (lv_sub hl [1, 0] rfl)
abbrev rX1_allAround : Room := { frames := 1, cells := 0, slots := 0, locals := 21 }
set_option maxHeartbeats 4000000 in
set_option maxRecDepth 100000 in
theorem c_X1_allAround (l : Launch) (E : kE) (M : kM) (i q : Int) (hi : 0 ≤ i ∧ i < 3) (hW : kWf M) (hq : 0 ≤ q ∧ q < M i 1 + M i 1) : kRO l yX1_allAround wsX1_allAround rX1_allAround E M [.ref (E.2.2 i), .int (zI q)] (fun z => ((q < M i 1 ∧ z = M (i + 3) q) ∨ (M i 1 ≤ q ∧ z = M (i + 3) (q - M i 1))) ∧ 0 ≤ z ∧ z ≤ 8) := by
  refine kRO_of (cc := cX1_allAround) (maxL := 2) (rt := .int) RX1 (by decide) rfl rfl (Nat.le_of_ble_eq_true rfl) k_nari ?_
  intro pg en s0 mi ar bl me co ls Q S hP hK ends hl
  have hx := S.1
  have hb := S.2.1
  have hinX10 : ∀ w ∈ wsX10, w ∈ wsX1_allAround := fun w h => List.mem_cons_of_mem _ (List.mem_append_right _ (h))
  have hl : lv_has ls 2 [(0, .ref (E.2.2 i)), (1, .int (zI q))] := hl
  obtain ⟨hn0, hn1, hv⟩ := hW i hi
  refine lv_aload_n hx hb dX1_allAround_0 rfl (lv_at hl 0 rfl) ?_
  refine lv_iload_n hx hb dX1_allAround_1 rfl (lv_at hl 1 rfl) ?_
  refine lv_aload_n hx hb dX1_allAround_2 rfl (lv_at hl 0 rfl) ?_
  refine k_length S hK hP hinX10 (S.2.2.2.2 _ (List.mem_cons_of_mem _ (List.mem_append_left _ (List.mem_of_getElem? (i := 0) rfl)))) dX1_allAround_3 (by omega) ?_
  refine k_ge (tgt := 13) hx hb dX1_allAround_6 (by decide) (by omega) (fun c_6 => ?_) (fun c_6 => ?_)
  · skip
    refine lv_iload_n hx hb dX1_allAround_13 rfl (lv_at hl 1 rfl) ?_
    refine lv_aload_n hx hb dX1_allAround_14 rfl (lv_at hl 0 rfl) ?_
    refine k_length S hK hP hinX10 (S.2.2.2.2 _ (List.mem_cons_of_mem _ (List.mem_append_left _ (List.mem_of_getElem? (i := 0) rfl)))) dX1_allAround_15 (by omega) ?_
    refine k_sub hx hb dX1_allAround_18 ?_
    refine k_callV (As := [.int (zI (q - (M i 1)))]) (rest := []) S hK hP (c_X1_at l E M i (q - (M i 1)) (by omega) (by assumption) (by omega)) (cwV 1 S.2.2.2.2 gX1_allAround_X1_at rfl rfl rfl (by decide +kernel) ⟨Nat.le_of_ble_eq_true rfl, Nat.le_of_ble_eq_true rfl⟩) (k_rS hK hP (by omega)) rfl hl.1 rfl (Nat.le_of_ble_eq_true rfl) dX1_allAround_19 ⟨Nat.le_of_ble_eq_true rfl, Nat.le_of_ble_eq_true rfl⟩ (fun z_19 h_19 => ?_)
    refine ends _ _ (z_19) dX1_allAround_22 ?_
    omega
  · skip
    refine lv_iload_n hx hb dX1_allAround_9 rfl (lv_at hl 1 rfl) ?_
    refine lv_goto (tgt := 19) hx hb dX1_allAround_10 (by decide) ?_
    refine k_callV (As := [.int (zI q)]) (rest := []) S hK hP (c_X1_at l E M i q (by omega) (by assumption) (by omega)) (cwV 1 S.2.2.2.2 gX1_allAround_X1_at rfl rfl rfl (by decide +kernel) ⟨Nat.le_of_ble_eq_true rfl, Nat.le_of_ble_eq_true rfl⟩) (k_rS hK hP (by omega)) rfl hl.1 rfl (Nat.le_of_ble_eq_true rfl) dX1_allAround_19 ⟨Nat.le_of_ble_eq_true rfl, Nat.le_of_ble_eq_true rfl⟩ (fun z_19 h_19 => ?_)
    refine ends _ _ (z_19) dX1_allAround_22 ?_
    omega
abbrev rX1_turnsToLess : Room := { frames := 2, cells := 0, slots := 0, locals := 42 }
set_option maxHeartbeats 4000000 in
set_option maxRecDepth 100000 in
theorem c_X1_turnsToLess (l : Launch) (E : kE) (M : kM) (i p q : Int) (hi : 0 ≤ i ∧ i < 3) (hW : kWf M) (hp : 0 ≤ p ∧ p < M i 1) (hq : 0 ≤ q ∧ q < M i 1) : kRO l yX1_turnsToLess wsX1_turnsToLess rX1_turnsToLess E M [.ref (E.2.2 i), .int (zI p), .int (zI q)] (fun z => (z = 1 ∧ kRL (M (i + 3)) (M i 1) p q) ∨ (z = 0 ∧ ¬ kRL (M (i + 3)) (M i 1) p q)) := by
  refine kRO_of (cc := cX1_turnsToLess) (maxL := 6) (rt := .boolean) RX1 (by decide) rfl rfl (Nat.le_of_ble_eq_true rfl) (fun z hz => k_narb (by omega)) ?_
  intro pg en s0 mi ar bl me co ls Q S hP hK ends hl
  have hx := S.1
  have hb := S.2.1
  have hinX10 : ∀ w ∈ wsX10, w ∈ wsX1_turnsToLess := fun w h => List.mem_cons_of_mem _ (List.mem_append_right _ (h))
  have hl : lv_has ls 6 [(0, .ref (E.2.2 i)), (1, .int (zI p)), (2, .int (zI q))] := hl
  obtain ⟨hn0, hn1, hv⟩ := hW i hi
  refine k_push hx hb dX1_turnsToLess_0 ?_
  refine lv_istore_n (lv' := [(3, .int (zI 0)), (0, .ref (E.2.2 i)), (1, .int (zI p)), (2, .int (zI q))]) hx hb dX1_turnsToLess_1 rfl hl (by decide) rfl (fun ls hl => ?_)
  have lp_2 : ∀ (n_2 : Nat) (t : Int), (0 ≤ t ∧ t ≤ M i 1) → (∀ u : Int, 0 ≤ u → u < t → kRot (M (i + 3)) (M i 1) p u = kRot (M (i + 3)) (M i 1) q u) → (M i 1 - t < (n_2 : Int)) → ∀ ls : Array Slot, lv_has ls 6 [(0, .ref (E.2.2 i)), (1, .int (zI p)), (2, .int (zI q)), (3, .int (zI t))] → W pg l en rX1_turnsToLess s0 mi ar bl me co s0.heap [] 0 0 Q (F0 mi 2 ls []) := by
    intro n_2
    induction n_2 with
    | zero => intro t h1 h2 hm_2; exfalso; omega
    | succ n_2 ih_2 =>
      intro t h1 h2 hm_2 ls hl
      refine lv_iload_n hx hb dX1_turnsToLess_2 rfl (lv_at hl 3 rfl) ?_
      refine lv_aload_n hx hb dX1_turnsToLess_3 rfl (lv_at hl 0 rfl) ?_
      refine k_length S hK hP hinX10 (S.2.2.2.2 _ (List.mem_cons_of_mem _ (List.mem_append_left _ (List.mem_of_getElem? (i := 0) rfl)))) dX1_turnsToLess_4 (by omega) ?_
      refine k_ge (tgt := 54) hx hb dX1_turnsToLess_7 (by decide) (by omega) (fun c_7 => ?_) (fun c_7 => ?_)
      · skip
        refine k_push hx hb dX1_turnsToLess_54 ?_
        refine ends _ _ (0) dX1_turnsToLess_55 ?_
        exact Or.inr ⟨rfl, fun g => by obtain ⟨u, g1, g2, g3, -⟩ := g; have := h2 u g1 (by omega); omega⟩
      · skip
        refine lv_aload_n hx hb dX1_turnsToLess_10 rfl (lv_at hl 0 rfl) ?_
        refine lv_iload_n hx hb dX1_turnsToLess_11 rfl (lv_at hl 1 rfl) ?_
        refine lv_iload_n hx hb dX1_turnsToLess_12 rfl (lv_at hl 3 rfl) ?_
        refine k_add hx hb dX1_turnsToLess_13 ?_
        refine k_callV (As := [.int (zI (p + t))]) (rest := []) S hK hP (c_X1_allAround l E M i (p + t) (by omega) (by assumption) (by omega)) (cwV 1 S.2.2.2.2 gX1_turnsToLess_X1_allAround rfl rfl rfl (by decide +kernel) ⟨Nat.le_of_ble_eq_true rfl, Nat.le_of_ble_eq_true rfl⟩) (k_rS hK hP (by omega)) rfl hl.1 rfl (Nat.le_of_ble_eq_true rfl) dX1_turnsToLess_14 ⟨Nat.le_of_ble_eq_true rfl, Nat.le_of_ble_eq_true rfl⟩ (fun z_14 h_14 => ?_)
        have hr1 : kRot (M (i + 3)) (M i 1) p t = z_14 := by unfold kRot; split <;> omega
        refine lv_istore (lv' := [(4, .int (zI z_14)), (0, .ref (E.2.2 i)), (1, .int (zI p)), (2, .int (zI q)), (3, .int (zI t))]) hx hb dX1_turnsToLess_17 hl (by decide) rfl (fun ls hl => ?_)
        refine lv_aload_n hx hb dX1_turnsToLess_19 rfl (lv_at hl 1 rfl) ?_
        refine lv_iload_n hx hb dX1_turnsToLess_20 rfl (lv_at hl 3 rfl) ?_
        refine lv_iload_n hx hb dX1_turnsToLess_21 rfl (lv_at hl 4 rfl) ?_
        refine k_add hx hb dX1_turnsToLess_22 ?_
        refine k_callV (As := [.int (zI (q + t))]) (rest := []) S hK hP (c_X1_allAround l E M i (q + t) (by omega) (by assumption) (by omega)) (cwV 1 S.2.2.2.2 gX1_turnsToLess_X1_allAround rfl rfl rfl (by decide +kernel) ⟨Nat.le_of_ble_eq_true rfl, Nat.le_of_ble_eq_true rfl⟩) (k_rS hK hP (by omega)) rfl hl.1 rfl (Nat.le_of_ble_eq_true rfl) dX1_turnsToLess_23 ⟨Nat.le_of_ble_eq_true rfl, Nat.le_of_ble_eq_true rfl⟩ (fun z_23 h_23 => ?_)
        have hr2 : kRot (M (i + 3)) (M i 1) q t = z_23 := by unfold kRot; split <;> omega
        refine lv_istore (lv' := [(5, .int (zI z_23)), (4, .int (zI z_14)), (0, .ref (E.2.2 i)), (1, .int (zI p)), (2, .int (zI q)), (3, .int (zI t))]) hx hb dX1_turnsToLess_26 hl (by decide) rfl (fun ls hl => ?_)
        refine lv_iload hx hb dX1_turnsToLess_28 (lv_at hl 1 rfl) ?_
        refine lv_iload hx hb dX1_turnsToLess_30 (lv_at hl 0 rfl) ?_
        refine k_eq (tgt := 48) hx hb dX1_turnsToLess_32 (by decide) (by omega) (fun c_32 => ?_) (fun c_32 => ?_)
        · skip
          obtain ⟨v3_48, ev3_48⟩ : ∃ v : Int, v = t + 1 := ⟨_, rfl⟩
          refine k_incN (v := v3_48) (lv' := [(3, .int (zI v3_48)), (5, .int (zI z_23)), (4, .int (zI z_14)), (0, .ref (E.2.2 i)), (1, .int (zI p)), (2, .int (zI q))]) hx hb dX1_turnsToLess_48 hl (k := 5) rfl ev3_48 (by decide) rfl (fun ls hl => ?_)
          refine lv_goto (tgt := 2) hx hb dX1_turnsToLess_51 (by decide) ?_
          refine ih_2 v3_48 (by omega) ?_ (by omega) _ (lv_sub hl [3, 4, 5, 0] rfl)
          · intro u g1 g2
            by_cases g : u = t
            · rw [g, hr1, hr2]; exact c_32
            · exact h2 u g1 (by omega)
        · skip
          refine lv_iload hx hb dX1_turnsToLess_35 (lv_at hl 1 rfl) ?_
          refine lv_iload hx hb dX1_turnsToLess_37 (lv_at hl 0 rfl) ?_
          refine k_ge (tgt := 46) hx hb dX1_turnsToLess_39 (by decide) (by omega) (fun c_39 => ?_) (fun c_39 => ?_)
          · skip
            refine k_push hx hb dX1_turnsToLess_46 ?_
            refine ends _ _ (0) dX1_turnsToLess_47 ?_
            first | exact Or.inl ⟨rfl, ⟨t, by omega, by omega, by omega, h2⟩⟩ | exact Or.inr ⟨rfl, kRL_no (by omega) h2 (by omega)⟩
          · skip
            refine k_push hx hb dX1_turnsToLess_42 ?_
            refine lv_goto (tgt := 47) hx hb dX1_turnsToLess_43 (by decide) ?_
            refine ends _ _ (1) dX1_turnsToLess_47 ?_
            first | exact Or.inl ⟨rfl, ⟨t, by omega, by omega, by omega, h2⟩⟩ | exact Or.inr ⟨rfl, kRL_no (by omega) h2 (by omega)⟩
  refine lp_2 (((M i 1 - 0 : Int)).toNat + 1) 0 (by omega) (by intro u g1 g2; exfalso; omega) (by omega) _ (lv_sub hl [1, 2, 3, 0] rfl)
abbrev rX1_bestBeginning : Room := { frames := 3, cells := 0, slots := 0, locals := 67 }
set_option maxHeartbeats 4000000 in
set_option maxRecDepth 100000 in
theorem c_X1_bestBeginning (l : Launch) (E : kE) (M : kM) (i : Int) (hi : 0 ≤ i ∧ i < 3) (hW : kWf M) : kRO l yX1_bestBeginning wsX1_bestBeginning rX1_bestBeginning E M [.ref (E.2.2 i)] (fun z => (M i 1 = 0 ∧ z = -1) ∨ (0 < M i 1 ∧ z = kBst (M (i + 3)) (M i 1) (M i 1 - 1).toNat ∧ 0 ≤ z ∧ z < M i 1)) := by
  refine kRO_of (cc := cX1_bestBeginning) (maxL := 3) (rt := .int) RX1 (by decide) rfl rfl (Nat.le_of_ble_eq_true rfl) k_nari ?_
  intro pg en s0 mi ar bl me co ls Q S hP hK ends hl
  have hx := S.1
  have hb := S.2.1
  have hinX10 : ∀ w ∈ wsX10, w ∈ wsX1_bestBeginning := fun w h => List.mem_cons_of_mem _ (List.mem_append_right _ (h))
  have hl : lv_has ls 3 [(0, .ref (E.2.2 i))] := hl
  obtain ⟨hn0, hn1, hv⟩ := hW i hi
  refine lv_aload_n hx hb dX1_bestBeginning_0 rfl (lv_at hl 0 rfl) ?_
  refine k_length S hK hP hinX10 (S.2.2.2.2 _ (List.mem_cons_of_mem _ (List.mem_append_left _ (List.mem_of_getElem? (i := 0) rfl)))) dX1_bestBeginning_1 (by omega) ?_
  refine k_ne0 (tgt := 9) hx hb dX1_bestBeginning_4 (by decide) (by omega) (fun c_4 => ?_) (fun c_4 => ?_)
  · skip
    refine k_push hx hb dX1_bestBeginning_9 ?_
    refine lv_istore_n (lv' := [(1, .int (zI 0)), (0, .ref (E.2.2 i))]) hx hb dX1_bestBeginning_10 rfl hl (by decide) rfl (fun ls hl => ?_)
    refine k_push hx hb dX1_bestBeginning_11 ?_
    refine lv_istore_n (lv' := [(2, .int (zI 1)), (1, .int (zI 0)), (0, .ref (E.2.2 i))]) hx hb dX1_bestBeginning_12 rfl hl (by decide) rfl (fun ls hl => ?_)
    have lp_13 : ∀ (n_13 : Nat) (b : Int) (p : Int), (1 ≤ p ∧ p ≤ M i 1 ∧ 0 ≤ b ∧ b < M i 1) → (b = kBst (M (i + 3)) (M i 1) (p - 1).toNat) → (M i 1 - p < (n_13 : Int)) → ∀ ls : Array Slot, lv_has ls 3 [(0, .ref (E.2.2 i)), (1, .int (zI b)), (2, .int (zI p))] → W pg l en rX1_bestBeginning s0 mi ar bl me co s0.heap [] 0 0 Q (F0 mi 13 ls []) := by
      intro n_13
      induction n_13 with
      | zero => intro b p h1 h2 hm_13; exfalso; omega
      | succ n_13 ih_13 =>
        intro b p h1 h2 hm_13 ls hl
        refine lv_iload_n hx hb dX1_bestBeginning_13 rfl (lv_at hl 2 rfl) ?_
        refine lv_aload_n hx hb dX1_bestBeginning_14 rfl (lv_at hl 0 rfl) ?_
        refine k_length S hK hP hinX10 (S.2.2.2.2 _ (List.mem_cons_of_mem _ (List.mem_append_left _ (List.mem_of_getElem? (i := 0) rfl)))) dX1_bestBeginning_15 (by omega) ?_
        refine k_ge (tgt := 38) hx hb dX1_bestBeginning_18 (by decide) (by omega) (fun c_18 => ?_) (fun c_18 => ?_)
        · skip
          refine lv_iload_n hx hb dX1_bestBeginning_38 rfl (lv_at hl 1 rfl) ?_
          refine ends _ _ (b) dX1_bestBeginning_39 ?_
          refine Or.inr ⟨by omega, ?_, by omega, by omega⟩
          rw [h2, show p - 1 = M i 1 - 1 by omega]
        · skip
          refine lv_aload_n hx hb dX1_bestBeginning_21 rfl (lv_at hl 0 rfl) ?_
          refine lv_iload_n hx hb dX1_bestBeginning_22 rfl (lv_at hl 2 rfl) ?_
          refine lv_iload_n hx hb dX1_bestBeginning_23 rfl (lv_at hl 1 rfl) ?_
          refine k_callV (As := [.int (zI p), .int (zI b)]) (rest := []) S hK hP (c_X1_turnsToLess l E M i p b (by omega) (by assumption) (by omega) (by omega)) (cwV 2 S.2.2.2.2 gX1_bestBeginning_X1_turnsToLess rfl rfl rfl (by decide +kernel) ⟨Nat.le_of_ble_eq_true rfl, Nat.le_of_ble_eq_true rfl⟩) (k_rS hK hP (by omega)) rfl hl.1 rfl (Nat.le_of_ble_eq_true rfl) dX1_bestBeginning_24 ⟨Nat.le_of_ble_eq_true rfl, Nat.le_of_ble_eq_true rfl⟩ (fun z_24 h_24 => ?_)
          refine k_eq0 (tgt := 32) hx hb dX1_bestBeginning_27 (by decide) (by omega) (fun c_27 => ?_) (fun c_27 => ?_)
          · skip
            obtain ⟨v2_32, ev2_32⟩ : ∃ v : Int, v = p + 1 := ⟨_, rfl⟩
            refine k_incN (v := v2_32) (lv' := [(2, .int (zI v2_32)), (0, .ref (E.2.2 i)), (1, .int (zI b))]) hx hb dX1_bestBeginning_32 hl (k := 2) rfl ev2_32 (by decide) rfl (fun ls hl => ?_)
            refine lv_goto (tgt := 13) hx hb dX1_bestBeginning_35 (by decide) ?_
            refine ih_13 b v2_32 (by omega) ?_ (by omega) _ (lv_sub hl [1, 2, 0] rfl)
            · subst ev2_32
              rw [show p + 1 - 1 = p by omega, kBst_step (by omega), ← h2]
              first | exact (kIf_t (h_24.resolve_right (fun g => c_27 g.1)).2).symm | exact (kIf_f (h_24.resolve_left (fun g => by omega)).2).symm
          · skip
            refine lv_iload_n hx hb dX1_bestBeginning_30 rfl (lv_at hl 2 rfl) ?_
            refine lv_istore_n (lv' := [(1, .int (zI p)), (0, .ref (E.2.2 i)), (2, .int (zI p))]) hx hb dX1_bestBeginning_31 rfl hl (by decide) rfl (fun ls hl => ?_)
            obtain ⟨v2_32, ev2_32⟩ : ∃ v : Int, v = p + 1 := ⟨_, rfl⟩
            refine k_incN (v := v2_32) (lv' := [(2, .int (zI v2_32)), (1, .int (zI p)), (0, .ref (E.2.2 i))]) hx hb dX1_bestBeginning_32 hl (k := 2) rfl ev2_32 (by decide) rfl (fun ls hl => ?_)
            refine lv_goto (tgt := 13) hx hb dX1_bestBeginning_35 (by decide) ?_
            refine ih_13 p v2_32 (by omega) ?_ (by omega) _ (lv_sub hl [2, 1, 0] rfl)
            · subst ev2_32
              rw [show p + 1 - 1 = p by omega, kBst_step (by omega), ← h2]
              first | exact (kIf_t (h_24.resolve_right (fun g => c_27 g.1)).2).symm | exact (kIf_f (h_24.resolve_left (fun g => by omega)).2).symm
    refine lp_13 (((M i 1 - 1 : Int)).toNat + 1) 0 1 (by omega) (by rfl) (by omega) _ (lv_sub hl [2, 1, 0] rfl)
  · skip
    refine k_push hx hb dX1_bestBeginning_7 ?_
    refine ends _ _ ((-1)) dX1_bestBeginning_8 ?_
    omega
abbrev rX1_append : Room := { frames := 0, cells := 0, slots := 0, locals := 0 }
set_option maxHeartbeats 4000000 in
set_option maxRecDepth 100000 in
theorem c_X1_append (l : Launch) (E : kE) (hE : kInj E) (M : kM) (i st : Int) (hi : 0 ≤ i ∧ i < 3) (hW : kWf M) (hst : 0 ≤ st ∧ st ≤ 8) (hlt : M i 1 < 40) : kRV l yX1_append wsX1_append rX1_append E M [.ref (E.2.2 i), .int (zI st)] (fun N => N = kU (kU M (i + 3) (M i 1) st) i 1 (M i 1 + 1)) := by
  refine kRV_of (cc := cX1_append) (maxL := 2) RX1 (by decide) rfl rfl (Nat.le_of_ble_eq_true rfl) ?_
  intro pg en s0 mi ar bl me co ls Q S hP hS hK ends hl
  have hx := S.1
  have hb := S.2.1
  have hinX10 : ∀ w ∈ wsX10, w ∈ wsX1_append := fun w h => List.mem_cons_of_mem _ (List.mem_append_right _ (h))
  have hl : lv_has ls 2 [(0, .ref (E.2.2 i)), (1, .int (zI st))] := hl
  obtain ⟨hn0, hn1, hv⟩ := hW i hi
  refine lv_aload_n hx hb dX1_append_0 rfl (lv_at hl 0 rfl) ?_
  refine k_length S hK hP hinX10 (S.2.2.2.2 _ (List.mem_cons_of_mem _ (List.mem_append_left _ (List.mem_of_getElem? (i := 0) rfl)))) dX1_append_1 (by omega) ?_
  refine k_lt0 (tgt := 39) hx hb dX1_append_4 (by decide) (by omega) (fun c_4 => ?_) (fun c_4 => ?_)
  · exact absurd c_4 (by omega)
  · skip
    refine lv_aload_n hx hb dX1_append_7 rfl (lv_at hl 0 rfl) ?_
    refine k_length S hK hP hinX10 (S.2.2.2.2 _ (List.mem_cons_of_mem _ (List.mem_append_left _ (List.mem_of_getElem? (i := 0) rfl)))) dX1_append_8 (by omega) ?_
    refine lv_aload_n hx hb dX1_append_11 rfl (lv_at hl 0 rfl) ?_
    refine k_kinds S hK hP hinX10 (S.2.2.2.2 _ (List.mem_cons_of_mem _ (List.mem_append_left _ (List.mem_of_getElem? (i := 1) rfl)))) dX1_append_12 (by omega) ?_
    refine k_alen S hK hP 40 (by unfold kArr; omega) dX1_append_15 ?_
    refine k_ge (tgt := 39) hx hb dX1_append_16 (by decide) (by omega) (fun c_16 => ?_) (fun c_16 => ?_)
    · exact absurd c_16 (by omega)
    · skip
      refine lv_aload_n hx hb dX1_append_19 rfl (lv_at hl 0 rfl) ?_
      refine k_kinds S hK hP hinX10 (S.2.2.2.2 _ (List.mem_cons_of_mem _ (List.mem_append_left _ (List.mem_of_getElem? (i := 1) rfl)))) dX1_append_20 (by omega) ?_
      refine lv_aload_n hx hb dX1_append_23 rfl (lv_at hl 0 rfl) ?_
      refine k_length S hK hP hinX10 (S.2.2.2.2 _ (List.mem_cons_of_mem _ (List.mem_append_left _ (List.mem_of_getElem? (i := 0) rfl)))) dX1_append_24 (by omega) ?_
      refine lv_iload_n hx hb dX1_append_27 rfl (lv_at hl 1 rfl) ?_
      refine k_ast S hK hE hP hS 40 (by unfold kArr; omega) (by omega) dX1_append_28 (fun H locs hP hS => ?_)
      obtain ⟨M28, eM28⟩ : ∃ N9 : kM, N9 = kU M (i + 3) (M i 1) st := ⟨_, rfl⟩
      rw [← eM28] at hP
      refine lv_aload_n hx hb dX1_append_29 rfl (lv_at hl 0 rfl) ?_
      refine lv_dup hx hb dX1_append_30 rfl ?_
      refine k_length S hK hP hinX10 (S.2.2.2.2 _ (List.mem_cons_of_mem _ (List.mem_append_left _ (List.mem_of_getElem? (i := 0) rfl)))) dX1_append_31 (by omega) ?_
      refine k_push hx hb dX1_append_34 ?_
      refine k_add hx hb dX1_append_35 ?_
      refine k_putlength S hK hE hP hS hinX10 (S.2.2.2.2 _ (List.mem_cons_of_mem _ (List.mem_append_left _ (List.mem_of_getElem? (i := 0) rfl)))) dX1_append_36 (by omega) (fun H locs hP hS => ?_)
      obtain ⟨M36, eM36⟩ : ∃ N9 : kM, N9 = kU M28 i 1 ((M28 i 1) + 1) := ⟨_, rfl⟩
      rw [← eM36] at hP
      refine ends _ _ M36 _ _ dX1_append_39 hP hS ?_
      rw [eM36, eM28, kU_cell (by omega)]
abbrev rX1_drop : Room := { frames := 0, cells := 0, slots := 0, locals := 0 }
set_option maxHeartbeats 4000000 in
set_option maxRecDepth 100000 in
theorem c_X1_drop (l : Launch) (E : kE) (hE : kInj E) (M : kM) (i r : Int) (hi : 0 ≤ i ∧ i < 3) (hW : kWf M) (hr : 0 ≤ r ∧ r ≤ M i 1) : kRV l yX1_drop wsX1_drop rX1_drop E M [.ref (E.2.2 i), .int (zI r)] (fun N => N = kU M i 1 (M i 1 - r)) := by
  refine kRV_of (cc := cX1_drop) (maxL := 2) RX1 (by decide) rfl rfl (Nat.le_of_ble_eq_true rfl) ?_
  intro pg en s0 mi ar bl me co ls Q S hP hS hK ends hl
  have hx := S.1
  have hb := S.2.1
  have hinX10 : ∀ w ∈ wsX10, w ∈ wsX1_drop := fun w h => List.mem_cons_of_mem _ (List.mem_append_right _ (h))
  have hl : lv_has ls 2 [(0, .ref (E.2.2 i)), (1, .int (zI r))] := hl
  obtain ⟨hn0, hn1, hv⟩ := hW i hi
  refine lv_aload_n hx hb dX1_drop_0 rfl (lv_at hl 0 rfl) ?_
  refine lv_iload_n hx hb dX1_drop_1 rfl (lv_at hl 1 rfl) ?_
  refine lv_aload_n hx hb dX1_drop_2 rfl (lv_at hl 0 rfl) ?_
  refine k_length S hK hP hinX10 (S.2.2.2.2 _ (List.mem_cons_of_mem _ (List.mem_append_left _ (List.mem_of_getElem? (i := 0) rfl)))) dX1_drop_3 (by omega) ?_
  refine k_ge (tgt := 18) hx hb dX1_drop_6 (by decide) (by omega) (fun c_6 => ?_) (fun c_6 => ?_)
  · skip
    refine k_push hx hb dX1_drop_18 ?_
    refine k_putlength S hK hE hP hS hinX10 (S.2.2.2.2 _ (List.mem_cons_of_mem _ (List.mem_append_left _ (List.mem_of_getElem? (i := 0) rfl)))) dX1_drop_19 (by omega) (fun H locs hP hS => ?_)
    obtain ⟨M19, eM19⟩ : ∃ N9 : kM, N9 = kU M i 1 0 := ⟨_, rfl⟩
    rw [← eM19] at hP
    refine ends _ _ M19 _ _ dX1_drop_22 hP hS ?_
    first | exact eM19 | (rw [show M i 1 - r = 0 by omega]; exact eM19)
  · skip
    refine lv_aload_n hx hb dX1_drop_9 rfl (lv_at hl 0 rfl) ?_
    refine k_length S hK hP hinX10 (S.2.2.2.2 _ (List.mem_cons_of_mem _ (List.mem_append_left _ (List.mem_of_getElem? (i := 0) rfl)))) dX1_drop_10 (by omega) ?_
    refine lv_iload_n hx hb dX1_drop_13 rfl (lv_at hl 1 rfl) ?_
    refine k_sub hx hb dX1_drop_14 ?_
    refine lv_goto (tgt := 19) hx hb dX1_drop_15 (by decide) ?_
    refine k_putlength S hK hE hP hS hinX10 (S.2.2.2.2 _ (List.mem_cons_of_mem _ (List.mem_append_left _ (List.mem_of_getElem? (i := 0) rfl)))) dX1_drop_19 (by omega) (fun H locs hP hS => ?_)
    obtain ⟨M19, eM19⟩ : ∃ N9 : kM, N9 = kU M i 1 ((M i 1) - r) := ⟨_, rfl⟩
    rw [← eM19] at hP
    refine ends _ _ M19 _ _ dX1_drop_22 hP hS ?_
    first | exact eM19 | (rw [show M i 1 - r = 0 by omega]; exact eM19)
