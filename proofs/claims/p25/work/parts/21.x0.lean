abbrev rX0_placeAt : Room := { frames := 0, cells := 0, slots := 0, locals := 0 }
set_option maxHeartbeats 4000000 in
set_option maxRecDepth 100000 in
theorem c_X0_placeAt (l : Launch) (E : kE) (M : kM) (h r : Int) (hh : 0 ≤ h ∧ h < 2) (hW : kWf M) (hO : kO M h) (hr : -100 ≤ r ∧ r ≤ 2000) : kRO l yX0_placeAt wsX0_placeAt rX0_placeAt E M [.ref (E.2.2 (6 + h)), .int (zI r)] (fun z => (0 ≤ r ∧ r < M h 1 ∧ z = M (8 + h) r ∧ 0 ≤ z ∧ z < M h 1) ∨ ((r < 0 ∨ M h 1 ≤ r) ∧ z = -1)) := by
  refine kRO_of (cc := cX0_placeAt) (maxL := 2) (rt := .int) RX0 (by decide) rfl rfl (Nat.le_of_ble_eq_true rfl) k_nari ?_
  intro pg en s0 mi ar bl me co ls Q S hP hK ends hl
  have hx := S.1
  have hb := S.2.1
  have hinX00 : ∀ w ∈ wsX00, w ∈ wsX0_placeAt := fun w h => List.mem_cons_of_mem _ (List.mem_append_left _ (List.mem_append_right _ (h)))
  have hinX10 : ∀ w ∈ wsX10, w ∈ wsX0_placeAt := fun w h => List.mem_cons_of_mem _ (List.mem_append_right _ (h))
  have hl : lv_has ls 2 [(0, .ref (E.2.2 (6 + h))), (1, .int (zI r))] := hl
  obtain ⟨hn0, hn1, hv⟩ := hW h (by omega)
  have hR := hO.1
  refine lv_iload_n hx hb dX0_placeAt_0 rfl (lv_at hl 1 rfl) ?_
  refine k_lt0 (tgt := 24) hx hb dX0_placeAt_1 (by decide) (by omega) (fun c_1 => ?_) (fun c_1 => ?_)
  · skip
    refine k_push hx hb dX0_placeAt_24 ?_
    refine ends _ _ ((-1)) dX0_placeAt_25 ?_
    omega
  · skip
    refine lv_iload_n hx hb dX0_placeAt_4 rfl (lv_at hl 1 rfl) ?_
    refine lv_aload_n hx hb dX0_placeAt_5 rfl (lv_at hl 0 rfl) ?_
    refine k_stitches S hK hP hinX00 (S.2.2.2.2 _ (List.mem_cons_of_mem _ (List.mem_append_left _ (List.mem_append_left _ (List.mem_of_getElem? (i := 0) rfl))))) dX0_placeAt_6 (by omega) (h) (by omega) ?_
    refine k_lengthN S hK hP hinX10 hK.2.1.1 dX0_placeAt_9 (by omega) ?_
    refine k_ge (tgt := 24) hx hb dX0_placeAt_12 (by decide) (by omega) (fun c_12 => ?_) (fun c_12 => ?_)
    · skip
      refine k_push hx hb dX0_placeAt_24 ?_
      refine ends _ _ ((-1)) dX0_placeAt_25 ?_
      omega
    · skip
      refine lv_iload_n hx hb dX0_placeAt_15 rfl (lv_at hl 1 rfl) ?_
      refine lv_aload_n hx hb dX0_placeAt_16 rfl (lv_at hl 0 rfl) ?_
      refine k_order S hK hP hinX00 (S.2.2.2.2 _ (List.mem_cons_of_mem _ (List.mem_append_left _ (List.mem_append_left _ (List.mem_of_getElem? (i := 1) rfl))))) dX0_placeAt_17 (by omega) (8 + h) (by omega) ?_
      refine k_alen S hK hP 40 (by unfold kArr; omega) dX0_placeAt_20 ?_
      refine k_lt (tgt := 26) hx hb dX0_placeAt_21 (by decide) (by omega) (fun c_21 => ?_) (fun c_21 => ?_)
      · skip
        refine lv_aload_n hx hb dX0_placeAt_26 rfl (lv_at hl 0 rfl) ?_
        refine k_order S hK hP hinX00 (S.2.2.2.2 _ (List.mem_cons_of_mem _ (List.mem_append_left _ (List.mem_append_left _ (List.mem_of_getElem? (i := 1) rfl))))) dX0_placeAt_27 (by omega) (8 + h) (by omega) ?_
        refine lv_iload_n hx hb dX0_placeAt_30 rfl (lv_at hl 1 rfl) ?_
        refine k_ald S hK hP 40 (by unfold kArr; omega) (by omega) dX0_placeAt_31 ?_
        refine ends _ _ (M (8 + h) r) dX0_placeAt_32 ?_
        have := hR r (by omega) (by omega)
        omega
      · exact absurd c_21 (by omega)
abbrev rX0_rankOf : Room := { frames := 1, cells := 0, slots := 0, locals := 21 }
set_option maxHeartbeats 4000000 in
set_option maxRecDepth 100000 in
theorem c_X0_rankOf (l : Launch) (E : kE) (M : kM) (h p : Int) (hh : 0 ≤ h ∧ h < 2) (hW : kWf M) (hO : kO M h) (hp : 0 ≤ p ∧ p ≤ 40) : kRO l yX0_rankOf wsX0_rankOf rX0_rankOf E M [.ref (E.2.2 (6 + h)), .int (zI p)] (fun z => (0 ≤ z ∧ z < M h 1 ∧ M (8 + h) z = p) ∨ (z = -1 ∧ ∀ r : Int, 0 ≤ r → r < M h 1 → M (8 + h) r ≠ p)) := by
  refine kRO_of (cc := cX0_rankOf) (maxL := 3) (rt := .int) RX0 (by decide) rfl rfl (Nat.le_of_ble_eq_true rfl) k_nari ?_
  intro pg en s0 mi ar bl me co ls Q S hP hK ends hl
  have hx := S.1
  have hb := S.2.1
  have hinX00 : ∀ w ∈ wsX00, w ∈ wsX0_rankOf := fun w h => List.mem_cons_of_mem _ (List.mem_append_left _ (List.mem_append_right _ (h)))
  have hinX10 : ∀ w ∈ wsX10, w ∈ wsX0_rankOf := fun w h => List.mem_cons_of_mem _ (List.mem_append_right _ (h))
  have hl : lv_has ls 3 [(0, .ref (E.2.2 (6 + h))), (1, .int (zI p))] := hl
  obtain ⟨hn0, hn1, hv⟩ := hW h (by omega)
  have hR := hO.1
  refine k_push hx hb dX0_rankOf_0 ?_
  refine lv_istore_n (lv' := [(2, .int (zI 0)), (0, .ref (E.2.2 (6 + h))), (1, .int (zI p))]) hx hb dX0_rankOf_1 rfl hl (by decide) rfl (fun ls hl => ?_)
  have lp_2 : ∀ (n_2 : Nat) (r : Int), (0 ≤ r ∧ r ≤ M h 1) → (∀ s : Int, 0 ≤ s → s < r → M (8 + h) s ≠ p) → (M h 1 - r < (n_2 : Int)) → ∀ ls : Array Slot, lv_has ls 3 [(0, .ref (E.2.2 (6 + h))), (1, .int (zI p)), (2, .int (zI r))] → W pg l en rX0_rankOf s0 mi ar bl me co s0.heap [] 0 0 Q (F0 mi 2 ls []) := by
    intro n_2
    induction n_2 with
    | zero => intro r h1 h2 hm_2; exfalso; omega
    | succ n_2 ih_2 =>
      intro r h1 h2 hm_2 ls hl
      refine lv_iload_n hx hb dX0_rankOf_2 rfl (lv_at hl 2 rfl) ?_
      refine lv_aload_n hx hb dX0_rankOf_3 rfl (lv_at hl 0 rfl) ?_
      refine k_stitches S hK hP hinX00 (S.2.2.2.2 _ (List.mem_cons_of_mem _ (List.mem_append_left _ (List.mem_append_left _ (List.mem_of_getElem? (i := 0) rfl))))) dX0_rankOf_4 (by omega) (h) (by omega) ?_
      refine k_lengthN S hK hP hinX10 hK.2.1.1 dX0_rankOf_7 (by omega) ?_
      refine k_ge (tgt := 30) hx hb dX0_rankOf_10 (by decide) (by omega) (fun c_10 => ?_) (fun c_10 => ?_)
      · skip
        refine k_push hx hb dX0_rankOf_30 ?_
        refine ends _ _ ((-1)) dX0_rankOf_31 ?_
        exact Or.inr ⟨rfl, fun s g1 g2 => h2 s g1 (by omega)⟩
      · skip
        refine lv_aload_n hx hb dX0_rankOf_13 rfl (lv_at hl 0 rfl) ?_
        refine lv_iload_n hx hb dX0_rankOf_14 rfl (lv_at hl 2 rfl) ?_
        refine k_callV (As := [.int (zI r)]) (rest := []) S hK hP (c_X0_placeAt l E M h r (by omega) (by assumption) (by assumption) (by omega)) (cwV 1 S.2.2.2.2 gX0_rankOf_X0_placeAt rfl rfl rfl (by decide +kernel) ⟨Nat.le_of_ble_eq_true rfl, Nat.le_of_ble_eq_true rfl⟩) (k_rH hK hP (by omega)) rfl hl.1 rfl (Nat.le_of_ble_eq_true rfl) dX0_rankOf_15 ⟨Nat.le_of_ble_eq_true rfl, Nat.le_of_ble_eq_true rfl⟩ (fun z_15 h_15 => ?_)
        refine lv_iload_n hx hb dX0_rankOf_18 rfl (lv_at hl 1 rfl) ?_
        refine k_ne (tgt := 24) hx hb dX0_rankOf_19 (by decide) (by omega) (fun c_19 => ?_) (fun c_19 => ?_)
        · skip
          obtain ⟨v2_24, ev2_24⟩ : ∃ v : Int, v = r + 1 := ⟨_, rfl⟩
          refine k_incN (v := v2_24) (lv' := [(2, .int (zI v2_24)), (0, .ref (E.2.2 (6 + h))), (1, .int (zI p))]) hx hb dX0_rankOf_24 hl (k := 2) rfl ev2_24 (by decide) rfl (fun ls hl => ?_)
          refine lv_goto (tgt := 2) hx hb dX0_rankOf_27 (by decide) ?_
          refine ih_2 v2_24 (by omega) ?_ (by omega) _ (lv_sub hl [1, 2, 0] rfl)
          · intro s g1 g2
            by_cases g : s = r
            · rw [g]; omega
            · exact h2 s g1 (by omega)
        · skip
          refine lv_iload_n hx hb dX0_rankOf_22 rfl (lv_at hl 2 rfl) ?_
          refine ends _ _ (r) dX0_rankOf_23 ?_
          omega
  refine lp_2 (((M h 1 - 0 : Int)).toNat + 1) 0 (by omega) (by intro s g1 g2; exfalso; omega) (by omega) _ (lv_sub hl [1, 2, 0] rfl)
abbrev rX0_sharedWithNext : Room := { frames := 2, cells := 0, slots := 0, locals := 46 }
set_option maxHeartbeats 4000000 in
set_option maxRecDepth 100000 in
theorem c_X0_sharedWithNext (l : Launch) (E : kE) (M : kM) (h r : Int) (hh : 0 ≤ h ∧ h < 2) (hW : kWf M) (hO : kO M h) (hr : -1 ≤ r ∧ r ≤ 40) : kRO l yX0_sharedWithNext wsX0_sharedWithNext rX0_sharedWithNext E M [.ref (E.2.2 (6 + h)), .int (zI r)] (fun z => z = kNx (M (h + 3)) (M h 1) (M (8 + h)) r ∧ 0 ≤ z ∧ z ≤ 40) := by
  refine kRO_of (cc := cX0_sharedWithNext) (maxL := 4) (rt := .int) RX0 (by decide) rfl rfl (Nat.le_of_ble_eq_true rfl) k_nari ?_
  intro pg en s0 mi ar bl me co ls Q S hP hK ends hl
  have hx := S.1
  have hb := S.2.1
  have hinX00 : ∀ w ∈ wsX00, w ∈ wsX0_sharedWithNext := fun w h => List.mem_cons_of_mem _ (List.mem_append_left _ (List.mem_append_right _ (h)))
  have hinX10 : ∀ w ∈ wsX10, w ∈ wsX0_sharedWithNext := fun w h => List.mem_cons_of_mem _ (List.mem_append_right _ (h))
  have hl : lv_has ls 4 [(0, .ref (E.2.2 (6 + h))), (1, .int (zI r))] := hl
  obtain ⟨hn0, hn1, hv⟩ := hW h (by omega)
  have hR := hO.1
  refine lv_aload_n hx hb dX0_sharedWithNext_0 rfl (lv_at hl 0 rfl) ?_
  refine lv_iload_n hx hb dX0_sharedWithNext_1 rfl (lv_at hl 1 rfl) ?_
  refine k_callV (As := [.int (zI r)]) (rest := []) S hK hP (c_X0_placeAt l E M h r (by omega) (by assumption) (by assumption) (by omega)) (cwV 1 S.2.2.2.2 gX0_sharedWithNext_X0_placeAt rfl rfl rfl (by decide +kernel) ⟨Nat.le_of_ble_eq_true rfl, Nat.le_of_ble_eq_true rfl⟩) (k_rH hK hP (by omega)) rfl hl.1 rfl (Nat.le_of_ble_eq_true rfl) dX0_sharedWithNext_2 ⟨Nat.le_of_ble_eq_true rfl, Nat.le_of_ble_eq_true rfl⟩ (fun z_2 h_2 => ?_)
  refine lv_istore_n (lv' := [(2, .int (zI z_2)), (0, .ref (E.2.2 (6 + h))), (1, .int (zI r))]) hx hb dX0_sharedWithNext_5 rfl hl (by decide) rfl (fun ls hl => ?_)
  refine lv_aload_n hx hb dX0_sharedWithNext_6 rfl (lv_at hl 1 rfl) ?_
  refine lv_iload_n hx hb dX0_sharedWithNext_7 rfl (lv_at hl 2 rfl) ?_
  refine k_push hx hb dX0_sharedWithNext_8 ?_
  refine k_add hx hb dX0_sharedWithNext_9 ?_
  refine k_callV (As := [.int (zI (r + 1))]) (rest := []) S hK hP (c_X0_placeAt l E M h (r + 1) (by omega) (by assumption) (by assumption) (by omega)) (cwV 1 S.2.2.2.2 gX0_sharedWithNext_X0_placeAt rfl rfl rfl (by decide +kernel) ⟨Nat.le_of_ble_eq_true rfl, Nat.le_of_ble_eq_true rfl⟩) (k_rH hK hP (by omega)) rfl hl.1 rfl (Nat.le_of_ble_eq_true rfl) dX0_sharedWithNext_10 ⟨Nat.le_of_ble_eq_true rfl, Nat.le_of_ble_eq_true rfl⟩ (fun z_10 h_10 => ?_)
  refine lv_istore_n (lv' := [(3, .int (zI z_10)), (2, .int (zI z_2)), (0, .ref (E.2.2 (6 + h))), (1, .int (zI r))]) hx hb dX0_sharedWithNext_13 rfl hl (by decide) rfl (fun ls hl => ?_)
  refine lv_iload_n hx hb dX0_sharedWithNext_14 rfl (lv_at hl 1 rfl) ?_
  refine k_push hx hb dX0_sharedWithNext_15 ?_
  refine k_eq (tgt := 24) hx hb dX0_sharedWithNext_16 (by decide) (by omega) (fun c_16 => ?_) (fun c_16 => ?_)
  · skip
    refine k_push hx hb dX0_sharedWithNext_24 ?_
    refine ends _ _ (0) dX0_sharedWithNext_25 ?_
    exact ⟨(kNx_out (by omega)).symm, by omega, by omega⟩
  · skip
    refine lv_iload_n hx hb dX0_sharedWithNext_19 rfl (lv_at hl 0 rfl) ?_
    refine k_push hx hb dX0_sharedWithNext_20 ?_
    refine k_ne (tgt := 26) hx hb dX0_sharedWithNext_21 (by decide) (by omega) (fun c_21 => ?_) (fun c_21 => ?_)
    · skip
      refine lv_aload_n hx hb dX0_sharedWithNext_26 rfl (lv_at hl 2 rfl) ?_
      refine k_stitches S hK hP hinX00 (S.2.2.2.2 _ (List.mem_cons_of_mem _ (List.mem_append_left _ (List.mem_append_left _ (List.mem_of_getElem? (i := 0) rfl))))) dX0_sharedWithNext_27 (by omega) (h) (by omega) ?_
      refine lv_iload_n hx hb dX0_sharedWithNext_30 rfl (lv_at hl 1 rfl) ?_
      refine lv_aload_n hx hb dX0_sharedWithNext_31 rfl (lv_at hl 2 rfl) ?_
      refine k_stitches S hK hP hinX00 (S.2.2.2.2 _ (List.mem_cons_of_mem _ (List.mem_append_left _ (List.mem_append_left _ (List.mem_of_getElem? (i := 0) rfl))))) dX0_sharedWithNext_32 (by omega) (h) (by omega) ?_
      refine lv_iload_n hx hb dX0_sharedWithNext_35 rfl (lv_at hl 0 rfl) ?_
      refine k_callV (As := [.int (zI z_2), .ref (E.2.2 h), .int (zI z_10)]) (rest := []) S hK hP (c_X1_sharedWith l E M h z_2 h z_10 (by omega) (by omega) (by assumption) (by omega) (by omega)) (cwV 3 S.2.2.2.2 gX0_sharedWithNext_X1_sharedWith rfl rfl rfl (by decide +kernel) ⟨Nat.le_of_ble_eq_true rfl, Nat.le_of_ble_eq_true rfl⟩) (k_rS hK hP (by omega)) rfl hl.1 rfl (Nat.le_of_ble_eq_true rfl) dX0_sharedWithNext_36 ⟨Nat.le_of_ble_eq_true rfl, Nat.le_of_ble_eq_true rfl⟩ (fun z_36 h_36 => ?_)
      have hkk := kL_of h_36
      obtain ⟨hk0, hk1, hk2, -, -⟩ := id h_36
      refine ends _ _ (z_36) dX0_sharedWithNext_39 ?_
      refine ⟨?_, by omega, by omega⟩
      rw [hkk, kNx_in (by omega), show z_2 = M (8 + h) r by omega, show z_10 = M (8 + h) (r + 1) by omega]
    · skip
      refine k_push hx hb dX0_sharedWithNext_24 ?_
      refine ends _ _ (0) dX0_sharedWithNext_25 ?_
      exact ⟨(kNx_out (by omega)).symm, by omega, by omega⟩
abbrev rX0_neighbourPairs : Room := { frames := 0, cells := 0, slots := 0, locals := 0 }
set_option maxHeartbeats 4000000 in
set_option maxRecDepth 100000 in
theorem c_X0_neighbourPairs (l : Launch) (E : kE) (M : kM) (h : Int) (hh : 0 ≤ h ∧ h < 2) (hW : kWf M) : kRO l yX0_neighbourPairs wsX0_neighbourPairs rX0_neighbourPairs E M [.ref (E.2.2 (6 + h))] (fun z => (M h 1 = 0 ∧ z = 0) ∨ (0 < M h 1 ∧ z = M h 1 - 1)) := by
  refine kRO_of (cc := cX0_neighbourPairs) (maxL := 1) (rt := .int) RX0 (by decide) rfl rfl (Nat.le_of_ble_eq_true rfl) k_nari ?_
  intro pg en s0 mi ar bl me co ls Q S hP hK ends hl
  have hx := S.1
  have hb := S.2.1
  have hinX00 : ∀ w ∈ wsX00, w ∈ wsX0_neighbourPairs := fun w h => List.mem_cons_of_mem _ (List.mem_append_left _ (List.mem_append_right _ (h)))
  have hinX10 : ∀ w ∈ wsX10, w ∈ wsX0_neighbourPairs := fun w h => List.mem_cons_of_mem _ (List.mem_append_right _ (h))
  have hl : lv_has ls 1 [(0, .ref (E.2.2 (6 + h)))] := hl
  obtain ⟨hn0, hn1, hv⟩ := hW h (by omega)
  refine lv_aload_n hx hb dX0_neighbourPairs_0 rfl (lv_at hl 0 rfl) ?_
  refine k_stitches S hK hP hinX00 (S.2.2.2.2 _ (List.mem_cons_of_mem _ (List.mem_append_left _ (List.mem_append_left _ (List.mem_of_getElem? (i := 0) rfl))))) dX0_neighbourPairs_1 (by omega) (h) (by omega) ?_
  refine k_lengthN S hK hP hinX10 hK.2.1.1 dX0_neighbourPairs_4 (by omega) ?_
  refine k_ne0 (tgt := 14) hx hb dX0_neighbourPairs_7 (by decide) (by omega) (fun c_7 => ?_) (fun c_7 => ?_)
  · skip
    refine lv_aload_n hx hb dX0_neighbourPairs_14 rfl (lv_at hl 0 rfl) ?_
    refine k_stitches S hK hP hinX00 (S.2.2.2.2 _ (List.mem_cons_of_mem _ (List.mem_append_left _ (List.mem_append_left _ (List.mem_of_getElem? (i := 0) rfl))))) dX0_neighbourPairs_15 (by omega) (h) (by omega) ?_
    refine k_lengthN S hK hP hinX10 hK.2.1.1 dX0_neighbourPairs_18 (by omega) ?_
    refine k_push hx hb dX0_neighbourPairs_21 ?_
    refine k_sub hx hb dX0_neighbourPairs_22 ?_
    refine ends _ _ ((M h 1) - 1) dX0_neighbourPairs_23 ?_
    omega
  · skip
    refine k_push hx hb dX0_neighbourPairs_10 ?_
    refine lv_goto (tgt := 23) hx hb dX0_neighbourPairs_11 (by decide) ?_
    refine ends _ _ (0) dX0_neighbourPairs_23 ?_
    omega
abbrev rX0_sharedByNeighbours : Room := { frames := 3, cells := 0, slots := 0, locals := 69 }
set_option maxHeartbeats 4000000 in
set_option maxRecDepth 100000 in
theorem c_X0_sharedByNeighbours (l : Launch) (E : kE) (M : kM) (h : Int) (hh : 0 ≤ h ∧ h < 2) (hW : kWf M) (hO : kO M h) : kRO l yX0_sharedByNeighbours wsX0_sharedByNeighbours rX0_sharedByNeighbours E M [.ref (E.2.2 (6 + h))] (fun z => z = kSum (kNx (M (h + 3)) (M h 1) (M (8 + h))) (M h 1).toNat ∧ 0 ≤ z ∧ z ≤ 1600) := by
  refine kRO_of (cc := cX0_sharedByNeighbours) (maxL := 3) (rt := .int) RX0 (by decide) rfl rfl (Nat.le_of_ble_eq_true rfl) k_nari ?_
  intro pg en s0 mi ar bl me co ls Q S hP hK ends hl
  have hx := S.1
  have hb := S.2.1
  have hinX00 : ∀ w ∈ wsX00, w ∈ wsX0_sharedByNeighbours := fun w h => List.mem_cons_of_mem _ (List.mem_append_left _ (List.mem_append_right _ (h)))
  have hinX10 : ∀ w ∈ wsX10, w ∈ wsX0_sharedByNeighbours := fun w h => List.mem_cons_of_mem _ (List.mem_append_right _ (h))
  have hl : lv_has ls 3 [(0, .ref (E.2.2 (6 + h)))] := hl
  obtain ⟨hn0, hn1, hv⟩ := hW h (by omega)
  have hR := hO.1
  refine k_push hx hb dX0_sharedByNeighbours_0 ?_
  refine lv_istore_n (lv' := [(1, .int (zI 0)), (0, .ref (E.2.2 (6 + h)))]) hx hb dX0_sharedByNeighbours_1 rfl hl (by decide) rfl (fun ls hl => ?_)
  refine k_push hx hb dX0_sharedByNeighbours_2 ?_
  refine lv_istore_n (lv' := [(2, .int (zI 0)), (1, .int (zI 0)), (0, .ref (E.2.2 (6 + h)))]) hx hb dX0_sharedByNeighbours_3 rfl hl (by decide) rfl (fun ls hl => ?_)
  have lp_4 : ∀ (n_4 : Nat) (sm : Int) (r : Int), (0 ≤ r ∧ r ≤ M h 1 ∧ 0 ≤ sm ∧ sm ≤ 40 * r) → (sm = kSum (kNx (M (h + 3)) (M h 1) (M (8 + h))) r.toNat) → (M h 1 - r < (n_4 : Int)) → ∀ ls : Array Slot, lv_has ls 3 [(0, .ref (E.2.2 (6 + h))), (1, .int (zI sm)), (2, .int (zI r))] → W pg l en rX0_sharedByNeighbours s0 mi ar bl me co s0.heap [] 0 0 Q (F0 mi 4 ls []) := by
    intro n_4
    induction n_4 with
    | zero => intro sm r h1 h2 hm_4; exfalso; omega
    | succ n_4 ih_4 =>
      intro sm r h1 h2 hm_4 ls hl
      refine lv_iload_n hx hb dX0_sharedByNeighbours_4 rfl (lv_at hl 2 rfl) ?_
      refine lv_aload_n hx hb dX0_sharedByNeighbours_5 rfl (lv_at hl 0 rfl) ?_
      refine k_stitches S hK hP hinX00 (S.2.2.2.2 _ (List.mem_cons_of_mem _ (List.mem_append_left _ (List.mem_append_left _ (List.mem_append_left _ (List.mem_of_getElem? (i := 0) rfl)))))) dX0_sharedByNeighbours_6 (by omega) (h) (by omega) ?_
      refine k_lengthN S hK hP hinX10 hK.2.1.1 dX0_sharedByNeighbours_9 (by omega) ?_
      refine k_ge (tgt := 29) hx hb dX0_sharedByNeighbours_12 (by decide) (by omega) (fun c_12 => ?_) (fun c_12 => ?_)
      · skip
        refine lv_iload_n hx hb dX0_sharedByNeighbours_29 rfl (lv_at hl 1 rfl) ?_
        refine ends _ _ (sm) dX0_sharedByNeighbours_30 ?_
        refine ⟨?_, by omega, by omega⟩
        rw [h2, show r = M h 1 by omega]
      · skip
        refine lv_iload_n hx hb dX0_sharedByNeighbours_15 rfl (lv_at hl 1 rfl) ?_
        refine lv_aload_n hx hb dX0_sharedByNeighbours_16 rfl (lv_at hl 0 rfl) ?_
        refine lv_iload_n hx hb dX0_sharedByNeighbours_17 rfl (lv_at hl 2 rfl) ?_
        refine k_callV (As := [.int (zI r)]) (rest := [.int (zI sm)]) S hK hP (c_X0_sharedWithNext l E M h r (by omega) (by assumption) (by assumption) (by omega)) (cwV 1 S.2.2.2.2 gX0_sharedByNeighbours_X0_sharedWithNext rfl rfl rfl (by decide +kernel) ⟨Nat.le_of_ble_eq_true rfl, Nat.le_of_ble_eq_true rfl⟩) (k_rH hK hP (by omega)) rfl hl.1 rfl (Nat.le_of_ble_eq_true rfl) dX0_sharedByNeighbours_18 ⟨Nat.le_of_ble_eq_true rfl, Nat.le_of_ble_eq_true rfl⟩ (fun z_18 h_18 => ?_)
        refine k_add hx hb dX0_sharedByNeighbours_21 ?_
        refine k_nm (fun v1_22 ev1_22 => ?_)
        refine lv_istore_n (lv' := [(1, .int (zI v1_22)), (0, .ref (E.2.2 (6 + h))), (2, .int (zI r))]) hx hb dX0_sharedByNeighbours_22 rfl hl (by decide) rfl (fun ls hl => ?_)
        obtain ⟨v2_23, ev2_23⟩ : ∃ v : Int, v = r + 1 := ⟨_, rfl⟩
        refine k_incN (v := v2_23) (lv' := [(2, .int (zI v2_23)), (1, .int (zI v1_22)), (0, .ref (E.2.2 (6 + h)))]) hx hb dX0_sharedByNeighbours_23 hl (k := 2) rfl ev2_23 (by decide) rfl (fun ls hl => ?_)
        refine lv_goto (tgt := 4) hx hb dX0_sharedByNeighbours_26 (by decide) ?_
        refine ih_4 v1_22 v2_23 (by omega) ?_ (by omega) _ (lv_sub hl [2, 1, 0] rfl)
        · subst ev2_23
          rw [ev1_22, kSum_step _ (by omega), ← h2, h_18.1]
  refine lp_4 (((M h 1 - 0 : Int)).toNat + 1) 0 0 (by omega) (by rfl) (by omega) _ (lv_sub hl [2, 1, 0] rfl)
abbrev rX0_rowsFirstAt : Room := { frames := 3, cells := 0, slots := 0, locals := 69 }
set_option maxHeartbeats 4000000 in
set_option maxRecDepth 100000 in
theorem c_X0_rowsFirstAt (l : Launch) (E : kE) (M : kM) (h r : Int) (hh : 0 ≤ h ∧ h < 2) (hW : kWf M) (hO : kO M h) (hr : 0 ≤ r ∧ r < M h 1) : kRO l yX0_rowsFirstAt wsX0_rowsFirstAt rX0_rowsFirstAt E M [.ref (E.2.2 (6 + h)), .int (zI r)] (fun z => z = kRw (M (h + 3)) (M h 1) (M (8 + h)) r ∧ 0 ≤ z ∧ z ≤ 40) := by
  refine kRO_of (cc := cX0_rowsFirstAt) (maxL := 2) (rt := .int) RX0 (by decide) rfl rfl (Nat.le_of_ble_eq_true rfl) k_nari ?_
  intro pg en s0 mi ar bl me co ls Q S hP hK ends hl
  have hx := S.1
  have hb := S.2.1
  have hinX00 : ∀ w ∈ wsX00, w ∈ wsX0_rowsFirstAt := fun w h => List.mem_cons_of_mem _ (List.mem_append_left _ (List.mem_append_right _ (h)))
  have hinX10 : ∀ w ∈ wsX10, w ∈ wsX0_rowsFirstAt := fun w h => List.mem_cons_of_mem _ (List.mem_append_right _ (h))
  have hl : lv_has ls 2 [(0, .ref (E.2.2 (6 + h))), (1, .int (zI r))] := hl
  obtain ⟨hn0, hn1, hv⟩ := hW h (by omega)
  have hR := hO.1
  refine lv_aload_n hx hb dX0_rowsFirstAt_0 rfl (lv_at hl 0 rfl) ?_
  refine k_stitches S hK hP hinX00 (S.2.2.2.2 _ (List.mem_cons_of_mem _ (List.mem_append_left _ (List.mem_append_left _ (List.mem_append_left _ (List.mem_of_getElem? (i := 0) rfl)))))) dX0_rowsFirstAt_1 (by omega) (h) (by omega) ?_
  refine k_lengthN S hK hP hinX10 hK.2.1.1 dX0_rowsFirstAt_4 (by omega) ?_
  refine lv_aload_n hx hb dX0_rowsFirstAt_7 rfl (lv_at hl 0 rfl) ?_
  refine lv_iload_n hx hb dX0_rowsFirstAt_8 rfl (lv_at hl 1 rfl) ?_
  refine k_callV (As := [.int (zI r)]) (rest := [.int (zI (M h 1))]) S hK hP (c_X0_placeAt l E M h r (by omega) (by assumption) (by assumption) (by omega)) (cwV 1 S.2.2.2.2 gX0_rowsFirstAt_X0_placeAt rfl rfl rfl (by decide +kernel) ⟨Nat.le_of_ble_eq_true rfl, Nat.le_of_ble_eq_true rfl⟩) (k_rH hK hP (by omega)) rfl hl.1 rfl (Nat.le_of_ble_eq_true rfl) dX0_rowsFirstAt_9 ⟨Nat.le_of_ble_eq_true rfl, Nat.le_of_ble_eq_true rfl⟩ (fun z_9 h_9 => ?_)
  refine k_sub hx hb dX0_rowsFirstAt_12 ?_
  refine lv_aload_n hx hb dX0_rowsFirstAt_13 rfl (lv_at hl 0 rfl) ?_
  refine lv_iload_n hx hb dX0_rowsFirstAt_14 rfl (lv_at hl 1 rfl) ?_
  refine k_push hx hb dX0_rowsFirstAt_15 ?_
  refine k_sub hx hb dX0_rowsFirstAt_16 ?_
  refine k_callV (As := [.int (zI (r - 1))]) (rest := [.int (zI ((M h 1) - z_9))]) S hK hP (c_X0_sharedWithNext l E M h (r - 1) (by omega) (by assumption) (by assumption) (by omega)) (cwV 1 S.2.2.2.2 gX0_rowsFirstAt_X0_sharedWithNext rfl rfl rfl (by decide +kernel) ⟨Nat.le_of_ble_eq_true rfl, Nat.le_of_ble_eq_true rfl⟩) (k_rH hK hP (by omega)) rfl hl.1 rfl (Nat.le_of_ble_eq_true rfl) dX0_rowsFirstAt_17 ⟨Nat.le_of_ble_eq_true rfl, Nat.le_of_ble_eq_true rfl⟩ (fun z_17 h_17 => ?_)
  refine k_sub hx hb dX0_rowsFirstAt_20 ?_
  refine ends _ _ (((M h 1) - z_9) - z_17) dX0_rowsFirstAt_21 ?_
  have hq := kRw_rng hO hr
  have hz : M h 1 - z_9 - z_17 = kRw (M (h + 3)) (M h 1) (M (8 + h)) r := by unfold kRw; rw [← h_17.1]; omega
  omega
abbrev rX0_differentRows : Room := { frames := 4, cells := 0, slots := 0, locals := 90 }
set_option maxHeartbeats 4000000 in
set_option maxRecDepth 100000 in
theorem c_X0_differentRows (l : Launch) (E : kE) (M : kM) (h : Int) (hh : 0 ≤ h ∧ h < 2) (hW : kWf M) (hO : kO M h) : kRO l yX0_differentRows wsX0_differentRows rX0_differentRows E M [.ref (E.2.2 (6 + h))] (fun z => z = kSum (kRw (M (h + 3)) (M h 1) (M (8 + h))) (M h 1).toNat ∧ 0 ≤ z ∧ z ≤ 1600) := by
  refine kRO_of (cc := cX0_differentRows) (maxL := 3) (rt := .int) RX0 (by decide) rfl rfl (Nat.le_of_ble_eq_true rfl) k_nari ?_
  intro pg en s0 mi ar bl me co ls Q S hP hK ends hl
  have hx := S.1
  have hb := S.2.1
  have hinX00 : ∀ w ∈ wsX00, w ∈ wsX0_differentRows := fun w h => List.mem_cons_of_mem _ (List.mem_append_left _ (List.mem_append_right _ (h)))
  have hinX10 : ∀ w ∈ wsX10, w ∈ wsX0_differentRows := fun w h => List.mem_cons_of_mem _ (List.mem_append_right _ (h))
  have hl : lv_has ls 3 [(0, .ref (E.2.2 (6 + h)))] := hl
  obtain ⟨hn0, hn1, hv⟩ := hW h (by omega)
  have hR := hO.1
  refine k_push hx hb dX0_differentRows_0 ?_
  refine lv_istore_n (lv' := [(1, .int (zI 0)), (0, .ref (E.2.2 (6 + h)))]) hx hb dX0_differentRows_1 rfl hl (by decide) rfl (fun ls hl => ?_)
  refine k_push hx hb dX0_differentRows_2 ?_
  refine lv_istore_n (lv' := [(2, .int (zI 0)), (1, .int (zI 0)), (0, .ref (E.2.2 (6 + h)))]) hx hb dX0_differentRows_3 rfl hl (by decide) rfl (fun ls hl => ?_)
  have lp_4 : ∀ (n_4 : Nat) (sm : Int) (r : Int), (0 ≤ r ∧ r ≤ M h 1 ∧ 0 ≤ sm ∧ sm ≤ 40 * r) → (sm = kSum (kRw (M (h + 3)) (M h 1) (M (8 + h))) r.toNat) → (M h 1 - r < (n_4 : Int)) → ∀ ls : Array Slot, lv_has ls 3 [(0, .ref (E.2.2 (6 + h))), (1, .int (zI sm)), (2, .int (zI r))] → W pg l en rX0_differentRows s0 mi ar bl me co s0.heap [] 0 0 Q (F0 mi 4 ls []) := by
    intro n_4
    induction n_4 with
    | zero => intro sm r h1 h2 hm_4; exfalso; omega
    | succ n_4 ih_4 =>
      intro sm r h1 h2 hm_4 ls hl
      refine lv_iload_n hx hb dX0_differentRows_4 rfl (lv_at hl 2 rfl) ?_
      refine lv_aload_n hx hb dX0_differentRows_5 rfl (lv_at hl 0 rfl) ?_
      refine k_stitches S hK hP hinX00 (S.2.2.2.2 _ (List.mem_cons_of_mem _ (List.mem_append_left _ (List.mem_append_left _ (List.mem_append_left _ (List.mem_of_getElem? (i := 0) rfl)))))) dX0_differentRows_6 (by omega) (h) (by omega) ?_
      refine k_lengthN S hK hP hinX10 hK.2.1.1 dX0_differentRows_9 (by omega) ?_
      refine k_ge (tgt := 29) hx hb dX0_differentRows_12 (by decide) (by omega) (fun c_12 => ?_) (fun c_12 => ?_)
      · skip
        refine lv_iload_n hx hb dX0_differentRows_29 rfl (lv_at hl 1 rfl) ?_
        refine ends _ _ (sm) dX0_differentRows_30 ?_
        refine ⟨?_, by omega, by omega⟩
        rw [h2, show r = M h 1 by omega]
      · skip
        refine lv_iload_n hx hb dX0_differentRows_15 rfl (lv_at hl 1 rfl) ?_
        refine lv_aload_n hx hb dX0_differentRows_16 rfl (lv_at hl 0 rfl) ?_
        refine lv_iload_n hx hb dX0_differentRows_17 rfl (lv_at hl 2 rfl) ?_
        refine k_callV (As := [.int (zI r)]) (rest := [.int (zI sm)]) S hK hP (c_X0_rowsFirstAt l E M h r (by omega) (by assumption) (by assumption) (by omega)) (cwV 1 S.2.2.2.2 gX0_differentRows_X0_rowsFirstAt rfl rfl rfl (by decide +kernel) ⟨Nat.le_of_ble_eq_true rfl, Nat.le_of_ble_eq_true rfl⟩) (k_rH hK hP (by omega)) rfl hl.1 rfl (Nat.le_of_ble_eq_true rfl) dX0_differentRows_18 ⟨Nat.le_of_ble_eq_true rfl, Nat.le_of_ble_eq_true rfl⟩ (fun z_18 h_18 => ?_)
        refine k_add hx hb dX0_differentRows_21 ?_
        refine k_nm (fun v1_22 ev1_22 => ?_)
        refine lv_istore_n (lv' := [(1, .int (zI v1_22)), (0, .ref (E.2.2 (6 + h))), (2, .int (zI r))]) hx hb dX0_differentRows_22 rfl hl (by decide) rfl (fun ls hl => ?_)
        obtain ⟨v2_23, ev2_23⟩ : ∃ v : Int, v = r + 1 := ⟨_, rfl⟩
        refine k_incN (v := v2_23) (lv' := [(2, .int (zI v2_23)), (1, .int (zI v1_22)), (0, .ref (E.2.2 (6 + h)))]) hx hb dX0_differentRows_23 hl (k := 2) rfl ev2_23 (by decide) rfl (fun ls hl => ?_)
        refine lv_goto (tgt := 4) hx hb dX0_differentRows_26 (by decide) ?_
        refine ih_4 v1_22 v2_23 (by omega) ?_ (by omega) _ (lv_sub hl [2, 1, 0] rfl)
        · subst ev2_23
          rw [ev1_22, kSum_step _ (by omega), ← h2, h_18.1]
  refine lp_4 (((M h 1 - 0 : Int)).toNat + 1) 0 0 (by omega) (by rfl) (by omega) _ (lv_sub hl [2, 1, 0] rfl)
abbrev rX0_rowOfNumber : Room := { frames := 4, cells := 0, slots := 0, locals := 94 }
set_option maxHeartbeats 4000000 in
set_option maxRecDepth 100000 in
theorem c_X0_rowOfNumber (l : Launch) (E : kE) (M : kM) (h num : Int) (hh : 0 ≤ h ∧ h < 2) (hW : kWf M) (hO : kO M h) (hnum : 0 ≤ num ∧ num < kSum (kRw (M (h + 3)) (M h 1) (M (8 + h))) (M h 1).toNat ∧ num ≤ 1600) : kRO l yX0_rowOfNumber wsX0_rowOfNumber rX0_rowOfNumber E M [.ref (E.2.2 (6 + h)), .int (zI num)] (fun z => (∃ r lf w : Int, 0 ≤ r ∧ r < M h 1 ∧ lf = num - kSum (kRw (M (h + 3)) (M h 1) (M (8 + h))) r.toNat ∧ 0 ≤ lf ∧ lf < kRw (M (h + 3)) (M h 1) (M (8 + h)) r ∧ kFst (M (h + 3)) (M h 1) (M (h + 3)) (M (8 + h) r) (kNx (M (h + 3)) (M h 1) (M (8 + h)) (r - 1) + lf + 1) w ∧ z = 64 * w + (kNx (M (h + 3)) (M h 1) (M (8 + h)) (r - 1) + lf + 1)) ∧ -100 ≤ z ∧ z ≤ 3000) := by
  refine kRO_of (cc := cX0_rowOfNumber) (maxL := 6) (rt := .int) RX0 (by decide) rfl rfl (Nat.le_of_ble_eq_true rfl) k_nari ?_
  intro pg en s0 mi ar bl me co ls Q S hP hK ends hl
  have hx := S.1
  have hb := S.2.1
  have hinX00 : ∀ w ∈ wsX00, w ∈ wsX0_rowOfNumber := fun w h => List.mem_cons_of_mem _ (List.mem_append_left _ (List.mem_append_right _ (h)))
  have hinX10 : ∀ w ∈ wsX10, w ∈ wsX0_rowOfNumber := fun w h => List.mem_cons_of_mem _ (List.mem_append_right _ (h))
  have hl : lv_has ls 6 [(0, .ref (E.2.2 (6 + h))), (1, .int (zI num))] := hl
  obtain ⟨hn0, hn1, hv⟩ := hW h (by omega)
  have hR := hO.1
  refine lv_iload_n hx hb dX0_rowOfNumber_0 rfl (lv_at hl 1 rfl) ?_
  refine lv_istore_n (lv' := [(2, .int (zI num)), (0, .ref (E.2.2 (6 + h))), (1, .int (zI num))]) hx hb dX0_rowOfNumber_1 rfl hl (by decide) rfl (fun ls hl => ?_)
  refine k_push hx hb dX0_rowOfNumber_2 ?_
  refine lv_istore_n (lv' := [(3, .int (zI 0)), (2, .int (zI num)), (0, .ref (E.2.2 (6 + h))), (1, .int (zI num))]) hx hb dX0_rowOfNumber_3 rfl hl (by decide) rfl (fun ls hl => ?_)
  have lp_4 : ∀ (n_4 : Nat) (lf : Int) (r : Int), (0 ≤ r ∧ r ≤ M h 1 ∧ 0 ≤ lf ∧ lf ≤ 1600) → (lf = num - kSum (kRw (M (h + 3)) (M h 1) (M (8 + h))) r.toNat) → (M h 1 - r < (n_4 : Int)) → ∀ ls : Array Slot, lv_has ls 6 [(0, .ref (E.2.2 (6 + h))), (1, .int (zI num)), (2, .int (zI lf)), (3, .int (zI r))] → W pg l en rX0_rowOfNumber s0 mi ar bl me co s0.heap [] 0 0 Q (F0 mi 4 ls []) := by
    intro n_4
    induction n_4 with
    | zero => intro lf r h1 h2 hm_4; exfalso; omega
    | succ n_4 ih_4 =>
      intro lf r h1 h2 hm_4 ls hl
      refine lv_iload_n hx hb dX0_rowOfNumber_4 rfl (lv_at hl 3 rfl) ?_
      refine lv_aload_n hx hb dX0_rowOfNumber_5 rfl (lv_at hl 0 rfl) ?_
      refine k_stitches S hK hP hinX00 (S.2.2.2.2 _ (List.mem_cons_of_mem _ (List.mem_append_left _ (List.mem_append_left _ (List.mem_append_left _ (List.mem_of_getElem? (i := 0) rfl)))))) dX0_rowOfNumber_6 (by omega) (h) (by omega) ?_
      refine k_lengthN S hK hP hinX10 hK.2.1.1 dX0_rowOfNumber_9 (by omega) ?_
      refine k_ge (tgt := 77) hx hb dX0_rowOfNumber_12 (by decide) (by omega) (fun c_12 => ?_) (fun c_12 => ?_)
      · exfalso; rw [show r = M h 1 by omega] at h2; omega
      · skip
        refine lv_aload_n hx hb dX0_rowOfNumber_15 rfl (lv_at hl 0 rfl) ?_
        refine lv_iload_n hx hb dX0_rowOfNumber_16 rfl (lv_at hl 3 rfl) ?_
        refine k_callV (As := [.int (zI r)]) (rest := []) S hK hP (c_X0_rowsFirstAt l E M h r (by omega) (by assumption) (by assumption) (by omega)) (cwV 1 S.2.2.2.2 gX0_rowOfNumber_X0_rowsFirstAt rfl rfl rfl (by decide +kernel) ⟨Nat.le_of_ble_eq_true rfl, Nat.le_of_ble_eq_true rfl⟩) (k_rH hK hP (by omega)) rfl hl.1 rfl (Nat.le_of_ble_eq_true rfl) dX0_rowOfNumber_17 ⟨Nat.le_of_ble_eq_true rfl, Nat.le_of_ble_eq_true rfl⟩ (fun z_17 h_17 => ?_)
        refine lv_istore (lv' := [(4, .int (zI z_17)), (0, .ref (E.2.2 (6 + h))), (1, .int (zI num)), (2, .int (zI lf)), (3, .int (zI r))]) hx hb dX0_rowOfNumber_20 hl (by decide) rfl (fun ls hl => ?_)
        refine lv_iload_n hx hb dX0_rowOfNumber_22 rfl (lv_at hl 3 rfl) ?_
        refine lv_iload hx hb dX0_rowOfNumber_23 (lv_at hl 0 rfl) ?_
        refine k_ge (tgt := 66) hx hb dX0_rowOfNumber_25 (by decide) (by omega) (fun c_25 => ?_) (fun c_25 => ?_)
        · skip
          refine lv_iload_n hx hb dX0_rowOfNumber_66 rfl (lv_at hl 3 rfl) ?_
          refine lv_iload hx hb dX0_rowOfNumber_67 (lv_at hl 0 rfl) ?_
          refine k_sub hx hb dX0_rowOfNumber_69 ?_
          refine k_nm (fun v2_70 ev2_70 => ?_)
          refine lv_istore_n (lv' := [(2, .int (zI v2_70)), (4, .int (zI z_17)), (0, .ref (E.2.2 (6 + h))), (1, .int (zI num)), (3, .int (zI r))]) hx hb dX0_rowOfNumber_70 rfl hl (by decide) rfl (fun ls hl => ?_)
          obtain ⟨v3_71, ev3_71⟩ : ∃ v : Int, v = r + 1 := ⟨_, rfl⟩
          refine k_incN (v := v3_71) (lv' := [(3, .int (zI v3_71)), (2, .int (zI v2_70)), (4, .int (zI z_17)), (0, .ref (E.2.2 (6 + h))), (1, .int (zI num))]) hx hb dX0_rowOfNumber_71 hl (k := 4) rfl ev3_71 (by decide) rfl (fun ls hl => ?_)
          refine lv_goto (tgt := 4) hx hb dX0_rowOfNumber_74 (by decide) ?_
          refine ih_4 v2_70 v3_71 (by omega) ?_ (by omega) _ (lv_sub hl [3, 4, 1, 0] rfl)
          · subst ev3_71
            rw [kSum_step _ (by omega), ev2_70, h2, h_17.1]
            omega
        · skip
          refine lv_aload_n hx hb dX0_rowOfNumber_28 rfl (lv_at hl 1 rfl) ?_
          refine lv_iload_n hx hb dX0_rowOfNumber_29 rfl (lv_at hl 4 rfl) ?_
          refine k_push hx hb dX0_rowOfNumber_30 ?_
          refine k_sub hx hb dX0_rowOfNumber_31 ?_
          refine k_callV (As := [.int (zI (r - 1))]) (rest := []) S hK hP (c_X0_sharedWithNext l E M h (r - 1) (by omega) (by assumption) (by assumption) (by omega)) (cwV 1 S.2.2.2.2 gX0_rowOfNumber_X0_sharedWithNext rfl rfl rfl (by decide +kernel) ⟨Nat.le_of_ble_eq_true rfl, Nat.le_of_ble_eq_true rfl⟩) (k_rH hK hP (by omega)) rfl hl.1 rfl (Nat.le_of_ble_eq_true rfl) dX0_rowOfNumber_32 ⟨Nat.le_of_ble_eq_true rfl, Nat.le_of_ble_eq_true rfl⟩ (fun z_32 h_32 => ?_)
          have hq := h_32.1
          have hrw : kRw (M (h + 3)) (M h 1) (M (8 + h)) r = M h 1 - M (8 + h) r - kNx (M (h + 3)) (M h 1) (M (8 + h)) (r - 1) := rfl
          have hrr := hR r (by omega) (by omega)
          refine lv_iload_n hx hb dX0_rowOfNumber_35 rfl (lv_at hl 3 rfl) ?_
          refine k_add hx hb dX0_rowOfNumber_36 ?_
          refine k_push hx hb dX0_rowOfNumber_37 ?_
          refine k_add hx hb dX0_rowOfNumber_38 ?_
          refine k_nm (fun v5_39 ev5_39 => ?_)
          refine lv_istore (lv' := [(5, .int (zI v5_39)), (4, .int (zI z_17)), (0, .ref (E.2.2 (6 + h))), (1, .int (zI num)), (2, .int (zI lf)), (3, .int (zI r))]) hx hb dX0_rowOfNumber_39 hl (by decide) rfl (fun ls hl => ?_)
          have hv5 : v5_39 = kNx (M (h + 3)) (M h 1) (M (8 + h)) (r - 1) + lf + 1 := by omega
          have hrg : 1 ≤ v5_39 ∧ v5_39 ≤ 40 ∧ M (8 + h) r + v5_39 ≤ M h 1 := by omega
          refine k_bpush hx hb dX0_rowOfNumber_41 (by decide) ?_
          refine lv_aload_n hx hb dX0_rowOfNumber_43 rfl (lv_at hl 2 rfl) ?_
          refine k_stitches S hK hP hinX00 (S.2.2.2.2 _ (List.mem_cons_of_mem _ (List.mem_append_left _ (List.mem_append_left _ (List.mem_append_left _ (List.mem_of_getElem? (i := 0) rfl)))))) dX0_rowOfNumber_44 (by omega) (h) (by omega) ?_
          refine lv_aload_n hx hb dX0_rowOfNumber_47 rfl (lv_at hl 2 rfl) ?_
          refine k_stitches S hK hP hinX00 (S.2.2.2.2 _ (List.mem_cons_of_mem _ (List.mem_append_left _ (List.mem_append_left _ (List.mem_append_left _ (List.mem_of_getElem? (i := 0) rfl)))))) dX0_rowOfNumber_48 (by omega) (h) (by omega) ?_
          refine lv_aload_n hx hb dX0_rowOfNumber_51 rfl (lv_at hl 2 rfl) ?_
          refine lv_iload_n hx hb dX0_rowOfNumber_52 rfl (lv_at hl 5 rfl) ?_
          refine k_callV (As := [.int (zI r)]) (rest := [.ref (E.2.2 h), .ref (E.2.2 h), .int (zI 64)]) S hK hP (c_X0_placeAt l E M h r (by omega) (by assumption) (by assumption) (by omega)) (cwV 1 S.2.2.2.2 gX0_rowOfNumber_X0_placeAt rfl rfl rfl (by decide +kernel) ⟨Nat.le_of_ble_eq_true rfl, Nat.le_of_ble_eq_true rfl⟩) (k_rH hK hP (by omega)) rfl hl.1 rfl (Nat.le_of_ble_eq_true rfl) dX0_rowOfNumber_53 ⟨Nat.le_of_ble_eq_true rfl, Nat.le_of_ble_eq_true rfl⟩ (fun z_53 h_53 => ?_)
          have hz53 : z_53 = M (8 + h) r := by omega
          refine lv_iload hx hb dX0_rowOfNumber_56 (lv_at hl 0 rfl) ?_
          refine k_callV (As := [.ref (E.2.2 h), .int (zI z_53), .int (zI v5_39)]) (rest := [.int (zI 64)]) S hK hP (c_X1_firstPlaceOf l E M h h z_53 v5_39 (by omega) (by omega) (by assumption) (by omega) (by omega)) (cwV 3 S.2.2.2.2 gX0_rowOfNumber_X1_firstPlaceOf rfl rfl rfl (by decide +kernel) ⟨Nat.le_of_ble_eq_true rfl, Nat.le_of_ble_eq_true rfl⟩) (k_rS hK hP (by omega)) rfl hl.1 rfl (Nat.le_of_ble_eq_true rfl) dX0_rowOfNumber_58 ⟨Nat.le_of_ble_eq_true rfl, Nat.le_of_ble_eq_true rfl⟩ (fun z_58 h_58 => ?_)
          refine k_mul hx hb dX0_rowOfNumber_61 ?_
          refine lv_iload hx hb dX0_rowOfNumber_62 (lv_at hl 0 rfl) ?_
          refine k_add hx hb dX0_rowOfNumber_64 ?_
          refine ends _ _ ((64 * z_58) + v5_39) dX0_rowOfNumber_65 ?_
          refine ⟨⟨r, lf, z_58, by omega, by omega, h2, by omega, by omega, ?_, by omega⟩, by omega, by omega⟩
          rw [← hv5, ← hz53]
          exact (h_58.1.resolve_left (fun g => by omega)).2
  refine lp_4 (((M h 1 - 0 : Int)).toNat + 1) num 0 (by omega) (by rw [kSum_0]; omega) (by omega) _ (lv_sub hl [2, 3, 1, 0] rfl)
abbrev rX0_repeatRank : Room := { frames := 3, cells := 0, slots := 0, locals := 69 }
set_option maxHeartbeats 4000000 in
set_option maxRecDepth 100000 in
theorem c_X0_repeatRank (l : Launch) (E : kE) (M : kM) (h : Int) (hh : 0 ≤ h ∧ h < 2) (hW : kWf M) (hO : kO M h) : kRO l yX0_repeatRank wsX0_repeatRank rX0_repeatRank E M [.ref (E.2.2 (6 + h))] (fun z => (z = -1 ∧ ∀ r : Int, 0 ≤ r → r < M h 1 → kNx (M (h + 3)) (M h 1) (M (8 + h)) r ≤ 0) ∨ (0 ≤ z ∧ z < M h 1 ∧ 0 < kNx (M (h + 3)) (M h 1) (M (8 + h)) z ∧ (∀ r : Int, 0 ≤ r → r < M h 1 → kNx (M (h + 3)) (M h 1) (M (8 + h)) r ≤ kNx (M (h + 3)) (M h 1) (M (8 + h)) z) ∧ ∀ r : Int, 0 ≤ r → r < z → kNx (M (h + 3)) (M h 1) (M (8 + h)) r < kNx (M (h + 3)) (M h 1) (M (8 + h)) z)) := by
  refine kRO_of (cc := cX0_repeatRank) (maxL := 5) (rt := .int) RX0 (by decide) rfl rfl (Nat.le_of_ble_eq_true rfl) k_nari ?_
  intro pg en s0 mi ar bl me co ls Q S hP hK ends hl
  have hx := S.1
  have hb := S.2.1
  have hinX00 : ∀ w ∈ wsX00, w ∈ wsX0_repeatRank := fun w h => List.mem_cons_of_mem _ (List.mem_append_left _ (List.mem_append_right _ (h)))
  have hinX10 : ∀ w ∈ wsX10, w ∈ wsX0_repeatRank := fun w h => List.mem_cons_of_mem _ (List.mem_append_right _ (h))
  have hl : lv_has ls 5 [(0, .ref (E.2.2 (6 + h)))] := hl
  obtain ⟨hn0, hn1, hv⟩ := hW h (by omega)
  have hR := hO.1
  refine k_push hx hb dX0_repeatRank_0 ?_
  refine lv_istore_n (lv' := [(1, .int (zI (-1))), (0, .ref (E.2.2 (6 + h)))]) hx hb dX0_repeatRank_1 rfl hl (by decide) rfl (fun ls hl => ?_)
  refine k_push hx hb dX0_repeatRank_2 ?_
  refine lv_istore_n (lv' := [(2, .int (zI 0)), (1, .int (zI (-1))), (0, .ref (E.2.2 (6 + h)))]) hx hb dX0_repeatRank_3 rfl hl (by decide) rfl (fun ls hl => ?_)
  refine k_push hx hb dX0_repeatRank_4 ?_
  refine lv_istore_n (lv' := [(3, .int (zI 0)), (2, .int (zI 0)), (1, .int (zI (-1))), (0, .ref (E.2.2 (6 + h)))]) hx hb dX0_repeatRank_5 rfl hl (by decide) rfl (fun ls hl => ?_)
  have lp_6 : ∀ (n_6 : Nat) (b : Int) (k : Int) (r : Int), (0 ≤ r ∧ r ≤ M h 1 ∧ 0 ≤ k ∧ k ≤ 40 ∧ ((b = -1 ∧ k = 0) ∨ (0 ≤ b ∧ b < r ∧ 0 < k))) → (0 ≤ b → k = kNx (M (h + 3)) (M h 1) (M (8 + h)) b ∧ ∀ s : Int, 0 ≤ s → s < b → kNx (M (h + 3)) (M h 1) (M (8 + h)) s < k) → (∀ s : Int, 0 ≤ s → s < r → kNx (M (h + 3)) (M h 1) (M (8 + h)) s ≤ k) → (M h 1 - r < (n_6 : Int)) → ∀ ls : Array Slot, lv_has ls 5 [(0, .ref (E.2.2 (6 + h))), (1, .int (zI b)), (2, .int (zI k)), (3, .int (zI r))] → W pg l en rX0_repeatRank s0 mi ar bl me co s0.heap [] 0 0 Q (F0 mi 6 ls []) := by
    intro n_6
    induction n_6 with
    | zero => intro b k r h1 h2 h3 hm_6; exfalso; omega
    | succ n_6 ih_6 =>
      intro b k r h1 h2 h3 hm_6 ls hl
      refine lv_iload_n hx hb dX0_repeatRank_6 rfl (lv_at hl 3 rfl) ?_
      refine lv_aload_n hx hb dX0_repeatRank_7 rfl (lv_at hl 0 rfl) ?_
      refine k_stitches S hK hP hinX00 (S.2.2.2.2 _ (List.mem_cons_of_mem _ (List.mem_append_left _ (List.mem_append_left _ (List.mem_append_left _ (List.mem_of_getElem? (i := 0) rfl)))))) dX0_repeatRank_8 (by omega) (h) (by omega) ?_
      refine k_lengthN S hK hP hinX10 hK.2.1.1 dX0_repeatRank_11 (by omega) ?_
      refine k_ge (tgt := 41) hx hb dX0_repeatRank_14 (by decide) (by omega) (fun c_14 => ?_) (fun c_14 => ?_)
      · skip
        refine lv_iload_n hx hb dX0_repeatRank_41 rfl (lv_at hl 1 rfl) ?_
        refine ends _ _ (b) dX0_repeatRank_42 ?_
        rcases h1.2.2.2.2 with g | g
        · refine Or.inl ⟨g.1, fun s g1 g2 => ?_⟩
          have := h3 s g1 (by omega); omega
        · have q := h2 g.1
          refine Or.inr ⟨g.1, by omega, by omega, fun s g1 g2 => ?_, fun s g1 g2 => ?_⟩
          · have := h3 s g1 (by omega); omega
          · have := q.2 s g1 g2; omega
      · skip
        refine lv_aload_n hx hb dX0_repeatRank_17 rfl (lv_at hl 0 rfl) ?_
        refine lv_iload_n hx hb dX0_repeatRank_18 rfl (lv_at hl 3 rfl) ?_
        refine k_callV (As := [.int (zI r)]) (rest := []) S hK hP (c_X0_sharedWithNext l E M h r (by omega) (by assumption) (by assumption) (by omega)) (cwV 1 S.2.2.2.2 gX0_repeatRank_X0_sharedWithNext rfl rfl rfl (by decide +kernel) ⟨Nat.le_of_ble_eq_true rfl, Nat.le_of_ble_eq_true rfl⟩) (k_rH hK hP (by omega)) rfl hl.1 rfl (Nat.le_of_ble_eq_true rfl) dX0_repeatRank_19 ⟨Nat.le_of_ble_eq_true rfl, Nat.le_of_ble_eq_true rfl⟩ (fun z_19 h_19 => ?_)
        refine lv_istore (lv' := [(4, .int (zI z_19)), (0, .ref (E.2.2 (6 + h))), (1, .int (zI b)), (2, .int (zI k)), (3, .int (zI r))]) hx hb dX0_repeatRank_22 hl (by decide) rfl (fun ls hl => ?_)
        refine lv_iload hx hb dX0_repeatRank_24 (lv_at hl 0 rfl) ?_
        refine lv_iload_n hx hb dX0_repeatRank_26 rfl (lv_at hl 3 rfl) ?_
        refine k_le (tgt := 35) hx hb dX0_repeatRank_27 (by decide) (by omega) (fun c_27 => ?_) (fun c_27 => ?_)
        · skip
          obtain ⟨v3_35, ev3_35⟩ : ∃ v : Int, v = r + 1 := ⟨_, rfl⟩
          refine k_incN (v := v3_35) (lv' := [(3, .int (zI v3_35)), (4, .int (zI z_19)), (0, .ref (E.2.2 (6 + h))), (1, .int (zI b)), (2, .int (zI k))]) hx hb dX0_repeatRank_35 hl (k := 4) rfl ev3_35 (by decide) rfl (fun ls hl => ?_)
          refine lv_goto (tgt := 6) hx hb dX0_repeatRank_38 (by decide) ?_
          refine ih_6 b k v3_35 (by omega) ?_ ?_ (by omega) _ (lv_sub hl [2, 3, 4, 0] rfl)
          · first | exact h2 | (intro g; refine ⟨h_19.1, fun s g1 g2 => ?_⟩; have := h3 s g1 g2; omega)
          · intro s g1 g2
            by_cases g : s = r
            · rw [g]; have := h_19.1; omega
            · have := h3 s g1 (by omega); omega
        · skip
          refine lv_iload_n hx hb dX0_repeatRank_30 rfl (lv_at hl 4 rfl) ?_
          refine lv_istore_n (lv' := [(1, .int (zI r)), (4, .int (zI z_19)), (0, .ref (E.2.2 (6 + h))), (2, .int (zI k)), (3, .int (zI r))]) hx hb dX0_repeatRank_31 rfl hl (by decide) rfl (fun ls hl => ?_)
          refine lv_iload hx hb dX0_repeatRank_32 (lv_at hl 1 rfl) ?_
          refine lv_istore_n (lv' := [(2, .int (zI z_19)), (1, .int (zI r)), (4, .int (zI z_19)), (0, .ref (E.2.2 (6 + h))), (3, .int (zI r))]) hx hb dX0_repeatRank_34 rfl hl (by decide) rfl (fun ls hl => ?_)
          obtain ⟨v3_35, ev3_35⟩ : ∃ v : Int, v = r + 1 := ⟨_, rfl⟩
          refine k_incN (v := v3_35) (lv' := [(3, .int (zI v3_35)), (2, .int (zI z_19)), (1, .int (zI r)), (4, .int (zI z_19)), (0, .ref (E.2.2 (6 + h)))]) hx hb dX0_repeatRank_35 hl (k := 4) rfl ev3_35 (by decide) rfl (fun ls hl => ?_)
          refine lv_goto (tgt := 6) hx hb dX0_repeatRank_38 (by decide) ?_
          refine ih_6 r z_19 v3_35 (by omega) ?_ ?_ (by omega) _ (lv_sub hl [4, 2, 1, 0] rfl)
          · first | exact h2 | (intro g; refine ⟨h_19.1, fun s g1 g2 => ?_⟩; have := h3 s g1 g2; omega)
          · intro s g1 g2
            by_cases g : s = r
            · rw [g]; have := h_19.1; omega
            · have := h3 s g1 (by omega); omega
  refine lp_6 (((M h 1 - 0 : Int)).toNat + 1) (-1) 0 0 (by omega) (by intro g; exfalso; omega) (by intro s g1 g2; exfalso; omega) (by omega) _ (lv_sub hl [3, 2, 1, 0] rfl)
abbrev rX0_putInOrder : Room := { frames := 3, cells := 0, slots := 0, locals := 72 }
set_option maxHeartbeats 4000000 in
set_option maxRecDepth 100000 in
theorem c_X0_putInOrder (l : Launch) (E : kE) (hE : kInj E) (M : kM) (h d w : Int) (hh : 0 ≤ h ∧ h < 2) (hW : kWf M) (hd : 0 ≤ w ∧ w < M h 1 ∧ d = M h 1 - 1 - w) (hB : kOrdW (M (h + 3)) (M h 1) (M (8 + h)) w (d + 1)) : kRV l yX0_putInOrder wsX0_putInOrder rX0_putInOrder E M [.ref (E.2.2 (6 + h)), .int (zI d), .int (zI w)] (fun N => (∀ c k : Int, c ≠ 8 + h → N c k = M c k) ∧ kOrdW (M (h + 3)) (M h 1) (N (8 + h)) (w + 1) d) := by
  refine kRV_of (cc := cX0_putInOrder) (maxL := 4) RX0 (by decide) rfl rfl (Nat.le_of_ble_eq_true rfl) ?_
  intro pg en s0 mi ar bl me co ls Q S hP hS hK ends hl
  have hx := S.1
  have hb := S.2.1
  have hinX00 : ∀ w ∈ wsX00, w ∈ wsX0_putInOrder := fun w h => List.mem_cons_of_mem _ (List.mem_append_left _ (List.mem_append_right _ (h)))
  have hinX10 : ∀ w ∈ wsX10, w ∈ wsX0_putInOrder := fun w h => List.mem_cons_of_mem _ (List.mem_append_right _ (h))
  have hl : lv_has ls 4 [(0, .ref (E.2.2 (6 + h))), (1, .int (zI d)), (2, .int (zI w))] := hl
  obtain ⟨hn0, hn1, hv⟩ := hW h (by omega)
  refine lv_iload_n hx hb dX0_putInOrder_0 rfl (lv_at hl 2 rfl) ?_
  refine lv_istore_n (lv' := [(3, .int (zI w)), (0, .ref (E.2.2 (6 + h))), (1, .int (zI d)), (2, .int (zI w))]) hx hb dX0_putInOrder_1 rfl hl (by decide) rfl (fun ls hl => ?_)
  have lp_2 : ∀ (n_2 : Nat) (r : Int) (N : kM) (H : Heap) (locs : List Loc), (0 ≤ r ∧ r ≤ w) → (∀ c k : Int, c ≠ 8 + h → N c k = M c k) → (∀ j : Int, 0 ≤ j → j < r → N (8 + h) j = M (8 + h) j) → (∀ j : Int, r < j → j ≤ w → N (8 + h) j = M (8 + h) (j - 1)) → (∀ j : Int, r ≤ j → j < w → kSL (M (h + 3)) (M h 1) d (M (8 + h) j)) → (r < (n_2 : Int)) → va_P E.1 vwCl (kW E N) H → va_S (kA E s0.heap.size) s0.heap H locs → ∀ ls : Array Slot, lv_has ls 4 [(0, .ref (E.2.2 (6 + h))), (1, .int (zI d)), (2, .int (zI w)), (3, .int (zI r))] → W pg l en rX0_putInOrder s0 mi ar bl me co H locs 0 0 Q (F0 mi 2 ls []) := by
    intro n_2
    induction n_2 with
    | zero => intro r N H locs h1 h2 h3 h4 h5 hm_2; exfalso; omega
    | succ n_2 ih_2 =>
      intro r N H locs h1 h2 h3 h4 h5 hm_2 hP hS ls hl
      have hNn : N h 1 = M h 1 := h2 h 1 (by omega)
      have hNx : N (h + 3) = M (h + 3) := funext (fun k => h2 (h + 3) k (by omega))
      have hWN : kWf N := kWf_congr hW (fun c k g1 g2 => h2 c k (by omega))
      refine lv_iload_n hx hb dX0_putInOrder_2 rfl (lv_at hl 3 rfl) ?_
      refine k_le0 (tgt := 49) hx hb dX0_putInOrder_3 (by decide) (by omega) (fun c_3 => ?_) (fun c_3 => ?_)
      · skip
        refine lv_aload_n hx hb dX0_putInOrder_49 rfl (lv_at hl 0 rfl) ?_
        refine k_order S hK hP hinX00 (S.2.2.2.2 _ (List.mem_cons_of_mem _ (List.mem_append_left _ (List.mem_append_left _ (List.mem_of_getElem? (i := 1) rfl))))) dX0_putInOrder_50 (by omega) (8 + h) (by omega) ?_
        refine lv_iload_n hx hb dX0_putInOrder_53 rfl (lv_at hl 3 rfl) ?_
        refine lv_iload_n hx hb dX0_putInOrder_54 rfl (lv_at hl 1 rfl) ?_
        refine k_ast S hK hE hP hS 40 (by unfold kArr; omega) (by omega) dX0_putInOrder_55 (fun H locs hP hS => ?_)
        obtain ⟨M55, eM55⟩ : ∃ N9 : kM, N9 = kU N (8 + h) r d := ⟨_, rfl⟩
        rw [← eM55] at hP
        refine ends _ _ M55 _ _ dX0_putInOrder_56 hP hS ?_
        refine ⟨fun c k g => ?_, ?_⟩
        · rw [eM55, kU_cell g]; exact h2 c k g
        · refine kOrdW_put (r := r) hB h1 (by omega) (fun j j1 j2 => ?_) ?_ (fun j j1 j2 => ?_) h5 (fun g => ?_)
          · rw [eM55, kU_place (by omega)]; exact h3 j j1 j2
          · rw [eM55, kU_same]
          · rw [eM55, kU_place (by omega)]; exact h4 j j1 j2
          · first | (exfalso; omega) | exact kD_pos hkd (by omega) (by omega)
      · skip
        refine lv_aload_n hx hb dX0_putInOrder_6 rfl (lv_at hl 0 rfl) ?_
        refine k_stitches S hK hP hinX00 (S.2.2.2.2 _ (List.mem_cons_of_mem _ (List.mem_append_left _ (List.mem_append_left _ (List.mem_of_getElem? (i := 0) rfl))))) dX0_putInOrder_7 (by omega) (h) (by omega) ?_
        refine lv_iload_n hx hb dX0_putInOrder_10 rfl (lv_at hl 1 rfl) ?_
        refine lv_aload_n hx hb dX0_putInOrder_11 rfl (lv_at hl 0 rfl) ?_
        refine k_stitches S hK hP hinX00 (S.2.2.2.2 _ (List.mem_cons_of_mem _ (List.mem_append_left _ (List.mem_append_left _ (List.mem_of_getElem? (i := 0) rfl))))) dX0_putInOrder_12 (by omega) (h) (by omega) ?_
        refine lv_aload_n hx hb dX0_putInOrder_15 rfl (lv_at hl 0 rfl) ?_
        refine k_order S hK hP hinX00 (S.2.2.2.2 _ (List.mem_cons_of_mem _ (List.mem_append_left _ (List.mem_append_left _ (List.mem_of_getElem? (i := 1) rfl))))) dX0_putInOrder_16 (by omega) (8 + h) (by omega) ?_
        refine lv_iload_n hx hb dX0_putInOrder_19 rfl (lv_at hl 3 rfl) ?_
        refine k_push hx hb dX0_putInOrder_20 ?_
        refine k_sub hx hb dX0_putInOrder_21 ?_
        refine k_ald S hK hP 40 (by unfold kArr; omega) (by omega) dX0_putInOrder_22 ?_
        have hP0 := h3 (r - 1) (by omega) (by omega)
        have hP1 := hB.1 (r - 1) (by omega) (by omega)
        refine k_callV (As := [.int (zI d), .ref (E.2.2 h), .int (zI (N (8 + h) (r - 1)))]) (rest := []) S hK hP (c_X1_difference l E N h d h (N (8 + h) (r - 1)) (by omega) (by omega) (by exact hWN) (by omega) (by omega)) (cwV 3 S.2.2.2.2 gX0_putInOrder_X1_difference rfl rfl rfl (by decide +kernel) ⟨Nat.le_of_ble_eq_true rfl, Nat.le_of_ble_eq_true rfl⟩) (k_rS hK hP (by omega)) rfl hl.1 rfl (Nat.le_of_ble_eq_true rfl) dX0_putInOrder_23 ⟨Nat.le_of_ble_eq_true rfl, Nat.le_of_ble_eq_true rfl⟩ (fun z_23 h_23 => ?_)
        have hkd := h_23.1
        rw [hNn, hNx, hP0] at hkd
        refine k_ge0 (tgt := 49) hx hb dX0_putInOrder_26 (by decide) (by omega) (fun c_26 => ?_) (fun c_26 => ?_)
        · skip
          refine lv_aload_n hx hb dX0_putInOrder_49 rfl (lv_at hl 0 rfl) ?_
          refine k_order S hK hP hinX00 (S.2.2.2.2 _ (List.mem_cons_of_mem _ (List.mem_append_left _ (List.mem_append_left _ (List.mem_of_getElem? (i := 1) rfl))))) dX0_putInOrder_50 (by omega) (8 + h) (by omega) ?_
          refine lv_iload_n hx hb dX0_putInOrder_53 rfl (lv_at hl 3 rfl) ?_
          refine lv_iload_n hx hb dX0_putInOrder_54 rfl (lv_at hl 1 rfl) ?_
          refine k_ast S hK hE hP hS 40 (by unfold kArr; omega) (by omega) dX0_putInOrder_55 (fun H locs hP hS => ?_)
          obtain ⟨M55, eM55⟩ : ∃ N9 : kM, N9 = kU N (8 + h) r d := ⟨_, rfl⟩
          rw [← eM55] at hP
          refine ends _ _ M55 _ _ dX0_putInOrder_56 hP hS ?_
          refine ⟨fun c k g => ?_, ?_⟩
          · rw [eM55, kU_cell g]; exact h2 c k g
          · refine kOrdW_put (r := r) hB h1 (by omega) (fun j j1 j2 => ?_) ?_ (fun j j1 j2 => ?_) h5 (fun g => ?_)
            · rw [eM55, kU_place (by omega)]; exact h3 j j1 j2
            · rw [eM55, kU_same]
            · rw [eM55, kU_place (by omega)]; exact h4 j j1 j2
            · first | (exfalso; omega) | exact kD_pos hkd (by omega) (by omega)
        · skip
          refine lv_aload_n hx hb dX0_putInOrder_29 rfl (lv_at hl 0 rfl) ?_
          refine k_order S hK hP hinX00 (S.2.2.2.2 _ (List.mem_cons_of_mem _ (List.mem_append_left _ (List.mem_append_left _ (List.mem_of_getElem? (i := 1) rfl))))) dX0_putInOrder_30 (by omega) (8 + h) (by omega) ?_
          refine lv_iload_n hx hb dX0_putInOrder_33 rfl (lv_at hl 3 rfl) ?_
          refine lv_aload_n hx hb dX0_putInOrder_34 rfl (lv_at hl 0 rfl) ?_
          refine k_order S hK hP hinX00 (S.2.2.2.2 _ (List.mem_cons_of_mem _ (List.mem_append_left _ (List.mem_append_left _ (List.mem_of_getElem? (i := 1) rfl))))) dX0_putInOrder_35 (by omega) (8 + h) (by omega) ?_
          refine lv_iload_n hx hb dX0_putInOrder_38 rfl (lv_at hl 3 rfl) ?_
          refine k_push hx hb dX0_putInOrder_39 ?_
          refine k_sub hx hb dX0_putInOrder_40 ?_
          refine k_ald S hK hP 40 (by unfold kArr; omega) (by omega) dX0_putInOrder_41 ?_
          refine k_ast S hK hE hP hS 40 (by unfold kArr; omega) (by omega) dX0_putInOrder_42 (fun H locs hP hS => ?_)
          obtain ⟨M42, eM42⟩ : ∃ N9 : kM, N9 = kU N (8 + h) r (N (8 + h) (r - 1)) := ⟨_, rfl⟩
          rw [← eM42] at hP
          obtain ⟨v3_43, ev3_43⟩ : ∃ v : Int, v = r + (-1) := ⟨_, rfl⟩
          refine k_incN (v := v3_43) (lv' := [(3, .int (zI v3_43)), (0, .ref (E.2.2 (6 + h))), (1, .int (zI d)), (2, .int (zI w))]) hx hb dX0_putInOrder_43 hl (k := 3) rfl ev3_43 (by decide) rfl (fun ls hl => ?_)
          refine lv_goto (tgt := 2) hx hb dX0_putInOrder_46 (by decide) ?_
          refine ih_2 v3_43 M42 _ _ (by omega) ?_ ?_ ?_ ?_ (by omega) hP hS _ (lv_sub hl [1, 2, 3, 0] rfl)
          · intro c k g
            rw [eM42, kU_cell g]; exact h2 c k g
          · intro j g1 g2
            rw [eM42, kU_place (by omega)]; exact h3 j g1 (by omega)
          · intro j g1 g2
            rw [eM42]
            by_cases g : j = r
            · rw [g, kU_same]; exact h3 (r - 1) (by omega) (by omega)
            · rw [kU_place g]; exact h4 j (by omega) g2
          · intro j g1 g2
            by_cases g : j = r - 1
            · rw [g]; exact kD_neg hkd (by omega)
            · exact h5 j (by omega) g2
  refine lp_2 (((w : Int)).toNat + 1) w M _ _ (by omega) (by intro c k _; rfl) (by intro j _ _; rfl) (by intro j g1 g2; exfalso; omega) (by intro j g1 g2; exfalso; omega) (by omega) hP hS _ (lv_sub hl [1, 2, 3, 0] rfl)
abbrev rX0_orderEnds : Room := { frames := 4, cells := 0, slots := 0, locals := 95 }
set_option maxHeartbeats 4000000 in
set_option maxRecDepth 100000 in
theorem c_X0_orderEnds (l : Launch) (E : kE) (hE : kInj E) (M : kM) (h : Int) (hh : 0 ≤ h ∧ h < 2) (hW : kWf M) : kRV l yX0_orderEnds wsX0_orderEnds rX0_orderEnds E M [.ref (E.2.2 (6 + h))] (fun N => (∀ c k : Int, c ≠ 8 + h → N c k = M c k) ∧ kO N h) := by
  refine kRV_of (cc := cX0_orderEnds) (maxL := 2) RX0 (by decide) rfl rfl (Nat.le_of_ble_eq_true rfl) ?_
  intro pg en s0 mi ar bl me co ls Q S hP hS hK ends hl
  have hx := S.1
  have hb := S.2.1
  have hinX00 : ∀ w ∈ wsX00, w ∈ wsX0_orderEnds := fun w h => List.mem_cons_of_mem _ (List.mem_append_left _ (List.mem_append_right _ (h)))
  have hinX10 : ∀ w ∈ wsX10, w ∈ wsX0_orderEnds := fun w h => List.mem_cons_of_mem _ (List.mem_append_right _ (h))
  have hl : lv_has ls 2 [(0, .ref (E.2.2 (6 + h)))] := hl
  obtain ⟨hn0, hn1, hv⟩ := hW h (by omega)
  refine k_push hx hb dX0_orderEnds_0 ?_
  refine lv_istore_n (lv' := [(1, .int (zI 0)), (0, .ref (E.2.2 (6 + h)))]) hx hb dX0_orderEnds_1 rfl hl (by decide) rfl (fun ls hl => ?_)
  have lp_2 : ∀ (n_2 : Nat) (w : Int) (N : kM) (H : Heap) (locs : List Loc), (0 ≤ w ∧ w ≤ M h 1) → (∀ c k : Int, c ≠ 8 + h → N c k = M c k) → (kOrdW (M (h + 3)) (M h 1) (N (8 + h)) w (M h 1 - w)) → (M h 1 - w < (n_2 : Int)) → va_P E.1 vwCl (kW E N) H → va_S (kA E s0.heap.size) s0.heap H locs → ∀ ls : Array Slot, lv_has ls 2 [(0, .ref (E.2.2 (6 + h))), (1, .int (zI w))] → W pg l en rX0_orderEnds s0 mi ar bl me co H locs 0 0 Q (F0 mi 2 ls []) := by
    intro n_2
    induction n_2 with
    | zero => intro w N H locs h1 h2 h3 hm_2; exfalso; omega
    | succ n_2 ih_2 =>
      intro w N H locs h1 h2 h3 hm_2 hP hS ls hl
      have hNn : N h 1 = M h 1 := h2 h 1 (by omega)
      have hNx : N (h + 3) = M (h + 3) := funext (fun k => h2 (h + 3) k (by omega))
      have hWN : kWf N := kWf_congr hW (fun c k g1 g2 => h2 c k (by omega))
      refine lv_iload_n hx hb dX0_orderEnds_2 rfl (lv_at hl 1 rfl) ?_
      refine lv_aload_n hx hb dX0_orderEnds_3 rfl (lv_at hl 0 rfl) ?_
      refine k_stitches S hK hP hinX00 (S.2.2.2.2 _ (List.mem_cons_of_mem _ (List.mem_append_left _ (List.mem_append_left _ (List.mem_append_left _ (List.mem_of_getElem? (i := 0) rfl)))))) dX0_orderEnds_4 (by omega) (h) (by omega) ?_
      refine k_lengthN S hK hP hinX10 hK.2.1.1 dX0_orderEnds_7 (by omega) ?_
      refine k_ge (tgt := 44) hx hb dX0_orderEnds_10 (by decide) (by omega) (fun c_10 => ?_) (fun c_10 => ?_)
      · skip
        refine ends _ _ N _ _ dX0_orderEnds_44 hP hS ?_
        refine ⟨h2, ?_⟩
        have e : w = M h 1 := by omega
        subst e
        rw [Int.sub_self] at h3
        unfold kO
        rw [hNn, hNx]
        exact h3
      · skip
        refine lv_iload_n hx hb dX0_orderEnds_13 rfl (lv_at hl 1 rfl) ?_
        refine lv_aload_n hx hb dX0_orderEnds_14 rfl (lv_at hl 0 rfl) ?_
        refine k_order S hK hP hinX00 (S.2.2.2.2 _ (List.mem_cons_of_mem _ (List.mem_append_left _ (List.mem_append_left _ (List.mem_append_left _ (List.mem_of_getElem? (i := 1) rfl)))))) dX0_orderEnds_15 (by omega) (8 + h) (by omega) ?_
        refine k_alen S hK hP 40 (by unfold kArr; omega) dX0_orderEnds_18 ?_
        refine k_ge (tgt := 44) hx hb dX0_orderEnds_19 (by decide) (by omega) (fun c_19 => ?_) (fun c_19 => ?_)
        · exact absurd c_19 (by omega)
        · skip
          refine lv_aload_n hx hb dX0_orderEnds_22 rfl (lv_at hl 0 rfl) ?_
          refine lv_aload_n hx hb dX0_orderEnds_23 rfl (lv_at hl 0 rfl) ?_
          refine k_stitches S hK hP hinX00 (S.2.2.2.2 _ (List.mem_cons_of_mem _ (List.mem_append_left _ (List.mem_append_left _ (List.mem_append_left _ (List.mem_of_getElem? (i := 0) rfl)))))) dX0_orderEnds_24 (by omega) (h) (by omega) ?_
          refine k_lengthN S hK hP hinX10 hK.2.1.1 dX0_orderEnds_27 (by omega) ?_
          refine k_push hx hb dX0_orderEnds_30 ?_
          refine k_sub hx hb dX0_orderEnds_31 ?_
          refine lv_iload_n hx hb dX0_orderEnds_32 rfl (lv_at hl 1 rfl) ?_
          refine k_sub hx hb dX0_orderEnds_33 ?_
          refine lv_iload_n hx hb dX0_orderEnds_34 rfl (lv_at hl 1 rfl) ?_
          refine k_callVV (As := [.int (zI (((N h 1) - 1) - w)), .int (zI w)]) (rest := []) S hK hP hS (c_X0_putInOrder l E hE N h (((N h 1) - 1) - w) w (by omega) (by exact hWN) (by omega) (by rw [hNn, hNx, show M h 1 - 1 - w + 1 = M h 1 - w by omega]; exact h3)) (cwV 2 S.2.2.2.2 gX0_orderEnds_X0_putInOrder rfl rfl rfl (by decide +kernel) ⟨Nat.le_of_ble_eq_true rfl, Nat.le_of_ble_eq_true rfl⟩) (k_rH hK hP (by omega)) rfl hl.1 rfl (Nat.le_of_ble_eq_true rfl) dX0_orderEnds_35 ⟨Nat.le_of_ble_eq_true rfl, Nat.le_of_ble_eq_true rfl⟩ (fun M_35 H locs h_35 hP hS => ?_)
          obtain ⟨v1_38, ev1_38⟩ : ∃ v : Int, v = w + 1 := ⟨_, rfl⟩
          refine k_incN (v := v1_38) (lv' := [(1, .int (zI v1_38)), (0, .ref (E.2.2 (6 + h)))]) hx hb dX0_orderEnds_38 hl (k := 1) rfl ev1_38 (by decide) rfl (fun ls hl => ?_)
          refine lv_goto (tgt := 2) hx hb dX0_orderEnds_41 (by decide) ?_
          refine ih_2 v1_38 M_35 _ _ (by omega) ?_ ?_ (by omega) hP hS _ (lv_sub hl [1, 0] rfl)
          · intro c k g
            rw [h_35.1 c k g]; exact h2 c k g
          · have q := h_35.2
            rw [hNn, hNx] at q
            subst ev1_38
            rw [show M h 1 - (w + 1) = M h 1 - 1 - w by omega]; exact q
  refine lp_2 (((M h 1 - 0 : Int)).toNat + 1) 0 M _ _ (by omega) (by intro c k _; rfl) (by exact ⟨fun r g1 g2 => absurd g2 (by omega), fun r s g1 g2 g3 => absurd g3 (by omega)⟩) (by omega) hP hS _ (lv_sub hl [1, 0] rfl)
abbrev rX0_sewOn : Room := { frames := 5, cells := 0, slots := 0, locals := 116 }
set_option maxHeartbeats 4000000 in
set_option maxRecDepth 100000 in
theorem c_X0_sewOn (l : Launch) (E : kE) (hE : kInj E) (M : kM) (h st : Int) (hh : 0 ≤ h ∧ h < 2) (hW : kWf M) (hst : 0 ≤ st ∧ st ≤ 8) (hlt : M h 1 < 40) : kRV l yX0_sewOn wsX0_sewOn rX0_sewOn E M [.ref (E.2.2 (6 + h)), .int (zI st)] (fun N => (∀ c k : Int, c ≠ 8 + h → N c k = kU (kU M (h + 3) (M h 1) st) h 1 (M h 1 + 1) c k) ∧ kO N h) := by
  refine kRV_of (cc := cX0_sewOn) (maxL := 2) RX0 (by decide) rfl rfl (Nat.le_of_ble_eq_true rfl) ?_
  intro pg en s0 mi ar bl me co ls Q S hP hS hK ends hl
  have hx := S.1
  have hb := S.2.1
  have hinX00 : ∀ w ∈ wsX00, w ∈ wsX0_sewOn := fun w h => List.mem_cons_of_mem _ (List.mem_append_left _ (List.mem_append_right _ (h)))
  have hinX10 : ∀ w ∈ wsX10, w ∈ wsX0_sewOn := fun w h => List.mem_cons_of_mem _ (List.mem_append_right _ (h))
  have hl : lv_has ls 2 [(0, .ref (E.2.2 (6 + h))), (1, .int (zI st))] := hl
  obtain ⟨hn0, hn1, hv⟩ := hW h (by omega)
  refine lv_aload_n hx hb dX0_sewOn_0 rfl (lv_at hl 0 rfl) ?_
  refine k_stitches S hK hP hinX00 (S.2.2.2.2 _ (List.mem_cons_of_mem _ (List.mem_append_left _ (List.mem_append_left _ (List.mem_append_left _ (List.mem_of_getElem? (i := 0) rfl)))))) dX0_sewOn_1 (by omega) (h) (by omega) ?_
  refine lv_iload_n hx hb dX0_sewOn_4 rfl (lv_at hl 1 rfl) ?_
  refine k_callVV (As := [.int (zI st)]) (rest := []) S hK hP hS (c_X1_append l E hE M h st (by omega) (by assumption) (by omega) (by omega)) (cwV 1 S.2.2.2.2 gX0_sewOn_X1_append rfl rfl rfl (by decide +kernel) ⟨Nat.le_of_ble_eq_true rfl, Nat.le_of_ble_eq_true rfl⟩) (k_rS hK hP (by omega)) rfl hl.1 rfl (Nat.le_of_ble_eq_true rfl) dX0_sewOn_5 ⟨Nat.le_of_ble_eq_true rfl, Nat.le_of_ble_eq_true rfl⟩ (fun M_5 H locs h_5 hP hS => ?_)
  have hWN : kWf M_5 := by rw [h_5]; exact kWf_app hW (by omega) hst hlt
  refine lv_aload_n hx hb dX0_sewOn_8 rfl (lv_at hl 0 rfl) ?_
  refine k_callVV (As := []) (rest := []) S hK hP hS (c_X0_orderEnds l E hE M_5 h (by omega) (by exact hWN)) (cwV 0 S.2.2.2.2 gX0_sewOn_X0_orderEnds rfl rfl rfl (by decide +kernel) ⟨Nat.le_of_ble_eq_true rfl, Nat.le_of_ble_eq_true rfl⟩) (k_rH hK hP (by omega)) rfl hl.1 rfl (Nat.le_of_ble_eq_true rfl) dX0_sewOn_9 ⟨Nat.le_of_ble_eq_true rfl, Nat.le_of_ble_eq_true rfl⟩ (fun M_9 H locs h_9 hP hS => ?_)
  refine ends _ _ M_9 _ _ dX0_sewOn_12 hP hS ?_
  refine ⟨fun c k g => ?_, h_9.2⟩
  rw [h_9.1 c k g, h_5]
abbrev rX0_takeOff : Room := { frames := 5, cells := 0, slots := 0, locals := 116 }
set_option maxHeartbeats 4000000 in
set_option maxRecDepth 100000 in
theorem c_X0_takeOff (l : Launch) (E : kE) (hE : kInj E) (M : kM) (h r : Int) (hh : 0 ≤ h ∧ h < 2) (hW : kWf M) (hr : 0 ≤ r ∧ r ≤ M h 1) : kRV l yX0_takeOff wsX0_takeOff rX0_takeOff E M [.ref (E.2.2 (6 + h)), .int (zI r)] (fun N => (∀ c k : Int, c ≠ 8 + h → N c k = kU M h 1 (M h 1 - r) c k) ∧ kO N h) := by
  refine kRV_of (cc := cX0_takeOff) (maxL := 2) RX0 (by decide) rfl rfl (Nat.le_of_ble_eq_true rfl) ?_
  intro pg en s0 mi ar bl me co ls Q S hP hS hK ends hl
  have hx := S.1
  have hb := S.2.1
  have hinX00 : ∀ w ∈ wsX00, w ∈ wsX0_takeOff := fun w h => List.mem_cons_of_mem _ (List.mem_append_left _ (List.mem_append_right _ (h)))
  have hinX10 : ∀ w ∈ wsX10, w ∈ wsX0_takeOff := fun w h => List.mem_cons_of_mem _ (List.mem_append_right _ (h))
  have hl : lv_has ls 2 [(0, .ref (E.2.2 (6 + h))), (1, .int (zI r))] := hl
  obtain ⟨hn0, hn1, hv⟩ := hW h (by omega)
  refine lv_aload_n hx hb dX0_takeOff_0 rfl (lv_at hl 0 rfl) ?_
  refine k_stitches S hK hP hinX00 (S.2.2.2.2 _ (List.mem_cons_of_mem _ (List.mem_append_left _ (List.mem_append_left _ (List.mem_append_left _ (List.mem_of_getElem? (i := 0) rfl)))))) dX0_takeOff_1 (by omega) (h) (by omega) ?_
  refine lv_iload_n hx hb dX0_takeOff_4 rfl (lv_at hl 1 rfl) ?_
  refine k_callVV (As := [.int (zI r)]) (rest := []) S hK hP hS (c_X1_drop l E hE M h r (by omega) (by assumption) (by omega)) (cwV 1 S.2.2.2.2 gX0_takeOff_X1_drop rfl rfl rfl (by decide +kernel) ⟨Nat.le_of_ble_eq_true rfl, Nat.le_of_ble_eq_true rfl⟩) (k_rS hK hP (by omega)) rfl hl.1 rfl (Nat.le_of_ble_eq_true rfl) dX0_takeOff_5 ⟨Nat.le_of_ble_eq_true rfl, Nat.le_of_ble_eq_true rfl⟩ (fun M_5 H locs h_5 hP hS => ?_)
  have hWN : kWf M_5 := by rw [h_5]; exact kWf_len hW (by omega) (by omega)
  refine lv_aload_n hx hb dX0_takeOff_8 rfl (lv_at hl 0 rfl) ?_
  refine k_callVV (As := []) (rest := []) S hK hP hS (c_X0_orderEnds l E hE M_5 h (by omega) (by exact hWN)) (cwV 0 S.2.2.2.2 gX0_takeOff_X0_orderEnds rfl rfl rfl (by decide +kernel) ⟨Nat.le_of_ble_eq_true rfl, Nat.le_of_ble_eq_true rfl⟩) (k_rH hK hP (by omega)) rfl hl.1 rfl (Nat.le_of_ble_eq_true rfl) dX0_takeOff_9 ⟨Nat.le_of_ble_eq_true rfl, Nat.le_of_ble_eq_true rfl⟩ (fun M_9 H locs h_9 hP hS => ?_)
  refine ends _ _ M_9 _ _ dX0_takeOff_12 hP hS ?_
  refine ⟨fun c k g => ?_, h_9.2⟩
  rw [h_9.1 c k g, h_5]
abbrev rX0_sewBeginning : Room := { frames := 5, cells := 0, slots := 0, locals := 116 }
set_option maxHeartbeats 4000000 in
set_option maxRecDepth 100000 in
theorem c_X0_sewBeginning (l : Launch) (E : kE) (hE : kInj E) (M : kM) (h r : Int) (hh : 0 ≤ h ∧ h < 2) (hW : kWf M) (hr : 1 ≤ r ∧ 1 ≤ M h 1 ∧ M h 1 + r ≤ 40) : kRV l yX0_sewBeginning wsX0_sewBeginning rX0_sewBeginning E M [.ref (E.2.2 (6 + h)), .int (zI r)] (fun N => (∀ c k : Int, c ≠ 8 + h → c ≠ h + 3 → c ≠ h → N c k = M c k) ∧ N h 1 = M h 1 + r ∧ (∀ k : Int, (k < M h 1 ∨ M h 1 + r ≤ k) → N (h + 3) k = M (h + 3) k) ∧ (∀ k : Int, M h 1 ≤ k → k < M h 1 + r → N (h + 3) k = N (h + 3) (k - M h 1)) ∧ kWf N ∧ kO N h) := by
  refine kRV_of (cc := cX0_sewBeginning) (maxL := 3) RX0 (by decide) rfl rfl (Nat.le_of_ble_eq_true rfl) ?_
  intro pg en s0 mi ar bl me co ls Q S hP hS hK ends hl
  have hx := S.1
  have hb := S.2.1
  have hinX00 : ∀ w ∈ wsX00, w ∈ wsX0_sewBeginning := fun w h => List.mem_cons_of_mem _ (List.mem_append_left _ (List.mem_append_right _ (h)))
  have hinX10 : ∀ w ∈ wsX10, w ∈ wsX0_sewBeginning := fun w h => List.mem_cons_of_mem _ (List.mem_append_right _ (h))
  have hl : lv_has ls 3 [(0, .ref (E.2.2 (6 + h))), (1, .int (zI r))] := hl
  obtain ⟨hn0, hn1, hv⟩ := hW h (by omega)
  refine k_push hx hb dX0_sewBeginning_0 ?_
  refine lv_istore_n (lv' := [(2, .int (zI 0)), (0, .ref (E.2.2 (6 + h))), (1, .int (zI r))]) hx hb dX0_sewBeginning_1 rfl hl (by decide) rfl (fun ls hl => ?_)
  have lp_2 : ∀ (n_2 : Nat) (t : Int) (N : kM) (H : Heap) (locs : List Loc), (0 ≤ t ∧ t ≤ r) → (∀ c k : Int, c ≠ h + 3 → c ≠ h → N c k = M c k) → (N h 1 = M h 1 + t) → (∀ k : Int, (k < M h 1 ∨ M h 1 + t ≤ k) → N (h + 3) k = M (h + 3) k) → (∀ k : Int, M h 1 ≤ k → k < M h 1 + t → N (h + 3) k = N (h + 3) (k - M h 1)) → (kWf N) → (r - t < (n_2 : Int)) → va_P E.1 vwCl (kW E N) H → va_S (kA E s0.heap.size) s0.heap H locs → ∀ ls : Array Slot, lv_has ls 3 [(0, .ref (E.2.2 (6 + h))), (1, .int (zI r)), (2, .int (zI t))] → W pg l en rX0_sewBeginning s0 mi ar bl me co H locs 0 0 Q (F0 mi 2 ls []) := by
    intro n_2
    induction n_2 with
    | zero => intro t N H locs h1 h2 h3 h4 h5 h6 hm_2; exfalso; omega
    | succ n_2 ih_2 =>
      intro t N H locs h1 h2 h3 h4 h5 h6 hm_2 hP hS ls hl
      refine lv_iload_n hx hb dX0_sewBeginning_2 rfl (lv_at hl 2 rfl) ?_
      refine lv_iload_n hx hb dX0_sewBeginning_3 rfl (lv_at hl 1 rfl) ?_
      refine k_ge (tgt := 28) hx hb dX0_sewBeginning_4 (by decide) (by omega) (fun c_4 => ?_) (fun c_4 => ?_)
      · skip
        refine lv_aload_n hx hb dX0_sewBeginning_28 rfl (lv_at hl 0 rfl) ?_
        refine k_callVV (As := []) (rest := []) S hK hP hS (c_X0_orderEnds l E hE N h (by omega) (by exact h6)) (cwV 0 S.2.2.2.2 gX0_sewBeginning_X0_orderEnds rfl rfl rfl (by decide +kernel) ⟨Nat.le_of_ble_eq_true rfl, Nat.le_of_ble_eq_true rfl⟩) (k_rH hK hP (by omega)) rfl hl.1 rfl (Nat.le_of_ble_eq_true rfl) dX0_sewBeginning_29 ⟨Nat.le_of_ble_eq_true rfl, Nat.le_of_ble_eq_true rfl⟩ (fun M_29 H locs h_29 hP hS => ?_)
        refine ends _ _ M_29 _ _ dX0_sewBeginning_32 hP hS ?_
        obtain ⟨q1, q2⟩ := h_29
        refine ⟨fun c k g1 g2 g3 => ?_, ?_, fun k g => ?_, fun k g1 g2 => ?_, ?_, q2⟩
        · rw [q1 c k g1]; exact h2 c k g2 g3
        · rw [q1 h 1 (by omega)]; omega
        · rw [q1 (h + 3) k (by omega)]; exact h4 k (by omega)
        · rw [q1 (h + 3) k (by omega), q1 (h + 3) _ (by omega)]; exact h5 k g1 (by omega)
        · exact kWf_congr h6 (fun c k g1 g2 => q1 c k (by omega))
      · skip
        refine lv_aload_n hx hb dX0_sewBeginning_7 rfl (lv_at hl 0 rfl) ?_
        refine k_stitches S hK hP hinX00 (S.2.2.2.2 _ (List.mem_cons_of_mem _ (List.mem_append_left _ (List.mem_append_left _ (List.mem_append_left _ (List.mem_of_getElem? (i := 0) rfl)))))) dX0_sewBeginning_8 (by omega) (h) (by omega) ?_
        refine lv_aload_n hx hb dX0_sewBeginning_11 rfl (lv_at hl 0 rfl) ?_
        refine k_stitches S hK hP hinX00 (S.2.2.2.2 _ (List.mem_cons_of_mem _ (List.mem_append_left _ (List.mem_append_left _ (List.mem_append_left _ (List.mem_of_getElem? (i := 0) rfl)))))) dX0_sewBeginning_12 (by omega) (h) (by omega) ?_
        refine lv_iload_n hx hb dX0_sewBeginning_15 rfl (lv_at hl 2 rfl) ?_
        refine k_callV (As := [.int (zI t)]) (rest := [.ref (E.2.2 h)]) S hK hP (c_X1_at l E N h t (by omega) (by exact h6) (by omega)) (cwV 1 S.2.2.2.2 gX0_sewBeginning_X1_at rfl rfl rfl (by decide +kernel) ⟨Nat.le_of_ble_eq_true rfl, Nat.le_of_ble_eq_true rfl⟩) (k_rS hK hP (by omega)) rfl hl.1 rfl (Nat.le_of_ble_eq_true rfl) dX0_sewBeginning_16 ⟨Nat.le_of_ble_eq_true rfl, Nat.le_of_ble_eq_true rfl⟩ (fun z_16 h_16 => ?_)
        refine k_callVV (As := [.int (zI z_16)]) (rest := []) S hK hP hS (c_X1_append l E hE N h z_16 (by omega) (by exact h6) (by omega) (by omega)) (cwV 1 S.2.2.2.2 gX0_sewBeginning_X1_append rfl rfl rfl (by decide +kernel) ⟨Nat.le_of_ble_eq_true rfl, Nat.le_of_ble_eq_true rfl⟩) (k_rS hK hP (by omega)) rfl hl.1 rfl (Nat.le_of_ble_eq_true rfl) dX0_sewBeginning_19 ⟨Nat.le_of_ble_eq_true rfl, Nat.le_of_ble_eq_true rfl⟩ (fun M_19 H locs h_19 hP hS => ?_)
        obtain ⟨v2_22, ev2_22⟩ : ∃ v : Int, v = t + 1 := ⟨_, rfl⟩
        refine k_incN (v := v2_22) (lv' := [(2, .int (zI v2_22)), (0, .ref (E.2.2 (6 + h))), (1, .int (zI r))]) hx hb dX0_sewBeginning_22 hl (k := 2) rfl ev2_22 (by decide) rfl (fun ls hl => ?_)
        refine lv_goto (tgt := 2) hx hb dX0_sewBeginning_25 (by decide) ?_
        refine ih_2 v2_22 M_19 _ _ (by omega) ?_ ?_ ?_ ?_ ?_ (by omega) hP hS _ (lv_sub hl [1, 2, 0] rfl)
        · intro c k g1 g2
          rw [h_19, kU_cell g2, kU_cell g1]; exact h2 c k g1 g2
        · rw [h_19, kU_same]; omega
        · intro k g
          rw [h_19, kU_cell (by omega), kU_place (by omega)]; exact h4 k (by omega)
        · intro k g1 g2
          have q : ∀ j : Int, M_19 (h + 3) j = if j = N h 1 then z_16 else N (h + 3) j := fun j => by rw [h_19, kU_cell (by omega), kU_at]; simp only [true_and]
          rw [q k, q (k - M h 1)]
          by_cases g : k = M h 1 + t
          · rw [if_pos (by omega), if_neg (by omega), show k - M h 1 = t by omega]; omega
          · rw [if_neg (by omega), if_neg (by omega)]; exact h5 k g1 (by omega)
        · rw [h_19]; exact kWf_app h6 (by omega) (by omega) (by omega)
  refine lp_2 (((r - 0 : Int)).toNat + 1) 0 M _ _ (by omega) (by intro c k _ _; rfl) (by omega) (by intro k _; rfl) (by intro k g1 g2; exfalso; omega) (by exact hW) (by omega) hP hS _ (lv_sub hl [1, 2, 0] rfl)
