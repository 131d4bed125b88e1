abbrev rX3_thrown : Room := { frames := 0, cells := 0, slots := 0, locals := 0 }
set_option maxHeartbeats 4000000 in
set_option maxRecDepth 100000 in
theorem c_X3_thrown (l : Launch) (E : kE) (M : kM) : kRO l yX3_thrown wsX3_thrown rX3_thrown E M [.ref (E.2.2 11)] (fun z => z = M 11 0) := by
  refine kRO_of (cc := cX3_thrown) (maxL := 1) (rt := .int) RX3 (by decide) rfl rfl (Nat.le_of_ble_eq_true rfl) k_nari ?_
  intro pg en s0 mi ar bl me co ls Q S hP hK ends hl
  have hx := S.1
  have hb := S.2.1
  have hinX30 : ∀ w ∈ wsX30, w ∈ wsX3_thrown := fun w h => List.mem_cons_of_mem _ (List.mem_append_right _ (h))
  have hl : lv_has ls 1 [(0, .ref (E.2.2 11))] := hl
  refine lv_aload_n hx hb dX3_thrown_0 rfl (lv_at hl 0 rfl) ?_
  refine k_mod S hK hP hinX30 0 (by decide) (S.2.2.2.2 _ (List.mem_cons_of_mem _ (List.mem_append_left _ (List.mem_of_getElem? (i := 0) rfl)))) dX3_thrown_1 rfl (.int (zI (M 11 0))) rfl rfl ?_
  refine ends _ _ (M 11 0) dX3_thrown_4 ?_
  rfl
abbrev rX3_no : Room := { frames := 0, cells := 0, slots := 0, locals := 0 }
set_option maxHeartbeats 4000000 in
set_option maxRecDepth 100000 in
theorem c_X3_no (l : Launch) (E : kE) (hE : kInj E) (M : kM) (v : Int) : kRW l yX3_no wsX3_no rX3_no E M [.ref (E.2.2 11), .int (zI v)] (fun z N => z = 0 ∧ N = kU M 11 0 v) := by
  refine kRW_of (cc := cX3_no) (maxL := 2) (rt := .int) RX3 (by decide) rfl rfl (Nat.le_of_ble_eq_true rfl) k_nariW ?_
  intro pg en s0 mi ar bl me co ls Q S hP hS hK ends hl
  have hx := S.1
  have hb := S.2.1
  have hinX30 : ∀ w ∈ wsX30, w ∈ wsX3_no := fun w h => List.mem_cons_of_mem _ (List.mem_append_right _ (h))
  have hl : lv_has ls 2 [(0, .ref (E.2.2 11)), (1, .int (zI v))] := hl
  refine lv_aload_n hx hb dX3_no_0 rfl (lv_at hl 0 rfl) ?_
  refine lv_iload_n hx hb dX3_no_1 rfl (lv_at hl 1 rfl) ?_
  refine k_putmod S hK hE hP hS hinX30 0 (by decide) (S.2.2.2.2 _ (List.mem_cons_of_mem _ (List.mem_append_left _ (List.mem_of_getElem? (i := 0) rfl)))) dX3_no_2 rfl (fun H locs hP hS => ?_)
  obtain ⟨M2, eM2⟩ : ∃ N9 : kM, N9 = kU M 11 0 v := ⟨_, rfl⟩
  have hP : va_P E.1 vwCl (kW E M2) H := by rw [eM2]; exact hP
  refine k_push hx hb dX3_no_5 ?_
  refine ends _ _ (0) M2 _ _ dX3_no_6 hP hS ?_
  exact ⟨rfl, eM2⟩
abbrev rX3_isIn : Room := { frames := 0, cells := 0, slots := 0, locals := 0 }
set_option maxHeartbeats 4000000 in
set_option maxRecDepth 100000 in
theorem c_X3_isIn (l : Launch) (E : kE) (M : kM) (v lo hi : Int) (h1 : -2147483648 ≤ v ∧ v ≤ 2147483647 ∧ -2147483648 ≤ lo ∧ lo ≤ 2147483647 ∧ -2147483648 ≤ hi ∧ hi ≤ 2147483647) : kRO l yX3_isIn wsX3_isIn rX3_isIn E M [.int (zI v), .int (zI lo), .int (zI hi)] (fun z => (z = 1 ∧ lo ≤ v ∧ v ≤ hi) ∨ (z = 0 ∧ (v < lo ∨ hi < v))) := by
  refine kRO_of (cc := cX3_isIn) (maxL := 3) (rt := .boolean) RX3 (by decide) rfl rfl (Nat.le_of_ble_eq_true rfl) (fun z hz => k_narb (by omega)) ?_
  intro pg en s0 mi ar bl me co ls Q S hP hK ends hl
  have hx := S.1
  have hb := S.2.1
  have hl : lv_has ls 3 [(0, .int (zI v)), (1, .int (zI lo)), (2, .int (zI hi))] := hl
  refine lv_iload_n hx hb dX3_isIn_0 rfl (lv_at hl 0 rfl) ?_
  refine lv_iload_n hx hb dX3_isIn_1 rfl (lv_at hl 1 rfl) ?_
  refine k_lt (tgt := 14) hx hb dX3_isIn_2 (by decide) (by omega) (fun c_2 => ?_) (fun c_2 => ?_)
  · skip
    refine k_push hx hb dX3_isIn_14 ?_
    refine ends _ _ (0) dX3_isIn_15 ?_
    omega
  · skip
    refine lv_iload_n hx hb dX3_isIn_5 rfl (lv_at hl 0 rfl) ?_
    refine lv_iload_n hx hb dX3_isIn_6 rfl (lv_at hl 2 rfl) ?_
    refine k_gt (tgt := 14) hx hb dX3_isIn_7 (by decide) (by omega) (fun c_7 => ?_) (fun c_7 => ?_)
    · skip
      refine k_push hx hb dX3_isIn_14 ?_
      refine ends _ _ (0) dX3_isIn_15 ?_
      omega
    · skip
      refine k_push hx hb dX3_isIn_10 ?_
      refine lv_goto (tgt := 15) hx hb dX3_isIn_11 (by decide) ?_
      refine ends _ _ (1) dX3_isIn_15 ?_
      omega
abbrev rX3_isHem : Room := { frames := 1, cells := 0, slots := 0, locals := 22 }
set_option maxHeartbeats 4000000 in
set_option maxRecDepth 100000 in
theorem c_X3_isHem (l : Launch) (E : kE) (M : kM) (h : Int) (h1 : -2147483648 ≤ h ∧ h ≤ 2147483647) : kRO l yX3_isHem wsX3_isHem rX3_isHem E M [.int (zI h)] (fun z => (z = 1 ∧ 0 ≤ h ∧ h < 2) ∨ (z = 0 ∧ (h < 0 ∨ 2 ≤ h))) := by
  refine kRO_of (cc := cX3_isHem) (maxL := 1) (rt := .boolean) RX3 (by decide) rfl rfl (Nat.le_of_ble_eq_true rfl) (fun z hz => k_narb (by omega)) ?_
  intro pg en s0 mi ar bl me co ls Q S hP hK ends hl
  have hx := S.1
  have hb := S.2.1
  have hl : lv_has ls 1 [(0, .int (zI h))] := hl
  refine lv_iload_n hx hb dX3_isHem_0 rfl (lv_at hl 0 rfl) ?_
  refine k_push hx hb dX3_isHem_1 ?_
  refine k_push hx hb dX3_isHem_2 ?_
  refine k_callS (As := [.int (zI h), .int (zI 0), .int (zI 1)]) (rest := []) S hK hP (c_X3_isIn l E M h 0 1 (by omega)) (va_cwS 3 S.2.2.2.2 gX3_isHem_X3_isIn rfl rfl rfl (by decide +kernel) ⟨Nat.le_of_ble_eq_true rfl, Nat.le_of_ble_eq_true rfl⟩) rfl hl.1 rfl (Nat.le_of_ble_eq_true rfl) dX3_isHem_3 ⟨Nat.le_of_ble_eq_true rfl, Nat.le_of_ble_eq_true rfl⟩ (fun z_3 h_3 => ?_)
  refine ends _ _ (z_3) dX3_isHem_6 ?_
  omega
abbrev rX3_isStitch : Room := { frames := 1, cells := 0, slots := 0, locals := 22 }
set_option maxHeartbeats 4000000 in
set_option maxRecDepth 100000 in
theorem c_X3_isStitch (l : Launch) (E : kE) (M : kM) (v : Int) (h1 : -2147483648 ≤ v ∧ v ≤ 2147483647) : kRO l yX3_isStitch wsX3_isStitch rX3_isStitch E M [.int (zI v)] (fun z => (z = 1 ∧ 0 ≤ v ∧ v ≤ 8) ∨ (z = 0 ∧ (v < 0 ∨ 8 < v))) := by
  refine kRO_of (cc := cX3_isStitch) (maxL := 1) (rt := .boolean) RX3 (by decide) rfl rfl (Nat.le_of_ble_eq_true rfl) (fun z hz => k_narb (by omega)) ?_
  intro pg en s0 mi ar bl me co ls Q S hP hK ends hl
  have hx := S.1
  have hb := S.2.1
  have hl : lv_has ls 1 [(0, .int (zI v))] := hl
  refine lv_iload_n hx hb dX3_isStitch_0 rfl (lv_at hl 0 rfl) ?_
  refine k_push hx hb dX3_isStitch_1 ?_
  refine k_bpush hx hb dX3_isStitch_2 (by decide) ?_
  refine k_callS (As := [.int (zI v), .int (zI 0), .int (zI 8)]) (rest := []) S hK hP (c_X3_isIn l E M v 0 8 (by omega)) (va_cwS 3 S.2.2.2.2 gX3_isStitch_X3_isIn rfl rfl rfl (by decide +kernel) ⟨Nat.le_of_ble_eq_true rfl, Nat.le_of_ble_eq_true rfl⟩) rfl hl.1 rfl (Nat.le_of_ble_eq_true rfl) dX3_isStitch_4 ⟨Nat.le_of_ble_eq_true rfl, Nat.le_of_ble_eq_true rfl⟩ (fun z_4 h_4 => ?_)
  refine ends _ _ (z_4) dX3_isStitch_7 ?_
  omega
abbrev rX3_isPlace : Room := { frames := 2, cells := 0, slots := 0, locals := 42 }
set_option maxHeartbeats 4000000 in
set_option maxRecDepth 100000 in
theorem c_X3_isPlace (l : Launch) (E : kE) (M : kM) (h p : Int) (hW : kWm M) (h1 : -2147483648 ≤ h ∧ h ≤ 2147483647 ∧ -2147483648 ≤ p ∧ p ≤ 2147483647) : kRO l yX3_isPlace wsX3_isPlace rX3_isPlace E M [.ref (E.2.2 11), .int (zI h), .int (zI p)] (fun z => (z = 1 ∧ 0 ≤ h ∧ h < 2 ∧ 0 ≤ p ∧ p < M 15 h) ∨ (z = 0 ∧ (h < 0 ∨ 2 ≤ h ∨ p < 0 ∨ M 15 h ≤ p))) := by
  refine kRO_of (cc := cX3_isPlace) (maxL := 3) (rt := .boolean) RX3 (by decide) rfl rfl (Nat.le_of_ble_eq_true rfl) (fun z hz => k_narb (by omega)) ?_
  intro pg en s0 mi ar bl me co ls Q S hP hK ends hl
  have hx := S.1
  have hb := S.2.1
  have hinX30 : ∀ w ∈ wsX30, w ∈ wsX3_isPlace := fun w h => List.mem_cons_of_mem _ (List.mem_append_right _ (h))
  have hl : lv_has ls 3 [(0, .ref (E.2.2 11)), (1, .int (zI h)), (2, .int (zI p))] := hl
  obtain ⟨hWh, hs0, hs1, hsv⟩ := id hW
  refine lv_iload_n hx hb dX3_isPlace_0 rfl (lv_at hl 1 rfl) ?_
  refine k_callS (As := [.int (zI h)]) (rest := []) S hK hP (c_X3_isHem l E M h (by omega)) (va_cwS 1 S.2.2.2.2 gX3_isPlace_X3_isHem rfl rfl rfl (by decide +kernel) ⟨Nat.le_of_ble_eq_true rfl, Nat.le_of_ble_eq_true rfl⟩) rfl hl.1 rfl (Nat.le_of_ble_eq_true rfl) dX3_isPlace_1 ⟨Nat.le_of_ble_eq_true rfl, Nat.le_of_ble_eq_true rfl⟩ (fun z_1 h_1 => ?_)
  refine k_eq0 (tgt := 27) hx hb dX3_isPlace_4 (by decide) (by omega) (fun c_4 => ?_) (fun c_4 => ?_)
  · skip
    refine k_push hx hb dX3_isPlace_27 ?_
    refine ends _ _ (0) dX3_isPlace_28 ?_
    omega
  · skip
    obtain ⟨hn0, hn1, hv⟩ := hWh h (by omega)
    refine lv_iload_n hx hb dX3_isPlace_7 rfl (lv_at hl 2 rfl) ?_
    refine k_push hx hb dX3_isPlace_8 ?_
    refine lv_aload_n hx hb dX3_isPlace_9 rfl (lv_at hl 0 rfl) ?_
    refine k_mod S hK hP hinX30 2 (by decide) (S.2.2.2.2 _ (List.mem_cons_of_mem _ (List.mem_append_left _ (List.mem_of_getElem? (i := 0) rfl)))) dX3_isPlace_10 rfl (.ref (E.2.2 15)) rfl rfl ?_
    refine lv_iload_n hx hb dX3_isPlace_13 rfl (lv_at hl 1 rfl) ?_
    refine k_ald S hK hP 2 (by unfold kArr; omega) (by omega) dX3_isPlace_14 ?_
    refine k_push hx hb dX3_isPlace_15 ?_
    refine k_sub hx hb dX3_isPlace_16 ?_
    refine k_callS (As := [.int (zI p), .int (zI 0), .int (zI ((M 15 h) - 1))]) (rest := []) S hK hP (c_X3_isIn l E M p 0 ((M 15 h) - 1) (by omega)) (va_cwS 3 S.2.2.2.2 gX3_isPlace_X3_isIn rfl rfl rfl (by decide +kernel) ⟨Nat.le_of_ble_eq_true rfl, Nat.le_of_ble_eq_true rfl⟩) rfl hl.1 rfl (Nat.le_of_ble_eq_true rfl) dX3_isPlace_17 ⟨Nat.le_of_ble_eq_true rfl, Nat.le_of_ble_eq_true rfl⟩ (fun z_17 h_17 => ?_)
    refine k_eq0 (tgt := 27) hx hb dX3_isPlace_20 (by decide) (by omega) (fun c_20 => ?_) (fun c_20 => ?_)
    · skip
      refine k_push hx hb dX3_isPlace_27 ?_
      refine ends _ _ (0) dX3_isPlace_28 ?_
      omega
    · skip
      refine k_push hx hb dX3_isPlace_23 ?_
      refine lv_goto (tgt := 28) hx hb dX3_isPlace_24 (by decide) ?_
      refine ends _ _ (1) dX3_isPlace_28 ?_
      omega
abbrev rX3_compare : Room := { frames := 0, cells := 0, slots := 0, locals := 0 }
set_option maxHeartbeats 4000000 in
set_option maxRecDepth 100000 in
theorem c_X3_compare (l : Launch) (E : kE) (hE : kInj E) (M : kM) (u na v nb g : Int) (hu : 13 ≤ u ∧ u < 15 ∧ 13 ≤ v ∧ v < 15) (hna : 0 ≤ na ∧ na ≤ 40 ∧ 0 ≤ nb ∧ nb ≤ 40) (hg : g = 17 ∨ g = 60) (hvu : ∀ j : Int, 0 ≤ j → j < na → 0 ≤ M u j ∧ M u j ≤ 8) (hvv : ∀ j : Int, 0 ≤ j → j < nb → 0 ≤ M v j ∧ M v j ≤ 8) : kRV l yX3_compare wsX3_compare rX3_compare E M [.ref (E.2.2 u), .int (zI na), .ref (E.2.2 v), .int (zI nb), .ref (E.2.2 g)] (fun N => kF (g + 1) (g + 41) M N ∧ ∀ a b : Int, 0 ≤ a → a ≤ na → 0 ≤ b → b ≤ nb → N (g + 1 + a) b = kL (M u) na a (M v) nb b) := by
  refine kRV_of (cc := cX3_compare) (maxL := 7) RX3 (by decide) rfl rfl (Nat.le_of_ble_eq_true rfl) ?_
  intro pg en s0 mi ar bl me co ls Q S hP hS hK ends hl
  have hx := S.1
  have hb := S.2.1
  have hl : lv_has ls 7 [(0, .ref (E.2.2 u)), (1, .int (zI na)), (2, .ref (E.2.2 v)), (3, .int (zI nb)), (4, .ref (E.2.2 g))] := hl
  refine lv_iload_n hx hb dX3_compare_0 rfl (lv_at hl 1 rfl) ?_
  refine lv_istore (lv' := [(5, .int (zI na)), (0, .ref (E.2.2 u)), (1, .int (zI na)), (2, .ref (E.2.2 v)), (3, .int (zI nb)), (4, .ref (E.2.2 g))]) hx hb dX3_compare_1 hl (by decide) rfl (fun ls hl => ?_)
  have lp_3 : ∀ (n_3 : Nat) (a : Int) (N : kM) (H : Heap) (locs : List Loc), (-1 ≤ a ∧ a ≤ na) → (kF (g + 1) (g + 41) M N) → (∀ a2 b2 : Int, a < a2 → a2 ≤ na → 0 ≤ b2 → b2 ≤ nb → N (g + 1 + a2) b2 = kL (M u) na a2 (M v) nb b2) → (a + 1 < (n_3 : Int)) → va_P E.1 vwCl (kW E N) H → va_S (kA E s0.heap.size) s0.heap H locs → ∀ ls : Array Slot, lv_has ls 7 [(0, .ref (E.2.2 u)), (1, .int (zI na)), (2, .ref (E.2.2 v)), (3, .int (zI nb)), (4, .ref (E.2.2 g)), (5, .int (zI a))] → W pg l en rX3_compare s0 mi ar bl me co H locs 0 0 Q (F0 mi 3 ls []) := by
    intro n_3
    induction n_3 with
    | zero => intro a N H locs h1 h2 h3 hm_3; exfalso; omega
    | succ n_3 ih_3 =>
      intro a N H locs h1 h2 h3 hm_3 hP hS ls hl
      refine lv_iload hx hb dX3_compare_3 (lv_at hl 5 rfl) ?_
      refine k_lt0 (tgt := 77) hx hb dX3_compare_5 (by decide) (by omega) (fun c_5 => ?_) (fun c_5 => ?_)
      · skip
        refine ends _ _ N _ _ dX3_compare_77 hP hS ?_
        exact ⟨h2, fun a2 b2 q1 q2 q3 q4 => h3 a2 b2 (by omega) q2 q3 q4⟩
      · skip
        refine lv_iload_n hx hb dX3_compare_8 rfl (lv_at hl 3 rfl) ?_
        refine lv_istore (lv' := [(6, .int (zI nb)), (0, .ref (E.2.2 u)), (1, .int (zI na)), (2, .ref (E.2.2 v)), (3, .int (zI nb)), (4, .ref (E.2.2 g)), (5, .int (zI a))]) hx hb dX3_compare_9 hl (by decide) rfl (fun ls hl => ?_)
        have lp_11 : ∀ (n_11 : Nat) (b : Int) (N2 : kM) (H : Heap) (locs : List Loc), (-1 ≤ b ∧ b ≤ nb) → (kF (g + 1) (g + 41) M N2) → (∀ a2 b2 : Int, a < a2 → a2 ≤ na → 0 ≤ b2 → b2 ≤ nb → N2 (g + 1 + a2) b2 = kL (M u) na a2 (M v) nb b2) → (∀ b2 : Int, b < b2 → b2 ≤ nb → N2 (g + 1 + a) b2 = kL (M u) na a (M v) nb b2) → (b + 1 < (n_11 : Int)) → va_P E.1 vwCl (kW E N2) H → va_S (kA E s0.heap.size) s0.heap H locs → ∀ ls : Array Slot, lv_has ls 7 [(0, .ref (E.2.2 u)), (1, .int (zI na)), (2, .ref (E.2.2 v)), (3, .int (zI nb)), (4, .ref (E.2.2 g)), (5, .int (zI a)), (6, .int (zI b))] → W pg l en rX3_compare s0 mi ar bl me co H locs 0 0 Q (F0 mi 11 ls []) := by
          intro n_11
          induction n_11 with
          | zero => intro b N2 H locs g1 g2 g3 g4 hm_11; exfalso; omega
          | succ n_11 ih_11 =>
            intro b N2 H locs g1 g2 g3 g4 hm_11 hP hS ls hl
            have hu2 : N2 u = M u := kF_row g2 (by omega)
            have hv2 : N2 v = M v := kF_row g2 (by omega)
            refine lv_iload hx hb dX3_compare_11 (lv_at hl 6 rfl) ?_
            refine k_lt0 (tgt := 71) hx hb dX3_compare_13 (by decide) (by omega) (fun c_13 => ?_) (fun c_13 => ?_)
            · skip
              obtain ⟨v5_71, ev5_71⟩ : ∃ v : Int, v = a + (-1) := ⟨_, rfl⟩
              refine k_incN (v := v5_71) (lv' := [(5, .int (zI v5_71)), (0, .ref (E.2.2 u)), (1, .int (zI na)), (2, .ref (E.2.2 v)), (3, .int (zI nb)), (4, .ref (E.2.2 g)), (6, .int (zI b))]) hx hb dX3_compare_71 hl (k := 5) rfl ev5_71 (by decide) rfl (fun ls hl => ?_)
              refine lv_goto (tgt := 3) hx hb dX3_compare_74 (by decide) ?_
              refine ih_3 v5_71 N2 _ _ (by omega) (by exact g2) ?_ (by omega) hP hS _ (lv_sub hl [1, 2, 3, 4, 5, 0] rfl)
              · intro a2 b2 q1 q2 q3 q4
                by_cases q : a2 = a
                · rw [q]; exact g4 b2 (by omega) q4
                · exact g3 a2 b2 (by omega) q2 q3 q4
            · skip
              refine lv_aload hx hb dX3_compare_16 (lv_at hl 4 rfl) ?_
              refine lv_iload hx hb dX3_compare_18 (lv_at hl 5 rfl) ?_
              refine k_aald S hK hP (g + 1 + a) 41 (by unfold kRow; omega) dX3_compare_20 ?_
              refine lv_iload hx hb dX3_compare_21 (lv_at hl 6 rfl) ?_
              refine lv_iload hx hb dX3_compare_23 (lv_at hl 5 rfl) ?_
              refine lv_iload_n hx hb dX3_compare_25 rfl (lv_at hl 1 rfl) ?_
              refine k_ge (tgt := 63) hx hb dX3_compare_26 (by decide) (by omega) (fun c_26 => ?_) (fun c_26 => ?_)
              · skip
                refine k_push hx hb dX3_compare_63 ?_
                refine k_ast S hK hE hP hS 41 (by unfold kArr; omega) (by omega) dX3_compare_64 (fun H locs hP hS => ?_)
                obtain ⟨M64, eM64⟩ : ∃ N9 : kM, N9 = kU N2 (g + 1 + a) b 0 := ⟨_, rfl⟩
                rw [← eM64] at hP
                obtain ⟨v6_65, ev6_65⟩ : ∃ v : Int, v = b + (-1) := ⟨_, rfl⟩
                refine k_incN (v := v6_65) (lv' := [(6, .int (zI v6_65)), (0, .ref (E.2.2 u)), (1, .int (zI na)), (2, .ref (E.2.2 v)), (3, .int (zI nb)), (4, .ref (E.2.2 g)), (5, .int (zI a))]) hx hb dX3_compare_65 hl (k := 6) rfl ev6_65 (by decide) rfl (fun ls hl => ?_)
                refine lv_goto (tgt := 11) hx hb dX3_compare_68 (by decide) ?_
                refine ih_11 v6_65 M64 _ _ (by omega) ?_ ?_ ?_ (by omega) hP hS _ (lv_sub hl [1, 2, 3, 4, 5, 6, 0] rfl)
                · intro c k hc
                  rw [eM64, kU_cell (by omega)]; exact g2 c k hc
                · intro a2 b2 q1 q2 q3 q4
                  rw [eM64, kU_cell (by omega)]; exact g3 a2 b2 q1 q2 q3 q4
                · intro b2 q1 q2
                  rw [eM64]
                  by_cases q : b2 = b
                  · rw [q, kU_same]
                    first | (rw [g3 (a + 1) (b + 1) (by omega) (by omega) (by omega) (by omega)]; exact (kL_hit (by omega) (by omega) c_43).symm) | exact (kL_miss (by omega) (by omega) (by omega)).symm
                  · rw [kU_place q]; exact g4 b2 (by omega) q2
              · skip
                refine lv_iload hx hb dX3_compare_29 (lv_at hl 6 rfl) ?_
                refine lv_iload_n hx hb dX3_compare_31 rfl (lv_at hl 3 rfl) ?_
                refine k_ge (tgt := 63) hx hb dX3_compare_32 (by decide) (by omega) (fun c_32 => ?_) (fun c_32 => ?_)
                · skip
                  refine k_push hx hb dX3_compare_63 ?_
                  refine k_ast S hK hE hP hS 41 (by unfold kArr; omega) (by omega) dX3_compare_64 (fun H locs hP hS => ?_)
                  obtain ⟨M64, eM64⟩ : ∃ N9 : kM, N9 = kU N2 (g + 1 + a) b 0 := ⟨_, rfl⟩
                  rw [← eM64] at hP
                  obtain ⟨v6_65, ev6_65⟩ : ∃ v : Int, v = b + (-1) := ⟨_, rfl⟩
                  refine k_incN (v := v6_65) (lv' := [(6, .int (zI v6_65)), (0, .ref (E.2.2 u)), (1, .int (zI na)), (2, .ref (E.2.2 v)), (3, .int (zI nb)), (4, .ref (E.2.2 g)), (5, .int (zI a))]) hx hb dX3_compare_65 hl (k := 6) rfl ev6_65 (by decide) rfl (fun ls hl => ?_)
                  refine lv_goto (tgt := 11) hx hb dX3_compare_68 (by decide) ?_
                  refine ih_11 v6_65 M64 _ _ (by omega) ?_ ?_ ?_ (by omega) hP hS _ (lv_sub hl [1, 2, 3, 4, 5, 6, 0] rfl)
                  · intro c k hc
                    rw [eM64, kU_cell (by omega)]; exact g2 c k hc
                  · intro a2 b2 q1 q2 q3 q4
                    rw [eM64, kU_cell (by omega)]; exact g3 a2 b2 q1 q2 q3 q4
                  · intro b2 q1 q2
                    rw [eM64]
                    by_cases q : b2 = b
                    · rw [q, kU_same]
                      first | (rw [g3 (a + 1) (b + 1) (by omega) (by omega) (by omega) (by omega)]; exact (kL_hit (by omega) (by omega) c_43).symm) | exact (kL_miss (by omega) (by omega) (by omega)).symm
                    · rw [kU_place q]; exact g4 b2 (by omega) q2
                · skip
                  refine lv_aload_n hx hb dX3_compare_35 rfl (lv_at hl 0 rfl) ?_
                  refine lv_iload hx hb dX3_compare_36 (lv_at hl 5 rfl) ?_
                  refine k_ald S hK hP 40 (by unfold kArr; omega) (by omega) dX3_compare_38 ?_
                  have q5 := hvu a (by omega) (by omega)
                  rw [hu2]
                  refine lv_aload_n hx hb dX3_compare_39 rfl (lv_at hl 2 rfl) ?_
                  refine lv_iload hx hb dX3_compare_40 (lv_at hl 6 rfl) ?_
                  refine k_ald S hK hP 40 (by unfold kArr; omega) (by omega) dX3_compare_42 ?_
                  have q6 := hvv b (by omega) (by omega)
                  rw [hv2]
                  refine k_ne (tgt := 63) hx hb dX3_compare_43 (by decide) (by omega) (fun c_43 => ?_) (fun c_43 => ?_)
                  · skip
                    refine k_push hx hb dX3_compare_63 ?_
                    refine k_ast S hK hE hP hS 41 (by unfold kArr; omega) (by omega) dX3_compare_64 (fun H locs hP hS => ?_)
                    obtain ⟨M64, eM64⟩ : ∃ N9 : kM, N9 = kU N2 (g + 1 + a) b 0 := ⟨_, rfl⟩
                    rw [← eM64] at hP
                    obtain ⟨v6_65, ev6_65⟩ : ∃ v : Int, v = b + (-1) := ⟨_, rfl⟩
                    refine k_incN (v := v6_65) (lv' := [(6, .int (zI v6_65)), (0, .ref (E.2.2 u)), (1, .int (zI na)), (2, .ref (E.2.2 v)), (3, .int (zI nb)), (4, .ref (E.2.2 g)), (5, .int (zI a))]) hx hb dX3_compare_65 hl (k := 6) rfl ev6_65 (by decide) rfl (fun ls hl => ?_)
                    refine lv_goto (tgt := 11) hx hb dX3_compare_68 (by decide) ?_
                    refine ih_11 v6_65 M64 _ _ (by omega) ?_ ?_ ?_ (by omega) hP hS _ (lv_sub hl [1, 2, 3, 4, 5, 6, 0] rfl)
                    · intro c k hc
                      rw [eM64, kU_cell (by omega)]; exact g2 c k hc
                    · intro a2 b2 q1 q2 q3 q4
                      rw [eM64, kU_cell (by omega)]; exact g3 a2 b2 q1 q2 q3 q4
                    · intro b2 q1 q2
                      rw [eM64]
                      by_cases q : b2 = b
                      · rw [q, kU_same]
                        first | (rw [g3 (a + 1) (b + 1) (by omega) (by omega) (by omega) (by omega)]; exact (kL_hit (by omega) (by omega) c_43).symm) | exact (kL_miss (by omega) (by omega) (by omega)).symm
                      · rw [kU_place q]; exact g4 b2 (by omega) q2
                  · skip
                    refine lv_aload hx hb dX3_compare_46 (lv_at hl 4 rfl) ?_
                    refine lv_iload hx hb dX3_compare_48 (lv_at hl 5 rfl) ?_
                    refine k_push hx hb dX3_compare_50 ?_
                    refine k_add hx hb dX3_compare_51 ?_
                    refine k_aald S hK hP (g + 1 + (a + 1)) 41 (by unfold kRow; omega) dX3_compare_52 ?_
                    refine lv_iload hx hb dX3_compare_53 (lv_at hl 6 rfl) ?_
                    refine k_push hx hb dX3_compare_55 ?_
                    refine k_add hx hb dX3_compare_56 ?_
                    refine k_ald S hK hP 41 (by unfold kArr; omega) (by omega) dX3_compare_57 ?_
                    have q7 := g3 (a + 1) (b + 1) (by omega) (by omega) (by omega) (by omega)
                    have q8 := kL_rng (x := M u) (y := M v) (nx := na) (ny := nb) (a := a + 1) (b := b + 1) (by omega) (by omega)
                    refine k_push hx hb dX3_compare_58 ?_
                    refine k_add hx hb dX3_compare_59 ?_
                    refine lv_goto (tgt := 64) hx hb dX3_compare_60 (by decide) ?_
                    refine k_ast S hK hE hP hS 41 (by unfold kArr; omega) (by omega) dX3_compare_64 (fun H locs hP hS => ?_)
                    obtain ⟨M64, eM64⟩ : ∃ N9 : kM, N9 = kU N2 (g + 1 + a) b ((N2 (g + 1 + (a + 1)) (b + 1)) + 1) := ⟨_, rfl⟩
                    rw [← eM64] at hP
                    obtain ⟨v6_65, ev6_65⟩ : ∃ v : Int, v = b + (-1) := ⟨_, rfl⟩
                    refine k_incN (v := v6_65) (lv' := [(6, .int (zI v6_65)), (0, .ref (E.2.2 u)), (1, .int (zI na)), (2, .ref (E.2.2 v)), (3, .int (zI nb)), (4, .ref (E.2.2 g)), (5, .int (zI a))]) hx hb dX3_compare_65 hl (k := 6) rfl ev6_65 (by decide) rfl (fun ls hl => ?_)
                    refine lv_goto (tgt := 11) hx hb dX3_compare_68 (by decide) ?_
                    refine ih_11 v6_65 M64 _ _ (by omega) ?_ ?_ ?_ (by omega) hP hS _ (lv_sub hl [1, 2, 3, 4, 5, 6, 0] rfl)
                    · intro c k hc
                      rw [eM64, kU_cell (by omega)]; exact g2 c k hc
                    · intro a2 b2 q1 q2 q3 q4
                      rw [eM64, kU_cell (by omega)]; exact g3 a2 b2 q1 q2 q3 q4
                    · intro b2 q1 q2
                      rw [eM64]
                      by_cases q : b2 = b
                      · rw [q, kU_same]
                        first | (rw [g3 (a + 1) (b + 1) (by omega) (by omega) (by omega) (by omega)]; exact (kL_hit (by omega) (by omega) c_43).symm) | exact (kL_miss (by omega) (by omega) (by omega)).symm
                      · rw [kU_place q]; exact g4 b2 (by omega) q2
        refine lp_11 ((nb + 1).toNat + 1) nb N _ _ (by omega) (by exact h2) (by exact h3) (by intro b2 q1 q2; exfalso; omega) (by omega) hP hS _ (lv_sub hl [1, 2, 3, 4, 5, 6, 0] rfl)
  refine lp_3 ((na + 1).toNat + 1) na M _ _ (by omega) (by exact kF_refl _ _ _) (by intro a2 b2 q1 q2; exfalso; omega) (by omega) hP hS _ (lv_sub hl [1, 2, 3, 4, 5, 0] rfl)
abbrev rX3_by : Room := { frames := 0, cells := 0, slots := 0, locals := 0 }
set_option maxHeartbeats 4000000 in
set_option maxRecDepth 100000 in
theorem c_X3_by (l : Launch) (E : kE) (M : kM) (u na a v nb b k : Int) (hu : 13 ≤ u ∧ u < 15 ∧ 13 ≤ v ∧ v < 15) (hna : 0 ≤ a ∧ 0 ≤ b ∧ na ≤ 40 ∧ nb ≤ 40) (hvu : ∀ j : Int, 0 ≤ j → j < na → 0 ≤ M u j ∧ M u j ≤ 8) (hvv : ∀ j : Int, 0 ≤ j → j < nb → 0 ≤ M v j ∧ M v j ≤ 8) (hk : kLC (M u) na a (M v) nb b k) : kRO l yX3_by wsX3_by rX3_by E M [.ref (E.2.2 u), .int (zI na), .int (zI a), .ref (E.2.2 v), .int (zI nb), .int (zI b), .int (zI k)] (fun z => (a + k = na ∧ b + k = nb ∧ z = 0) ∨ (kLt (M u) na a (M v) nb b k ∧ z = -1) ∨ (kLt (M v) nb b (M u) na a k ∧ z = 1)) := by
  refine kRO_of (cc := cX3_by) (maxL := 8) (rt := .int) RX3 (by decide) rfl rfl (Nat.le_of_ble_eq_true rfl) k_nari ?_
  intro pg en s0 mi ar bl me co ls Q S hP hK ends hl
  have hx := S.1
  have hb := S.2.1
  have hl : lv_has ls 8 [(0, .ref (E.2.2 u)), (1, .int (zI na)), (2, .int (zI a)), (3, .ref (E.2.2 v)), (4, .int (zI nb)), (5, .int (zI b)), (6, .int (zI k))] := hl
  obtain ⟨hk0, hk1, hk2, hk3, hk4⟩ := id hk
  refine lv_iload_n hx hb dX3_by_0 rfl (lv_at hl 2 rfl) ?_
  refine lv_iload hx hb dX3_by_1 (lv_at hl 6 rfl) ?_
  refine k_add hx hb dX3_by_3 ?_
  refine lv_iload_n hx hb dX3_by_4 rfl (lv_at hl 1 rfl) ?_
  refine k_ne (tgt := 12) hx hb dX3_by_5 (by decide) (by omega) (fun c_5 => ?_) (fun c_5 => ?_)
  · skip
    refine k_push hx hb dX3_by_12 ?_
    refine lv_istore (lv' := [(7, .int (zI 0)), (0, .ref (E.2.2 u)), (1, .int (zI na)), (2, .int (zI a)), (3, .ref (E.2.2 v)), (4, .int (zI nb)), (5, .int (zI b)), (6, .int (zI k))]) hx hb dX3_by_13 hl (by decide) rfl (fun ls hl => ?_)
    refine lv_iload hx hb dX3_by_15 (lv_at hl 0 rfl) ?_
    refine k_ne0 (tgt := 30) hx hb dX3_by_17 (by decide) (by omega) (fun c_17 => ?_) (fun c_17 => ?_)
    · skip
      refine lv_iload hx hb dX3_by_30 (lv_at hl 0 rfl) ?_
      refine k_eq0 (tgt := 53) hx hb dX3_by_32 (by decide) (by omega) (fun c_32 => ?_) (fun c_32 => ?_)
      · skip
        refine k_push hx hb dX3_by_53 ?_
        refine ends _ _ (1) dX3_by_54 ?_
        first | exact Or.inl ⟨by omega, by omega, rfl⟩ | exact Or.inr (Or.inl ⟨by unfold kLt; omega, rfl⟩) | exact Or.inr (Or.inr ⟨by unfold kLt; omega, rfl⟩)
      · skip
        refine lv_iload hx hb dX3_by_35 (lv_at hl 6 rfl) ?_
        refine lv_iload hx hb dX3_by_37 (lv_at hl 7 rfl) ?_
        refine k_add hx hb dX3_by_39 ?_
        refine lv_iload hx hb dX3_by_40 (lv_at hl 5 rfl) ?_
        refine k_ne (tgt := 49) hx hb dX3_by_42 (by decide) (by omega) (fun c_42 => ?_) (fun c_42 => ?_)
        · skip
          refine k_push hx hb dX3_by_49 ?_
          refine lv_goto (tgt := 54) hx hb dX3_by_50 (by decide) ?_
          refine ends _ _ ((-1)) dX3_by_54 ?_
          first | exact Or.inl ⟨by omega, by omega, rfl⟩ | exact Or.inr (Or.inl ⟨by unfold kLt; omega, rfl⟩) | exact Or.inr (Or.inr ⟨by unfold kLt; omega, rfl⟩)
        · skip
          refine k_push hx hb dX3_by_45 ?_
          refine lv_goto (tgt := 54) hx hb dX3_by_46 (by decide) ?_
          refine ends _ _ (0) dX3_by_54 ?_
          first | exact Or.inl ⟨by omega, by omega, rfl⟩ | exact Or.inr (Or.inl ⟨by unfold kLt; omega, rfl⟩) | exact Or.inr (Or.inr ⟨by unfold kLt; omega, rfl⟩)
    · skip
      refine lv_iload hx hb dX3_by_20 (lv_at hl 6 rfl) ?_
      refine lv_iload hx hb dX3_by_22 (lv_at hl 7 rfl) ?_
      refine k_add hx hb dX3_by_24 ?_
      refine lv_iload hx hb dX3_by_25 (lv_at hl 5 rfl) ?_
      refine k_ne (tgt := 55) hx hb dX3_by_27 (by decide) (by omega) (fun c_27 => ?_) (fun c_27 => ?_)
      · skip
        refine lv_aload_n hx hb dX3_by_55 rfl (lv_at hl 1 rfl) ?_
        refine lv_iload_n hx hb dX3_by_56 rfl (lv_at hl 3 rfl) ?_
        refine lv_iload hx hb dX3_by_57 (lv_at hl 7 rfl) ?_
        refine k_add hx hb dX3_by_59 ?_
        refine k_ald S hK hP 40 (by unfold kArr; omega) (by omega) dX3_by_60 ?_
        have q5 := hvu (a + k) (by omega) (by omega)
        refine lv_aload_n hx hb dX3_by_61 rfl (lv_at hl 4 rfl) ?_
        refine lv_iload hx hb dX3_by_62 (lv_at hl 6 rfl) ?_
        refine lv_iload hx hb dX3_by_64 (lv_at hl 7 rfl) ?_
        refine k_add hx hb dX3_by_66 ?_
        refine k_ald S hK hP 40 (by unfold kArr; omega) (by omega) dX3_by_67 ?_
        have q6 := hvv (b + k) (by omega) (by omega)
        refine k_ge (tgt := 75) hx hb dX3_by_68 (by decide) (by omega) (fun c_68 => ?_) (fun c_68 => ?_)
        · skip
          refine k_push hx hb dX3_by_75 ?_
          refine ends _ _ (1) dX3_by_76 ?_
          first | exact Or.inl ⟨by omega, by omega, rfl⟩ | exact Or.inr (Or.inl ⟨by unfold kLt; omega, rfl⟩) | exact Or.inr (Or.inr ⟨by unfold kLt; omega, rfl⟩)
        · skip
          refine k_push hx hb dX3_by_71 ?_
          refine lv_goto (tgt := 76) hx hb dX3_by_72 (by decide) ?_
          refine ends _ _ ((-1)) dX3_by_76 ?_
          first | exact Or.inl ⟨by omega, by omega, rfl⟩ | exact Or.inr (Or.inl ⟨by unfold kLt; omega, rfl⟩) | exact Or.inr (Or.inr ⟨by unfold kLt; omega, rfl⟩)
      · skip
        refine lv_iload hx hb dX3_by_30 (lv_at hl 0 rfl) ?_
        refine k_eq0 (tgt := 53) hx hb dX3_by_32 (by decide) (by omega) (fun c_32 => ?_) (fun c_32 => ?_)
        · skip
          refine k_push hx hb dX3_by_53 ?_
          refine ends _ _ (1) dX3_by_54 ?_
          first | exact Or.inl ⟨by omega, by omega, rfl⟩ | exact Or.inr (Or.inl ⟨by unfold kLt; omega, rfl⟩) | exact Or.inr (Or.inr ⟨by unfold kLt; omega, rfl⟩)
        · skip
          refine lv_iload hx hb dX3_by_35 (lv_at hl 6 rfl) ?_
          refine lv_iload hx hb dX3_by_37 (lv_at hl 7 rfl) ?_
          refine k_add hx hb dX3_by_39 ?_
          refine lv_iload hx hb dX3_by_40 (lv_at hl 5 rfl) ?_
          refine k_ne (tgt := 49) hx hb dX3_by_42 (by decide) (by omega) (fun c_42 => ?_) (fun c_42 => ?_)
          · skip
            refine k_push hx hb dX3_by_49 ?_
            refine lv_goto (tgt := 54) hx hb dX3_by_50 (by decide) ?_
            refine ends _ _ ((-1)) dX3_by_54 ?_
            first | exact Or.inl ⟨by omega, by omega, rfl⟩ | exact Or.inr (Or.inl ⟨by unfold kLt; omega, rfl⟩) | exact Or.inr (Or.inr ⟨by unfold kLt; omega, rfl⟩)
          · skip
            refine k_push hx hb dX3_by_45 ?_
            refine lv_goto (tgt := 54) hx hb dX3_by_46 (by decide) ?_
            refine ends _ _ (0) dX3_by_54 ?_
            first | exact Or.inl ⟨by omega, by omega, rfl⟩ | exact Or.inr (Or.inl ⟨by unfold kLt; omega, rfl⟩) | exact Or.inr (Or.inr ⟨by unfold kLt; omega, rfl⟩)
  · skip
    refine k_push hx hb dX3_by_8 ?_
    refine lv_goto (tgt := 13) hx hb dX3_by_9 (by decide) ?_
    refine lv_istore (lv' := [(7, .int (zI 1)), (0, .ref (E.2.2 u)), (1, .int (zI na)), (2, .int (zI a)), (3, .ref (E.2.2 v)), (4, .int (zI nb)), (5, .int (zI b)), (6, .int (zI k))]) hx hb dX3_by_13 hl (by decide) rfl (fun ls hl => ?_)
    refine lv_iload hx hb dX3_by_15 (lv_at hl 0 rfl) ?_
    refine k_ne0 (tgt := 30) hx hb dX3_by_17 (by decide) (by omega) (fun c_17 => ?_) (fun c_17 => ?_)
    · skip
      refine lv_iload hx hb dX3_by_30 (lv_at hl 0 rfl) ?_
      refine k_eq0 (tgt := 53) hx hb dX3_by_32 (by decide) (by omega) (fun c_32 => ?_) (fun c_32 => ?_)
      · skip
        refine k_push hx hb dX3_by_53 ?_
        refine ends _ _ (1) dX3_by_54 ?_
        first | exact Or.inl ⟨by omega, by omega, rfl⟩ | exact Or.inr (Or.inl ⟨by unfold kLt; omega, rfl⟩) | exact Or.inr (Or.inr ⟨by unfold kLt; omega, rfl⟩)
      · skip
        refine lv_iload hx hb dX3_by_35 (lv_at hl 6 rfl) ?_
        refine lv_iload hx hb dX3_by_37 (lv_at hl 7 rfl) ?_
        refine k_add hx hb dX3_by_39 ?_
        refine lv_iload hx hb dX3_by_40 (lv_at hl 5 rfl) ?_
        refine k_ne (tgt := 49) hx hb dX3_by_42 (by decide) (by omega) (fun c_42 => ?_) (fun c_42 => ?_)
        · skip
          refine k_push hx hb dX3_by_49 ?_
          refine lv_goto (tgt := 54) hx hb dX3_by_50 (by decide) ?_
          refine ends _ _ ((-1)) dX3_by_54 ?_
          first | exact Or.inl ⟨by omega, by omega, rfl⟩ | exact Or.inr (Or.inl ⟨by unfold kLt; omega, rfl⟩) | exact Or.inr (Or.inr ⟨by unfold kLt; omega, rfl⟩)
        · skip
          refine k_push hx hb dX3_by_45 ?_
          refine lv_goto (tgt := 54) hx hb dX3_by_46 (by decide) ?_
          refine ends _ _ (0) dX3_by_54 ?_
          first | exact Or.inl ⟨by omega, by omega, rfl⟩ | exact Or.inr (Or.inl ⟨by unfold kLt; omega, rfl⟩) | exact Or.inr (Or.inr ⟨by unfold kLt; omega, rfl⟩)
    · skip
      refine lv_iload hx hb dX3_by_20 (lv_at hl 6 rfl) ?_
      refine lv_iload hx hb dX3_by_22 (lv_at hl 7 rfl) ?_
      refine k_add hx hb dX3_by_24 ?_
      refine lv_iload hx hb dX3_by_25 (lv_at hl 5 rfl) ?_
      refine k_ne (tgt := 55) hx hb dX3_by_27 (by decide) (by omega) (fun c_27 => ?_) (fun c_27 => ?_)
      · skip
        refine lv_aload_n hx hb dX3_by_55 rfl (lv_at hl 1 rfl) ?_
        refine lv_iload_n hx hb dX3_by_56 rfl (lv_at hl 3 rfl) ?_
        refine lv_iload hx hb dX3_by_57 (lv_at hl 7 rfl) ?_
        refine k_add hx hb dX3_by_59 ?_
        refine k_ald S hK hP 40 (by unfold kArr; omega) (by omega) dX3_by_60 ?_
        have q5 := hvu (a + k) (by omega) (by omega)
        refine lv_aload_n hx hb dX3_by_61 rfl (lv_at hl 4 rfl) ?_
        refine lv_iload hx hb dX3_by_62 (lv_at hl 6 rfl) ?_
        refine lv_iload hx hb dX3_by_64 (lv_at hl 7 rfl) ?_
        refine k_add hx hb dX3_by_66 ?_
        refine k_ald S hK hP 40 (by unfold kArr; omega) (by omega) dX3_by_67 ?_
        have q6 := hvv (b + k) (by omega) (by omega)
        refine k_ge (tgt := 75) hx hb dX3_by_68 (by decide) (by omega) (fun c_68 => ?_) (fun c_68 => ?_)
        · skip
          refine k_push hx hb dX3_by_75 ?_
          refine ends _ _ (1) dX3_by_76 ?_
          first | exact Or.inl ⟨by omega, by omega, rfl⟩ | exact Or.inr (Or.inl ⟨by unfold kLt; omega, rfl⟩) | exact Or.inr (Or.inr ⟨by unfold kLt; omega, rfl⟩)
        · skip
          refine k_push hx hb dX3_by_71 ?_
          refine lv_goto (tgt := 76) hx hb dX3_by_72 (by decide) ?_
          refine ends _ _ ((-1)) dX3_by_76 ?_
          first | exact Or.inl ⟨by omega, by omega, rfl⟩ | exact Or.inr (Or.inl ⟨by unfold kLt; omega, rfl⟩) | exact Or.inr (Or.inr ⟨by unfold kLt; omega, rfl⟩)
      · skip
        refine lv_iload hx hb dX3_by_30 (lv_at hl 0 rfl) ?_
        refine k_eq0 (tgt := 53) hx hb dX3_by_32 (by decide) (by omega) (fun c_32 => ?_) (fun c_32 => ?_)
        · skip
          refine k_push hx hb dX3_by_53 ?_
          refine ends _ _ (1) dX3_by_54 ?_
          first | exact Or.inl ⟨by omega, by omega, rfl⟩ | exact Or.inr (Or.inl ⟨by unfold kLt; omega, rfl⟩) | exact Or.inr (Or.inr ⟨by unfold kLt; omega, rfl⟩)
        · skip
          refine lv_iload hx hb dX3_by_35 (lv_at hl 6 rfl) ?_
          refine lv_iload hx hb dX3_by_37 (lv_at hl 7 rfl) ?_
          refine k_add hx hb dX3_by_39 ?_
          refine lv_iload hx hb dX3_by_40 (lv_at hl 5 rfl) ?_
          refine k_ne (tgt := 49) hx hb dX3_by_42 (by decide) (by omega) (fun c_42 => ?_) (fun c_42 => ?_)
          · skip
            refine k_push hx hb dX3_by_49 ?_
            refine lv_goto (tgt := 54) hx hb dX3_by_50 (by decide) ?_
            refine ends _ _ ((-1)) dX3_by_54 ?_
            first | exact Or.inl ⟨by omega, by omega, rfl⟩ | exact Or.inr (Or.inl ⟨by unfold kLt; omega, rfl⟩) | exact Or.inr (Or.inr ⟨by unfold kLt; omega, rfl⟩)
          · skip
            refine k_push hx hb dX3_by_45 ?_
            refine lv_goto (tgt := 54) hx hb dX3_by_46 (by decide) ?_
            refine ends _ _ (0) dX3_by_54 ?_
            first | exact Or.inl ⟨by omega, by omega, rfl⟩ | exact Or.inr (Or.inl ⟨by unfold kLt; omega, rfl⟩) | exact Or.inr (Or.inr ⟨by unfold kLt; omega, rfl⟩)
abbrev rX3_isLess : Room := { frames := 1, cells := 0, slots := 0, locals := 27 }
set_option maxHeartbeats 4000000 in
set_option maxRecDepth 100000 in
theorem c_X3_isLess (l : Launch) (E : kE) (M : kM) (h a b : Int) (hh : 0 ≤ h ∧ h < 2) (hW : kWm M) (hSm : kSame M h) (hab : 0 ≤ a ∧ a < M 15 h ∧ 0 ≤ b ∧ b < M 15 h) : kRO l yX3_isLess wsX3_isLess rX3_isLess E M [.ref (E.2.2 11), .int (zI h), .int (zI a), .int (zI b)] (fun z => (z = 1 ∧ kSL (M (13 + h)) (M 15 h) a b) ∨ (z = 0 ∧ ¬ kSL (M (13 + h)) (M 15 h) a b)) := by
  refine kRO_of (cc := cX3_isLess) (maxL := 4) (rt := .boolean) RX3 (by decide) rfl rfl (Nat.le_of_ble_eq_true rfl) (fun z hz => k_narb (by omega)) ?_
  intro pg en s0 mi ar bl me co ls Q S hP hK ends hl
  have hx := S.1
  have hb := S.2.1
  have hinX30 : ∀ w ∈ wsX30, w ∈ wsX3_isLess := fun w h => List.mem_cons_of_mem _ (List.mem_append_right _ (h))
  have hl : lv_has ls 4 [(0, .ref (E.2.2 11)), (1, .int (zI h)), (2, .int (zI a)), (3, .int (zI b))] := hl
  obtain ⟨hWh, hs0, hs1, hsv⟩ := id hW
  obtain ⟨hn0, hn1, hv⟩ := hWh h hh
  have hkk : kLC (M (13 + h)) (M 15 h) a (M (13 + h)) (M 15 h) b (M (18 + a) b) := by rw [hSm a b (by omega) (by omega) (by omega) (by omega)]; exact kL_spec (by omega) (by omega)
  have hkr := hkk.2.1
  have hkz := hkk.1
  refine lv_aload_n hx hb dX3_isLess_0 rfl (lv_at hl 0 rfl) ?_
  refine k_mod S hK hP hinX30 1 (by decide) (S.2.2.2.2 _ (List.mem_cons_of_mem _ (List.mem_append_left _ (List.mem_of_getElem? (i := 0) rfl)))) dX3_isLess_1 rfl (.ref (E.2.2 12)) rfl rfl ?_
  refine lv_iload_n hx hb dX3_isLess_4 rfl (lv_at hl 1 rfl) ?_
  refine k_aald S hK hP (13 + h) 2 (by unfold kRow; omega) dX3_isLess_5 ?_
  refine lv_aload_n hx hb dX3_isLess_6 rfl (lv_at hl 0 rfl) ?_
  refine k_mod S hK hP hinX30 2 (by decide) (S.2.2.2.2 _ (List.mem_cons_of_mem _ (List.mem_append_left _ (List.mem_of_getElem? (i := 1) rfl)))) dX3_isLess_7 rfl (.ref (E.2.2 15)) rfl rfl ?_
  refine lv_iload_n hx hb dX3_isLess_10 rfl (lv_at hl 1 rfl) ?_
  refine k_ald S hK hP 2 (by unfold kArr; omega) (by omega) dX3_isLess_11 ?_
  refine lv_iload_n hx hb dX3_isLess_12 rfl (lv_at hl 2 rfl) ?_
  refine lv_aload_n hx hb dX3_isLess_13 rfl (lv_at hl 0 rfl) ?_
  refine k_mod S hK hP hinX30 1 (by decide) (S.2.2.2.2 _ (List.mem_cons_of_mem _ (List.mem_append_left _ (List.mem_of_getElem? (i := 0) rfl)))) dX3_isLess_14 rfl (.ref (E.2.2 12)) rfl rfl ?_
  refine lv_iload_n hx hb dX3_isLess_17 rfl (lv_at hl 1 rfl) ?_
  refine k_aald S hK hP (13 + h) 2 (by unfold kRow; omega) dX3_isLess_18 ?_
  refine lv_aload_n hx hb dX3_isLess_19 rfl (lv_at hl 0 rfl) ?_
  refine k_mod S hK hP hinX30 2 (by decide) (S.2.2.2.2 _ (List.mem_cons_of_mem _ (List.mem_append_left _ (List.mem_of_getElem? (i := 1) rfl)))) dX3_isLess_20 rfl (.ref (E.2.2 15)) rfl rfl ?_
  refine lv_iload_n hx hb dX3_isLess_23 rfl (lv_at hl 1 rfl) ?_
  refine k_ald S hK hP 2 (by unfold kArr; omega) (by omega) dX3_isLess_24 ?_
  refine lv_iload_n hx hb dX3_isLess_25 rfl (lv_at hl 3 rfl) ?_
  refine lv_aload_n hx hb dX3_isLess_26 rfl (lv_at hl 0 rfl) ?_
  refine k_mod S hK hP hinX30 5 (by decide) (S.2.2.2.2 _ (List.mem_cons_of_mem _ (List.mem_append_left _ (List.mem_of_getElem? (i := 2) rfl)))) dX3_isLess_27 rfl (.ref (E.2.2 17)) rfl rfl ?_
  refine lv_iload_n hx hb dX3_isLess_30 rfl (lv_at hl 2 rfl) ?_
  refine k_aald S hK hP (18 + a) 41 (by unfold kRow; omega) dX3_isLess_31 ?_
  refine lv_iload_n hx hb dX3_isLess_32 rfl (lv_at hl 3 rfl) ?_
  refine k_ald S hK hP 41 (by unfold kArr; omega) (by omega) dX3_isLess_33 ?_
  refine k_callS (As := [.ref (E.2.2 (13 + h)), .int (zI (M 15 h)), .int (zI a), .ref (E.2.2 (13 + h)), .int (zI (M 15 h)), .int (zI b), .int (zI (M (18 + a) b))]) (rest := []) S hK hP (c_X3_by l E M (13 + h) (M 15 h) a (13 + h) (M 15 h) b (M (18 + a) b) (by omega) (by omega) (by assumption) (by assumption) (by assumption)) (va_cwS 7 S.2.2.2.2 gX3_isLess_X3_by rfl rfl rfl (by decide +kernel) ⟨Nat.le_of_ble_eq_true rfl, Nat.le_of_ble_eq_true rfl⟩) rfl hl.1 rfl (Nat.le_of_ble_eq_true rfl) dX3_isLess_34 ⟨Nat.le_of_ble_eq_true rfl, Nat.le_of_ble_eq_true rfl⟩ (fun z_34 h_34 => ?_)
  refine k_ge0 (tgt := 44) hx hb dX3_isLess_37 (by decide) (by omega) (fun c_37 => ?_) (fun c_37 => ?_)
  · skip
    refine k_push hx hb dX3_isLess_44 ?_
    refine ends _ _ (0) dX3_isLess_45 ?_
    first
      | (refine Or.inl ⟨rfl, ⟨_, hkk, ?_⟩⟩; rcases h_34 with q | q | q <;> first | exact q.1 | (exfalso; omega))
      | (refine Or.inr ⟨rfl, fun q => ?_⟩; obtain ⟨k2, q1, q2⟩ := q; rw [kLC_one q1 hkk] at q2; unfold kLt at *; omega)
  · skip
    refine k_push hx hb dX3_isLess_40 ?_
    refine lv_goto (tgt := 45) hx hb dX3_isLess_41 (by decide) ?_
    refine ends _ _ (1) dX3_isLess_45 ?_
    first
      | (refine Or.inl ⟨rfl, ⟨_, hkk, ?_⟩⟩; rcases h_34 with q | q | q <;> first | exact q.1 | (exfalso; omega))
      | (refine Or.inr ⟨rfl, fun q => ?_⟩; obtain ⟨k2, q1, q2⟩ := q; rw [kLC_one q1 hkk] at q2; unfold kLt at *; omega)
abbrev rX3_rankOf : Room := { frames := 2, cells := 0, slots := 0, locals := 50 }
set_option maxHeartbeats 4000000 in
set_option maxRecDepth 100000 in
theorem c_X3_rankOf (l : Launch) (E : kE) (M : kM) (h p : Int) (hh : 0 ≤ h ∧ h < 2) (hW : kWm M) (hSm : kSame M h) (hp : 0 ≤ p ∧ p < M 15 h) : kRO l yX3_rankOf wsX3_rankOf rX3_rankOf E M [.ref (E.2.2 11), .int (zI h), .int (zI p)] (fun z => z = kRk (M (13 + h)) (M 15 h) p ∧ 0 ≤ z ∧ z < M 15 h) := by
  refine kRO_of (cc := cX3_rankOf) (maxL := 5) (rt := .int) RX3 (by decide) rfl rfl (Nat.le_of_ble_eq_true rfl) k_nari ?_
  intro pg en s0 mi ar bl me co ls Q S hP hK ends hl
  have hx := S.1
  have hb := S.2.1
  have hinX30 : ∀ w ∈ wsX30, w ∈ wsX3_rankOf := fun w h => List.mem_cons_of_mem _ (List.mem_append_right _ (h))
  have hl : lv_has ls 5 [(0, .ref (E.2.2 11)), (1, .int (zI h)), (2, .int (zI p))] := hl
  obtain ⟨hWh, hs0, hs1, hsv⟩ := id hW
  obtain ⟨hn0, hn1, hv⟩ := hWh h hh
  refine k_push hx hb dX3_rankOf_0 ?_
  refine lv_istore_n (lv' := [(3, .int (zI 0)), (0, .ref (E.2.2 11)), (1, .int (zI h)), (2, .int (zI p))]) hx hb dX3_rankOf_1 rfl hl (by decide) rfl (fun ls hl => ?_)
  refine k_push hx hb dX3_rankOf_2 ?_
  refine lv_istore (lv' := [(4, .int (zI 0)), (3, .int (zI 0)), (0, .ref (E.2.2 11)), (1, .int (zI h)), (2, .int (zI p))]) hx hb dX3_rankOf_3 hl (by decide) rfl (fun ls hl => ?_)
  have lp_5 : ∀ (n_5 : Nat) (c : Int) (b : Int), (0 ≤ b ∧ b ≤ M 15 h ∧ 0 ≤ c ∧ c ≤ b) → (c = kCnt (fun b => kSL (M (13 + h)) (M 15 h) b p) b.toNat) → (M 15 h - b < (n_5 : Int)) → ∀ ls : Array Slot, lv_has ls 5 [(0, .ref (E.2.2 11)), (1, .int (zI h)), (2, .int (zI p)), (3, .int (zI c)), (4, .int (zI b))] → W pg l en rX3_rankOf s0 mi ar bl me co s0.heap [] 0 0 Q (F0 mi 5 ls []) := by
    intro n_5
    induction n_5 with
    | zero => intro c b h1 h2 hm_5; exfalso; omega
    | succ n_5 ih_5 =>
      intro c b h1 h2 hm_5 ls hl
      refine lv_iload hx hb dX3_rankOf_5 (lv_at hl 4 rfl) ?_
      refine lv_aload_n hx hb dX3_rankOf_7 rfl (lv_at hl 0 rfl) ?_
      refine k_mod S hK hP hinX30 2 (by decide) (S.2.2.2.2 _ (List.mem_cons_of_mem _ (List.mem_append_left _ (List.mem_of_getElem? (i := 0) rfl)))) dX3_rankOf_8 rfl (.ref (E.2.2 15)) rfl rfl ?_
      refine lv_iload_n hx hb dX3_rankOf_11 rfl (lv_at hl 1 rfl) ?_
      refine k_ald S hK hP 2 (by unfold kArr; omega) (by omega) dX3_rankOf_12 ?_
      refine k_ge (tgt := 41) hx hb dX3_rankOf_13 (by decide) (by omega) (fun c_13 => ?_) (fun c_13 => ?_)
      · skip
        refine lv_iload_n hx hb dX3_rankOf_41 rfl (lv_at hl 3 rfl) ?_
        refine ends _ _ (c) dX3_rankOf_42 ?_
        have q : c = kRk (M (13 + h)) (M 15 h) p := by rw [h2, show b = M 15 h by omega]; rfl
        have q2 := kRk_rng (x := M (13 + h)) hp
        omega
      · skip
        refine lv_iload_n hx hb dX3_rankOf_16 rfl (lv_at hl 3 rfl) ?_
        refine lv_aload_n hx hb dX3_rankOf_17 rfl (lv_at hl 0 rfl) ?_
        refine lv_iload_n hx hb dX3_rankOf_18 rfl (lv_at hl 1 rfl) ?_
        refine lv_iload hx hb dX3_rankOf_19 (lv_at hl 4 rfl) ?_
        refine lv_iload_n hx hb dX3_rankOf_21 rfl (lv_at hl 2 rfl) ?_
        refine k_callV (As := [.int (zI h), .int (zI b), .int (zI p)]) (rest := [.int (zI c)]) S hK hP (c_X3_isLess l E M h b p (by omega) (by assumption) (by assumption) (by omega)) (cwV 3 S.2.2.2.2 gX3_rankOf_X3_isLess rfl rfl rfl (by decide +kernel) ⟨Nat.le_of_ble_eq_true rfl, Nat.le_of_ble_eq_true rfl⟩) (k_rY hK hP rfl) rfl hl.1 rfl (Nat.le_of_ble_eq_true rfl) dX3_rankOf_22 ⟨Nat.le_of_ble_eq_true rfl, Nat.le_of_ble_eq_true rfl⟩ (fun z_22 h_22 => ?_)
        refine k_eq0 (tgt := 32) hx hb dX3_rankOf_25 (by decide) (by omega) (fun c_25 => ?_) (fun c_25 => ?_)
        · skip
          refine k_push hx hb dX3_rankOf_32 ?_
          refine k_add hx hb dX3_rankOf_33 ?_
          refine k_nm (fun v3_34 ev3_34 => ?_)
          refine lv_istore_n (lv' := [(3, .int (zI v3_34)), (0, .ref (E.2.2 11)), (1, .int (zI h)), (2, .int (zI p)), (4, .int (zI b))]) hx hb dX3_rankOf_34 rfl hl (by decide) rfl (fun ls hl => ?_)
          obtain ⟨v4_35, ev4_35⟩ : ∃ v : Int, v = b + 1 := ⟨_, rfl⟩
          refine k_incN (v := v4_35) (lv' := [(4, .int (zI v4_35)), (3, .int (zI v3_34)), (0, .ref (E.2.2 11)), (1, .int (zI h)), (2, .int (zI p))]) hx hb dX3_rankOf_35 hl (k := 4) rfl ev4_35 (by decide) rfl (fun ls hl => ?_)
          refine lv_goto (tgt := 5) hx hb dX3_rankOf_38 (by decide) ?_
          refine ih_5 v3_34 v4_35 (by omega) ?_ (by omega) _ (lv_sub hl [2, 3, 4, 1, 0] rfl)
          · subst ev4_35
            first
              | (rw [ev3_34, kCnt_t _ (k := b) (by omega) (h_22.resolve_right (fun q => c_25 q.1)).2, ← h2])
              | (rw [ev3_34, kCnt_f _ (k := b) (by omega) (h_22.resolve_left (fun q => by omega)).2, ← h2]; omega)
        · skip
          refine k_push hx hb dX3_rankOf_28 ?_
          refine lv_goto (tgt := 33) hx hb dX3_rankOf_29 (by decide) ?_
          refine k_add hx hb dX3_rankOf_33 ?_
          refine k_nm (fun v3_34 ev3_34 => ?_)
          refine lv_istore_n (lv' := [(3, .int (zI v3_34)), (0, .ref (E.2.2 11)), (1, .int (zI h)), (2, .int (zI p)), (4, .int (zI b))]) hx hb dX3_rankOf_34 rfl hl (by decide) rfl (fun ls hl => ?_)
          obtain ⟨v4_35, ev4_35⟩ : ∃ v : Int, v = b + 1 := ⟨_, rfl⟩
          refine k_incN (v := v4_35) (lv' := [(4, .int (zI v4_35)), (3, .int (zI v3_34)), (0, .ref (E.2.2 11)), (1, .int (zI h)), (2, .int (zI p))]) hx hb dX3_rankOf_35 hl (k := 4) rfl ev4_35 (by decide) rfl (fun ls hl => ?_)
          refine lv_goto (tgt := 5) hx hb dX3_rankOf_38 (by decide) ?_
          refine ih_5 v3_34 v4_35 (by omega) ?_ (by omega) _ (lv_sub hl [2, 3, 4, 1, 0] rfl)
          · subst ev4_35
            first
              | (rw [ev3_34, kCnt_t _ (k := b) (by omega) (h_22.resolve_right (fun q => c_25 q.1)).2, ← h2])
              | (rw [ev3_34, kCnt_f _ (k := b) (by omega) (h_22.resolve_left (fun q => by omega)).2, ← h2]; omega)
  refine lp_5 ((M 15 h - 0).toNat + 1) 0 0 (by omega) (by rfl) (by omega) _ (lv_sub hl [2, 3, 4, 1, 0] rfl)
abbrev rX3_look : Room := { frames := 1, cells := 0, slots := 0, locals := 26 }
set_option maxHeartbeats 4000000 in
set_option maxRecDepth 100000 in
theorem c_X3_look (l : Launch) (E : kE) (hE : kInj E) (M : kM) (h : Int) (hh : 0 ≤ h ∧ h < 2) (hW : kWm M) : kRV l yX3_look wsX3_look rX3_look E M [.ref (E.2.2 11), .int (zI h)] (fun N => kF 18 58 M N ∧ kSame N h) := by
  refine kRV_of (cc := cX3_look) (maxL := 2) RX3 (by decide) rfl rfl (Nat.le_of_ble_eq_true rfl) ?_
  intro pg en s0 mi ar bl me co ls Q S hP hS hK ends hl
  have hx := S.1
  have hb := S.2.1
  have hinX30 : ∀ w ∈ wsX30, w ∈ wsX3_look := fun w h => List.mem_cons_of_mem _ (List.mem_append_right _ (h))
  have hl : lv_has ls 2 [(0, .ref (E.2.2 11)), (1, .int (zI h))] := hl
  obtain ⟨hWh, hs0, hs1, hsv⟩ := id hW
  obtain ⟨hn0, hn1, hv⟩ := hWh h hh
  refine lv_aload_n hx hb dX3_look_0 rfl (lv_at hl 0 rfl) ?_
  refine k_mod S hK hP hinX30 1 (by decide) (S.2.2.2.2 _ (List.mem_cons_of_mem _ (List.mem_append_left _ (List.mem_of_getElem? (i := 0) rfl)))) dX3_look_1 rfl (.ref (E.2.2 12)) rfl rfl ?_
  refine lv_iload_n hx hb dX3_look_4 rfl (lv_at hl 1 rfl) ?_
  refine k_aald S hK hP (13 + h) 2 (by unfold kRow; omega) dX3_look_5 ?_
  refine lv_aload_n hx hb dX3_look_6 rfl (lv_at hl 0 rfl) ?_
  refine k_mod S hK hP hinX30 2 (by decide) (S.2.2.2.2 _ (List.mem_cons_of_mem _ (List.mem_append_left _ (List.mem_of_getElem? (i := 1) rfl)))) dX3_look_7 rfl (.ref (E.2.2 15)) rfl rfl ?_
  refine lv_iload_n hx hb dX3_look_10 rfl (lv_at hl 1 rfl) ?_
  refine k_ald S hK hP 2 (by unfold kArr; omega) (by omega) dX3_look_11 ?_
  refine lv_aload_n hx hb dX3_look_12 rfl (lv_at hl 0 rfl) ?_
  refine k_mod S hK hP hinX30 1 (by decide) (S.2.2.2.2 _ (List.mem_cons_of_mem _ (List.mem_append_left _ (List.mem_of_getElem? (i := 0) rfl)))) dX3_look_13 rfl (.ref (E.2.2 12)) rfl rfl ?_
  refine lv_iload_n hx hb dX3_look_16 rfl (lv_at hl 1 rfl) ?_
  refine k_aald S hK hP (13 + h) 2 (by unfold kRow; omega) dX3_look_17 ?_
  refine lv_aload_n hx hb dX3_look_18 rfl (lv_at hl 0 rfl) ?_
  refine k_mod S hK hP hinX30 2 (by decide) (S.2.2.2.2 _ (List.mem_cons_of_mem _ (List.mem_append_left _ (List.mem_of_getElem? (i := 1) rfl)))) dX3_look_19 rfl (.ref (E.2.2 15)) rfl rfl ?_
  refine lv_iload_n hx hb dX3_look_22 rfl (lv_at hl 1 rfl) ?_
  refine k_ald S hK hP 2 (by unfold kArr; omega) (by omega) dX3_look_23 ?_
  refine lv_aload_n hx hb dX3_look_24 rfl (lv_at hl 0 rfl) ?_
  refine k_mod S hK hP hinX30 5 (by decide) (S.2.2.2.2 _ (List.mem_cons_of_mem _ (List.mem_append_left _ (List.mem_of_getElem? (i := 2) rfl)))) dX3_look_25 rfl (.ref (E.2.2 17)) rfl rfl ?_
  refine k_callSV (As := [.ref (E.2.2 (13 + h)), .int (zI (M 15 h)), .ref (E.2.2 (13 + h)), .int (zI (M 15 h)), .ref (E.2.2 17)]) (rest := []) S hK hP hS (c_X3_compare l E hE M (13 + h) (M 15 h) (13 + h) (M 15 h) 17 (by omega) (by omega) (by omega) (by assumption) (by assumption)) (va_cwS 5 S.2.2.2.2 gX3_look_X3_compare rfl rfl rfl (by decide +kernel) ⟨Nat.le_of_ble_eq_true rfl, Nat.le_of_ble_eq_true rfl⟩) rfl hl.1 rfl (Nat.le_of_ble_eq_true rfl) dX3_look_28 ⟨Nat.le_of_ble_eq_true rfl, Nat.le_of_ble_eq_true rfl⟩ (fun M_28 H locs h_28 hP hS => ?_)
  refine ends _ _ M_28 _ _ dX3_look_31 hP hS ?_
  obtain ⟨q1, q2⟩ := h_28
  have q3 : kF 18 58 M M_28 := kF_mono q1 (by omega)
  refine ⟨q3, fun a b a1 a2 b1 b2 => ?_⟩
  rw [q3 15 h (by omega)] at a2 b2 ⊢
  rw [kF_row q3 (c := 13 + h) (by omega)]
  exact q2 a b a1 a2 b1 b2
abbrev rX3_lookAtBoth : Room := { frames := 1, cells := 0, slots := 0, locals := 26 }
set_option maxHeartbeats 4000000 in
set_option maxRecDepth 100000 in
theorem c_X3_lookAtBoth (l : Launch) (E : kE) (hE : kInj E) (M : kM) (hW : kWm M) : kRV l yX3_lookAtBoth wsX3_lookAtBoth rX3_lookAtBoth E M [.ref (E.2.2 11)] (fun N => kF 61 101 M N ∧ kBoth N) := by
  refine kRV_of (cc := cX3_lookAtBoth) (maxL := 1) RX3 (by decide) rfl rfl (Nat.le_of_ble_eq_true rfl) ?_
  intro pg en s0 mi ar bl me co ls Q S hP hS hK ends hl
  have hx := S.1
  have hb := S.2.1
  have hinX30 : ∀ w ∈ wsX30, w ∈ wsX3_lookAtBoth := fun w h => List.mem_cons_of_mem _ (List.mem_append_right _ (h))
  have hl : lv_has ls 1 [(0, .ref (E.2.2 11))] := hl
  obtain ⟨hWh, hs0, hs1, hsv⟩ := id hW
  obtain ⟨hn0, hn1, hv⟩ := hWh 0 (by omega)
  obtain ⟨hm0, hm1, hw⟩ := hWh 1 (by omega)
  refine lv_aload_n hx hb dX3_lookAtBoth_0 rfl (lv_at hl 0 rfl) ?_
  refine k_mod S hK hP hinX30 1 (by decide) (S.2.2.2.2 _ (List.mem_cons_of_mem _ (List.mem_append_left _ (List.mem_of_getElem? (i := 0) rfl)))) dX3_lookAtBoth_1 rfl (.ref (E.2.2 12)) rfl rfl ?_
  refine k_push hx hb dX3_lookAtBoth_4 ?_
  refine k_aald S hK hP (13 + 0) 2 (by unfold kRow; omega) dX3_lookAtBoth_5 ?_
  refine lv_aload_n hx hb dX3_lookAtBoth_6 rfl (lv_at hl 0 rfl) ?_
  refine k_mod S hK hP hinX30 2 (by decide) (S.2.2.2.2 _ (List.mem_cons_of_mem _ (List.mem_append_left _ (List.mem_of_getElem? (i := 1) rfl)))) dX3_lookAtBoth_7 rfl (.ref (E.2.2 15)) rfl rfl ?_
  refine k_push hx hb dX3_lookAtBoth_10 ?_
  refine k_ald S hK hP 2 (by unfold kArr; omega) (by omega) dX3_lookAtBoth_11 ?_
  refine lv_aload_n hx hb dX3_lookAtBoth_12 rfl (lv_at hl 0 rfl) ?_
  refine k_mod S hK hP hinX30 1 (by decide) (S.2.2.2.2 _ (List.mem_cons_of_mem _ (List.mem_append_left _ (List.mem_of_getElem? (i := 0) rfl)))) dX3_lookAtBoth_13 rfl (.ref (E.2.2 12)) rfl rfl ?_
  refine k_push hx hb dX3_lookAtBoth_16 ?_
  refine k_aald S hK hP (13 + 1) 2 (by unfold kRow; omega) dX3_lookAtBoth_17 ?_
  refine lv_aload_n hx hb dX3_lookAtBoth_18 rfl (lv_at hl 0 rfl) ?_
  refine k_mod S hK hP hinX30 2 (by decide) (S.2.2.2.2 _ (List.mem_cons_of_mem _ (List.mem_append_left _ (List.mem_of_getElem? (i := 1) rfl)))) dX3_lookAtBoth_19 rfl (.ref (E.2.2 15)) rfl rfl ?_
  refine k_push hx hb dX3_lookAtBoth_22 ?_
  refine k_ald S hK hP 2 (by unfold kArr; omega) (by omega) dX3_lookAtBoth_23 ?_
  refine lv_aload_n hx hb dX3_lookAtBoth_24 rfl (lv_at hl 0 rfl) ?_
  refine k_mod S hK hP hinX30 7 (by decide) (S.2.2.2.2 _ (List.mem_cons_of_mem _ (List.mem_append_left _ (List.mem_of_getElem? (i := 2) rfl)))) dX3_lookAtBoth_25 rfl (.ref (E.2.2 60)) rfl rfl ?_
  refine k_callSV (As := [.ref (E.2.2 (13 + 0)), .int (zI (M 15 0)), .ref (E.2.2 (13 + 1)), .int (zI (M 15 1)), .ref (E.2.2 60)]) (rest := []) S hK hP hS (c_X3_compare l E hE M (13 + 0) (M 15 0) (13 + 1) (M 15 1) 60 (by omega) (by omega) (by omega) (by assumption) (by assumption)) (va_cwS 5 S.2.2.2.2 gX3_lookAtBoth_X3_compare rfl rfl rfl (by decide +kernel) ⟨Nat.le_of_ble_eq_true rfl, Nat.le_of_ble_eq_true rfl⟩) rfl hl.1 rfl (Nat.le_of_ble_eq_true rfl) dX3_lookAtBoth_28 ⟨Nat.le_of_ble_eq_true rfl, Nat.le_of_ble_eq_true rfl⟩ (fun M_28 H locs h_28 hP hS => ?_)
  refine ends _ _ M_28 _ _ dX3_lookAtBoth_31 hP hS ?_
  obtain ⟨q1, q2⟩ := h_28
  have q3 : kF 61 101 M M_28 := kF_mono q1 (by omega)
  refine ⟨q3, fun a b a1 a2 b1 b2 => ?_⟩
  rw [q3 15 0 (by omega)] at a2 ⊢
  rw [q3 15 1 (by omega)] at b2 ⊢
  rw [kF_row q3 (c := 13) (by omega), kF_row q3 (c := 14) (by omega)]
  exact q2 a b a1 a2 b1 b2
abbrev rX3_order : Room := { frames := 3, cells := 0, slots := 0, locals := 74 }
set_option maxHeartbeats 4000000 in
set_option maxRecDepth 100000 in
theorem c_X3_order (l : Launch) (E : kE) (hE : kInj E) (M : kM) (h : Int) (hh : 0 ≤ h ∧ h < 2) (hW : kWm M) : kRV l yX3_order wsX3_order rX3_order E M [.ref (E.2.2 11), .int (zI h)] (fun N => kF 18 59 M N ∧ kSame N h ∧ kOrd (M (13 + h)) (M 15 h) (N 59)) := by
  refine kRV_of (cc := cX3_order) (maxL := 3) RX3 (by decide) rfl rfl (Nat.le_of_ble_eq_true rfl) ?_
  intro pg en s0 mi ar bl me co ls Q S hP hS hK ends hl
  have hx := S.1
  have hb := S.2.1
  have hinX30 : ∀ w ∈ wsX30, w ∈ wsX3_order := fun w h => List.mem_cons_of_mem _ (List.mem_append_right _ (h))
  have hl : lv_has ls 3 [(0, .ref (E.2.2 11)), (1, .int (zI h))] := hl
  obtain ⟨hWh, hs0, hs1, hsv⟩ := id hW
  obtain ⟨hn0, hn1, hv⟩ := hWh h hh
  refine lv_aload_n hx hb dX3_order_0 rfl (lv_at hl 0 rfl) ?_
  refine lv_iload_n hx hb dX3_order_1 rfl (lv_at hl 1 rfl) ?_
  refine k_callVV (As := [.int (zI h)]) (rest := []) S hK hP hS (c_X3_look l E hE M h (by omega) (by assumption)) (cwV 1 S.2.2.2.2 gX3_order_X3_look rfl rfl rfl (by decide +kernel) ⟨Nat.le_of_ble_eq_true rfl, Nat.le_of_ble_eq_true rfl⟩) (k_rY hK hP rfl) rfl hl.1 rfl (Nat.le_of_ble_eq_true rfl) dX3_order_2 ⟨Nat.le_of_ble_eq_true rfl, Nat.le_of_ble_eq_true rfl⟩ (fun M_2 H locs h_2 hP hS => ?_)
  obtain ⟨hF, hSm⟩ := h_2
  have hW2 : kWm M_2 := kWm_F hW hF (by omega)
  have eqn : M_2 15 h = M 15 h := hF 15 h (by omega)
  have eqx : M_2 (13 + h) = M (13 + h) := kF_row hF (by omega)
  refine k_push hx hb dX3_order_5 ?_
  refine lv_istore_n (lv' := [(2, .int (zI 0)), (0, .ref (E.2.2 11)), (1, .int (zI h))]) hx hb dX3_order_6 rfl hl (by decide) rfl (fun ls hl => ?_)
  have lp_7 : ∀ (n_7 : Nat) (a : Int) (N : kM) (H : Heap) (locs : List Loc), (0 ≤ a ∧ a ≤ M 15 h) → (kF 59 59 M_2 N) → (∀ b : Int, 0 ≤ b → b < a → N 59 (kRk (M (13 + h)) (M 15 h) b) = b) → (M 15 h - a < (n_7 : Int)) → va_P E.1 vwCl (kW E N) H → va_S (kA E s0.heap.size) s0.heap H locs → ∀ ls : Array Slot, lv_has ls 3 [(0, .ref (E.2.2 11)), (1, .int (zI h)), (2, .int (zI a))] → W pg l en rX3_order s0 mi ar bl me co H locs 0 0 Q (F0 mi 7 ls []) := by
    intro n_7
    induction n_7 with
    | zero => intro a N H locs h1 h2 h3 hm_7; exfalso; omega
    | succ n_7 ih_7 =>
      intro a N H locs h1 h2 h3 hm_7 hP hS ls hl
      have hn2 : N 15 h = M 15 h := by rw [h2 15 h (by omega)]; exact eqn
      have hx2 : N (13 + h) = M (13 + h) := by rw [kF_row h2 (by omega)]; exact eqx
      have hWN : kWm N := kWm_F hW2 h2 (by omega)
      have hSN : kSame N h := by
        intro a b a1 a2 b1 b2
        rw [hn2] at a2 b2 ⊢
        rw [hx2, h2 (18 + a) b (by omega)]
        have := hSm a b a1 (by omega) b1 (by omega)
        rw [eqn, eqx] at this
        exact this
      refine lv_iload_n hx hb dX3_order_7 rfl (lv_at hl 2 rfl) ?_
      refine lv_aload_n hx hb dX3_order_8 rfl (lv_at hl 0 rfl) ?_
      refine k_mod S hK hP hinX30 2 (by decide) (S.2.2.2.2 _ (List.mem_cons_of_mem _ (List.mem_append_left _ (List.mem_of_getElem? (i := 0) rfl)))) dX3_order_9 rfl (.ref (E.2.2 15)) rfl rfl ?_
      refine lv_iload_n hx hb dX3_order_12 rfl (lv_at hl 1 rfl) ?_
      refine k_ald S hK hP 2 (by unfold kArr; omega) (by omega) dX3_order_13 ?_
      refine k_ge (tgt := 35) hx hb dX3_order_14 (by decide) (by omega) (fun c_14 => ?_) (fun c_14 => ?_)
      · skip
        refine ends _ _ N _ _ dX3_order_35 hP hS ?_
        refine ⟨kF_trans (kF_mono hF (by omega)) (kF_mono h2 (by omega)), hSN, kOrd_rk (fun b q1 q2 => h3 b q1 (by omega))⟩
      · skip
        refine lv_aload_n hx hb dX3_order_17 rfl (lv_at hl 0 rfl) ?_
        refine k_mod S hK hP hinX30 6 (by decide) (S.2.2.2.2 _ (List.mem_cons_of_mem _ (List.mem_append_left _ (List.mem_of_getElem? (i := 1) rfl)))) dX3_order_18 rfl (.ref (E.2.2 59)) rfl rfl ?_
        refine lv_aload_n hx hb dX3_order_21 rfl (lv_at hl 0 rfl) ?_
        refine lv_iload_n hx hb dX3_order_22 rfl (lv_at hl 1 rfl) ?_
        refine lv_iload_n hx hb dX3_order_23 rfl (lv_at hl 2 rfl) ?_
        refine k_callV (As := [.int (zI h), .int (zI a)]) (rest := [.ref (E.2.2 59)]) S hK hP (c_X3_rankOf l E N h a (by omega) (by assumption) (by assumption) (by omega)) (cwV 2 S.2.2.2.2 gX3_order_X3_rankOf rfl rfl rfl (by decide +kernel) ⟨Nat.le_of_ble_eq_true rfl, Nat.le_of_ble_eq_true rfl⟩) (k_rY hK hP rfl) rfl hl.1 rfl (Nat.le_of_ble_eq_true rfl) dX3_order_24 ⟨Nat.le_of_ble_eq_true rfl, Nat.le_of_ble_eq_true rfl⟩ (fun z_24 h_24 => ?_)
        rw [hn2, hx2] at h_24
        refine lv_iload_n hx hb dX3_order_27 rfl (lv_at hl 2 rfl) ?_
        refine k_ast S hK hE hP hS 40 (by unfold kArr; omega) (by omega) dX3_order_28 (fun H locs hP hS => ?_)
        obtain ⟨M28, eM28⟩ : ∃ N9 : kM, N9 = kU N 59 z_24 a := ⟨_, rfl⟩
        rw [← eM28] at hP
        obtain ⟨v2_29, ev2_29⟩ : ∃ v : Int, v = a + 1 := ⟨_, rfl⟩
        refine k_incN (v := v2_29) (lv' := [(2, .int (zI v2_29)), (0, .ref (E.2.2 11)), (1, .int (zI h))]) hx hb dX3_order_29 hl (k := 2) rfl ev2_29 (by decide) rfl (fun ls hl => ?_)
        refine lv_goto (tgt := 7) hx hb dX3_order_32 (by decide) ?_
        refine ih_7 v2_29 M28 _ _ (by omega) ?_ ?_ (by omega) hP hS _ (lv_sub hl [1, 2, 0] rfl)
        · intro c k hc
          rw [eM28, kU_cell (by omega)]; exact h2 c k hc
        · intro b q1 q2
          rw [eM28]
          by_cases q : b = a
          · rw [q, h_24.1, kU_same]
          · rw [kU_place ?_]
            · exact h3 b q1 (by omega)
            · intro q3; rw [h_24.1] at q3; exact q (kRk_inj (n := M 15 h) (by omega) (by omega) q3)
  refine lp_7 ((M 15 h - 0).toNat + 1) 0 M_2 _ _ (by omega) (by exact kF_refl _ _ _) (by intro b q1 q2; exfalso; omega) (by omega) hP hS _ (lv_sub hl [1, 2, 0] rfl)
abbrev rX3_mostBefore : Room := { frames := 1, cells := 0, slots := 0, locals := 21 }
set_option maxHeartbeats 4000000 in
set_option maxRecDepth 100000 in
theorem c_X3_mostBefore (l : Launch) (E : kE) (M : kM) (p : Int) (hp : 0 ≤ p ∧ p ≤ 40) (hb2 : ∀ b : Int, 0 ≤ b → b < p → 0 ≤ M (18 + p) b ∧ M (18 + p) b ≤ 40) : kRO l yX3_mostBefore wsX3_mostBefore rX3_mostBefore E M [.ref (E.2.2 11), .int (zI p)] (fun z => z = kMaxF (M (18 + p)) p.toNat ∧ 0 ≤ z ∧ z ≤ 40) := by
  refine kRO_of (cc := cX3_mostBefore) (maxL := 4) (rt := .int) RX3 (by decide) rfl rfl (Nat.le_of_ble_eq_true rfl) k_nari ?_
  intro pg en s0 mi ar bl me co ls Q S hP hK ends hl
  have hx := S.1
  have hb := S.2.1
  have hinX30 : ∀ w ∈ wsX30, w ∈ wsX3_mostBefore := fun w h => List.mem_cons_of_mem _ (List.mem_append_right _ (h))
  have hl : lv_has ls 4 [(0, .ref (E.2.2 11)), (1, .int (zI p))] := hl
  refine k_push hx hb dX3_mostBefore_0 ?_
  refine lv_istore_n (lv' := [(2, .int (zI 0)), (0, .ref (E.2.2 11)), (1, .int (zI p))]) hx hb dX3_mostBefore_1 rfl hl (by decide) rfl (fun ls hl => ?_)
  refine k_push hx hb dX3_mostBefore_2 ?_
  refine lv_istore_n (lv' := [(3, .int (zI 0)), (2, .int (zI 0)), (0, .ref (E.2.2 11)), (1, .int (zI p))]) hx hb dX3_mostBefore_3 rfl hl (by decide) rfl (fun ls hl => ?_)
  have lp_4 : ∀ (n_4 : Nat) (k : Int) (b : Int), (0 ≤ b ∧ b ≤ p ∧ 0 ≤ k ∧ k ≤ 40) → (k = kMaxF (M (18 + p)) b.toNat) → (p - b < (n_4 : Int)) → ∀ ls : Array Slot, lv_has ls 4 [(0, .ref (E.2.2 11)), (1, .int (zI p)), (2, .int (zI k)), (3, .int (zI b))] → W pg l en rX3_mostBefore s0 mi ar bl me co s0.heap [] 0 0 Q (F0 mi 4 ls []) := by
    intro n_4
    induction n_4 with
    | zero => intro k b h1 h2 hm_4; exfalso; omega
    | succ n_4 ih_4 =>
      intro k b h1 h2 hm_4 ls hl
      refine lv_iload_n hx hb dX3_mostBefore_4 rfl (lv_at hl 3 rfl) ?_
      refine lv_iload_n hx hb dX3_mostBefore_5 rfl (lv_at hl 1 rfl) ?_
      refine k_ge (tgt := 28) hx hb dX3_mostBefore_6 (by decide) (by omega) (fun c_6 => ?_) (fun c_6 => ?_)
      · skip
        refine lv_iload_n hx hb dX3_mostBefore_28 rfl (lv_at hl 2 rfl) ?_
        refine ends _ _ (k) dX3_mostBefore_29 ?_
        refine ⟨?_, by omega, by omega⟩
        rw [h2, show b = p by omega]
      · skip
        refine lv_iload_n hx hb dX3_mostBefore_9 rfl (lv_at hl 2 rfl) ?_
        refine lv_aload_n hx hb dX3_mostBefore_10 rfl (lv_at hl 0 rfl) ?_
        refine k_mod S hK hP hinX30 5 (by decide) (S.2.2.2.2 _ (List.mem_cons_of_mem _ (List.mem_append_left _ (List.mem_of_getElem? (i := 0) rfl)))) dX3_mostBefore_11 rfl (.ref (E.2.2 17)) rfl rfl ?_
        refine lv_iload_n hx hb dX3_mostBefore_14 rfl (lv_at hl 1 rfl) ?_
        refine k_aald S hK hP (18 + p) 41 (by unfold kRow; omega) dX3_mostBefore_15 ?_
        refine lv_iload_n hx hb dX3_mostBefore_16 rfl (lv_at hl 3 rfl) ?_
        refine k_ald S hK hP 41 (by unfold kArr; omega) (by omega) dX3_mostBefore_17 ?_
        have q5 := hb2 b (by omega) (by omega)
        refine k_max S hl.1 (S.2.2.2.2 _ (List.mem_cons_of_mem _ (List.mem_append_left _ (List.mem_of_getElem? (i := 1) rfl)))) (S.2.2.2.2 _ (List.mem_cons_of_mem _ (List.mem_append_left _ (List.mem_of_getElem? (i := 2) rfl)))) (S.2.2.2.2 _ (List.mem_cons_of_mem _ (List.mem_append_left _ (List.mem_of_getElem? (i := 3) rfl)))) (S.2.2.2.2 _ (List.mem_cons_of_mem _ (List.mem_append_left _ (List.mem_of_getElem? (i := 4) rfl)))) ⟨Nat.le_of_ble_eq_true rfl, Nat.le_of_ble_eq_true rfl⟩ ⟨Nat.le_of_ble_eq_true rfl, Nat.le_of_ble_eq_true rfl⟩ (by omega) dX3_mostBefore_18 (fun z_18 h_18 => ?_)
        refine lv_istore_n (lv' := [(2, .int (zI z_18)), (0, .ref (E.2.2 11)), (1, .int (zI p)), (3, .int (zI b))]) hx hb dX3_mostBefore_21 rfl hl (by decide) rfl (fun ls hl => ?_)
        obtain ⟨v3_22, ev3_22⟩ : ∃ v : Int, v = b + 1 := ⟨_, rfl⟩
        refine k_incN (v := v3_22) (lv' := [(3, .int (zI v3_22)), (2, .int (zI z_18)), (0, .ref (E.2.2 11)), (1, .int (zI p))]) hx hb dX3_mostBefore_22 hl (k := 3) rfl ev3_22 (by decide) rfl (fun ls hl => ?_)
        refine lv_goto (tgt := 4) hx hb dX3_mostBefore_25 (by decide) ?_
        refine ih_4 z_18 v3_22 (by omega) ?_ (by omega) _ (lv_sub hl [2, 3, 1, 0] rfl)
        · subst ev3_22
          rw [kMaxF_step _ (by omega), ← h2]
          split <;> omega
  refine lp_4 ((p - 0).toNat + 1) 0 0 (by omega) (by rfl) (by omega) _ (lv_sub hl [2, 3, 1, 0] rfl)
abbrev rX3_mostAcross : Room := { frames := 1, cells := 0, slots := 0, locals := 21 }
set_option maxHeartbeats 4000000 in
set_option maxRecDepth 100000 in
theorem c_X3_mostAcross (l : Launch) (E : kE) (M : kM) (p : Int) (hW : kWm M) (hp : 0 ≤ p ∧ p ≤ 40) (hb2 : ∀ b : Int, 0 ≤ b → b < M 15 1 → 0 ≤ M (61 + p) b ∧ M (61 + p) b ≤ 40) : kRO l yX3_mostAcross wsX3_mostAcross rX3_mostAcross E M [.ref (E.2.2 11), .int (zI p)] (fun z => z = kMaxF (M (61 + p)) (M 15 1).toNat ∧ 0 ≤ z ∧ z ≤ 40) := by
  refine kRO_of (cc := cX3_mostAcross) (maxL := 4) (rt := .int) RX3 (by decide) rfl rfl (Nat.le_of_ble_eq_true rfl) k_nari ?_
  intro pg en s0 mi ar bl me co ls Q S hP hK ends hl
  have hx := S.1
  have hb := S.2.1
  have hinX30 : ∀ w ∈ wsX30, w ∈ wsX3_mostAcross := fun w h => List.mem_cons_of_mem _ (List.mem_append_right _ (h))
  have hl : lv_has ls 4 [(0, .ref (E.2.2 11)), (1, .int (zI p))] := hl
  obtain ⟨hWh, hs0, hs1, hsv⟩ := id hW
  obtain ⟨hn0, hn1, hv⟩ := hWh 1 (by omega)
  refine k_push hx hb dX3_mostAcross_0 ?_
  refine lv_istore_n (lv' := [(2, .int (zI 0)), (0, .ref (E.2.2 11)), (1, .int (zI p))]) hx hb dX3_mostAcross_1 rfl hl (by decide) rfl (fun ls hl => ?_)
  refine k_push hx hb dX3_mostAcross_2 ?_
  refine lv_istore_n (lv' := [(3, .int (zI 0)), (2, .int (zI 0)), (0, .ref (E.2.2 11)), (1, .int (zI p))]) hx hb dX3_mostAcross_3 rfl hl (by decide) rfl (fun ls hl => ?_)
  have lp_4 : ∀ (n_4 : Nat) (k : Int) (b : Int), (0 ≤ b ∧ b ≤ M 15 1 ∧ 0 ≤ k ∧ k ≤ 40) → (k = kMaxF (M (61 + p)) b.toNat) → (M 15 1 - b < (n_4 : Int)) → ∀ ls : Array Slot, lv_has ls 4 [(0, .ref (E.2.2 11)), (1, .int (zI p)), (2, .int (zI k)), (3, .int (zI b))] → W pg l en rX3_mostAcross s0 mi ar bl me co s0.heap [] 0 0 Q (F0 mi 4 ls []) := by
    intro n_4
    induction n_4 with
    | zero => intro k b h1 h2 hm_4; exfalso; omega
    | succ n_4 ih_4 =>
      intro k b h1 h2 hm_4 ls hl
      refine lv_iload_n hx hb dX3_mostAcross_4 rfl (lv_at hl 3 rfl) ?_
      refine lv_aload_n hx hb dX3_mostAcross_5 rfl (lv_at hl 0 rfl) ?_
      refine k_mod S hK hP hinX30 2 (by decide) (S.2.2.2.2 _ (List.mem_cons_of_mem _ (List.mem_append_left _ (List.mem_of_getElem? (i := 0) rfl)))) dX3_mostAcross_6 rfl (.ref (E.2.2 15)) rfl rfl ?_
      refine k_push hx hb dX3_mostAcross_9 ?_
      refine k_ald S hK hP 2 (by unfold kArr; omega) (by omega) dX3_mostAcross_10 ?_
      refine k_ge (tgt := 33) hx hb dX3_mostAcross_11 (by decide) (by omega) (fun c_11 => ?_) (fun c_11 => ?_)
      · skip
        refine lv_iload_n hx hb dX3_mostAcross_33 rfl (lv_at hl 2 rfl) ?_
        refine ends _ _ (k) dX3_mostAcross_34 ?_
        refine ⟨?_, by omega, by omega⟩
        rw [h2, show b = M 15 1 by omega]
      · skip
        refine lv_iload_n hx hb dX3_mostAcross_14 rfl (lv_at hl 2 rfl) ?_
        refine lv_aload_n hx hb dX3_mostAcross_15 rfl (lv_at hl 0 rfl) ?_
        refine k_mod S hK hP hinX30 7 (by decide) (S.2.2.2.2 _ (List.mem_cons_of_mem _ (List.mem_append_left _ (List.mem_of_getElem? (i := 1) rfl)))) dX3_mostAcross_16 rfl (.ref (E.2.2 60)) rfl rfl ?_
        refine lv_iload_n hx hb dX3_mostAcross_19 rfl (lv_at hl 1 rfl) ?_
        refine k_aald S hK hP (61 + p) 41 (by unfold kRow; omega) dX3_mostAcross_20 ?_
        refine lv_iload_n hx hb dX3_mostAcross_21 rfl (lv_at hl 3 rfl) ?_
        refine k_ald S hK hP 41 (by unfold kArr; omega) (by omega) dX3_mostAcross_22 ?_
        have q5 := hb2 b (by omega) (by omega)
        refine k_max S hl.1 (S.2.2.2.2 _ (List.mem_cons_of_mem _ (List.mem_append_left _ (List.mem_of_getElem? (i := 2) rfl)))) (S.2.2.2.2 _ (List.mem_cons_of_mem _ (List.mem_append_left _ (List.mem_of_getElem? (i := 3) rfl)))) (S.2.2.2.2 _ (List.mem_cons_of_mem _ (List.mem_append_left _ (List.mem_of_getElem? (i := 4) rfl)))) (S.2.2.2.2 _ (List.mem_cons_of_mem _ (List.mem_append_left _ (List.mem_of_getElem? (i := 5) rfl)))) ⟨Nat.le_of_ble_eq_true rfl, Nat.le_of_ble_eq_true rfl⟩ ⟨Nat.le_of_ble_eq_true rfl, Nat.le_of_ble_eq_true rfl⟩ (by omega) dX3_mostAcross_23 (fun z_23 h_23 => ?_)
        refine lv_istore_n (lv' := [(2, .int (zI z_23)), (0, .ref (E.2.2 11)), (1, .int (zI p)), (3, .int (zI b))]) hx hb dX3_mostAcross_26 rfl hl (by decide) rfl (fun ls hl => ?_)
        obtain ⟨v3_27, ev3_27⟩ : ∃ v : Int, v = b + 1 := ⟨_, rfl⟩
        refine k_incN (v := v3_27) (lv' := [(3, .int (zI v3_27)), (2, .int (zI z_23)), (0, .ref (E.2.2 11)), (1, .int (zI p))]) hx hb dX3_mostAcross_27 hl (k := 3) rfl ev3_27 (by decide) rfl (fun ls hl => ?_)
        refine lv_goto (tgt := 4) hx hb dX3_mostAcross_30 (by decide) ?_
        refine ih_4 z_23 v3_27 (by omega) ?_ (by omega) _ (lv_sub hl [2, 3, 1, 0] rfl)
        · subst ev3_27
          rw [kMaxF_step _ (by omega), ← h2]
          split <;> omega
  refine lp_4 ((M 15 1 - 0).toNat + 1) 0 0 (by omega) (by rfl) (by omega) _ (lv_sub hl [2, 3, 1, 0] rfl)
abbrev rX3_mostBeside : Room := { frames := 1, cells := 0, slots := 0, locals := 21 }
set_option maxHeartbeats 4000000 in
set_option maxRecDepth 100000 in
theorem c_X3_mostBeside (l : Launch) (E : kE) (M : kM) (h p : Int) (hh : 0 ≤ h ∧ h < 2) (hW : kWm M) (hp : 0 ≤ p ∧ p ≤ 40) (hb2 : ∀ b : Int, 0 ≤ b → b < M 15 h → 0 ≤ M (18 + p) b ∧ M (18 + p) b ≤ 40) : kRO l yX3_mostBeside wsX3_mostBeside rX3_mostBeside E M [.ref (E.2.2 11), .int (zI h), .int (zI p)] (fun z => z = kMaxF (fun b => if b = p then 0 else M (18 + p) b) (M 15 h).toNat ∧ 0 ≤ z ∧ z ≤ 40) := by
  refine kRO_of (cc := cX3_mostBeside) (maxL := 5) (rt := .int) RX3 (by decide) rfl rfl (Nat.le_of_ble_eq_true rfl) k_nari ?_
  intro pg en s0 mi ar bl me co ls Q S hP hK ends hl
  have hx := S.1
  have hb := S.2.1
  have hinX30 : ∀ w ∈ wsX30, w ∈ wsX3_mostBeside := fun w h => List.mem_cons_of_mem _ (List.mem_append_right _ (h))
  have hl : lv_has ls 5 [(0, .ref (E.2.2 11)), (1, .int (zI h)), (2, .int (zI p))] := hl
  obtain ⟨hWh, hs0, hs1, hsv⟩ := id hW
  obtain ⟨hn0, hn1, hv⟩ := hWh h hh
  refine k_push hx hb dX3_mostBeside_0 ?_
  refine lv_istore_n (lv' := [(3, .int (zI 0)), (0, .ref (E.2.2 11)), (1, .int (zI h)), (2, .int (zI p))]) hx hb dX3_mostBeside_1 rfl hl (by decide) rfl (fun ls hl => ?_)
  refine k_push hx hb dX3_mostBeside_2 ?_
  refine lv_istore (lv' := [(4, .int (zI 0)), (3, .int (zI 0)), (0, .ref (E.2.2 11)), (1, .int (zI h)), (2, .int (zI p))]) hx hb dX3_mostBeside_3 hl (by decide) rfl (fun ls hl => ?_)
  have lp_5 : ∀ (n_5 : Nat) (k : Int) (b : Int), (0 ≤ b ∧ b ≤ M 15 h ∧ 0 ≤ k ∧ k ≤ 40) → (k = kMaxF (fun b => if b = p then 0 else M (18 + p) b) b.toNat) → (M 15 h - b < (n_5 : Int)) → ∀ ls : Array Slot, lv_has ls 5 [(0, .ref (E.2.2 11)), (1, .int (zI h)), (2, .int (zI p)), (3, .int (zI k)), (4, .int (zI b))] → W pg l en rX3_mostBeside s0 mi ar bl me co s0.heap [] 0 0 Q (F0 mi 5 ls []) := by
    intro n_5
    induction n_5 with
    | zero => intro k b h1 h2 hm_5; exfalso; omega
    | succ n_5 ih_5 =>
      intro k b h1 h2 hm_5 ls hl
      refine lv_iload hx hb dX3_mostBeside_5 (lv_at hl 4 rfl) ?_
      refine lv_aload_n hx hb dX3_mostBeside_7 rfl (lv_at hl 0 rfl) ?_
      refine k_mod S hK hP hinX30 2 (by decide) (S.2.2.2.2 _ (List.mem_cons_of_mem _ (List.mem_append_left _ (List.mem_of_getElem? (i := 0) rfl)))) dX3_mostBeside_8 rfl (.ref (E.2.2 15)) rfl rfl ?_
      refine lv_iload_n hx hb dX3_mostBeside_11 rfl (lv_at hl 1 rfl) ?_
      refine k_ald S hK hP 2 (by unfold kArr; omega) (by omega) dX3_mostBeside_12 ?_
      refine k_ge (tgt := 42) hx hb dX3_mostBeside_13 (by decide) (by omega) (fun c_13 => ?_) (fun c_13 => ?_)
      · skip
        refine lv_iload_n hx hb dX3_mostBeside_42 rfl (lv_at hl 3 rfl) ?_
        refine ends _ _ (k) dX3_mostBeside_43 ?_
        refine ⟨?_, by omega, by omega⟩
        rw [h2, show b = M 15 h by omega]
      · skip
        refine lv_iload hx hb dX3_mostBeside_16 (lv_at hl 4 rfl) ?_
        refine lv_iload_n hx hb dX3_mostBeside_18 rfl (lv_at hl 2 rfl) ?_
        refine k_eq (tgt := 36) hx hb dX3_mostBeside_19 (by decide) (by omega) (fun c_19 => ?_) (fun c_19 => ?_)
        · skip
          obtain ⟨v4_36, ev4_36⟩ : ∃ v : Int, v = b + 1 := ⟨_, rfl⟩
          refine k_incN (v := v4_36) (lv' := [(4, .int (zI v4_36)), (0, .ref (E.2.2 11)), (1, .int (zI h)), (2, .int (zI p)), (3, .int (zI k))]) hx hb dX3_mostBeside_36 hl (k := 4) rfl ev4_36 (by decide) rfl (fun ls hl => ?_)
          refine lv_goto (tgt := 5) hx hb dX3_mostBeside_39 (by decide) ?_
          refine ih_5 k v4_36 (by omega) ?_ (by omega) _ (lv_sub hl [1, 2, 3, 4, 0] rfl)
          · subst ev4_36
            rw [kMaxF_step _ (by omega), ← h2]
            first | (rw [if_neg (by omega : ¬ b = p)]; split <;> omega) | (rw [if_pos (by omega : b = p)]; split <;> omega)
        · skip
          refine lv_iload_n hx hb dX3_mostBeside_22 rfl (lv_at hl 3 rfl) ?_
          refine lv_aload_n hx hb dX3_mostBeside_23 rfl (lv_at hl 0 rfl) ?_
          refine k_mod S hK hP hinX30 5 (by decide) (S.2.2.2.2 _ (List.mem_cons_of_mem _ (List.mem_append_left _ (List.mem_of_getElem? (i := 1) rfl)))) dX3_mostBeside_24 rfl (.ref (E.2.2 17)) rfl rfl ?_
          refine lv_iload_n hx hb dX3_mostBeside_27 rfl (lv_at hl 2 rfl) ?_
          refine k_aald S hK hP (18 + p) 41 (by unfold kRow; omega) dX3_mostBeside_28 ?_
          refine lv_iload hx hb dX3_mostBeside_29 (lv_at hl 4 rfl) ?_
          refine k_ald S hK hP 41 (by unfold kArr; omega) (by omega) dX3_mostBeside_31 ?_
          have q5 := hb2 b (by omega) (by omega)
          refine k_max S hl.1 (S.2.2.2.2 _ (List.mem_cons_of_mem _ (List.mem_append_left _ (List.mem_of_getElem? (i := 2) rfl)))) (S.2.2.2.2 _ (List.mem_cons_of_mem _ (List.mem_append_left _ (List.mem_of_getElem? (i := 3) rfl)))) (S.2.2.2.2 _ (List.mem_cons_of_mem _ (List.mem_append_left _ (List.mem_of_getElem? (i := 4) rfl)))) (S.2.2.2.2 _ (List.mem_cons_of_mem _ (List.mem_append_left _ (List.mem_of_getElem? (i := 5) rfl)))) ⟨Nat.le_of_ble_eq_true rfl, Nat.le_of_ble_eq_true rfl⟩ ⟨Nat.le_of_ble_eq_true rfl, Nat.le_of_ble_eq_true rfl⟩ (by omega) dX3_mostBeside_32 (fun z_32 h_32 => ?_)
          refine lv_istore_n (lv' := [(3, .int (zI z_32)), (0, .ref (E.2.2 11)), (1, .int (zI h)), (2, .int (zI p)), (4, .int (zI b))]) hx hb dX3_mostBeside_35 rfl hl (by decide) rfl (fun ls hl => ?_)
          obtain ⟨v4_36, ev4_36⟩ : ∃ v : Int, v = b + 1 := ⟨_, rfl⟩
          refine k_incN (v := v4_36) (lv' := [(4, .int (zI v4_36)), (3, .int (zI z_32)), (0, .ref (E.2.2 11)), (1, .int (zI h)), (2, .int (zI p))]) hx hb dX3_mostBeside_36 hl (k := 4) rfl ev4_36 (by decide) rfl (fun ls hl => ?_)
          refine lv_goto (tgt := 5) hx hb dX3_mostBeside_39 (by decide) ?_
          refine ih_5 z_32 v4_36 (by omega) ?_ (by omega) _ (lv_sub hl [2, 3, 4, 1, 0] rfl)
          · subst ev4_36
            rw [kMaxF_step _ (by omega), ← h2]
            first | (rw [if_neg (by omega : ¬ b = p)]; split <;> omega) | (rw [if_pos (by omega : b = p)]; split <;> omega)
  refine lp_5 ((M 15 h - 0).toNat + 1) 0 0 (by omega) (by rfl) (by omega) _ (lv_sub hl [2, 3, 4, 1, 0] rfl)
abbrev rX3_firstPlace : Room := { frames := 0, cells := 0, slots := 0, locals := 0 }
set_option maxHeartbeats 4000000 in
set_option maxRecDepth 100000 in
theorem c_X3_firstPlace (l : Launch) (E : kE) (M : kM) (p r : Int) (hp : 0 ≤ p ∧ p ≤ 40 ∧ r ≤ M (18 + p) p ∧ -100 ≤ r) (hb2 : ∀ a : Int, 0 ≤ a → a ≤ p → 0 ≤ M (18 + a) p ∧ M (18 + a) p ≤ 40) : kRO l yX3_firstPlace wsX3_firstPlace rX3_firstPlace E M [.ref (E.2.2 11), .int (zI p), .int (zI r)] (fun z => 0 ≤ z ∧ z ≤ p ∧ r ≤ M (18 + z) p ∧ ∀ a : Int, 0 ≤ a → a < z → M (18 + a) p < r) := by
  refine kRO_of (cc := cX3_firstPlace) (maxL := 4) (rt := .int) RX3 (by decide) rfl rfl (Nat.le_of_ble_eq_true rfl) k_nari ?_
  intro pg en s0 mi ar bl me co ls Q S hP hK ends hl
  have hx := S.1
  have hb := S.2.1
  have hinX30 : ∀ w ∈ wsX30, w ∈ wsX3_firstPlace := fun w h => List.mem_cons_of_mem _ (List.mem_append_right _ (h))
  have hl : lv_has ls 4 [(0, .ref (E.2.2 11)), (1, .int (zI p)), (2, .int (zI r))] := hl
  have q9 := hb2 p (by omega) (by omega)
  refine k_push hx hb dX3_firstPlace_0 ?_
  refine lv_istore_n (lv' := [(3, .int (zI 0)), (0, .ref (E.2.2 11)), (1, .int (zI p)), (2, .int (zI r))]) hx hb dX3_firstPlace_1 rfl hl (by decide) rfl (fun ls hl => ?_)
  have lp_2 : ∀ (n_2 : Nat) (a : Int), (0 ≤ a ∧ a ≤ p) → (∀ b : Int, 0 ≤ b → b < a → M (18 + b) p < r) → (p - a < (n_2 : Int)) → ∀ ls : Array Slot, lv_has ls 4 [(0, .ref (E.2.2 11)), (1, .int (zI p)), (2, .int (zI r)), (3, .int (zI a))] → W pg l en rX3_firstPlace s0 mi ar bl me co s0.heap [] 0 0 Q (F0 mi 2 ls []) := by
    intro n_2
    induction n_2 with
    | zero => intro a h1 h2 hm_2; exfalso; omega
    | succ n_2 ih_2 =>
      intro a h1 h2 hm_2 ls hl
      refine lv_aload_n hx hb dX3_firstPlace_2 rfl (lv_at hl 0 rfl) ?_
      refine k_mod S hK hP hinX30 5 (by decide) (S.2.2.2.2 _ (List.mem_cons_of_mem _ (List.mem_append_left _ (List.mem_of_getElem? (i := 0) rfl)))) dX3_firstPlace_3 rfl (.ref (E.2.2 17)) rfl rfl ?_
      refine lv_iload_n hx hb dX3_firstPlace_6 rfl (lv_at hl 3 rfl) ?_
      refine k_aald S hK hP (18 + a) 41 (by unfold kRow; omega) dX3_firstPlace_7 ?_
      refine lv_iload_n hx hb dX3_firstPlace_8 rfl (lv_at hl 1 rfl) ?_
      refine k_ald S hK hP 41 (by unfold kArr; omega) (by omega) dX3_firstPlace_9 ?_
      have q5 := hb2 a (by omega) (by omega)
      refine lv_iload_n hx hb dX3_firstPlace_10 rfl (lv_at hl 2 rfl) ?_
      refine k_ge (tgt := 20) hx hb dX3_firstPlace_11 (by decide) (by omega) (fun c_11 => ?_) (fun c_11 => ?_)
      · skip
        refine lv_iload_n hx hb dX3_firstPlace_20 rfl (lv_at hl 3 rfl) ?_
        refine ends _ _ (a) dX3_firstPlace_21 ?_
        exact ⟨by omega, by omega, by omega, h2⟩
      · skip
        obtain ⟨v3_14, ev3_14⟩ : ∃ v : Int, v = a + 1 := ⟨_, rfl⟩
        refine k_incN (v := v3_14) (lv' := [(3, .int (zI v3_14)), (0, .ref (E.2.2 11)), (1, .int (zI p)), (2, .int (zI r))]) hx hb dX3_firstPlace_14 hl (k := 3) rfl ev3_14 (by decide) rfl (fun ls hl => ?_)
        refine lv_goto (tgt := 2) hx hb dX3_firstPlace_17 (by decide) ?_
        refine ih_2 v3_14 ?_ ?_ (by omega) _ (lv_sub hl [1, 2, 3, 0] rfl)
        · by_cases q : a = p
          · rw [q] at c_11; omega
          · omega
        · intro b q1 q2
          by_cases q : b = a
          · rw [q]; exact c_11
          · exact h2 b q1 (by omega)
  refine lp_2 ((p - 0).toNat + 1) 0 (by omega) (by intro b q1 q2; exfalso; omega) (by omega) _ (lv_sub hl [1, 2, 3, 0] rfl)
abbrev rX3_placesOf : Room := { frames := 0, cells := 0, slots := 0, locals := 0 }
set_option maxHeartbeats 4000000 in
set_option maxRecDepth 100000 in
theorem c_X3_placesOf (l : Launch) (E : kE) (M : kM) (h p r : Int) (hh : 0 ≤ h ∧ h < 2) (hW : kWm M) (hp : 0 ≤ p ∧ p ≤ 40 ∧ 0 ≤ r ∧ r ≤ 40) (hb2 : ∀ b : Int, 0 ≤ b → b < M 15 h → 0 ≤ M (18 + b) p ∧ M (18 + b) p ≤ 40) : kRO l yX3_placesOf wsX3_placesOf rX3_placesOf E M [.ref (E.2.2 11), .int (zI h), .int (zI p), .int (zI r)] (fun z => z = kCnt (fun b => r ≤ M (18 + b) p) (M 15 h).toNat ∧ 0 ≤ z ∧ z ≤ 40) := by
  refine kRO_of (cc := cX3_placesOf) (maxL := 6) (rt := .int) RX3 (by decide) rfl rfl (Nat.le_of_ble_eq_true rfl) k_nari ?_
  intro pg en s0 mi ar bl me co ls Q S hP hK ends hl
  have hx := S.1
  have hb := S.2.1
  have hinX30 : ∀ w ∈ wsX30, w ∈ wsX3_placesOf := fun w h => List.mem_cons_of_mem _ (List.mem_append_right _ (h))
  have hl : lv_has ls 6 [(0, .ref (E.2.2 11)), (1, .int (zI h)), (2, .int (zI p)), (3, .int (zI r))] := hl
  obtain ⟨hWh, hs0, hs1, hsv⟩ := id hW
  obtain ⟨hn0, hn1, hv⟩ := hWh h hh
  refine k_push hx hb dX3_placesOf_0 ?_
  refine lv_istore (lv' := [(4, .int (zI 0)), (0, .ref (E.2.2 11)), (1, .int (zI h)), (2, .int (zI p)), (3, .int (zI r))]) hx hb dX3_placesOf_1 hl (by decide) rfl (fun ls hl => ?_)
  refine k_push hx hb dX3_placesOf_3 ?_
  refine lv_istore (lv' := [(5, .int (zI 0)), (4, .int (zI 0)), (0, .ref (E.2.2 11)), (1, .int (zI h)), (2, .int (zI p)), (3, .int (zI r))]) hx hb dX3_placesOf_4 hl (by decide) rfl (fun ls hl => ?_)
  have lp_6 : ∀ (n_6 : Nat) (c : Int) (b : Int), (0 ≤ b ∧ b ≤ M 15 h ∧ 0 ≤ c ∧ c ≤ b) → (c = kCnt (fun b => r ≤ M (18 + b) p) b.toNat) → (M 15 h - b < (n_6 : Int)) → ∀ ls : Array Slot, lv_has ls 6 [(0, .ref (E.2.2 11)), (1, .int (zI h)), (2, .int (zI p)), (3, .int (zI r)), (4, .int (zI c)), (5, .int (zI b))] → W pg l en rX3_placesOf s0 mi ar bl me co s0.heap [] 0 0 Q (F0 mi 6 ls []) := by
    intro n_6
    induction n_6 with
    | zero => intro c b h1 h2 hm_6; exfalso; omega
    | succ n_6 ih_6 =>
      intro c b h1 h2 hm_6 ls hl
      refine lv_iload hx hb dX3_placesOf_6 (lv_at hl 5 rfl) ?_
      refine lv_aload_n hx hb dX3_placesOf_8 rfl (lv_at hl 0 rfl) ?_
      refine k_mod S hK hP hinX30 2 (by decide) (S.2.2.2.2 _ (List.mem_cons_of_mem _ (List.mem_append_left _ (List.mem_of_getElem? (i := 0) rfl)))) dX3_placesOf_9 rfl (.ref (E.2.2 15)) rfl rfl ?_
      refine lv_iload_n hx hb dX3_placesOf_12 rfl (lv_at hl 1 rfl) ?_
      refine k_ald S hK hP 2 (by unfold kArr; omega) (by omega) dX3_placesOf_13 ?_
      refine k_ge (tgt := 46) hx hb dX3_placesOf_14 (by decide) (by omega) (fun c_14 => ?_) (fun c_14 => ?_)
      · skip
        refine lv_iload hx hb dX3_placesOf_46 (lv_at hl 4 rfl) ?_
        refine ends _ _ (c) dX3_placesOf_48 ?_
        refine ⟨?_, by omega, by omega⟩
        rw [h2, show b = M 15 h by omega]
      · skip
        refine lv_iload hx hb dX3_placesOf_17 (lv_at hl 4 rfl) ?_
        refine lv_aload_n hx hb dX3_placesOf_19 rfl (lv_at hl 0 rfl) ?_
        refine k_mod S hK hP hinX30 5 (by decide) (S.2.2.2.2 _ (List.mem_cons_of_mem _ (List.mem_append_left _ (List.mem_of_getElem? (i := 1) rfl)))) dX3_placesOf_20 rfl (.ref (E.2.2 17)) rfl rfl ?_
        refine lv_iload hx hb dX3_placesOf_23 (lv_at hl 5 rfl) ?_
        refine k_aald S hK hP (18 + b) 41 (by unfold kRow; omega) dX3_placesOf_25 ?_
        refine lv_iload_n hx hb dX3_placesOf_26 rfl (lv_at hl 2 rfl) ?_
        refine k_ald S hK hP 41 (by unfold kArr; omega) (by omega) dX3_placesOf_27 ?_
        have q5 := hb2 b (by omega) (by omega)
        refine lv_iload_n hx hb dX3_placesOf_28 rfl (lv_at hl 3 rfl) ?_
        refine k_lt (tgt := 36) hx hb dX3_placesOf_29 (by decide) (by omega) (fun c_29 => ?_) (fun c_29 => ?_)
        · skip
          refine k_push hx hb dX3_placesOf_36 ?_
          refine k_add hx hb dX3_placesOf_37 ?_
          refine k_nm (fun v4_38 ev4_38 => ?_)
          refine lv_istore (lv' := [(4, .int (zI v4_38)), (0, .ref (E.2.2 11)), (1, .int (zI h)), (2, .int (zI p)), (3, .int (zI r)), (5, .int (zI b))]) hx hb dX3_placesOf_38 hl (by decide) rfl (fun ls hl => ?_)
          obtain ⟨v5_40, ev5_40⟩ : ∃ v : Int, v = b + 1 := ⟨_, rfl⟩
          refine k_incN (v := v5_40) (lv' := [(5, .int (zI v5_40)), (4, .int (zI v4_38)), (0, .ref (E.2.2 11)), (1, .int (zI h)), (2, .int (zI p)), (3, .int (zI r))]) hx hb dX3_placesOf_40 hl (k := 5) rfl ev5_40 (by decide) rfl (fun ls hl => ?_)
          refine lv_goto (tgt := 6) hx hb dX3_placesOf_43 (by decide) ?_
          refine ih_6 v4_38 v5_40 (by omega) ?_ (by omega) _ (lv_sub hl [2, 3, 4, 5, 1, 0] rfl)
          · subst ev5_40
            first
              | (rw [ev4_38, kCnt_t _ (k := b) (by omega) c_29, ← h2])
              | (rw [ev4_38, kCnt_f _ (k := b) (by omega) (by omega), ← h2]; omega)
        · skip
          refine k_push hx hb dX3_placesOf_32 ?_
          refine lv_goto (tgt := 37) hx hb dX3_placesOf_33 (by decide) ?_
          refine k_add hx hb dX3_placesOf_37 ?_
          refine k_nm (fun v4_38 ev4_38 => ?_)
          refine lv_istore (lv' := [(4, .int (zI v4_38)), (0, .ref (E.2.2 11)), (1, .int (zI h)), (2, .int (zI p)), (3, .int (zI r)), (5, .int (zI b))]) hx hb dX3_placesOf_38 hl (by decide) rfl (fun ls hl => ?_)
          obtain ⟨v5_40, ev5_40⟩ : ∃ v : Int, v = b + 1 := ⟨_, rfl⟩
          refine k_incN (v := v5_40) (lv' := [(5, .int (zI v5_40)), (4, .int (zI v4_38)), (0, .ref (E.2.2 11)), (1, .int (zI h)), (2, .int (zI p)), (3, .int (zI r))]) hx hb dX3_placesOf_40 hl (k := 5) rfl ev5_40 (by decide) rfl (fun ls hl => ?_)
          refine lv_goto (tgt := 6) hx hb dX3_placesOf_43 (by decide) ?_
          refine ih_6 v4_38 v5_40 (by omega) ?_ (by omega) _ (lv_sub hl [2, 3, 4, 5, 1, 0] rfl)
          · subst ev5_40
            first
              | (rw [ev4_38, kCnt_t _ (k := b) (by omega) c_29, ← h2])
              | (rw [ev4_38, kCnt_f _ (k := b) (by omega) (by omega), ← h2]; omega)
  refine lp_6 ((M 15 h - 0).toNat + 1) 0 0 (by omega) (by rfl) (by omega) _ (lv_sub hl [2, 3, 4, 5, 1, 0] rfl)
