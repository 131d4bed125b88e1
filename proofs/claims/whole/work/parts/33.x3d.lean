abbrev rX3_digest : Room := { frames := 4, cells := 0, slots := 0, locals := 96 }
set_option maxHeartbeats 4000000 in
set_option maxRecDepth 100000 in
theorem c_X3_digest (l : Launch) (E : kE) (hE : kInj E) (M : kM) (hW : kWm M) : kRWl l yX3_digest wsX3_digest rX3_digest E M [.ref (E.2.2 11)] (fun z N => kFm M N ∧ N 11 0 = 0 ∧ z = kDig (M 13) (M 15 0) (M 14) (M 15 1) (M 16) (M 11 4)) := by
  refine kRWl_of (cc := cX3_digest) (maxL := 5) RX3 (by decide) rfl rfl (Nat.le_of_ble_eq_true rfl) ?_
  intro pg en s0 mi ar bl me co ls Q S hP hS hK ends hl
  have hx := S.1
  have hb := S.2.1
  have hinX30 : ∀ w ∈ wsX30, w ∈ wsX3_digest := fun w h => List.mem_cons_of_mem _ (List.mem_append_right _ (h))
  have hl : lv_has ls 5 [(0, .ref (E.2.2 11))] := hl
  obtain ⟨hWh, hs0, hs1, hsv⟩ := id hW
  refine lv_aload_n hx hb dX3_digest_0 rfl (lv_at hl 0 rfl) ?_
  refine k_push hx hb dX3_digest_1 ?_
  refine k_putmod S hK hE hP hS hinX30 0 (by decide) (S.2.2.2.2 _ (List.mem_cons_of_mem _ (List.mem_append_left _ (List.mem_append_left _ (List.mem_of_getElem? (i := 0) rfl))))) dX3_digest_2 rfl (fun H locs hP hS => ?_)
  obtain ⟨M2, eM2⟩ : ∃ N9 : kM, N9 = kU M 11 0 0 := ⟨_, rfl⟩
  have hP : va_P E.1 vwCl (kW E M2) H := by rw [eM2]; exact hP
  have t2 := kFm_trans (fun _ _ _ _ => rfl) (kFt_m (kFt_of eM2))
  have t0 : M2 11 0 = 0 := kFt_11 eM2
  refine k_ldc2 hx hb S.2.2.2.1 (S.2.2.2.2 _ (List.mem_cons_of_mem _ (List.mem_append_left _ (List.mem_append_left _ (List.mem_of_getElem? (i := 1) rfl))))) (n := 1483) (by decide) dX3_digest_5 ?_
  refine lv_lstore_n (lv' := [(1, .long (lI 1483)), (0, .ref (E.2.2 11))]) hx hb dX3_digest_8 rfl hl (by decide) rfl (fun ls hl => ?_)
  refine k_push hx hb dX3_digest_9 ?_
  refine lv_istore_n (lv' := [(3, .int (zI 0)), (1, .long (lI 1483)), (0, .ref (E.2.2 11))]) hx hb dX3_digest_10 rfl hl (by decide) rfl (fun ls hl => ?_)
  have lp_11 : ∀ (n_11 : Nat) (d : Int) (w : Int) (N : kM) (H : Heap) (locs : List Loc), (0 ≤ w ∧ w ≤ 6) → (kFm M N) → (N 11 0 = 0) → (d = kMix 1483 (fun w => kVal (kIsCount (M 13) (M 15 0) (M 14) (M 15 1) (M 11 4) w)) w.toNat) → (6 - w < (n_11 : Int)) → va_P E.1 vwCl (kW E N) H → va_S (kA E s0.heap.size) s0.heap H locs → ∀ ls : Array Slot, lv_has ls 5 [(0, .ref (E.2.2 11)), (1, .long (lI d)), (3, .int (zI w))] → W pg l en rX3_digest s0 mi ar bl me co H locs 0 0 Q (F0 mi 11 ls []) := by
    intro n_11
    induction n_11 with
    | zero => intro d w N H locs g1 g2 g3 g4 hm_11; exfalso; omega
    | succ n_11 ih_11 =>
      intro d w N H locs g1 g2 g3 g4 hm_11 hP hS ls hl
      have hWN : kWm N := kWm_m hW g2
      have e13 : N 13 = M 13 := kFm_row g2 (by omega)
      have e14 : N 14 = M 14 := kFm_row g2 (by omega)
      have e16 : N 16 = M 16 := kFm_row g2 (by omega)
      have e15 : ∀ k : Int, N 15 k = M 15 k := fun k => g2 15 k (by omega) (by omega)
      have e11 : N 11 4 = M 11 4 := g2 11 4 (by omega) (by omega)
      refine lv_iload_n hx hb dX3_digest_11 rfl (lv_at hl 2 rfl) ?_
      refine k_push hx hb dX3_digest_12 ?_
      refine k_gt (tgt := 35) hx hb dX3_digest_13 (by decide) (by omega) (fun c_13 => ?_) (fun c_13 => ?_)
      · skip
        refine k_push hx hb dX3_digest_35 ?_
        refine lv_istore_n (lv' := [(3, .int (zI 0)), (0, .ref (E.2.2 11)), (1, .long (lI d))]) hx hb dX3_digest_36 rfl hl (by decide) rfl (fun ls hl => ?_)
        have lp_37 : ∀ (n_37 : Nat) (d : Int) (h : Int) (N : kM) (H : Heap) (locs : List Loc), (0 ≤ h ∧ h ≤ 2) → (kFm M N) → (N 11 0 = 0) → (d = kDH (kMix 1483 (fun w => kVal (kIsCount (M 13) (M 15 0) (M 14) (M 15 1) (M 11 4) w)) 6) (M 13) (M 15 0) (M 14) (M 15 1) (M 16) (M 11 4) h) → (2 - h < (n_37 : Int)) → va_P E.1 vwCl (kW E N) H → va_S (kA E s0.heap.size) s0.heap H locs → ∀ ls : Array Slot, lv_has ls 5 [(0, .ref (E.2.2 11)), (1, .long (lI d)), (3, .int (zI h))] → W pg l en rX3_digest s0 mi ar bl me co H locs 0 0 Q (F0 mi 37 ls []) := by
          intro n_37
          induction n_37 with
          | zero => intro d h N H locs f1 g2 g3 g4 hm_37; exfalso; omega
          | succ n_37 ih_37 =>
            intro d h N H locs f1 g2 g3 g4 hm_37 hP hS ls hl
            have hWN : kWm N := kWm_m hW g2
            have e13 : N 13 = M 13 := kFm_row g2 (by omega)
            have e14 : N 14 = M 14 := kFm_row g2 (by omega)
            have e16 : N 16 = M 16 := kFm_row g2 (by omega)
            have e15 : ∀ k : Int, N 15 k = M 15 k := fun k => g2 15 k (by omega) (by omega)
            have e11 : N 11 4 = M 11 4 := g2 11 4 (by omega) (by omega)
            refine lv_iload_n hx hb dX3_digest_37 rfl (lv_at hl 2 rfl) ?_
            refine k_push hx hb dX3_digest_38 ?_
            refine k_ge (tgt := 190) hx hb dX3_digest_39 (by decide) (by omega) (fun c_39 => ?_) (fun c_39 => ?_)
            · skip
              have e15n := e15 0
              refine k_push hx hb dX3_digest_190 ?_
              refine lv_istore_n (lv' := [(3, .int (zI 0)), (0, .ref (E.2.2 11)), (1, .long (lI d))]) hx hb dX3_digest_191 rfl hl (by decide) rfl (fun ls hl => ?_)
              have lp_192 : ∀ (n_192 : Nat) (d4 : Int) (k : Int), (0 ≤ k ∧ k ≤ M 11 4) → (d4 = kMix d (M 16) k.toNat) → (M 11 4 - k < (n_192 : Int)) → ∀ ls : Array Slot, lv_has ls 5 [(0, .ref (E.2.2 11)), (1, .long (lI d4)), (3, .int (zI k))] → W pg l en rX3_digest s0 mi ar bl me co H locs 0 0 Q (F0 mi 192 ls []) := by
                intro n_192
                induction n_192 with
                | zero => intro d4 k k1 k2 hm_192; exfalso; omega
                | succ n_192 ih_192 =>
                  intro d4 k k1 k2 hm_192 ls hl
                  refine lv_iload_n hx hb dX3_digest_192 rfl (lv_at hl 2 rfl) ?_
                  refine lv_aload_n hx hb dX3_digest_193 rfl (lv_at hl 0 rfl) ?_
                  refine k_mod S hK hP hinX30 4 (by decide) (S.2.2.2.2 _ (List.mem_cons_of_mem _ (List.mem_append_left _ (List.mem_append_left _ (List.mem_of_getElem? (i := 6) rfl))))) dX3_digest_194 rfl (.int (zI (N 11 4))) rfl rfl ?_
                  refine k_ge (tgt := 220) hx hb dX3_digest_197 (by decide) (by omega) (fun c_197 => ?_) (fun c_197 => ?_)
                  · skip
                    refine k_push hx hb dX3_digest_220 ?_
                    refine lv_istore_n (lv' := [(3, .int (zI 0)), (0, .ref (E.2.2 11)), (1, .long (lI d4))]) hx hb dX3_digest_221 rfl hl (by decide) rfl (fun ls hl => ?_)
                    have lp_222 : ∀ (n_222 : Nat) (d5 : Int) (w : Int) (N5 : kM) (H : Heap) (locs : List Loc), (0 ≤ w ∧ w ≤ 3) → (kFm M N5) → (N5 11 0 = 0) → (d5 = kMix d4 (fun w => kVal (kIsSeam (M 13) (M 15 0) (M 14) (M 15 1) w)) w.toNat) → (3 - w < (n_222 : Int)) → va_P E.1 vwCl (kW E N5) H → va_S (kA E s0.heap.size) s0.heap H locs → ∀ ls : Array Slot, lv_has ls 5 [(0, .ref (E.2.2 11)), (1, .long (lI d5)), (3, .int (zI w))] → W pg l en rX3_digest s0 mi ar bl me co H locs 0 0 Q (F0 mi 222 ls []) := by
                      intro n_222
                      induction n_222 with
                      | zero => intro d5 w N5 H locs n1 n2 n3 n4 hm_222; exfalso; omega
                      | succ n_222 ih_222 =>
                        intro d5 w N5 H locs n1 n2 n3 n4 hm_222 hP hS ls hl
                        have hWN : kWm N5 := kWm_m hW n2
                        have e13 : N5 13 = M 13 := kFm_row n2 (by omega)
                        have e14 : N5 14 = M 14 := kFm_row n2 (by omega)
                        have e16 : N5 16 = M 16 := kFm_row n2 (by omega)
                        have e15 : ∀ k : Int, N5 15 k = M 15 k := fun k => n2 15 k (by omega) (by omega)
                        have e11 : N5 11 4 = M 11 4 := n2 11 4 (by omega) (by omega)
                        refine lv_iload_n hx hb dX3_digest_222 rfl (lv_at hl 2 rfl) ?_
                        refine k_push hx hb dX3_digest_223 ?_
                        refine k_gt (tgt := 246) hx hb dX3_digest_224 (by decide) (by omega) (fun c_224 => ?_) (fun c_224 => ?_)
                        · skip
                          refine lv_lload_n hx hb dX3_digest_246 rfl (lv_at hl 1 rfl) ?_
                          refine ends _ _ (d5) N5 _ _ dX3_digest_247 hP hS ?_
                          refine ⟨n2, n3, ?_⟩
                          rw [n4, k2, g4, show h = 2 by omega, show k = M 11 4 by omega, show w = 3 by omega]
                          rfl
                        · skip
                          refine lv_lload_n hx hb dX3_digest_227 rfl (lv_at hl 1 rfl) ?_
                          refine k_ldc2 hx hb S.2.2.2.1 (S.2.2.2.2 _ (List.mem_cons_of_mem _ (List.mem_append_left _ (List.mem_append_left _ (List.mem_of_getElem? (i := 2) rfl))))) (n := 31) (by decide) dX3_digest_228 ?_
                          refine k_lmul hx hb dX3_digest_231 ?_
                          refine lv_aload_n hx hb dX3_digest_232 rfl (lv_at hl 0 rfl) ?_
                          refine lv_iload_n hx hb dX3_digest_233 rfl (lv_at hl 2 rfl) ?_
                          refine k_callVW (As := [.int (zI w)]) (rest := [.long (lI (d5 * 31))]) S hK hP hS (c_X3_seamTold l E hE N5 w (by assumption) (by omega)) (cwV 1 S.2.2.2.2 gX3_digest_X3_seamTold rfl rfl rfl (by decide +kernel) ⟨Nat.le_of_ble_eq_true rfl, Nat.le_of_ble_eq_true rfl⟩) (k_rY hK hP rfl) rfl hl.1 rfl (Nat.le_of_ble_eq_true rfl) dX3_digest_234 ⟨Nat.le_of_ble_eq_true rfl, Nat.le_of_ble_eq_true rfl⟩ (fun z_234 M_234 H locs h_234 hP hS => ?_)
                          obtain ⟨s1, s2, s3⟩ := h_234
                          rw [e13, e14, e15, e15] at s2
                          have p234 := kVal_of s2 (fun _ _ => kIsSeam_one)
                          refine k_i2l hx hb dX3_digest_237 (by omega) ?_
                          refine k_ladd hx hb dX3_digest_238 ?_
                          refine k_nml (fun v1_239 ev1_239 => ?_)
                          refine lv_lstore_n (lv' := [(1, .long (lI v1_239)), (0, .ref (E.2.2 11)), (3, .int (zI w))]) hx hb dX3_digest_239 rfl hl (by decide) rfl (fun ls hl => ?_)
                          obtain ⟨v3_240, ev3_240⟩ : ∃ v : Int, v = w + 1 := ⟨_, rfl⟩
                          refine k_incN (v := v3_240) (lv' := [(3, .int (zI v3_240)), (1, .long (lI v1_239)), (0, .ref (E.2.2 11))]) hx hb dX3_digest_240 hl (k := 2) rfl ev3_240 (by decide) rfl (fun ls hl => ?_)
                          refine lv_goto (tgt := 222) hx hb dX3_digest_243 (by decide) ?_
                          refine ih_222 v1_239 v3_240 M_234 _ _ (by omega) (by exact kFm_trans n2 (kFm_F s1 (by omega))) (by rw [s1 11 0 (by omega)]; exact n3) ?_ (by omega) hP hS _ (lv_sub hl [2, 1, 0] rfl)
                          · subst ev3_240
                            rw [ev1_239, kMix_step _ _ (by omega), ← n4, p234]
                    refine lp_222 (((3 - 0 : Int)).toNat + 1) d4 0 N _ _ (by omega) (by exact g2) (by exact g3) (by rfl) (by omega) hP hS _ (lv_sub hl [1, 2, 0] rfl)
                  · skip
                    refine lv_lload_n hx hb dX3_digest_200 rfl (lv_at hl 1 rfl) ?_
                    refine k_ldc2 hx hb S.2.2.2.1 (S.2.2.2.2 _ (List.mem_cons_of_mem _ (List.mem_append_left _ (List.mem_append_left _ (List.mem_of_getElem? (i := 2) rfl))))) (n := 31) (by decide) dX3_digest_201 ?_
                    refine k_lmul hx hb dX3_digest_204 ?_
                    refine lv_aload_n hx hb dX3_digest_205 rfl (lv_at hl 0 rfl) ?_
                    refine k_mod S hK hP hinX30 3 (by decide) (S.2.2.2.2 _ (List.mem_cons_of_mem _ (List.mem_append_left _ (List.mem_append_left _ (List.mem_of_getElem? (i := 7) rfl))))) dX3_digest_206 rfl (.ref (E.2.2 16)) rfl rfl ?_
                    refine lv_iload_n hx hb dX3_digest_209 rfl (lv_at hl 2 rfl) ?_
                    refine k_ald S hK hP 12 (by unfold kArr; omega) (by omega) dX3_digest_210 ?_
                    have q210 := hsv k (by omega) (by omega)
                    have p210 : N 16 k = M 16 k := by rw [e16]
                    refine k_i2l hx hb dX3_digest_211 (by omega) ?_
                    refine k_ladd hx hb dX3_digest_212 ?_
                    refine k_nml (fun v1_213 ev1_213 => ?_)
                    refine lv_lstore_n (lv' := [(1, .long (lI v1_213)), (0, .ref (E.2.2 11)), (3, .int (zI k))]) hx hb dX3_digest_213 rfl hl (by decide) rfl (fun ls hl => ?_)
                    obtain ⟨v3_214, ev3_214⟩ : ∃ v : Int, v = k + 1 := ⟨_, rfl⟩
                    refine k_incN (v := v3_214) (lv' := [(3, .int (zI v3_214)), (1, .long (lI v1_213)), (0, .ref (E.2.2 11))]) hx hb dX3_digest_214 hl (k := 2) rfl ev3_214 (by decide) rfl (fun ls hl => ?_)
                    refine lv_goto (tgt := 192) hx hb dX3_digest_217 (by decide) ?_
                    refine ih_192 v1_213 v3_214 (by omega) ?_ (by omega) _ (lv_sub hl [2, 1, 0] rfl)
                    · subst ev3_214
                      rw [ev1_213, kMix_step _ _ (by omega), ← k2, e16]
              refine lp_192 (((M 11 4 - 0 : Int)).toNat + 1) d 0 (by omega) (by rfl) (by omega) _ (lv_sub hl [1, 2, 0] rfl)
            · skip
              obtain ⟨hn0, hn1, hv⟩ := hWh h (by omega)
              have eh : N (13 + h) = M (13 + h) := kFm_row g2 (by omega)
              have eN15 := e15 h
              refine k_push hx hb dX3_digest_42 ?_
              refine lv_istore (lv' := [(4, .int (zI 0)), (0, .ref (E.2.2 11)), (1, .long (lI d)), (3, .int (zI h))]) hx hb dX3_digest_43 hl (by decide) rfl (fun ls hl => ?_)
              have lp_45 : ∀ (n_45 : Nat) (d1 : Int) (k : Int), (0 ≤ k ∧ k ≤ M 15 h) → (d1 = kMix d (M (13 + h)) k.toNat) → (M 15 h - k < (n_45 : Int)) → ∀ ls : Array Slot, lv_has ls 5 [(0, .ref (E.2.2 11)), (1, .long (lI d1)), (3, .int (zI h)), (4, .int (zI k))] → W pg l en rX3_digest s0 mi ar bl me co H locs 0 0 Q (F0 mi 45 ls []) := by
                intro n_45
                induction n_45 with
                | zero => intro d1 k k1 k2 hm_45; exfalso; omega
                | succ n_45 ih_45 =>
                  intro d1 k k1 k2 hm_45 ls hl
                  refine lv_iload hx hb dX3_digest_45 (lv_at hl 3 rfl) ?_
                  refine lv_aload_n hx hb dX3_digest_47 rfl (lv_at hl 0 rfl) ?_
                  refine k_mod S hK hP hinX30 2 (by decide) (S.2.2.2.2 _ (List.mem_cons_of_mem _ (List.mem_append_left _ (List.mem_append_left _ (List.mem_of_getElem? (i := 3) rfl))))) dX3_digest_48 rfl (.ref (E.2.2 15)) rfl rfl ?_
                  refine lv_iload_n hx hb dX3_digest_51 rfl (lv_at hl 2 rfl) ?_
                  refine k_ald S hK hP 2 (by unfold kArr; omega) (by omega) dX3_digest_52 ?_
                  refine k_ge (tgt := 79) hx hb dX3_digest_53 (by decide) (by omega) (fun c_53 => ?_) (fun c_53 => ?_)
                  · skip
                    refine lv_aload_n hx hb dX3_digest_79 rfl (lv_at hl 0 rfl) ?_
                    refine lv_iload_n hx hb dX3_digest_80 rfl (lv_at hl 2 rfl) ?_
                    refine k_callVV (As := [.int (zI h)]) (rest := []) S hK hP hS (c_X3_order l E hE N h (by omega) (by assumption)) (cwV 1 S.2.2.2.2 gX3_digest_X3_order rfl rfl rfl (by decide +kernel) ⟨Nat.le_of_ble_eq_true rfl, Nat.le_of_ble_eq_true rfl⟩) (k_rY hK hP rfl) rfl hl.1 rfl (Nat.le_of_ble_eq_true rfl) dX3_digest_81 ⟨Nat.le_of_ble_eq_true rfl, Nat.le_of_ble_eq_true rfl⟩ (fun M_81 H locs h_81 hP hS => ?_)
                    obtain ⟨o1, o2, o3⟩ := h_81
                    rw [e15 h, eh] at o3
                    have hF1 : kFm M M_81 := kFm_trans g2 (kFm_F o1 (by omega))
                    have e81 : M_81 15 h = M 15 h := hF1 15 h (by omega) (by omega)
                    refine k_push hx hb dX3_digest_84 ?_
                    refine lv_istore (lv' := [(4, .int (zI 0)), (0, .ref (E.2.2 11)), (1, .long (lI d1)), (3, .int (zI h))]) hx hb dX3_digest_85 hl (by decide) rfl (fun ls hl => ?_)
                    have lp_87 : ∀ (n_87 : Nat) (d2 : Int) (j : Int), (0 ≤ j ∧ j ≤ M 15 h) → (d2 = kMix d1 (fun r => kVal (kIsEnd (M (13 + h)) (M 15 h) r)) j.toNat) → (M 15 h - j < (n_87 : Int)) → ∀ ls : Array Slot, lv_has ls 5 [(0, .ref (E.2.2 11)), (1, .long (lI d2)), (3, .int (zI h)), (4, .int (zI j))] → W pg l en rX3_digest s0 mi ar bl me co H locs 0 0 Q (F0 mi 87 ls []) := by
                      intro n_87
                      induction n_87 with
                      | zero => intro d2 j l1 l2 hm_87; exfalso; omega
                      | succ n_87 ih_87 =>
                        intro d2 j l1 l2 hm_87 ls hl
                        refine lv_iload hx hb dX3_digest_87 (lv_at hl 3 rfl) ?_
                        refine lv_aload_n hx hb dX3_digest_89 rfl (lv_at hl 0 rfl) ?_
                        refine k_mod S hK hP hinX30 2 (by decide) (S.2.2.2.2 _ (List.mem_cons_of_mem _ (List.mem_append_left _ (List.mem_append_left _ (List.mem_of_getElem? (i := 3) rfl))))) dX3_digest_90 rfl (.ref (E.2.2 15)) rfl rfl ?_
                        refine lv_iload_n hx hb dX3_digest_93 rfl (lv_at hl 2 rfl) ?_
                        refine k_ald S hK hP 2 (by unfold kArr; omega) (by omega) dX3_digest_94 ?_
                        refine k_ge (tgt := 119) hx hb dX3_digest_95 (by decide) (by omega) (fun c_95 => ?_) (fun c_95 => ?_)
                        · skip
                          refine k_push hx hb dX3_digest_119 ?_
                          refine lv_istore (lv' := [(4, .int (zI 0)), (0, .ref (E.2.2 11)), (1, .long (lI d2)), (3, .int (zI h))]) hx hb dX3_digest_120 hl (by decide) rfl (fun ls hl => ?_)
                          have lp_122 : ∀ (n_122 : Nat) (d3 : Int) (w : Int) (N3 : kM) (H : Heap) (locs : List Loc), (0 ≤ w ∧ w ≤ 3) → (kFm M N3) → (N3 11 0 = 0) → (d3 = kMix d2 (fun w => kVal (kIsRep (M (13 + h)) (M 15 h) w)) w.toNat) → (3 - w < (n_122 : Int)) → va_P E.1 vwCl (kW E N3) H → va_S (kA E s0.heap.size) s0.heap H locs → ∀ ls : Array Slot, lv_has ls 5 [(0, .ref (E.2.2 11)), (1, .long (lI d3)), (3, .int (zI h)), (4, .int (zI w))] → W pg l en rX3_digest s0 mi ar bl me co H locs 0 0 Q (F0 mi 122 ls []) := by
                            intro n_122
                            induction n_122 with
                            | zero => intro d3 w N3 H locs n1 n2 n3 n4 hm_122; exfalso; omega
                            | succ n_122 ih_122 =>
                              intro d3 w N3 H locs n1 n2 n3 n4 hm_122 hP hS ls hl
                              have hWN : kWm N3 := kWm_m hW n2
                              have e13 : N3 13 = M 13 := kFm_row n2 (by omega)
                              have e14 : N3 14 = M 14 := kFm_row n2 (by omega)
                              have e16 : N3 16 = M 16 := kFm_row n2 (by omega)
                              have e15 : ∀ k : Int, N3 15 k = M 15 k := fun k => n2 15 k (by omega) (by omega)
                              have e11 : N3 11 4 = M 11 4 := n2 11 4 (by omega) (by omega)
                              have eh : N3 (13 + h) = M (13 + h) := kFm_row n2 (by omega)
                              refine lv_iload hx hb dX3_digest_122 (lv_at hl 3 rfl) ?_
                              refine k_push hx hb dX3_digest_124 ?_
                              refine k_gt (tgt := 149) hx hb dX3_digest_125 (by decide) (by omega) (fun c_125 => ?_) (fun c_125 => ?_)
                              · skip
                                refine lv_lload_n hx hb dX3_digest_149 rfl (lv_at hl 1 rfl) ?_
                                refine k_ldc2 hx hb S.2.2.2.1 (S.2.2.2.2 _ (List.mem_cons_of_mem _ (List.mem_append_left _ (List.mem_append_left _ (List.mem_of_getElem? (i := 2) rfl))))) (n := 31) (by decide) dX3_digest_150 ?_
                                refine k_lmul hx hb dX3_digest_153 ?_
                                refine lv_aload_n hx hb dX3_digest_154 rfl (lv_at hl 0 rfl) ?_
                                refine lv_iload_n hx hb dX3_digest_155 rfl (lv_at hl 2 rfl) ?_
                                refine k_callV (As := [.int (zI h)]) (rest := [.long (lI (d3 * 31))]) S hK hP (c_X3_periodOf l E N3 h (by omega) (by assumption)) (cwV 1 S.2.2.2.2 gX3_digest_X3_periodOf rfl rfl rfl (by decide +kernel) ⟨Nat.le_of_ble_eq_true rfl, Nat.le_of_ble_eq_true rfl⟩) (k_rY hK hP rfl) rfl hl.1 rfl (Nat.le_of_ble_eq_true rfl) dX3_digest_156 ⟨Nat.le_of_ble_eq_true rfl, Nat.le_of_ble_eq_true rfl⟩ (fun z_156 h_156 => ?_)
                                have p156 := h_156.1
                                rw [e15 h, eh] at p156
                                have u156 := kVal_of p156 (fun _ _ => kIsPer_one)
                                refine k_i2l hx hb dX3_digest_159 (by omega) ?_
                                refine k_ladd hx hb dX3_digest_160 ?_
                                refine k_ldc2 hx hb S.2.2.2.1 (S.2.2.2.2 _ (List.mem_cons_of_mem _ (List.mem_append_left _ (List.mem_append_left _ (List.mem_of_getElem? (i := 2) rfl))))) (n := 31) (by decide) dX3_digest_161 ?_
                                refine k_lmul hx hb dX3_digest_164 ?_
                                refine lv_aload_n hx hb dX3_digest_165 rfl (lv_at hl 0 rfl) ?_
                                refine lv_iload_n hx hb dX3_digest_166 rfl (lv_at hl 2 rfl) ?_
                                refine k_callV (As := [.int (zI h)]) (rest := [.long (lI (((d3 * 31) + z_156) * 31))]) S hK hP (c_X3_turnedOf l E N3 h (by omega) (by assumption)) (cwV 1 S.2.2.2.2 gX3_digest_X3_turnedOf rfl rfl rfl (by decide +kernel) ⟨Nat.le_of_ble_eq_true rfl, Nat.le_of_ble_eq_true rfl⟩) (k_rY hK hP rfl) rfl hl.1 rfl (Nat.le_of_ble_eq_true rfl) dX3_digest_167 ⟨Nat.le_of_ble_eq_true rfl, Nat.le_of_ble_eq_true rfl⟩ (fun z_167 h_167 => ?_)
                                have p167 := h_167.1
                                rw [e15 h, eh] at p167
                                have u167 := kVal_of p167 (fun _ _ => kIsTurn_one)
                                refine k_i2l hx hb dX3_digest_170 (by omega) ?_
                                refine k_ladd hx hb dX3_digest_171 ?_
                                refine k_ldc2 hx hb S.2.2.2.1 (S.2.2.2.2 _ (List.mem_cons_of_mem _ (List.mem_append_left _ (List.mem_append_left _ (List.mem_of_getElem? (i := 2) rfl))))) (n := 31) (by decide) dX3_digest_172 ?_
                                refine k_lmul hx hb dX3_digest_175 ?_
                                refine lv_aload_n hx hb dX3_digest_176 rfl (lv_at hl 0 rfl) ?_
                                refine lv_iload_n hx hb dX3_digest_177 rfl (lv_at hl 2 rfl) ?_
                                refine k_callV (As := [.int (zI h)]) (rest := [.long (lI (((((d3 * 31) + z_156) * 31) + z_167) * 31))]) S hK hP (c_X3_foundIn l E N3 h (by omega) (by assumption)) (cwV 1 S.2.2.2.2 gX3_digest_X3_foundIn rfl rfl rfl (by decide +kernel) ⟨Nat.le_of_ble_eq_true rfl, Nat.le_of_ble_eq_true rfl⟩) (k_rY hK hP rfl) rfl hl.1 rfl (Nat.le_of_ble_eq_true rfl) dX3_digest_178 ⟨Nat.le_of_ble_eq_true rfl, Nat.le_of_ble_eq_true rfl⟩ (fun z_178 h_178 => ?_)
                                have p178 := h_178.1
                                rw [e15 h, eh, e16, e11] at p178
                                refine k_i2l hx hb dX3_digest_181 (by omega) ?_
                                refine k_ladd hx hb dX3_digest_182 ?_
                                refine k_nml (fun v1_183 ev1_183 => ?_)
                                refine lv_lstore_n (lv' := [(1, .long (lI v1_183)), (0, .ref (E.2.2 11)), (3, .int (zI h)), (4, .int (zI w))]) hx hb dX3_digest_183 rfl hl (by decide) rfl (fun ls hl => ?_)
                                obtain ⟨v3_184, ev3_184⟩ : ∃ v : Int, v = h + 1 := ⟨_, rfl⟩
                                refine k_incN (v := v3_184) (lv' := [(3, .int (zI v3_184)), (1, .long (lI v1_183)), (0, .ref (E.2.2 11)), (4, .int (zI w))]) hx hb dX3_digest_184 hl (k := 2) rfl ev3_184 (by decide) rfl (fun ls hl => ?_)
                                refine lv_goto (tgt := 37) hx hb dX3_digest_187 (by decide) ?_
                                refine ih_37 v1_183 v3_184 N3 _ _ (by omega) (by exact n2) (by exact n3) ?_ (by omega) hP hS _ (lv_sub hl [2, 1, 0] rfl)
                                · subst ev3_184
                                  rw [kDH_step (by omega), ← g4, ev1_183, n4, l2, k2, u156, u167, p178, show w = 3 by omega, show k = M 15 h by omega, show j = M 15 h by omega]; rfl
                              · skip
                                refine lv_lload_n hx hb dX3_digest_128 rfl (lv_at hl 1 rfl) ?_
                                refine k_ldc2 hx hb S.2.2.2.1 (S.2.2.2.2 _ (List.mem_cons_of_mem _ (List.mem_append_left _ (List.mem_append_left _ (List.mem_of_getElem? (i := 2) rfl))))) (n := 31) (by decide) dX3_digest_129 ?_
                                refine k_lmul hx hb dX3_digest_132 ?_
                                refine lv_aload_n hx hb dX3_digest_133 rfl (lv_at hl 0 rfl) ?_
                                refine lv_iload_n hx hb dX3_digest_134 rfl (lv_at hl 2 rfl) ?_
                                refine lv_iload hx hb dX3_digest_135 (lv_at hl 3 rfl) ?_
                                refine k_callVW (As := [.int (zI h), .int (zI w)]) (rest := [.long (lI (d3 * 31))]) S hK hP hS (c_X3_repeatTold l E hE N3 h w (by omega) (by assumption) (by omega)) (cwV 2 S.2.2.2.2 gX3_digest_X3_repeatTold rfl rfl rfl (by decide +kernel) ⟨Nat.le_of_ble_eq_true rfl, Nat.le_of_ble_eq_true rfl⟩) (k_rY hK hP rfl) rfl hl.1 rfl (Nat.le_of_ble_eq_true rfl) dX3_digest_137 ⟨Nat.le_of_ble_eq_true rfl, Nat.le_of_ble_eq_true rfl⟩ (fun z_137 M_137 H locs h_137 hP hS => ?_)
                                obtain ⟨r1, r2, r3⟩ := h_137
                                rw [e15 h, eh] at r2
                                have p137 := kVal_of r2 (fun _ _ => kIsRep_one)
                                refine k_i2l hx hb dX3_digest_140 (by omega) ?_
                                refine k_ladd hx hb dX3_digest_141 ?_
                                refine k_nml (fun v1_142 ev1_142 => ?_)
                                refine lv_lstore_n (lv' := [(1, .long (lI v1_142)), (0, .ref (E.2.2 11)), (3, .int (zI h)), (4, .int (zI w))]) hx hb dX3_digest_142 rfl hl (by decide) rfl (fun ls hl => ?_)
                                obtain ⟨v4_143, ev4_143⟩ : ∃ v : Int, v = w + 1 := ⟨_, rfl⟩
                                refine k_incN (v := v4_143) (lv' := [(4, .int (zI v4_143)), (1, .long (lI v1_142)), (0, .ref (E.2.2 11)), (3, .int (zI h))]) hx hb dX3_digest_143 hl (k := 3) rfl ev4_143 (by decide) rfl (fun ls hl => ?_)
                                refine lv_goto (tgt := 122) hx hb dX3_digest_146 (by decide) ?_
                                refine ih_122 v1_142 v4_143 M_137 _ _ (by omega) (by exact kFm_trans n2 (kFm_F r1 (by omega))) (by rw [r1 11 0 (by omega)]; exact n3) ?_ (by omega) hP hS _ (lv_sub hl [2, 1, 3, 0] rfl)
                                · subst ev4_143
                                  rw [ev1_142, kMix_step _ _ (by omega), ← n4, p137]
                          refine lp_122 (((3 - 0 : Int)).toNat + 1) d2 0 M_81 _ _ (by omega) (by exact hF1) (by rw [o1 11 0 (by omega)]; exact g3) (by rfl) (by omega) hP hS _ (lv_sub hl [1, 2, 3, 0] rfl)
                        · skip
                          refine lv_lload_n hx hb dX3_digest_98 rfl (lv_at hl 1 rfl) ?_
                          refine k_ldc2 hx hb S.2.2.2.1 (S.2.2.2.2 _ (List.mem_cons_of_mem _ (List.mem_append_left _ (List.mem_append_left _ (List.mem_of_getElem? (i := 2) rfl))))) (n := 31) (by decide) dX3_digest_99 ?_
                          refine k_lmul hx hb dX3_digest_102 ?_
                          refine lv_aload_n hx hb dX3_digest_103 rfl (lv_at hl 0 rfl) ?_
                          refine k_mod S hK hP hinX30 6 (by decide) (S.2.2.2.2 _ (List.mem_cons_of_mem _ (List.mem_append_left _ (List.mem_append_left _ (List.mem_of_getElem? (i := 5) rfl))))) dX3_digest_104 rfl (.ref (E.2.2 59)) rfl rfl ?_
                          refine lv_iload hx hb dX3_digest_107 (lv_at hl 3 rfl) ?_
                          refine k_ald S hK hP 40 (by unfold kArr; omega) (by omega) dX3_digest_109 ?_
                          have q109 := o3.1 j (by omega) (by omega)
                          have p109 : M_81 59 j = kVal (kIsEnd (M (13 + h)) (M 15 h) j) := kVal_of ⟨q109.1, q109.2, kOrd_at o3 (by omega)⟩ (fun _ _ => kIsEnd_one)
                          refine k_i2l hx hb dX3_digest_110 (by omega) ?_
                          refine k_ladd hx hb dX3_digest_111 ?_
                          refine k_nml (fun v1_112 ev1_112 => ?_)
                          refine lv_lstore_n (lv' := [(1, .long (lI v1_112)), (0, .ref (E.2.2 11)), (3, .int (zI h)), (4, .int (zI j))]) hx hb dX3_digest_112 rfl hl (by decide) rfl (fun ls hl => ?_)
                          obtain ⟨v4_113, ev4_113⟩ : ∃ v : Int, v = j + 1 := ⟨_, rfl⟩
                          refine k_incN (v := v4_113) (lv' := [(4, .int (zI v4_113)), (1, .long (lI v1_112)), (0, .ref (E.2.2 11)), (3, .int (zI h))]) hx hb dX3_digest_113 hl (k := 3) rfl ev4_113 (by decide) rfl (fun ls hl => ?_)
                          refine lv_goto (tgt := 87) hx hb dX3_digest_116 (by decide) ?_
                          refine ih_87 v1_112 v4_113 (by omega) ?_ (by omega) _ (lv_sub hl [2, 1, 3, 0] rfl)
                          · subst ev4_113
                            rw [ev1_112, kMix_step _ _ (by omega), ← l2, p109]
                    refine lp_87 (((M 15 h - 0 : Int)).toNat + 1) d1 0 (by omega) (by rfl) (by omega) _ (lv_sub hl [1, 2, 3, 0] rfl)
                  · skip
                    refine lv_lload_n hx hb dX3_digest_56 rfl (lv_at hl 1 rfl) ?_
                    refine k_ldc2 hx hb S.2.2.2.1 (S.2.2.2.2 _ (List.mem_cons_of_mem _ (List.mem_append_left _ (List.mem_append_left _ (List.mem_of_getElem? (i := 2) rfl))))) (n := 31) (by decide) dX3_digest_57 ?_
                    refine k_lmul hx hb dX3_digest_60 ?_
                    refine lv_aload_n hx hb dX3_digest_61 rfl (lv_at hl 0 rfl) ?_
                    refine k_mod S hK hP hinX30 1 (by decide) (S.2.2.2.2 _ (List.mem_cons_of_mem _ (List.mem_append_left _ (List.mem_append_left _ (List.mem_of_getElem? (i := 4) rfl))))) dX3_digest_62 rfl (.ref (E.2.2 12)) rfl rfl ?_
                    refine lv_iload_n hx hb dX3_digest_65 rfl (lv_at hl 2 rfl) ?_
                    refine k_aald S hK hP (13 + h) 2 (by unfold kRow; omega) dX3_digest_66 ?_
                    refine lv_iload hx hb dX3_digest_67 (lv_at hl 3 rfl) ?_
                    refine k_ald S hK hP 40 (by unfold kArr; omega) (by omega) dX3_digest_69 ?_
                    have q69 := hv k (by omega) (by omega)
                    have p69 : N (13 + h) k = M (13 + h) k := by rw [eh]
                    refine k_i2l hx hb dX3_digest_70 (by omega) ?_
                    refine k_ladd hx hb dX3_digest_71 ?_
                    refine k_nml (fun v1_72 ev1_72 => ?_)
                    refine lv_lstore_n (lv' := [(1, .long (lI v1_72)), (0, .ref (E.2.2 11)), (3, .int (zI h)), (4, .int (zI k))]) hx hb dX3_digest_72 rfl hl (by decide) rfl (fun ls hl => ?_)
                    obtain ⟨v4_73, ev4_73⟩ : ∃ v : Int, v = k + 1 := ⟨_, rfl⟩
                    refine k_incN (v := v4_73) (lv' := [(4, .int (zI v4_73)), (1, .long (lI v1_72)), (0, .ref (E.2.2 11)), (3, .int (zI h))]) hx hb dX3_digest_73 hl (k := 3) rfl ev4_73 (by decide) rfl (fun ls hl => ?_)
                    refine lv_goto (tgt := 45) hx hb dX3_digest_76 (by decide) ?_
                    refine ih_45 v1_72 v4_73 (by omega) ?_ (by omega) _ (lv_sub hl [2, 1, 3, 0] rfl)
                    · subst ev4_73
                      rw [ev1_72, kMix_step _ _ (by omega), ← k2, eh]
              refine lp_45 (((M 15 h - 0 : Int)).toNat + 1) d 0 (by omega) (by rfl) (by omega) _ (lv_sub hl [1, 2, 3, 0] rfl)
        refine lp_37 (((2 - 0 : Int)).toNat + 1) d 0 N _ _ (by omega) (by exact g2) (by exact g3) (by rw [g4, show w = 6 by omega]; rfl) (by omega) hP hS _ (lv_sub hl [1, 2, 0] rfl)
      · skip
        refine lv_lload_n hx hb dX3_digest_16 rfl (lv_at hl 1 rfl) ?_
        refine k_ldc2 hx hb S.2.2.2.1 (S.2.2.2.2 _ (List.mem_cons_of_mem _ (List.mem_append_left _ (List.mem_append_left _ (List.mem_of_getElem? (i := 2) rfl))))) (n := 31) (by decide) dX3_digest_17 ?_
        refine k_lmul hx hb dX3_digest_20 ?_
        refine lv_aload_n hx hb dX3_digest_21 rfl (lv_at hl 0 rfl) ?_
        refine lv_iload_n hx hb dX3_digest_22 rfl (lv_at hl 2 rfl) ?_
        refine k_callVW (As := [.int (zI w)]) (rest := [.long (lI (d * 31))]) S hK hP hS (c_X3_counted l E hE N w (by assumption) (by omega)) (cwV 1 S.2.2.2.2 gX3_digest_X3_counted rfl rfl rfl (by decide +kernel) ⟨Nat.le_of_ble_eq_true rfl, Nat.le_of_ble_eq_true rfl⟩) (k_rY hK hP rfl) rfl hl.1 rfl (Nat.le_of_ble_eq_true rfl) dX3_digest_23 ⟨Nat.le_of_ble_eq_true rfl, Nat.le_of_ble_eq_true rfl⟩ (fun z_23 M_23 H locs h_23 hP hS => ?_)
        obtain ⟨q1, q2, q3, q4⟩ := h_23
        rw [e13, e14, e15, e15, e11] at q3
        have q5 := kVal_of q3 (fun _ _ => kIsCount_one)
        refine k_i2l hx hb dX3_digest_26 (by omega) ?_
        refine k_ladd hx hb dX3_digest_27 ?_
        refine k_nml (fun v1_28 ev1_28 => ?_)
        refine lv_lstore_n (lv' := [(1, .long (lI v1_28)), (0, .ref (E.2.2 11)), (3, .int (zI w))]) hx hb dX3_digest_28 rfl hl (by decide) rfl (fun ls hl => ?_)
        obtain ⟨v3_29, ev3_29⟩ : ∃ v : Int, v = w + 1 := ⟨_, rfl⟩
        refine k_incN (v := v3_29) (lv' := [(3, .int (zI v3_29)), (1, .long (lI v1_28)), (0, .ref (E.2.2 11))]) hx hb dX3_digest_29 hl (k := 2) rfl ev3_29 (by decide) rfl (fun ls hl => ?_)
        refine lv_goto (tgt := 11) hx hb dX3_digest_32 (by decide) ?_
        refine ih_11 v1_28 v3_29 M_23 _ _ (by omega) (by exact kFm_trans g2 q1) (by rw [q2]; exact g3) ?_ (by omega) hP hS _ (lv_sub hl [2, 1, 0] rfl)
        · subst ev3_29
          rw [ev1_28, kMix_step _ _ (by omega), ← g4, q5]
  refine lp_11 (((6 - 0 : Int)).toNat + 1) 1483 0 M2 _ _ (by omega) (by exact t2) (by exact t0) (by rfl) (by omega) hP hS _ (lv_sub hl [2, 1, 0] rfl)
