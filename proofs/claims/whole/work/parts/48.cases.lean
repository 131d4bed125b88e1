theorem kWm_eq {M N : kM} (hW : kWm M) (h : ∀ c k : Int, 11 ≤ c → c < 17 → N c k = M c k) : kWm N := by
  obtain ⟨a1, a2, a3, a4⟩ := hW
  refine ⟨fun c hc => ?_, ?_, ?_, fun j j1 j2 => ?_⟩
  · rw [h 15 c (by omega) (by omega)]
    obtain ⟨b1, b2, b3⟩ := a1 c hc
    exact ⟨b1, b2, fun j j1 j2 => by rw [h (13 + c) j (by omega) (by omega)]; exact b3 j j1 j2⟩
  · rw [h 11 4 (by omega) (by omega)]; exact a2
  · rw [h 11 4 (by omega) (by omega)]; exact a3
  · rw [h 11 4 (by omega) (by omega)] at j2
    rw [h 16 j (by omega) (by omega)]; exact a4 j j1 j2
set_option maxHeartbeats 4000000 in
set_option maxRecDepth 100000 in
theorem lw_c_sew {pg : Program} {l : Launch} {en : Env} {s0 : State} {mi : MethodId} {ar : Array Value} {bl : List Frame} {me : Method} {co : Code} {H H0 : Heap} {locs : List Loc} {cells slots : Nat} {Q : State → Prop} {ls : Array Slot} {E : kE} {M : kM} {bs L : Nat} {xs : Nat → Int32} {i : Int} (hlst : l.stackTraces = false) (S : CallFix pg mi co cL_law 9 s0 ar wsL_law RL) (hE : kInj E) (hK : kK E s0) (hX : kXs s0) (hZ : kZ (kA E H0.size) s0 H0) (hScr : va_X bs L xs s0 H0) (hbl : bs < H0.size) (hbA : ¬ kA E H0.size bs) (hL : L ≤ 2048) (hI : kI M) (hP : va_P E.1 vwCl (kW E M) H) (hS : va_S (kA E H0.size) H0 H locs) (hi : 0 ≤ i ∧ i + 3 < (L : Int)) (hc : cells + 1 ≤ 601024 ∧ slots + 6 ≤ 7293034) (hl : lv_has ls 9 [(4, .int (zI i)), (3, .ref (E.2.2 102)), (2, .ref (E.2.2 11)), (1, .ref (E.2.2 10)), (0, .ref bs)])
    (next : ∀ (M1 : kM) (H1 : Heap) (locs1 : List Loc) (ls1 : Array Slot), kI M1 → va_P E.1 vwCl (kW E M1) H1 → va_S (kA E H0.size) H0 H1 locs1 → lv_has ls1 9 [(4, .int (zI i)), (3, .ref (E.2.2 102)), (2, .ref (E.2.2 11)), (1, .ref (E.2.2 10)), (0, .ref bs)] → W pg l en room_1 s0 mi ar bl me co H1 locs1 (cells + 1) (slots + 6) Q (F0 mi 1416 ls1 []))
    {h : Int} (e1 : kSc xs (i + 1) = h) {st : Int} (e2 : kSc xs (i + 2) = st) : W pg l en room_1 s0 mi ar bl me co H locs cells slots Q (F0 mi 140 ls []) := by
  have hx := S.1
  have hb := S.2.1
  have r1 : -2147483648 ≤ h ∧ h ≤ 2147483647 := by rw [← e1]; exact kSc_rng _ _
  have r2 : -2147483648 ≤ st ∧ st ≤ 2147483647 := by rw [← e2]; exact kSc_rng _ _
  have hO2 := kI_O hI
  have hW := hI.1
  have hm12 := hI.2.2.2.2
  obtain ⟨hs0, hs1, hsv⟩ := hW 2 (by omega)
  by_cases hh : 0 ≤ h ∧ h < 2
  · obtain ⟨hn0, hn1, hv0⟩ := hW h (by omega)
    have hcs : (st < 0 ∨ 8 < st) ∨ ((0 ≤ st ∧ st ≤ 8) ∧ M h 1 = 40) ∨ ((0 ≤ st ∧ st ≤ 8) ∧ M h 1 < 40) := by omega
    rcases hcs with hk | hk | hk
    · skip
      refine lv_aload_n hx hb dL_law_140 rfl (lv_at hl 3 rfl) ?_
      refine lv_aload_n hx hb dL_law_141 rfl (lv_at hl 4 rfl) ?_
      refine lv_iload hx hb dL_law_142 (lv_at hl 0 rfl) ?_
      refine k_push hx hb dL_law_144 ?_
      refine k_add hx hb dL_law_145 ?_
      refine k_sld S hScr hbl hbA hS (by omega) e1 dL_law_146 ?_
      refine lv_aload_n hx hb dL_law_147 rfl (lv_at hl 4 rfl) ?_
      refine lv_iload hx hb dL_law_148 (lv_at hl 0 rfl) ?_
      refine k_push hx hb dL_law_150 ?_
      refine k_add hx hb dL_law_151 ?_
      refine k_sld S hScr hbl hbA hS (by omega) e2 dL_law_152 ?_
      refine lv_aload_n hx hb dL_law_153 rfl (lv_at hl 1 rfl) ?_
      refine k_callHT (As := [.ref (E.2.2 10), .int (zI h), .int (zI st), .ref (E.2.2 102)]) (rest := []) S hK hX hZ hP hS (c_L_sew_b2 l E hlst M h st (by omega) hW (by omega) (by omega)) (vx_cwSW 4 S.2.2.2.2 gL_law_L_sew rfl rfl rfl (by decide +kernel) ⟨Nat.le_of_ble_eq_true rfl, Nat.le_of_ble_eq_true rfl⟩) rfl hl.1 rfl (Nat.le_of_ble_eq_true rfl) dL_law_154 ⟨hc.1, hc.2⟩ (fun H locs hP hS => ?_)
      refine lv_istore (lv' := [(5, .int (zI 2)), (4, .int (zI i)), (3, .ref (E.2.2 102)), (2, .ref (E.2.2 11)), (1, .ref (E.2.2 10)), (0, .ref bs)]) hx hb dL_law_157 hl (by decide) rfl (fun ls hl => ?_)
      have q13 : M (13 + h) = M (h + 3) := kI_13 hI hh
      have q15 : M 15 h = M h 1 := kI_15 hI hh
      have q4 : M 11 4 = M 2 1 := hI.2.2.2.1
      refine lv_aload_n hx hb dL_law_159 rfl (lv_at hl 3 rfl) ?_
      refine lv_aload_n hx hb dL_law_160 rfl (lv_at hl 5 rfl) ?_
      refine lv_iload hx hb dL_law_161 (lv_at hl 1 rfl) ?_
      refine k_push hx hb dL_law_163 ?_
      refine k_add hx hb dL_law_164 ?_
      refine k_sld S hScr hbl hbA hS (by omega) e1 dL_law_165 ?_
      refine lv_aload_n hx hb dL_law_166 rfl (lv_at hl 5 rfl) ?_
      refine lv_iload hx hb dL_law_167 (lv_at hl 1 rfl) ?_
      refine k_push hx hb dL_law_169 ?_
      refine k_add hx hb dL_law_170 ?_
      refine k_sld S hScr hbl hbA hS (by omega) e2 dL_law_171 ?_
      refine k_callVW (As := [.int (zI h), .int (zI st)]) (rest := []) S hK hP hS (c_X3_sew l E hE M h st (kI_wm hI) (by omega)) (cwV 2 S.2.2.2.2 gL_law_X3_sew rfl rfl rfl (by decide +kernel) ⟨Nat.le_of_ble_eq_true rfl, Nat.le_of_ble_eq_true rfl⟩) (k_rY hK hP rfl) rfl hl.1 rfl (Nat.le_of_ble_eq_true rfl) dL_law_172 ⟨hc.1, hc.2⟩ (fun z M2 H locs hz hP hS => ?_)
      refine lv_istore (lv' := [(6, .int (zI z)), (5, .int (zI 2)), (4, .int (zI i)), (3, .ref (E.2.2 102)), (2, .ref (E.2.2 11)), (1, .ref (E.2.2 10)), (0, .ref bs)]) hx hb dL_law_175 hl (by decide) rfl (fun ls hl => ?_)
      try simp only [q13, q15, q4] at hz
      have ht0 : M2 11 0 = 2 := by omega
      refine lv_aload_n hx hb dL_law_177 rfl (lv_at hl 4 rfl) ?_
      refine k_callV (As := []) (rest := []) S hK hP (c_X3_thrown l E M2) (cwV 0 S.2.2.2.2 gL_law_X3_thrown rfl rfl rfl (by decide +kernel) ⟨Nat.le_of_ble_eq_true rfl, Nat.le_of_ble_eq_true rfl⟩) (k_rY hK hP rfl) rfl hl.1 rfl (Nat.le_of_ble_eq_true rfl) dL_law_178 ⟨hc.1, hc.2⟩ (fun t ht => ?_)
      refine lv_iload hx hb dL_law_181 (lv_at hl 1 rfl) ?_
      refine k_eq (tgt := 188) hx hb dL_law_183 (by decide) (by omega) (fun _ => ?_) (fun q => absurd (ht.trans ht0) q)
      refine lv_iload hx hb dL_law_188 (lv_at hl 1 rfl) ?_
      refine k_ne0 (tgt := 205) hx hb dL_law_190 (by decide) (by omega) (fun _ => ?_) (fun q => absurd q (by decide))
      have hf : kFt M M2 := by
        rcases hz.1 with q | q | q | q <;> first | (exfalso; omega) | exact q.2.2 | exact q.2.2.2 | exact q.2.2.2.2 | exact q.2.2.2.2.2 | exact q.2.2.2.2.2.2
      refine lv_goto (tgt := 1416) hx hb dL_law_205 (by decide) ?_
      exact next _ _ _ _ (kI_m hI (kFt_m hf)) hP hS (lv_sub hl [2, 3, 4, 5, 6] rfl)
    · skip
      refine lv_aload_n hx hb dL_law_140 rfl (lv_at hl 3 rfl) ?_
      refine lv_aload_n hx hb dL_law_141 rfl (lv_at hl 4 rfl) ?_
      refine lv_iload hx hb dL_law_142 (lv_at hl 0 rfl) ?_
      refine k_push hx hb dL_law_144 ?_
      refine k_add hx hb dL_law_145 ?_
      refine k_sld S hScr hbl hbA hS (by omega) e1 dL_law_146 ?_
      refine lv_aload_n hx hb dL_law_147 rfl (lv_at hl 4 rfl) ?_
      refine lv_iload hx hb dL_law_148 (lv_at hl 0 rfl) ?_
      refine k_push hx hb dL_law_150 ?_
      refine k_add hx hb dL_law_151 ?_
      refine k_sld S hScr hbl hbA hS (by omega) e2 dL_law_152 ?_
      refine lv_aload_n hx hb dL_law_153 rfl (lv_at hl 1 rfl) ?_
      refine k_callHT (As := [.ref (E.2.2 10), .int (zI h), .int (zI st), .ref (E.2.2 102)]) (rest := []) S hK hX hZ hP hS (c_L_sew_b3 l E hlst M h st (by omega) hW (by omega) (by omega)) (vx_cwSW 4 S.2.2.2.2 gL_law_L_sew rfl rfl rfl (by decide +kernel) ⟨Nat.le_of_ble_eq_true rfl, Nat.le_of_ble_eq_true rfl⟩) rfl hl.1 rfl (Nat.le_of_ble_eq_true rfl) dL_law_154 ⟨hc.1, hc.2⟩ (fun H locs hP hS => ?_)
      refine lv_istore (lv' := [(5, .int (zI 3)), (4, .int (zI i)), (3, .ref (E.2.2 102)), (2, .ref (E.2.2 11)), (1, .ref (E.2.2 10)), (0, .ref bs)]) hx hb dL_law_157 hl (by decide) rfl (fun ls hl => ?_)
      have q13 : M (13 + h) = M (h + 3) := kI_13 hI hh
      have q15 : M 15 h = M h 1 := kI_15 hI hh
      have q4 : M 11 4 = M 2 1 := hI.2.2.2.1
      refine lv_aload_n hx hb dL_law_159 rfl (lv_at hl 3 rfl) ?_
      refine lv_aload_n hx hb dL_law_160 rfl (lv_at hl 5 rfl) ?_
      refine lv_iload hx hb dL_law_161 (lv_at hl 1 rfl) ?_
      refine k_push hx hb dL_law_163 ?_
      refine k_add hx hb dL_law_164 ?_
      refine k_sld S hScr hbl hbA hS (by omega) e1 dL_law_165 ?_
      refine lv_aload_n hx hb dL_law_166 rfl (lv_at hl 5 rfl) ?_
      refine lv_iload hx hb dL_law_167 (lv_at hl 1 rfl) ?_
      refine k_push hx hb dL_law_169 ?_
      refine k_add hx hb dL_law_170 ?_
      refine k_sld S hScr hbl hbA hS (by omega) e2 dL_law_171 ?_
      refine k_callVW (As := [.int (zI h), .int (zI st)]) (rest := []) S hK hP hS (c_X3_sew l E hE M h st (kI_wm hI) (by omega)) (cwV 2 S.2.2.2.2 gL_law_X3_sew rfl rfl rfl (by decide +kernel) ⟨Nat.le_of_ble_eq_true rfl, Nat.le_of_ble_eq_true rfl⟩) (k_rY hK hP rfl) rfl hl.1 rfl (Nat.le_of_ble_eq_true rfl) dL_law_172 ⟨hc.1, hc.2⟩ (fun z M2 H locs hz hP hS => ?_)
      refine lv_istore (lv' := [(6, .int (zI z)), (5, .int (zI 3)), (4, .int (zI i)), (3, .ref (E.2.2 102)), (2, .ref (E.2.2 11)), (1, .ref (E.2.2 10)), (0, .ref bs)]) hx hb dL_law_175 hl (by decide) rfl (fun ls hl => ?_)
      try simp only [q13, q15, q4] at hz
      have ht0 : M2 11 0 = 3 := by omega
      refine lv_aload_n hx hb dL_law_177 rfl (lv_at hl 4 rfl) ?_
      refine k_callV (As := []) (rest := []) S hK hP (c_X3_thrown l E M2) (cwV 0 S.2.2.2.2 gL_law_X3_thrown rfl rfl rfl (by decide +kernel) ⟨Nat.le_of_ble_eq_true rfl, Nat.le_of_ble_eq_true rfl⟩) (k_rY hK hP rfl) rfl hl.1 rfl (Nat.le_of_ble_eq_true rfl) dL_law_178 ⟨hc.1, hc.2⟩ (fun t ht => ?_)
      refine lv_iload hx hb dL_law_181 (lv_at hl 1 rfl) ?_
      refine k_eq (tgt := 188) hx hb dL_law_183 (by decide) (by omega) (fun _ => ?_) (fun q => absurd (ht.trans ht0) q)
      refine lv_iload hx hb dL_law_188 (lv_at hl 1 rfl) ?_
      refine k_ne0 (tgt := 205) hx hb dL_law_190 (by decide) (by omega) (fun _ => ?_) (fun q => absurd q (by decide))
      have hf : kFt M M2 := by
        rcases hz.1 with q | q | q | q <;> first | (exfalso; omega) | exact q.2.2 | exact q.2.2.2 | exact q.2.2.2.2 | exact q.2.2.2.2.2 | exact q.2.2.2.2.2.2
      refine lv_goto (tgt := 1416) hx hb dL_law_205 (by decide) ?_
      exact next _ _ _ _ (kI_m hI (kFt_m hf)) hP hS (lv_sub hl [2, 3, 4, 5, 6] rfl)
    · skip
      refine lv_aload_n hx hb dL_law_140 rfl (lv_at hl 3 rfl) ?_
      refine lv_aload_n hx hb dL_law_141 rfl (lv_at hl 4 rfl) ?_
      refine lv_iload hx hb dL_law_142 (lv_at hl 0 rfl) ?_
      refine k_push hx hb dL_law_144 ?_
      refine k_add hx hb dL_law_145 ?_
      refine k_sld S hScr hbl hbA hS (by omega) e1 dL_law_146 ?_
      refine lv_aload_n hx hb dL_law_147 rfl (lv_at hl 4 rfl) ?_
      refine lv_iload hx hb dL_law_148 (lv_at hl 0 rfl) ?_
      refine k_push hx hb dL_law_150 ?_
      refine k_add hx hb dL_law_151 ?_
      refine k_sld S hScr hbl hbA hS (by omega) e2 dL_law_152 ?_
      refine lv_aload_n hx hb dL_law_153 rfl (lv_at hl 1 rfl) ?_
      refine k_callHW (As := [.ref (E.2.2 10), .int (zI h), .int (zI st), .ref (E.2.2 102)]) (rest := []) S hK hP hS (c_L_sew l E hE M h st (by omega) hW (by omega) (by omega)) (vx_cwSW 4 S.2.2.2.2 gL_law_L_sew rfl rfl rfl (by decide +kernel) ⟨Nat.le_of_ble_eq_true rfl, Nat.le_of_ble_eq_true rfl⟩) rfl hl.1 rfl (Nat.le_of_ble_eq_true rfl) dL_law_154 ⟨Nat.le_trans (Nat.le_add_right cells 1) hc.1, Nat.le_trans (Nat.le_add_right slots 6) hc.2⟩ (fun z1 M1 H locs hLk hP hS => ?_)
      obtain ⟨rfl, v, N1, hv, eM1⟩ := hLk
      refine W.widen (k := cells + 1) (n := slots + 6) (by omega) (by omega) ?_
      refine lv_istore (lv' := [(5, .int (zI 0)), (4, .int (zI i)), (3, .ref (E.2.2 102)), (2, .ref (E.2.2 11)), (1, .ref (E.2.2 10)), (0, .ref bs)]) hx hb dL_law_157 hl (by decide) rfl (fun ls hl => ?_)
      have q15 : M1 15 h = M h 1 := by rw [eM1, kU_at, if_neg (by omega), hv.1 _ _ (by omega), kU_at, if_neg (by omega), kU_at, if_neg (by omega)]; exact kI_15 hI hh
      refine lv_aload_n hx hb dL_law_159 rfl (lv_at hl 3 rfl) ?_
      refine lv_aload_n hx hb dL_law_160 rfl (lv_at hl 5 rfl) ?_
      refine lv_iload hx hb dL_law_161 (lv_at hl 1 rfl) ?_
      refine k_push hx hb dL_law_163 ?_
      refine k_add hx hb dL_law_164 ?_
      refine k_sld S hScr hbl hbA hS (by omega) e1 dL_law_165 ?_
      refine lv_aload_n hx hb dL_law_166 rfl (lv_at hl 5 rfl) ?_
      refine lv_iload hx hb dL_law_167 (lv_at hl 1 rfl) ?_
      refine k_push hx hb dL_law_169 ?_
      refine k_add hx hb dL_law_170 ?_
      refine k_sld S hScr hbl hbA hS (by omega) e2 dL_law_171 ?_
      refine k_callVW (As := [.int (zI h), .int (zI st)]) (rest := []) S hK hP hS (c_X3_sew l E hE M1 h st (kWm_eq (kI_wm hI) (fun c9 k9 c91 c92 => by rw [eM1, kU_at, if_neg (by omega), hv.1 _ _ (by omega), kU_at, if_neg (by omega), kU_at, if_neg (by omega)])) (by omega)) (cwV 2 S.2.2.2.2 gL_law_X3_sew rfl rfl rfl (by decide +kernel) ⟨Nat.le_of_ble_eq_true rfl, Nat.le_of_ble_eq_true rfl⟩) (k_rY hK hP rfl) rfl hl.1 rfl (Nat.le_of_ble_eq_true rfl) dL_law_172 ⟨hc.1, hc.2⟩ (fun z M2 H locs hz hP hS => ?_)
      refine lv_istore (lv' := [(6, .int (zI z)), (5, .int (zI 0)), (4, .int (zI i)), (3, .ref (E.2.2 102)), (2, .ref (E.2.2 11)), (1, .ref (E.2.2 10)), (0, .ref bs)]) hx hb dL_law_175 hl (by decide) rfl (fun ls hl => ?_)
      have ht0 : M2 11 0 = 0 := by omega
      refine lv_aload_n hx hb dL_law_177 rfl (lv_at hl 4 rfl) ?_
      refine k_callV (As := []) (rest := []) S hK hP (c_X3_thrown l E M2) (cwV 0 S.2.2.2.2 gL_law_X3_thrown rfl rfl rfl (by decide +kernel) ⟨Nat.le_of_ble_eq_true rfl, Nat.le_of_ble_eq_true rfl⟩) (k_rY hK hP rfl) rfl hl.1 rfl (Nat.le_of_ble_eq_true rfl) dL_law_178 ⟨hc.1, hc.2⟩ (fun t ht => ?_)
      refine lv_iload hx hb dL_law_181 (lv_at hl 1 rfl) ?_
      refine k_eq (tgt := 188) hx hb dL_law_183 (by decide) (by omega) (fun _ => ?_) (fun q => absurd (ht.trans ht0) q)
      refine lv_iload hx hb dL_law_188 (lv_at hl 1 rfl) ?_
      refine k_ne0 (tgt := 205) hx hb dL_law_190 (by decide) (by omega) (fun q => absurd rfl q) (fun _ => ?_)
      have q := (((hz.1).resolve_left (fun q => by omega)).resolve_left (fun q => by omega)).resolve_left (fun q => by omega)
      have hIN := (kI_sew hI hh (by omega) (by omega) hv.1 hv.2.1 eM1 q.2.2.2.2.2.2.2).1
      have hv3 := hv.2.2
      have h102 : M2 102 0 = z := by rw [q.2.2.2.2.2.2.2 102 0 (by omega), kU_at, if_neg (by omega), kU_at, if_neg (by omega), eM1, kU_same]; omega
      refine lv_aload_n hx hb dL_law_193 rfl (lv_at hl 3 rfl) ?_
      refine k_push hx hb dL_law_194 ?_
      refine k_lald S hK hP dL_law_195 ?_
      refine lv_iload hx hb dL_law_196 (lv_at hl 0 rfl) ?_
      refine k_i2l hx hb dL_law_198 (by omega) ?_
      rw [h102]
      refine k_lcmpE hx hb dL_law_199 ?_
      refine k_eq0 (tgt := 205) hx hb dL_law_200 (by decide) (by omega) (fun _ => ?_) (fun q => absurd rfl q)
      refine lv_goto (tgt := 1416) hx hb dL_law_205 (by decide) ?_
      exact next _ _ _ _ hIN hP hS (lv_sub hl [2, 3, 4, 5, 6] rfl)
  · have hb2 : h < 0 ∨ 2 ≤ h := by omega
    refine lv_aload_n hx hb dL_law_140 rfl (lv_at hl 3 rfl) ?_
    refine lv_aload_n hx hb dL_law_141 rfl (lv_at hl 4 rfl) ?_
    refine lv_iload hx hb dL_law_142 (lv_at hl 0 rfl) ?_
    refine k_push hx hb dL_law_144 ?_
    refine k_add hx hb dL_law_145 ?_
    refine k_sld S hScr hbl hbA hS (by omega) e1 dL_law_146 ?_
    refine lv_aload_n hx hb dL_law_147 rfl (lv_at hl 4 rfl) ?_
    refine lv_iload hx hb dL_law_148 (lv_at hl 0 rfl) ?_
    refine k_push hx hb dL_law_150 ?_
    refine k_add hx hb dL_law_151 ?_
    refine k_sld S hScr hbl hbA hS (by omega) e2 dL_law_152 ?_
    refine lv_aload_n hx hb dL_law_153 rfl (lv_at hl 1 rfl) ?_
    refine k_callHT (As := [.ref (E.2.2 10), .int (zI h), .int (zI st), .ref (E.2.2 102)]) (rest := []) S hK hX hZ hP hS (c_L_sew_b1 l E hlst M h st (by omega) (by omega)) (vx_cwSW 4 S.2.2.2.2 gL_law_L_sew rfl rfl rfl (by decide +kernel) ⟨Nat.le_of_ble_eq_true rfl, Nat.le_of_ble_eq_true rfl⟩) rfl hl.1 rfl (Nat.le_of_ble_eq_true rfl) dL_law_154 ⟨hc.1, hc.2⟩ (fun H locs hP hS => ?_)
    refine lv_istore (lv' := [(5, .int (zI 1)), (4, .int (zI i)), (3, .ref (E.2.2 102)), (2, .ref (E.2.2 11)), (1, .ref (E.2.2 10)), (0, .ref bs)]) hx hb dL_law_157 hl (by decide) rfl (fun ls hl => ?_)
    have q4 : M 11 4 = M 2 1 := hI.2.2.2.1
    refine lv_aload_n hx hb dL_law_159 rfl (lv_at hl 3 rfl) ?_
    refine lv_aload_n hx hb dL_law_160 rfl (lv_at hl 5 rfl) ?_
    refine lv_iload hx hb dL_law_161 (lv_at hl 1 rfl) ?_
    refine k_push hx hb dL_law_163 ?_
    refine k_add hx hb dL_law_164 ?_
    refine k_sld S hScr hbl hbA hS (by omega) e1 dL_law_165 ?_
    refine lv_aload_n hx hb dL_law_166 rfl (lv_at hl 5 rfl) ?_
    refine lv_iload hx hb dL_law_167 (lv_at hl 1 rfl) ?_
    refine k_push hx hb dL_law_169 ?_
    refine k_add hx hb dL_law_170 ?_
    refine k_sld S hScr hbl hbA hS (by omega) e2 dL_law_171 ?_
    refine k_callVW (As := [.int (zI h), .int (zI st)]) (rest := []) S hK hP hS (c_X3_sew l E hE M h st (kI_wm hI) (by omega)) (cwV 2 S.2.2.2.2 gL_law_X3_sew rfl rfl rfl (by decide +kernel) ⟨Nat.le_of_ble_eq_true rfl, Nat.le_of_ble_eq_true rfl⟩) (k_rY hK hP rfl) rfl hl.1 rfl (Nat.le_of_ble_eq_true rfl) dL_law_172 ⟨hc.1, hc.2⟩ (fun z M2 H locs hz hP hS => ?_)
    refine lv_istore (lv' := [(6, .int (zI z)), (5, .int (zI 1)), (4, .int (zI i)), (3, .ref (E.2.2 102)), (2, .ref (E.2.2 11)), (1, .ref (E.2.2 10)), (0, .ref bs)]) hx hb dL_law_175 hl (by decide) rfl (fun ls hl => ?_)
    try simp only [q4] at hz
    have ht0 : M2 11 0 = 1 := by omega
    refine lv_aload_n hx hb dL_law_177 rfl (lv_at hl 4 rfl) ?_
    refine k_callV (As := []) (rest := []) S hK hP (c_X3_thrown l E M2) (cwV 0 S.2.2.2.2 gL_law_X3_thrown rfl rfl rfl (by decide +kernel) ⟨Nat.le_of_ble_eq_true rfl, Nat.le_of_ble_eq_true rfl⟩) (k_rY hK hP rfl) rfl hl.1 rfl (Nat.le_of_ble_eq_true rfl) dL_law_178 ⟨hc.1, hc.2⟩ (fun t ht => ?_)
    refine lv_iload hx hb dL_law_181 (lv_at hl 1 rfl) ?_
    refine k_eq (tgt := 188) hx hb dL_law_183 (by decide) (by omega) (fun _ => ?_) (fun q => absurd (ht.trans ht0) q)
    refine lv_iload hx hb dL_law_188 (lv_at hl 1 rfl) ?_
    refine k_ne0 (tgt := 205) hx hb dL_law_190 (by decide) (by omega) (fun _ => ?_) (fun q => absurd q (by decide))
    have hf : kFt M M2 := by
      rcases hz.1 with q | q | q | q <;> first | (exfalso; omega) | exact q.2.2 | exact q.2.2.2 | exact q.2.2.2.2 | exact q.2.2.2.2.2 | exact q.2.2.2.2.2.2
    refine lv_goto (tgt := 1416) hx hb dL_law_205 (by decide) ?_
    exact next _ _ _ _ (kI_m hI (kFt_m hf)) hP hS (lv_sub hl [2, 3, 4, 5, 6] rfl)
set_option maxHeartbeats 4000000 in
set_option maxRecDepth 100000 in
theorem lw_c_again {pg : Program} {l : Launch} {en : Env} {s0 : State} {mi : MethodId} {ar : Array Value} {bl : List Frame} {me : Method} {co : Code} {H H0 : Heap} {locs : List Loc} {cells slots : Nat} {Q : State → Prop} {ls : Array Slot} {E : kE} {M : kM} {bs L : Nat} {xs : Nat → Int32} {i : Int} (hlst : l.stackTraces = false) (S : CallFix pg mi co cL_law 9 s0 ar wsL_law RL) (hE : kInj E) (hK : kK E s0) (hX : kXs s0) (hZ : kZ (kA E H0.size) s0 H0) (hScr : va_X bs L xs s0 H0) (hbl : bs < H0.size) (hbA : ¬ kA E H0.size bs) (hL : L ≤ 2048) (hI : kI M) (hP : va_P E.1 vwCl (kW E M) H) (hS : va_S (kA E H0.size) H0 H locs) (hi : 0 ≤ i ∧ i + 3 < (L : Int)) (hc : cells + 1 ≤ 601024 ∧ slots + 6 ≤ 7293034) (hl : lv_has ls 9 [(4, .int (zI i)), (3, .ref (E.2.2 102)), (2, .ref (E.2.2 11)), (1, .ref (E.2.2 10)), (0, .ref bs)])
    (next : ∀ (M1 : kM) (H1 : Heap) (locs1 : List Loc) (ls1 : Array Slot), kI M1 → va_P E.1 vwCl (kW E M1) H1 → va_S (kA E H0.size) H0 H1 locs1 → lv_has ls1 9 [(4, .int (zI i)), (3, .ref (E.2.2 102)), (2, .ref (E.2.2 11)), (1, .ref (E.2.2 10)), (0, .ref bs)] → W pg l en room_1 s0 mi ar bl me co H1 locs1 (cells + 1) (slots + 6) Q (F0 mi 1416 ls1 []))
    {h : Int} (e1 : kSc xs (i + 1) = h) {r : Int} (e2 : kSc xs (i + 2) = r) : W pg l en room_1 s0 mi ar bl me co H locs cells slots Q (F0 mi 208 ls []) := by
  have hx := S.1
  have hb := S.2.1
  have r1 : -2147483648 ≤ h ∧ h ≤ 2147483647 := by rw [← e1]; exact kSc_rng _ _
  have r2 : -2147483648 ≤ r ∧ r ≤ 2147483647 := by rw [← e2]; exact kSc_rng _ _
  have hO2 := kI_O hI
  have hW := hI.1
  have hm12 := hI.2.2.2.2
  obtain ⟨hs0, hs1, hsv⟩ := hW 2 (by omega)
  by_cases hh : 0 ≤ h ∧ h < 2
  · obtain ⟨hn0, hn1, hv0⟩ := hW h (by omega)
    have hcs : (r < 1 ∨ 40 < r) ∨ (1 ≤ r ∧ r ≤ 40 ∧ (M h 1 = 0 ∨ 40 < M h 1 + r)) ∨ (1 ≤ r ∧ 1 ≤ M h 1 ∧ M h 1 + r ≤ 40) := by omega
    rcases hcs with hk | hk | hk
    · skip
      refine lv_aload_n hx hb dL_law_208 rfl (lv_at hl 3 rfl) ?_
      refine lv_aload_n hx hb dL_law_209 rfl (lv_at hl 4 rfl) ?_
      refine lv_iload hx hb dL_law_210 (lv_at hl 0 rfl) ?_
      refine k_push hx hb dL_law_212 ?_
      refine k_add hx hb dL_law_213 ?_
      refine k_sld S hScr hbl hbA hS (by omega) e1 dL_law_214 ?_
      refine lv_aload_n hx hb dL_law_215 rfl (lv_at hl 4 rfl) ?_
      refine lv_iload hx hb dL_law_216 (lv_at hl 0 rfl) ?_
      refine k_push hx hb dL_law_218 ?_
      refine k_add hx hb dL_law_219 ?_
      refine k_sld S hScr hbl hbA hS (by omega) e2 dL_law_220 ?_
      refine lv_aload_n hx hb dL_law_221 rfl (lv_at hl 1 rfl) ?_
      refine k_callHT (As := [.ref (E.2.2 10), .int (zI h), .int (zI r), .ref (E.2.2 102)]) (rest := []) S hK hX hZ hP hS (c_L_again_b2 l E hlst M h r (by omega) hW (by omega) (by omega)) (vx_cwSW 4 S.2.2.2.2 gL_law_L_again rfl rfl rfl (by decide +kernel) ⟨Nat.le_of_ble_eq_true rfl, Nat.le_of_ble_eq_true rfl⟩) rfl hl.1 rfl (Nat.le_of_ble_eq_true rfl) dL_law_222 ⟨hc.1, hc.2⟩ (fun H locs hP hS => ?_)
      refine lv_istore (lv' := [(5, .int (zI 2)), (4, .int (zI i)), (3, .ref (E.2.2 102)), (2, .ref (E.2.2 11)), (1, .ref (E.2.2 10)), (0, .ref bs)]) hx hb dL_law_225 hl (by decide) rfl (fun ls hl => ?_)
      have q13 : M (13 + h) = M (h + 3) := kI_13 hI hh
      have q15 : M 15 h = M h 1 := kI_15 hI hh
      have q4 : M 11 4 = M 2 1 := hI.2.2.2.1
      refine lv_aload_n hx hb dL_law_227 rfl (lv_at hl 3 rfl) ?_
      refine lv_aload_n hx hb dL_law_228 rfl (lv_at hl 5 rfl) ?_
      refine lv_iload hx hb dL_law_229 (lv_at hl 1 rfl) ?_
      refine k_push hx hb dL_law_231 ?_
      refine k_add hx hb dL_law_232 ?_
      refine k_sld S hScr hbl hbA hS (by omega) e1 dL_law_233 ?_
      refine lv_aload_n hx hb dL_law_234 rfl (lv_at hl 5 rfl) ?_
      refine lv_iload hx hb dL_law_235 (lv_at hl 1 rfl) ?_
      refine k_push hx hb dL_law_237 ?_
      refine k_add hx hb dL_law_238 ?_
      refine k_sld S hScr hbl hbA hS (by omega) e2 dL_law_239 ?_
      refine k_callVW (As := [.int (zI h), .int (zI r)]) (rest := []) S hK hP hS (c_X3_again l E hE M h r (kI_wm hI) (by omega)) (cwV 2 S.2.2.2.2 gL_law_X3_again rfl rfl rfl (by decide +kernel) ⟨Nat.le_of_ble_eq_true rfl, Nat.le_of_ble_eq_true rfl⟩) (k_rY hK hP rfl) rfl hl.1 rfl (Nat.le_of_ble_eq_true rfl) dL_law_240 ⟨hc.1, hc.2⟩ (fun z M2 H locs hz hP hS => ?_)
      refine lv_istore (lv' := [(6, .int (zI z)), (5, .int (zI 2)), (4, .int (zI i)), (3, .ref (E.2.2 102)), (2, .ref (E.2.2 11)), (1, .ref (E.2.2 10)), (0, .ref bs)]) hx hb dL_law_243 hl (by decide) rfl (fun ls hl => ?_)
      try simp only [q13, q15, q4] at hz
      have ht0 : M2 11 0 = 2 := by omega
      refine lv_aload_n hx hb dL_law_245 rfl (lv_at hl 4 rfl) ?_
      refine k_callV (As := []) (rest := []) S hK hP (c_X3_thrown l E M2) (cwV 0 S.2.2.2.2 gL_law_X3_thrown rfl rfl rfl (by decide +kernel) ⟨Nat.le_of_ble_eq_true rfl, Nat.le_of_ble_eq_true rfl⟩) (k_rY hK hP rfl) rfl hl.1 rfl (Nat.le_of_ble_eq_true rfl) dL_law_246 ⟨hc.1, hc.2⟩ (fun t ht => ?_)
      refine lv_iload hx hb dL_law_249 (lv_at hl 1 rfl) ?_
      refine k_eq (tgt := 256) hx hb dL_law_251 (by decide) (by omega) (fun _ => ?_) (fun q => absurd (ht.trans ht0) q)
      refine lv_iload hx hb dL_law_256 (lv_at hl 1 rfl) ?_
      refine k_ne0 (tgt := 273) hx hb dL_law_258 (by decide) (by omega) (fun _ => ?_) (fun q => absurd q (by decide))
      have hf : kFt M M2 := by
        rcases hz.1 with q | q | q | q <;> first | (exfalso; omega) | exact q.2.2 | exact q.2.2.2 | exact q.2.2.2.2 | exact q.2.2.2.2.2 | exact q.2.2.2.2.2.2
      refine lv_goto (tgt := 1416) hx hb dL_law_273 (by decide) ?_
      exact next _ _ _ _ (kI_m hI (kFt_m hf)) hP hS (lv_sub hl [2, 3, 4, 5, 6] rfl)
    · skip
      refine lv_aload_n hx hb dL_law_208 rfl (lv_at hl 3 rfl) ?_
      refine lv_aload_n hx hb dL_law_209 rfl (lv_at hl 4 rfl) ?_
      refine lv_iload hx hb dL_law_210 (lv_at hl 0 rfl) ?_
      refine k_push hx hb dL_law_212 ?_
      refine k_add hx hb dL_law_213 ?_
      refine k_sld S hScr hbl hbA hS (by omega) e1 dL_law_214 ?_
      refine lv_aload_n hx hb dL_law_215 rfl (lv_at hl 4 rfl) ?_
      refine lv_iload hx hb dL_law_216 (lv_at hl 0 rfl) ?_
      refine k_push hx hb dL_law_218 ?_
      refine k_add hx hb dL_law_219 ?_
      refine k_sld S hScr hbl hbA hS (by omega) e2 dL_law_220 ?_
      refine lv_aload_n hx hb dL_law_221 rfl (lv_at hl 1 rfl) ?_
      refine k_callHT (As := [.ref (E.2.2 10), .int (zI h), .int (zI r), .ref (E.2.2 102)]) (rest := []) S hK hX hZ hP hS (c_L_again_b3 l E hlst M h r (by omega) hW (by omega)) (vx_cwSW 4 S.2.2.2.2 gL_law_L_again rfl rfl rfl (by decide +kernel) ⟨Nat.le_of_ble_eq_true rfl, Nat.le_of_ble_eq_true rfl⟩) rfl hl.1 rfl (Nat.le_of_ble_eq_true rfl) dL_law_222 ⟨hc.1, hc.2⟩ (fun H locs hP hS => ?_)
      refine lv_istore (lv' := [(5, .int (zI 3)), (4, .int (zI i)), (3, .ref (E.2.2 102)), (2, .ref (E.2.2 11)), (1, .ref (E.2.2 10)), (0, .ref bs)]) hx hb dL_law_225 hl (by decide) rfl (fun ls hl => ?_)
      have q13 : M (13 + h) = M (h + 3) := kI_13 hI hh
      have q15 : M 15 h = M h 1 := kI_15 hI hh
      have q4 : M 11 4 = M 2 1 := hI.2.2.2.1
      refine lv_aload_n hx hb dL_law_227 rfl (lv_at hl 3 rfl) ?_
      refine lv_aload_n hx hb dL_law_228 rfl (lv_at hl 5 rfl) ?_
      refine lv_iload hx hb dL_law_229 (lv_at hl 1 rfl) ?_
      refine k_push hx hb dL_law_231 ?_
      refine k_add hx hb dL_law_232 ?_
      refine k_sld S hScr hbl hbA hS (by omega) e1 dL_law_233 ?_
      refine lv_aload_n hx hb dL_law_234 rfl (lv_at hl 5 rfl) ?_
      refine lv_iload hx hb dL_law_235 (lv_at hl 1 rfl) ?_
      refine k_push hx hb dL_law_237 ?_
      refine k_add hx hb dL_law_238 ?_
      refine k_sld S hScr hbl hbA hS (by omega) e2 dL_law_239 ?_
      refine k_callVW (As := [.int (zI h), .int (zI r)]) (rest := []) S hK hP hS (c_X3_again l E hE M h r (kI_wm hI) (by omega)) (cwV 2 S.2.2.2.2 gL_law_X3_again rfl rfl rfl (by decide +kernel) ⟨Nat.le_of_ble_eq_true rfl, Nat.le_of_ble_eq_true rfl⟩) (k_rY hK hP rfl) rfl hl.1 rfl (Nat.le_of_ble_eq_true rfl) dL_law_240 ⟨hc.1, hc.2⟩ (fun z M2 H locs hz hP hS => ?_)
      refine lv_istore (lv' := [(6, .int (zI z)), (5, .int (zI 3)), (4, .int (zI i)), (3, .ref (E.2.2 102)), (2, .ref (E.2.2 11)), (1, .ref (E.2.2 10)), (0, .ref bs)]) hx hb dL_law_243 hl (by decide) rfl (fun ls hl => ?_)
      try simp only [q13, q15, q4] at hz
      have ht0 : M2 11 0 = 3 := by omega
      refine lv_aload_n hx hb dL_law_245 rfl (lv_at hl 4 rfl) ?_
      refine k_callV (As := []) (rest := []) S hK hP (c_X3_thrown l E M2) (cwV 0 S.2.2.2.2 gL_law_X3_thrown rfl rfl rfl (by decide +kernel) ⟨Nat.le_of_ble_eq_true rfl, Nat.le_of_ble_eq_true rfl⟩) (k_rY hK hP rfl) rfl hl.1 rfl (Nat.le_of_ble_eq_true rfl) dL_law_246 ⟨hc.1, hc.2⟩ (fun t ht => ?_)
      refine lv_iload hx hb dL_law_249 (lv_at hl 1 rfl) ?_
      refine k_eq (tgt := 256) hx hb dL_law_251 (by decide) (by omega) (fun _ => ?_) (fun q => absurd (ht.trans ht0) q)
      refine lv_iload hx hb dL_law_256 (lv_at hl 1 rfl) ?_
      refine k_ne0 (tgt := 273) hx hb dL_law_258 (by decide) (by omega) (fun _ => ?_) (fun q => absurd q (by decide))
      have hf : kFt M M2 := by
        rcases hz.1 with q | q | q | q <;> first | (exfalso; omega) | exact q.2.2 | exact q.2.2.2 | exact q.2.2.2.2 | exact q.2.2.2.2.2 | exact q.2.2.2.2.2.2
      refine lv_goto (tgt := 1416) hx hb dL_law_273 (by decide) ?_
      exact next _ _ _ _ (kI_m hI (kFt_m hf)) hP hS (lv_sub hl [2, 3, 4, 5, 6] rfl)
    · skip
      refine lv_aload_n hx hb dL_law_208 rfl (lv_at hl 3 rfl) ?_
      refine lv_aload_n hx hb dL_law_209 rfl (lv_at hl 4 rfl) ?_
      refine lv_iload hx hb dL_law_210 (lv_at hl 0 rfl) ?_
      refine k_push hx hb dL_law_212 ?_
      refine k_add hx hb dL_law_213 ?_
      refine k_sld S hScr hbl hbA hS (by omega) e1 dL_law_214 ?_
      refine lv_aload_n hx hb dL_law_215 rfl (lv_at hl 4 rfl) ?_
      refine lv_iload hx hb dL_law_216 (lv_at hl 0 rfl) ?_
      refine k_push hx hb dL_law_218 ?_
      refine k_add hx hb dL_law_219 ?_
      refine k_sld S hScr hbl hbA hS (by omega) e2 dL_law_220 ?_
      refine lv_aload_n hx hb dL_law_221 rfl (lv_at hl 1 rfl) ?_
      refine k_callHW (As := [.ref (E.2.2 10), .int (zI h), .int (zI r), .ref (E.2.2 102)]) (rest := []) S hK hP hS (c_L_again l E hE M h r (by omega) hW (by omega)) (vx_cwSW 4 S.2.2.2.2 gL_law_L_again rfl rfl rfl (by decide +kernel) ⟨Nat.le_of_ble_eq_true rfl, Nat.le_of_ble_eq_true rfl⟩) rfl hl.1 rfl (Nat.le_of_ble_eq_true rfl) dL_law_222 ⟨Nat.le_trans (Nat.le_add_right cells 1) hc.1, Nat.le_trans (Nat.le_add_right slots 6) hc.2⟩ (fun z1 M1 H locs hLk hP hS => ?_)
      obtain ⟨rfl, v, N1, hv, eM1⟩ := hLk
      refine W.widen (k := cells + 1) (n := slots + 6) (by omega) (by omega) ?_
      refine lv_istore (lv' := [(5, .int (zI 0)), (4, .int (zI i)), (3, .ref (E.2.2 102)), (2, .ref (E.2.2 11)), (1, .ref (E.2.2 10)), (0, .ref bs)]) hx hb dL_law_225 hl (by decide) rfl (fun ls hl => ?_)
      have q15 : M1 15 h = M h 1 := by rw [eM1, kU_at, if_neg (by omega), hv.1 _ _ (by omega) (by omega) (by omega)]; exact kI_15 hI hh
      refine lv_aload_n hx hb dL_law_227 rfl (lv_at hl 3 rfl) ?_
      refine lv_aload_n hx hb dL_law_228 rfl (lv_at hl 5 rfl) ?_
      refine lv_iload hx hb dL_law_229 (lv_at hl 1 rfl) ?_
      refine k_push hx hb dL_law_231 ?_
      refine k_add hx hb dL_law_232 ?_
      refine k_sld S hScr hbl hbA hS (by omega) e1 dL_law_233 ?_
      refine lv_aload_n hx hb dL_law_234 rfl (lv_at hl 5 rfl) ?_
      refine lv_iload hx hb dL_law_235 (lv_at hl 1 rfl) ?_
      refine k_push hx hb dL_law_237 ?_
      refine k_add hx hb dL_law_238 ?_
      refine k_sld S hScr hbl hbA hS (by omega) e2 dL_law_239 ?_
      refine k_callVW (As := [.int (zI h), .int (zI r)]) (rest := []) S hK hP hS (c_X3_again l E hE M1 h r (kWm_eq (kI_wm hI) (fun c9 k9 c91 c92 => by rw [eM1, kU_at, if_neg (by omega), hv.1 _ _ (by omega) (by omega) (by omega)])) (by omega)) (cwV 2 S.2.2.2.2 gL_law_X3_again rfl rfl rfl (by decide +kernel) ⟨Nat.le_of_ble_eq_true rfl, Nat.le_of_ble_eq_true rfl⟩) (k_rY hK hP rfl) rfl hl.1 rfl (Nat.le_of_ble_eq_true rfl) dL_law_240 ⟨hc.1, hc.2⟩ (fun z M2 H locs hz hP hS => ?_)
      refine lv_istore (lv' := [(6, .int (zI z)), (5, .int (zI 0)), (4, .int (zI i)), (3, .ref (E.2.2 102)), (2, .ref (E.2.2 11)), (1, .ref (E.2.2 10)), (0, .ref bs)]) hx hb dL_law_243 hl (by decide) rfl (fun ls hl => ?_)
      have ht0 : M2 11 0 = 0 := by omega
      refine lv_aload_n hx hb dL_law_245 rfl (lv_at hl 4 rfl) ?_
      refine k_callV (As := []) (rest := []) S hK hP (c_X3_thrown l E M2) (cwV 0 S.2.2.2.2 gL_law_X3_thrown rfl rfl rfl (by decide +kernel) ⟨Nat.le_of_ble_eq_true rfl, Nat.le_of_ble_eq_true rfl⟩) (k_rY hK hP rfl) rfl hl.1 rfl (Nat.le_of_ble_eq_true rfl) dL_law_246 ⟨hc.1, hc.2⟩ (fun t ht => ?_)
      refine lv_iload hx hb dL_law_249 (lv_at hl 1 rfl) ?_
      refine k_eq (tgt := 256) hx hb dL_law_251 (by decide) (by omega) (fun _ => ?_) (fun q => absurd (ht.trans ht0) q)
      refine lv_iload hx hb dL_law_256 (lv_at hl 1 rfl) ?_
      refine k_ne0 (tgt := 273) hx hb dL_law_258 (by decide) (by omega) (fun q => absurd rfl q) (fun _ => ?_)
      have q := (((hz.1).resolve_left (fun q => by omega)).resolve_left (fun q => by omega)).resolve_left (fun q => by omega)
      obtain ⟨x1, x2, x3, x4, x5, x6, x7, x8, x9, x10, x11⟩ := q
      have hIN := (kI_aga hI hh (by omega) hv.1 hv.2.1 hv.2.2.1 hv.2.2.2.1 hv.2.2.2.2.1 hv.2.2.2.2.2.1 eM1 x8 x9 x10 x11).1
      have hv3 := hv.2.2.2.2.2.2
      have h102 : M2 102 0 = z := by rw [x11 102 0 (by omega) (by omega) (by omega), eM1, kU_same]; omega
      refine lv_aload_n hx hb dL_law_261 rfl (lv_at hl 3 rfl) ?_
      refine k_push hx hb dL_law_262 ?_
      refine k_lald S hK hP dL_law_263 ?_
      refine lv_iload hx hb dL_law_264 (lv_at hl 0 rfl) ?_
      refine k_i2l hx hb dL_law_266 (by omega) ?_
      rw [h102]
      refine k_lcmpE hx hb dL_law_267 ?_
      refine k_eq0 (tgt := 273) hx hb dL_law_268 (by decide) (by omega) (fun _ => ?_) (fun q => absurd rfl q)
      refine lv_goto (tgt := 1416) hx hb dL_law_273 (by decide) ?_
      exact next _ _ _ _ hIN hP hS (lv_sub hl [2, 3, 4, 5, 6] rfl)
  · have hb2 : h < 0 ∨ 2 ≤ h := by omega
    refine lv_aload_n hx hb dL_law_208 rfl (lv_at hl 3 rfl) ?_
    refine lv_aload_n hx hb dL_law_209 rfl (lv_at hl 4 rfl) ?_
    refine lv_iload hx hb dL_law_210 (lv_at hl 0 rfl) ?_
    refine k_push hx hb dL_law_212 ?_
    refine k_add hx hb dL_law_213 ?_
    refine k_sld S hScr hbl hbA hS (by omega) e1 dL_law_214 ?_
    refine lv_aload_n hx hb dL_law_215 rfl (lv_at hl 4 rfl) ?_
    refine lv_iload hx hb dL_law_216 (lv_at hl 0 rfl) ?_
    refine k_push hx hb dL_law_218 ?_
    refine k_add hx hb dL_law_219 ?_
    refine k_sld S hScr hbl hbA hS (by omega) e2 dL_law_220 ?_
    refine lv_aload_n hx hb dL_law_221 rfl (lv_at hl 1 rfl) ?_
    refine k_callHT (As := [.ref (E.2.2 10), .int (zI h), .int (zI r), .ref (E.2.2 102)]) (rest := []) S hK hX hZ hP hS (c_L_again_b1 l E hlst M h r (by omega) (by omega)) (vx_cwSW 4 S.2.2.2.2 gL_law_L_again rfl rfl rfl (by decide +kernel) ⟨Nat.le_of_ble_eq_true rfl, Nat.le_of_ble_eq_true rfl⟩) rfl hl.1 rfl (Nat.le_of_ble_eq_true rfl) dL_law_222 ⟨hc.1, hc.2⟩ (fun H locs hP hS => ?_)
    refine lv_istore (lv' := [(5, .int (zI 1)), (4, .int (zI i)), (3, .ref (E.2.2 102)), (2, .ref (E.2.2 11)), (1, .ref (E.2.2 10)), (0, .ref bs)]) hx hb dL_law_225 hl (by decide) rfl (fun ls hl => ?_)
    have q4 : M 11 4 = M 2 1 := hI.2.2.2.1
    refine lv_aload_n hx hb dL_law_227 rfl (lv_at hl 3 rfl) ?_
    refine lv_aload_n hx hb dL_law_228 rfl (lv_at hl 5 rfl) ?_
    refine lv_iload hx hb dL_law_229 (lv_at hl 1 rfl) ?_
    refine k_push hx hb dL_law_231 ?_
    refine k_add hx hb dL_law_232 ?_
    refine k_sld S hScr hbl hbA hS (by omega) e1 dL_law_233 ?_
    refine lv_aload_n hx hb dL_law_234 rfl (lv_at hl 5 rfl) ?_
    refine lv_iload hx hb dL_law_235 (lv_at hl 1 rfl) ?_
    refine k_push hx hb dL_law_237 ?_
    refine k_add hx hb dL_law_238 ?_
    refine k_sld S hScr hbl hbA hS (by omega) e2 dL_law_239 ?_
    refine k_callVW (As := [.int (zI h), .int (zI r)]) (rest := []) S hK hP hS (c_X3_again l E hE M h r (kI_wm hI) (by omega)) (cwV 2 S.2.2.2.2 gL_law_X3_again rfl rfl rfl (by decide +kernel) ⟨Nat.le_of_ble_eq_true rfl, Nat.le_of_ble_eq_true rfl⟩) (k_rY hK hP rfl) rfl hl.1 rfl (Nat.le_of_ble_eq_true rfl) dL_law_240 ⟨hc.1, hc.2⟩ (fun z M2 H locs hz hP hS => ?_)
    refine lv_istore (lv' := [(6, .int (zI z)), (5, .int (zI 1)), (4, .int (zI i)), (3, .ref (E.2.2 102)), (2, .ref (E.2.2 11)), (1, .ref (E.2.2 10)), (0, .ref bs)]) hx hb dL_law_243 hl (by decide) rfl (fun ls hl => ?_)
    try simp only [q4] at hz
    have ht0 : M2 11 0 = 1 := by omega
    refine lv_aload_n hx hb dL_law_245 rfl (lv_at hl 4 rfl) ?_
    refine k_callV (As := []) (rest := []) S hK hP (c_X3_thrown l E M2) (cwV 0 S.2.2.2.2 gL_law_X3_thrown rfl rfl rfl (by decide +kernel) ⟨Nat.le_of_ble_eq_true rfl, Nat.le_of_ble_eq_true rfl⟩) (k_rY hK hP rfl) rfl hl.1 rfl (Nat.le_of_ble_eq_true rfl) dL_law_246 ⟨hc.1, hc.2⟩ (fun t ht => ?_)
    refine lv_iload hx hb dL_law_249 (lv_at hl 1 rfl) ?_
    refine k_eq (tgt := 256) hx hb dL_law_251 (by decide) (by omega) (fun _ => ?_) (fun q => absurd (ht.trans ht0) q)
    refine lv_iload hx hb dL_law_256 (lv_at hl 1 rfl) ?_
    refine k_ne0 (tgt := 273) hx hb dL_law_258 (by decide) (by omega) (fun _ => ?_) (fun q => absurd q (by decide))
    have hf : kFt M M2 := by
      rcases hz.1 with q | q | q | q <;> first | (exfalso; omega) | exact q.2.2 | exact q.2.2.2 | exact q.2.2.2.2 | exact q.2.2.2.2.2 | exact q.2.2.2.2.2.2
    refine lv_goto (tgt := 1416) hx hb dL_law_273 (by decide) ?_
    exact next _ _ _ _ (kI_m hI (kFt_m hf)) hP hS (lv_sub hl [2, 3, 4, 5, 6] rfl)
set_option maxHeartbeats 4000000 in
set_option maxRecDepth 100000 in
theorem lw_c_unpick {pg : Program} {l : Launch} {en : Env} {s0 : State} {mi : MethodId} {ar : Array Value} {bl : List Frame} {me : Method} {co : Code} {H H0 : Heap} {locs : List Loc} {cells slots : Nat} {Q : State → Prop} {ls : Array Slot} {E : kE} {M : kM} {bs L : Nat} {xs : Nat → Int32} {i : Int} (hlst : l.stackTraces = false) (S : CallFix pg mi co cL_law 9 s0 ar wsL_law RL) (hE : kInj E) (hK : kK E s0) (hX : kXs s0) (hZ : kZ (kA E H0.size) s0 H0) (hScr : va_X bs L xs s0 H0) (hbl : bs < H0.size) (hbA : ¬ kA E H0.size bs) (hL : L ≤ 2048) (hI : kI M) (hP : va_P E.1 vwCl (kW E M) H) (hS : va_S (kA E H0.size) H0 H locs) (hi : 0 ≤ i ∧ i + 3 < (L : Int)) (hc : cells + 1 ≤ 601024 ∧ slots + 6 ≤ 7293034) (hl : lv_has ls 9 [(4, .int (zI i)), (3, .ref (E.2.2 102)), (2, .ref (E.2.2 11)), (1, .ref (E.2.2 10)), (0, .ref bs)])
    (next : ∀ (M1 : kM) (H1 : Heap) (locs1 : List Loc) (ls1 : Array Slot), kI M1 → va_P E.1 vwCl (kW E M1) H1 → va_S (kA E H0.size) H0 H1 locs1 → lv_has ls1 9 [(4, .int (zI i)), (3, .ref (E.2.2 102)), (2, .ref (E.2.2 11)), (1, .ref (E.2.2 10)), (0, .ref bs)] → W pg l en room_1 s0 mi ar bl me co H1 locs1 (cells + 1) (slots + 6) Q (F0 mi 1416 ls1 []))
    {h : Int} (e1 : kSc xs (i + 1) = h) {r : Int} (e2 : kSc xs (i + 2) = r) : W pg l en room_1 s0 mi ar bl me co H locs cells slots Q (F0 mi 276 ls []) := by
  have hx := S.1
  have hb := S.2.1
  have r1 : -2147483648 ≤ h ∧ h ≤ 2147483647 := by rw [← e1]; exact kSc_rng _ _
  have r2 : -2147483648 ≤ r ∧ r ≤ 2147483647 := by rw [← e2]; exact kSc_rng _ _
  have hO2 := kI_O hI
  have hW := hI.1
  have hm12 := hI.2.2.2.2
  obtain ⟨hs0, hs1, hsv⟩ := hW 2 (by omega)
  by_cases hh : 0 ≤ h ∧ h < 2
  · obtain ⟨hn0, hn1, hv0⟩ := hW h (by omega)
    have hcs : (r < 1 ∨ M h 1 < r) ∨ (1 ≤ r ∧ r ≤ M h 1) := by omega
    rcases hcs with hk | hk
    · skip
      refine lv_aload_n hx hb dL_law_276 rfl (lv_at hl 3 rfl) ?_
      refine lv_aload_n hx hb dL_law_277 rfl (lv_at hl 4 rfl) ?_
      refine lv_iload hx hb dL_law_278 (lv_at hl 0 rfl) ?_
      refine k_push hx hb dL_law_280 ?_
      refine k_add hx hb dL_law_281 ?_
      refine k_sld S hScr hbl hbA hS (by omega) e1 dL_law_282 ?_
      refine lv_aload_n hx hb dL_law_283 rfl (lv_at hl 4 rfl) ?_
      refine lv_iload hx hb dL_law_284 (lv_at hl 0 rfl) ?_
      refine k_push hx hb dL_law_286 ?_
      refine k_add hx hb dL_law_287 ?_
      refine k_sld S hScr hbl hbA hS (by omega) e2 dL_law_288 ?_
      refine lv_aload_n hx hb dL_law_289 rfl (lv_at hl 1 rfl) ?_
      refine k_callHT (As := [.ref (E.2.2 10), .int (zI h), .int (zI r), .ref (E.2.2 102)]) (rest := []) S hK hX hZ hP hS (c_L_unpick_b2 l E hlst M h r (by omega) hW (by omega) (by omega)) (vx_cwSW 4 S.2.2.2.2 gL_law_L_unpick rfl rfl rfl (by decide +kernel) ⟨Nat.le_of_ble_eq_true rfl, Nat.le_of_ble_eq_true rfl⟩) rfl hl.1 rfl (Nat.le_of_ble_eq_true rfl) dL_law_290 ⟨hc.1, hc.2⟩ (fun H locs hP hS => ?_)
      refine lv_istore (lv' := [(5, .int (zI 2)), (4, .int (zI i)), (3, .ref (E.2.2 102)), (2, .ref (E.2.2 11)), (1, .ref (E.2.2 10)), (0, .ref bs)]) hx hb dL_law_293 hl (by decide) rfl (fun ls hl => ?_)
      have q13 : M (13 + h) = M (h + 3) := kI_13 hI hh
      have q15 : M 15 h = M h 1 := kI_15 hI hh
      have q4 : M 11 4 = M 2 1 := hI.2.2.2.1
      refine lv_aload_n hx hb dL_law_295 rfl (lv_at hl 3 rfl) ?_
      refine lv_aload_n hx hb dL_law_296 rfl (lv_at hl 5 rfl) ?_
      refine lv_iload hx hb dL_law_297 (lv_at hl 1 rfl) ?_
      refine k_push hx hb dL_law_299 ?_
      refine k_add hx hb dL_law_300 ?_
      refine k_sld S hScr hbl hbA hS (by omega) e1 dL_law_301 ?_
      refine lv_aload_n hx hb dL_law_302 rfl (lv_at hl 5 rfl) ?_
      refine lv_iload hx hb dL_law_303 (lv_at hl 1 rfl) ?_
      refine k_push hx hb dL_law_305 ?_
      refine k_add hx hb dL_law_306 ?_
      refine k_sld S hScr hbl hbA hS (by omega) e2 dL_law_307 ?_
      refine k_callVW (As := [.int (zI h), .int (zI r)]) (rest := []) S hK hP hS (c_X3_unpick l E hE M h r (kI_wm hI) (by omega)) (cwV 2 S.2.2.2.2 gL_law_X3_unpick rfl rfl rfl (by decide +kernel) ⟨Nat.le_of_ble_eq_true rfl, Nat.le_of_ble_eq_true rfl⟩) (k_rY hK hP rfl) rfl hl.1 rfl (Nat.le_of_ble_eq_true rfl) dL_law_308 ⟨hc.1, hc.2⟩ (fun z M2 H locs hz hP hS => ?_)
      refine lv_istore (lv' := [(6, .int (zI z)), (5, .int (zI 2)), (4, .int (zI i)), (3, .ref (E.2.2 102)), (2, .ref (E.2.2 11)), (1, .ref (E.2.2 10)), (0, .ref bs)]) hx hb dL_law_311 hl (by decide) rfl (fun ls hl => ?_)
      try simp only [q13, q15, q4] at hz
      have ht0 : M2 11 0 = 2 := by omega
      refine lv_aload_n hx hb dL_law_313 rfl (lv_at hl 4 rfl) ?_
      refine k_callV (As := []) (rest := []) S hK hP (c_X3_thrown l E M2) (cwV 0 S.2.2.2.2 gL_law_X3_thrown rfl rfl rfl (by decide +kernel) ⟨Nat.le_of_ble_eq_true rfl, Nat.le_of_ble_eq_true rfl⟩) (k_rY hK hP rfl) rfl hl.1 rfl (Nat.le_of_ble_eq_true rfl) dL_law_314 ⟨hc.1, hc.2⟩ (fun t ht => ?_)
      refine lv_iload hx hb dL_law_317 (lv_at hl 1 rfl) ?_
      refine k_eq (tgt := 324) hx hb dL_law_319 (by decide) (by omega) (fun _ => ?_) (fun q => absurd (ht.trans ht0) q)
      refine lv_iload hx hb dL_law_324 (lv_at hl 1 rfl) ?_
      refine k_ne0 (tgt := 341) hx hb dL_law_326 (by decide) (by omega) (fun _ => ?_) (fun q => absurd q (by decide))
      have hf : kFt M M2 := by
        rcases hz.1 with q | q | q <;> first | (exfalso; omega) | exact q.2.2 | exact q.2.2.2 | exact q.2.2.2.2 | exact q.2.2.2.2.2 | exact q.2.2.2.2.2.2
      refine lv_goto (tgt := 1416) hx hb dL_law_341 (by decide) ?_
      exact next _ _ _ _ (kI_m hI (kFt_m hf)) hP hS (lv_sub hl [2, 3, 4, 5, 6] rfl)
    · skip
      refine lv_aload_n hx hb dL_law_276 rfl (lv_at hl 3 rfl) ?_
      refine lv_aload_n hx hb dL_law_277 rfl (lv_at hl 4 rfl) ?_
      refine lv_iload hx hb dL_law_278 (lv_at hl 0 rfl) ?_
      refine k_push hx hb dL_law_280 ?_
      refine k_add hx hb dL_law_281 ?_
      refine k_sld S hScr hbl hbA hS (by omega) e1 dL_law_282 ?_
      refine lv_aload_n hx hb dL_law_283 rfl (lv_at hl 4 rfl) ?_
      refine lv_iload hx hb dL_law_284 (lv_at hl 0 rfl) ?_
      refine k_push hx hb dL_law_286 ?_
      refine k_add hx hb dL_law_287 ?_
      refine k_sld S hScr hbl hbA hS (by omega) e2 dL_law_288 ?_
      refine lv_aload_n hx hb dL_law_289 rfl (lv_at hl 1 rfl) ?_
      refine k_callHW (As := [.ref (E.2.2 10), .int (zI h), .int (zI r), .ref (E.2.2 102)]) (rest := []) S hK hP hS (c_L_unpick l E hE M h r (by omega) hW (by omega)) (vx_cwSW 4 S.2.2.2.2 gL_law_L_unpick rfl rfl rfl (by decide +kernel) ⟨Nat.le_of_ble_eq_true rfl, Nat.le_of_ble_eq_true rfl⟩) rfl hl.1 rfl (Nat.le_of_ble_eq_true rfl) dL_law_290 ⟨Nat.le_trans (Nat.le_add_right cells 1) hc.1, Nat.le_trans (Nat.le_add_right slots 6) hc.2⟩ (fun z1 M1 H locs hLk hP hS => ?_)
      obtain ⟨rfl, v, N1, hv, eM1⟩ := hLk
      refine W.widen (k := cells + 1) (n := slots + 6) (by omega) (by omega) ?_
      refine lv_istore (lv' := [(5, .int (zI 0)), (4, .int (zI i)), (3, .ref (E.2.2 102)), (2, .ref (E.2.2 11)), (1, .ref (E.2.2 10)), (0, .ref bs)]) hx hb dL_law_293 hl (by decide) rfl (fun ls hl => ?_)
      have q15 : M1 15 h = M h 1 := by rw [eM1, kU_at, if_neg (by omega), hv.1 _ _ (by omega), kU_at, if_neg (by omega)]; exact kI_15 hI hh
      refine lv_aload_n hx hb dL_law_295 rfl (lv_at hl 3 rfl) ?_
      refine lv_aload_n hx hb dL_law_296 rfl (lv_at hl 5 rfl) ?_
      refine lv_iload hx hb dL_law_297 (lv_at hl 1 rfl) ?_
      refine k_push hx hb dL_law_299 ?_
      refine k_add hx hb dL_law_300 ?_
      refine k_sld S hScr hbl hbA hS (by omega) e1 dL_law_301 ?_
      refine lv_aload_n hx hb dL_law_302 rfl (lv_at hl 5 rfl) ?_
      refine lv_iload hx hb dL_law_303 (lv_at hl 1 rfl) ?_
      refine k_push hx hb dL_law_305 ?_
      refine k_add hx hb dL_law_306 ?_
      refine k_sld S hScr hbl hbA hS (by omega) e2 dL_law_307 ?_
      refine k_callVW (As := [.int (zI h), .int (zI r)]) (rest := []) S hK hP hS (c_X3_unpick l E hE M1 h r (kWm_eq (kI_wm hI) (fun c9 k9 c91 c92 => by rw [eM1, kU_at, if_neg (by omega), hv.1 _ _ (by omega), kU_at, if_neg (by omega)])) (by omega)) (cwV 2 S.2.2.2.2 gL_law_X3_unpick rfl rfl rfl (by decide +kernel) ⟨Nat.le_of_ble_eq_true rfl, Nat.le_of_ble_eq_true rfl⟩) (k_rY hK hP rfl) rfl hl.1 rfl (Nat.le_of_ble_eq_true rfl) dL_law_308 ⟨hc.1, hc.2⟩ (fun z M2 H locs hz hP hS => ?_)
      refine lv_istore (lv' := [(6, .int (zI z)), (5, .int (zI 0)), (4, .int (zI i)), (3, .ref (E.2.2 102)), (2, .ref (E.2.2 11)), (1, .ref (E.2.2 10)), (0, .ref bs)]) hx hb dL_law_311 hl (by decide) rfl (fun ls hl => ?_)
      have ht0 : M2 11 0 = 0 := by omega
      refine lv_aload_n hx hb dL_law_313 rfl (lv_at hl 4 rfl) ?_
      refine k_callV (As := []) (rest := []) S hK hP (c_X3_thrown l E M2) (cwV 0 S.2.2.2.2 gL_law_X3_thrown rfl rfl rfl (by decide +kernel) ⟨Nat.le_of_ble_eq_true rfl, Nat.le_of_ble_eq_true rfl⟩) (k_rY hK hP rfl) rfl hl.1 rfl (Nat.le_of_ble_eq_true rfl) dL_law_314 ⟨hc.1, hc.2⟩ (fun t ht => ?_)
      refine lv_iload hx hb dL_law_317 (lv_at hl 1 rfl) ?_
      refine k_eq (tgt := 324) hx hb dL_law_319 (by decide) (by omega) (fun _ => ?_) (fun q => absurd (ht.trans ht0) q)
      refine lv_iload hx hb dL_law_324 (lv_at hl 1 rfl) ?_
      refine k_ne0 (tgt := 341) hx hb dL_law_326 (by decide) (by omega) (fun q => absurd rfl q) (fun _ => ?_)
      have q := ((hz.1).resolve_left (fun q => by omega)).resolve_left (fun q => by omega)
      have hIN := (kI_unp hI hh (by omega) hv.1 hv.2.1 eM1 q.2.2.2.2.2.2).1
      have hv3 := hv.2.2
      have h102 : M2 102 0 = z := by rw [q.2.2.2.2.2.2 102 0 (by omega), kU_at, if_neg (by omega), eM1, kU_same]; omega
      refine lv_aload_n hx hb dL_law_329 rfl (lv_at hl 3 rfl) ?_
      refine k_push hx hb dL_law_330 ?_
      refine k_lald S hK hP dL_law_331 ?_
      refine lv_iload hx hb dL_law_332 (lv_at hl 0 rfl) ?_
      refine k_i2l hx hb dL_law_334 (by omega) ?_
      rw [h102]
      refine k_lcmpE hx hb dL_law_335 ?_
      refine k_eq0 (tgt := 341) hx hb dL_law_336 (by decide) (by omega) (fun _ => ?_) (fun q => absurd rfl q)
      refine lv_goto (tgt := 1416) hx hb dL_law_341 (by decide) ?_
      exact next _ _ _ _ hIN hP hS (lv_sub hl [2, 3, 4, 5, 6] rfl)
  · have hb2 : h < 0 ∨ 2 ≤ h := by omega
    refine lv_aload_n hx hb dL_law_276 rfl (lv_at hl 3 rfl) ?_
    refine lv_aload_n hx hb dL_law_277 rfl (lv_at hl 4 rfl) ?_
    refine lv_iload hx hb dL_law_278 (lv_at hl 0 rfl) ?_
    refine k_push hx hb dL_law_280 ?_
    refine k_add hx hb dL_law_281 ?_
    refine k_sld S hScr hbl hbA hS (by omega) e1 dL_law_282 ?_
    refine lv_aload_n hx hb dL_law_283 rfl (lv_at hl 4 rfl) ?_
    refine lv_iload hx hb dL_law_284 (lv_at hl 0 rfl) ?_
    refine k_push hx hb dL_law_286 ?_
    refine k_add hx hb dL_law_287 ?_
    refine k_sld S hScr hbl hbA hS (by omega) e2 dL_law_288 ?_
    refine lv_aload_n hx hb dL_law_289 rfl (lv_at hl 1 rfl) ?_
    refine k_callHT (As := [.ref (E.2.2 10), .int (zI h), .int (zI r), .ref (E.2.2 102)]) (rest := []) S hK hX hZ hP hS (c_L_unpick_b1 l E hlst M h r (by omega) (by omega)) (vx_cwSW 4 S.2.2.2.2 gL_law_L_unpick rfl rfl rfl (by decide +kernel) ⟨Nat.le_of_ble_eq_true rfl, Nat.le_of_ble_eq_true rfl⟩) rfl hl.1 rfl (Nat.le_of_ble_eq_true rfl) dL_law_290 ⟨hc.1, hc.2⟩ (fun H locs hP hS => ?_)
    refine lv_istore (lv' := [(5, .int (zI 1)), (4, .int (zI i)), (3, .ref (E.2.2 102)), (2, .ref (E.2.2 11)), (1, .ref (E.2.2 10)), (0, .ref bs)]) hx hb dL_law_293 hl (by decide) rfl (fun ls hl => ?_)
    have q4 : M 11 4 = M 2 1 := hI.2.2.2.1
    refine lv_aload_n hx hb dL_law_295 rfl (lv_at hl 3 rfl) ?_
    refine lv_aload_n hx hb dL_law_296 rfl (lv_at hl 5 rfl) ?_
    refine lv_iload hx hb dL_law_297 (lv_at hl 1 rfl) ?_
    refine k_push hx hb dL_law_299 ?_
    refine k_add hx hb dL_law_300 ?_
    refine k_sld S hScr hbl hbA hS (by omega) e1 dL_law_301 ?_
    refine lv_aload_n hx hb dL_law_302 rfl (lv_at hl 5 rfl) ?_
    refine lv_iload hx hb dL_law_303 (lv_at hl 1 rfl) ?_
    refine k_push hx hb dL_law_305 ?_
    refine k_add hx hb dL_law_306 ?_
    refine k_sld S hScr hbl hbA hS (by omega) e2 dL_law_307 ?_
    refine k_callVW (As := [.int (zI h), .int (zI r)]) (rest := []) S hK hP hS (c_X3_unpick l E hE M h r (kI_wm hI) (by omega)) (cwV 2 S.2.2.2.2 gL_law_X3_unpick rfl rfl rfl (by decide +kernel) ⟨Nat.le_of_ble_eq_true rfl, Nat.le_of_ble_eq_true rfl⟩) (k_rY hK hP rfl) rfl hl.1 rfl (Nat.le_of_ble_eq_true rfl) dL_law_308 ⟨hc.1, hc.2⟩ (fun z M2 H locs hz hP hS => ?_)
    refine lv_istore (lv' := [(6, .int (zI z)), (5, .int (zI 1)), (4, .int (zI i)), (3, .ref (E.2.2 102)), (2, .ref (E.2.2 11)), (1, .ref (E.2.2 10)), (0, .ref bs)]) hx hb dL_law_311 hl (by decide) rfl (fun ls hl => ?_)
    try simp only [q4] at hz
    have ht0 : M2 11 0 = 1 := by omega
    refine lv_aload_n hx hb dL_law_313 rfl (lv_at hl 4 rfl) ?_
    refine k_callV (As := []) (rest := []) S hK hP (c_X3_thrown l E M2) (cwV 0 S.2.2.2.2 gL_law_X3_thrown rfl rfl rfl (by decide +kernel) ⟨Nat.le_of_ble_eq_true rfl, Nat.le_of_ble_eq_true rfl⟩) (k_rY hK hP rfl) rfl hl.1 rfl (Nat.le_of_ble_eq_true rfl) dL_law_314 ⟨hc.1, hc.2⟩ (fun t ht => ?_)
    refine lv_iload hx hb dL_law_317 (lv_at hl 1 rfl) ?_
    refine k_eq (tgt := 324) hx hb dL_law_319 (by decide) (by omega) (fun _ => ?_) (fun q => absurd (ht.trans ht0) q)
    refine lv_iload hx hb dL_law_324 (lv_at hl 1 rfl) ?_
    refine k_ne0 (tgt := 341) hx hb dL_law_326 (by decide) (by omega) (fun _ => ?_) (fun q => absurd q (by decide))
    have hf : kFt M M2 := by
      rcases hz.1 with q | q | q <;> first | (exfalso; omega) | exact q.2.2 | exact q.2.2.2 | exact q.2.2.2.2 | exact q.2.2.2.2.2 | exact q.2.2.2.2.2.2
    refine lv_goto (tgt := 1416) hx hb dL_law_341 (by decide) ?_
    exact next _ _ _ _ (kI_m hI (kFt_m hf)) hP hS (lv_sub hl [2, 3, 4, 5, 6] rfl)
set_option maxHeartbeats 4000000 in
set_option maxRecDepth 100000 in
theorem lw_c_add {pg : Program} {l : Launch} {en : Env} {s0 : State} {mi : MethodId} {ar : Array Value} {bl : List Frame} {me : Method} {co : Code} {H H0 : Heap} {locs : List Loc} {cells slots : Nat} {Q : State → Prop} {ls : Array Slot} {E : kE} {M : kM} {bs L : Nat} {xs : Nat → Int32} {i : Int} (hlst : l.stackTraces = false) (S : CallFix pg mi co cL_law 9 s0 ar wsL_law RL) (hE : kInj E) (hK : kK E s0) (hX : kXs s0) (hZ : kZ (kA E H0.size) s0 H0) (hScr : va_X bs L xs s0 H0) (hbl : bs < H0.size) (hbA : ¬ kA E H0.size bs) (hL : L ≤ 2048) (hI : kI M) (hP : va_P E.1 vwCl (kW E M) H) (hS : va_S (kA E H0.size) H0 H locs) (hi : 0 ≤ i ∧ i + 3 < (L : Int)) (hc : cells + 1 ≤ 601024 ∧ slots + 6 ≤ 7293034) (hl : lv_has ls 9 [(4, .int (zI i)), (3, .ref (E.2.2 102)), (2, .ref (E.2.2 11)), (1, .ref (E.2.2 10)), (0, .ref bs)])
    (next : ∀ (M1 : kM) (H1 : Heap) (locs1 : List Loc) (ls1 : Array Slot), kI M1 → va_P E.1 vwCl (kW E M1) H1 → va_S (kA E H0.size) H0 H1 locs1 → lv_has ls1 9 [(4, .int (zI i)), (3, .ref (E.2.2 102)), (2, .ref (E.2.2 11)), (1, .ref (E.2.2 10)), (0, .ref bs)] → W pg l en room_1 s0 mi ar bl me co H1 locs1 (cells + 1) (slots + 6) Q (F0 mi 1416 ls1 []))
    {st : Int} (e1 : kSc xs (i + 1) = st) : W pg l en room_1 s0 mi ar bl me co H locs cells slots Q (F0 mi 344 ls []) := by
  have hx := S.1
  have hb := S.2.1
  have r1 : -2147483648 ≤ st ∧ st ≤ 2147483647 := by rw [← e1]; exact kSc_rng _ _
  have hO2 := kI_O hI
  have hW := hI.1
  have hm12 := hI.2.2.2.2
  obtain ⟨hs0, hs1, hsv⟩ := hW 2 (by omega)
  obtain ⟨hn0, hn1, hv0⟩ := hW 0 (by omega)
  obtain ⟨hm0, hm1, hw0⟩ := hW 1 (by omega)
  have hcs : (st < 0 ∨ 8 < st) ∨ ((0 ≤ st ∧ st ≤ 8) ∧ 12 ≤ M 2 1) ∨ ((0 ≤ st ∧ st ≤ 8) ∧ M 2 1 < 12) := by omega
  rcases hcs with hk | hk | hk
  · skip
    refine lv_aload_n hx hb dL_law_344 rfl (lv_at hl 3 rfl) ?_
    refine lv_aload_n hx hb dL_law_345 rfl (lv_at hl 4 rfl) ?_
    refine lv_iload hx hb dL_law_346 (lv_at hl 0 rfl) ?_
    refine k_push hx hb dL_law_348 ?_
    refine k_add hx hb dL_law_349 ?_
    refine k_sld S hScr hbl hbA hS (by omega) e1 dL_law_350 ?_
    refine lv_aload_n hx hb dL_law_351 rfl (lv_at hl 1 rfl) ?_
    refine k_callHT (As := [.ref (E.2.2 10), .int (zI st), .ref (E.2.2 102)]) (rest := []) S hK hX hZ hP hS (c_L_add_b1 l E hlst M st (by omega) (by omega)) (vx_cwSW 3 S.2.2.2.2 gL_law_L_add rfl rfl rfl (by decide +kernel) ⟨Nat.le_of_ble_eq_true rfl, Nat.le_of_ble_eq_true rfl⟩) rfl hl.1 rfl (Nat.le_of_ble_eq_true rfl) dL_law_352 ⟨hc.1, hc.2⟩ (fun H locs hP hS => ?_)
    refine lv_istore (lv' := [(5, .int (zI 1)), (4, .int (zI i)), (3, .ref (E.2.2 102)), (2, .ref (E.2.2 11)), (1, .ref (E.2.2 10)), (0, .ref bs)]) hx hb dL_law_355 hl (by decide) rfl (fun ls hl => ?_)
    have q15 : M 15 0 = M 0 1 := kI_15 hI (g := 0) (by omega)
    have q151 : M 15 1 = M 1 1 := kI_15 hI (g := 1) (by omega)
    have q4 : M 11 4 = M 2 1 := hI.2.2.2.1
    refine lv_aload_n hx hb dL_law_357 rfl (lv_at hl 3 rfl) ?_
    refine lv_aload_n hx hb dL_law_358 rfl (lv_at hl 5 rfl) ?_
    refine lv_iload hx hb dL_law_359 (lv_at hl 1 rfl) ?_
    refine k_push hx hb dL_law_361 ?_
    refine k_add hx hb dL_law_362 ?_
    refine k_sld S hScr hbl hbA hS (by omega) e1 dL_law_363 ?_
    refine k_callVW (As := [.int (zI st)]) (rest := []) S hK hP hS (c_X3_add l E hE M st (kI_wm hI) (by omega)) (cwV 1 S.2.2.2.2 gL_law_X3_add rfl rfl rfl (by decide +kernel) ⟨Nat.le_of_ble_eq_true rfl, Nat.le_of_ble_eq_true rfl⟩) (k_rY hK hP rfl) rfl hl.1 rfl (Nat.le_of_ble_eq_true rfl) dL_law_364 ⟨hc.1, hc.2⟩ (fun z M2 H locs hz hP hS => ?_)
    refine lv_istore (lv' := [(6, .int (zI z)), (5, .int (zI 1)), (4, .int (zI i)), (3, .ref (E.2.2 102)), (2, .ref (E.2.2 11)), (1, .ref (E.2.2 10)), (0, .ref bs)]) hx hb dL_law_367 hl (by decide) rfl (fun ls hl => ?_)
    try simp only [q15, q151, q4] at hz
    have ht0 : M2 11 0 = 1 := by omega
    refine lv_aload_n hx hb dL_law_369 rfl (lv_at hl 4 rfl) ?_
    refine k_callV (As := []) (rest := []) S hK hP (c_X3_thrown l E M2) (cwV 0 S.2.2.2.2 gL_law_X3_thrown rfl rfl rfl (by decide +kernel) ⟨Nat.le_of_ble_eq_true rfl, Nat.le_of_ble_eq_true rfl⟩) (k_rY hK hP rfl) rfl hl.1 rfl (Nat.le_of_ble_eq_true rfl) dL_law_370 ⟨hc.1, hc.2⟩ (fun t ht => ?_)
    refine lv_iload hx hb dL_law_373 (lv_at hl 1 rfl) ?_
    refine k_eq (tgt := 380) hx hb dL_law_375 (by decide) (by omega) (fun _ => ?_) (fun q => absurd (ht.trans ht0) q)
    refine lv_iload hx hb dL_law_380 (lv_at hl 1 rfl) ?_
    refine k_ne0 (tgt := 397) hx hb dL_law_382 (by decide) (by omega) (fun _ => ?_) (fun q => absurd q (by decide))
    have hf : kFt M M2 := by
      rcases hz.1 with q | q | q <;> first | (exfalso; omega) | exact q.2.2 | exact q.2.2.2 | exact q.2.2.2.2 | exact q.2.2.2.2.2 | exact q.2.2.2.2.2.2
    refine lv_goto (tgt := 1416) hx hb dL_law_397 (by decide) ?_
    exact next _ _ _ _ (kI_m hI (kFt_m hf)) hP hS (lv_sub hl [2, 3, 4, 5, 6] rfl)
  · skip
    refine lv_aload_n hx hb dL_law_344 rfl (lv_at hl 3 rfl) ?_
    refine lv_aload_n hx hb dL_law_345 rfl (lv_at hl 4 rfl) ?_
    refine lv_iload hx hb dL_law_346 (lv_at hl 0 rfl) ?_
    refine k_push hx hb dL_law_348 ?_
    refine k_add hx hb dL_law_349 ?_
    refine k_sld S hScr hbl hbA hS (by omega) e1 dL_law_350 ?_
    refine lv_aload_n hx hb dL_law_351 rfl (lv_at hl 1 rfl) ?_
    refine k_callHT (As := [.ref (E.2.2 10), .int (zI st), .ref (E.2.2 102)]) (rest := []) S hK hX hZ hP hS (c_L_add_b2 l E hlst M st hW (by omega) (by omega)) (vx_cwSW 3 S.2.2.2.2 gL_law_L_add rfl rfl rfl (by decide +kernel) ⟨Nat.le_of_ble_eq_true rfl, Nat.le_of_ble_eq_true rfl⟩) rfl hl.1 rfl (Nat.le_of_ble_eq_true rfl) dL_law_352 ⟨hc.1, hc.2⟩ (fun H locs hP hS => ?_)
    refine lv_istore (lv' := [(5, .int (zI 2)), (4, .int (zI i)), (3, .ref (E.2.2 102)), (2, .ref (E.2.2 11)), (1, .ref (E.2.2 10)), (0, .ref bs)]) hx hb dL_law_355 hl (by decide) rfl (fun ls hl => ?_)
    have q15 : M 15 0 = M 0 1 := kI_15 hI (g := 0) (by omega)
    have q151 : M 15 1 = M 1 1 := kI_15 hI (g := 1) (by omega)
    have q4 : M 11 4 = M 2 1 := hI.2.2.2.1
    refine lv_aload_n hx hb dL_law_357 rfl (lv_at hl 3 rfl) ?_
    refine lv_aload_n hx hb dL_law_358 rfl (lv_at hl 5 rfl) ?_
    refine lv_iload hx hb dL_law_359 (lv_at hl 1 rfl) ?_
    refine k_push hx hb dL_law_361 ?_
    refine k_add hx hb dL_law_362 ?_
    refine k_sld S hScr hbl hbA hS (by omega) e1 dL_law_363 ?_
    refine k_callVW (As := [.int (zI st)]) (rest := []) S hK hP hS (c_X3_add l E hE M st (kI_wm hI) (by omega)) (cwV 1 S.2.2.2.2 gL_law_X3_add rfl rfl rfl (by decide +kernel) ⟨Nat.le_of_ble_eq_true rfl, Nat.le_of_ble_eq_true rfl⟩) (k_rY hK hP rfl) rfl hl.1 rfl (Nat.le_of_ble_eq_true rfl) dL_law_364 ⟨hc.1, hc.2⟩ (fun z M2 H locs hz hP hS => ?_)
    refine lv_istore (lv' := [(6, .int (zI z)), (5, .int (zI 2)), (4, .int (zI i)), (3, .ref (E.2.2 102)), (2, .ref (E.2.2 11)), (1, .ref (E.2.2 10)), (0, .ref bs)]) hx hb dL_law_367 hl (by decide) rfl (fun ls hl => ?_)
    try simp only [q15, q151, q4] at hz
    have ht0 : M2 11 0 = 2 := by omega
    refine lv_aload_n hx hb dL_law_369 rfl (lv_at hl 4 rfl) ?_
    refine k_callV (As := []) (rest := []) S hK hP (c_X3_thrown l E M2) (cwV 0 S.2.2.2.2 gL_law_X3_thrown rfl rfl rfl (by decide +kernel) ⟨Nat.le_of_ble_eq_true rfl, Nat.le_of_ble_eq_true rfl⟩) (k_rY hK hP rfl) rfl hl.1 rfl (Nat.le_of_ble_eq_true rfl) dL_law_370 ⟨hc.1, hc.2⟩ (fun t ht => ?_)
    refine lv_iload hx hb dL_law_373 (lv_at hl 1 rfl) ?_
    refine k_eq (tgt := 380) hx hb dL_law_375 (by decide) (by omega) (fun _ => ?_) (fun q => absurd (ht.trans ht0) q)
    refine lv_iload hx hb dL_law_380 (lv_at hl 1 rfl) ?_
    refine k_ne0 (tgt := 397) hx hb dL_law_382 (by decide) (by omega) (fun _ => ?_) (fun q => absurd q (by decide))
    have hf : kFt M M2 := by
      rcases hz.1 with q | q | q <;> first | (exfalso; omega) | exact q.2.2 | exact q.2.2.2 | exact q.2.2.2.2 | exact q.2.2.2.2.2 | exact q.2.2.2.2.2.2
    refine lv_goto (tgt := 1416) hx hb dL_law_397 (by decide) ?_
    exact next _ _ _ _ (kI_m hI (kFt_m hf)) hP hS (lv_sub hl [2, 3, 4, 5, 6] rfl)
  · skip
    refine lv_aload_n hx hb dL_law_344 rfl (lv_at hl 3 rfl) ?_
    refine lv_aload_n hx hb dL_law_345 rfl (lv_at hl 4 rfl) ?_
    refine lv_iload hx hb dL_law_346 (lv_at hl 0 rfl) ?_
    refine k_push hx hb dL_law_348 ?_
    refine k_add hx hb dL_law_349 ?_
    refine k_sld S hScr hbl hbA hS (by omega) e1 dL_law_350 ?_
    refine lv_aload_n hx hb dL_law_351 rfl (lv_at hl 1 rfl) ?_
    refine k_callHW (As := [.ref (E.2.2 10), .int (zI st), .ref (E.2.2 102)]) (rest := []) S hK hP hS (c_L_add l E hE M st hW (by omega) (by omega)) (vx_cwSW 3 S.2.2.2.2 gL_law_L_add rfl rfl rfl (by decide +kernel) ⟨Nat.le_of_ble_eq_true rfl, Nat.le_of_ble_eq_true rfl⟩) rfl hl.1 rfl (Nat.le_of_ble_eq_true rfl) dL_law_352 ⟨Nat.le_trans (Nat.le_add_right cells 1) hc.1, Nat.le_trans (Nat.le_add_right slots 6) hc.2⟩ (fun z1 M1 H locs hLk hP hS => ?_)
    obtain ⟨rfl, v, N1, hv, eM1⟩ := hLk
    refine W.widen (k := cells + 1) (n := slots + 6) (by omega) (by omega) ?_
    refine lv_istore (lv' := [(5, .int (zI 0)), (4, .int (zI i)), (3, .ref (E.2.2 102)), (2, .ref (E.2.2 11)), (1, .ref (E.2.2 10)), (0, .ref bs)]) hx hb dL_law_355 hl (by decide) rfl (fun ls hl => ?_)
    have q4 : M1 11 4 = M 2 1 := by rw [eM1, kU_at, if_neg (by omega), hv.1, kU_at, if_neg (by omega), kU_at, if_neg (by omega)]; exact hI.2.2.2.1
    refine lv_aload_n hx hb dL_law_357 rfl (lv_at hl 3 rfl) ?_
    refine lv_aload_n hx hb dL_law_358 rfl (lv_at hl 5 rfl) ?_
    refine lv_iload hx hb dL_law_359 (lv_at hl 1 rfl) ?_
    refine k_push hx hb dL_law_361 ?_
    refine k_add hx hb dL_law_362 ?_
    refine k_sld S hScr hbl hbA hS (by omega) e1 dL_law_363 ?_
    refine k_callVW (As := [.int (zI st)]) (rest := []) S hK hP hS (c_X3_add l E hE M1 st (kWm_eq (kI_wm hI) (fun c9 k9 c91 c92 => by rw [eM1, kU_at, if_neg (by omega), hv.1, kU_at, if_neg (by omega), kU_at, if_neg (by omega)])) (by omega)) (cwV 1 S.2.2.2.2 gL_law_X3_add rfl rfl rfl (by decide +kernel) ⟨Nat.le_of_ble_eq_true rfl, Nat.le_of_ble_eq_true rfl⟩) (k_rY hK hP rfl) rfl hl.1 rfl (Nat.le_of_ble_eq_true rfl) dL_law_364 ⟨hc.1, hc.2⟩ (fun z M2 H locs hz hP hS => ?_)
    refine lv_istore (lv' := [(6, .int (zI z)), (5, .int (zI 0)), (4, .int (zI i)), (3, .ref (E.2.2 102)), (2, .ref (E.2.2 11)), (1, .ref (E.2.2 10)), (0, .ref bs)]) hx hb dL_law_367 hl (by decide) rfl (fun ls hl => ?_)
    have ht0 : M2 11 0 = 0 := by omega
    refine lv_aload_n hx hb dL_law_369 rfl (lv_at hl 4 rfl) ?_
    refine k_callV (As := []) (rest := []) S hK hP (c_X3_thrown l E M2) (cwV 0 S.2.2.2.2 gL_law_X3_thrown rfl rfl rfl (by decide +kernel) ⟨Nat.le_of_ble_eq_true rfl, Nat.le_of_ble_eq_true rfl⟩) (k_rY hK hP rfl) rfl hl.1 rfl (Nat.le_of_ble_eq_true rfl) dL_law_370 ⟨hc.1, hc.2⟩ (fun t ht => ?_)
    refine lv_iload hx hb dL_law_373 (lv_at hl 1 rfl) ?_
    refine k_eq (tgt := 380) hx hb dL_law_375 (by decide) (by omega) (fun _ => ?_) (fun q => absurd (ht.trans ht0) q)
    refine lv_iload hx hb dL_law_380 (lv_at hl 1 rfl) ?_
    refine k_ne0 (tgt := 397) hx hb dL_law_382 (by decide) (by omega) (fun q => absurd rfl q) (fun _ => ?_)
    have q := ((hz.1).resolve_left (fun q => by omega)).resolve_left (fun q => by omega)
    have hIN := (kI_add hI (by omega) (by omega) hv.1 eM1 q.2.2.2.2.2).1
    have hv3 := hv.2
    have h102 : M2 102 0 = z := by rw [q.2.2.2.2.2 102 0 (by omega), kU_at, if_neg (by omega), kU_at, if_neg (by omega), eM1, kU_same]; omega
    refine lv_aload_n hx hb dL_law_385 rfl (lv_at hl 3 rfl) ?_
    refine k_push hx hb dL_law_386 ?_
    refine k_lald S hK hP dL_law_387 ?_
    refine lv_iload hx hb dL_law_388 (lv_at hl 0 rfl) ?_
    refine k_i2l hx hb dL_law_390 (by omega) ?_
    rw [h102]
    refine k_lcmpE hx hb dL_law_391 ?_
    refine k_eq0 (tgt := 397) hx hb dL_law_392 (by decide) (by omega) (fun _ => ?_) (fun q => absurd rfl q)
    refine lv_goto (tgt := 1416) hx hb dL_law_397 (by decide) ?_
    exact next _ _ _ _ hIN hP hS (lv_sub hl [2, 3, 4, 5, 6] rfl)
