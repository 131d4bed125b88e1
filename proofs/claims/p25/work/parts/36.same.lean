set_option maxHeartbeats 4000000 in
set_option maxRecDepth 100000 in
theorem s_same_in {pg : Program} {l : Launch} {en : Env} {s0 : State} {mi : MethodId} {ar : Array Value} {bl : List Frame} {me : Method} {co : Code} {ls : Array Slot} {Q : State → Prop} {H : Heap} {locs : List Loc} {E0 E : kE} {M N : kM} {g r h sum pairs : Int} {y : Int → Int} {cells slots : Nat} (hI : kI0 M) (hV : kVw E0 E M N g r y) (hh : 0 ≤ h ∧ h < 2) (S : CallFix pg mi co cX4_isSame 11 s0 ar wsX4_isSame RX4) (hP : va_P E.1 vwCl (kW E N) H) (hK : kK E s0) (hcs0 : cells ≤ 28 ∧ slots ≤ 29287)
    (jn_279 : ∀  (u : Int) (w : Int), (u = sum + kSS M h) → (w = pairs + kPr (M h 1)) → ∀ ls : Array Slot, lv_has ls 11 [(0, .ref (E.2.2 g)), (1, .ref (E.2.2 10)), (2, .ref (E.2.2 r)), (5, .int (zI u)), (6, .int (zI w)), (7, .int (zI h))] → W pg l en rX4_isSame s0 mi ar bl me co H locs cells slots Q (F0 mi 279 ls []))
    (hl : lv_has ls 11 [(0, .ref (E.2.2 g)), (1, .ref (E.2.2 10)), (2, .ref (E.2.2 r)), (5, .int (zI sum)), (6, .int (zI pairs)), (7, .int (zI h)), (8, .ref (E.2.2 (y h)))]) : W pg l en rX4_isSame s0 mi ar bl me co H locs cells slots Q (F0 mi 169 ls []) := by
  have hx := S.1
  have hb := S.2.1
  have hn := hK.2.2.2
  have hinX00 : ∀ w ∈ wsX00, w ∈ wsX4_isSame := fun w h => List.mem_cons_of_mem _ (List.mem_append_left _ (List.mem_append_left _ (List.mem_append_right _ (h))))
  have hinX10 : ∀ w ∈ wsX10, w ∈ wsX4_isSame := fun w h => List.mem_cons_of_mem _ (List.mem_append_left _ (List.mem_append_right _ (h)))
  have hinX20 : ∀ w ∈ wsX20, w ∈ wsX4_isSame := fun w h => List.mem_cons_of_mem _ (List.mem_append_left _ (List.mem_append_left _ (List.mem_append_left _ (List.mem_append_right _ (h)))))
  have hinX30 : ∀ w ∈ wsX30, w ∈ wsX4_isSame := fun w h => List.mem_cons_of_mem _ (List.mem_append_left _ (List.mem_append_left _ (List.mem_append_left _ (List.mem_append_left _ (List.mem_append_left _ (List.mem_append_right _ (h)))))))
  have hinX40 : ∀ w ∈ wsX40, w ∈ wsX4_isSame := fun w h => List.mem_cons_of_mem _ (List.mem_append_left _ (List.mem_append_left _ (List.mem_append_left _ (List.mem_append_left _ (List.mem_append_right _ (h))))))
  have hl : lv_has ls 11 [(0, .ref (E.2.2 g)), (1, .ref (E.2.2 10)), (2, .ref (E.2.2 r)), (5, .int (zI sum)), (6, .int (zI pairs)), (7, .int (zI h)), (8, .ref (E.2.2 (y h)))] := hl
  obtain ⟨hV1, hr0, hR⟩ := id hV
  obtain ⟨hL, wd, hw9⟩ := id hR
  obtain ⟨hT, hFO, hP2, -⟩ := hw9 h hh.1 hh.2
  have hP2 : kOrd (M (h + 3)) (M h 1) (N (r + 17 + h)) := hP2
  have hs := hV1.sm
  have hIN := hV1.I0 hI
  have hWN := hIN.1
  have hO2 := hIN.2.1
  obtain ⟨hn0, hn1, hv⟩ := hI.1 h ⟨hh.1, by omega⟩
  have e1 : N h = M h := hV1.fn (by omega)
  have e3 : N (h + 3) = M (h + 3) := hV1.fn (by omega)
  have e11 : N h 1 = M h 1 := by rw [e1]
  have ay : ∀ j : Int, 0 ≤ j → j < M h 1 → N (y h) j = M (h + 3) j := fun j j1 j2 => hs.at (i := h) (j := j) ⟨hh.1, by omega⟩ ⟨j1, j2⟩
  have arr : kArr E N (y h) (M h 1) := hs.arr (i := h) ⟨hh.1, by omega⟩
  have hvN : ∀ j : Int, 0 ≤ j → j < M h 1 → 0 ≤ N (y h) j ∧ N (y h) j ≤ 8 := fun j j1 j2 => by rw [ay j j1 j2]; exact hv j j1 j2
  refine k_push hx hb dX4_isSame_169 ?_
  refine lv_istore (lv' := [(9, .int (zI 0)), (0, .ref (E.2.2 g)), (1, .ref (E.2.2 10)), (2, .ref (E.2.2 r)), (5, .int (zI sum)), (6, .int (zI pairs)), (7, .int (zI h)), (8, .ref (E.2.2 (y h)))]) hx hb dX4_isSame_170 hl (by decide) rfl (fun ls hl => ?_)
  have lp_172 : ∀ (n_172 : Nat) (u : Int) (w : Int) (k : Int), (0 ≤ k ∧ k ≤ M h 1) → (u = sum + kSum (kNx (M (h + 3)) (M h 1) (N (r + 17 + h))) (k - 1).toNat) → (w = pairs + kPr k) → (M h 1 - k < (n_172 : Int)) → ∀ ls : Array Slot, lv_has ls 11 [(0, .ref (E.2.2 g)), (1, .ref (E.2.2 10)), (2, .ref (E.2.2 r)), (5, .int (zI u)), (6, .int (zI w)), (7, .int (zI h)), (8, .ref (E.2.2 (y h))), (9, .int (zI k))] → W pg l en rX4_isSame s0 mi ar bl me co H locs cells slots Q (F0 mi 172 ls []) := by
    intro n_172
    induction n_172 with
    | zero => intro u w k h1 hu hw hm_172; exfalso; omega
    | succ n_172 ih_172 =>
      intro u w k h1 hu hw hm_172 ls hl
      refine lv_iload hx hb dX4_isSame_172 (lv_at hl 7 rfl) ?_
      refine lv_aload hx hb dX4_isSame_174 (lv_at hl 6 rfl) ?_
      refine k_alen S hK hP (M h 1) (arr) dX4_isSame_176 ?_
      refine k_ge (tgt := 279) hx hb dX4_isSame_177 (by decide) (by omega) (fun c_177 => ?_) (fun c_177 => ?_)
      · skip
        refine jn_279 u w ?_ ?_ _ (lv_sub hl [0, 1, 2, 3, 4, 5] rfl)
        · rw [hu, kNx_fin hn0 (by omega), kSS_any (hI.2.1 h hh) hP2]
        · rw [hw, show k = M h 1 by omega]
      · skip
        refine lv_aload_n hx hb dX4_isSame_180 rfl (lv_at hl 2 rfl) ?_
        refine k_rowsR S hK hP hinX30 8 (by decide) (by decide) (S.2.2.2.2 _ (List.mem_cons_of_mem _ (List.mem_append_left _ (List.mem_append_left _ (List.mem_append_left _ (List.mem_append_left _ (List.mem_append_left _ (List.mem_append_left _ (List.mem_append_left _ (List.mem_of_getElem? (i := 7) rfl)))))))))) dX4_isSame_181 ⟨hL.1.1, by have := hL.1.2.1; omega, hL.1.2.2⟩ (a := E.2.2 (r + 16)) (hL.fld 16 (by unfold kRfd; omega) (by omega)) rfl ?_
        refine lv_iload hx hb dX4_isSame_184 (lv_at hl 5 rfl) ?_
        refine k_aald S hK hP 2 (hL.grp 16 (by unfold kRgp; omega) (by omega)) (by omega) (a := E.2.2 (r + 17 + h)) (hL.row 16 (by unfold kRgp; omega) (by omega) (by omega) (by omega)) dX4_isSame_186 ?_
        refine lv_iload hx hb dX4_isSame_187 (lv_at hl 7 rfl) ?_
        refine k_ald S hK hP (42) (hL.arr (17 + h) 42 (by unfold kRof; omega) (by omega)) (by omega) dX4_isSame_189 ?_
        refine k_nm (fun v10_190 ev10_190 => ?_)
        refine lv_istore (lv' := [(10, .int (zI v10_190)), (0, .ref (E.2.2 g)), (1, .ref (E.2.2 10)), (2, .ref (E.2.2 r)), (5, .int (zI u)), (6, .int (zI w)), (7, .int (zI h)), (8, .ref (E.2.2 (y h))), (9, .int (zI k))]) hx hb dX4_isSame_190 hl (by decide) rfl (fun ls hl => ?_)
        have p1 := hP2.1 k h1.1 (by omega)
        rw [← ev10_190] at p1
        refine lv_aload_n hx hb dX4_isSame_192 rfl (lv_at hl 2 rfl) ?_
        refine lv_iload hx hb dX4_isSame_193 (lv_at hl 6 rfl) ?_
        refine lv_iload hx hb dX4_isSame_195 (lv_at hl 8 rfl) ?_
        refine k_callV (As := [.int (zI h), .int (zI k)]) (rest := []) S hK hP (c_X2_stitch l E N h k (by omega) (by assumption) (by omega)) (cwV 2 S.2.2.2.2 gX4_isSame_X2_stitch rfl rfl rfl (by decide +kernel) ⟨Nat.le_of_ble_eq_true rfl, Nat.le_of_ble_eq_true rfl⟩) (k_rX hK hP rfl) rfl hl.1 rfl (Nat.le_of_ble_eq_true rfl) dX4_isSame_197 ⟨by show _ ≤ (28 : Nat); omega, by show _ ≤ (29287 : Nat); omega⟩ (fun z_197 h_197 => ?_)
        refine lv_aload hx hb dX4_isSame_200 (lv_at hl 7 rfl) ?_
        refine lv_iload hx hb dX4_isSame_202 (lv_at hl 8 rfl) ?_
        refine k_ald S hK hP (M h 1) (arr) (by omega) dX4_isSame_204 ?_
        have a1 := ay k h1.1 (by omega)
        have a2 : N (h + 3) k = M (h + 3) k := by rw [e3]
        have a3 := hv k h1.1 (by omega)
        refine k_ne (tgt := 234) hx hb dX4_isSame_205 (by decide) (by omega) (fun c_205 => ?_) (fun c_205 => ?_)
        · exact absurd c_205 (by omega)
        · skip
          refine lv_aload_n hx hb dX4_isSame_208 rfl (lv_at hl 2 rfl) ?_
          refine lv_iload hx hb dX4_isSame_209 (lv_at hl 6 rfl) ?_
          refine lv_iload hx hb dX4_isSame_211 (lv_at hl 8 rfl) ?_
          refine k_callV (As := [.int (zI h), .int (zI k)]) (rest := []) S hK hP (c_X2_end l E N h k (by omega) (by assumption) (by assumption) (by omega)) (cwV 2 S.2.2.2.2 gX4_isSame_X2_end rfl rfl rfl (by decide +kernel) ⟨Nat.le_of_ble_eq_true rfl, Nat.le_of_ble_eq_true rfl⟩) (k_rX hK hP rfl) rfl hl.1 rfl (Nat.le_of_ble_eq_true rfl) dX4_isSame_213 ⟨by show _ ≤ (28 : Nat); omega, by show _ ≤ (29287 : Nat); omega⟩ (fun z_213 h_213 => ?_)
          have e213 : z_213 = v10_190 := by
            have q := h_213.1
            rw [e3, e11] at q
            refine kIsEnd_one q ⟨p1.1, p1.2, ?_⟩
            rw [ev10_190]; exact kOrd_at hP2 ⟨h1.1, by omega⟩
          refine lv_iload hx hb dX4_isSame_216 (lv_at hl 0 rfl) ?_
          refine k_ne (tgt := 234) hx hb dX4_isSame_218 (by decide) (by omega) (fun c_218 => ?_) (fun c_218 => ?_)
          · exact absurd c_218 (by omega)
          · skip
            refine lv_aload_n hx hb dX4_isSame_221 rfl (lv_at hl 2 rfl) ?_
            refine lv_iload hx hb dX4_isSame_222 (lv_at hl 6 rfl) ?_
            refine lv_iload hx hb dX4_isSame_224 (lv_at hl 0 rfl) ?_
            refine k_callV (As := [.int (zI h), .int (zI v10_190)]) (rest := []) S hK hP (c_X2_rank l E N h v10_190 (by omega) (by assumption) (by assumption) (by omega)) (cwV 2 S.2.2.2.2 gX4_isSame_X2_rank rfl rfl rfl (by decide +kernel) ⟨Nat.le_of_ble_eq_true rfl, Nat.le_of_ble_eq_true rfl⟩) (k_rX hK hP rfl) rfl hl.1 rfl (Nat.le_of_ble_eq_true rfl) dX4_isSame_226 ⟨by show _ ≤ (28 : Nat); omega, by show _ ≤ (29287 : Nat); omega⟩ (fun z_226 h_226 => ?_)
            have e226 : z_226 = k := by
              have q := h_226.1
              rw [e3, e11, ev10_190] at q
              rw [q]; exact kOrd_at hP2 ⟨h1.1, by omega⟩
            refine lv_iload hx hb dX4_isSame_229 (lv_at hl 8 rfl) ?_
            refine k_eq (tgt := 236) hx hb dX4_isSame_231 (by decide) (by omega) (fun c_231 => ?_) (fun c_231 => ?_)
            · skip
              refine lv_iload hx hb dX4_isSame_236 (lv_at hl 8 rfl) ?_
              refine k_ne0 (tgt := 244) hx hb dX4_isSame_238 (by decide) (by omega) (fun c_238 => ?_) (fun c_238 => ?_)
              · skip
                have p0 := hP2.1 (k - 1) (by omega) (by omega)
                refine lv_iload hx hb dX4_isSame_244 (lv_at hl 4 rfl) ?_
                refine lv_aload hx hb dX4_isSame_246 (lv_at hl 7 rfl) ?_
                refine lv_aload_n hx hb dX4_isSame_248 rfl (lv_at hl 3 rfl) ?_
                refine k_rowsR S hK hP hinX30 8 (by decide) (by decide) (S.2.2.2.2 _ (List.mem_cons_of_mem _ (List.mem_append_left _ (List.mem_append_left _ (List.mem_append_left _ (List.mem_append_left _ (List.mem_append_left _ (List.mem_append_left _ (List.mem_append_left _ (List.mem_of_getElem? (i := 7) rfl)))))))))) dX4_isSame_249 ⟨hL.1.1, by have := hL.1.2.1; omega, hL.1.2.2⟩ (a := E.2.2 (r + 16)) (hL.fld 16 (by unfold kRfd; omega) (by omega)) rfl ?_
                refine lv_iload hx hb dX4_isSame_252 (lv_at hl 6 rfl) ?_
                refine k_aald S hK hP 2 (hL.grp 16 (by unfold kRgp; omega) (by omega)) (by omega) (a := E.2.2 (r + 17 + h)) (hL.row 16 (by unfold kRgp; omega) (by omega) (by omega) (by omega)) dX4_isSame_254 ?_
                refine lv_iload hx hb dX4_isSame_255 (lv_at hl 8 rfl) ?_
                refine k_push hx hb dX4_isSame_257 ?_
                refine k_sub hx hb dX4_isSame_258 ?_
                refine k_ald S hK hP (42) (hL.arr (17 + h) 42 (by unfold kRof; omega) (by omega)) (by omega) dX4_isSame_259 ?_
                refine lv_aload hx hb dX4_isSame_260 (lv_at hl 7 rfl) ?_
                refine lv_iload hx hb dX4_isSame_262 (lv_at hl 0 rfl) ?_
                refine k_callSN (As := [.ref (E.2.2 (y h)), .int (zI (N (r + 17 + h) (k - 1))), .ref (E.2.2 (y h)), .int (zI v10_190)]) (rest := [.int (zI u)]) S hK hP (c_L_common l E N (y h) (N (r + 17 + h) (k - 1)) (y h) v10_190 (M h 1) (M h 1) arr arr hvN hvN (by omega) (by omega)) ⟨va_cnB 4 S.2.2.2.2 gX4_isSame_L_common_n18 rfl rfl rfl hK.2.1.2.2.2.1 (S.2.2.2.2 _ (List.mem_cons_of_mem _ (List.mem_append_left _ (List.mem_append_left _ (List.mem_append_left _ (List.mem_append_left _ (List.mem_append_left _ (List.mem_append_left _ (List.mem_append_right _ (List.mem_append_right _ (List.mem_append_right _ (List.mem_append_right _ (List.mem_append_right _ (List.mem_append_left _ (List.mem_of_getElem? (i := 15) rfl))))))))))))))) (by decide +kernel) ⟨Nat.le_of_ble_eq_true rfl, Nat.le_of_ble_eq_true rfl⟩, (S.2.2.2.2 _ (List.mem_cons_of_mem _ (List.mem_append_left _ (List.mem_append_left _ (List.mem_append_left _ (List.mem_append_left _ (List.mem_append_left _ (List.mem_append_left _ (List.mem_append_right _ (List.mem_append_right _ (List.mem_append_right _ (List.mem_append_right _ (List.mem_append_right _ (List.mem_append_left _ (List.mem_of_getElem? (i := 14) rfl))))))))))))))), trivial⟩ rfl hl.1 rfl (Nat.le_of_ble_eq_true rfl) dX4_isSame_264 ⟨by show _ ≤ (28 : Nat); omega, by show _ ≤ (29287 : Nat); omega⟩ (fun z_264 h_264 => ?_)
                have hz : z_264 = kL (M (h + 3)) (M h 1) (N (r + 17 + h) (k - 1)) (M (h + 3)) (M h 1) (N (r + 17 + h) k) := by
                  rw [← ev10_190]
                  exact kL_of (kLC_congr h_264 (by omega) (by omega) (fun j j1 j2 => (ay j j1 j2).symm) (fun j j1 j2 => (ay j j1 j2).symm))
                refine k_add hx hb dX4_isSame_267 ?_
                refine k_nm (fun v5_268 ev5_268 => ?_)
                refine lv_istore (lv' := [(5, .int (zI v5_268)), (10, .int (zI v10_190)), (0, .ref (E.2.2 g)), (1, .ref (E.2.2 10)), (2, .ref (E.2.2 r)), (6, .int (zI w)), (7, .int (zI h)), (8, .ref (E.2.2 (y h))), (9, .int (zI k))]) hx hb dX4_isSame_268 hl (by decide) rfl (fun ls hl => ?_)
                obtain ⟨v6_270, ev6_270⟩ : ∃ v : Int, v = w + 1 := ⟨_, rfl⟩
                refine k_incN (v := v6_270) (lv' := [(6, .int (zI v6_270)), (5, .int (zI v5_268)), (10, .int (zI v10_190)), (0, .ref (E.2.2 g)), (1, .ref (E.2.2 10)), (2, .ref (E.2.2 r)), (7, .int (zI h)), (8, .ref (E.2.2 (y h))), (9, .int (zI k))]) hx hb dX4_isSame_270 hl (k := 5) rfl ev6_270 (by decide) rfl (fun ls hl => ?_)
                obtain ⟨v9_273, ev9_273⟩ : ∃ v : Int, v = k + 1 := ⟨_, rfl⟩
                refine k_incN (v := v9_273) (lv' := [(9, .int (zI v9_273)), (6, .int (zI v6_270)), (5, .int (zI v5_268)), (10, .int (zI v10_190)), (0, .ref (E.2.2 g)), (1, .ref (E.2.2 10)), (2, .ref (E.2.2 r)), (7, .int (zI h)), (8, .ref (E.2.2 (y h)))]) hx hb dX4_isSame_273 hl (k := 8) rfl ev9_273 (by decide) rfl (fun ls hl => ?_)
                refine lv_goto (tgt := 172) hx hb dX4_isSame_276 (by decide) ?_
                refine ih_172 v5_268 v6_270 v9_273 (by omega) ?_ ?_ (by omega) _ (lv_sub hl [4, 5, 6, 2, 1, 7, 8, 0] rfl)
                · rw [ev9_273]
                  first | (rw [ev5_268]; exact kNx_add ⟨by omega, by omega⟩ hu hz) | exact hu.trans (by rw [show (k - 1).toNat = 0 by omega, show (k + 1 - 1).toNat = 0 by omega])
                · rw [ev9_273]
                  unfold kPr at hw ⊢
                  split at hw <;> split <;> omega
              · skip
                refine lv_goto (tgt := 273) hx hb dX4_isSame_241 (by decide) ?_
                obtain ⟨v9_273, ev9_273⟩ : ∃ v : Int, v = k + 1 := ⟨_, rfl⟩
                refine k_incN (v := v9_273) (lv' := [(9, .int (zI v9_273)), (10, .int (zI v10_190)), (0, .ref (E.2.2 g)), (1, .ref (E.2.2 10)), (2, .ref (E.2.2 r)), (5, .int (zI u)), (6, .int (zI w)), (7, .int (zI h)), (8, .ref (E.2.2 (y h)))]) hx hb dX4_isSame_273 hl (k := 8) rfl ev9_273 (by decide) rfl (fun ls hl => ?_)
                refine lv_goto (tgt := 172) hx hb dX4_isSame_276 (by decide) ?_
                refine ih_172 u w v9_273 (by omega) ?_ ?_ (by omega) _ (lv_sub hl [2, 3, 4, 5, 6, 7, 8, 0] rfl)
                · rw [ev9_273]
                  first | (rw [ev5_268]; exact kNx_add ⟨by omega, by omega⟩ hu hz) | exact hu.trans (by rw [show (k - 1).toNat = 0 by omega, show (k + 1 - 1).toNat = 0 by omega])
                · rw [ev9_273]
                  unfold kPr at hw ⊢
                  split at hw <;> split <;> omega
            · exact absurd c_231 (by omega)
  refine lp_172 (((M h 1 - 0 : Int)).toNat + 1) sum pairs 0 (by omega) ?_ ?_ (by omega) _ (lv_sub hl [1, 2, 3, 4, 5, 6, 7, 0] rfl)
  · show sum = sum + 0
    omega
  · show pairs = pairs + 0
    omega
set_option maxHeartbeats 4000000 in
set_option maxRecDepth 100000 in
theorem s_same_rep {pg : Program} {l : Launch} {en : Env} {s0 : State} {mi : MethodId} {ar : Array Value} {bl : List Frame} {me : Method} {co : Code} {ls : Array Slot} {Q : State → Prop} {H : Heap} {locs : List Loc} {E0 E : kE} {M N : kM} {g r h sum pairs : Int} {y : Int → Int} {cells slots : Nat} (hI : kI0 M) (hV : kVw E0 E M N g r y) (hh : 0 ≤ h ∧ h < 2) (S : CallFix pg mi co cX4_isSame 11 s0 ar wsX4_isSame RX4) (hP : va_P E.1 vwCl (kW E N) H) (hK : kK E s0) (hcs0 : cells ≤ 28 ∧ slots ≤ 29287) (hX : kExt E0 E) (hS : va_S (kA E0 s0.heap.size) s0.heap H locs) (hG : kG (kA E0 s0.heap.size) s0.heap.size E) (hcs : cells + 3 ≤ 28 ∧ slots + 85 ≤ 29287)
    (jn_386 : ∀  (E_386 : kE) (M_386 : kM) (H : Heap) (locs : List Loc), (kVw E0 E_386 M M_386 g r y) → kExt E0 E_386 → kK E_386 s0 → kG (kA E0 s0.heap.size) s0.heap.size E_386 → va_P E_386.1 vwCl (kW E_386 M_386) H → va_S (kA E0 s0.heap.size) s0.heap H locs → ∀ ls : Array Slot, lv_has ls 11 [(0, .ref (E_386.2.2 g)), (1, .ref (E_386.2.2 10)), (2, .ref (E_386.2.2 r)), (5, .int (zI sum)), (6, .int (zI pairs)), (7, .int (zI h))] → W pg l en rX4_isSame s0 mi ar bl me co H locs (cells + 3) (slots + 85) Q (F0 mi 386 ls []))
    (hl : lv_has ls 11 [(0, .ref (E.2.2 g)), (1, .ref (E.2.2 10)), (2, .ref (E.2.2 r)), (5, .int (zI sum)), (6, .int (zI pairs)), (7, .int (zI h))]) : W pg l en rX4_isSame s0 mi ar bl me co H locs cells slots Q (F0 mi 279 ls []) := by
  have hx := S.1
  have hb := S.2.1
  have hn := hK.2.2.2
  have hinX00 : ∀ w ∈ wsX00, w ∈ wsX4_isSame := fun w h => List.mem_cons_of_mem _ (List.mem_append_left _ (List.mem_append_left _ (List.mem_append_right _ (h))))
  have hinX10 : ∀ w ∈ wsX10, w ∈ wsX4_isSame := fun w h => List.mem_cons_of_mem _ (List.mem_append_left _ (List.mem_append_right _ (h)))
  have hinX20 : ∀ w ∈ wsX20, w ∈ wsX4_isSame := fun w h => List.mem_cons_of_mem _ (List.mem_append_left _ (List.mem_append_left _ (List.mem_append_left _ (List.mem_append_right _ (h)))))
  have hinX30 : ∀ w ∈ wsX30, w ∈ wsX4_isSame := fun w h => List.mem_cons_of_mem _ (List.mem_append_left _ (List.mem_append_left _ (List.mem_append_left _ (List.mem_append_left _ (List.mem_append_left _ (List.mem_append_right _ (h)))))))
  have hinX40 : ∀ w ∈ wsX40, w ∈ wsX4_isSame := fun w h => List.mem_cons_of_mem _ (List.mem_append_left _ (List.mem_append_left _ (List.mem_append_left _ (List.mem_append_left _ (List.mem_append_right _ (h))))))
  have hl : lv_has ls 11 [(0, .ref (E.2.2 g)), (1, .ref (E.2.2 10)), (2, .ref (E.2.2 r)), (5, .int (zI sum)), (6, .int (zI pairs)), (7, .int (zI h))] := hl
  obtain ⟨hV1, hr0, hR⟩ := id hV
  obtain ⟨hL, wd, hw9⟩ := id hR
  obtain ⟨hT, hFO, hP2, -⟩ := hw9 h hh.1 hh.2
  have hP2 : kOrd (M (h + 3)) (M h 1) (N (r + 17 + h)) := hP2
  have hs := hV1.sm
  have hIN := hV1.I0 hI
  have hWN := hIN.1
  have hO2 := hIN.2.1
  obtain ⟨hn0, hn1, hv⟩ := hI.1 h ⟨hh.1, by omega⟩
  have e1 : N h = M h := hV1.fn (by omega)
  have e3 : N (h + 3) = M (h + 3) := hV1.fn (by omega)
  have e11 : N h 1 = M h 1 := by rw [e1]
  have ay : ∀ j : Int, 0 ≤ j → j < M h 1 → N (y h) j = M (h + 3) j := fun j j1 j2 => hs.at (i := h) (j := j) ⟨hh.1, by omega⟩ ⟨j1, j2⟩
  have arr : kArr E N (y h) (M h 1) := hs.arr (i := h) ⟨hh.1, by omega⟩
  have hvN : ∀ j : Int, 0 ≤ j → j < M h 1 → 0 ≤ N (y h) j ∧ N (y h) j ≤ 8 := fun j j1 j2 => by rw [ay j j1 j2]; exact hv j j1 j2
  have hvX : ∀ i j : Int, 0 ≤ i → i < 3 → 0 ≤ j → j < (fun i => M i 1) i → 0 ≤ (fun i => M (i + 3)) i j ∧ (fun i => M (i + 3)) i j ≤ 8 := fun i j i1 i2 j1 j2 => (hI.1 i ⟨i1, i2⟩).2.2 j j1 j2
  have hg := hV1.2.2.1.1
  have hxe := hV1.1.2.2.1
  have hLr := hL.1
  refine lv_aload_n hx hb dX4_isSame_279 rfl (lv_at hl 2 rfl) ?_
  refine lv_iload hx hb dX4_isSame_280 (lv_at hl 5 rfl) ?_
  refine k_callVNR (As := [.int (zI h)]) (rest := []) S hK hG hP hS (c_X3_repeat l E hG.1 N r h (N r 5) (N (r + 15) h) (N (r + 1)) (N (r + 2)) (N (r + 4 + h)) (N (r + 7 + h)) (N (r + 10 + h)) wd (M (h + 3)) (M h 1) (N (r + 13 + h)) hL hh hT ⟨rfl, rfl, rfl, rfl, rfl⟩ hFO) (cwV 1 S.2.2.2.2 gX4_isSame_X3_repeat rfl rfl rfl (by decide +kernel) ⟨Nat.le_of_ble_eq_true rfl, Nat.le_of_ble_eq_true rfl⟩) (k_rRows hK hP ⟨hL.1.1, by have := hL.1.2.1; omega, hL.1.2.2⟩) rfl hl.1 rfl (Nat.le_of_ble_eq_true rfl) dX4_isSame_282 ⟨by show _ ≤ (28 : Nat); omega, by show _ ≤ (29287 : Nat); omega⟩ (fun E282 M282 z_282 H locs hX282 hK hG h_282 hP hS => ?_)
  obtain ⟨ra, rb, rc, md, ⟨kr0, kr1, kr2⟩, rr0, rr1, rr2⟩ := h_282
  have hM282 := md.2.1
  have mz := md.1
  have hl : lv_has ls 11 [(0, .ref (E282.2.2 g)), (1, .ref (E282.2.2 10)), (2, .ref (E282.2.2 r)), (5, .int (zI sum)), (6, .int (zI pairs)), (7, .int (zI h))] := by rw [hX282.ad (c := g) (by omega), hX282.ad (c := 10) (by omega), hX282.ad (c := r) (by omega)]; exact hl
  have hV := hV.ext hX282 hM282
  obtain ⟨hV1, -, hR⟩ := id hV
  have hL := hR.1
  have hs := hV1.sm
  have hIN := hV1.I0 hI
  have hWN := hIN.1
  have hO2 := hIN.2.1
  have e1 : M282 h = M h := hV1.fn (by omega)
  have e3 : M282 (h + 3) = M (h + 3) := hV1.fn (by omega)
  have e11 : M282 h 1 = M h 1 := by rw [e1]
  have e5 : M282 5 = M 5 := hV1.fn (by omega)
  have e21 : M282 2 1 = M 2 1 := by rw [hV1.fn (c := 2) (by omega)]
  have hLr := hL.1
  have hX := hX.tr hX282
  have ar9 : kArr E282 M282 z_282 3 := Or.inr (Or.inr ⟨by omega, by omega, md.2.2.1, md.2.2.2.1, by omega, by omega⟩)
  refine lv_astore (lv' := [(9, .ref (E282.2.2 z_282)), (0, .ref (E282.2.2 g)), (1, .ref (E282.2.2 10)), (2, .ref (E282.2.2 r)), (5, .int (zI sum)), (6, .int (zI pairs)), (7, .int (zI h))]) hx hb dX4_isSame_285 hl (by decide) rfl (fun ls hl => ?_)
  refine k_push hx hb dX4_isSame_287 ?_
  refine lv_istore (lv' := [(10, .int (zI 0)), (9, .ref (E282.2.2 z_282)), (0, .ref (E282.2.2 g)), (1, .ref (E282.2.2 10)), (2, .ref (E282.2.2 r)), (5, .int (zI sum)), (6, .int (zI pairs)), (7, .int (zI h))]) hx hb dX4_isSame_288 hl (by decide) rfl (fun ls hl => ?_)
  have lp_290 : ∀ (n_290 : Nat) (w9 : Int), (0 ≤ w9 ∧ w9 ≤ 3) → (3 - w9 < (n_290 : Int)) → ∀ ls : Array Slot, lv_has ls 11 [(0, .ref (E282.2.2 g)), (1, .ref (E282.2.2 10)), (2, .ref (E282.2.2 r)), (5, .int (zI sum)), (6, .int (zI pairs)), (7, .int (zI h)), (9, .ref (E282.2.2 z_282)), (10, .int (zI w9))] → W pg l en rX4_isSame s0 mi ar bl me co H locs (cells + 1) (slots + 3) Q (F0 mi 290 ls []) := by
    intro n_290
    induction n_290 with
    | zero => intro w9 h1 hm_290; exfalso; omega
    | succ n_290 ih_290 =>
      intro w9 h1 hm_290 ls hl
      refine lv_iload hx hb dX4_isSame_290 (lv_at hl 7 rfl) ?_
      refine k_push hx hb dX4_isSame_292 ?_
      refine k_ge (tgt := 320) hx hb dX4_isSame_293 (by decide) (by omega) (fun c_293 => ?_) (fun c_293 => ?_)
      · skip
        refine lv_aload_n hx hb dX4_isSame_320 rfl (lv_at hl 0 rfl) ?_
        refine lv_iload hx hb dX4_isSame_321 (lv_at hl 5 rfl) ?_
        refine k_callVNR (As := [.int (zI h)]) (rest := []) S hK hG hP hS (c_X4_placesOfSample l E282 hG.1 M282 g h y (fun i => M i 1) (fun i => M (i + 3)) (by exact hs) (by exact hvX) (by omega)) (cwV 1 S.2.2.2.2 gX4_isSame_X4_placesOfSample rfl rfl rfl (by decide +kernel) ⟨Nat.le_of_ble_eq_true rfl, Nat.le_of_ble_eq_true rfl⟩) (k_rSim hK hP ⟨hs.1.1, by have := hs.1.2.1; omega, hs.1.2.2.1⟩) rfl hl.1 rfl (Nat.le_of_ble_eq_true rfl) dX4_isSame_323 ⟨by show _ ≤ (28 : Nat); omega, by show _ ≤ (29287 : Nat); omega⟩ (fun E323 M323 z_323 H locs hX323 hK hG h_323 hP hS => ?_)
        obtain ⟨su, sv, md2, hsu, hsv⟩ := h_323
        have hM323 := md2.2.1
        have mz2 := md2.1
        have hl : lv_has ls 11 [(0, .ref (E323.2.2 g)), (1, .ref (E323.2.2 10)), (2, .ref (E323.2.2 r)), (5, .int (zI sum)), (6, .int (zI pairs)), (7, .int (zI h)), (9, .ref (E323.2.2 z_282)), (10, .int (zI w9))] := by rw [hX323.ad (c := g) (by omega), hX323.ad (c := 10) (by omega), hX323.ad (c := r) (by omega), hX323.ad (c := z_282) (by omega)]; exact hl
        have hV := hV.ext hX323 hM323
        obtain ⟨hV1, -, hR⟩ := id hV
        have hL := hR.1
        have hs := hV1.sm
        have hIN := hV1.I0 hI
        have hWN := hIN.1
        have hO2 := hIN.2.1
        have e1 : M323 h = M h := hV1.fn (by omega)
        have e3 : M323 (h + 3) = M (h + 3) := hV1.fn (by omega)
        have e11 : M323 h 1 = M h 1 := by rw [e1]
        have e5 : M323 5 = M 5 := hV1.fn (by omega)
        have e21 : M323 2 1 = M 2 1 := by rw [hV1.fn (c := 2) (by omega)]
        have hLr := hL.1
        have hX := hX.tr hX323
        have ar10 : kArr E323 M323 z_323 2 := Or.inr (Or.inr ⟨by omega, by omega, md2.2.2.1, md2.2.2.2.1, by omega, by omega⟩)
        refine lv_astore (lv' := [(10, .ref (E323.2.2 z_323)), (0, .ref (E323.2.2 g)), (1, .ref (E323.2.2 10)), (2, .ref (E323.2.2 r)), (5, .int (zI sum)), (6, .int (zI pairs)), (7, .int (zI h)), (9, .ref (E323.2.2 z_282))]) hx hb dX4_isSame_326 hl (by decide) rfl (fun ls hl => ?_)
        refine lv_aload_n hx hb dX4_isSame_328 rfl (lv_at hl 2 rfl) ?_
        refine lv_iload hx hb dX4_isSame_329 (lv_at hl 6 rfl) ?_
        refine k_callV (As := [.int (zI h)]) (rest := []) S hK hP (c_X2_found l E323 M323 h (by omega) (by assumption)) (cwV 1 S.2.2.2.2 gX4_isSame_X2_found rfl rfl rfl (by decide +kernel) ⟨Nat.le_of_ble_eq_true rfl, Nat.le_of_ble_eq_true rfl⟩) (k_rX hK hP rfl) rfl hl.1 rfl (Nat.le_of_ble_eq_true rfl) dX4_isSame_331 ⟨by show _ ≤ (28 : Nat); omega, by show _ ≤ (29287 : Nat); omega⟩ (fun z_331 h_331 => ?_)
        have e338 : z_331 = M323 z_323 0 := by
          have q := h_331.1
          rw [e3, e11, e5, e21] at q
          rw [md2.2.2.2.2 0 (by omega) (by omega)]
          exact q.trans hsu.symm
        refine lv_aload hx hb dX4_isSame_334 (lv_at hl 0 rfl) ?_
        refine k_push hx hb dX4_isSame_336 ?_
        refine k_ald S hK hP (2) (ar10) (by omega) dX4_isSame_337 ?_
        refine k_ne (tgt := 384) hx hb dX4_isSame_338 (by decide) (by omega) (fun c_338 => ?_) (fun c_338 => ?_)
        · exact absurd c_338 (by omega)
        · skip
          refine lv_aload_n hx hb dX4_isSame_341 rfl (lv_at hl 2 rfl) ?_
          refine lv_iload hx hb dX4_isSame_342 (lv_at hl 6 rfl) ?_
          refine k_callV (As := [.int (zI h)]) (rest := []) S hK hP (c_X2_first l E323 M323 h (by omega) (by assumption)) (cwV 1 S.2.2.2.2 gX4_isSame_X2_first rfl rfl rfl (by decide +kernel) ⟨Nat.le_of_ble_eq_true rfl, Nat.le_of_ble_eq_true rfl⟩) (k_rX hK hP rfl) rfl hl.1 rfl (Nat.le_of_ble_eq_true rfl) dX4_isSame_344 ⟨by show _ ≤ (28 : Nat); omega, by show _ ≤ (29287 : Nat); omega⟩ (fun z_344 h_344 => ?_)
          have e351 : z_344 = M323 z_323 1 := by
            have q := h_344.1
            rw [e3, e11, e5, e21] at q
            rw [md2.2.2.2.2 1 (by omega) (by omega)]
            exact kIsFirst_one q hsv
          refine lv_aload hx hb dX4_isSame_347 (lv_at hl 0 rfl) ?_
          refine k_push hx hb dX4_isSame_349 ?_
          refine k_ald S hK hP (2) (ar10) (by omega) dX4_isSame_350 ?_
          refine k_ne (tgt := 384) hx hb dX4_isSame_351 (by decide) (by omega) (fun c_351 => ?_) (fun c_351 => ?_)
          · exact absurd c_351 (by omega)
          · skip
            refine lv_aload_n hx hb dX4_isSame_354 rfl (lv_at hl 2 rfl) ?_
            refine lv_iload hx hb dX4_isSame_355 (lv_at hl 6 rfl) ?_
            refine k_callV (As := [.int (zI h)]) (rest := []) S hK hP (c_X2_period l E323 M323 h (by omega) (by assumption)) (cwV 1 S.2.2.2.2 gX4_isSame_X2_period rfl rfl rfl (by decide +kernel) ⟨Nat.le_of_ble_eq_true rfl, Nat.le_of_ble_eq_true rfl⟩) (k_rX hK hP rfl) rfl hl.1 rfl (Nat.le_of_ble_eq_true rfl) dX4_isSame_357 ⟨by show _ ≤ (28 : Nat); omega, by show _ ≤ (29287 : Nat); omega⟩ (fun z_357 h_357 => ?_)
            refine lv_aload_n hx hb dX4_isSame_360 rfl (lv_at hl 1 rfl) ?_
            refine lv_iload hx hb dX4_isSame_361 (lv_at hl 6 rfl) ?_
            refine k_callV (As := [.int (zI h)]) (rest := [.int (zI z_357)]) S hK hP (c_X4_period l E323 M323 g h y (fun i => M i 1) (fun i => M (i + 3)) (by exact hs) (by exact hvX) (by omega)) (cwV 1 S.2.2.2.2 gX4_isSame_X4_period rfl rfl rfl (by decide +kernel) ⟨Nat.le_of_ble_eq_true rfl, Nat.le_of_ble_eq_true rfl⟩) (k_rSim hK hP ⟨hs.1.1, by have := hs.1.2.1; omega, hs.1.2.2.1⟩) rfl hl.1 rfl (Nat.le_of_ble_eq_true rfl) dX4_isSame_363 ⟨by show _ ≤ (28 : Nat); omega, by show _ ≤ (29287 : Nat); omega⟩ (fun z_363 h_363 => ?_)
            have e366 : z_357 = z_363 := by
              have q := h_357.1
              rw [e3, e11] at q
              exact kIsPer_one q h_363.1
            refine k_ne (tgt := 384) hx hb dX4_isSame_366 (by decide) (by omega) (fun c_366 => ?_) (fun c_366 => ?_)
            · exact absurd c_366 (by omega)
            · skip
              refine lv_aload_n hx hb dX4_isSame_369 rfl (lv_at hl 2 rfl) ?_
              refine lv_iload hx hb dX4_isSame_370 (lv_at hl 6 rfl) ?_
              refine k_callV (As := [.int (zI h)]) (rest := []) S hK hP (c_X2_turned l E323 M323 h (by omega) (by assumption)) (cwV 1 S.2.2.2.2 gX4_isSame_X2_turned rfl rfl rfl (by decide +kernel) ⟨Nat.le_of_ble_eq_true rfl, Nat.le_of_ble_eq_true rfl⟩) (k_rX hK hP rfl) rfl hl.1 rfl (Nat.le_of_ble_eq_true rfl) dX4_isSame_372 ⟨by show _ ≤ (28 : Nat); omega, by show _ ≤ (29287 : Nat); omega⟩ (fun z_372 h_372 => ?_)
              refine lv_aload_n hx hb dX4_isSame_375 rfl (lv_at hl 1 rfl) ?_
              refine lv_iload hx hb dX4_isSame_376 (lv_at hl 6 rfl) ?_
              have e3b := e3
              have e11b := e11
              refine k_callVNI (As := [.int (zI h)]) (rest := [.int (zI z_372)]) S hK hG hP hS (c_X4_turned l E323 hG.1 M323 g h y (fun i => M i 1) (fun i => M (i + 3)) (by exact hs) (by exact hvX) (by omega)) (cwV 1 S.2.2.2.2 gX4_isSame_X4_turned rfl rfl rfl (by decide +kernel) ⟨Nat.le_of_ble_eq_true rfl, Nat.le_of_ble_eq_true rfl⟩) (k_rSim hK hP ⟨hs.1.1, by have := hs.1.2.1; omega, hs.1.2.2.1⟩) rfl hl.1 rfl (Nat.le_of_ble_eq_true rfl) dX4_isSame_378 ⟨by show _ ≤ (28 : Nat); omega, by show _ ≤ (29287 : Nat); omega⟩ (fun E378 M378 z_378 H locs hX378 hK hG h_378 hP hS => ?_)
              have hM378 := h_378.2.2
              have nk378 := h_378.2.1
              have hl : lv_has ls 11 [(10, .ref (E378.2.2 z_323)), (0, .ref (E378.2.2 g)), (1, .ref (E378.2.2 10)), (2, .ref (E378.2.2 r)), (5, .int (zI sum)), (6, .int (zI pairs)), (7, .int (zI h)), (9, .ref (E378.2.2 z_282))] := by rw [hX378.ad (c := z_323) (by omega), hX378.ad (c := g) (by omega), hX378.ad (c := 10) (by omega), hX378.ad (c := r) (by omega), hX378.ad (c := z_282) (by omega)]; exact hl
              have hV := hV.ext hX378 hM378
              obtain ⟨hV1, -, hR⟩ := id hV
              have hL := hR.1
              have hs := hV1.sm
              have hIN := hV1.I0 hI
              have hWN := hIN.1
              have hO2 := hIN.2.1
              have e1 : M378 h = M h := hV1.fn (by omega)
              have e3 : M378 (h + 3) = M (h + 3) := hV1.fn (by omega)
              have e11 : M378 h 1 = M h 1 := by rw [e1]
              have e5 : M378 5 = M 5 := hV1.fn (by omega)
              have e21 : M378 2 1 = M 2 1 := by rw [hV1.fn (c := 2) (by omega)]
              have hLr := hL.1
              have hX := hX.tr hX378
              have e381 : z_372 = z_378 := by
                have q := h_372.1
                rw [show M323 (h + 3) = M (h + 3) from e3b, show M323 h 1 = M h 1 from e11b] at q
                exact kIsTurn_one q h_378.1.1
              refine k_eq (tgt := 386) hx hb dX4_isSame_381 (by decide) (by omega) (fun c_381 => ?_) (fun c_381 => ?_)
              · skip
                refine jn_386 E378 M378 _ _ (by exact hV) hX hK hG hP hS _ (lv_sub hl [1, 2, 3, 4, 5, 6] rfl)
              · exact absurd c_381 (by omega)
      · skip
        refine lv_aload_n hx hb dX4_isSame_296 rfl (lv_at hl 1 rfl) ?_
        refine lv_iload hx hb dX4_isSame_297 (lv_at hl 5 rfl) ?_
        refine lv_iload hx hb dX4_isSame_299 (lv_at hl 7 rfl) ?_
        refine k_callV (As := [.int (zI h), .int (zI w9)]) (rest := []) S hK hP (c_X2_repeat l E282 M282 h w9 (by omega) (by assumption) (by assumption) (by omega)) (cwV 2 S.2.2.2.2 gX4_isSame_X2_repeat rfl rfl rfl (by decide +kernel) ⟨Nat.le_of_ble_eq_true rfl, Nat.le_of_ble_eq_true rfl⟩) (k_rX hK hP rfl) rfl hl.1 rfl (Nat.le_of_ble_eq_true rfl) dX4_isSame_301 ⟨by show _ ≤ (28 : Nat); omega, by show _ ≤ (29287 : Nat); omega⟩ (fun z_301 h_301 => ?_)
        have e309 : z_301 = M282 z_282 w9 := by
          have q := h_301.1
          rw [e3, e11] at q
          rw [md.2.2.2.2 w9 h1.1 (by omega)]
          rcases (show w9 = 0 ∨ w9 = 1 ∨ w9 = 2 by omega) with rfl | rfl | rfl
          · exact kIsRep_one q kr0
          · exact kIsRep_one q kr1
          · exact kIsRep_one q kr2
        refine lv_aload hx hb dX4_isSame_304 (lv_at hl 6 rfl) ?_
        refine lv_iload hx hb dX4_isSame_306 (lv_at hl 7 rfl) ?_
        refine k_ald S hK hP (3) (ar9) (by omega) dX4_isSame_308 ?_
        refine k_eq (tgt := 314) hx hb dX4_isSame_309 (by decide) (by omega) (fun c_309 => ?_) (fun c_309 => ?_)
        · skip
          obtain ⟨v10_314, ev10_314⟩ : ∃ v : Int, v = w9 + 1 := ⟨_, rfl⟩
          refine k_incN (v := v10_314) (lv' := [(10, .int (zI v10_314)), (0, .ref (E282.2.2 g)), (1, .ref (E282.2.2 10)), (2, .ref (E282.2.2 r)), (5, .int (zI sum)), (6, .int (zI pairs)), (7, .int (zI h)), (9, .ref (E282.2.2 z_282))]) hx hb dX4_isSame_314 hl (k := 7) rfl ev10_314 (by decide) rfl (fun ls hl => ?_)
          refine lv_goto (tgt := 290) hx hb dX4_isSame_317 (by decide) ?_
          refine ih_290 v10_314 (by omega) (by omega) _ (lv_sub hl [1, 2, 3, 4, 5, 6, 7, 0] rfl)
        · exact absurd c_309 (by omega)
  refine lp_290 (((3 - 0 : Int)).toNat + 1) 0 (by omega) (by omega) _ (lv_sub hl [2, 3, 4, 5, 6, 7, 1, 0] rfl)
