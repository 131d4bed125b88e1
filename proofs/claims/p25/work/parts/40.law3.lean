theorem kRep_two {x : Int → Int} {n a : Int} (h : kIsRep x n 0 a) : ∃ c : Int, kIsRep x n 2 c := by
  obtain ⟨b, k, t, -⟩ := h
  by_cases e : b = -1
  · exact ⟨0, b, k, t, Or.inr (Or.inr ⟨by decide, by decide, Or.inl ⟨e, rfl⟩⟩)⟩
  · refine ⟨_, b, k, t, Or.inr (Or.inr ⟨by decide, by decide, Or.inr ⟨?_, rfl⟩⟩)⟩
    rcases t with ⟨t1, -⟩ | ⟨t1, -⟩
    · exact absurd t1 e
    · exact t1
set_option maxHeartbeats 4000000 in
set_option maxRecDepth 100000 in
theorem s_law_rep {pg : Program} {l : Launch} {en : Env} {s0 : State} {mi : MethodId} {ar : Array Value} {bl : List Frame} {me : Method} {co : Code} {ls : Array Slot} {Q : State → Prop} {H : Heap} {locs : List Loc} {E0 E : kE} {M N : kM} {g h n c x sum pairs time dg most shared rows : Int} {y : Int → Int} {bs cells slots : Nat} (hI : kI0 M) (hV : kVs E0 E M N g y) (hh : 0 ≤ h ∧ h < 2) (hnn : n = M h 1) (har : kArr E N c n) (hav : ∀ j : Int, 0 ≤ j → j < n → N c j = M (h + 3) j) (S : CallFix pg mi co cL_law 23 s0 ar wsL_law RL) (hP : va_P E.1 vwCl (kW E N) H) (hK : kK E s0) (hcs0 : cells ≤ 600130 ∧ slots ≤ 7301080) (hmost : most = kMaxF (kNx (M (h + 3)) (M h 1) (M (8 + h))) (M h 1).toNat) (hsh : shared = kSS M h)
    (jn_532 : ∀  (u : Int) (rw9 : Int), (u = sum + kSS M h) → (rw9 = kTot (M (h + 3)) (M h 1)) → ∀ ls : Array Slot, lv_has ls 23 [(0, .ref bs), (1, .ref (E.2.2 10)), (2, .ref (E.2.2 g)), (3, .int (zI time)), (4, .int (zI x)), (5, .long (lI dg)), (7, .int (zI u)), (8, .int (zI pairs)), (9, .int (zI h)), (10, .int (zI n)), (11, .ref (E.2.2 c)), (15, .int (zI rw9))] → W pg l en room_1 s0 mi ar bl me co H locs cells slots Q (F0 mi 532 ls []))
    (hl : lv_has ls 23 [(0, .ref bs), (1, .ref (E.2.2 10)), (2, .ref (E.2.2 g)), (3, .int (zI time)), (4, .int (zI x)), (5, .long (lI dg)), (7, .int (zI sum)), (8, .int (zI pairs)), (9, .int (zI h)), (10, .int (zI n)), (11, .ref (E.2.2 c)), (13, .int (zI most)), (14, .int (zI shared))]) : W pg l en room_1 s0 mi ar bl me co H locs cells slots Q (F0 mi 359 ls []) := by
  have hx := S.1
  have hb := S.2.1
  have hn := hK.2.2.2
  have hinX00 : ∀ w ∈ wsX00, w ∈ wsL_law := inlX0
  have hinX10 : ∀ w ∈ wsX10, w ∈ wsL_law := inlX1
  have hinX20 : ∀ w ∈ wsX20, w ∈ wsL_law := inlX2
  have hinX30 : ∀ w ∈ wsX30, w ∈ wsL_law := inlX3
  have hinX40 : ∀ w ∈ wsX40, w ∈ wsL_law := inlX4
  have hl : lv_has ls 23 [(0, .ref bs), (1, .ref (E.2.2 10)), (2, .ref (E.2.2 g)), (3, .int (zI time)), (4, .int (zI x)), (5, .long (lI dg)), (7, .int (zI sum)), (8, .int (zI pairs)), (9, .int (zI h)), (10, .int (zI n)), (11, .ref (E.2.2 c)), (13, .int (zI most)), (14, .int (zI shared))] := hl
  have hs := hV.sm
  have hIN := hV.I0 hI
  have hWN := hIN.1
  have hO2 := hIN.2.1
  obtain ⟨hn0, hn1, hv⟩ := hI.1 h ⟨hh.1, by omega⟩
  rw [← hnn] at hn0 hn1 hv
  have e3 : N (h + 3) = M (h + 3) := hV.fn (by omega)
  have e11 : N h 1 = n := by rw [hV.fn (c := h) (by omega), hnn]
  have hO : kOrd (M (h + 3)) n (M (8 + h)) := by
    have q := hI.2.1 h hh
    unfold kO at q
    rw [← hnn] at q
    exact q
  have hvN : ∀ j : Int, 0 ≤ j → j < n → 0 ≤ N c j ∧ N c j ≤ 8 := fun j j1 j2 => by rw [hav j j1 j2]; exact hv j j1 j2
  have lcx : ∀ a b z : Int, 0 ≤ a → 0 ≤ b → kLC (N c) n a (N c) n b z → kLC (M (h + 3)) n a (M (h + 3)) n b z := fun a b z a1 b1 q => kLC_congr q a1 b1 (fun j j1 j2 => (hav j j1 j2).symm) (fun j j1 j2 => (hav j j1 j2).symm)
  have eTr := kTriN n.toNat
  rw [Int.toNat_of_nonneg hn0] at eTr
  have eTo := kTot_eq hn0 hO
  have eSS : kSum (kNx (M (h + 3)) n (M (8 + h))) n.toNat = shared := by rw [hsh, hnn]; rfl
  have eTl := kTot_le (x := M (h + 3)) ⟨hn0, hn1⟩
  have eMu := Int.mul_le_mul (show n ≤ 40 from hn1) (show n + 1 ≤ 41 by omega) (by omega) (by omega)
  rw [← hnn] at hmost
  refine lv_iload hx hb dL_law_359 (lv_at hl 6 rfl) ?_
  refine lv_iload hx hb dL_law_361 (lv_at hl 12 rfl) ?_
  refine k_add hx hb dL_law_363 ?_
  refine k_nm (fun v7_364 ev7_364 => ?_)
  refine lv_istore (lv' := [(7, .int (zI v7_364)), (0, .ref bs), (1, .ref (E.2.2 10)), (2, .ref (E.2.2 g)), (3, .int (zI time)), (4, .int (zI x)), (5, .long (lI dg)), (8, .int (zI pairs)), (9, .int (zI h)), (10, .int (zI n)), (11, .ref (E.2.2 c)), (13, .int (zI most)), (14, .int (zI shared))]) hx hb dL_law_364 hl (by decide) rfl (fun ls hl => ?_)
  refine lv_aload_n hx hb dL_law_366 rfl (lv_at hl 2 rfl) ?_
  refine k_push hx hb dL_law_367 ?_
  refine lv_iload hx hb dL_law_368 (lv_at hl 8 rfl) ?_
  refine k_add hx hb dL_law_370 ?_
  refine k_callV (As := [.int (zI (3 + h))]) (rest := []) S hK hP (c_X2_count l E N (3 + h) (by assumption) (by assumption) (by omega)) (cwV 1 S.2.2.2.2 gL_law_X2_count rfl rfl rfl (by decide +kernel) ⟨Nat.le_of_ble_eq_true rfl, Nat.le_of_ble_eq_true rfl⟩) (k_rX hK hP rfl) rfl hl.1 rfl (Nat.le_of_ble_eq_true rfl) dL_law_371 ⟨by show _ ≤ (600130 : Nat); omega, by show _ ≤ (7301080 : Nat); omega⟩ (fun z_371 h_371 => ?_)
  have eT : z_371 = kTot (M (h + 3)) n := by
    have q := h_371.1
    rw [hV.fn (c := 3) (by omega), hV.fn (c := 4) (by omega), hV.fn (c := 0) (by omega), hV.fn (c := 1) (by omega), hV.fn (c := 2) (by omega)] at q
    rcases (show h = 0 ∨ h = 1 by omega) with e | e
    · subst e; rw [hnn]; exact kIsCount_one q (Or.inr (Or.inr (Or.inr (Or.inl ⟨by omega, rfl⟩))))
    · subst e; rw [hnn]; exact kIsCount_one q (Or.inr (Or.inr (Or.inr (Or.inr (Or.inl ⟨by omega, rfl⟩)))))
  refine lv_istore (lv' := [(15, .int (zI z_371)), (7, .int (zI v7_364)), (0, .ref bs), (1, .ref (E.2.2 10)), (2, .ref (E.2.2 g)), (3, .int (zI time)), (4, .int (zI x)), (5, .long (lI dg)), (8, .int (zI pairs)), (9, .int (zI h)), (10, .int (zI n)), (11, .ref (E.2.2 c)), (13, .int (zI most)), (14, .int (zI shared))]) hx hb dL_law_374 hl (by decide) rfl (fun ls hl => ?_)
  refine lv_iload hx hb dL_law_376 (lv_at hl 0 rfl) ?_
  refine lv_iload hx hb dL_law_378 (lv_at hl 10 rfl) ?_
  refine lv_iload hx hb dL_law_380 (lv_at hl 10 rfl) ?_
  refine k_push hx hb dL_law_382 ?_
  refine k_add hx hb dL_law_383 ?_
  have eMp := Int.mul_nonneg hn0 (show 0 ≤ n + 1 by omega)
  refine k_mul hx hb dL_law_384 ?_
  refine k_push hx hb dL_law_385 ?_
  refine k_div hx hb dL_law_386 (by omega) ?_
  refine lv_iload hx hb dL_law_387 (lv_at hl 13 rfl) ?_
  refine k_sub hx hb dL_law_389 ?_
  refine k_ne (tgt := 405) hx hb dL_law_390 (by decide) (by omega) (fun c_390 => ?_) (fun c_390 => ?_)
  · exact absurd c_390 (by omega)
  · skip
    refine lv_aload_n hx hb dL_law_393 rfl (lv_at hl 3 rfl) ?_
    refine lv_iload hx hb dL_law_394 (lv_at hl 9 rfl) ?_
    refine k_push hx hb dL_law_396 ?_
    refine k_callV (As := [.int (zI h), .int (zI 0)]) (rest := []) S hK hP (c_X2_repeat l E N h 0 (by omega) (by assumption) (by assumption) (by omega)) (cwV 2 S.2.2.2.2 gL_law_X2_repeat rfl rfl rfl (by decide +kernel) ⟨Nat.le_of_ble_eq_true rfl, Nat.le_of_ble_eq_true rfl⟩) (k_rX hK hP rfl) rfl hl.1 rfl (Nat.le_of_ble_eq_true rfl) dL_law_397 ⟨by show _ ≤ (600130 : Nat); omega, by show _ ≤ (7301080 : Nat); omega⟩ (fun z_397 h_397 => ?_)
    have r0 : kIsRep (M (h + 3)) n 0 z_397 := by have q := h_397.1; rw [e3, e11] at q; exact q
    have r0m : z_397 = most := by
      obtain ⟨b9, k9, t9, w9⟩ := id r0
      rw [hmost, ← kRep_max hn0 hO t9]; omega
    rw [r0m] at r0
    refine lv_iload hx hb dL_law_400 (lv_at hl 12 rfl) ?_
    refine k_eq (tgt := 407) hx hb dL_law_402 (by decide) (by omega) (fun c_402 => ?_) (fun c_402 => ?_)
    · skip
      refine lv_aload_n hx hb dL_law_407 rfl (lv_at hl 3 rfl) ?_
      refine lv_iload hx hb dL_law_408 (lv_at hl 9 rfl) ?_
      refine k_push hx hb dL_law_410 ?_
      refine k_callV (As := [.int (zI h), .int (zI 1)]) (rest := []) S hK hP (c_X2_repeat l E N h 1 (by omega) (by assumption) (by assumption) (by omega)) (cwV 2 S.2.2.2.2 gL_law_X2_repeat rfl rfl rfl (by decide +kernel) ⟨Nat.le_of_ble_eq_true rfl, Nat.le_of_ble_eq_true rfl⟩) (k_rX hK hP rfl) rfl hl.1 rfl (Nat.le_of_ble_eq_true rfl) dL_law_411 ⟨by show _ ≤ (600130 : Nat); omega, by show _ ≤ (7301080 : Nat); omega⟩ (fun z_411 h_411 => ?_)
      have r1 : kIsRep (M (h + 3)) n 1 z_411 := by have q := h_411.1; rw [e3, e11] at q; exact q
      obtain ⟨c9, r2⟩ := kRep_two r0
      have rf := kRep_facts r0 r1 r2
      refine lv_istore (lv' := [(16, .int (zI z_411)), (15, .int (zI z_371)), (7, .int (zI v7_364)), (0, .ref bs), (1, .ref (E.2.2 10)), (2, .ref (E.2.2 g)), (3, .int (zI time)), (4, .int (zI x)), (5, .long (lI dg)), (8, .int (zI pairs)), (9, .int (zI h)), (10, .int (zI n)), (11, .ref (E.2.2 c)), (13, .int (zI most)), (14, .int (zI shared))]) hx hb dL_law_414 hl (by decide) rfl (fun ls hl => ?_)
      have jn_458 :  ∀ ls : Array Slot, lv_has ls 23 [(0, .ref bs), (1, .ref (E.2.2 10)), (2, .ref (E.2.2 g)), (3, .int (zI time)), (4, .int (zI x)), (5, .long (lI dg)), (7, .int (zI v7_364)), (8, .int (zI pairs)), (9, .int (zI h)), (10, .int (zI n)), (11, .ref (E.2.2 c)), (13, .int (zI most)), (14, .int (zI shared)), (15, .int (zI z_371)), (16, .int (zI z_411))] → W pg l en room_1 s0 mi ar bl me co H locs cells slots Q (F0 mi 458 ls []) := by
        intro   ls hl
        refine k_push hx hb dL_law_458 ?_
        refine lv_istore (lv' := [(17, .int (zI 0)), (0, .ref bs), (1, .ref (E.2.2 10)), (2, .ref (E.2.2 g)), (3, .int (zI time)), (4, .int (zI x)), (5, .long (lI dg)), (7, .int (zI v7_364)), (8, .int (zI pairs)), (9, .int (zI h)), (10, .int (zI n)), (11, .ref (E.2.2 c)), (13, .int (zI most)), (14, .int (zI shared)), (15, .int (zI z_371)), (16, .int (zI z_411))]) hx hb dL_law_459 hl (by decide) rfl (fun ls hl => ?_)
        refine k_push hx hb dL_law_461 ?_
        refine lv_istore (lv' := [(18, .int (zI 0)), (17, .int (zI 0)), (0, .ref bs), (1, .ref (E.2.2 10)), (2, .ref (E.2.2 g)), (3, .int (zI time)), (4, .int (zI x)), (5, .long (lI dg)), (7, .int (zI v7_364)), (8, .int (zI pairs)), (9, .int (zI h)), (10, .int (zI n)), (11, .ref (E.2.2 c)), (13, .int (zI most)), (14, .int (zI shared)), (15, .int (zI z_371)), (16, .int (zI z_411))]) hx hb dL_law_462 hl (by decide) rfl (fun ls hl => ?_)
        have lp_464 : ∀ (n_464 : Nat) (t : Int) (k : Int), (0 ≤ k ∧ k ≤ n) → ((0 < most → t = kCnt (fun q => most ≤ kL (M (h + 3)) n q (M (h + 3)) n z_411) k.toNat) ∧ 0 ≤ t ∧ t ≤ k) → (n - k < (n_464 : Int)) → ∀ ls : Array Slot, lv_has ls 23 [(0, .ref bs), (1, .ref (E.2.2 10)), (2, .ref (E.2.2 g)), (3, .int (zI time)), (4, .int (zI x)), (5, .long (lI dg)), (7, .int (zI v7_364)), (8, .int (zI pairs)), (9, .int (zI h)), (10, .int (zI n)), (11, .ref (E.2.2 c)), (13, .int (zI most)), (14, .int (zI shared)), (15, .int (zI z_371)), (16, .int (zI z_411)), (17, .int (zI t)), (18, .int (zI k))] → W pg l en room_1 s0 mi ar bl me co H locs cells slots Q (F0 mi 464 ls []) := by
          intro n_464
          induction n_464 with
          | zero => intro t k h1 ht hm_464; exfalso; omega
          | succ n_464 ih_464 =>
            intro t k h1 ht hm_464 ls hl
            refine lv_iload hx hb dL_law_464 (lv_at hl 16 rfl) ?_
            refine lv_iload hx hb dL_law_466 (lv_at hl 9 rfl) ?_
            refine k_ge (tgt := 513) hx hb dL_law_468 (by decide) (by omega) (fun c_468 => ?_) (fun c_468 => ?_)
            · skip
              refine lv_iload hx hb dL_law_513 (lv_at hl 11 rfl) ?_
              refine k_le0 (tgt := 532) hx hb dL_law_515 (by decide) (by omega) (fun c_515 => ?_) (fun c_515 => ?_)
              · skip
                refine jn_532 v7_364 z_371 ?_ ?_ _ (lv_sub hl [0, 1, 2, 3, 4, 5, 6, 7, 8, 9, 10, 13] rfl)
                · rw [ev7_364, hsh]
                · rw [← hnn]; exact eT
              · skip
                have rf2 := rf.2.2 (by omega)
                have tf := ht.1 (by omega)
                rw [show k = n by omega] at tf
                refine lv_iload hx hb dL_law_518 (lv_at hl 15 rfl) ?_
                refine lv_aload_n hx hb dL_law_520 rfl (lv_at hl 1 rfl) ?_
                refine lv_iload hx hb dL_law_521 (lv_at hl 8 rfl) ?_
                refine k_push hx hb dL_law_523 ?_
                refine k_callV (As := [.int (zI h), .int (zI 2)]) (rest := [.int (zI t)]) S hK hP (c_X2_repeat l E N h 2 (by omega) (by assumption) (by assumption) (by omega)) (cwV 2 S.2.2.2.2 gL_law_X2_repeat rfl rfl rfl (by decide +kernel) ⟨Nat.le_of_ble_eq_true rfl, Nat.le_of_ble_eq_true rfl⟩) (k_rX hK hP rfl) rfl hl.1 rfl (Nat.le_of_ble_eq_true rfl) dL_law_524 ⟨by show _ ≤ (600130 : Nat); omega, by show _ ≤ (7301080 : Nat); omega⟩ (fun z_524 h_524 => ?_)
                have r3 : z_524 = c9 := kIsRep_one (by have q := h_524.1; rw [e3, e11] at q; exact q) r2
                refine k_eq (tgt := 532) hx hb dL_law_527 (by decide) (by omega) (fun c_527 => ?_) (fun c_527 => ?_)
                · skip
                  refine jn_532 v7_364 z_371 ?_ ?_ _ (lv_sub hl [0, 1, 2, 3, 4, 5, 6, 7, 8, 9, 10, 13] rfl)
                  · rw [ev7_364, hsh]
                  · rw [← hnn]; exact eT
                · exact absurd c_527 (by omega)
            · skip
              refine lv_iload hx hb dL_law_471 (lv_at hl 11 rfl) ?_
              refine k_le0 (tgt := 513) hx hb dL_law_473 (by decide) (by omega) (fun c_473 => ?_) (fun c_473 => ?_)
              · skip
                refine lv_iload hx hb dL_law_513 (lv_at hl 11 rfl) ?_
                refine k_le0 (tgt := 532) hx hb dL_law_515 (by decide) (by omega) (fun c_515 => ?_) (fun c_515 => ?_)
                · skip
                  refine jn_532 v7_364 z_371 ?_ ?_ _ (lv_sub hl [0, 1, 2, 3, 4, 5, 6, 7, 8, 9, 10, 13] rfl)
                  · rw [ev7_364, hsh]
                  · rw [← hnn]; exact eT
                · skip
                  have rf2 := rf.2.2 (by omega)
                  have tf := ht.1 (by omega)
                  rw [show k = n by omega] at tf
                  refine lv_iload hx hb dL_law_518 (lv_at hl 15 rfl) ?_
                  refine lv_aload_n hx hb dL_law_520 rfl (lv_at hl 1 rfl) ?_
                  refine lv_iload hx hb dL_law_521 (lv_at hl 8 rfl) ?_
                  refine k_push hx hb dL_law_523 ?_
                  refine k_callV (As := [.int (zI h), .int (zI 2)]) (rest := [.int (zI t)]) S hK hP (c_X2_repeat l E N h 2 (by omega) (by assumption) (by assumption) (by omega)) (cwV 2 S.2.2.2.2 gL_law_X2_repeat rfl rfl rfl (by decide +kernel) ⟨Nat.le_of_ble_eq_true rfl, Nat.le_of_ble_eq_true rfl⟩) (k_rX hK hP rfl) rfl hl.1 rfl (Nat.le_of_ble_eq_true rfl) dL_law_524 ⟨by show _ ≤ (600130 : Nat); omega, by show _ ≤ (7301080 : Nat); omega⟩ (fun z_524 h_524 => ?_)
                  have r3 : z_524 = c9 := kIsRep_one (by have q := h_524.1; rw [e3, e11] at q; exact q) r2
                  refine k_eq (tgt := 532) hx hb dL_law_527 (by decide) (by omega) (fun c_527 => ?_) (fun c_527 => ?_)
                  · skip
                    refine jn_532 v7_364 z_371 ?_ ?_ _ (lv_sub hl [0, 1, 2, 3, 4, 5, 6, 7, 8, 9, 10, 13] rfl)
                    · rw [ev7_364, hsh]
                    · rw [← hnn]; exact eT
                  · exact absurd c_527 (by omega)
              · skip
                have rf2 := rf.2.2 (by omega)
                refine lv_aload hx hb dL_law_476 (lv_at hl 10 rfl) ?_
                refine lv_iload hx hb dL_law_478 (lv_at hl 16 rfl) ?_
                refine lv_aload hx hb dL_law_480 (lv_at hl 10 rfl) ?_
                refine lv_iload hx hb dL_law_482 (lv_at hl 14 rfl) ?_
                refine k_callS (As := [.ref (E.2.2 c), .int (zI k), .ref (E.2.2 c), .int (zI z_411)]) (rest := []) S hK hP (c_L_common l E N c (k) c (z_411) n n har har hvN hvN (by omega) (by omega)) (va_cwS 4 S.2.2.2.2 gL_law_L_common rfl rfl rfl (by decide +kernel) ⟨Nat.le_of_ble_eq_true rfl, Nat.le_of_ble_eq_true rfl⟩) rfl hl.1 rfl (Nat.le_of_ble_eq_true rfl) dL_law_484 ⟨by show _ ≤ (600130 : Nat); omega, by show _ ≤ (7301080 : Nat); omega⟩ (fun z_484 h_484 => ?_)
                have zr := h_484.1
                have zr2 := h_484.2.1
                have zl : z_484 = kL (M (h + 3)) n k (M (h + 3)) n z_411 := kL_of (lcx _ _ _ (by omega) (by omega) h_484)
                refine lv_iload hx hb dL_law_487 (lv_at hl 11 rfl) ?_
                refine k_ge (tgt := 495) hx hb dL_law_489 (by decide) (by omega) (fun c_489 => ?_) (fun c_489 => ?_)
                · skip
                  refine lv_iload hx hb dL_law_495 (lv_at hl 16 rfl) ?_
                  refine lv_iload hx hb dL_law_497 (lv_at hl 14 rfl) ?_
                  refine k_ge (tgt := 504) hx hb dL_law_499 (by decide) (by omega) (fun c_499 => ?_) (fun c_499 => ?_)
                  · skip
                    obtain ⟨v17_504, ev17_504⟩ : ∃ v : Int, v = t + 1 := ⟨_, rfl⟩
                    refine k_incN (v := v17_504) (lv' := [(17, .int (zI v17_504)), (0, .ref bs), (1, .ref (E.2.2 10)), (2, .ref (E.2.2 g)), (3, .int (zI time)), (4, .int (zI x)), (5, .long (lI dg)), (7, .int (zI v7_364)), (8, .int (zI pairs)), (9, .int (zI h)), (10, .int (zI n)), (11, .ref (E.2.2 c)), (13, .int (zI most)), (14, .int (zI shared)), (15, .int (zI z_371)), (16, .int (zI z_411)), (18, .int (zI k))]) hx hb dL_law_504 hl (k := 15) rfl ev17_504 (by decide) rfl (fun ls hl => ?_)
                    obtain ⟨v18_507, ev18_507⟩ : ∃ v : Int, v = k + 1 := ⟨_, rfl⟩
                    refine k_incN (v := v18_507) (lv' := [(18, .int (zI v18_507)), (17, .int (zI v17_504)), (0, .ref bs), (1, .ref (E.2.2 10)), (2, .ref (E.2.2 g)), (3, .int (zI time)), (4, .int (zI x)), (5, .long (lI dg)), (7, .int (zI v7_364)), (8, .int (zI pairs)), (9, .int (zI h)), (10, .int (zI n)), (11, .ref (E.2.2 c)), (13, .int (zI most)), (14, .int (zI shared)), (15, .int (zI z_371)), (16, .int (zI z_411))]) hx hb dL_law_507 hl (k := 16) rfl ev18_507 (by decide) rfl (fun ls hl => ?_)
                    refine lv_goto (tgt := 464) hx hb dL_law_510 (by decide) ?_
                    refine ih_464 v17_504 v18_507 (by omega) ?_ (by omega) _ (lv_sub hl [2, 3, 4, 5, 6, 7, 8, 9, 10, 11, 12, 13, 14, 15, 16, 1, 0] rfl)
                    · first
                      | (refine ⟨fun q => ?_, by omega, by omega⟩; rw [ev17_504, ev18_507, kCnt_t _ h1.1 (show most ≤ kL (M (h + 3)) n k (M (h + 3)) n z_411 by omega), ht.1 q])
                      | (refine ⟨fun q => ?_, by omega, by omega⟩; rw [ev18_507, kCnt_f _ h1.1 (show ¬ most ≤ kL (M (h + 3)) n k (M (h + 3)) n z_411 by omega), ht.1 q])
                  · exfalso
                    have := rf2.2.2.2 k h1.1 (by omega) (by omega)
                    omega
                · skip
                  refine lv_goto (tgt := 507) hx hb dL_law_492 (by decide) ?_
                  obtain ⟨v18_507, ev18_507⟩ : ∃ v : Int, v = k + 1 := ⟨_, rfl⟩
                  refine k_incN (v := v18_507) (lv' := [(18, .int (zI v18_507)), (0, .ref bs), (1, .ref (E.2.2 10)), (2, .ref (E.2.2 g)), (3, .int (zI time)), (4, .int (zI x)), (5, .long (lI dg)), (7, .int (zI v7_364)), (8, .int (zI pairs)), (9, .int (zI h)), (10, .int (zI n)), (11, .ref (E.2.2 c)), (13, .int (zI most)), (14, .int (zI shared)), (15, .int (zI z_371)), (16, .int (zI z_411)), (17, .int (zI t))]) hx hb dL_law_507 hl (k := 16) rfl ev18_507 (by decide) rfl (fun ls hl => ?_)
                  refine lv_goto (tgt := 464) hx hb dL_law_510 (by decide) ?_
                  refine ih_464 t v18_507 (by omega) ?_ (by omega) _ (lv_sub hl [1, 2, 3, 4, 5, 6, 7, 8, 9, 10, 11, 12, 13, 14, 15, 16, 0] rfl)
                  · first
                    | (refine ⟨fun q => ?_, by omega, by omega⟩; rw [ev17_504, ev18_507, kCnt_t _ h1.1 (show most ≤ kL (M (h + 3)) n k (M (h + 3)) n z_411 by omega), ht.1 q])
                    | (refine ⟨fun q => ?_, by omega, by omega⟩; rw [ev18_507, kCnt_f _ h1.1 (show ¬ most ≤ kL (M (h + 3)) n k (M (h + 3)) n z_411 by omega), ht.1 q])
        refine lp_464 (((n - 0 : Int)).toNat + 1) 0 0 (by omega) (by exact ⟨fun _ => rfl, by omega, by omega⟩) (by omega) _ (lv_sub hl [2, 3, 4, 5, 6, 7, 8, 9, 10, 11, 12, 13, 14, 15, 16, 1, 0] rfl)
      refine lv_iload hx hb dL_law_416 (lv_at hl 13 rfl) ?_
      refine k_ne0 (tgt := 440) hx hb dL_law_418 (by decide) (by omega) (fun c_418 => ?_) (fun c_418 => ?_)
      · skip
        refine lv_iload hx hb dL_law_440 (lv_at hl 0 rfl) ?_
        refine k_lt0 (tgt := 456) hx hb dL_law_442 (by decide) (by omega) (fun c_442 => ?_) (fun c_442 => ?_)
        · exact absurd c_442 (by omega)
        · skip
          refine lv_aload_n hx hb dL_law_445 rfl (lv_at hl 4 rfl) ?_
          refine lv_iload hx hb dL_law_446 (lv_at hl 10 rfl) ?_
          refine k_push hx hb dL_law_448 ?_
          refine k_callV (As := [.int (zI h), .int (zI 2)]) (rest := []) S hK hP (c_X2_repeat l E N h 2 (by omega) (by assumption) (by assumption) (by omega)) (cwV 2 S.2.2.2.2 gL_law_X2_repeat rfl rfl rfl (by decide +kernel) ⟨Nat.le_of_ble_eq_true rfl, Nat.le_of_ble_eq_true rfl⟩) (k_rX hK hP rfl) rfl hl.1 rfl (Nat.le_of_ble_eq_true rfl) dL_law_449 ⟨by show _ ≤ (600130 : Nat); omega, by show _ ≤ (7301080 : Nat); omega⟩ (fun z_449 h_449 => ?_)
          have r3 : z_449 = c9 := kIsRep_one (by have q := h_449.1; rw [e3, e11] at q; exact q) r2
          refine k_push hx hb dL_law_452 ?_
          refine k_ge (tgt := 458) hx hb dL_law_453 (by decide) (by omega) (fun c_453 => ?_) (fun c_453 => ?_)
          · skip
            refine jn_458   _ (lv_sub hl [3, 4, 5, 6, 7, 8, 2, 9, 10, 11, 12, 13, 14, 1, 0] rfl)
          · exact absurd c_453 (by omega)
      · skip
        refine lv_iload hx hb dL_law_421 (lv_at hl 0 rfl) ?_
        refine k_push hx hb dL_law_423 ?_
        refine k_ne (tgt := 456) hx hb dL_law_424 (by decide) (by omega) (fun c_424 => ?_) (fun c_424 => ?_)
        · exact absurd c_424 (by omega)
        · skip
          refine lv_aload_n hx hb dL_law_427 rfl (lv_at hl 4 rfl) ?_
          refine lv_iload hx hb dL_law_428 (lv_at hl 10 rfl) ?_
          refine k_push hx hb dL_law_430 ?_
          refine k_callV (As := [.int (zI h), .int (zI 2)]) (rest := []) S hK hP (c_X2_repeat l E N h 2 (by omega) (by assumption) (by assumption) (by omega)) (cwV 2 S.2.2.2.2 gL_law_X2_repeat rfl rfl rfl (by decide +kernel) ⟨Nat.le_of_ble_eq_true rfl, Nat.le_of_ble_eq_true rfl⟩) (k_rX hK hP rfl) rfl hl.1 rfl (Nat.le_of_ble_eq_true rfl) dL_law_431 ⟨by show _ ≤ (600130 : Nat); omega, by show _ ≤ (7301080 : Nat); omega⟩ (fun z_431 h_431 => ?_)
          have r3 : z_431 = c9 := kIsRep_one (by have q := h_431.1; rw [e3, e11] at q; exact q) r2
          refine k_eq0 (tgt := 458) hx hb dL_law_434 (by decide) (by omega) (fun c_434 => ?_) (fun c_434 => ?_)
          · skip
            refine jn_458   _ (lv_sub hl [3, 4, 5, 6, 7, 8, 2, 9, 10, 11, 12, 13, 14, 1, 0] rfl)
          · exact absurd c_434 (by omega)
    · exact absurd c_402 (by omega)
