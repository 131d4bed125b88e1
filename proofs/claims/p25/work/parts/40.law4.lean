set_option maxHeartbeats 4000000 in
set_option maxRecDepth 100000 in
theorem s_law_row {pg : Program} {l : Launch} {en : Env} {s0 : State} {mi : MethodId} {ar : Array Value} {bl : List Frame} {me : Method} {co : Code} {ls : Array Slot} {Q : State → Prop} {H : Heap} {locs : List Loc} {E0 E : kE} {M N : kM} {g h n c x sum pairs time dg most shared rows : Int} {y : Int → Int} {bs cells slots : Nat} (hI : kI0 M) (hV : kVs E0 E M N g y) (hh : 0 ≤ h ∧ h < 2) (hnn : n = M h 1) (har : kArr E N c n) (hav : ∀ j : Int, 0 ≤ j → j < n → N c j = M (h + 3) j) (S : CallFix pg mi co cL_law 23 s0 ar wsL_law RL) (hP : va_P E.1 vwCl (kW E N) H) (hK : kK E s0) (hcs0 : cells ≤ 600130 ∧ slots ≤ 7301080) (hrw : rows = kTot (M (h + 3)) (M h 1))
    (jn_712 :  ∀ ls : Array Slot, lv_has ls 23 [(0, .ref bs), (1, .ref (E.2.2 10)), (2, .ref (E.2.2 g)), (3, .int (zI time)), (4, .int (zI x)), (5, .long (lI dg)), (7, .int (zI sum)), (8, .int (zI pairs)), (9, .int (zI h)), (10, .int (zI n)), (11, .ref (E.2.2 c))] → W pg l en room_1 s0 mi ar bl me co H locs cells slots Q (F0 mi 712 ls []))
    (hl : lv_has ls 23 [(0, .ref bs), (1, .ref (E.2.2 10)), (2, .ref (E.2.2 g)), (3, .int (zI time)), (4, .int (zI x)), (5, .long (lI dg)), (7, .int (zI sum)), (8, .int (zI pairs)), (9, .int (zI h)), (10, .int (zI n)), (11, .ref (E.2.2 c)), (15, .int (zI rows))]) : W pg l en room_1 s0 mi ar bl me co H locs cells slots Q (F0 mi 532 ls []) := by
  have hx := S.1
  have hb := S.2.1
  have hn := hK.2.2.2
  have hinX00 : ∀ w ∈ wsX00, w ∈ wsL_law := inlX0
  have hinX10 : ∀ w ∈ wsX10, w ∈ wsL_law := inlX1
  have hinX20 : ∀ w ∈ wsX20, w ∈ wsL_law := inlX2
  have hinX30 : ∀ w ∈ wsX30, w ∈ wsL_law := inlX3
  have hinX40 : ∀ w ∈ wsX40, w ∈ wsL_law := inlX4
  have hl : lv_has ls 23 [(0, .ref bs), (1, .ref (E.2.2 10)), (2, .ref (E.2.2 g)), (3, .int (zI time)), (4, .int (zI x)), (5, .long (lI dg)), (7, .int (zI sum)), (8, .int (zI pairs)), (9, .int (zI h)), (10, .int (zI n)), (11, .ref (E.2.2 c)), (15, .int (zI rows))] := hl
  have hs := hV.sm
  have hIN := hV.I0 hI
  have hWN := hIN.1
  have hO2 := hIN.2.1
  obtain ⟨hn0, hn1, hv⟩ := hI.1 h ⟨hh.1, by omega⟩
  rw [← hnn] at hn0 hn1 hv
  have e3 : N (h + 3) = M (h + 3) := hV.fn (by omega)
  have e11 : N h 1 = n := by rw [hV.fn (c := h) (by omega), hnn]
  have hO : kOrd (M (h + 3)) n (M (8 + h)) := by
    have q := hI.2.1 h hh
    unfold kO at q
    rw [← hnn] at q
    exact q
  have hvN : ∀ j : Int, 0 ≤ j → j < n → 0 ≤ N c j ∧ N c j ≤ 8 := fun j j1 j2 => by rw [hav j j1 j2]; exact hv j j1 j2
  have lcx : ∀ a b z : Int, 0 ≤ a → 0 ≤ b → kLC (N c) n a (N c) n b z → kLC (M (h + 3)) n a (M (h + 3)) n b z := fun a b z a1 b1 q => kLC_congr q a1 b1 (fun j j1 j2 => (hav j j1 j2).symm) (fun j j1 j2 => (hav j j1 j2).symm)
  have eTl := kTot_le (x := M (h + 3)) ⟨hn0, hn1⟩
  rw [← hnn] at hrw
  refine lv_iload hx hb dL_law_532 (lv_at hl 11 rfl) ?_
  refine k_push hx hb dL_law_534 ?_
  refine k_le (tgt := 712) hx hb dL_law_535 (by decide) (by omega) (fun c_535 => ?_) (fun c_535 => ?_)
  · skip
    refine jn_712   _ (lv_sub hl [0, 1, 2, 3, 4, 5, 6, 7, 8, 9, 10] rfl)
  · skip
    refine lv_iload hx hb dL_law_538 (lv_at hl 4 rfl) ?_
    refine k_push hx hb dL_law_540 ?_
    refine k_shr hx hb dL_law_541 (fun z_541 h_541 => ?_)
    refine lv_iload hx hb dL_law_542 (lv_at hl 11 rfl) ?_
    refine k_push hx hb dL_law_544 ?_
    refine k_sub hx hb dL_law_545 ?_
    refine k_callS (As := [.int (zI z_541), .int (zI (rows - 1))]) (rest := []) S hK hP (c_L_below l E N z_541 (rows - 1) (by omega)) (va_cwS 2 S.2.2.2.2 gL_law_L_below rfl rfl rfl (by decide +kernel) ⟨Nat.le_of_ble_eq_true rfl, Nat.le_of_ble_eq_true rfl⟩) rfl hl.1 rfl (Nat.le_of_ble_eq_true rfl) dL_law_546 ⟨by show _ ≤ (600130 : Nat); omega, by show _ ≤ (7301080 : Nat); omega⟩ (fun z_546 h_546 => ?_)
    refine lv_istore (lv' := [(18, .int (zI z_546)), (0, .ref bs), (1, .ref (E.2.2 10)), (2, .ref (E.2.2 g)), (3, .int (zI time)), (4, .int (zI x)), (5, .long (lI dg)), (7, .int (zI sum)), (8, .int (zI pairs)), (9, .int (zI h)), (10, .int (zI n)), (11, .ref (E.2.2 c)), (15, .int (zI rows))]) hx hb dL_law_549 hl (by decide) rfl (fun ls hl => ?_)
    refine lv_aload_n hx hb dL_law_551 rfl (lv_at hl 2 rfl) ?_
    refine lv_iload hx hb dL_law_552 (lv_at hl 9 rfl) ?_
    have kk1 : kTot (N (h + 3)) (N h 1) = kTot (M (h + 3)) n := by rw [e3, e11]
    refine lv_iload hx hb dL_law_554 (lv_at hl 0 rfl) ?_
    refine k_callV (As := [.int (zI h), .int (zI z_546)]) (rest := []) S hK hP (c_X2_row l E N h z_546 (by omega) (by assumption) (by assumption) (by omega)) (cwV 2 S.2.2.2.2 gL_law_X2_row rfl rfl rfl (by decide +kernel) ⟨Nat.le_of_ble_eq_true rfl, Nat.le_of_ble_eq_true rfl⟩) (k_rX hK hP rfl) rfl hl.1 rfl (Nat.le_of_ble_eq_true rfl) dL_law_556 ⟨by show _ ≤ (600130 : Nat); omega, by show _ ≤ (7301080 : Nat); omega⟩ (fun z_556 h_556 => ?_)
    refine lv_istore (lv' := [(19, .int (zI z_556)), (18, .int (zI z_546)), (0, .ref bs), (1, .ref (E.2.2 10)), (2, .ref (E.2.2 g)), (3, .int (zI time)), (4, .int (zI x)), (5, .long (lI dg)), (7, .int (zI sum)), (8, .int (zI pairs)), (9, .int (zI h)), (10, .int (zI n)), (11, .ref (E.2.2 c)), (15, .int (zI rows))]) hx hb dL_law_559 hl (by decide) rfl (fun ls hl => ?_)
    refine lv_aload_n hx hb dL_law_561 rfl (lv_at hl 3 rfl) ?_
    refine lv_iload hx hb dL_law_562 (lv_at hl 10 rfl) ?_
    refine lv_iload hx hb dL_law_564 (lv_at hl 1 rfl) ?_
    refine k_push hx hb dL_law_566 ?_
    refine k_add hx hb dL_law_567 ?_
    refine k_callV (As := [.int (zI h), .int (zI (z_546 + 1))]) (rest := []) S hK hP (c_X2_row l E N h (z_546 + 1) (by omega) (by assumption) (by assumption) (by omega)) (cwV 2 S.2.2.2.2 gL_law_X2_row rfl rfl rfl (by decide +kernel) ⟨Nat.le_of_ble_eq_true rfl, Nat.le_of_ble_eq_true rfl⟩) (k_rX hK hP rfl) rfl hl.1 rfl (Nat.le_of_ble_eq_true rfl) dL_law_568 ⟨by show _ ≤ (600130 : Nat); omega, by show _ ≤ (7301080 : Nat); omega⟩ (fun z_568 h_568 => ?_)
    refine lv_istore (lv' := [(20, .int (zI z_568)), (19, .int (zI z_556)), (18, .int (zI z_546)), (0, .ref bs), (1, .ref (E.2.2 10)), (2, .ref (E.2.2 g)), (3, .int (zI time)), (4, .int (zI x)), (5, .long (lI dg)), (7, .int (zI sum)), (8, .int (zI pairs)), (9, .int (zI h)), (10, .int (zI n)), (11, .ref (E.2.2 c)), (15, .int (zI rows))]) hx hb dL_law_571 hl (by decide) rfl (fun ls hl => ?_)
    have q1 : kIsRow (M (h + 3)) n z_546 z_556 := by have q := h_556.1; rw [e3, e11] at q; exact q
    have q2 : kIsRow (M (h + 3)) n (z_546 + 1) z_568 := by have q := h_568.1; rw [e3, e11] at q; exact q
    obtain ⟨w1, l1, w2, l2, e1z, e2z, ⟨a1, a2, a3⟩, ⟨b1, b2, b3⟩, hm⟩ := kRows_next q1 q2
    have d1 : z_556 / 64 = w1 := by omega
    have d2 : z_568 / 64 = w2 := by omega
    have r1 : z_556 % 64 = l1 := by omega
    have r2 : z_568 % 64 = l2 := by omega
    refine lv_aload hx hb dL_law_573 (lv_at hl 13 rfl) ?_
    refine lv_iload hx hb dL_law_575 (lv_at hl 1 rfl) ?_
    refine k_bpush hx hb dL_law_577 (by decide) ?_
    refine k_div hx hb dL_law_579 (by omega) ?_
    refine lv_aload hx hb dL_law_580 (lv_at hl 13 rfl) ?_
    refine lv_iload hx hb dL_law_582 (lv_at hl 0 rfl) ?_
    refine k_bpush hx hb dL_law_584 (by decide) ?_
    refine k_div hx hb dL_law_586 (by omega) ?_
    refine k_callS (As := [.ref (E.2.2 c), .int (zI (z_556 / 64)), .ref (E.2.2 c), .int (zI (z_568 / 64))]) (rest := []) S hK hP (c_L_common l E N c (z_556 / 64) c (z_568 / 64) n n har har hvN hvN (by omega) (by omega)) (va_cwS 4 S.2.2.2.2 gL_law_L_common rfl rfl rfl (by decide +kernel) ⟨Nat.le_of_ble_eq_true rfl, Nat.le_of_ble_eq_true rfl⟩) rfl hl.1 rfl (Nat.le_of_ble_eq_true rfl) dL_law_587 ⟨by show _ ≤ (600130 : Nat); omega, by show _ ≤ (7301080 : Nat); omega⟩ (fun z_587 h_587 => ?_)
    have zr := h_587.1
    have zr2 := h_587.2.1
    rw [d1, d2] at h_587
    have hm := hm z_587 (lcx _ _ _ (by omega) (by omega) h_587)
    refine lv_istore (lv' := [(21, .int (zI z_587)), (20, .int (zI z_568)), (19, .int (zI z_556)), (18, .int (zI z_546)), (0, .ref bs), (1, .ref (E.2.2 10)), (2, .ref (E.2.2 g)), (3, .int (zI time)), (4, .int (zI x)), (5, .long (lI dg)), (7, .int (zI sum)), (8, .int (zI pairs)), (9, .int (zI h)), (10, .int (zI n)), (11, .ref (E.2.2 c)), (15, .int (zI rows))]) hx hb dL_law_590 hl (by decide) rfl (fun ls hl => ?_)
    refine lv_iload hx hb dL_law_592 (lv_at hl 0 rfl) ?_
    refine lv_iload hx hb dL_law_594 (lv_at hl 2 rfl) ?_
    refine k_bpush hx hb dL_law_596 (by decide) ?_
    refine k_rem hx hb dL_law_598 (by omega) ?_
    refine k_lt (tgt := 606) hx hb dL_law_599 (by decide) (by omega) (fun c_599 => ?_) (fun c_599 => ?_)
    · skip
      refine k_push hx hb dL_law_606 ?_
      refine lv_istore (lv' := [(22, .int (zI 0)), (21, .int (zI z_587)), (20, .int (zI z_568)), (19, .int (zI z_556)), (18, .int (zI z_546)), (0, .ref bs), (1, .ref (E.2.2 10)), (2, .ref (E.2.2 g)), (3, .int (zI time)), (4, .int (zI x)), (5, .long (lI dg)), (7, .int (zI sum)), (8, .int (zI pairs)), (9, .int (zI h)), (10, .int (zI n)), (11, .ref (E.2.2 c)), (15, .int (zI rows))]) hx hb dL_law_607 hl (by decide) rfl (fun ls hl => ?_)
      refine lv_iload hx hb dL_law_609 (lv_at hl 3 rfl) ?_
      refine k_bpush hx hb dL_law_611 (by decide) ?_
      refine k_rem hx hb dL_law_613 (by omega) ?_
      refine k_push hx hb dL_law_614 ?_
      refine k_lt (tgt := 710) hx hb dL_law_615 (by decide) (by omega) (fun c_615 => ?_) (fun c_615 => ?_)
      · exact absurd c_615 (by omega)
      · skip
        refine lv_iload hx hb dL_law_618 (lv_at hl 3 rfl) ?_
        refine k_bpush hx hb dL_law_620 (by decide) ?_
        refine k_div hx hb dL_law_622 (by omega) ?_
        refine lv_iload hx hb dL_law_623 (lv_at hl 3 rfl) ?_
        refine k_bpush hx hb dL_law_625 (by decide) ?_
        refine k_rem hx hb dL_law_627 (by omega) ?_
        refine k_add hx hb dL_law_628 ?_
        refine lv_iload hx hb dL_law_629 (lv_at hl 14 rfl) ?_
        refine k_gt (tgt := 710) hx hb dL_law_631 (by decide) (by omega) (fun c_631 => ?_) (fun c_631 => ?_)
        · exact absurd c_631 (by omega)
        · skip
          refine lv_iload hx hb dL_law_634 (lv_at hl 2 rfl) ?_
          refine k_bpush hx hb dL_law_636 (by decide) ?_
          refine k_div hx hb dL_law_638 (by omega) ?_
          refine lv_iload hx hb dL_law_639 (lv_at hl 2 rfl) ?_
          refine k_bpush hx hb dL_law_641 (by decide) ?_
          refine k_rem hx hb dL_law_643 (by omega) ?_
          refine k_add hx hb dL_law_644 ?_
          refine lv_iload hx hb dL_law_645 (lv_at hl 14 rfl) ?_
          refine k_gt (tgt := 710) hx hb dL_law_647 (by decide) (by omega) (fun c_647 => ?_) (fun c_647 => ?_)
          · exact absurd c_647 (by omega)
          · skip
            refine lv_iload hx hb dL_law_650 (lv_at hl 0 rfl) ?_
            refine k_eq0 (tgt := 670) hx hb dL_law_652 (by decide) (by omega) (fun c_652 => ?_) (fun c_652 => ?_)
            · skip
              refine lv_iload hx hb dL_law_670 (lv_at hl 0 rfl) ?_
              refine k_ne0 (tgt := 712) hx hb dL_law_672 (by decide) (by omega) (fun c_672 => ?_) (fun c_672 => ?_)
              · exact absurd c_672 (by omega)
              · skip
                refine lv_iload hx hb dL_law_675 (lv_at hl 1 rfl) ?_
                refine lv_iload hx hb dL_law_677 (lv_at hl 2 rfl) ?_
                refine k_bpush hx hb dL_law_679 (by decide) ?_
                refine k_rem hx hb dL_law_681 (by omega) ?_
                refine k_ge (tgt := 710) hx hb dL_law_682 (by decide) (by omega) (fun c_682 => ?_) (fun c_682 => ?_)
                · exact absurd c_682 (by omega)
                · skip
                  have v1 := hvN (w1 + z_587) (by omega) (by omega)
                  have v2 := hvN (w2 + z_587) (by omega) (by omega)
                  have v3 := hav (w1 + z_587) (by omega) (by omega)
                  have v4 := hav (w2 + z_587) (by omega) (by omega)
                  rw [← d1] at v1 v3 hm
                  rw [← d2] at v2 v4 hm
                  refine lv_aload hx hb dL_law_685 (lv_at hl 15 rfl) ?_
                  refine lv_iload hx hb dL_law_687 (lv_at hl 3 rfl) ?_
                  refine k_bpush hx hb dL_law_689 (by decide) ?_
                  refine k_div hx hb dL_law_691 (by omega) ?_
                  refine lv_iload hx hb dL_law_692 (lv_at hl 1 rfl) ?_
                  refine k_add hx hb dL_law_694 ?_
                  refine k_ald S hK hP (n) (har) (by omega) dL_law_695 ?_
                  refine lv_aload hx hb dL_law_696 (lv_at hl 15 rfl) ?_
                  refine lv_iload hx hb dL_law_698 (lv_at hl 2 rfl) ?_
                  refine k_bpush hx hb dL_law_700 (by decide) ?_
                  refine k_div hx hb dL_law_702 (by omega) ?_
                  refine lv_iload hx hb dL_law_703 (lv_at hl 1 rfl) ?_
                  refine k_add hx hb dL_law_705 ?_
                  refine k_ald S hK hP (n) (har) (by omega) dL_law_706 ?_
                  refine k_lt (tgt := 712) hx hb dL_law_707 (by decide) (by omega) (fun c_707 => ?_) (fun c_707 => ?_)
                  · skip
                    refine jn_712   _ (lv_sub hl [5, 6, 7, 8, 9, 10, 11, 12, 13, 14, 15] rfl)
                  · exact absurd c_707 (by omega)
            · exact absurd c_652 (by omega)
    · skip
      refine k_push hx hb dL_law_602 ?_
      refine lv_goto (tgt := 607) hx hb dL_law_603 (by decide) ?_
      refine lv_istore (lv' := [(22, .int (zI 1)), (21, .int (zI z_587)), (20, .int (zI z_568)), (19, .int (zI z_556)), (18, .int (zI z_546)), (0, .ref bs), (1, .ref (E.2.2 10)), (2, .ref (E.2.2 g)), (3, .int (zI time)), (4, .int (zI x)), (5, .long (lI dg)), (7, .int (zI sum)), (8, .int (zI pairs)), (9, .int (zI h)), (10, .int (zI n)), (11, .ref (E.2.2 c)), (15, .int (zI rows))]) hx hb dL_law_607 hl (by decide) rfl (fun ls hl => ?_)
      refine lv_iload hx hb dL_law_609 (lv_at hl 3 rfl) ?_
      refine k_bpush hx hb dL_law_611 (by decide) ?_
      refine k_rem hx hb dL_law_613 (by omega) ?_
      refine k_push hx hb dL_law_614 ?_
      refine k_lt (tgt := 710) hx hb dL_law_615 (by decide) (by omega) (fun c_615 => ?_) (fun c_615 => ?_)
      · exact absurd c_615 (by omega)
      · skip
        refine lv_iload hx hb dL_law_618 (lv_at hl 3 rfl) ?_
        refine k_bpush hx hb dL_law_620 (by decide) ?_
        refine k_div hx hb dL_law_622 (by omega) ?_
        refine lv_iload hx hb dL_law_623 (lv_at hl 3 rfl) ?_
        refine k_bpush hx hb dL_law_625 (by decide) ?_
        refine k_rem hx hb dL_law_627 (by omega) ?_
        refine k_add hx hb dL_law_628 ?_
        refine lv_iload hx hb dL_law_629 (lv_at hl 14 rfl) ?_
        refine k_gt (tgt := 710) hx hb dL_law_631 (by decide) (by omega) (fun c_631 => ?_) (fun c_631 => ?_)
        · exact absurd c_631 (by omega)
        · skip
          refine lv_iload hx hb dL_law_634 (lv_at hl 2 rfl) ?_
          refine k_bpush hx hb dL_law_636 (by decide) ?_
          refine k_div hx hb dL_law_638 (by omega) ?_
          refine lv_iload hx hb dL_law_639 (lv_at hl 2 rfl) ?_
          refine k_bpush hx hb dL_law_641 (by decide) ?_
          refine k_rem hx hb dL_law_643 (by omega) ?_
          refine k_add hx hb dL_law_644 ?_
          refine lv_iload hx hb dL_law_645 (lv_at hl 14 rfl) ?_
          refine k_gt (tgt := 710) hx hb dL_law_647 (by decide) (by omega) (fun c_647 => ?_) (fun c_647 => ?_)
          · exact absurd c_647 (by omega)
          · skip
            refine lv_iload hx hb dL_law_650 (lv_at hl 0 rfl) ?_
            refine k_eq0 (tgt := 670) hx hb dL_law_652 (by decide) (by omega) (fun c_652 => ?_) (fun c_652 => ?_)
            · exact absurd c_652 (by omega)
            · skip
              refine lv_iload hx hb dL_law_655 (lv_at hl 2 rfl) ?_
              refine k_bpush hx hb dL_law_657 (by decide) ?_
              refine k_rem hx hb dL_law_659 (by omega) ?_
              refine lv_iload hx hb dL_law_660 (lv_at hl 3 rfl) ?_
              refine k_bpush hx hb dL_law_662 (by decide) ?_
              refine k_rem hx hb dL_law_664 (by omega) ?_
              refine k_push hx hb dL_law_665 ?_
              refine k_add hx hb dL_law_666 ?_
              refine k_ne (tgt := 710) hx hb dL_law_667 (by decide) (by omega) (fun c_667 => ?_) (fun c_667 => ?_)
              · exact absurd c_667 (by omega)
              · skip
                refine lv_iload hx hb dL_law_670 (lv_at hl 0 rfl) ?_
                refine k_ne0 (tgt := 712) hx hb dL_law_672 (by decide) (by omega) (fun c_672 => ?_) (fun c_672 => ?_)
                · skip
                  refine jn_712   _ (lv_sub hl [5, 6, 7, 8, 9, 10, 11, 12, 13, 14, 15] rfl)
                · exact absurd c_672 (by omega)
