set_option maxHeartbeats 4000000 in
set_option maxRecDepth 100000 in
theorem s_law_acts {pg : Program} {l : Launch} {en : Env} {s0 : State} {mi : MethodId} {ar : Array Value} {bl : List Frame} {me : Method} {co : Code} {ls : Array Slot} {Q : State → Prop} {H : Heap} {locs : List Loc} {E0 E : kE} {M : kM} {g time : Int} {bs L cells slots : Nat} {xs : Nat → Int32} (hlst : l.stackTraces = false) (hJ : kJ E M g) (ht : 0 ≤ time ∧ time < 12) (S : CallFix pg mi co cL_law 23 s0 ar wsL_law RL) (hXs : kXs s0) (hZ : kZ (kA E0 s0.heap.size) s0 s0.heap) (hScr : kScr bs L xs (kA E0 s0.heap.size) s0 s0.heap) (hP : va_P E.1 vwCl (kW E M) H) (hK : kK E s0) (hX : kExt E0 E) (hS : va_S (kA E0 s0.heap.size) s0.heap H locs) (hG : kG (kA E0 s0.heap.size) s0.heap.size E) (hcs0 : cells + 123 ≤ 600130 ∧ slots + 4938 ≤ 7301080)
    (jn_88 : ∀  (x : Int) (E_88 : kE) (M_88 : kM) (H : Heap) (locs : List Loc), (kJ E_88 M_88 g) → kExt E0 E_88 → kK E_88 s0 → kG (kA E0 s0.heap.size) s0.heap.size E_88 → va_P E_88.1 vwCl (kW E_88 M_88) H → va_S (kA E0 s0.heap.size) s0.heap H locs → ∀ ls : Array Slot, lv_has ls 23 [(0, .ref bs), (1, .ref (E_88.2.2 10)), (2, .ref (E_88.2.2 g)), (3, .int (zI time)), (4, .int (zI x))] → W pg l en room_1 s0 mi ar bl me co H locs (cells + 123) (slots + 4938) Q (F0 mi 88 ls []))
    (hl : lv_has ls 23 [(0, .ref bs), (1, .ref (E.2.2 10)), (2, .ref (E.2.2 g)), (3, .int (zI time))]) : W pg l en room_1 s0 mi ar bl me co H locs cells slots Q (F0 mi 28 ls []) := by
  have hx := S.1
  have hb := S.2.1
  have hn := hK.2.2.2
  have hinX00 : ∀ w ∈ wsX00, w ∈ wsL_law := inlX0
  have hinX10 : ∀ w ∈ wsX10, w ∈ wsL_law := inlX1
  have hinX20 : ∀ w ∈ wsX20, w ∈ wsL_law := inlX2
  have hinX30 : ∀ w ∈ wsX30, w ∈ wsL_law := inlX3
  have hinX40 : ∀ w ∈ wsX40, w ∈ wsL_law := inlX4
  have hl : lv_has ls 23 [(0, .ref bs), (1, .ref (E.2.2 10)), (2, .ref (E.2.2 g)), (3, .int (zI time))] := hl
  have hg := hJ.2.choose_spec.1
  have hL := hScr.2.2.2
  refine lv_aload_n hx hb dL_law_28 rfl (lv_at hl 0 rfl) ?_
  refine lv_iload_n hx hb dL_law_29 rfl (lv_at hl 3 rfl) ?_
  refine k_bpush hx hb dL_law_30 (by decide) ?_
  refine k_rem hx hb dL_law_32 (by omega) ?_
  refine k_callSC (As := [.ref bs, .int (zI (time % 16))]) (rest := []) S hScr hS (c_L_cell l bs L xs (time % 16) hL (by omega)) (va_cwS 2 S.2.2.2.2 gL_law_L_cell rfl rfl rfl (by decide +kernel) ⟨Nat.le_of_ble_eq_true rfl, Nat.le_of_ble_eq_true rfl⟩) rfl hl.1 rfl (Nat.le_of_ble_eq_true rfl) dL_law_33 ⟨by show _ ≤ (600130 : Nat); omega, by show _ ≤ (7301080 : Nat); omega⟩ (fun z_33 h_33 => ?_)
  refine lv_iload_n hx hb dL_law_36 rfl (lv_at hl 3 rfl) ?_
  refine k_bpush hx hb dL_law_37 (by decide) ?_
  refine k_div hx hb dL_law_39 (by omega) ?_
  refine k_push hx hb dL_law_40 ?_
  refine k_mul hx hb dL_law_41 ?_
  refine k_shr hx hb dL_law_42 (fun z_42 h_42 => ?_)
  refine k_bpush hx hb dL_law_43 (by decide) ?_
  refine lv_iload_n hx hb dL_law_45 rfl (lv_at hl 3 rfl) ?_
  refine k_mul hx hb dL_law_46 ?_
  refine k_add hx hb dL_law_47 ?_
  refine k_nm (fun v4_48 ev4_48 => ?_)
  refine lv_istore (lv' := [(4, .int (zI v4_48)), (0, .ref bs), (1, .ref (E.2.2 10)), (2, .ref (E.2.2 g)), (3, .int (zI time))]) hx hb dL_law_48 hl (by decide) rfl (fun ls hl => ?_)
  refine k_push hx hb dL_law_50 ?_
  refine lv_istore (lv' := [(5, .int (zI 0)), (4, .int (zI v4_48)), (0, .ref bs), (1, .ref (E.2.2 10)), (2, .ref (E.2.2 g)), (3, .int (zI time))]) hx hb dL_law_51 hl (by decide) rfl (fun ls hl => ?_)
  have lp_53 : ∀ (n_53 : Nat) (k : Int) (E_53 : kE) (M_53 : kM) (H : Heap) (locs : List Loc), (0 ≤ k ∧ k ≤ 3) → (kJ E_53 M_53 g) → (3 - k < (n_53 : Int)) → kExt E0 E_53 → kK E_53 s0 → kG (kA E0 s0.heap.size) s0.heap.size E_53 → va_P E_53.1 vwCl (kW E_53 M_53) H → va_S (kA E0 s0.heap.size) s0.heap H locs → ∀ ls : Array Slot, lv_has ls 23 [(0, .ref bs), (1, .ref (E_53.2.2 10)), (2, .ref (E_53.2.2 g)), (3, .int (zI time)), (4, .int (zI v4_48)), (5, .int (zI k))] → W pg l en room_1 s0 mi ar bl me co H locs (cells + 41 * k.toNat) (slots + 1646 * k.toNat) Q (F0 mi 53 ls []) := by
    intro n_53
    induction n_53 with
    | zero => intro k E_53 M_53 H locs h1 hJ hm_53; exfalso; omega
    | succ n_53 ih_53 =>
      intro k E_53 M_53 H locs h1 hJ hm_53 hX hK hG hP hS ls hl
      have hn := hK.2.2.2
      have hg := hJ.2.choose_spec.1
      refine lv_iload hx hb dL_law_53 (lv_at hl 5 rfl) ?_
      refine k_push hx hb dL_law_55 ?_
      refine k_ge (tgt := 88) hx hb dL_law_56 (by decide) (by omega) (fun c_56 => ?_) (fun c_56 => ?_)
      · skip
        refine W.widen (k := cells + 123) (n := slots + 4938) (by omega) (by omega) ?_
        refine jn_88 v4_48 E_53 M_53 _ _ (by exact hJ) hX hK hG hP hS _ (lv_sub hl [0, 1, 2, 3, 4] rfl)
      · skip
        refine lv_aload_n hx hb dL_law_59 rfl (lv_at hl 1 rfl) ?_
        refine lv_aload_n hx hb dL_law_60 rfl (lv_at hl 2 rfl) ?_
        refine lv_iload hx hb dL_law_61 (lv_at hl 4 rfl) ?_
        refine k_push hx hb dL_law_63 ?_
        refine lv_iload hx hb dL_law_64 (lv_at hl 5 rfl) ?_
        refine k_mul hx hb dL_law_66 ?_
        refine k_shr hx hb dL_law_67 (fun z_67 h_67 => ?_)
        refine k_bpush hx hb dL_law_68 (by decide) ?_
        refine lv_iload hx hb dL_law_70 (lv_at hl 5 rfl) ?_
        refine k_mul hx hb dL_law_72 ?_
        refine k_add hx hb dL_law_73 ?_
        refine k_callHX (As := [.ref (E_53.2.2 10), .ref (E_53.2.2 g), .int (zI (z_67 + (17 * k)))]) (rest := []) S hK hXs hZ hG hP hS (c_L_act l E_53 hG.1 M_53 hlst g (z_67 + (17 * k)) hJ) (vx_cwSW 3 S.2.2.2.2 gL_law_L_act rfl rfl rfl (by decide +kernel) ⟨Nat.le_of_ble_eq_true rfl, Nat.le_of_ble_eq_true rfl⟩) rfl hl.1 rfl (Nat.le_of_ble_eq_true rfl) dL_law_74 ⟨by show _ ≤ (600130 : Nat); omega, by show _ ≤ (7301080 : Nat); omega⟩ (fun E74 M74 z_74 H locs hX74 hK hG h_74 hP hS => ?_)
        have hl : lv_has ls 23 [(0, .ref bs), (1, .ref (E74.2.2 10)), (2, .ref (E74.2.2 g)), (3, .int (zI time)), (4, .int (zI v4_48)), (5, .int (zI k))] := by rw [hX74.ad (c := 10) (by omega), hX74.ad (c := g) (by omega)]; exact hl
        have hX := hX.tr hX74
        refine k_ne0 (tgt := 82) hx hb dL_law_77 (by decide) (by omega) (fun c_77 => ?_) (fun c_77 => ?_)
        · skip
          obtain ⟨v5_82, ev5_82⟩ : ∃ v : Int, v = k + 1 := ⟨_, rfl⟩
          refine k_incN (v := v5_82) (lv' := [(5, .int (zI v5_82)), (0, .ref bs), (1, .ref (E74.2.2 10)), (2, .ref (E74.2.2 g)), (3, .int (zI time)), (4, .int (zI v4_48))]) hx hb dL_law_82 hl (k := 5) rfl ev5_82 (by decide) rfl (fun ls hl => ?_)
          refine lv_goto (tgt := 53) hx hb dL_law_85 (by decide) ?_
          refine W.widen (k := cells + 41 * v5_82.toNat) (n := slots + 1646 * v5_82.toNat) (by omega) (by omega) ?_
          refine ih_53 v5_82 E74 M74 _ _ (by omega) (by exact h_74.2) (by omega) hX hK hG hP hS _ (lv_sub hl [1, 2, 3, 4, 5, 0] rfl)
        · exact absurd c_77 (by omega)
  refine W.widen (k := cells + 41 * (0 : Int).toNat) (n := slots + 1646 * (0 : Int).toNat) (by omega) (by omega) ?_
  refine lp_53 (((3 - 0 : Int)).toNat + 1) 0 E M _ _ (by omega) (by exact hJ) (by omega) hX hK hG hP hS _ (lv_sub hl [2, 3, 4, 5, 1, 0] rfl)
set_option maxHeartbeats 4000000 in
set_option maxRecDepth 100000 in
theorem s_law_hems {pg : Program} {l : Launch} {en : Env} {s0 : State} {mi : MethodId} {ar : Array Value} {bl : List Frame} {me : Method} {co : Code} {ls : Array Slot} {Q : State → Prop} {H : Heap} {locs : List Loc} {E0 E1 : kE} {M : kM} {g x time dg : Int} {y : Int → Int} {bs cells slots : Nat} (hI : kI0 M) (hV : kVs E1 E1 M M g y) (S : CallFix pg mi co cL_law 23 s0 ar wsL_law RL) (hP : va_P E1.1 vwCl (kW E1 M) H) (hK : kK E1 s0) (hX : kExt E0 E1) (hS : va_S (kA E0 s0.heap.size) s0.heap H locs) (hG : kG (kA E0 s0.heap.size) s0.heap.size E1) (hcs0 : cells + 4 ≤ 600130 ∧ slots + 160 ≤ 7301080)
    (jn_1084 : ∀  (u : Int) (w : Int) (E_1084 : kE) (M_1084 : kM) (H : Heap) (locs : List Loc), (u = kSS M 0 + kSS M 1) → (w = kPr (M 0 1) + kPr (M 1 1)) → (kVs E1 E_1084 M M_1084 g y) → kExt E0 E_1084 → kK E_1084 s0 → kG (kA E0 s0.heap.size) s0.heap.size E_1084 → va_P E_1084.1 vwCl (kW E_1084 M_1084) H → va_S (kA E0 s0.heap.size) s0.heap H locs → ∀ ls : Array Slot, lv_has ls 23 [(0, .ref bs), (1, .ref (E_1084.2.2 10)), (2, .ref (E_1084.2.2 g)), (3, .int (zI time)), (4, .int (zI x)), (5, .long (lI dg)), (7, .int (zI u)), (8, .int (zI w))] → W pg l en room_1 s0 mi ar bl me co H locs (cells + 4) (slots + 160) Q (F0 mi 1084 ls []))
    (hl : lv_has ls 23 [(0, .ref bs), (1, .ref (E1.2.2 10)), (2, .ref (E1.2.2 g)), (3, .int (zI time)), (4, .int (zI x)), (5, .long (lI dg))]) : W pg l en room_1 s0 mi ar bl me co H locs cells slots Q (F0 mi 94 ls []) := by
  have hx := S.1
  have hb := S.2.1
  have hn := hK.2.2.2
  have hinX00 : ∀ w ∈ wsX00, w ∈ wsL_law := inlX0
  have hinX10 : ∀ w ∈ wsX10, w ∈ wsL_law := inlX1
  have hinX20 : ∀ w ∈ wsX20, w ∈ wsL_law := inlX2
  have hinX30 : ∀ w ∈ wsX30, w ∈ wsL_law := inlX3
  have hinX40 : ∀ w ∈ wsX40, w ∈ wsL_law := inlX4
  have hl : lv_has ls 23 [(0, .ref bs), (1, .ref (E1.2.2 10)), (2, .ref (E1.2.2 g)), (3, .int (zI time)), (4, .int (zI x)), (5, .long (lI dg))] := hl
  have hx1 := hV.1.2.2.1
  refine k_push hx hb dL_law_94 ?_
  refine lv_istore (lv' := [(7, .int (zI 0)), (0, .ref bs), (1, .ref (E1.2.2 10)), (2, .ref (E1.2.2 g)), (3, .int (zI time)), (4, .int (zI x)), (5, .long (lI dg))]) hx hb dL_law_95 hl (by decide) rfl (fun ls hl => ?_)
  refine k_push hx hb dL_law_97 ?_
  refine lv_istore (lv' := [(8, .int (zI 0)), (7, .int (zI 0)), (0, .ref bs), (1, .ref (E1.2.2 10)), (2, .ref (E1.2.2 g)), (3, .int (zI time)), (4, .int (zI x)), (5, .long (lI dg))]) hx hb dL_law_98 hl (by decide) rfl (fun ls hl => ?_)
  refine k_push hx hb dL_law_100 ?_
  refine lv_istore (lv' := [(9, .int (zI 0)), (8, .int (zI 0)), (7, .int (zI 0)), (0, .ref bs), (1, .ref (E1.2.2 10)), (2, .ref (E1.2.2 g)), (3, .int (zI time)), (4, .int (zI x)), (5, .long (lI dg))]) hx hb dL_law_101 hl (by decide) rfl (fun ls hl => ?_)
  have lp_103 : ∀ (n_103 : Nat) (sum : Int) (pairs : Int) (h : Int) (E_103 : kE) (M_103 : kM) (H : Heap) (locs : List Loc), (0 ≤ h ∧ h ≤ 2) → (kVs E1 E_103 M M_103 g y) → (sum = kSum (kSS M) h.toNat) → (pairs = kSum (fun q => kPr (M q 1)) h.toNat) → (2 - h < (n_103 : Int)) → kExt E0 E_103 → kK E_103 s0 → kG (kA E0 s0.heap.size) s0.heap.size E_103 → va_P E_103.1 vwCl (kW E_103 M_103) H → va_S (kA E0 s0.heap.size) s0.heap H locs → ∀ ls : Array Slot, lv_has ls 23 [(0, .ref bs), (1, .ref (E_103.2.2 10)), (2, .ref (E_103.2.2 g)), (3, .int (zI time)), (4, .int (zI x)), (5, .long (lI dg)), (7, .int (zI sum)), (8, .int (zI pairs)), (9, .int (zI h))] → W pg l en room_1 s0 mi ar bl me co H locs (cells + 2 * h.toNat) (slots + 80 * h.toNat) Q (F0 mi 103 ls []) := by
    intro n_103
    induction n_103 with
    | zero => intro sum pairs h E_103 M_103 H locs h1 hV hsum hpr hm_103; exfalso; omega
    | succ n_103 ih_103 =>
      intro sum pairs h E_103 M_103 H locs h1 hV hsum hpr hm_103 hX hK hG hP hS ls hl
      have hn := hK.2.2.2
      refine lv_iload hx hb dL_law_103 (lv_at hl 8 rfl) ?_
      refine k_push hx hb dL_law_105 ?_
      refine k_ge (tgt := 1084) hx hb dL_law_106 (by decide) (by omega) (fun c_106 => ?_) (fun c_106 => ?_)
      · skip
        refine W.widen (k := cells + 4) (n := slots + 160) (by omega) (by omega) ?_
        refine jn_1084 sum pairs E_103 M_103 _ _ ?_ ?_ (by exact hV) hX hK hG hP hS _ (lv_sub hl [0, 1, 2, 3, 4, 5, 6, 7] rfl)
        · rw [hsum, show h = 2 by omega]; exact kSum_two _
        · rw [hpr, show h = 2 by omega]; exact kSum_two (fun q => kPr (M q 1))
      · skip
        have jn_172 : ∀  (n : Int) (c : Int) (E_172 : kE) (M_172 : kM) (H : Heap) (locs : List Loc), (n = M h 1) → (11 ≤ c ∧ c < kn E_172) → (kArr E_172 M_172 c n) → (∀ j : Int, 0 ≤ j → j < n → M_172 c j = M (h + 3) j) → (kVs E1 E_172 M M_172 g y) → kExt E0 E_172 → kK E_172 s0 → kG (kA E0 s0.heap.size) s0.heap.size E_172 → va_P E_172.1 vwCl (kW E_172 M_172) H → va_S (kA E0 s0.heap.size) s0.heap H locs → ∀ ls : Array Slot, lv_has ls 23 [(0, .ref bs), (1, .ref (E_172.2.2 10)), (2, .ref (E_172.2.2 g)), (3, .int (zI time)), (4, .int (zI x)), (5, .long (lI dg)), (7, .int (zI sum)), (8, .int (zI pairs)), (9, .int (zI h)), (10, .int (zI n)), (11, .ref (E_172.2.2 c))] → W pg l en room_1 s0 mi ar bl me co H locs (cells + 2 * h.toNat + 1) (slots + 80 * h.toNat + 40) Q (F0 mi 172 ls []) := by
          intro n c E_172 M_172 H locs hnn hcr har hav hV hX hK hG hP hS ls hl
          have hn := hK.2.2.2
          have jn_359 : ∀  (pr : Int) (mo : Int) (sh : Int) (E_359 : kE) (M_359 : kM) (H : Heap) (locs : List Loc), (11 ≤ c ∧ c < kn E_359) → (kArr E_359 M_359 c n) → (∀ j : Int, 0 ≤ j → j < n → M_359 c j = M (h + 3) j) → (kVs E1 E_359 M M_359 g y) → (mo = kMaxF (kNx (M (h + 3)) (M h 1) (M (8 + h))) (M h 1).toNat) → (sh = kSS M h) → (pr = pairs + kPr (M h 1)) → kExt E0 E_359 → kK E_359 s0 → kG (kA E0 s0.heap.size) s0.heap.size E_359 → va_P E_359.1 vwCl (kW E_359 M_359) H → va_S (kA E0 s0.heap.size) s0.heap H locs → ∀ ls : Array Slot, lv_has ls 23 [(0, .ref bs), (1, .ref (E_359.2.2 10)), (2, .ref (E_359.2.2 g)), (3, .int (zI time)), (4, .int (zI x)), (5, .long (lI dg)), (7, .int (zI sum)), (8, .int (zI pr)), (9, .int (zI h)), (10, .int (zI n)), (11, .ref (E_359.2.2 c)), (13, .int (zI mo)), (14, .int (zI sh))] → W pg l en room_1 s0 mi ar bl me co H locs (cells + 2 * h.toNat + 1 + 1) (slots + 80 * h.toNat + 40 + 40) Q (F0 mi 359 ls []) := by
            intro pr mo sh E_359 M_359 H locs hcr har hav hV hmo hsh hpr2 hX hK hG hP hS ls hl
            have hn := hK.2.2.2
            have jn_532 : ∀  (u : Int) (rw9 : Int), (u = sum + kSS M h) → (rw9 = kTot (M (h + 3)) (M h 1)) → ∀ ls : Array Slot, lv_has ls 23 [(0, .ref bs), (1, .ref (E_359.2.2 10)), (2, .ref (E_359.2.2 g)), (3, .int (zI time)), (4, .int (zI x)), (5, .long (lI dg)), (7, .int (zI u)), (8, .int (zI pr)), (9, .int (zI h)), (10, .int (zI n)), (11, .ref (E_359.2.2 c)), (15, .int (zI rw9))] → W pg l en room_1 s0 mi ar bl me co H locs (cells + 2 * h.toNat + 1 + 1) (slots + 80 * h.toNat + 40 + 40) Q (F0 mi 532 ls []) := by
              intro u rw9 hu hrw ls hl
              have jn_712 :  ∀ ls : Array Slot, lv_has ls 23 [(0, .ref bs), (1, .ref (E_359.2.2 10)), (2, .ref (E_359.2.2 g)), (3, .int (zI time)), (4, .int (zI x)), (5, .long (lI dg)), (7, .int (zI u)), (8, .int (zI pr)), (9, .int (zI h)), (10, .int (zI n)), (11, .ref (E_359.2.2 c))] → W pg l en room_1 s0 mi ar bl me co H locs (cells + 2 * h.toNat + 1 + 1) (slots + 80 * h.toNat + 40 + 40) Q (F0 mi 712 ls []) := by
                intro   ls hl
                have jn_829 :  ∀ ls : Array Slot, lv_has ls 23 [(0, .ref bs), (1, .ref (E_359.2.2 10)), (2, .ref (E_359.2.2 g)), (3, .int (zI time)), (4, .int (zI x)), (5, .long (lI dg)), (7, .int (zI u)), (8, .int (zI pr)), (9, .int (zI h)), (10, .int (zI n)), (11, .ref (E_359.2.2 c))] → W pg l en room_1 s0 mi ar bl me co H locs (cells + 2 * h.toNat + 1 + 1) (slots + 80 * h.toNat + 40 + 40) Q (F0 mi 829 ls []) := by
                  intro   ls hl
                  have jn_966 :  ∀ ls : Array Slot, lv_has ls 23 [(0, .ref bs), (1, .ref (E_359.2.2 10)), (2, .ref (E_359.2.2 g)), (3, .int (zI time)), (4, .int (zI x)), (5, .long (lI dg)), (7, .int (zI u)), (8, .int (zI pr)), (9, .int (zI h)), (10, .int (zI n)), (11, .ref (E_359.2.2 c))] → W pg l en room_1 s0 mi ar bl me co H locs (cells + 2 * h.toNat + 1 + 1) (slots + 80 * h.toNat + 40 + 40) Q (F0 mi 966 ls []) := by
                    intro   ls hl
                    have jn_1078 :  ∀ ls : Array Slot, lv_has ls 23 [(0, .ref bs), (1, .ref (E_359.2.2 10)), (2, .ref (E_359.2.2 g)), (3, .int (zI time)), (4, .int (zI x)), (5, .long (lI dg)), (7, .int (zI u)), (8, .int (zI pr)), (9, .int (zI h)), (10, .int (zI n)), (11, .ref (E_359.2.2 c))] → W pg l en room_1 s0 mi ar bl me co H locs (cells + 2 * h.toNat + 1 + 1) (slots + 80 * h.toNat + 40 + 40) Q (F0 mi 1078 ls []) := by
                      intro   ls hl
                      obtain ⟨v9_1078, ev9_1078⟩ : ∃ v : Int, v = h + 1 := ⟨_, rfl⟩
                      refine k_incN (v := v9_1078) (lv' := [(9, .int (zI v9_1078)), (0, .ref bs), (1, .ref (E_359.2.2 10)), (2, .ref (E_359.2.2 g)), (3, .int (zI time)), (4, .int (zI x)), (5, .long (lI dg)), (7, .int (zI u)), (8, .int (zI pr)), (10, .int (zI n)), (11, .ref (E_359.2.2 c))]) hx hb dL_law_1078 hl (k := 8) rfl ev9_1078 (by decide) rfl (fun ls hl => ?_)
                      refine lv_goto (tgt := 103) hx hb dL_law_1081 (by decide) ?_
                      refine W.widen (k := cells + 2 * v9_1078.toNat) (n := slots + 80 * v9_1078.toNat) (by omega) (by omega) ?_
                      refine ih_103 u pr v9_1078 E_359 M_359 _ _ (by omega) (by exact hV) ?_ ?_ (by omega) hX hK hG hP hS _ (lv_sub hl [1, 2, 3, 4, 5, 6, 7, 8, 0] rfl)
                      · rw [ev9_1078, kSum_step _ h1.1, ← hsum]
                        exact hu
                      · rw [ev9_1078, kSum_step _ h1.1, ← hpr]
                        exact hpr2
                    exact s_law_fst (most := 0) (shared := 0) (rows := 0) hI hV ⟨h1.1, by omega⟩ hnn har hav S hP hK ⟨by omega, by omega⟩ jn_1078 hl
                  exact s_law_turn (most := 0) (shared := 0) (rows := 0) hI hV ⟨h1.1, by omega⟩ hnn har hav S hP hK ⟨by omega, by omega⟩ jn_966 hl
                exact s_law_per (most := 0) (shared := 0) (rows := 0) hI hV ⟨h1.1, by omega⟩ hnn har hav S hP hK ⟨by omega, by omega⟩ jn_829 hl
              exact s_law_row (most := 0) (shared := 0) hI hV ⟨h1.1, by omega⟩ hnn har hav S hP hK ⟨by omega, by omega⟩ hrw jn_712 hl
            exact s_law_rep (rows := 0) hI hV ⟨h1.1, by omega⟩ hnn har hav S hP hK ⟨by omega, by omega⟩ hmo hsh jn_532 hl
          exact s_law_ends (most := 0) (shared := 0) (rows := 0) hI hV ⟨h1.1, by omega⟩ hnn har hav S hP hK hcr hX hS hG ⟨by omega, by omega⟩ jn_359 hl
        exact s_law_own hI hV ⟨h1.1, by omega⟩ S hP hK hX hS hG ⟨by omega, by omega⟩ jn_172 (lv_sub hl [0, 1, 2, 3, 4, 5, 6, 7, 8] rfl)
  refine W.widen (k := cells + 2 * (0 : Int).toNat) (n := slots + 80 * (0 : Int).toNat) (by omega) (by omega) ?_
  refine lp_103 (((2 - 0 : Int)).toNat + 1) 0 0 0 E1 M _ _ (by omega) (by exact hV) (by rfl) (by rfl) (by omega) hX hK hG hP hS _ (lv_sub hl [3, 4, 5, 6, 7, 8, 2, 1, 0] rfl)
