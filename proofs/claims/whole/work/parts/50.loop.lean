/-! ===== the law ===== -/
set_option maxHeartbeats 4000000 in
set_option maxRecDepth 100000 in
theorem lw_loop {pg : Program} {en : Env} {s : State} {mi : MethodId} {bl : List Frame} {me : Method} {co : Code} {l : Launch} {bs L : Nat} {xs : Nat → Int32} (hL : L ≤ 2048) (C0 : lw_At pg s mi me co bs L xs) (hlst : l.stackTraces = false) {E : kE} (hE : kInj E) (hK : kK E s) (hX : kXs s) (hZ : kZ (kA E s.heap.size) s s.heap) (hbA : ¬ kA E s.heap.size bs) (hA : ∀ q : Nat, kA E s.heap.size q → s.heap.size ≤ q) :
    ∀ (n : Nat) (i : Int) (M : kM) (H : Heap) (locs : List Loc) (cells slots : Nat) (d0 : Drawn), 0 ≤ i → i ≤ (L : Int) + 4 → (L : Int) + 4 - i < (n : Int) → s.drawn.sameBut d0 lw_cs → kI M → va_P E.1 vwCl (kW E M) H → va_S (kA E s.heap.size) s.heap H locs → (cells : Int) ≤ 103 + i → (slots : Int) ≤ 4000 + 6 * i → ∀ ls : Array Slot, lv_has ls 9 [(4, .int (zI i)), (3, .ref (E.2.2 102)), (2, .ref (E.2.2 11)), (1, .ref (E.2.2 10)), (0, .ref bs)] → W pg l en room_1 (s.setDrawn d0) mi #[Value.ref bs] bl me co H locs cells slots (lw_Z bl #[Value.ref bs] s) (F0 mi 23 ls []) := by
  obtain ⟨hx, hb, hr, hml, hown, hts, hScr, hbl, hlocks, hgv⟩ := id C0
  have Sd : ∀ d : Drawn, CallFix pg mi co cL_law 9 (s.setDrawn d) #[Value.ref bs] wsL_law RL := fun d => ⟨hx, hb, hml, hown, dr_words (fun w h => hts w (wsL_law_in w h)) d⟩
  have hKd : ∀ d : Drawn, kK E (s.setDrawn d) := fun d => kK.same (u := s) (U := s.setDrawn d) rfl hK
  have hXd : ∀ d : Drawn, kXs (s.setDrawn d) := fun d => kXs.same (u := s) (U := s.setDrawn d) rfl hX
  have hZd : ∀ d : Drawn, kZ (kA E s.heap.size) (s.setDrawn d) s.heap := fun d => kZ.moved (u := s) (U := s.setDrawn d) (Vm.Alike.refl s.vm) hZ
  have hCd : ∀ d : Drawn, va_X bs L xs (s.setDrawn d) s.heap := fun d => va_X.moved (u := s) (U := s.setDrawn d) (Vm.Alike.refl s.vm) hScr
  intro n
  induction n with
  | zero => intro i M H locs cells slots d0 h0 h1 h2; exfalso; omega
  | succ n ih =>
    intro i M H locs cells slots d0 h0 h1 h2 hd0 hI hP hS hc1 hc2 ls hl
    have nx : ∀ (M1 : kM) (H1 : Heap) (locs1 : List Loc) (ls1 : Array Slot) (d1 : Drawn), i + 3 < (L : Int) → s.drawn.sameBut d1 lw_cs → kI M1 → va_P E.1 vwCl (kW E M1) H1 → va_S (kA E s.heap.size) s.heap H1 locs1 → lv_has ls1 9 [(4, .int (zI i)), (3, .ref (E.2.2 102)), (2, .ref (E.2.2 11)), (1, .ref (E.2.2 10)), (0, .ref bs)] → W pg l en room_1 (s.setDrawn d1) mi #[Value.ref bs] bl me co H1 locs1 (cells + 1) (slots + 6) (lw_Z bl #[Value.ref bs] s) (F0 mi 1416 ls1 []) := by
      intro M1 H1 locs1 ls1 d1 hi3 hd1 hI1 hP1 hS1 hl1
      obtain ⟨v, ev⟩ : ∃ v : Int, v = i + 4 := ⟨_, rfl⟩
      refine k_incN (v := v) (lv' := [(4, .int (zI v)), (3, .ref (E.2.2 102)), (2, .ref (E.2.2 11)), (1, .ref (E.2.2 10)), (0, .ref bs)]) hx hb dL_law_1416 hl1 (k := 0) rfl ev (by decide) rfl (fun ls hl => ?_)
      refine lv_goto (tgt := 23) hx hb dL_law_1419 (by decide) ?_
      exact ih v M1 H1 locs1 (cells + 1) (slots + 6) d1 (by omega) (by omega) (by omega) hd1 hI1 hP1 hS1 (by omega) (by omega) ls hl
    refine lv_iload hx hb dL_law_23 (lv_at hl 0 rfl) ?_
    refine lv_aload_n hx hb dL_law_25 rfl (lv_at hl 4 rfl) ?_
    refine va_slen hx hb (hCd d0) hbl hbA hS dL_law_26 ?_
    rw [show Int32.ofNat L = zI (L : Int) by rw [zI, Int32.ofInt_eq_ofNat]]
    refine k_push hx hb dL_law_27 ?_
    refine k_sub hx hb dL_law_28 ?_
    refine k_gt (tgt := 1422) hx hb dL_law_29 (by decide) (by omega) (fun c29 => ?_) (fun c29 => ?_)
    · refine lv_iconst (v := 1) hx hb dL_law_1422 (by decide) ?_
      refine va_forget (fun q hq => hA _ (hS.2.2 q hq)) ?_
      refine W.widen (k := 601024) (n := 7293034) (by omega) (by omega) ?_
      exact lw_ret hd0 hx hb hr hlocks dL_law_1423
    have hi : 0 ≤ i ∧ i + 3 < (L : Int) := by omega
    have hc : cells + 1 ≤ 601024 ∧ slots + 6 ≤ 7293034 := by omega
    refine lv_aload_n hx hb dL_law_32 rfl (lv_at hl 4 rfl) ?_
    refine lv_iload hx hb dL_law_33 (lv_at hl 0 rfl) ?_
    refine k_sld (Sd d0) (hCd d0) hbl hbA hS (v := kSc xs i) (by omega) rfl dL_law_35 ?_
    refine k_bpush hx hb dL_law_36 (by decide) ?_
    refine lv_iand hx hb dL_law_38 ?_
    obtain ⟨j, hj, ej⟩ := pk_andE (zI (kSc xs i)) (m := zI 31) 5 (by decide)
    obtain ⟨w, hw, hw0, hw1⟩ : ∃ w : Int, zI (kSc xs i) &&& zI 31 = zI w ∧ 0 ≤ w ∧ w < 32 := ⟨(j : Int), by rw [ej, nI, zI, Int32.ofInt_eq_ofNat], by omega, by omega⟩
    rw [hw]
    by_cases h22 : 21 < w
    · refine lv_tableOut (tgt := 1416) hx hb dL_law_39 (by rw [zI_toInt (by omega)]; omega) (by decide) ?_
      refine W.widen (k := cells + 1) (n := slots + 6) (by omega) (by omega) ?_
      exact nx M H locs ls d0 hi.2 hd0 hI hP hS hl
    have hcase : w = 0 ∨ w = 1 ∨ w = 2 ∨ w = 3 ∨ w = 4 ∨ w = 5 ∨ w = 6 ∨ w = 7 ∨ w = 8 ∨ w = 9 ∨ w = 10 ∨ w = 11 ∨ w = 12 ∨ w = 13 ∨ w = 14 ∨ w = 15 ∨ w = 16 ∨ w = 17 ∨ w = 18 ∨ w = 19 ∨ w = 20 ∨ w = 21 := by omega
    rcases hcase with hc_0 | hc_1 | hc_2 | hc_3 | hc_4 | hc_5 | hc_6 | hc_7 | hc_8 | hc_9 | hc_10 | hc_11 | hc_12 | hc_13 | hc_14 | hc_15 | hc_16 | hc_17 | hc_18 | hc_19 | hc_20 | hc_21
    · refine lv_tableIn (tgt := 140) (off := 101) hx hb dL_law_39 (by rw [zI_toInt (by omega)]; omega) (by rw [zI_toInt (by omega)]; omega) (by rw [zI_toInt (by omega), hc_0]; rfl) (by decide) ?_
      exact lw_c_sew hlst (Sd d0) hE (hKd d0) (hXd d0) (hZd d0) (hCd d0) hbl hbA hL hI hP hS hi hc hl (fun M1 H1 locs1 ls1 a1 a2 a3 a4 => nx M1 H1 locs1 ls1 d0 hi.2 hd0 a1 a2 a3 a4) rfl rfl
    · refine lv_tableIn (tgt := 208) (off := 169) hx hb dL_law_39 (by rw [zI_toInt (by omega)]; omega) (by rw [zI_toInt (by omega)]; omega) (by rw [zI_toInt (by omega), hc_1]; rfl) (by decide) ?_
      exact lw_c_again hlst (Sd d0) hE (hKd d0) (hXd d0) (hZd d0) (hCd d0) hbl hbA hL hI hP hS hi hc hl (fun M1 H1 locs1 ls1 a1 a2 a3 a4 => nx M1 H1 locs1 ls1 d0 hi.2 hd0 a1 a2 a3 a4) rfl rfl
    · refine lv_tableIn (tgt := 276) (off := 237) hx hb dL_law_39 (by rw [zI_toInt (by omega)]; omega) (by rw [zI_toInt (by omega)]; omega) (by rw [zI_toInt (by omega), hc_2]; rfl) (by decide) ?_
      exact lw_c_unpick hlst (Sd d0) hE (hKd d0) (hXd d0) (hZd d0) (hCd d0) hbl hbA hL hI hP hS hi hc hl (fun M1 H1 locs1 ls1 a1 a2 a3 a4 => nx M1 H1 locs1 ls1 d0 hi.2 hd0 a1 a2 a3 a4) rfl rfl
    · refine lv_tableIn (tgt := 344) (off := 305) hx hb dL_law_39 (by rw [zI_toInt (by omega)]; omega) (by rw [zI_toInt (by omega)]; omega) (by rw [zI_toInt (by omega), hc_3]; rfl) (by decide) ?_
      exact lw_c_add hlst (Sd d0) hE (hKd d0) (hXd d0) (hZd d0) (hCd d0) hbl hbA hL hI hP hS hi hc hl (fun M1 H1 locs1 ls1 a1 a2 a3 a4 => nx M1 H1 locs1 ls1 d0 hi.2 hd0 a1 a2 a3 a4) rfl
    · refine lv_tableIn (tgt := 400) (off := 361) hx hb dL_law_39 (by rw [zI_toInt (by omega)]; omega) (by rw [zI_toInt (by omega)]; omega) (by rw [zI_toInt (by omega), hc_4]; rfl) (by decide) ?_
      exact lw_c_clear (Sd d0) hE (hKd d0) hI hP hS hc hl (fun M1 H1 locs1 ls1 a1 a2 a3 a4 => nx M1 H1 locs1 ls1 d0 hi.2 hd0 a1 a2 a3 a4)
    · refine lv_tableIn (tgt := 413) (off := 374) hx hb dL_law_39 (by rw [zI_toInt (by omega)]; omega) (by rw [zI_toInt (by omega)]; omega) (by rw [zI_toInt (by omega), hc_5]; rfl) (by decide) ?_
      exact lw_c_stitch hlst (Sd d0) hE (hKd d0) (hXd d0) (hZd d0) (hCd d0) hbl hbA hL hI hP hS hi hc hl (fun M1 H1 locs1 ls1 a1 a2 a3 a4 => nx M1 H1 locs1 ls1 d0 hi.2 hd0 a1 a2 a3 a4) rfl rfl
    · refine lv_tableIn (tgt := 481) (off := 442) hx hb dL_law_39 (by rw [zI_toInt (by omega)]; omega) (by rw [zI_toInt (by omega)]; omega) (by rw [zI_toInt (by omega), hc_6]; rfl) (by decide) ?_
      exact lw_c_count hlst (Sd d0) hE (hKd d0) (hXd d0) (hZd d0) (hCd d0) hbl hbA hL hI hP hS hi hc hl (fun M1 H1 locs1 ls1 a1 a2 a3 a4 => nx M1 H1 locs1 ls1 d0 hi.2 hd0 a1 a2 a3 a4) rfl
    · refine lv_tableIn (tgt := 537) (off := 498) hx hb dL_law_39 (by rw [zI_toInt (by omega)]; omega) (by rw [zI_toInt (by omega)]; omega) (by rw [zI_toInt (by omega), hc_7]; rfl) (by decide) ?_
      exact lw_c_end hlst (Sd d0) hE (hKd d0) (hXd d0) (hZd d0) (hCd d0) hbl hbA hL hI hP hS hi hc hl (fun M1 H1 locs1 ls1 a1 a2 a3 a4 => nx M1 H1 locs1 ls1 d0 hi.2 hd0 a1 a2 a3 a4) rfl rfl
    · refine lv_tableIn (tgt := 605) (off := 566) hx hb dL_law_39 (by rw [zI_toInt (by omega)]; omega) (by rw [zI_toInt (by omega)]; omega) (by rw [zI_toInt (by omega), hc_8]; rfl) (by decide) ?_
      exact lw_c_rank hlst (Sd d0) hE (hKd d0) (hXd d0) (hZd d0) (hCd d0) hbl hbA hL hI hP hS hi hc hl (fun M1 H1 locs1 ls1 a1 a2 a3 a4 => nx M1 H1 locs1 ls1 d0 hi.2 hd0 a1 a2 a3 a4) rfl rfl
    · refine lv_tableIn (tgt := 673) (off := 634) hx hb dL_law_39 (by rw [zI_toInt (by omega)]; omega) (by rw [zI_toInt (by omega)]; omega) (by rw [zI_toInt (by omega), hc_9]; rfl) (by decide) ?_
      exact lw_c_common hlst (Sd d0) hE (hKd d0) (hXd d0) (hZd d0) (hCd d0) hbl hbA hL hI hP hS hi hc hl (fun M1 H1 locs1 ls1 a1 a2 a3 a4 => nx M1 H1 locs1 ls1 d0 hi.2 hd0 a1 a2 a3 a4) rfl rfl rfl
    · refine lv_tableIn (tgt := 753) (off := 714) hx hb dL_law_39 (by rw [zI_toInt (by omega)]; omega) (by rw [zI_toInt (by omega)]; omega) (by rw [zI_toInt (by omega), hc_10]; rfl) (by decide) ?_
      exact lw_c_against hlst (Sd d0) hE (hKd d0) (hXd d0) (hZd d0) (hCd d0) hbl hbA hL hI hP hS hi hc hl (fun M1 H1 locs1 ls1 a1 a2 a3 a4 => nx M1 H1 locs1 ls1 d0 hi.2 hd0 a1 a2 a3 a4) rfl rfl
    · refine lv_tableIn (tgt := 821) (off := 782) hx hb dL_law_39 (by rw [zI_toInt (by omega)]; omega) (by rw [zI_toInt (by omega)]; omega) (by rw [zI_toInt (by omega), hc_11]; rfl) (by decide) ?_
      exact lw_c_repeat hlst (Sd d0) hE (hKd d0) (hXd d0) (hZd d0) (hCd d0) hbl hbA hL hI hP hS hi hc hl (fun M1 H1 locs1 ls1 a1 a2 a3 a4 => nx M1 H1 locs1 ls1 d0 hi.2 hd0 a1 a2 a3 a4) rfl rfl
    · refine lv_tableIn (tgt := 889) (off := 850) hx hb dL_law_39 (by rw [zI_toInt (by omega)]; omega) (by rw [zI_toInt (by omega)]; omega) (by rw [zI_toInt (by omega), hc_12]; rfl) (by decide) ?_
      exact lw_c_row hlst (Sd d0) hE (hKd d0) (hXd d0) (hZd d0) (hCd d0) hbl hbA hL hI hP hS hi hc hl (fun M1 H1 locs1 ls1 a1 a2 a3 a4 => nx M1 H1 locs1 ls1 d0 hi.2 hd0 a1 a2 a3 a4) rfl rfl
    · refine lv_tableIn (tgt := 957) (off := 918) hx hb dL_law_39 (by rw [zI_toInt (by omega)]; omega) (by rw [zI_toInt (by omega)]; omega) (by rw [zI_toInt (by omega), hc_13]; rfl) (by decide) ?_
      exact lw_c_found hlst (Sd d0) hE (hKd d0) (hXd d0) (hZd d0) (hCd d0) hbl hbA hL hI hP hS hi hc hl (fun M1 H1 locs1 ls1 a1 a2 a3 a4 => nx M1 H1 locs1 ls1 d0 hi.2 hd0 a1 a2 a3 a4) rfl
    · refine lv_tableIn (tgt := 1013) (off := 974) hx hb dL_law_39 (by rw [zI_toInt (by omega)]; omega) (by rw [zI_toInt (by omega)]; omega) (by rw [zI_toInt (by omega), hc_14]; rfl) (by decide) ?_
      exact lw_c_first hlst (Sd d0) hE (hKd d0) (hXd d0) (hZd d0) (hCd d0) hbl hbA hL hI hP hS hi hc hl (fun M1 H1 locs1 ls1 a1 a2 a3 a4 => nx M1 H1 locs1 ls1 d0 hi.2 hd0 a1 a2 a3 a4) rfl
    · refine lv_tableIn (tgt := 1069) (off := 1030) hx hb dL_law_39 (by rw [zI_toInt (by omega)]; omega) (by rw [zI_toInt (by omega)]; omega) (by rw [zI_toInt (by omega), hc_15]; rfl) (by decide) ?_
      exact lw_c_period hlst (Sd d0) hE (hKd d0) (hXd d0) (hZd d0) (hCd d0) hbl hbA hL hI hP hS hi hc hl (fun M1 H1 locs1 ls1 a1 a2 a3 a4 => nx M1 H1 locs1 ls1 d0 hi.2 hd0 a1 a2 a3 a4) rfl
    · refine lv_tableIn (tgt := 1125) (off := 1086) hx hb dL_law_39 (by rw [zI_toInt (by omega)]; omega) (by rw [zI_toInt (by omega)]; omega) (by rw [zI_toInt (by omega), hc_16]; rfl) (by decide) ?_
      exact lw_c_turned hlst (Sd d0) hE (hKd d0) (hXd d0) (hZd d0) (hCd d0) hbl hbA hL hI hP hS hi hc hl (fun M1 H1 locs1 ls1 a1 a2 a3 a4 => nx M1 H1 locs1 ls1 d0 hi.2 hd0 a1 a2 a3 a4) rfl
    · refine lv_tableIn (tgt := 1181) (off := 1142) hx hb dL_law_39 (by rw [zI_toInt (by omega)]; omega) (by rw [zI_toInt (by omega)]; omega) (by rw [zI_toInt (by omega), hc_17]; rfl) (by decide) ?_
      exact lw_c_seam hlst (Sd d0) hE (hKd d0) (hXd d0) (hZd d0) (hCd d0) hbl hbA hL hI hP hS hi hc hl (fun M1 H1 locs1 ls1 a1 a2 a3 a4 => nx M1 H1 locs1 ls1 d0 hi.2 hd0 a1 a2 a3 a4) rfl
    · refine lv_tableIn (tgt := 1237) (off := 1198) hx hb dL_law_39 (by rw [zI_toInt (by omega)]; omega) (by rw [zI_toInt (by omega)]; omega) (by rw [zI_toInt (by omega), hc_18]; rfl) (by decide) ?_
      exact lw_c_would hlst (Sd d0) hE (hKd d0) (hXd d0) (hZd d0) (hCd d0) hbl hbA hL hI hP hS hi hc hl (fun M1 H1 locs1 ls1 a1 a2 a3 a4 => nx M1 H1 locs1 ls1 d0 hi.2 hd0 a1 a2 a3 a4) rfl rfl
    · refine lv_tableIn (tgt := 1305) (off := 1266) hx hb dL_law_39 (by rw [zI_toInt (by omega)]; omega) (by rw [zI_toInt (by omega)]; omega) (by rw [zI_toInt (by omega), hc_19]; rfl) (by decide) ?_
      exact lw_c_advise hlst (Sd d0) hE (hKd d0) (hXd d0) (hZd d0) (hCd d0) hbl hbA hL hI hP hS hi hc hl (fun M1 H1 locs1 ls1 a1 a2 a3 a4 => nx M1 H1 locs1 ls1 d0 hi.2 hd0 a1 a2 a3 a4) rfl
    · refine lv_tableIn (tgt := 1361) (off := 1322) hx hb dL_law_39 (by rw [zI_toInt (by omega)]; omega) (by rw [zI_toInt (by omega)]; omega) (by rw [zI_toInt (by omega), hc_20]; rfl) (by decide) ?_
      exact lw_c_mean Sd hd0 hE hK hI hP hS hc hl (fun M1 H1 locs1 ls1 d1 a0 a1 a2 a3 a4 => nx M1 H1 locs1 ls1 d1 hi.2 a0 a1 a2 a3 a4)
    · refine lv_tableIn (tgt := 1402) (off := 1363) hx hb dL_law_39 (by rw [zI_toInt (by omega)]; omega) (by rw [zI_toInt (by omega)]; omega) (by rw [zI_toInt (by omega), hc_21]; rfl) (by decide) ?_
      exact lw_c_digest (Sd d0) hE (hKd d0) hI hP hS hc hl (fun M1 H1 locs1 ls1 a1 a2 a3 a4 => nx M1 H1 locs1 ls1 d0 hi.2 hd0 a1 a2 a3 a4)
