/-! ===== the law's cases ===== -/
def kSc (xs : Nat → Int32) (i : Int) : Int := (xs i.toNat).toInt
theorem kSc_rng (xs : Nat → Int32) (i : Int) : -2147483648 ≤ kSc xs i ∧ kSc xs i ≤ 2147483647 := zI_rng _
section KLAW
variable {p : Program} {l : Launch} {e : Env} {R : Room} {s : State} {m : MethodId} {args : Array Value} {below : List Frame} {meth : Method} {c : Code} {H H0 : Heap} {locs : List Loc} {cells slots : Nat} {Q : State → Prop}
variable {cc bytes : ByteArray} {pc : Nat} {ls : Array Slot} {rest st : List Value} {E : kE} {M : kM} {nL maxL index n : Nat} {Ts ws : List Cond} {own C : String} {b L : Nat} {xs : Nat → Int32}
theorem k_sld (S : CallFix p m c cc nL s args Ts own) (hScr : va_X b L xs s H0) (hbl : b < H0.size) (hbA : ¬ kA E H0.size b) (hS : va_S (kA E H0.size) H0 H locs) {i v : Int} (hi : 0 ≤ i ∧ i < (L : Int) ∧ L ≤ 2048) (hv : kSc xs i = v) (hdg : decode cc pc = .ok (.iaload, 1))
    (kk : W p l e R s m args below meth c H locs cells slots Q (F0 m (pc + 1) ls (.int (zI v) :: rest))) : W p l e R s m args below meth c H locs cells slots Q (F0 m pc ls (.int (zI i) :: .ref b :: rest)) := by
  refine va_sld S.1 S.2.1 hScr hbl hbA hS (zI_in (by omega) (by omega)) hdg ?_
  rw [zI_nat (by omega), zI_of (xs i.toNat)]
  rw [← hv] at kk
  exact kk
theorem k_lcmpE (hx : p.tables.exec = Jvm.exec) (hb : c.code = cc) {a : Int64} (hdg : decode cc pc = .ok (.lcmp, 1)) (k : W p l e R s m args below meth c H locs cells slots Q (F0 m (pc + 1) ls (.int (zI 0) :: rest))) : W p l e R s m args below meth c H locs cells slots Q (F0 m pc ls (.long a :: .long a :: rest)) := by
  refine W.lcmp hx hb hdg ?_
  rw [show lg_cmp a a = zI 0 by simp [lg_cmp, zI]]
  exact k
end KLAW
set_option maxHeartbeats 4000000 in
set_option maxRecDepth 100000 in
theorem lw_c_stitch {pg : Program} {l : Launch} {en : Env} {s0 : State} {mi : MethodId} {ar : Array Value} {bl : List Frame} {me : Method} {co : Code} {H H0 : Heap} {locs : List Loc} {cells slots : Nat} {Q : State → Prop} {ls : Array Slot} {E : kE} {M : kM} {bs L : Nat} {xs : Nat → Int32} {i : Int} (hlst : l.stackTraces = false) (S : CallFix pg mi co cL_law 9 s0 ar wsL_law RL) (hE : kInj E) (hK : kK E s0) (hX : kXs s0) (hZ : kZ (kA E H0.size) s0 H0) (hScr : va_X bs L xs s0 H0) (hbl : bs < H0.size) (hbA : ¬ kA E H0.size bs) (hL : L ≤ 2048) (hI : kI M) (hP : va_P E.1 vwCl (kW E M) H) (hS : va_S (kA E H0.size) H0 H locs) (hi : 0 ≤ i ∧ i + 3 < (L : Int)) (hc : cells + 1 ≤ 601024 ∧ slots + 6 ≤ 7293034) (hl : lv_has ls 9 [(4, .int (zI i)), (3, .ref (E.2.2 102)), (2, .ref (E.2.2 11)), (1, .ref (E.2.2 10)), (0, .ref bs)])
    (next : ∀ (M1 : kM) (H1 : Heap) (locs1 : List Loc) (ls1 : Array Slot), kI M1 → va_P E.1 vwCl (kW E M1) H1 → va_S (kA E H0.size) H0 H1 locs1 → lv_has ls1 9 [(4, .int (zI i)), (3, .ref (E.2.2 102)), (2, .ref (E.2.2 11)), (1, .ref (E.2.2 10)), (0, .ref bs)] → W pg l en room_1 s0 mi ar bl me co H1 locs1 (cells + 1) (slots + 6) Q (F0 mi 1416 ls1 []))
    {h : Int} (e1 : kSc xs (i + 1) = h) {p : Int} (e2 : kSc xs (i + 2) = p) : W pg l en room_1 s0 mi ar bl me co H locs cells slots Q (F0 mi 413 ls []) := by
  have hx := S.1
  have hb := S.2.1
  have r1 : -2147483648 ≤ h ∧ h ≤ 2147483647 := by rw [← e1]; exact kSc_rng _ _
  have r2 : -2147483648 ≤ p ∧ p ≤ 2147483647 := by rw [← e2]; exact kSc_rng _ _
  have hO2 := kI_O hI
  have hW := hI.1
  have hm12 := hI.2.2.2.2
  obtain ⟨hs0, hs1, hsv⟩ := hW 2 (by omega)
  by_cases hh : 0 ≤ h ∧ h < 2
  · obtain ⟨hn0, hn1, hv0⟩ := hW h (by omega)
    have hcs : (p < 0 ∨ M h 1 ≤ p) ∨ (0 ≤ p ∧ p < M h 1) := by omega
    rcases hcs with hk | hk
    · skip
      refine lv_aload_n hx hb dL_law_413 rfl (lv_at hl 3 rfl) ?_
      refine lv_aload_n hx hb dL_law_414 rfl (lv_at hl 4 rfl) ?_
      refine lv_iload hx hb dL_law_415 (lv_at hl 0 rfl) ?_
      refine k_push hx hb dL_law_417 ?_
      refine k_add hx hb dL_law_418 ?_
      refine k_sld S hScr hbl hbA hS (by omega) e1 dL_law_419 ?_
      refine lv_aload_n hx hb dL_law_420 rfl (lv_at hl 4 rfl) ?_
      refine lv_iload hx hb dL_law_421 (lv_at hl 0 rfl) ?_
      refine k_push hx hb dL_law_423 ?_
      refine k_add hx hb dL_law_424 ?_
      refine k_sld S hScr hbl hbA hS (by omega) e2 dL_law_425 ?_
      refine lv_aload_n hx hb dL_law_426 rfl (lv_at hl 1 rfl) ?_
      refine k_callHT (As := [.ref (E.2.2 10), .int (zI h), .int (zI p), .ref (E.2.2 102)]) (rest := []) S hK hX hZ hP hS (c_L_stitch_b2 l E hlst M h p (by omega) hW (by omega) (by omega)) (vx_cwSW 4 S.2.2.2.2 gL_law_L_stitch rfl rfl rfl (by decide +kernel) ⟨Nat.le_of_ble_eq_true rfl, Nat.le_of_ble_eq_true rfl⟩) rfl hl.1 rfl (Nat.le_of_ble_eq_true rfl) dL_law_427 ⟨hc.1, hc.2⟩ (fun H locs hP hS => ?_)
      refine lv_istore (lv' := [(5, .int (zI 1)), (4, .int (zI i)), (3, .ref (E.2.2 102)), (2, .ref (E.2.2 11)), (1, .ref (E.2.2 10)), (0, .ref bs)]) hx hb dL_law_430 hl (by decide) rfl (fun ls hl => ?_)
      have q13 : M (13 + h) = M (h + 3) := kI_13 hI hh
      have q15 : M 15 h = M h 1 := kI_15 hI hh
      have q4 : M 11 4 = M 2 1 := hI.2.2.2.1
      refine lv_aload_n hx hb dL_law_432 rfl (lv_at hl 3 rfl) ?_
      refine lv_aload_n hx hb dL_law_433 rfl (lv_at hl 5 rfl) ?_
      refine lv_iload hx hb dL_law_434 (lv_at hl 1 rfl) ?_
      refine k_push hx hb dL_law_436 ?_
      refine k_add hx hb dL_law_437 ?_
      refine k_sld S hScr hbl hbA hS (by omega) e1 dL_law_438 ?_
      refine lv_aload_n hx hb dL_law_439 rfl (lv_at hl 5 rfl) ?_
      refine lv_iload hx hb dL_law_440 (lv_at hl 1 rfl) ?_
      refine k_push hx hb dL_law_442 ?_
      refine k_add hx hb dL_law_443 ?_
      refine k_sld S hScr hbl hbA hS (by omega) e2 dL_law_444 ?_
      refine k_callVW (As := [.int (zI h), .int (zI p)]) (rest := []) S hK hP hS (c_X3_stitch l E hE M h p (kI_wm hI) (by omega)) (cwV 2 S.2.2.2.2 gL_law_X3_stitch rfl rfl rfl (by decide +kernel) ⟨Nat.le_of_ble_eq_true rfl, Nat.le_of_ble_eq_true rfl⟩) (k_rY hK hP rfl) rfl hl.1 rfl (Nat.le_of_ble_eq_true rfl) dL_law_445 ⟨hc.1, hc.2⟩ (fun z M2 H locs hz hP hS => ?_)
      refine lv_istore (lv' := [(6, .int (zI z)), (5, .int (zI 1)), (4, .int (zI i)), (3, .ref (E.2.2 102)), (2, .ref (E.2.2 11)), (1, .ref (E.2.2 10)), (0, .ref bs)]) hx hb dL_law_448 hl (by decide) rfl (fun ls hl => ?_)
      try simp only [q13, q15, q4] at hz
      have ht0 : M2 11 0 = 1 := by omega
      refine lv_aload_n hx hb dL_law_450 rfl (lv_at hl 4 rfl) ?_
      refine k_callV (As := []) (rest := []) S hK hP (c_X3_thrown l E M2) (cwV 0 S.2.2.2.2 gL_law_X3_thrown rfl rfl rfl (by decide +kernel) ⟨Nat.le_of_ble_eq_true rfl, Nat.le_of_ble_eq_true rfl⟩) (k_rY hK hP rfl) rfl hl.1 rfl (Nat.le_of_ble_eq_true rfl) dL_law_451 ⟨hc.1, hc.2⟩ (fun t ht => ?_)
      refine lv_iload hx hb dL_law_454 (lv_at hl 1 rfl) ?_
      refine k_eq (tgt := 461) hx hb dL_law_456 (by decide) (by omega) (fun _ => ?_) (fun q => absurd (ht.trans ht0) q)
      refine lv_iload hx hb dL_law_461 (lv_at hl 1 rfl) ?_
      refine k_ne0 (tgt := 478) hx hb dL_law_463 (by decide) (by omega) (fun _ => ?_) (fun q => absurd q (by decide))
      refine lv_goto (tgt := 1416) hx hb dL_law_478 (by decide) ?_
      exact next _ _ _ _ (kI_m hI hz.1) hP hS (lv_sub hl [2, 3, 4, 5, 6] rfl)
    · skip
      refine lv_aload_n hx hb dL_law_413 rfl (lv_at hl 3 rfl) ?_
      refine lv_aload_n hx hb dL_law_414 rfl (lv_at hl 4 rfl) ?_
      refine lv_iload hx hb dL_law_415 (lv_at hl 0 rfl) ?_
      refine k_push hx hb dL_law_417 ?_
      refine k_add hx hb dL_law_418 ?_
      refine k_sld S hScr hbl hbA hS (by omega) e1 dL_law_419 ?_
      refine lv_aload_n hx hb dL_law_420 rfl (lv_at hl 4 rfl) ?_
      refine lv_iload hx hb dL_law_421 (lv_at hl 0 rfl) ?_
      refine k_push hx hb dL_law_423 ?_
      refine k_add hx hb dL_law_424 ?_
      refine k_sld S hScr hbl hbA hS (by omega) e2 dL_law_425 ?_
      refine lv_aload_n hx hb dL_law_426 rfl (lv_at hl 1 rfl) ?_
      refine k_callHW (As := [.ref (E.2.2 10), .int (zI h), .int (zI p), .ref (E.2.2 102)]) (rest := []) S hK hP hS (c_L_stitch l E hE M h p (by omega) hW (by omega)) (vx_cwSW 4 S.2.2.2.2 gL_law_L_stitch rfl rfl rfl (by decide +kernel) ⟨Nat.le_of_ble_eq_true rfl, Nat.le_of_ble_eq_true rfl⟩) rfl hl.1 rfl (Nat.le_of_ble_eq_true rfl) dL_law_427 ⟨Nat.le_trans (Nat.le_add_right cells 1) hc.1, Nat.le_trans (Nat.le_add_right slots 6) hc.2⟩ (fun z1 M1 H locs hLk hP hS => ?_)
      obtain ⟨rfl, v, hv, eM1⟩ := hLk
      refine W.widen (k := cells + 1) (n := slots + 6) (by omega) (by omega) ?_
      refine lv_istore (lv' := [(5, .int (zI 0)), (4, .int (zI i)), (3, .ref (E.2.2 102)), (2, .ref (E.2.2 11)), (1, .ref (E.2.2 10)), (0, .ref bs)]) hx hb dL_law_430 hl (by decide) rfl (fun ls hl => ?_)
      have hI1 : kI M1 := by rw [eM1]; exact kI_102 hI
      have q13 : M1 (13 + h) = M (h + 3) := (kI_13 hI1 hh).trans (funext (fun k => by rw [eM1, kU_at, if_neg (by omega)]))
      have q15 : M1 15 h = M h 1 := (kI_15 hI1 hh).trans (by rw [eM1, kU_at, if_neg (by omega)])
      have q16 : M1 16 = M 5 := (kI_16 hI1).trans (funext (fun k => by rw [eM1, kU_at, if_neg (by omega)]))
      have q4 : M1 11 4 = M 2 1 := hI1.2.2.2.1.trans (by rw [eM1, kU_at, if_neg (by omega)])
      refine lv_aload_n hx hb dL_law_432 rfl (lv_at hl 3 rfl) ?_
      refine lv_aload_n hx hb dL_law_433 rfl (lv_at hl 5 rfl) ?_
      refine lv_iload hx hb dL_law_434 (lv_at hl 1 rfl) ?_
      refine k_push hx hb dL_law_436 ?_
      refine k_add hx hb dL_law_437 ?_
      refine k_sld S hScr hbl hbA hS (by omega) e1 dL_law_438 ?_
      refine lv_aload_n hx hb dL_law_439 rfl (lv_at hl 5 rfl) ?_
      refine lv_iload hx hb dL_law_440 (lv_at hl 1 rfl) ?_
      refine k_push hx hb dL_law_442 ?_
      refine k_add hx hb dL_law_443 ?_
      refine k_sld S hScr hbl hbA hS (by omega) e2 dL_law_444 ?_
      refine k_callVW (As := [.int (zI h), .int (zI p)]) (rest := []) S hK hP hS (c_X3_stitch l E hE M1 h p (kI_wm hI1) (by omega)) (cwV 2 S.2.2.2.2 gL_law_X3_stitch rfl rfl rfl (by decide +kernel) ⟨Nat.le_of_ble_eq_true rfl, Nat.le_of_ble_eq_true rfl⟩) (k_rY hK hP rfl) rfl hl.1 rfl (Nat.le_of_ble_eq_true rfl) dL_law_445 ⟨hc.1, hc.2⟩ (fun z M2 H locs hz hP hS => ?_)
      refine lv_istore (lv' := [(6, .int (zI z)), (5, .int (zI 0)), (4, .int (zI i)), (3, .ref (E.2.2 102)), (2, .ref (E.2.2 11)), (1, .ref (E.2.2 10)), (0, .ref bs)]) hx hb dL_law_448 hl (by decide) rfl (fun ls hl => ?_)
      try simp only [q13, q15, q16, q4] at hz
      have ht0 : M2 11 0 = 0 := by omega
      refine lv_aload_n hx hb dL_law_450 rfl (lv_at hl 4 rfl) ?_
      refine k_callV (As := []) (rest := []) S hK hP (c_X3_thrown l E M2) (cwV 0 S.2.2.2.2 gL_law_X3_thrown rfl rfl rfl (by decide +kernel) ⟨Nat.le_of_ble_eq_true rfl, Nat.le_of_ble_eq_true rfl⟩) (k_rY hK hP rfl) rfl hl.1 rfl (Nat.le_of_ble_eq_true rfl) dL_law_451 ⟨hc.1, hc.2⟩ (fun t ht => ?_)
      refine lv_iload hx hb dL_law_454 (lv_at hl 1 rfl) ?_
      refine k_eq (tgt := 461) hx hb dL_law_456 (by decide) (by omega) (fun _ => ?_) (fun q => absurd (ht.trans ht0) q)
      refine lv_iload hx hb dL_law_461 (lv_at hl 1 rfl) ?_
      refine k_ne0 (tgt := 478) hx hb dL_law_463 (by decide) (by omega) (fun q => absurd rfl q) (fun _ => ?_)
      have q := hz.2.1.resolve_right (fun q => by omega)
      have hvz : v = z := hv.1.trans q.2.2.2.2.2.symm
      have h102 : M2 102 0 = z := by rw [hz.1 102 0 (by omega) (by omega), eM1, kU_same]; exact hvz
      refine lv_aload_n hx hb dL_law_466 rfl (lv_at hl 3 rfl) ?_
      refine k_push hx hb dL_law_467 ?_
      refine k_lald S hK hP dL_law_468 ?_
      refine lv_iload hx hb dL_law_469 (lv_at hl 0 rfl) ?_
      refine k_i2l hx hb dL_law_471 (by omega) ?_
      rw [h102]
      refine k_lcmpE hx hb dL_law_472 ?_
      refine k_eq0 (tgt := 478) hx hb dL_law_473 (by decide) (by omega) (fun _ => ?_) (fun q => absurd rfl q)
      refine lv_goto (tgt := 1416) hx hb dL_law_478 (by decide) ?_
      exact next _ _ _ _ (kI_m hI1 hz.1) hP hS (lv_sub hl [2, 3, 4, 5, 6] rfl)
  · have hb2 : h < 0 ∨ 2 ≤ h := by omega
    refine lv_aload_n hx hb dL_law_413 rfl (lv_at hl 3 rfl) ?_
    refine lv_aload_n hx hb dL_law_414 rfl (lv_at hl 4 rfl) ?_
    refine lv_iload hx hb dL_law_415 (lv_at hl 0 rfl) ?_
    refine k_push hx hb dL_law_417 ?_
    refine k_add hx hb dL_law_418 ?_
    refine k_sld S hScr hbl hbA hS (by omega) e1 dL_law_419 ?_
    refine lv_aload_n hx hb dL_law_420 rfl (lv_at hl 4 rfl) ?_
    refine lv_iload hx hb dL_law_421 (lv_at hl 0 rfl) ?_
    refine k_push hx hb dL_law_423 ?_
    refine k_add hx hb dL_law_424 ?_
    refine k_sld S hScr hbl hbA hS (by omega) e2 dL_law_425 ?_
    refine lv_aload_n hx hb dL_law_426 rfl (lv_at hl 1 rfl) ?_
    refine k_callHT (As := [.ref (E.2.2 10), .int (zI h), .int (zI p), .ref (E.2.2 102)]) (rest := []) S hK hX hZ hP hS (c_L_stitch_b1 l E hlst M h p (by omega) (by omega)) (vx_cwSW 4 S.2.2.2.2 gL_law_L_stitch rfl rfl rfl (by decide +kernel) ⟨Nat.le_of_ble_eq_true rfl, Nat.le_of_ble_eq_true rfl⟩) rfl hl.1 rfl (Nat.le_of_ble_eq_true rfl) dL_law_427 ⟨hc.1, hc.2⟩ (fun H locs hP hS => ?_)
    refine lv_istore (lv' := [(5, .int (zI 1)), (4, .int (zI i)), (3, .ref (E.2.2 102)), (2, .ref (E.2.2 11)), (1, .ref (E.2.2 10)), (0, .ref bs)]) hx hb dL_law_430 hl (by decide) rfl (fun ls hl => ?_)
    have q4 : M 11 4 = M 2 1 := hI.2.2.2.1
    refine lv_aload_n hx hb dL_law_432 rfl (lv_at hl 3 rfl) ?_
    refine lv_aload_n hx hb dL_law_433 rfl (lv_at hl 5 rfl) ?_
    refine lv_iload hx hb dL_law_434 (lv_at hl 1 rfl) ?_
    refine k_push hx hb dL_law_436 ?_
    refine k_add hx hb dL_law_437 ?_
    refine k_sld S hScr hbl hbA hS (by omega) e1 dL_law_438 ?_
    refine lv_aload_n hx hb dL_law_439 rfl (lv_at hl 5 rfl) ?_
    refine lv_iload hx hb dL_law_440 (lv_at hl 1 rfl) ?_
    refine k_push hx hb dL_law_442 ?_
    refine k_add hx hb dL_law_443 ?_
    refine k_sld S hScr hbl hbA hS (by omega) e2 dL_law_444 ?_
    refine k_callVW (As := [.int (zI h), .int (zI p)]) (rest := []) S hK hP hS (c_X3_stitch l E hE M h p (kI_wm hI) (by omega)) (cwV 2 S.2.2.2.2 gL_law_X3_stitch rfl rfl rfl (by decide +kernel) ⟨Nat.le_of_ble_eq_true rfl, Nat.le_of_ble_eq_true rfl⟩) (k_rY hK hP rfl) rfl hl.1 rfl (Nat.le_of_ble_eq_true rfl) dL_law_445 ⟨hc.1, hc.2⟩ (fun z M2 H locs hz hP hS => ?_)
    refine lv_istore (lv' := [(6, .int (zI z)), (5, .int (zI 1)), (4, .int (zI i)), (3, .ref (E.2.2 102)), (2, .ref (E.2.2 11)), (1, .ref (E.2.2 10)), (0, .ref bs)]) hx hb dL_law_448 hl (by decide) rfl (fun ls hl => ?_)
    try simp only [q4] at hz
    have ht0 : M2 11 0 = 1 := by omega
    refine lv_aload_n hx hb dL_law_450 rfl (lv_at hl 4 rfl) ?_
    refine k_callV (As := []) (rest := []) S hK hP (c_X3_thrown l E M2) (cwV 0 S.2.2.2.2 gL_law_X3_thrown rfl rfl rfl (by decide +kernel) ⟨Nat.le_of_ble_eq_true rfl, Nat.le_of_ble_eq_true rfl⟩) (k_rY hK hP rfl) rfl hl.1 rfl (Nat.le_of_ble_eq_true rfl) dL_law_451 ⟨hc.1, hc.2⟩ (fun t ht => ?_)
    refine lv_iload hx hb dL_law_454 (lv_at hl 1 rfl) ?_
    refine k_eq (tgt := 461) hx hb dL_law_456 (by decide) (by omega) (fun _ => ?_) (fun q => absurd (ht.trans ht0) q)
    refine lv_iload hx hb dL_law_461 (lv_at hl 1 rfl) ?_
    refine k_ne0 (tgt := 478) hx hb dL_law_463 (by decide) (by omega) (fun _ => ?_) (fun q => absurd q (by decide))
    refine lv_goto (tgt := 1416) hx hb dL_law_478 (by decide) ?_
    exact next _ _ _ _ (kI_m hI hz.1) hP hS (lv_sub hl [2, 3, 4, 5, 6] rfl)
set_option maxHeartbeats 4000000 in
set_option maxRecDepth 100000 in
theorem lw_c_count {pg : Program} {l : Launch} {en : Env} {s0 : State} {mi : MethodId} {ar : Array Value} {bl : List Frame} {me : Method} {co : Code} {H H0 : Heap} {locs : List Loc} {cells slots : Nat} {Q : State → Prop} {ls : Array Slot} {E : kE} {M : kM} {bs L : Nat} {xs : Nat → Int32} {i : Int} (hlst : l.stackTraces = false) (S : CallFix pg mi co cL_law 9 s0 ar wsL_law RL) (hE : kInj E) (hK : kK E s0) (hX : kXs s0) (hZ : kZ (kA E H0.size) s0 H0) (hScr : va_X bs L xs s0 H0) (hbl : bs < H0.size) (hbA : ¬ kA E H0.size bs) (hL : L ≤ 2048) (hI : kI M) (hP : va_P E.1 vwCl (kW E M) H) (hS : va_S (kA E H0.size) H0 H locs) (hi : 0 ≤ i ∧ i + 3 < (L : Int)) (hc : cells + 1 ≤ 601024 ∧ slots + 6 ≤ 7293034) (hl : lv_has ls 9 [(4, .int (zI i)), (3, .ref (E.2.2 102)), (2, .ref (E.2.2 11)), (1, .ref (E.2.2 10)), (0, .ref bs)])
    (next : ∀ (M1 : kM) (H1 : Heap) (locs1 : List Loc) (ls1 : Array Slot), kI M1 → va_P E.1 vwCl (kW E M1) H1 → va_S (kA E H0.size) H0 H1 locs1 → lv_has ls1 9 [(4, .int (zI i)), (3, .ref (E.2.2 102)), (2, .ref (E.2.2 11)), (1, .ref (E.2.2 10)), (0, .ref bs)] → W pg l en room_1 s0 mi ar bl me co H1 locs1 (cells + 1) (slots + 6) Q (F0 mi 1416 ls1 []))
    {w : Int} (e1 : kSc xs (i + 1) = w) : W pg l en room_1 s0 mi ar bl me co H locs cells slots Q (F0 mi 481 ls []) := by
  have hx := S.1
  have hb := S.2.1
  have r1 : -2147483648 ≤ w ∧ w ≤ 2147483647 := by rw [← e1]; exact kSc_rng _ _
  have hO2 := kI_O hI
  have hW := hI.1
  have hm12 := hI.2.2.2.2
  obtain ⟨hs0, hs1, hsv⟩ := hW 2 (by omega)
  obtain ⟨hn0, hn1, hv0⟩ := hW 0 (by omega)
  obtain ⟨hm0, hm1, hw0⟩ := hW 1 (by omega)
  have hcs : (w < 0 ∨ 5 < w) ∨ (0 ≤ w ∧ w ≤ 5) := by omega
  rcases hcs with hk | hk
  · skip
    refine lv_aload_n hx hb dL_law_481 rfl (lv_at hl 3 rfl) ?_
    refine lv_aload_n hx hb dL_law_482 rfl (lv_at hl 4 rfl) ?_
    refine lv_iload hx hb dL_law_483 (lv_at hl 0 rfl) ?_
    refine k_push hx hb dL_law_485 ?_
    refine k_add hx hb dL_law_486 ?_
    refine k_sld S hScr hbl hbA hS (by omega) e1 dL_law_487 ?_
    refine lv_aload_n hx hb dL_law_488 rfl (lv_at hl 1 rfl) ?_
    refine k_callHT (As := [.ref (E.2.2 10), .int (zI w), .ref (E.2.2 102)]) (rest := []) S hK hX hZ hP hS (c_L_count_b1 l E hlst M w (by omega) (by omega)) (vx_cwSW 3 S.2.2.2.2 gL_law_L_count rfl rfl rfl (by decide +kernel) ⟨Nat.le_of_ble_eq_true rfl, Nat.le_of_ble_eq_true rfl⟩) rfl hl.1 rfl (Nat.le_of_ble_eq_true rfl) dL_law_489 ⟨hc.1, hc.2⟩ (fun H locs hP hS => ?_)
    refine lv_istore (lv' := [(5, .int (zI 1)), (4, .int (zI i)), (3, .ref (E.2.2 102)), (2, .ref (E.2.2 11)), (1, .ref (E.2.2 10)), (0, .ref bs)]) hx hb dL_law_492 hl (by decide) rfl (fun ls hl => ?_)
    have q15 : M 15 0 = M 0 1 := kI_15 hI (g := 0) (by omega)
    have q151 : M 15 1 = M 1 1 := kI_15 hI (g := 1) (by omega)
    have q4 : M 11 4 = M 2 1 := hI.2.2.2.1
    refine lv_aload_n hx hb dL_law_494 rfl (lv_at hl 3 rfl) ?_
    refine lv_aload_n hx hb dL_law_495 rfl (lv_at hl 5 rfl) ?_
    refine lv_iload hx hb dL_law_496 (lv_at hl 1 rfl) ?_
    refine k_push hx hb dL_law_498 ?_
    refine k_add hx hb dL_law_499 ?_
    refine k_sld S hScr hbl hbA hS (by omega) e1 dL_law_500 ?_
    refine k_callVW (As := [.int (zI w)]) (rest := []) S hK hP hS (c_X3_count l E hE M w (kI_wm hI) (by omega)) (cwV 1 S.2.2.2.2 gL_law_X3_count rfl rfl rfl (by decide +kernel) ⟨Nat.le_of_ble_eq_true rfl, Nat.le_of_ble_eq_true rfl⟩) (k_rY hK hP rfl) rfl hl.1 rfl (Nat.le_of_ble_eq_true rfl) dL_law_501 ⟨hc.1, hc.2⟩ (fun z M2 H locs hz hP hS => ?_)
    refine lv_istore (lv' := [(6, .int (zI z)), (5, .int (zI 1)), (4, .int (zI i)), (3, .ref (E.2.2 102)), (2, .ref (E.2.2 11)), (1, .ref (E.2.2 10)), (0, .ref bs)]) hx hb dL_law_504 hl (by decide) rfl (fun ls hl => ?_)
    try simp only [q15, q151, q4] at hz
    have ht0 : M2 11 0 = 1 := by omega
    refine lv_aload_n hx hb dL_law_506 rfl (lv_at hl 4 rfl) ?_
    refine k_callV (As := []) (rest := []) S hK hP (c_X3_thrown l E M2) (cwV 0 S.2.2.2.2 gL_law_X3_thrown rfl rfl rfl (by decide +kernel) ⟨Nat.le_of_ble_eq_true rfl, Nat.le_of_ble_eq_true rfl⟩) (k_rY hK hP rfl) rfl hl.1 rfl (Nat.le_of_ble_eq_true rfl) dL_law_507 ⟨hc.1, hc.2⟩ (fun t ht => ?_)
    refine lv_iload hx hb dL_law_510 (lv_at hl 1 rfl) ?_
    refine k_eq (tgt := 517) hx hb dL_law_512 (by decide) (by omega) (fun _ => ?_) (fun q => absurd (ht.trans ht0) q)
    refine lv_iload hx hb dL_law_517 (lv_at hl 1 rfl) ?_
    refine k_ne0 (tgt := 534) hx hb dL_law_519 (by decide) (by omega) (fun _ => ?_) (fun q => absurd q (by decide))
    refine lv_goto (tgt := 1416) hx hb dL_law_534 (by decide) ?_
    exact next _ _ _ _ (kI_m hI hz.1) hP hS (lv_sub hl [2, 3, 4, 5, 6] rfl)
  · skip
    refine lv_aload_n hx hb dL_law_481 rfl (lv_at hl 3 rfl) ?_
    refine lv_aload_n hx hb dL_law_482 rfl (lv_at hl 4 rfl) ?_
    refine lv_iload hx hb dL_law_483 (lv_at hl 0 rfl) ?_
    refine k_push hx hb dL_law_485 ?_
    refine k_add hx hb dL_law_486 ?_
    refine k_sld S hScr hbl hbA hS (by omega) e1 dL_law_487 ?_
    refine lv_aload_n hx hb dL_law_488 rfl (lv_at hl 1 rfl) ?_
    refine k_callHW (As := [.ref (E.2.2 10), .int (zI w), .ref (E.2.2 102)]) (rest := []) S hK hP hS (c_L_count l E hE M w hW hO2 (by omega)) (vx_cwSW 3 S.2.2.2.2 gL_law_L_count rfl rfl rfl (by decide +kernel) ⟨Nat.le_of_ble_eq_true rfl, Nat.le_of_ble_eq_true rfl⟩) rfl hl.1 rfl (Nat.le_of_ble_eq_true rfl) dL_law_489 ⟨Nat.le_trans (Nat.le_add_right cells 1) hc.1, Nat.le_trans (Nat.le_add_right slots 6) hc.2⟩ (fun z1 M1 H locs hLk hP hS => ?_)
    obtain ⟨rfl, v, hv, eM1⟩ := hLk
    refine W.widen (k := cells + 1) (n := slots + 6) (by omega) (by omega) ?_
    refine lv_istore (lv' := [(5, .int (zI 0)), (4, .int (zI i)), (3, .ref (E.2.2 102)), (2, .ref (E.2.2 11)), (1, .ref (E.2.2 10)), (0, .ref bs)]) hx hb dL_law_492 hl (by decide) rfl (fun ls hl => ?_)
    have hI1 : kI M1 := by rw [eM1]; exact kI_102 hI
    have q13 : M1 13 = M 3 := (kI_13 hI1 (g := 0) (by omega)).trans (funext (fun k => by rw [eM1, kU_at, if_neg (by omega)]; rfl))
    have q14 : M1 14 = M 4 := (kI_13 hI1 (g := 1) (by omega)).trans (funext (fun k => by rw [eM1, kU_at, if_neg (by omega)]; rfl))
    have q15 : M1 15 0 = M 0 1 := (kI_15 hI1 (g := 0) (by omega)).trans (by rw [eM1, kU_at, if_neg (by omega)])
    have q151 : M1 15 1 = M 1 1 := (kI_15 hI1 (g := 1) (by omega)).trans (by rw [eM1, kU_at, if_neg (by omega)])
    have q16 : M1 16 = M 5 := (kI_16 hI1).trans (funext (fun k => by rw [eM1, kU_at, if_neg (by omega)]))
    have q4 : M1 11 4 = M 2 1 := hI1.2.2.2.1.trans (by rw [eM1, kU_at, if_neg (by omega)])
    refine lv_aload_n hx hb dL_law_494 rfl (lv_at hl 3 rfl) ?_
    refine lv_aload_n hx hb dL_law_495 rfl (lv_at hl 5 rfl) ?_
    refine lv_iload hx hb dL_law_496 (lv_at hl 1 rfl) ?_
    refine k_push hx hb dL_law_498 ?_
    refine k_add hx hb dL_law_499 ?_
    refine k_sld S hScr hbl hbA hS (by omega) e1 dL_law_500 ?_
    refine k_callVW (As := [.int (zI w)]) (rest := []) S hK hP hS (c_X3_count l E hE M1 w (kI_wm hI1) (by omega)) (cwV 1 S.2.2.2.2 gL_law_X3_count rfl rfl rfl (by decide +kernel) ⟨Nat.le_of_ble_eq_true rfl, Nat.le_of_ble_eq_true rfl⟩) (k_rY hK hP rfl) rfl hl.1 rfl (Nat.le_of_ble_eq_true rfl) dL_law_501 ⟨hc.1, hc.2⟩ (fun z M2 H locs hz hP hS => ?_)
    refine lv_istore (lv' := [(6, .int (zI z)), (5, .int (zI 0)), (4, .int (zI i)), (3, .ref (E.2.2 102)), (2, .ref (E.2.2 11)), (1, .ref (E.2.2 10)), (0, .ref bs)]) hx hb dL_law_504 hl (by decide) rfl (fun ls hl => ?_)
    try simp only [q13, q14, q15, q151, q16, q4] at hz
    have ht0 : M2 11 0 = 0 := by omega
    refine lv_aload_n hx hb dL_law_506 rfl (lv_at hl 4 rfl) ?_
    refine k_callV (As := []) (rest := []) S hK hP (c_X3_thrown l E M2) (cwV 0 S.2.2.2.2 gL_law_X3_thrown rfl rfl rfl (by decide +kernel) ⟨Nat.le_of_ble_eq_true rfl, Nat.le_of_ble_eq_true rfl⟩) (k_rY hK hP rfl) rfl hl.1 rfl (Nat.le_of_ble_eq_true rfl) dL_law_507 ⟨hc.1, hc.2⟩ (fun t ht => ?_)
    refine lv_iload hx hb dL_law_510 (lv_at hl 1 rfl) ?_
    refine k_eq (tgt := 517) hx hb dL_law_512 (by decide) (by omega) (fun _ => ?_) (fun q => absurd (ht.trans ht0) q)
    refine lv_iload hx hb dL_law_517 (lv_at hl 1 rfl) ?_
    refine k_ne0 (tgt := 534) hx hb dL_law_519 (by decide) (by omega) (fun q => absurd rfl q) (fun _ => ?_)
    have q := hz.2.1.resolve_right (fun q => by omega)
    have hvz : v = z := kIsCount_one hv.1 q.2.2.2
    have h102 : M2 102 0 = z := by rw [hz.1 102 0 (by omega) (by omega), eM1, kU_same]; exact hvz
    refine lv_aload_n hx hb dL_law_522 rfl (lv_at hl 3 rfl) ?_
    refine k_push hx hb dL_law_523 ?_
    refine k_lald S hK hP dL_law_524 ?_
    refine lv_iload hx hb dL_law_525 (lv_at hl 0 rfl) ?_
    refine k_i2l hx hb dL_law_527 (by omega) ?_
    rw [h102]
    refine k_lcmpE hx hb dL_law_528 ?_
    refine k_eq0 (tgt := 534) hx hb dL_law_529 (by decide) (by omega) (fun _ => ?_) (fun q => absurd rfl q)
    refine lv_goto (tgt := 1416) hx hb dL_law_534 (by decide) ?_
    exact next _ _ _ _ (kI_m hI1 hz.1) hP hS (lv_sub hl [2, 3, 4, 5, 6] rfl)
set_option maxHeartbeats 4000000 in
set_option maxRecDepth 100000 in
theorem lw_c_end {pg : Program} {l : Launch} {en : Env} {s0 : State} {mi : MethodId} {ar : Array Value} {bl : List Frame} {me : Method} {co : Code} {H H0 : Heap} {locs : List Loc} {cells slots : Nat} {Q : State → Prop} {ls : Array Slot} {E : kE} {M : kM} {bs L : Nat} {xs : Nat → Int32} {i : Int} (hlst : l.stackTraces = false) (S : CallFix pg mi co cL_law 9 s0 ar wsL_law RL) (hE : kInj E) (hK : kK E s0) (hX : kXs s0) (hZ : kZ (kA E H0.size) s0 H0) (hScr : va_X bs L xs s0 H0) (hbl : bs < H0.size) (hbA : ¬ kA E H0.size bs) (hL : L ≤ 2048) (hI : kI M) (hP : va_P E.1 vwCl (kW E M) H) (hS : va_S (kA E H0.size) H0 H locs) (hi : 0 ≤ i ∧ i + 3 < (L : Int)) (hc : cells + 1 ≤ 601024 ∧ slots + 6 ≤ 7293034) (hl : lv_has ls 9 [(4, .int (zI i)), (3, .ref (E.2.2 102)), (2, .ref (E.2.2 11)), (1, .ref (E.2.2 10)), (0, .ref bs)])
    (next : ∀ (M1 : kM) (H1 : Heap) (locs1 : List Loc) (ls1 : Array Slot), kI M1 → va_P E.1 vwCl (kW E M1) H1 → va_S (kA E H0.size) H0 H1 locs1 → lv_has ls1 9 [(4, .int (zI i)), (3, .ref (E.2.2 102)), (2, .ref (E.2.2 11)), (1, .ref (E.2.2 10)), (0, .ref bs)] → W pg l en room_1 s0 mi ar bl me co H1 locs1 (cells + 1) (slots + 6) Q (F0 mi 1416 ls1 []))
    {h : Int} (e1 : kSc xs (i + 1) = h) {r : Int} (e2 : kSc xs (i + 2) = r) : W pg l en room_1 s0 mi ar bl me co H locs cells slots Q (F0 mi 537 ls []) := by
  have hx := S.1
  have hb := S.2.1
  have r1 : -2147483648 ≤ h ∧ h ≤ 2147483647 := by rw [← e1]; exact kSc_rng _ _
  have r2 : -2147483648 ≤ r ∧ r ≤ 2147483647 := by rw [← e2]; exact kSc_rng _ _
  have hO2 := kI_O hI
  have hW := hI.1
  have hm12 := hI.2.2.2.2
  obtain ⟨hs0, hs1, hsv⟩ := hW 2 (by omega)
  by_cases hh : 0 ≤ h ∧ h < 2
  · obtain ⟨hn0, hn1, hv0⟩ := hW h (by omega)
    have hcs : (r < 0 ∨ M h 1 ≤ r) ∨ (0 ≤ r ∧ r < M h 1) := by omega
    rcases hcs with hk | hk
    · skip
      refine lv_aload_n hx hb dL_law_537 rfl (lv_at hl 3 rfl) ?_
      refine lv_aload_n hx hb dL_law_538 rfl (lv_at hl 4 rfl) ?_
      refine lv_iload hx hb dL_law_539 (lv_at hl 0 rfl) ?_
      refine k_push hx hb dL_law_541 ?_
      refine k_add hx hb dL_law_542 ?_
      refine k_sld S hScr hbl hbA hS (by omega) e1 dL_law_543 ?_
      refine lv_aload_n hx hb dL_law_544 rfl (lv_at hl 4 rfl) ?_
      refine lv_iload hx hb dL_law_545 (lv_at hl 0 rfl) ?_
      refine k_push hx hb dL_law_547 ?_
      refine k_add hx hb dL_law_548 ?_
      refine k_sld S hScr hbl hbA hS (by omega) e2 dL_law_549 ?_
      refine lv_aload_n hx hb dL_law_550 rfl (lv_at hl 1 rfl) ?_
      refine k_callHT (As := [.ref (E.2.2 10), .int (zI h), .int (zI r), .ref (E.2.2 102)]) (rest := []) S hK hX hZ hP hS (c_L_end_b2 l E hlst M h r (by omega) hW (by omega) (by omega)) (vx_cwSW 4 S.2.2.2.2 gL_law_L_end rfl rfl rfl (by decide +kernel) ⟨Nat.le_of_ble_eq_true rfl, Nat.le_of_ble_eq_true rfl⟩) rfl hl.1 rfl (Nat.le_of_ble_eq_true rfl) dL_law_551 ⟨hc.1, hc.2⟩ (fun H locs hP hS => ?_)
      refine lv_istore (lv' := [(5, .int (zI 1)), (4, .int (zI i)), (3, .ref (E.2.2 102)), (2, .ref (E.2.2 11)), (1, .ref (E.2.2 10)), (0, .ref bs)]) hx hb dL_law_554 hl (by decide) rfl (fun ls hl => ?_)
      have q13 : M (13 + h) = M (h + 3) := kI_13 hI hh
      have q15 : M 15 h = M h 1 := kI_15 hI hh
      have q4 : M 11 4 = M 2 1 := hI.2.2.2.1
      refine lv_aload_n hx hb dL_law_556 rfl (lv_at hl 3 rfl) ?_
      refine lv_aload_n hx hb dL_law_557 rfl (lv_at hl 5 rfl) ?_
      refine lv_iload hx hb dL_law_558 (lv_at hl 1 rfl) ?_
      refine k_push hx hb dL_law_560 ?_
      refine k_add hx hb dL_law_561 ?_
      refine k_sld S hScr hbl hbA hS (by omega) e1 dL_law_562 ?_
      refine lv_aload_n hx hb dL_law_563 rfl (lv_at hl 5 rfl) ?_
      refine lv_iload hx hb dL_law_564 (lv_at hl 1 rfl) ?_
      refine k_push hx hb dL_law_566 ?_
      refine k_add hx hb dL_law_567 ?_
      refine k_sld S hScr hbl hbA hS (by omega) e2 dL_law_568 ?_
      refine k_callVW (As := [.int (zI h), .int (zI r)]) (rest := []) S hK hP hS (c_X3_end l E hE M h r (kI_wm hI) (by omega)) (cwV 2 S.2.2.2.2 gL_law_X3_end rfl rfl rfl (by decide +kernel) ⟨Nat.le_of_ble_eq_true rfl, Nat.le_of_ble_eq_true rfl⟩) (k_rY hK hP rfl) rfl hl.1 rfl (Nat.le_of_ble_eq_true rfl) dL_law_569 ⟨hc.1, hc.2⟩ (fun z M2 H locs hz hP hS => ?_)
      refine lv_istore (lv' := [(6, .int (zI z)), (5, .int (zI 1)), (4, .int (zI i)), (3, .ref (E.2.2 102)), (2, .ref (E.2.2 11)), (1, .ref (E.2.2 10)), (0, .ref bs)]) hx hb dL_law_572 hl (by decide) rfl (fun ls hl => ?_)
      try simp only [q13, q15, q4] at hz
      have ht0 : M2 11 0 = 1 := by omega
      refine lv_aload_n hx hb dL_law_574 rfl (lv_at hl 4 rfl) ?_
      refine k_callV (As := []) (rest := []) S hK hP (c_X3_thrown l E M2) (cwV 0 S.2.2.2.2 gL_law_X3_thrown rfl rfl rfl (by decide +kernel) ⟨Nat.le_of_ble_eq_true rfl, Nat.le_of_ble_eq_true rfl⟩) (k_rY hK hP rfl) rfl hl.1 rfl (Nat.le_of_ble_eq_true rfl) dL_law_575 ⟨hc.1, hc.2⟩ (fun t ht => ?_)
      refine lv_iload hx hb dL_law_578 (lv_at hl 1 rfl) ?_
      refine k_eq (tgt := 585) hx hb dL_law_580 (by decide) (by omega) (fun _ => ?_) (fun q => absurd (ht.trans ht0) q)
      refine lv_iload hx hb dL_law_585 (lv_at hl 1 rfl) ?_
      refine k_ne0 (tgt := 602) hx hb dL_law_587 (by decide) (by omega) (fun _ => ?_) (fun q => absurd q (by decide))
      refine lv_goto (tgt := 1416) hx hb dL_law_602 (by decide) ?_
      exact next _ _ _ _ (kI_m hI hz.1) hP hS (lv_sub hl [2, 3, 4, 5, 6] rfl)
    · skip
      refine lv_aload_n hx hb dL_law_537 rfl (lv_at hl 3 rfl) ?_
      refine lv_aload_n hx hb dL_law_538 rfl (lv_at hl 4 rfl) ?_
      refine lv_iload hx hb dL_law_539 (lv_at hl 0 rfl) ?_
      refine k_push hx hb dL_law_541 ?_
      refine k_add hx hb dL_law_542 ?_
      refine k_sld S hScr hbl hbA hS (by omega) e1 dL_law_543 ?_
      refine lv_aload_n hx hb dL_law_544 rfl (lv_at hl 4 rfl) ?_
      refine lv_iload hx hb dL_law_545 (lv_at hl 0 rfl) ?_
      refine k_push hx hb dL_law_547 ?_
      refine k_add hx hb dL_law_548 ?_
      refine k_sld S hScr hbl hbA hS (by omega) e2 dL_law_549 ?_
      refine lv_aload_n hx hb dL_law_550 rfl (lv_at hl 1 rfl) ?_
      refine k_callHW (As := [.ref (E.2.2 10), .int (zI h), .int (zI r), .ref (E.2.2 102)]) (rest := []) S hK hP hS (c_L_end l E hE M h r (by omega) hW hO2 (by omega)) (vx_cwSW 4 S.2.2.2.2 gL_law_L_end rfl rfl rfl (by decide +kernel) ⟨Nat.le_of_ble_eq_true rfl, Nat.le_of_ble_eq_true rfl⟩) rfl hl.1 rfl (Nat.le_of_ble_eq_true rfl) dL_law_551 ⟨Nat.le_trans (Nat.le_add_right cells 1) hc.1, Nat.le_trans (Nat.le_add_right slots 6) hc.2⟩ (fun z1 M1 H locs hLk hP hS => ?_)
      obtain ⟨rfl, v, hv, eM1⟩ := hLk
      refine W.widen (k := cells + 1) (n := slots + 6) (by omega) (by omega) ?_
      refine lv_istore (lv' := [(5, .int (zI 0)), (4, .int (zI i)), (3, .ref (E.2.2 102)), (2, .ref (E.2.2 11)), (1, .ref (E.2.2 10)), (0, .ref bs)]) hx hb dL_law_554 hl (by decide) rfl (fun ls hl => ?_)
      have hI1 : kI M1 := by rw [eM1]; exact kI_102 hI
      have q13 : M1 (13 + h) = M (h + 3) := (kI_13 hI1 hh).trans (funext (fun k => by rw [eM1, kU_at, if_neg (by omega)]))
      have q15 : M1 15 h = M h 1 := (kI_15 hI1 hh).trans (by rw [eM1, kU_at, if_neg (by omega)])
      have q16 : M1 16 = M 5 := (kI_16 hI1).trans (funext (fun k => by rw [eM1, kU_at, if_neg (by omega)]))
      have q4 : M1 11 4 = M 2 1 := hI1.2.2.2.1.trans (by rw [eM1, kU_at, if_neg (by omega)])
      refine lv_aload_n hx hb dL_law_556 rfl (lv_at hl 3 rfl) ?_
      refine lv_aload_n hx hb dL_law_557 rfl (lv_at hl 5 rfl) ?_
      refine lv_iload hx hb dL_law_558 (lv_at hl 1 rfl) ?_
      refine k_push hx hb dL_law_560 ?_
      refine k_add hx hb dL_law_561 ?_
      refine k_sld S hScr hbl hbA hS (by omega) e1 dL_law_562 ?_
      refine lv_aload_n hx hb dL_law_563 rfl (lv_at hl 5 rfl) ?_
      refine lv_iload hx hb dL_law_564 (lv_at hl 1 rfl) ?_
      refine k_push hx hb dL_law_566 ?_
      refine k_add hx hb dL_law_567 ?_
      refine k_sld S hScr hbl hbA hS (by omega) e2 dL_law_568 ?_
      refine k_callVW (As := [.int (zI h), .int (zI r)]) (rest := []) S hK hP hS (c_X3_end l E hE M1 h r (kI_wm hI1) (by omega)) (cwV 2 S.2.2.2.2 gL_law_X3_end rfl rfl rfl (by decide +kernel) ⟨Nat.le_of_ble_eq_true rfl, Nat.le_of_ble_eq_true rfl⟩) (k_rY hK hP rfl) rfl hl.1 rfl (Nat.le_of_ble_eq_true rfl) dL_law_569 ⟨hc.1, hc.2⟩ (fun z M2 H locs hz hP hS => ?_)
      refine lv_istore (lv' := [(6, .int (zI z)), (5, .int (zI 0)), (4, .int (zI i)), (3, .ref (E.2.2 102)), (2, .ref (E.2.2 11)), (1, .ref (E.2.2 10)), (0, .ref bs)]) hx hb dL_law_572 hl (by decide) rfl (fun ls hl => ?_)
      try simp only [q13, q15, q16, q4] at hz
      have ht0 : M2 11 0 = 0 := by omega
      refine lv_aload_n hx hb dL_law_574 rfl (lv_at hl 4 rfl) ?_
      refine k_callV (As := []) (rest := []) S hK hP (c_X3_thrown l E M2) (cwV 0 S.2.2.2.2 gL_law_X3_thrown rfl rfl rfl (by decide +kernel) ⟨Nat.le_of_ble_eq_true rfl, Nat.le_of_ble_eq_true rfl⟩) (k_rY hK hP rfl) rfl hl.1 rfl (Nat.le_of_ble_eq_true rfl) dL_law_575 ⟨hc.1, hc.2⟩ (fun t ht => ?_)
      refine lv_iload hx hb dL_law_578 (lv_at hl 1 rfl) ?_
      refine k_eq (tgt := 585) hx hb dL_law_580 (by decide) (by omega) (fun _ => ?_) (fun q => absurd (ht.trans ht0) q)
      refine lv_iload hx hb dL_law_585 (lv_at hl 1 rfl) ?_
      refine k_ne0 (tgt := 602) hx hb dL_law_587 (by decide) (by omega) (fun q => absurd rfl q) (fun _ => ?_)
      have q := hz.2.1.resolve_right (fun q => by omega)
      have hvz : v = z := kIsEnd_one hv.1 q.2.2.2.2.2
      have h102 : M2 102 0 = z := by rw [hz.1 102 0 (by omega) (by omega), eM1, kU_same]; exact hvz
      refine lv_aload_n hx hb dL_law_590 rfl (lv_at hl 3 rfl) ?_
      refine k_push hx hb dL_law_591 ?_
      refine k_lald S hK hP dL_law_592 ?_
      refine lv_iload hx hb dL_law_593 (lv_at hl 0 rfl) ?_
      refine k_i2l hx hb dL_law_595 (by omega) ?_
      rw [h102]
      refine k_lcmpE hx hb dL_law_596 ?_
      refine k_eq0 (tgt := 602) hx hb dL_law_597 (by decide) (by omega) (fun _ => ?_) (fun q => absurd rfl q)
      refine lv_goto (tgt := 1416) hx hb dL_law_602 (by decide) ?_
      exact next _ _ _ _ (kI_m hI1 hz.1) hP hS (lv_sub hl [2, 3, 4, 5, 6] rfl)
  · have hb2 : h < 0 ∨ 2 ≤ h := by omega
    refine lv_aload_n hx hb dL_law_537 rfl (lv_at hl 3 rfl) ?_
    refine lv_aload_n hx hb dL_law_538 rfl (lv_at hl 4 rfl) ?_
    refine lv_iload hx hb dL_law_539 (lv_at hl 0 rfl) ?_
    refine k_push hx hb dL_law_541 ?_
    refine k_add hx hb dL_law_542 ?_
    refine k_sld S hScr hbl hbA hS (by omega) e1 dL_law_543 ?_
    refine lv_aload_n hx hb dL_law_544 rfl (lv_at hl 4 rfl) ?_
    refine lv_iload hx hb dL_law_545 (lv_at hl 0 rfl) ?_
    refine k_push hx hb dL_law_547 ?_
    refine k_add hx hb dL_law_548 ?_
    refine k_sld S hScr hbl hbA hS (by omega) e2 dL_law_549 ?_
    refine lv_aload_n hx hb dL_law_550 rfl (lv_at hl 1 rfl) ?_
    refine k_callHT (As := [.ref (E.2.2 10), .int (zI h), .int (zI r), .ref (E.2.2 102)]) (rest := []) S hK hX hZ hP hS (c_L_end_b1 l E hlst M h r (by omega) (by omega)) (vx_cwSW 4 S.2.2.2.2 gL_law_L_end rfl rfl rfl (by decide +kernel) ⟨Nat.le_of_ble_eq_true rfl, Nat.le_of_ble_eq_true rfl⟩) rfl hl.1 rfl (Nat.le_of_ble_eq_true rfl) dL_law_551 ⟨hc.1, hc.2⟩ (fun H locs hP hS => ?_)
    refine lv_istore (lv' := [(5, .int (zI 1)), (4, .int (zI i)), (3, .ref (E.2.2 102)), (2, .ref (E.2.2 11)), (1, .ref (E.2.2 10)), (0, .ref bs)]) hx hb dL_law_554 hl (by decide) rfl (fun ls hl => ?_)
    have q4 : M 11 4 = M 2 1 := hI.2.2.2.1
    refine lv_aload_n hx hb dL_law_556 rfl (lv_at hl 3 rfl) ?_
    refine lv_aload_n hx hb dL_law_557 rfl (lv_at hl 5 rfl) ?_
    refine lv_iload hx hb dL_law_558 (lv_at hl 1 rfl) ?_
    refine k_push hx hb dL_law_560 ?_
    refine k_add hx hb dL_law_561 ?_
    refine k_sld S hScr hbl hbA hS (by omega) e1 dL_law_562 ?_
    refine lv_aload_n hx hb dL_law_563 rfl (lv_at hl 5 rfl) ?_
    refine lv_iload hx hb dL_law_564 (lv_at hl 1 rfl) ?_
    refine k_push hx hb dL_law_566 ?_
    refine k_add hx hb dL_law_567 ?_
    refine k_sld S hScr hbl hbA hS (by omega) e2 dL_law_568 ?_
    refine k_callVW (As := [.int (zI h), .int (zI r)]) (rest := []) S hK hP hS (c_X3_end l E hE M h r (kI_wm hI) (by omega)) (cwV 2 S.2.2.2.2 gL_law_X3_end rfl rfl rfl (by decide +kernel) ⟨Nat.le_of_ble_eq_true rfl, Nat.le_of_ble_eq_true rfl⟩) (k_rY hK hP rfl) rfl hl.1 rfl (Nat.le_of_ble_eq_true rfl) dL_law_569 ⟨hc.1, hc.2⟩ (fun z M2 H locs hz hP hS => ?_)
    refine lv_istore (lv' := [(6, .int (zI z)), (5, .int (zI 1)), (4, .int (zI i)), (3, .ref (E.2.2 102)), (2, .ref (E.2.2 11)), (1, .ref (E.2.2 10)), (0, .ref bs)]) hx hb dL_law_572 hl (by decide) rfl (fun ls hl => ?_)
    try simp only [q4] at hz
    have ht0 : M2 11 0 = 1 := by omega
    refine lv_aload_n hx hb dL_law_574 rfl (lv_at hl 4 rfl) ?_
    refine k_callV (As := []) (rest := []) S hK hP (c_X3_thrown l E M2) (cwV 0 S.2.2.2.2 gL_law_X3_thrown rfl rfl rfl (by decide +kernel) ⟨Nat.le_of_ble_eq_true rfl, Nat.le_of_ble_eq_true rfl⟩) (k_rY hK hP rfl) rfl hl.1 rfl (Nat.le_of_ble_eq_true rfl) dL_law_575 ⟨hc.1, hc.2⟩ (fun t ht => ?_)
    refine lv_iload hx hb dL_law_578 (lv_at hl 1 rfl) ?_
    refine k_eq (tgt := 585) hx hb dL_law_580 (by decide) (by omega) (fun _ => ?_) (fun q => absurd (ht.trans ht0) q)
    refine lv_iload hx hb dL_law_585 (lv_at hl 1 rfl) ?_
    refine k_ne0 (tgt := 602) hx hb dL_law_587 (by decide) (by omega) (fun _ => ?_) (fun q => absurd q (by decide))
    refine lv_goto (tgt := 1416) hx hb dL_law_602 (by decide) ?_
    exact next _ _ _ _ (kI_m hI hz.1) hP hS (lv_sub hl [2, 3, 4, 5, 6] rfl)
set_option maxHeartbeats 4000000 in
set_option maxRecDepth 100000 in
theorem lw_c_rank {pg : Program} {l : Launch} {en : Env} {s0 : State} {mi : MethodId} {ar : Array Value} {bl : List Frame} {me : Method} {co : Code} {H H0 : Heap} {locs : List Loc} {cells slots : Nat} {Q : State → Prop} {ls : Array Slot} {E : kE} {M : kM} {bs L : Nat} {xs : Nat → Int32} {i : Int} (hlst : l.stackTraces = false) (S : CallFix pg mi co cL_law 9 s0 ar wsL_law RL) (hE : kInj E) (hK : kK E s0) (hX : kXs s0) (hZ : kZ (kA E H0.size) s0 H0) (hScr : va_X bs L xs s0 H0) (hbl : bs < H0.size) (hbA : ¬ kA E H0.size bs) (hL : L ≤ 2048) (hI : kI M) (hP : va_P E.1 vwCl (kW E M) H) (hS : va_S (kA E H0.size) H0 H locs) (hi : 0 ≤ i ∧ i + 3 < (L : Int)) (hc : cells + 1 ≤ 601024 ∧ slots + 6 ≤ 7293034) (hl : lv_has ls 9 [(4, .int (zI i)), (3, .ref (E.2.2 102)), (2, .ref (E.2.2 11)), (1, .ref (E.2.2 10)), (0, .ref bs)])
    (next : ∀ (M1 : kM) (H1 : Heap) (locs1 : List Loc) (ls1 : Array Slot), kI M1 → va_P E.1 vwCl (kW E M1) H1 → va_S (kA E H0.size) H0 H1 locs1 → lv_has ls1 9 [(4, .int (zI i)), (3, .ref (E.2.2 102)), (2, .ref (E.2.2 11)), (1, .ref (E.2.2 10)), (0, .ref bs)] → W pg l en room_1 s0 mi ar bl me co H1 locs1 (cells + 1) (slots + 6) Q (F0 mi 1416 ls1 []))
    {h : Int} (e1 : kSc xs (i + 1) = h) {p : Int} (e2 : kSc xs (i + 2) = p) : W pg l en room_1 s0 mi ar bl me co H locs cells slots Q (F0 mi 605 ls []) := by
  have hx := S.1
  have hb := S.2.1
  have r1 : -2147483648 ≤ h ∧ h ≤ 2147483647 := by rw [← e1]; exact kSc_rng _ _
  have r2 : -2147483648 ≤ p ∧ p ≤ 2147483647 := by rw [← e2]; exact kSc_rng _ _
  have hO2 := kI_O hI
  have hW := hI.1
  have hm12 := hI.2.2.2.2
  obtain ⟨hs0, hs1, hsv⟩ := hW 2 (by omega)
  by_cases hh : 0 ≤ h ∧ h < 2
  · obtain ⟨hn0, hn1, hv0⟩ := hW h (by omega)
    have hcs : (p < 0 ∨ M h 1 ≤ p) ∨ (0 ≤ p ∧ p < M h 1) := by omega
    rcases hcs with hk | hk
    · skip
      refine lv_aload_n hx hb dL_law_605 rfl (lv_at hl 3 rfl) ?_
      refine lv_aload_n hx hb dL_law_606 rfl (lv_at hl 4 rfl) ?_
      refine lv_iload hx hb dL_law_607 (lv_at hl 0 rfl) ?_
      refine k_push hx hb dL_law_609 ?_
      refine k_add hx hb dL_law_610 ?_
      refine k_sld S hScr hbl hbA hS (by omega) e1 dL_law_611 ?_
      refine lv_aload_n hx hb dL_law_612 rfl (lv_at hl 4 rfl) ?_
      refine lv_iload hx hb dL_law_613 (lv_at hl 0 rfl) ?_
      refine k_push hx hb dL_law_615 ?_
      refine k_add hx hb dL_law_616 ?_
      refine k_sld S hScr hbl hbA hS (by omega) e2 dL_law_617 ?_
      refine lv_aload_n hx hb dL_law_618 rfl (lv_at hl 1 rfl) ?_
      refine k_callHT (As := [.ref (E.2.2 10), .int (zI h), .int (zI p), .ref (E.2.2 102)]) (rest := []) S hK hX hZ hP hS (c_L_rank_b2 l E hlst M h p (by omega) hW (by omega) (by omega)) (vx_cwSW 4 S.2.2.2.2 gL_law_L_rank rfl rfl rfl (by decide +kernel) ⟨Nat.le_of_ble_eq_true rfl, Nat.le_of_ble_eq_true rfl⟩) rfl hl.1 rfl (Nat.le_of_ble_eq_true rfl) dL_law_619 ⟨hc.1, hc.2⟩ (fun H locs hP hS => ?_)
      refine lv_istore (lv' := [(5, .int (zI 1)), (4, .int (zI i)), (3, .ref (E.2.2 102)), (2, .ref (E.2.2 11)), (1, .ref (E.2.2 10)), (0, .ref bs)]) hx hb dL_law_622 hl (by decide) rfl (fun ls hl => ?_)
      have q13 : M (13 + h) = M (h + 3) := kI_13 hI hh
      have q15 : M 15 h = M h 1 := kI_15 hI hh
      have q4 : M 11 4 = M 2 1 := hI.2.2.2.1
      refine lv_aload_n hx hb dL_law_624 rfl (lv_at hl 3 rfl) ?_
      refine lv_aload_n hx hb dL_law_625 rfl (lv_at hl 5 rfl) ?_
      refine lv_iload hx hb dL_law_626 (lv_at hl 1 rfl) ?_
      refine k_push hx hb dL_law_628 ?_
      refine k_add hx hb dL_law_629 ?_
      refine k_sld S hScr hbl hbA hS (by omega) e1 dL_law_630 ?_
      refine lv_aload_n hx hb dL_law_631 rfl (lv_at hl 5 rfl) ?_
      refine lv_iload hx hb dL_law_632 (lv_at hl 1 rfl) ?_
      refine k_push hx hb dL_law_634 ?_
      refine k_add hx hb dL_law_635 ?_
      refine k_sld S hScr hbl hbA hS (by omega) e2 dL_law_636 ?_
      refine k_callVW (As := [.int (zI h), .int (zI p)]) (rest := []) S hK hP hS (c_X3_rank l E hE M h p (kI_wm hI) (by omega)) (cwV 2 S.2.2.2.2 gL_law_X3_rank rfl rfl rfl (by decide +kernel) ⟨Nat.le_of_ble_eq_true rfl, Nat.le_of_ble_eq_true rfl⟩) (k_rY hK hP rfl) rfl hl.1 rfl (Nat.le_of_ble_eq_true rfl) dL_law_637 ⟨hc.1, hc.2⟩ (fun z M2 H locs hz hP hS => ?_)
      refine lv_istore (lv' := [(6, .int (zI z)), (5, .int (zI 1)), (4, .int (zI i)), (3, .ref (E.2.2 102)), (2, .ref (E.2.2 11)), (1, .ref (E.2.2 10)), (0, .ref bs)]) hx hb dL_law_640 hl (by decide) rfl (fun ls hl => ?_)
      try simp only [q13, q15, q4] at hz
      have ht0 : M2 11 0 = 1 := by omega
      refine lv_aload_n hx hb dL_law_642 rfl (lv_at hl 4 rfl) ?_
      refine k_callV (As := []) (rest := []) S hK hP (c_X3_thrown l E M2) (cwV 0 S.2.2.2.2 gL_law_X3_thrown rfl rfl rfl (by decide +kernel) ⟨Nat.le_of_ble_eq_true rfl, Nat.le_of_ble_eq_true rfl⟩) (k_rY hK hP rfl) rfl hl.1 rfl (Nat.le_of_ble_eq_true rfl) dL_law_643 ⟨hc.1, hc.2⟩ (fun t ht => ?_)
      refine lv_iload hx hb dL_law_646 (lv_at hl 1 rfl) ?_
      refine k_eq (tgt := 653) hx hb dL_law_648 (by decide) (by omega) (fun _ => ?_) (fun q => absurd (ht.trans ht0) q)
      refine lv_iload hx hb dL_law_653 (lv_at hl 1 rfl) ?_
      refine k_ne0 (tgt := 670) hx hb dL_law_655 (by decide) (by omega) (fun _ => ?_) (fun q => absurd q (by decide))
      refine lv_goto (tgt := 1416) hx hb dL_law_670 (by decide) ?_
      exact next _ _ _ _ (kI_m hI hz.1) hP hS (lv_sub hl [2, 3, 4, 5, 6] rfl)
    · skip
      refine lv_aload_n hx hb dL_law_605 rfl (lv_at hl 3 rfl) ?_
      refine lv_aload_n hx hb dL_law_606 rfl (lv_at hl 4 rfl) ?_
      refine lv_iload hx hb dL_law_607 (lv_at hl 0 rfl) ?_
      refine k_push hx hb dL_law_609 ?_
      refine k_add hx hb dL_law_610 ?_
      refine k_sld S hScr hbl hbA hS (by omega) e1 dL_law_611 ?_
      refine lv_aload_n hx hb dL_law_612 rfl (lv_at hl 4 rfl) ?_
      refine lv_iload hx hb dL_law_613 (lv_at hl 0 rfl) ?_
      refine k_push hx hb dL_law_615 ?_
      refine k_add hx hb dL_law_616 ?_
      refine k_sld S hScr hbl hbA hS (by omega) e2 dL_law_617 ?_
      refine lv_aload_n hx hb dL_law_618 rfl (lv_at hl 1 rfl) ?_
      refine k_callHW (As := [.ref (E.2.2 10), .int (zI h), .int (zI p), .ref (E.2.2 102)]) (rest := []) S hK hP hS (c_L_rank l E hE M h p (by omega) hW hO2 (by omega)) (vx_cwSW 4 S.2.2.2.2 gL_law_L_rank rfl rfl rfl (by decide +kernel) ⟨Nat.le_of_ble_eq_true rfl, Nat.le_of_ble_eq_true rfl⟩) rfl hl.1 rfl (Nat.le_of_ble_eq_true rfl) dL_law_619 ⟨Nat.le_trans (Nat.le_add_right cells 1) hc.1, Nat.le_trans (Nat.le_add_right slots 6) hc.2⟩ (fun z1 M1 H locs hLk hP hS => ?_)
      obtain ⟨rfl, v, hv, eM1⟩ := hLk
      refine W.widen (k := cells + 1) (n := slots + 6) (by omega) (by omega) ?_
      refine lv_istore (lv' := [(5, .int (zI 0)), (4, .int (zI i)), (3, .ref (E.2.2 102)), (2, .ref (E.2.2 11)), (1, .ref (E.2.2 10)), (0, .ref bs)]) hx hb dL_law_622 hl (by decide) rfl (fun ls hl => ?_)
      have hI1 : kI M1 := by rw [eM1]; exact kI_102 hI
      have q13 : M1 (13 + h) = M (h + 3) := (kI_13 hI1 hh).trans (funext (fun k => by rw [eM1, kU_at, if_neg (by omega)]))
      have q15 : M1 15 h = M h 1 := (kI_15 hI1 hh).trans (by rw [eM1, kU_at, if_neg (by omega)])
      have q16 : M1 16 = M 5 := (kI_16 hI1).trans (funext (fun k => by rw [eM1, kU_at, if_neg (by omega)]))
      have q4 : M1 11 4 = M 2 1 := hI1.2.2.2.1.trans (by rw [eM1, kU_at, if_neg (by omega)])
      refine lv_aload_n hx hb dL_law_624 rfl (lv_at hl 3 rfl) ?_
      refine lv_aload_n hx hb dL_law_625 rfl (lv_at hl 5 rfl) ?_
      refine lv_iload hx hb dL_law_626 (lv_at hl 1 rfl) ?_
      refine k_push hx hb dL_law_628 ?_
      refine k_add hx hb dL_law_629 ?_
      refine k_sld S hScr hbl hbA hS (by omega) e1 dL_law_630 ?_
      refine lv_aload_n hx hb dL_law_631 rfl (lv_at hl 5 rfl) ?_
      refine lv_iload hx hb dL_law_632 (lv_at hl 1 rfl) ?_
      refine k_push hx hb dL_law_634 ?_
      refine k_add hx hb dL_law_635 ?_
      refine k_sld S hScr hbl hbA hS (by omega) e2 dL_law_636 ?_
      refine k_callVW (As := [.int (zI h), .int (zI p)]) (rest := []) S hK hP hS (c_X3_rank l E hE M1 h p (kI_wm hI1) (by omega)) (cwV 2 S.2.2.2.2 gL_law_X3_rank rfl rfl rfl (by decide +kernel) ⟨Nat.le_of_ble_eq_true rfl, Nat.le_of_ble_eq_true rfl⟩) (k_rY hK hP rfl) rfl hl.1 rfl (Nat.le_of_ble_eq_true rfl) dL_law_637 ⟨hc.1, hc.2⟩ (fun z M2 H locs hz hP hS => ?_)
      refine lv_istore (lv' := [(6, .int (zI z)), (5, .int (zI 0)), (4, .int (zI i)), (3, .ref (E.2.2 102)), (2, .ref (E.2.2 11)), (1, .ref (E.2.2 10)), (0, .ref bs)]) hx hb dL_law_640 hl (by decide) rfl (fun ls hl => ?_)
      try simp only [q13, q15, q16, q4] at hz
      have ht0 : M2 11 0 = 0 := by omega
      refine lv_aload_n hx hb dL_law_642 rfl (lv_at hl 4 rfl) ?_
      refine k_callV (As := []) (rest := []) S hK hP (c_X3_thrown l E M2) (cwV 0 S.2.2.2.2 gL_law_X3_thrown rfl rfl rfl (by decide +kernel) ⟨Nat.le_of_ble_eq_true rfl, Nat.le_of_ble_eq_true rfl⟩) (k_rY hK hP rfl) rfl hl.1 rfl (Nat.le_of_ble_eq_true rfl) dL_law_643 ⟨hc.1, hc.2⟩ (fun t ht => ?_)
      refine lv_iload hx hb dL_law_646 (lv_at hl 1 rfl) ?_
      refine k_eq (tgt := 653) hx hb dL_law_648 (by decide) (by omega) (fun _ => ?_) (fun q => absurd (ht.trans ht0) q)
      refine lv_iload hx hb dL_law_653 (lv_at hl 1 rfl) ?_
      refine k_ne0 (tgt := 670) hx hb dL_law_655 (by decide) (by omega) (fun q => absurd rfl q) (fun _ => ?_)
      have q := hz.2.1.resolve_right (fun q => by omega)
      have hvz : v = z := hv.1.trans q.2.2.2.2.2.symm
      have h102 : M2 102 0 = z := by rw [hz.1 102 0 (by omega) (by omega), eM1, kU_same]; exact hvz
      refine lv_aload_n hx hb dL_law_658 rfl (lv_at hl 3 rfl) ?_
      refine k_push hx hb dL_law_659 ?_
      refine k_lald S hK hP dL_law_660 ?_
      refine lv_iload hx hb dL_law_661 (lv_at hl 0 rfl) ?_
      refine k_i2l hx hb dL_law_663 (by omega) ?_
      rw [h102]
      refine k_lcmpE hx hb dL_law_664 ?_
      refine k_eq0 (tgt := 670) hx hb dL_law_665 (by decide) (by omega) (fun _ => ?_) (fun q => absurd rfl q)
      refine lv_goto (tgt := 1416) hx hb dL_law_670 (by decide) ?_
      exact next _ _ _ _ (kI_m hI1 hz.1) hP hS (lv_sub hl [2, 3, 4, 5, 6] rfl)
  · have hb2 : h < 0 ∨ 2 ≤ h := by omega
    refine lv_aload_n hx hb dL_law_605 rfl (lv_at hl 3 rfl) ?_
    refine lv_aload_n hx hb dL_law_606 rfl (lv_at hl 4 rfl) ?_
    refine lv_iload hx hb dL_law_607 (lv_at hl 0 rfl) ?_
    refine k_push hx hb dL_law_609 ?_
    refine k_add hx hb dL_law_610 ?_
    refine k_sld S hScr hbl hbA hS (by omega) e1 dL_law_611 ?_
    refine lv_aload_n hx hb dL_law_612 rfl (lv_at hl 4 rfl) ?_
    refine lv_iload hx hb dL_law_613 (lv_at hl 0 rfl) ?_
    refine k_push hx hb dL_law_615 ?_
    refine k_add hx hb dL_law_616 ?_
    refine k_sld S hScr hbl hbA hS (by omega) e2 dL_law_617 ?_
    refine lv_aload_n hx hb dL_law_618 rfl (lv_at hl 1 rfl) ?_
    refine k_callHT (As := [.ref (E.2.2 10), .int (zI h), .int (zI p), .ref (E.2.2 102)]) (rest := []) S hK hX hZ hP hS (c_L_rank_b1 l E hlst M h p (by omega) (by omega)) (vx_cwSW 4 S.2.2.2.2 gL_law_L_rank rfl rfl rfl (by decide +kernel) ⟨Nat.le_of_ble_eq_true rfl, Nat.le_of_ble_eq_true rfl⟩) rfl hl.1 rfl (Nat.le_of_ble_eq_true rfl) dL_law_619 ⟨hc.1, hc.2⟩ (fun H locs hP hS => ?_)
    refine lv_istore (lv' := [(5, .int (zI 1)), (4, .int (zI i)), (3, .ref (E.2.2 102)), (2, .ref (E.2.2 11)), (1, .ref (E.2.2 10)), (0, .ref bs)]) hx hb dL_law_622 hl (by decide) rfl (fun ls hl => ?_)
    have q4 : M 11 4 = M 2 1 := hI.2.2.2.1
    refine lv_aload_n hx hb dL_law_624 rfl (lv_at hl 3 rfl) ?_
    refine lv_aload_n hx hb dL_law_625 rfl (lv_at hl 5 rfl) ?_
    refine lv_iload hx hb dL_law_626 (lv_at hl 1 rfl) ?_
    refine k_push hx hb dL_law_628 ?_
    refine k_add hx hb dL_law_629 ?_
    refine k_sld S hScr hbl hbA hS (by omega) e1 dL_law_630 ?_
    refine lv_aload_n hx hb dL_law_631 rfl (lv_at hl 5 rfl) ?_
    refine lv_iload hx hb dL_law_632 (lv_at hl 1 rfl) ?_
    refine k_push hx hb dL_law_634 ?_
    refine k_add hx hb dL_law_635 ?_
    refine k_sld S hScr hbl hbA hS (by omega) e2 dL_law_636 ?_
    refine k_callVW (As := [.int (zI h), .int (zI p)]) (rest := []) S hK hP hS (c_X3_rank l E hE M h p (kI_wm hI) (by omega)) (cwV 2 S.2.2.2.2 gL_law_X3_rank rfl rfl rfl (by decide +kernel) ⟨Nat.le_of_ble_eq_true rfl, Nat.le_of_ble_eq_true rfl⟩) (k_rY hK hP rfl) rfl hl.1 rfl (Nat.le_of_ble_eq_true rfl) dL_law_637 ⟨hc.1, hc.2⟩ (fun z M2 H locs hz hP hS => ?_)
    refine lv_istore (lv' := [(6, .int (zI z)), (5, .int (zI 1)), (4, .int (zI i)), (3, .ref (E.2.2 102)), (2, .ref (E.2.2 11)), (1, .ref (E.2.2 10)), (0, .ref bs)]) hx hb dL_law_640 hl (by decide) rfl (fun ls hl => ?_)
    try simp only [q4] at hz
    have ht0 : M2 11 0 = 1 := by omega
    refine lv_aload_n hx hb dL_law_642 rfl (lv_at hl 4 rfl) ?_
    refine k_callV (As := []) (rest := []) S hK hP (c_X3_thrown l E M2) (cwV 0 S.2.2.2.2 gL_law_X3_thrown rfl rfl rfl (by decide +kernel) ⟨Nat.le_of_ble_eq_true rfl, Nat.le_of_ble_eq_true rfl⟩) (k_rY hK hP rfl) rfl hl.1 rfl (Nat.le_of_ble_eq_true rfl) dL_law_643 ⟨hc.1, hc.2⟩ (fun t ht => ?_)
    refine lv_iload hx hb dL_law_646 (lv_at hl 1 rfl) ?_
    refine k_eq (tgt := 653) hx hb dL_law_648 (by decide) (by omega) (fun _ => ?_) (fun q => absurd (ht.trans ht0) q)
    refine lv_iload hx hb dL_law_653 (lv_at hl 1 rfl) ?_
    refine k_ne0 (tgt := 670) hx hb dL_law_655 (by decide) (by omega) (fun _ => ?_) (fun q => absurd q (by decide))
    refine lv_goto (tgt := 1416) hx hb dL_law_670 (by decide) ?_
    exact next _ _ _ _ (kI_m hI hz.1) hP hS (lv_sub hl [2, 3, 4, 5, 6] rfl)
set_option maxHeartbeats 4000000 in
set_option maxRecDepth 100000 in
theorem lw_c_common {pg : Program} {l : Launch} {en : Env} {s0 : State} {mi : MethodId} {ar : Array Value} {bl : List Frame} {me : Method} {co : Code} {H H0 : Heap} {locs : List Loc} {cells slots : Nat} {Q : State → Prop} {ls : Array Slot} {E : kE} {M : kM} {bs L : Nat} {xs : Nat → Int32} {i : Int} (hlst : l.stackTraces = false) (S : CallFix pg mi co cL_law 9 s0 ar wsL_law RL) (hE : kInj E) (hK : kK E s0) (hX : kXs s0) (hZ : kZ (kA E H0.size) s0 H0) (hScr : va_X bs L xs s0 H0) (hbl : bs < H0.size) (hbA : ¬ kA E H0.size bs) (hL : L ≤ 2048) (hI : kI M) (hP : va_P E.1 vwCl (kW E M) H) (hS : va_S (kA E H0.size) H0 H locs) (hi : 0 ≤ i ∧ i + 3 < (L : Int)) (hc : cells + 1 ≤ 601024 ∧ slots + 6 ≤ 7293034) (hl : lv_has ls 9 [(4, .int (zI i)), (3, .ref (E.2.2 102)), (2, .ref (E.2.2 11)), (1, .ref (E.2.2 10)), (0, .ref bs)])
    (next : ∀ (M1 : kM) (H1 : Heap) (locs1 : List Loc) (ls1 : Array Slot), kI M1 → va_P E.1 vwCl (kW E M1) H1 → va_S (kA E H0.size) H0 H1 locs1 → lv_has ls1 9 [(4, .int (zI i)), (3, .ref (E.2.2 102)), (2, .ref (E.2.2 11)), (1, .ref (E.2.2 10)), (0, .ref bs)] → W pg l en room_1 s0 mi ar bl me co H1 locs1 (cells + 1) (slots + 6) Q (F0 mi 1416 ls1 []))
    {h : Int} (e1 : kSc xs (i + 1) = h) {a : Int} (e2 : kSc xs (i + 2) = a) {b : Int} (e3 : kSc xs (i + 3) = b) : W pg l en room_1 s0 mi ar bl me co H locs cells slots Q (F0 mi 673 ls []) := by
  have hx := S.1
  have hb := S.2.1
  have r1 : -2147483648 ≤ h ∧ h ≤ 2147483647 := by rw [← e1]; exact kSc_rng _ _
  have r2 : -2147483648 ≤ a ∧ a ≤ 2147483647 := by rw [← e2]; exact kSc_rng _ _
  have r3 : -2147483648 ≤ b ∧ b ≤ 2147483647 := by rw [← e3]; exact kSc_rng _ _
  have hO2 := kI_O hI
  have hW := hI.1
  have hm12 := hI.2.2.2.2
  obtain ⟨hs0, hs1, hsv⟩ := hW 2 (by omega)
  by_cases hh : 0 ≤ h ∧ h < 2
  · obtain ⟨hn0, hn1, hv0⟩ := hW h (by omega)
    have hcs : (a < 0 ∨ M h 1 ≤ a) ∨ ((0 ≤ a ∧ a < M h 1) ∧ (b < 0 ∨ M h 1 ≤ b)) ∨ (0 ≤ a ∧ a < M h 1 ∧ 0 ≤ b ∧ b < M h 1) := by omega
    rcases hcs with hk | hk | hk
    · skip
      refine lv_aload_n hx hb dL_law_673 rfl (lv_at hl 3 rfl) ?_
      refine lv_aload_n hx hb dL_law_674 rfl (lv_at hl 4 rfl) ?_
      refine lv_iload hx hb dL_law_675 (lv_at hl 0 rfl) ?_
      refine k_push hx hb dL_law_677 ?_
      refine k_add hx hb dL_law_678 ?_
      refine k_sld S hScr hbl hbA hS (by omega) e1 dL_law_679 ?_
      refine lv_aload_n hx hb dL_law_680 rfl (lv_at hl 4 rfl) ?_
      refine lv_iload hx hb dL_law_681 (lv_at hl 0 rfl) ?_
      refine k_push hx hb dL_law_683 ?_
      refine k_add hx hb dL_law_684 ?_
      refine k_sld S hScr hbl hbA hS (by omega) e2 dL_law_685 ?_
      refine lv_aload_n hx hb dL_law_686 rfl (lv_at hl 4 rfl) ?_
      refine lv_iload hx hb dL_law_687 (lv_at hl 0 rfl) ?_
      refine k_push hx hb dL_law_689 ?_
      refine k_add hx hb dL_law_690 ?_
      refine k_sld S hScr hbl hbA hS (by omega) e3 dL_law_691 ?_
      refine lv_aload_n hx hb dL_law_692 rfl (lv_at hl 1 rfl) ?_
      refine k_callHT (As := [.ref (E.2.2 10), .int (zI h), .int (zI a), .int (zI b), .ref (E.2.2 102)]) (rest := []) S hK hX hZ hP hS (c_L_common_b2 l E hlst M h a b (by omega) hW (by omega) (by omega)) (vx_cwSW 5 S.2.2.2.2 gL_law_L_common rfl rfl rfl (by decide +kernel) ⟨Nat.le_of_ble_eq_true rfl, Nat.le_of_ble_eq_true rfl⟩) rfl hl.1 rfl (Nat.le_of_ble_eq_true rfl) dL_law_693 ⟨hc.1, hc.2⟩ (fun H locs hP hS => ?_)
      refine lv_istore (lv' := [(5, .int (zI 1)), (4, .int (zI i)), (3, .ref (E.2.2 102)), (2, .ref (E.2.2 11)), (1, .ref (E.2.2 10)), (0, .ref bs)]) hx hb dL_law_696 hl (by decide) rfl (fun ls hl => ?_)
      have q13 : M (13 + h) = M (h + 3) := kI_13 hI hh
      have q15 : M 15 h = M h 1 := kI_15 hI hh
      have q4 : M 11 4 = M 2 1 := hI.2.2.2.1
      refine lv_aload_n hx hb dL_law_698 rfl (lv_at hl 3 rfl) ?_
      refine lv_aload_n hx hb dL_law_699 rfl (lv_at hl 5 rfl) ?_
      refine lv_iload hx hb dL_law_700 (lv_at hl 1 rfl) ?_
      refine k_push hx hb dL_law_702 ?_
      refine k_add hx hb dL_law_703 ?_
      refine k_sld S hScr hbl hbA hS (by omega) e1 dL_law_704 ?_
      refine lv_aload_n hx hb dL_law_705 rfl (lv_at hl 5 rfl) ?_
      refine lv_iload hx hb dL_law_706 (lv_at hl 1 rfl) ?_
      refine k_push hx hb dL_law_708 ?_
      refine k_add hx hb dL_law_709 ?_
      refine k_sld S hScr hbl hbA hS (by omega) e2 dL_law_710 ?_
      refine lv_aload_n hx hb dL_law_711 rfl (lv_at hl 5 rfl) ?_
      refine lv_iload hx hb dL_law_712 (lv_at hl 1 rfl) ?_
      refine k_push hx hb dL_law_714 ?_
      refine k_add hx hb dL_law_715 ?_
      refine k_sld S hScr hbl hbA hS (by omega) e3 dL_law_716 ?_
      refine k_callVW (As := [.int (zI h), .int (zI a), .int (zI b)]) (rest := []) S hK hP hS (c_X3_common l E hE M h a b (kI_wm hI) (by omega)) (cwV 3 S.2.2.2.2 gL_law_X3_common rfl rfl rfl (by decide +kernel) ⟨Nat.le_of_ble_eq_true rfl, Nat.le_of_ble_eq_true rfl⟩) (k_rY hK hP rfl) rfl hl.1 rfl (Nat.le_of_ble_eq_true rfl) dL_law_717 ⟨hc.1, hc.2⟩ (fun z M2 H locs hz hP hS => ?_)
      refine lv_istore (lv' := [(6, .int (zI z)), (5, .int (zI 1)), (4, .int (zI i)), (3, .ref (E.2.2 102)), (2, .ref (E.2.2 11)), (1, .ref (E.2.2 10)), (0, .ref bs)]) hx hb dL_law_720 hl (by decide) rfl (fun ls hl => ?_)
      try simp only [q13, q15, q4] at hz
      have ht0 : M2 11 0 = 1 := by omega
      refine lv_aload_n hx hb dL_law_722 rfl (lv_at hl 4 rfl) ?_
      refine k_callV (As := []) (rest := []) S hK hP (c_X3_thrown l E M2) (cwV 0 S.2.2.2.2 gL_law_X3_thrown rfl rfl rfl (by decide +kernel) ⟨Nat.le_of_ble_eq_true rfl, Nat.le_of_ble_eq_true rfl⟩) (k_rY hK hP rfl) rfl hl.1 rfl (Nat.le_of_ble_eq_true rfl) dL_law_723 ⟨hc.1, hc.2⟩ (fun t ht => ?_)
      refine lv_iload hx hb dL_law_726 (lv_at hl 1 rfl) ?_
      refine k_eq (tgt := 733) hx hb dL_law_728 (by decide) (by omega) (fun _ => ?_) (fun q => absurd (ht.trans ht0) q)
      refine lv_iload hx hb dL_law_733 (lv_at hl 1 rfl) ?_
      refine k_ne0 (tgt := 750) hx hb dL_law_735 (by decide) (by omega) (fun _ => ?_) (fun q => absurd q (by decide))
      refine lv_goto (tgt := 1416) hx hb dL_law_750 (by decide) ?_
      exact next _ _ _ _ (kI_m hI hz.1) hP hS (lv_sub hl [2, 3, 4, 5, 6] rfl)
    · skip
      refine lv_aload_n hx hb dL_law_673 rfl (lv_at hl 3 rfl) ?_
      refine lv_aload_n hx hb dL_law_674 rfl (lv_at hl 4 rfl) ?_
      refine lv_iload hx hb dL_law_675 (lv_at hl 0 rfl) ?_
      refine k_push hx hb dL_law_677 ?_
      refine k_add hx hb dL_law_678 ?_
      refine k_sld S hScr hbl hbA hS (by omega) e1 dL_law_679 ?_
      refine lv_aload_n hx hb dL_law_680 rfl (lv_at hl 4 rfl) ?_
      refine lv_iload hx hb dL_law_681 (lv_at hl 0 rfl) ?_
      refine k_push hx hb dL_law_683 ?_
      refine k_add hx hb dL_law_684 ?_
      refine k_sld S hScr hbl hbA hS (by omega) e2 dL_law_685 ?_
      refine lv_aload_n hx hb dL_law_686 rfl (lv_at hl 4 rfl) ?_
      refine lv_iload hx hb dL_law_687 (lv_at hl 0 rfl) ?_
      refine k_push hx hb dL_law_689 ?_
      refine k_add hx hb dL_law_690 ?_
      refine k_sld S hScr hbl hbA hS (by omega) e3 dL_law_691 ?_
      refine lv_aload_n hx hb dL_law_692 rfl (lv_at hl 1 rfl) ?_
      refine k_callHT (As := [.ref (E.2.2 10), .int (zI h), .int (zI a), .int (zI b), .ref (E.2.2 102)]) (rest := []) S hK hX hZ hP hS (c_L_common_b3 l E hlst M h a b (by omega) hW (by omega) (by omega) (by omega)) (vx_cwSW 5 S.2.2.2.2 gL_law_L_common rfl rfl rfl (by decide +kernel) ⟨Nat.le_of_ble_eq_true rfl, Nat.le_of_ble_eq_true rfl⟩) rfl hl.1 rfl (Nat.le_of_ble_eq_true rfl) dL_law_693 ⟨hc.1, hc.2⟩ (fun H locs hP hS => ?_)
      refine lv_istore (lv' := [(5, .int (zI 1)), (4, .int (zI i)), (3, .ref (E.2.2 102)), (2, .ref (E.2.2 11)), (1, .ref (E.2.2 10)), (0, .ref bs)]) hx hb dL_law_696 hl (by decide) rfl (fun ls hl => ?_)
      have q13 : M (13 + h) = M (h + 3) := kI_13 hI hh
      have q15 : M 15 h = M h 1 := kI_15 hI hh
      have q4 : M 11 4 = M 2 1 := hI.2.2.2.1
      refine lv_aload_n hx hb dL_law_698 rfl (lv_at hl 3 rfl) ?_
      refine lv_aload_n hx hb dL_law_699 rfl (lv_at hl 5 rfl) ?_
      refine lv_iload hx hb dL_law_700 (lv_at hl 1 rfl) ?_
      refine k_push hx hb dL_law_702 ?_
      refine k_add hx hb dL_law_703 ?_
      refine k_sld S hScr hbl hbA hS (by omega) e1 dL_law_704 ?_
      refine lv_aload_n hx hb dL_law_705 rfl (lv_at hl 5 rfl) ?_
      refine lv_iload hx hb dL_law_706 (lv_at hl 1 rfl) ?_
      refine k_push hx hb dL_law_708 ?_
      refine k_add hx hb dL_law_709 ?_
      refine k_sld S hScr hbl hbA hS (by omega) e2 dL_law_710 ?_
      refine lv_aload_n hx hb dL_law_711 rfl (lv_at hl 5 rfl) ?_
      refine lv_iload hx hb dL_law_712 (lv_at hl 1 rfl) ?_
      refine k_push hx hb dL_law_714 ?_
      refine k_add hx hb dL_law_715 ?_
      refine k_sld S hScr hbl hbA hS (by omega) e3 dL_law_716 ?_
      refine k_callVW (As := [.int (zI h), .int (zI a), .int (zI b)]) (rest := []) S hK hP hS (c_X3_common l E hE M h a b (kI_wm hI) (by omega)) (cwV 3 S.2.2.2.2 gL_law_X3_common rfl rfl rfl (by decide +kernel) ⟨Nat.le_of_ble_eq_true rfl, Nat.le_of_ble_eq_true rfl⟩) (k_rY hK hP rfl) rfl hl.1 rfl (Nat.le_of_ble_eq_true rfl) dL_law_717 ⟨hc.1, hc.2⟩ (fun z M2 H locs hz hP hS => ?_)
      refine lv_istore (lv' := [(6, .int (zI z)), (5, .int (zI 1)), (4, .int (zI i)), (3, .ref (E.2.2 102)), (2, .ref (E.2.2 11)), (1, .ref (E.2.2 10)), (0, .ref bs)]) hx hb dL_law_720 hl (by decide) rfl (fun ls hl => ?_)
      try simp only [q13, q15, q4] at hz
      have ht0 : M2 11 0 = 1 := by omega
      refine lv_aload_n hx hb dL_law_722 rfl (lv_at hl 4 rfl) ?_
      refine k_callV (As := []) (rest := []) S hK hP (c_X3_thrown l E M2) (cwV 0 S.2.2.2.2 gL_law_X3_thrown rfl rfl rfl (by decide +kernel) ⟨Nat.le_of_ble_eq_true rfl, Nat.le_of_ble_eq_true rfl⟩) (k_rY hK hP rfl) rfl hl.1 rfl (Nat.le_of_ble_eq_true rfl) dL_law_723 ⟨hc.1, hc.2⟩ (fun t ht => ?_)
      refine lv_iload hx hb dL_law_726 (lv_at hl 1 rfl) ?_
      refine k_eq (tgt := 733) hx hb dL_law_728 (by decide) (by omega) (fun _ => ?_) (fun q => absurd (ht.trans ht0) q)
      refine lv_iload hx hb dL_law_733 (lv_at hl 1 rfl) ?_
      refine k_ne0 (tgt := 750) hx hb dL_law_735 (by decide) (by omega) (fun _ => ?_) (fun q => absurd q (by decide))
      refine lv_goto (tgt := 1416) hx hb dL_law_750 (by decide) ?_
      exact next _ _ _ _ (kI_m hI hz.1) hP hS (lv_sub hl [2, 3, 4, 5, 6] rfl)
    · skip
      refine lv_aload_n hx hb dL_law_673 rfl (lv_at hl 3 rfl) ?_
      refine lv_aload_n hx hb dL_law_674 rfl (lv_at hl 4 rfl) ?_
      refine lv_iload hx hb dL_law_675 (lv_at hl 0 rfl) ?_
      refine k_push hx hb dL_law_677 ?_
      refine k_add hx hb dL_law_678 ?_
      refine k_sld S hScr hbl hbA hS (by omega) e1 dL_law_679 ?_
      refine lv_aload_n hx hb dL_law_680 rfl (lv_at hl 4 rfl) ?_
      refine lv_iload hx hb dL_law_681 (lv_at hl 0 rfl) ?_
      refine k_push hx hb dL_law_683 ?_
      refine k_add hx hb dL_law_684 ?_
      refine k_sld S hScr hbl hbA hS (by omega) e2 dL_law_685 ?_
      refine lv_aload_n hx hb dL_law_686 rfl (lv_at hl 4 rfl) ?_
      refine lv_iload hx hb dL_law_687 (lv_at hl 0 rfl) ?_
      refine k_push hx hb dL_law_689 ?_
      refine k_add hx hb dL_law_690 ?_
      refine k_sld S hScr hbl hbA hS (by omega) e3 dL_law_691 ?_
      refine lv_aload_n hx hb dL_law_692 rfl (lv_at hl 1 rfl) ?_
      refine k_callHW (As := [.ref (E.2.2 10), .int (zI h), .int (zI a), .int (zI b), .ref (E.2.2 102)]) (rest := []) S hK hP hS (c_L_common l E hE M h a b (by omega) hW (by omega)) (vx_cwSW 5 S.2.2.2.2 gL_law_L_common rfl rfl rfl (by decide +kernel) ⟨Nat.le_of_ble_eq_true rfl, Nat.le_of_ble_eq_true rfl⟩) rfl hl.1 rfl (Nat.le_of_ble_eq_true rfl) dL_law_693 ⟨Nat.le_trans (Nat.le_add_right cells 1) hc.1, Nat.le_trans (Nat.le_add_right slots 6) hc.2⟩ (fun z1 M1 H locs hLk hP hS => ?_)
      obtain ⟨rfl, v, hv, eM1⟩ := hLk
      refine W.widen (k := cells + 1) (n := slots + 6) (by omega) (by omega) ?_
      refine lv_istore (lv' := [(5, .int (zI 0)), (4, .int (zI i)), (3, .ref (E.2.2 102)), (2, .ref (E.2.2 11)), (1, .ref (E.2.2 10)), (0, .ref bs)]) hx hb dL_law_696 hl (by decide) rfl (fun ls hl => ?_)
      have hI1 : kI M1 := by rw [eM1]; exact kI_102 hI
      have q13 : M1 (13 + h) = M (h + 3) := (kI_13 hI1 hh).trans (funext (fun k => by rw [eM1, kU_at, if_neg (by omega)]))
      have q15 : M1 15 h = M h 1 := (kI_15 hI1 hh).trans (by rw [eM1, kU_at, if_neg (by omega)])
      have q16 : M1 16 = M 5 := (kI_16 hI1).trans (funext (fun k => by rw [eM1, kU_at, if_neg (by omega)]))
      have q4 : M1 11 4 = M 2 1 := hI1.2.2.2.1.trans (by rw [eM1, kU_at, if_neg (by omega)])
      refine lv_aload_n hx hb dL_law_698 rfl (lv_at hl 3 rfl) ?_
      refine lv_aload_n hx hb dL_law_699 rfl (lv_at hl 5 rfl) ?_
      refine lv_iload hx hb dL_law_700 (lv_at hl 1 rfl) ?_
      refine k_push hx hb dL_law_702 ?_
      refine k_add hx hb dL_law_703 ?_
      refine k_sld S hScr hbl hbA hS (by omega) e1 dL_law_704 ?_
      refine lv_aload_n hx hb dL_law_705 rfl (lv_at hl 5 rfl) ?_
      refine lv_iload hx hb dL_law_706 (lv_at hl 1 rfl) ?_
      refine k_push hx hb dL_law_708 ?_
      refine k_add hx hb dL_law_709 ?_
      refine k_sld S hScr hbl hbA hS (by omega) e2 dL_law_710 ?_
      refine lv_aload_n hx hb dL_law_711 rfl (lv_at hl 5 rfl) ?_
      refine lv_iload hx hb dL_law_712 (lv_at hl 1 rfl) ?_
      refine k_push hx hb dL_law_714 ?_
      refine k_add hx hb dL_law_715 ?_
      refine k_sld S hScr hbl hbA hS (by omega) e3 dL_law_716 ?_
      refine k_callVW (As := [.int (zI h), .int (zI a), .int (zI b)]) (rest := []) S hK hP hS (c_X3_common l E hE M1 h a b (kI_wm hI1) (by omega)) (cwV 3 S.2.2.2.2 gL_law_X3_common rfl rfl rfl (by decide +kernel) ⟨Nat.le_of_ble_eq_true rfl, Nat.le_of_ble_eq_true rfl⟩) (k_rY hK hP rfl) rfl hl.1 rfl (Nat.le_of_ble_eq_true rfl) dL_law_717 ⟨hc.1, hc.2⟩ (fun z M2 H locs hz hP hS => ?_)
      refine lv_istore (lv' := [(6, .int (zI z)), (5, .int (zI 0)), (4, .int (zI i)), (3, .ref (E.2.2 102)), (2, .ref (E.2.2 11)), (1, .ref (E.2.2 10)), (0, .ref bs)]) hx hb dL_law_720 hl (by decide) rfl (fun ls hl => ?_)
      try simp only [q13, q15, q16, q4] at hz
      have ht0 : M2 11 0 = 0 := by omega
      refine lv_aload_n hx hb dL_law_722 rfl (lv_at hl 4 rfl) ?_
      refine k_callV (As := []) (rest := []) S hK hP (c_X3_thrown l E M2) (cwV 0 S.2.2.2.2 gL_law_X3_thrown rfl rfl rfl (by decide +kernel) ⟨Nat.le_of_ble_eq_true rfl, Nat.le_of_ble_eq_true rfl⟩) (k_rY hK hP rfl) rfl hl.1 rfl (Nat.le_of_ble_eq_true rfl) dL_law_723 ⟨hc.1, hc.2⟩ (fun t ht => ?_)
      refine lv_iload hx hb dL_law_726 (lv_at hl 1 rfl) ?_
      refine k_eq (tgt := 733) hx hb dL_law_728 (by decide) (by omega) (fun _ => ?_) (fun q => absurd (ht.trans ht0) q)
      refine lv_iload hx hb dL_law_733 (lv_at hl 1 rfl) ?_
      refine k_ne0 (tgt := 750) hx hb dL_law_735 (by decide) (by omega) (fun q => absurd rfl q) (fun _ => ?_)
      have q := hz.2.1.resolve_right (fun q => by omega)
      have hvz : v = z := hv.1.trans q.2.2.2.2.2.2.2.symm
      have h102 : M2 102 0 = z := by rw [hz.1 102 0 (by omega) (by omega), eM1, kU_same]; exact hvz
      refine lv_aload_n hx hb dL_law_738 rfl (lv_at hl 3 rfl) ?_
      refine k_push hx hb dL_law_739 ?_
      refine k_lald S hK hP dL_law_740 ?_
      refine lv_iload hx hb dL_law_741 (lv_at hl 0 rfl) ?_
      refine k_i2l hx hb dL_law_743 (by omega) ?_
      rw [h102]
      refine k_lcmpE hx hb dL_law_744 ?_
      refine k_eq0 (tgt := 750) hx hb dL_law_745 (by decide) (by omega) (fun _ => ?_) (fun q => absurd rfl q)
      refine lv_goto (tgt := 1416) hx hb dL_law_750 (by decide) ?_
      exact next _ _ _ _ (kI_m hI1 hz.1) hP hS (lv_sub hl [2, 3, 4, 5, 6] rfl)
  · have hb2 : h < 0 ∨ 2 ≤ h := by omega
    refine lv_aload_n hx hb dL_law_673 rfl (lv_at hl 3 rfl) ?_
    refine lv_aload_n hx hb dL_law_674 rfl (lv_at hl 4 rfl) ?_
    refine lv_iload hx hb dL_law_675 (lv_at hl 0 rfl) ?_
    refine k_push hx hb dL_law_677 ?_
    refine k_add hx hb dL_law_678 ?_
    refine k_sld S hScr hbl hbA hS (by omega) e1 dL_law_679 ?_
    refine lv_aload_n hx hb dL_law_680 rfl (lv_at hl 4 rfl) ?_
    refine lv_iload hx hb dL_law_681 (lv_at hl 0 rfl) ?_
    refine k_push hx hb dL_law_683 ?_
    refine k_add hx hb dL_law_684 ?_
    refine k_sld S hScr hbl hbA hS (by omega) e2 dL_law_685 ?_
    refine lv_aload_n hx hb dL_law_686 rfl (lv_at hl 4 rfl) ?_
    refine lv_iload hx hb dL_law_687 (lv_at hl 0 rfl) ?_
    refine k_push hx hb dL_law_689 ?_
    refine k_add hx hb dL_law_690 ?_
    refine k_sld S hScr hbl hbA hS (by omega) e3 dL_law_691 ?_
    refine lv_aload_n hx hb dL_law_692 rfl (lv_at hl 1 rfl) ?_
    refine k_callHT (As := [.ref (E.2.2 10), .int (zI h), .int (zI a), .int (zI b), .ref (E.2.2 102)]) (rest := []) S hK hX hZ hP hS (c_L_common_b1 l E hlst M h a b (by omega) (by omega)) (vx_cwSW 5 S.2.2.2.2 gL_law_L_common rfl rfl rfl (by decide +kernel) ⟨Nat.le_of_ble_eq_true rfl, Nat.le_of_ble_eq_true rfl⟩) rfl hl.1 rfl (Nat.le_of_ble_eq_true rfl) dL_law_693 ⟨hc.1, hc.2⟩ (fun H locs hP hS => ?_)
    refine lv_istore (lv' := [(5, .int (zI 1)), (4, .int (zI i)), (3, .ref (E.2.2 102)), (2, .ref (E.2.2 11)), (1, .ref (E.2.2 10)), (0, .ref bs)]) hx hb dL_law_696 hl (by decide) rfl (fun ls hl => ?_)
    have q4 : M 11 4 = M 2 1 := hI.2.2.2.1
    refine lv_aload_n hx hb dL_law_698 rfl (lv_at hl 3 rfl) ?_
    refine lv_aload_n hx hb dL_law_699 rfl (lv_at hl 5 rfl) ?_
    refine lv_iload hx hb dL_law_700 (lv_at hl 1 rfl) ?_
    refine k_push hx hb dL_law_702 ?_
    refine k_add hx hb dL_law_703 ?_
    refine k_sld S hScr hbl hbA hS (by omega) e1 dL_law_704 ?_
    refine lv_aload_n hx hb dL_law_705 rfl (lv_at hl 5 rfl) ?_
    refine lv_iload hx hb dL_law_706 (lv_at hl 1 rfl) ?_
    refine k_push hx hb dL_law_708 ?_
    refine k_add hx hb dL_law_709 ?_
    refine k_sld S hScr hbl hbA hS (by omega) e2 dL_law_710 ?_
    refine lv_aload_n hx hb dL_law_711 rfl (lv_at hl 5 rfl) ?_
    refine lv_iload hx hb dL_law_712 (lv_at hl 1 rfl) ?_
    refine k_push hx hb dL_law_714 ?_
    refine k_add hx hb dL_law_715 ?_
    refine k_sld S hScr hbl hbA hS (by omega) e3 dL_law_716 ?_
    refine k_callVW (As := [.int (zI h), .int (zI a), .int (zI b)]) (rest := []) S hK hP hS (c_X3_common l E hE M h a b (kI_wm hI) (by omega)) (cwV 3 S.2.2.2.2 gL_law_X3_common rfl rfl rfl (by decide +kernel) ⟨Nat.le_of_ble_eq_true rfl, Nat.le_of_ble_eq_true rfl⟩) (k_rY hK hP rfl) rfl hl.1 rfl (Nat.le_of_ble_eq_true rfl) dL_law_717 ⟨hc.1, hc.2⟩ (fun z M2 H locs hz hP hS => ?_)
    refine lv_istore (lv' := [(6, .int (zI z)), (5, .int (zI 1)), (4, .int (zI i)), (3, .ref (E.2.2 102)), (2, .ref (E.2.2 11)), (1, .ref (E.2.2 10)), (0, .ref bs)]) hx hb dL_law_720 hl (by decide) rfl (fun ls hl => ?_)
    try simp only [q4] at hz
    have ht0 : M2 11 0 = 1 := by omega
    refine lv_aload_n hx hb dL_law_722 rfl (lv_at hl 4 rfl) ?_
    refine k_callV (As := []) (rest := []) S hK hP (c_X3_thrown l E M2) (cwV 0 S.2.2.2.2 gL_law_X3_thrown rfl rfl rfl (by decide +kernel) ⟨Nat.le_of_ble_eq_true rfl, Nat.le_of_ble_eq_true rfl⟩) (k_rY hK hP rfl) rfl hl.1 rfl (Nat.le_of_ble_eq_true rfl) dL_law_723 ⟨hc.1, hc.2⟩ (fun t ht => ?_)
    refine lv_iload hx hb dL_law_726 (lv_at hl 1 rfl) ?_
    refine k_eq (tgt := 733) hx hb dL_law_728 (by decide) (by omega) (fun _ => ?_) (fun q => absurd (ht.trans ht0) q)
    refine lv_iload hx hb dL_law_733 (lv_at hl 1 rfl) ?_
    refine k_ne0 (tgt := 750) hx hb dL_law_735 (by decide) (by omega) (fun _ => ?_) (fun q => absurd q (by decide))
    refine lv_goto (tgt := 1416) hx hb dL_law_750 (by decide) ?_
    exact next _ _ _ _ (kI_m hI hz.1) hP hS (lv_sub hl [2, 3, 4, 5, 6] rfl)
set_option maxHeartbeats 4000000 in
set_option maxRecDepth 100000 in
theorem lw_c_against {pg : Program} {l : Launch} {en : Env} {s0 : State} {mi : MethodId} {ar : Array Value} {bl : List Frame} {me : Method} {co : Code} {H H0 : Heap} {locs : List Loc} {cells slots : Nat} {Q : State → Prop} {ls : Array Slot} {E : kE} {M : kM} {bs L : Nat} {xs : Nat → Int32} {i : Int} (hlst : l.stackTraces = false) (S : CallFix pg mi co cL_law 9 s0 ar wsL_law RL) (hE : kInj E) (hK : kK E s0) (hX : kXs s0) (hZ : kZ (kA E H0.size) s0 H0) (hScr : va_X bs L xs s0 H0) (hbl : bs < H0.size) (hbA : ¬ kA E H0.size bs) (hL : L ≤ 2048) (hI : kI M) (hP : va_P E.1 vwCl (kW E M) H) (hS : va_S (kA E H0.size) H0 H locs) (hi : 0 ≤ i ∧ i + 3 < (L : Int)) (hc : cells + 1 ≤ 601024 ∧ slots + 6 ≤ 7293034) (hl : lv_has ls 9 [(4, .int (zI i)), (3, .ref (E.2.2 102)), (2, .ref (E.2.2 11)), (1, .ref (E.2.2 10)), (0, .ref bs)])
    (next : ∀ (M1 : kM) (H1 : Heap) (locs1 : List Loc) (ls1 : Array Slot), kI M1 → va_P E.1 vwCl (kW E M1) H1 → va_S (kA E H0.size) H0 H1 locs1 → lv_has ls1 9 [(4, .int (zI i)), (3, .ref (E.2.2 102)), (2, .ref (E.2.2 11)), (1, .ref (E.2.2 10)), (0, .ref bs)] → W pg l en room_1 s0 mi ar bl me co H1 locs1 (cells + 1) (slots + 6) Q (F0 mi 1416 ls1 []))
    {a : Int} (e1 : kSc xs (i + 1) = a) {b : Int} (e2 : kSc xs (i + 2) = b) : W pg l en room_1 s0 mi ar bl me co H locs cells slots Q (F0 mi 753 ls []) := by
  have hx := S.1
  have hb := S.2.1
  have r1 : -2147483648 ≤ a ∧ a ≤ 2147483647 := by rw [← e1]; exact kSc_rng _ _
  have r2 : -2147483648 ≤ b ∧ b ≤ 2147483647 := by rw [← e2]; exact kSc_rng _ _
  have hO2 := kI_O hI
  have hW := hI.1
  have hm12 := hI.2.2.2.2
  obtain ⟨hs0, hs1, hsv⟩ := hW 2 (by omega)
  obtain ⟨hn0, hn1, hv0⟩ := hW 0 (by omega)
  obtain ⟨hm0, hm1, hw0⟩ := hW 1 (by omega)
  have hcs : (a < 0 ∨ M 0 1 ≤ a) ∨ ((0 ≤ a ∧ a < M 0 1) ∧ (b < 0 ∨ M 1 1 ≤ b)) ∨ (0 ≤ a ∧ a < M 0 1 ∧ 0 ≤ b ∧ b < M 1 1) := by omega
  rcases hcs with hk | hk | hk
  · skip
    refine lv_aload_n hx hb dL_law_753 rfl (lv_at hl 3 rfl) ?_
    refine lv_aload_n hx hb dL_law_754 rfl (lv_at hl 4 rfl) ?_
    refine lv_iload hx hb dL_law_755 (lv_at hl 0 rfl) ?_
    refine k_push hx hb dL_law_757 ?_
    refine k_add hx hb dL_law_758 ?_
    refine k_sld S hScr hbl hbA hS (by omega) e1 dL_law_759 ?_
    refine lv_aload_n hx hb dL_law_760 rfl (lv_at hl 4 rfl) ?_
    refine lv_iload hx hb dL_law_761 (lv_at hl 0 rfl) ?_
    refine k_push hx hb dL_law_763 ?_
    refine k_add hx hb dL_law_764 ?_
    refine k_sld S hScr hbl hbA hS (by omega) e2 dL_law_765 ?_
    refine lv_aload_n hx hb dL_law_766 rfl (lv_at hl 1 rfl) ?_
    refine k_callHT (As := [.ref (E.2.2 10), .int (zI a), .int (zI b), .ref (E.2.2 102)]) (rest := []) S hK hX hZ hP hS (c_L_against_b1 l E hlst M a b hW (by omega) (by omega)) (vx_cwSW 4 S.2.2.2.2 gL_law_L_against rfl rfl rfl (by decide +kernel) ⟨Nat.le_of_ble_eq_true rfl, Nat.le_of_ble_eq_true rfl⟩) rfl hl.1 rfl (Nat.le_of_ble_eq_true rfl) dL_law_767 ⟨hc.1, hc.2⟩ (fun H locs hP hS => ?_)
    refine lv_istore (lv' := [(5, .int (zI 1)), (4, .int (zI i)), (3, .ref (E.2.2 102)), (2, .ref (E.2.2 11)), (1, .ref (E.2.2 10)), (0, .ref bs)]) hx hb dL_law_770 hl (by decide) rfl (fun ls hl => ?_)
    have q15 : M 15 0 = M 0 1 := kI_15 hI (g := 0) (by omega)
    have q151 : M 15 1 = M 1 1 := kI_15 hI (g := 1) (by omega)
    have q4 : M 11 4 = M 2 1 := hI.2.2.2.1
    refine lv_aload_n hx hb dL_law_772 rfl (lv_at hl 3 rfl) ?_
    refine lv_aload_n hx hb dL_law_773 rfl (lv_at hl 5 rfl) ?_
    refine lv_iload hx hb dL_law_774 (lv_at hl 1 rfl) ?_
    refine k_push hx hb dL_law_776 ?_
    refine k_add hx hb dL_law_777 ?_
    refine k_sld S hScr hbl hbA hS (by omega) e1 dL_law_778 ?_
    refine lv_aload_n hx hb dL_law_779 rfl (lv_at hl 5 rfl) ?_
    refine lv_iload hx hb dL_law_780 (lv_at hl 1 rfl) ?_
    refine k_push hx hb dL_law_782 ?_
    refine k_add hx hb dL_law_783 ?_
    refine k_sld S hScr hbl hbA hS (by omega) e2 dL_law_784 ?_
    refine k_callVW (As := [.int (zI a), .int (zI b)]) (rest := []) S hK hP hS (c_X3_against l E hE M a b (kI_wm hI) (by omega)) (cwV 2 S.2.2.2.2 gL_law_X3_against rfl rfl rfl (by decide +kernel) ⟨Nat.le_of_ble_eq_true rfl, Nat.le_of_ble_eq_true rfl⟩) (k_rY hK hP rfl) rfl hl.1 rfl (Nat.le_of_ble_eq_true rfl) dL_law_785 ⟨hc.1, hc.2⟩ (fun z M2 H locs hz hP hS => ?_)
    refine lv_istore (lv' := [(6, .int (zI z)), (5, .int (zI 1)), (4, .int (zI i)), (3, .ref (E.2.2 102)), (2, .ref (E.2.2 11)), (1, .ref (E.2.2 10)), (0, .ref bs)]) hx hb dL_law_788 hl (by decide) rfl (fun ls hl => ?_)
    try simp only [q15, q151, q4] at hz
    have ht0 : M2 11 0 = 1 := by omega
    refine lv_aload_n hx hb dL_law_790 rfl (lv_at hl 4 rfl) ?_
    refine k_callV (As := []) (rest := []) S hK hP (c_X3_thrown l E M2) (cwV 0 S.2.2.2.2 gL_law_X3_thrown rfl rfl rfl (by decide +kernel) ⟨Nat.le_of_ble_eq_true rfl, Nat.le_of_ble_eq_true rfl⟩) (k_rY hK hP rfl) rfl hl.1 rfl (Nat.le_of_ble_eq_true rfl) dL_law_791 ⟨hc.1, hc.2⟩ (fun t ht => ?_)
    refine lv_iload hx hb dL_law_794 (lv_at hl 1 rfl) ?_
    refine k_eq (tgt := 801) hx hb dL_law_796 (by decide) (by omega) (fun _ => ?_) (fun q => absurd (ht.trans ht0) q)
    refine lv_iload hx hb dL_law_801 (lv_at hl 1 rfl) ?_
    refine k_ne0 (tgt := 818) hx hb dL_law_803 (by decide) (by omega) (fun _ => ?_) (fun q => absurd q (by decide))
    refine lv_goto (tgt := 1416) hx hb dL_law_818 (by decide) ?_
    exact next _ _ _ _ (kI_m hI hz.1) hP hS (lv_sub hl [2, 3, 4, 5, 6] rfl)
  · skip
    refine lv_aload_n hx hb dL_law_753 rfl (lv_at hl 3 rfl) ?_
    refine lv_aload_n hx hb dL_law_754 rfl (lv_at hl 4 rfl) ?_
    refine lv_iload hx hb dL_law_755 (lv_at hl 0 rfl) ?_
    refine k_push hx hb dL_law_757 ?_
    refine k_add hx hb dL_law_758 ?_
    refine k_sld S hScr hbl hbA hS (by omega) e1 dL_law_759 ?_
    refine lv_aload_n hx hb dL_law_760 rfl (lv_at hl 4 rfl) ?_
    refine lv_iload hx hb dL_law_761 (lv_at hl 0 rfl) ?_
    refine k_push hx hb dL_law_763 ?_
    refine k_add hx hb dL_law_764 ?_
    refine k_sld S hScr hbl hbA hS (by omega) e2 dL_law_765 ?_
    refine lv_aload_n hx hb dL_law_766 rfl (lv_at hl 1 rfl) ?_
    refine k_callHT (As := [.ref (E.2.2 10), .int (zI a), .int (zI b), .ref (E.2.2 102)]) (rest := []) S hK hX hZ hP hS (c_L_against_b2 l E hlst M a b hW (by omega) (by omega) (by omega)) (vx_cwSW 4 S.2.2.2.2 gL_law_L_against rfl rfl rfl (by decide +kernel) ⟨Nat.le_of_ble_eq_true rfl, Nat.le_of_ble_eq_true rfl⟩) rfl hl.1 rfl (Nat.le_of_ble_eq_true rfl) dL_law_767 ⟨hc.1, hc.2⟩ (fun H locs hP hS => ?_)
    refine lv_istore (lv' := [(5, .int (zI 1)), (4, .int (zI i)), (3, .ref (E.2.2 102)), (2, .ref (E.2.2 11)), (1, .ref (E.2.2 10)), (0, .ref bs)]) hx hb dL_law_770 hl (by decide) rfl (fun ls hl => ?_)
    have q15 : M 15 0 = M 0 1 := kI_15 hI (g := 0) (by omega)
    have q151 : M 15 1 = M 1 1 := kI_15 hI (g := 1) (by omega)
    have q4 : M 11 4 = M 2 1 := hI.2.2.2.1
    refine lv_aload_n hx hb dL_law_772 rfl (lv_at hl 3 rfl) ?_
    refine lv_aload_n hx hb dL_law_773 rfl (lv_at hl 5 rfl) ?_
    refine lv_iload hx hb dL_law_774 (lv_at hl 1 rfl) ?_
    refine k_push hx hb dL_law_776 ?_
    refine k_add hx hb dL_law_777 ?_
    refine k_sld S hScr hbl hbA hS (by omega) e1 dL_law_778 ?_
    refine lv_aload_n hx hb dL_law_779 rfl (lv_at hl 5 rfl) ?_
    refine lv_iload hx hb dL_law_780 (lv_at hl 1 rfl) ?_
    refine k_push hx hb dL_law_782 ?_
    refine k_add hx hb dL_law_783 ?_
    refine k_sld S hScr hbl hbA hS (by omega) e2 dL_law_784 ?_
    refine k_callVW (As := [.int (zI a), .int (zI b)]) (rest := []) S hK hP hS (c_X3_against l E hE M a b (kI_wm hI) (by omega)) (cwV 2 S.2.2.2.2 gL_law_X3_against rfl rfl rfl (by decide +kernel) ⟨Nat.le_of_ble_eq_true rfl, Nat.le_of_ble_eq_true rfl⟩) (k_rY hK hP rfl) rfl hl.1 rfl (Nat.le_of_ble_eq_true rfl) dL_law_785 ⟨hc.1, hc.2⟩ (fun z M2 H locs hz hP hS => ?_)
    refine lv_istore (lv' := [(6, .int (zI z)), (5, .int (zI 1)), (4, .int (zI i)), (3, .ref (E.2.2 102)), (2, .ref (E.2.2 11)), (1, .ref (E.2.2 10)), (0, .ref bs)]) hx hb dL_law_788 hl (by decide) rfl (fun ls hl => ?_)
    try simp only [q15, q151, q4] at hz
    have ht0 : M2 11 0 = 1 := by omega
    refine lv_aload_n hx hb dL_law_790 rfl (lv_at hl 4 rfl) ?_
    refine k_callV (As := []) (rest := []) S hK hP (c_X3_thrown l E M2) (cwV 0 S.2.2.2.2 gL_law_X3_thrown rfl rfl rfl (by decide +kernel) ⟨Nat.le_of_ble_eq_true rfl, Nat.le_of_ble_eq_true rfl⟩) (k_rY hK hP rfl) rfl hl.1 rfl (Nat.le_of_ble_eq_true rfl) dL_law_791 ⟨hc.1, hc.2⟩ (fun t ht => ?_)
    refine lv_iload hx hb dL_law_794 (lv_at hl 1 rfl) ?_
    refine k_eq (tgt := 801) hx hb dL_law_796 (by decide) (by omega) (fun _ => ?_) (fun q => absurd (ht.trans ht0) q)
    refine lv_iload hx hb dL_law_801 (lv_at hl 1 rfl) ?_
    refine k_ne0 (tgt := 818) hx hb dL_law_803 (by decide) (by omega) (fun _ => ?_) (fun q => absurd q (by decide))
    refine lv_goto (tgt := 1416) hx hb dL_law_818 (by decide) ?_
    exact next _ _ _ _ (kI_m hI hz.1) hP hS (lv_sub hl [2, 3, 4, 5, 6] rfl)
  · skip
    refine lv_aload_n hx hb dL_law_753 rfl (lv_at hl 3 rfl) ?_
    refine lv_aload_n hx hb dL_law_754 rfl (lv_at hl 4 rfl) ?_
    refine lv_iload hx hb dL_law_755 (lv_at hl 0 rfl) ?_
    refine k_push hx hb dL_law_757 ?_
    refine k_add hx hb dL_law_758 ?_
    refine k_sld S hScr hbl hbA hS (by omega) e1 dL_law_759 ?_
    refine lv_aload_n hx hb dL_law_760 rfl (lv_at hl 4 rfl) ?_
    refine lv_iload hx hb dL_law_761 (lv_at hl 0 rfl) ?_
    refine k_push hx hb dL_law_763 ?_
    refine k_add hx hb dL_law_764 ?_
    refine k_sld S hScr hbl hbA hS (by omega) e2 dL_law_765 ?_
    refine lv_aload_n hx hb dL_law_766 rfl (lv_at hl 1 rfl) ?_
    refine k_callHW (As := [.ref (E.2.2 10), .int (zI a), .int (zI b), .ref (E.2.2 102)]) (rest := []) S hK hP hS (c_L_against l E hE M a b hW (by omega)) (vx_cwSW 4 S.2.2.2.2 gL_law_L_against rfl rfl rfl (by decide +kernel) ⟨Nat.le_of_ble_eq_true rfl, Nat.le_of_ble_eq_true rfl⟩) rfl hl.1 rfl (Nat.le_of_ble_eq_true rfl) dL_law_767 ⟨Nat.le_trans (Nat.le_add_right cells 1) hc.1, Nat.le_trans (Nat.le_add_right slots 6) hc.2⟩ (fun z1 M1 H locs hLk hP hS => ?_)
    obtain ⟨rfl, v, hv, eM1⟩ := hLk
    refine W.widen (k := cells + 1) (n := slots + 6) (by omega) (by omega) ?_
    refine lv_istore (lv' := [(5, .int (zI 0)), (4, .int (zI i)), (3, .ref (E.2.2 102)), (2, .ref (E.2.2 11)), (1, .ref (E.2.2 10)), (0, .ref bs)]) hx hb dL_law_770 hl (by decide) rfl (fun ls hl => ?_)
    have hI1 : kI M1 := by rw [eM1]; exact kI_102 hI
    have q13 : M1 13 = M 3 := (kI_13 hI1 (g := 0) (by omega)).trans (funext (fun k => by rw [eM1, kU_at, if_neg (by omega)]; rfl))
    have q14 : M1 14 = M 4 := (kI_13 hI1 (g := 1) (by omega)).trans (funext (fun k => by rw [eM1, kU_at, if_neg (by omega)]; rfl))
    have q15 : M1 15 0 = M 0 1 := (kI_15 hI1 (g := 0) (by omega)).trans (by rw [eM1, kU_at, if_neg (by omega)])
    have q151 : M1 15 1 = M 1 1 := (kI_15 hI1 (g := 1) (by omega)).trans (by rw [eM1, kU_at, if_neg (by omega)])
    have q16 : M1 16 = M 5 := (kI_16 hI1).trans (funext (fun k => by rw [eM1, kU_at, if_neg (by omega)]))
    have q4 : M1 11 4 = M 2 1 := hI1.2.2.2.1.trans (by rw [eM1, kU_at, if_neg (by omega)])
    refine lv_aload_n hx hb dL_law_772 rfl (lv_at hl 3 rfl) ?_
    refine lv_aload_n hx hb dL_law_773 rfl (lv_at hl 5 rfl) ?_
    refine lv_iload hx hb dL_law_774 (lv_at hl 1 rfl) ?_
    refine k_push hx hb dL_law_776 ?_
    refine k_add hx hb dL_law_777 ?_
    refine k_sld S hScr hbl hbA hS (by omega) e1 dL_law_778 ?_
    refine lv_aload_n hx hb dL_law_779 rfl (lv_at hl 5 rfl) ?_
    refine lv_iload hx hb dL_law_780 (lv_at hl 1 rfl) ?_
    refine k_push hx hb dL_law_782 ?_
    refine k_add hx hb dL_law_783 ?_
    refine k_sld S hScr hbl hbA hS (by omega) e2 dL_law_784 ?_
    refine k_callVW (As := [.int (zI a), .int (zI b)]) (rest := []) S hK hP hS (c_X3_against l E hE M1 a b (kI_wm hI1) (by omega)) (cwV 2 S.2.2.2.2 gL_law_X3_against rfl rfl rfl (by decide +kernel) ⟨Nat.le_of_ble_eq_true rfl, Nat.le_of_ble_eq_true rfl⟩) (k_rY hK hP rfl) rfl hl.1 rfl (Nat.le_of_ble_eq_true rfl) dL_law_785 ⟨hc.1, hc.2⟩ (fun z M2 H locs hz hP hS => ?_)
    refine lv_istore (lv' := [(6, .int (zI z)), (5, .int (zI 0)), (4, .int (zI i)), (3, .ref (E.2.2 102)), (2, .ref (E.2.2 11)), (1, .ref (E.2.2 10)), (0, .ref bs)]) hx hb dL_law_788 hl (by decide) rfl (fun ls hl => ?_)
    try simp only [q13, q14, q15, q151, q16, q4] at hz
    have ht0 : M2 11 0 = 0 := by omega
    refine lv_aload_n hx hb dL_law_790 rfl (lv_at hl 4 rfl) ?_
    refine k_callV (As := []) (rest := []) S hK hP (c_X3_thrown l E M2) (cwV 0 S.2.2.2.2 gL_law_X3_thrown rfl rfl rfl (by decide +kernel) ⟨Nat.le_of_ble_eq_true rfl, Nat.le_of_ble_eq_true rfl⟩) (k_rY hK hP rfl) rfl hl.1 rfl (Nat.le_of_ble_eq_true rfl) dL_law_791 ⟨hc.1, hc.2⟩ (fun t ht => ?_)
    refine lv_iload hx hb dL_law_794 (lv_at hl 1 rfl) ?_
    refine k_eq (tgt := 801) hx hb dL_law_796 (by decide) (by omega) (fun _ => ?_) (fun q => absurd (ht.trans ht0) q)
    refine lv_iload hx hb dL_law_801 (lv_at hl 1 rfl) ?_
    refine k_ne0 (tgt := 818) hx hb dL_law_803 (by decide) (by omega) (fun q => absurd rfl q) (fun _ => ?_)
    have q := hz.2.1.resolve_right (fun q => by omega)
    have hvz : v = z := kD_one hv.1 q.2.2.2.2.2
    have h102 : M2 102 0 = z := by rw [hz.1 102 0 (by omega) (by omega), eM1, kU_same]; exact hvz
    refine lv_aload_n hx hb dL_law_806 rfl (lv_at hl 3 rfl) ?_
    refine k_push hx hb dL_law_807 ?_
    refine k_lald S hK hP dL_law_808 ?_
    refine lv_iload hx hb dL_law_809 (lv_at hl 0 rfl) ?_
    refine k_i2l hx hb dL_law_811 (by omega) ?_
    rw [h102]
    refine k_lcmpE hx hb dL_law_812 ?_
    refine k_eq0 (tgt := 818) hx hb dL_law_813 (by decide) (by omega) (fun _ => ?_) (fun q => absurd rfl q)
    refine lv_goto (tgt := 1416) hx hb dL_law_818 (by decide) ?_
    exact next _ _ _ _ (kI_m hI1 hz.1) hP hS (lv_sub hl [2, 3, 4, 5, 6] rfl)
set_option maxHeartbeats 4000000 in
set_option maxRecDepth 100000 in
theorem lw_c_repeat {pg : Program} {l : Launch} {en : Env} {s0 : State} {mi : MethodId} {ar : Array Value} {bl : List Frame} {me : Method} {co : Code} {H H0 : Heap} {locs : List Loc} {cells slots : Nat} {Q : State → Prop} {ls : Array Slot} {E : kE} {M : kM} {bs L : Nat} {xs : Nat → Int32} {i : Int} (hlst : l.stackTraces = false) (S : CallFix pg mi co cL_law 9 s0 ar wsL_law RL) (hE : kInj E) (hK : kK E s0) (hX : kXs s0) (hZ : kZ (kA E H0.size) s0 H0) (hScr : va_X bs L xs s0 H0) (hbl : bs < H0.size) (hbA : ¬ kA E H0.size bs) (hL : L ≤ 2048) (hI : kI M) (hP : va_P E.1 vwCl (kW E M) H) (hS : va_S (kA E H0.size) H0 H locs) (hi : 0 ≤ i ∧ i + 3 < (L : Int)) (hc : cells + 1 ≤ 601024 ∧ slots + 6 ≤ 7293034) (hl : lv_has ls 9 [(4, .int (zI i)), (3, .ref (E.2.2 102)), (2, .ref (E.2.2 11)), (1, .ref (E.2.2 10)), (0, .ref bs)])
    (next : ∀ (M1 : kM) (H1 : Heap) (locs1 : List Loc) (ls1 : Array Slot), kI M1 → va_P E.1 vwCl (kW E M1) H1 → va_S (kA E H0.size) H0 H1 locs1 → lv_has ls1 9 [(4, .int (zI i)), (3, .ref (E.2.2 102)), (2, .ref (E.2.2 11)), (1, .ref (E.2.2 10)), (0, .ref bs)] → W pg l en room_1 s0 mi ar bl me co H1 locs1 (cells + 1) (slots + 6) Q (F0 mi 1416 ls1 []))
    {h : Int} (e1 : kSc xs (i + 1) = h) {w : Int} (e2 : kSc xs (i + 2) = w) : W pg l en room_1 s0 mi ar bl me co H locs cells slots Q (F0 mi 821 ls []) := by
  have hx := S.1
  have hb := S.2.1
  have r1 : -2147483648 ≤ h ∧ h ≤ 2147483647 := by rw [← e1]; exact kSc_rng _ _
  have r2 : -2147483648 ≤ w ∧ w ≤ 2147483647 := by rw [← e2]; exact kSc_rng _ _
  have hO2 := kI_O hI
  have hW := hI.1
  have hm12 := hI.2.2.2.2
  obtain ⟨hs0, hs1, hsv⟩ := hW 2 (by omega)
  by_cases hh : 0 ≤ h ∧ h < 2
  · obtain ⟨hn0, hn1, hv0⟩ := hW h (by omega)
    have hcs : (w < 0 ∨ 2 < w) ∨ (0 ≤ w ∧ w ≤ 2) := by omega
    rcases hcs with hk | hk
    · skip
      refine lv_aload_n hx hb dL_law_821 rfl (lv_at hl 3 rfl) ?_
      refine lv_aload_n hx hb dL_law_822 rfl (lv_at hl 4 rfl) ?_
      refine lv_iload hx hb dL_law_823 (lv_at hl 0 rfl) ?_
      refine k_push hx hb dL_law_825 ?_
      refine k_add hx hb dL_law_826 ?_
      refine k_sld S hScr hbl hbA hS (by omega) e1 dL_law_827 ?_
      refine lv_aload_n hx hb dL_law_828 rfl (lv_at hl 4 rfl) ?_
      refine lv_iload hx hb dL_law_829 (lv_at hl 0 rfl) ?_
      refine k_push hx hb dL_law_831 ?_
      refine k_add hx hb dL_law_832 ?_
      refine k_sld S hScr hbl hbA hS (by omega) e2 dL_law_833 ?_
      refine lv_aload_n hx hb dL_law_834 rfl (lv_at hl 1 rfl) ?_
      refine k_callHT (As := [.ref (E.2.2 10), .int (zI h), .int (zI w), .ref (E.2.2 102)]) (rest := []) S hK hX hZ hP hS (c_L_repeat_b2 l E hlst M h w (by omega) (by omega) (by omega)) (vx_cwSW 4 S.2.2.2.2 gL_law_L_repeat rfl rfl rfl (by decide +kernel) ⟨Nat.le_of_ble_eq_true rfl, Nat.le_of_ble_eq_true rfl⟩) rfl hl.1 rfl (Nat.le_of_ble_eq_true rfl) dL_law_835 ⟨hc.1, hc.2⟩ (fun H locs hP hS => ?_)
      refine lv_istore (lv' := [(5, .int (zI 1)), (4, .int (zI i)), (3, .ref (E.2.2 102)), (2, .ref (E.2.2 11)), (1, .ref (E.2.2 10)), (0, .ref bs)]) hx hb dL_law_838 hl (by decide) rfl (fun ls hl => ?_)
      have q13 : M (13 + h) = M (h + 3) := kI_13 hI hh
      have q15 : M 15 h = M h 1 := kI_15 hI hh
      have q4 : M 11 4 = M 2 1 := hI.2.2.2.1
      refine lv_aload_n hx hb dL_law_840 rfl (lv_at hl 3 rfl) ?_
      refine lv_aload_n hx hb dL_law_841 rfl (lv_at hl 5 rfl) ?_
      refine lv_iload hx hb dL_law_842 (lv_at hl 1 rfl) ?_
      refine k_push hx hb dL_law_844 ?_
      refine k_add hx hb dL_law_845 ?_
      refine k_sld S hScr hbl hbA hS (by omega) e1 dL_law_846 ?_
      refine lv_aload_n hx hb dL_law_847 rfl (lv_at hl 5 rfl) ?_
      refine lv_iload hx hb dL_law_848 (lv_at hl 1 rfl) ?_
      refine k_push hx hb dL_law_850 ?_
      refine k_add hx hb dL_law_851 ?_
      refine k_sld S hScr hbl hbA hS (by omega) e2 dL_law_852 ?_
      refine k_callVW (As := [.int (zI h), .int (zI w)]) (rest := []) S hK hP hS (c_X3_repeat l E hE M h w (kI_wm hI) (by omega)) (cwV 2 S.2.2.2.2 gL_law_X3_repeat rfl rfl rfl (by decide +kernel) ⟨Nat.le_of_ble_eq_true rfl, Nat.le_of_ble_eq_true rfl⟩) (k_rY hK hP rfl) rfl hl.1 rfl (Nat.le_of_ble_eq_true rfl) dL_law_853 ⟨hc.1, hc.2⟩ (fun z M2 H locs hz hP hS => ?_)
      refine lv_istore (lv' := [(6, .int (zI z)), (5, .int (zI 1)), (4, .int (zI i)), (3, .ref (E.2.2 102)), (2, .ref (E.2.2 11)), (1, .ref (E.2.2 10)), (0, .ref bs)]) hx hb dL_law_856 hl (by decide) rfl (fun ls hl => ?_)
      try simp only [q13, q15, q4] at hz
      have ht0 : M2 11 0 = 1 := by omega
      refine lv_aload_n hx hb dL_law_858 rfl (lv_at hl 4 rfl) ?_
      refine k_callV (As := []) (rest := []) S hK hP (c_X3_thrown l E M2) (cwV 0 S.2.2.2.2 gL_law_X3_thrown rfl rfl rfl (by decide +kernel) ⟨Nat.le_of_ble_eq_true rfl, Nat.le_of_ble_eq_true rfl⟩) (k_rY hK hP rfl) rfl hl.1 rfl (Nat.le_of_ble_eq_true rfl) dL_law_859 ⟨hc.1, hc.2⟩ (fun t ht => ?_)
      refine lv_iload hx hb dL_law_862 (lv_at hl 1 rfl) ?_
      refine k_eq (tgt := 869) hx hb dL_law_864 (by decide) (by omega) (fun _ => ?_) (fun q => absurd (ht.trans ht0) q)
      refine lv_iload hx hb dL_law_869 (lv_at hl 1 rfl) ?_
      refine k_ne0 (tgt := 886) hx hb dL_law_871 (by decide) (by omega) (fun _ => ?_) (fun q => absurd q (by decide))
      refine lv_goto (tgt := 1416) hx hb dL_law_886 (by decide) ?_
      exact next _ _ _ _ (kI_m hI hz.1) hP hS (lv_sub hl [2, 3, 4, 5, 6] rfl)
    · skip
      refine lv_aload_n hx hb dL_law_821 rfl (lv_at hl 3 rfl) ?_
      refine lv_aload_n hx hb dL_law_822 rfl (lv_at hl 4 rfl) ?_
      refine lv_iload hx hb dL_law_823 (lv_at hl 0 rfl) ?_
      refine k_push hx hb dL_law_825 ?_
      refine k_add hx hb dL_law_826 ?_
      refine k_sld S hScr hbl hbA hS (by omega) e1 dL_law_827 ?_
      refine lv_aload_n hx hb dL_law_828 rfl (lv_at hl 4 rfl) ?_
      refine lv_iload hx hb dL_law_829 (lv_at hl 0 rfl) ?_
      refine k_push hx hb dL_law_831 ?_
      refine k_add hx hb dL_law_832 ?_
      refine k_sld S hScr hbl hbA hS (by omega) e2 dL_law_833 ?_
      refine lv_aload_n hx hb dL_law_834 rfl (lv_at hl 1 rfl) ?_
      refine k_callHW (As := [.ref (E.2.2 10), .int (zI h), .int (zI w), .ref (E.2.2 102)]) (rest := []) S hK hP hS (c_L_repeat l E hE M h w (by omega) hW hO2 (by omega)) (vx_cwSW 4 S.2.2.2.2 gL_law_L_repeat rfl rfl rfl (by decide +kernel) ⟨Nat.le_of_ble_eq_true rfl, Nat.le_of_ble_eq_true rfl⟩) rfl hl.1 rfl (Nat.le_of_ble_eq_true rfl) dL_law_835 ⟨Nat.le_trans (Nat.le_add_right cells 1) hc.1, Nat.le_trans (Nat.le_add_right slots 6) hc.2⟩ (fun z1 M1 H locs hLk hP hS => ?_)
      obtain ⟨rfl, v, hv, eM1⟩ := hLk
      refine W.widen (k := cells + 1) (n := slots + 6) (by omega) (by omega) ?_
      refine lv_istore (lv' := [(5, .int (zI 0)), (4, .int (zI i)), (3, .ref (E.2.2 102)), (2, .ref (E.2.2 11)), (1, .ref (E.2.2 10)), (0, .ref bs)]) hx hb dL_law_838 hl (by decide) rfl (fun ls hl => ?_)
      have hI1 : kI M1 := by rw [eM1]; exact kI_102 hI
      have q13 : M1 (13 + h) = M (h + 3) := (kI_13 hI1 hh).trans (funext (fun k => by rw [eM1, kU_at, if_neg (by omega)]))
      have q15 : M1 15 h = M h 1 := (kI_15 hI1 hh).trans (by rw [eM1, kU_at, if_neg (by omega)])
      have q16 : M1 16 = M 5 := (kI_16 hI1).trans (funext (fun k => by rw [eM1, kU_at, if_neg (by omega)]))
      have q4 : M1 11 4 = M 2 1 := hI1.2.2.2.1.trans (by rw [eM1, kU_at, if_neg (by omega)])
      refine lv_aload_n hx hb dL_law_840 rfl (lv_at hl 3 rfl) ?_
      refine lv_aload_n hx hb dL_law_841 rfl (lv_at hl 5 rfl) ?_
      refine lv_iload hx hb dL_law_842 (lv_at hl 1 rfl) ?_
      refine k_push hx hb dL_law_844 ?_
      refine k_add hx hb dL_law_845 ?_
      refine k_sld S hScr hbl hbA hS (by omega) e1 dL_law_846 ?_
      refine lv_aload_n hx hb dL_law_847 rfl (lv_at hl 5 rfl) ?_
      refine lv_iload hx hb dL_law_848 (lv_at hl 1 rfl) ?_
      refine k_push hx hb dL_law_850 ?_
      refine k_add hx hb dL_law_851 ?_
      refine k_sld S hScr hbl hbA hS (by omega) e2 dL_law_852 ?_
      refine k_callVW (As := [.int (zI h), .int (zI w)]) (rest := []) S hK hP hS (c_X3_repeat l E hE M1 h w (kI_wm hI1) (by omega)) (cwV 2 S.2.2.2.2 gL_law_X3_repeat rfl rfl rfl (by decide +kernel) ⟨Nat.le_of_ble_eq_true rfl, Nat.le_of_ble_eq_true rfl⟩) (k_rY hK hP rfl) rfl hl.1 rfl (Nat.le_of_ble_eq_true rfl) dL_law_853 ⟨hc.1, hc.2⟩ (fun z M2 H locs hz hP hS => ?_)
      refine lv_istore (lv' := [(6, .int (zI z)), (5, .int (zI 0)), (4, .int (zI i)), (3, .ref (E.2.2 102)), (2, .ref (E.2.2 11)), (1, .ref (E.2.2 10)), (0, .ref bs)]) hx hb dL_law_856 hl (by decide) rfl (fun ls hl => ?_)
      try simp only [q13, q15, q16, q4] at hz
      have ht0 : M2 11 0 = 0 := by omega
      refine lv_aload_n hx hb dL_law_858 rfl (lv_at hl 4 rfl) ?_
      refine k_callV (As := []) (rest := []) S hK hP (c_X3_thrown l E M2) (cwV 0 S.2.2.2.2 gL_law_X3_thrown rfl rfl rfl (by decide +kernel) ⟨Nat.le_of_ble_eq_true rfl, Nat.le_of_ble_eq_true rfl⟩) (k_rY hK hP rfl) rfl hl.1 rfl (Nat.le_of_ble_eq_true rfl) dL_law_859 ⟨hc.1, hc.2⟩ (fun t ht => ?_)
      refine lv_iload hx hb dL_law_862 (lv_at hl 1 rfl) ?_
      refine k_eq (tgt := 869) hx hb dL_law_864 (by decide) (by omega) (fun _ => ?_) (fun q => absurd (ht.trans ht0) q)
      refine lv_iload hx hb dL_law_869 (lv_at hl 1 rfl) ?_
      refine k_ne0 (tgt := 886) hx hb dL_law_871 (by decide) (by omega) (fun q => absurd rfl q) (fun _ => ?_)
      have q := hz.2.1.resolve_right (fun q => by omega)
      have hvz : v = z := kIsRep_one hv.1 q.2.2.2.2.2
      have h102 : M2 102 0 = z := by rw [hz.1 102 0 (by omega) (by omega), eM1, kU_same]; exact hvz
      refine lv_aload_n hx hb dL_law_874 rfl (lv_at hl 3 rfl) ?_
      refine k_push hx hb dL_law_875 ?_
      refine k_lald S hK hP dL_law_876 ?_
      refine lv_iload hx hb dL_law_877 (lv_at hl 0 rfl) ?_
      refine k_i2l hx hb dL_law_879 (by omega) ?_
      rw [h102]
      refine k_lcmpE hx hb dL_law_880 ?_
      refine k_eq0 (tgt := 886) hx hb dL_law_881 (by decide) (by omega) (fun _ => ?_) (fun q => absurd rfl q)
      refine lv_goto (tgt := 1416) hx hb dL_law_886 (by decide) ?_
      exact next _ _ _ _ (kI_m hI1 hz.1) hP hS (lv_sub hl [2, 3, 4, 5, 6] rfl)
  · have hb2 : h < 0 ∨ 2 ≤ h := by omega
    refine lv_aload_n hx hb dL_law_821 rfl (lv_at hl 3 rfl) ?_
    refine lv_aload_n hx hb dL_law_822 rfl (lv_at hl 4 rfl) ?_
    refine lv_iload hx hb dL_law_823 (lv_at hl 0 rfl) ?_
    refine k_push hx hb dL_law_825 ?_
    refine k_add hx hb dL_law_826 ?_
    refine k_sld S hScr hbl hbA hS (by omega) e1 dL_law_827 ?_
    refine lv_aload_n hx hb dL_law_828 rfl (lv_at hl 4 rfl) ?_
    refine lv_iload hx hb dL_law_829 (lv_at hl 0 rfl) ?_
    refine k_push hx hb dL_law_831 ?_
    refine k_add hx hb dL_law_832 ?_
    refine k_sld S hScr hbl hbA hS (by omega) e2 dL_law_833 ?_
    refine lv_aload_n hx hb dL_law_834 rfl (lv_at hl 1 rfl) ?_
    refine k_callHT (As := [.ref (E.2.2 10), .int (zI h), .int (zI w), .ref (E.2.2 102)]) (rest := []) S hK hX hZ hP hS (c_L_repeat_b1 l E hlst M h w (by omega) (by omega)) (vx_cwSW 4 S.2.2.2.2 gL_law_L_repeat rfl rfl rfl (by decide +kernel) ⟨Nat.le_of_ble_eq_true rfl, Nat.le_of_ble_eq_true rfl⟩) rfl hl.1 rfl (Nat.le_of_ble_eq_true rfl) dL_law_835 ⟨hc.1, hc.2⟩ (fun H locs hP hS => ?_)
    refine lv_istore (lv' := [(5, .int (zI 1)), (4, .int (zI i)), (3, .ref (E.2.2 102)), (2, .ref (E.2.2 11)), (1, .ref (E.2.2 10)), (0, .ref bs)]) hx hb dL_law_838 hl (by decide) rfl (fun ls hl => ?_)
    have q4 : M 11 4 = M 2 1 := hI.2.2.2.1
    refine lv_aload_n hx hb dL_law_840 rfl (lv_at hl 3 rfl) ?_
    refine lv_aload_n hx hb dL_law_841 rfl (lv_at hl 5 rfl) ?_
    refine lv_iload hx hb dL_law_842 (lv_at hl 1 rfl) ?_
    refine k_push hx hb dL_law_844 ?_
    refine k_add hx hb dL_law_845 ?_
    refine k_sld S hScr hbl hbA hS (by omega) e1 dL_law_846 ?_
    refine lv_aload_n hx hb dL_law_847 rfl (lv_at hl 5 rfl) ?_
    refine lv_iload hx hb dL_law_848 (lv_at hl 1 rfl) ?_
    refine k_push hx hb dL_law_850 ?_
    refine k_add hx hb dL_law_851 ?_
    refine k_sld S hScr hbl hbA hS (by omega) e2 dL_law_852 ?_
    refine k_callVW (As := [.int (zI h), .int (zI w)]) (rest := []) S hK hP hS (c_X3_repeat l E hE M h w (kI_wm hI) (by omega)) (cwV 2 S.2.2.2.2 gL_law_X3_repeat rfl rfl rfl (by decide +kernel) ⟨Nat.le_of_ble_eq_true rfl, Nat.le_of_ble_eq_true rfl⟩) (k_rY hK hP rfl) rfl hl.1 rfl (Nat.le_of_ble_eq_true rfl) dL_law_853 ⟨hc.1, hc.2⟩ (fun z M2 H locs hz hP hS => ?_)
    refine lv_istore (lv' := [(6, .int (zI z)), (5, .int (zI 1)), (4, .int (zI i)), (3, .ref (E.2.2 102)), (2, .ref (E.2.2 11)), (1, .ref (E.2.2 10)), (0, .ref bs)]) hx hb dL_law_856 hl (by decide) rfl (fun ls hl => ?_)
    try simp only [q4] at hz
    have ht0 : M2 11 0 = 1 := by omega
    refine lv_aload_n hx hb dL_law_858 rfl (lv_at hl 4 rfl) ?_
    refine k_callV (As := []) (rest := []) S hK hP (c_X3_thrown l E M2) (cwV 0 S.2.2.2.2 gL_law_X3_thrown rfl rfl rfl (by decide +kernel) ⟨Nat.le_of_ble_eq_true rfl, Nat.le_of_ble_eq_true rfl⟩) (k_rY hK hP rfl) rfl hl.1 rfl (Nat.le_of_ble_eq_true rfl) dL_law_859 ⟨hc.1, hc.2⟩ (fun t ht => ?_)
    refine lv_iload hx hb dL_law_862 (lv_at hl 1 rfl) ?_
    refine k_eq (tgt := 869) hx hb dL_law_864 (by decide) (by omega) (fun _ => ?_) (fun q => absurd (ht.trans ht0) q)
    refine lv_iload hx hb dL_law_869 (lv_at hl 1 rfl) ?_
    refine k_ne0 (tgt := 886) hx hb dL_law_871 (by decide) (by omega) (fun _ => ?_) (fun q => absurd q (by decide))
    refine lv_goto (tgt := 1416) hx hb dL_law_886 (by decide) ?_
    exact next _ _ _ _ (kI_m hI hz.1) hP hS (lv_sub hl [2, 3, 4, 5, 6] rfl)
set_option maxHeartbeats 4000000 in
set_option maxRecDepth 100000 in
theorem lw_c_row {pg : Program} {l : Launch} {en : Env} {s0 : State} {mi : MethodId} {ar : Array Value} {bl : List Frame} {me : Method} {co : Code} {H H0 : Heap} {locs : List Loc} {cells slots : Nat} {Q : State → Prop} {ls : Array Slot} {E : kE} {M : kM} {bs L : Nat} {xs : Nat → Int32} {i : Int} (hlst : l.stackTraces = false) (S : CallFix pg mi co cL_law 9 s0 ar wsL_law RL) (hE : kInj E) (hK : kK E s0) (hX : kXs s0) (hZ : kZ (kA E H0.size) s0 H0) (hScr : va_X bs L xs s0 H0) (hbl : bs < H0.size) (hbA : ¬ kA E H0.size bs) (hL : L ≤ 2048) (hI : kI M) (hP : va_P E.1 vwCl (kW E M) H) (hS : va_S (kA E H0.size) H0 H locs) (hi : 0 ≤ i ∧ i + 3 < (L : Int)) (hc : cells + 1 ≤ 601024 ∧ slots + 6 ≤ 7293034) (hl : lv_has ls 9 [(4, .int (zI i)), (3, .ref (E.2.2 102)), (2, .ref (E.2.2 11)), (1, .ref (E.2.2 10)), (0, .ref bs)])
    (next : ∀ (M1 : kM) (H1 : Heap) (locs1 : List Loc) (ls1 : Array Slot), kI M1 → va_P E.1 vwCl (kW E M1) H1 → va_S (kA E H0.size) H0 H1 locs1 → lv_has ls1 9 [(4, .int (zI i)), (3, .ref (E.2.2 102)), (2, .ref (E.2.2 11)), (1, .ref (E.2.2 10)), (0, .ref bs)] → W pg l en room_1 s0 mi ar bl me co H1 locs1 (cells + 1) (slots + 6) Q (F0 mi 1416 ls1 []))
    {h : Int} (e1 : kSc xs (i + 1) = h) {num : Int} (e2 : kSc xs (i + 2) = num) : W pg l en room_1 s0 mi ar bl me co H locs cells slots Q (F0 mi 889 ls []) := by
  have hx := S.1
  have hb := S.2.1
  have r1 : -2147483648 ≤ h ∧ h ≤ 2147483647 := by rw [← e1]; exact kSc_rng _ _
  have r2 : -2147483648 ≤ num ∧ num ≤ 2147483647 := by rw [← e2]; exact kSc_rng _ _
  have hO2 := kI_O hI
  have hW := hI.1
  have hm12 := hI.2.2.2.2
  obtain ⟨hs0, hs1, hsv⟩ := hW 2 (by omega)
  by_cases hh : 0 ≤ h ∧ h < 2
  · obtain ⟨hn0, hn1, hv0⟩ := hW h (by omega)
    have hcs : (num < 0 ∨ kTot (M (h + 3)) (M h 1) ≤ num) ∨ (0 ≤ num ∧ num < kTot (M (h + 3)) (M h 1)) := by omega
    rcases hcs with hk | hk
    · skip
      refine lv_aload_n hx hb dL_law_889 rfl (lv_at hl 3 rfl) ?_
      refine lv_aload_n hx hb dL_law_890 rfl (lv_at hl 4 rfl) ?_
      refine lv_iload hx hb dL_law_891 (lv_at hl 0 rfl) ?_
      refine k_push hx hb dL_law_893 ?_
      refine k_add hx hb dL_law_894 ?_
      refine k_sld S hScr hbl hbA hS (by omega) e1 dL_law_895 ?_
      refine lv_aload_n hx hb dL_law_896 rfl (lv_at hl 4 rfl) ?_
      refine lv_iload hx hb dL_law_897 (lv_at hl 0 rfl) ?_
      refine k_push hx hb dL_law_899 ?_
      refine k_add hx hb dL_law_900 ?_
      refine k_sld S hScr hbl hbA hS (by omega) e2 dL_law_901 ?_
      refine lv_aload_n hx hb dL_law_902 rfl (lv_at hl 1 rfl) ?_
      refine k_callHT (As := [.ref (E.2.2 10), .int (zI h), .int (zI num), .ref (E.2.2 102)]) (rest := []) S hK hX hZ hP hS (c_L_row_b2 l E hlst M h num (by omega) hW hO2 (by omega) (by omega)) (vx_cwSW 4 S.2.2.2.2 gL_law_L_row rfl rfl rfl (by decide +kernel) ⟨Nat.le_of_ble_eq_true rfl, Nat.le_of_ble_eq_true rfl⟩) rfl hl.1 rfl (Nat.le_of_ble_eq_true rfl) dL_law_903 ⟨hc.1, hc.2⟩ (fun H locs hP hS => ?_)
      refine lv_istore (lv' := [(5, .int (zI 1)), (4, .int (zI i)), (3, .ref (E.2.2 102)), (2, .ref (E.2.2 11)), (1, .ref (E.2.2 10)), (0, .ref bs)]) hx hb dL_law_906 hl (by decide) rfl (fun ls hl => ?_)
      have q13 : M (13 + h) = M (h + 3) := kI_13 hI hh
      have q15 : M 15 h = M h 1 := kI_15 hI hh
      have q4 : M 11 4 = M 2 1 := hI.2.2.2.1
      refine lv_aload_n hx hb dL_law_908 rfl (lv_at hl 3 rfl) ?_
      refine lv_aload_n hx hb dL_law_909 rfl (lv_at hl 5 rfl) ?_
      refine lv_iload hx hb dL_law_910 (lv_at hl 1 rfl) ?_
      refine k_push hx hb dL_law_912 ?_
      refine k_add hx hb dL_law_913 ?_
      refine k_sld S hScr hbl hbA hS (by omega) e1 dL_law_914 ?_
      refine lv_aload_n hx hb dL_law_915 rfl (lv_at hl 5 rfl) ?_
      refine lv_iload hx hb dL_law_916 (lv_at hl 1 rfl) ?_
      refine k_push hx hb dL_law_918 ?_
      refine k_add hx hb dL_law_919 ?_
      refine k_sld S hScr hbl hbA hS (by omega) e2 dL_law_920 ?_
      refine k_callVW (As := [.int (zI h), .int (zI num)]) (rest := []) S hK hP hS (c_X3_row l E hE M h num (kI_wm hI) (by omega)) (cwV 2 S.2.2.2.2 gL_law_X3_row rfl rfl rfl (by decide +kernel) ⟨Nat.le_of_ble_eq_true rfl, Nat.le_of_ble_eq_true rfl⟩) (k_rY hK hP rfl) rfl hl.1 rfl (Nat.le_of_ble_eq_true rfl) dL_law_921 ⟨hc.1, hc.2⟩ (fun z M2 H locs hz hP hS => ?_)
      refine lv_istore (lv' := [(6, .int (zI z)), (5, .int (zI 1)), (4, .int (zI i)), (3, .ref (E.2.2 102)), (2, .ref (E.2.2 11)), (1, .ref (E.2.2 10)), (0, .ref bs)]) hx hb dL_law_924 hl (by decide) rfl (fun ls hl => ?_)
      try simp only [q13, q15, q4] at hz
      have ht0 : M2 11 0 = 1 := by omega
      refine lv_aload_n hx hb dL_law_926 rfl (lv_at hl 4 rfl) ?_
      refine k_callV (As := []) (rest := []) S hK hP (c_X3_thrown l E M2) (cwV 0 S.2.2.2.2 gL_law_X3_thrown rfl rfl rfl (by decide +kernel) ⟨Nat.le_of_ble_eq_true rfl, Nat.le_of_ble_eq_true rfl⟩) (k_rY hK hP rfl) rfl hl.1 rfl (Nat.le_of_ble_eq_true rfl) dL_law_927 ⟨hc.1, hc.2⟩ (fun t ht => ?_)
      refine lv_iload hx hb dL_law_930 (lv_at hl 1 rfl) ?_
      refine k_eq (tgt := 937) hx hb dL_law_932 (by decide) (by omega) (fun _ => ?_) (fun q => absurd (ht.trans ht0) q)
      refine lv_iload hx hb dL_law_937 (lv_at hl 1 rfl) ?_
      refine k_ne0 (tgt := 954) hx hb dL_law_939 (by decide) (by omega) (fun _ => ?_) (fun q => absurd q (by decide))
      refine lv_goto (tgt := 1416) hx hb dL_law_954 (by decide) ?_
      exact next _ _ _ _ (kI_m hI hz.1) hP hS (lv_sub hl [2, 3, 4, 5, 6] rfl)
    · skip
      refine lv_aload_n hx hb dL_law_889 rfl (lv_at hl 3 rfl) ?_
      refine lv_aload_n hx hb dL_law_890 rfl (lv_at hl 4 rfl) ?_
      refine lv_iload hx hb dL_law_891 (lv_at hl 0 rfl) ?_
      refine k_push hx hb dL_law_893 ?_
      refine k_add hx hb dL_law_894 ?_
      refine k_sld S hScr hbl hbA hS (by omega) e1 dL_law_895 ?_
      refine lv_aload_n hx hb dL_law_896 rfl (lv_at hl 4 rfl) ?_
      refine lv_iload hx hb dL_law_897 (lv_at hl 0 rfl) ?_
      refine k_push hx hb dL_law_899 ?_
      refine k_add hx hb dL_law_900 ?_
      refine k_sld S hScr hbl hbA hS (by omega) e2 dL_law_901 ?_
      refine lv_aload_n hx hb dL_law_902 rfl (lv_at hl 1 rfl) ?_
      refine k_callHW (As := [.ref (E.2.2 10), .int (zI h), .int (zI num), .ref (E.2.2 102)]) (rest := []) S hK hP hS (c_L_row l E hE M h num (by omega) hW hO2 (by omega)) (vx_cwSW 4 S.2.2.2.2 gL_law_L_row rfl rfl rfl (by decide +kernel) ⟨Nat.le_of_ble_eq_true rfl, Nat.le_of_ble_eq_true rfl⟩) rfl hl.1 rfl (Nat.le_of_ble_eq_true rfl) dL_law_903 ⟨Nat.le_trans (Nat.le_add_right cells 1) hc.1, Nat.le_trans (Nat.le_add_right slots 6) hc.2⟩ (fun z1 M1 H locs hLk hP hS => ?_)
      obtain ⟨rfl, v, hv, eM1⟩ := hLk
      refine W.widen (k := cells + 1) (n := slots + 6) (by omega) (by omega) ?_
      refine lv_istore (lv' := [(5, .int (zI 0)), (4, .int (zI i)), (3, .ref (E.2.2 102)), (2, .ref (E.2.2 11)), (1, .ref (E.2.2 10)), (0, .ref bs)]) hx hb dL_law_906 hl (by decide) rfl (fun ls hl => ?_)
      have hI1 : kI M1 := by rw [eM1]; exact kI_102 hI
      have q13 : M1 (13 + h) = M (h + 3) := (kI_13 hI1 hh).trans (funext (fun k => by rw [eM1, kU_at, if_neg (by omega)]))
      have q15 : M1 15 h = M h 1 := (kI_15 hI1 hh).trans (by rw [eM1, kU_at, if_neg (by omega)])
      have q16 : M1 16 = M 5 := (kI_16 hI1).trans (funext (fun k => by rw [eM1, kU_at, if_neg (by omega)]))
      have q4 : M1 11 4 = M 2 1 := hI1.2.2.2.1.trans (by rw [eM1, kU_at, if_neg (by omega)])
      refine lv_aload_n hx hb dL_law_908 rfl (lv_at hl 3 rfl) ?_
      refine lv_aload_n hx hb dL_law_909 rfl (lv_at hl 5 rfl) ?_
      refine lv_iload hx hb dL_law_910 (lv_at hl 1 rfl) ?_
      refine k_push hx hb dL_law_912 ?_
      refine k_add hx hb dL_law_913 ?_
      refine k_sld S hScr hbl hbA hS (by omega) e1 dL_law_914 ?_
      refine lv_aload_n hx hb dL_law_915 rfl (lv_at hl 5 rfl) ?_
      refine lv_iload hx hb dL_law_916 (lv_at hl 1 rfl) ?_
      refine k_push hx hb dL_law_918 ?_
      refine k_add hx hb dL_law_919 ?_
      refine k_sld S hScr hbl hbA hS (by omega) e2 dL_law_920 ?_
      refine k_callVW (As := [.int (zI h), .int (zI num)]) (rest := []) S hK hP hS (c_X3_row l E hE M1 h num (kI_wm hI1) (by omega)) (cwV 2 S.2.2.2.2 gL_law_X3_row rfl rfl rfl (by decide +kernel) ⟨Nat.le_of_ble_eq_true rfl, Nat.le_of_ble_eq_true rfl⟩) (k_rY hK hP rfl) rfl hl.1 rfl (Nat.le_of_ble_eq_true rfl) dL_law_921 ⟨hc.1, hc.2⟩ (fun z M2 H locs hz hP hS => ?_)
      refine lv_istore (lv' := [(6, .int (zI z)), (5, .int (zI 0)), (4, .int (zI i)), (3, .ref (E.2.2 102)), (2, .ref (E.2.2 11)), (1, .ref (E.2.2 10)), (0, .ref bs)]) hx hb dL_law_924 hl (by decide) rfl (fun ls hl => ?_)
      try simp only [q13, q15, q16, q4] at hz
      have ht0 : M2 11 0 = 0 := by omega
      refine lv_aload_n hx hb dL_law_926 rfl (lv_at hl 4 rfl) ?_
      refine k_callV (As := []) (rest := []) S hK hP (c_X3_thrown l E M2) (cwV 0 S.2.2.2.2 gL_law_X3_thrown rfl rfl rfl (by decide +kernel) ⟨Nat.le_of_ble_eq_true rfl, Nat.le_of_ble_eq_true rfl⟩) (k_rY hK hP rfl) rfl hl.1 rfl (Nat.le_of_ble_eq_true rfl) dL_law_927 ⟨hc.1, hc.2⟩ (fun t ht => ?_)
      refine lv_iload hx hb dL_law_930 (lv_at hl 1 rfl) ?_
      refine k_eq (tgt := 937) hx hb dL_law_932 (by decide) (by omega) (fun _ => ?_) (fun q => absurd (ht.trans ht0) q)
      refine lv_iload hx hb dL_law_937 (lv_at hl 1 rfl) ?_
      refine k_ne0 (tgt := 954) hx hb dL_law_939 (by decide) (by omega) (fun q => absurd rfl q) (fun _ => ?_)
      have q := hz.2.1.resolve_right (fun q => by omega)
      have hvz : v = z := kIsRow_one hv.1 q.2.2.2.2.2
      have h102 : M2 102 0 = z := by rw [hz.1 102 0 (by omega) (by omega), eM1, kU_same]; exact hvz
      refine lv_aload_n hx hb dL_law_942 rfl (lv_at hl 3 rfl) ?_
      refine k_push hx hb dL_law_943 ?_
      refine k_lald S hK hP dL_law_944 ?_
      refine lv_iload hx hb dL_law_945 (lv_at hl 0 rfl) ?_
      refine k_i2l hx hb dL_law_947 (by omega) ?_
      rw [h102]
      refine k_lcmpE hx hb dL_law_948 ?_
      refine k_eq0 (tgt := 954) hx hb dL_law_949 (by decide) (by omega) (fun _ => ?_) (fun q => absurd rfl q)
      refine lv_goto (tgt := 1416) hx hb dL_law_954 (by decide) ?_
      exact next _ _ _ _ (kI_m hI1 hz.1) hP hS (lv_sub hl [2, 3, 4, 5, 6] rfl)
  · have hb2 : h < 0 ∨ 2 ≤ h := by omega
    refine lv_aload_n hx hb dL_law_889 rfl (lv_at hl 3 rfl) ?_
    refine lv_aload_n hx hb dL_law_890 rfl (lv_at hl 4 rfl) ?_
    refine lv_iload hx hb dL_law_891 (lv_at hl 0 rfl) ?_
    refine k_push hx hb dL_law_893 ?_
    refine k_add hx hb dL_law_894 ?_
    refine k_sld S hScr hbl hbA hS (by omega) e1 dL_law_895 ?_
    refine lv_aload_n hx hb dL_law_896 rfl (lv_at hl 4 rfl) ?_
    refine lv_iload hx hb dL_law_897 (lv_at hl 0 rfl) ?_
    refine k_push hx hb dL_law_899 ?_
    refine k_add hx hb dL_law_900 ?_
    refine k_sld S hScr hbl hbA hS (by omega) e2 dL_law_901 ?_
    refine lv_aload_n hx hb dL_law_902 rfl (lv_at hl 1 rfl) ?_
    refine k_callHT (As := [.ref (E.2.2 10), .int (zI h), .int (zI num), .ref (E.2.2 102)]) (rest := []) S hK hX hZ hP hS (c_L_row_b1 l E hlst M h num (by omega) (by omega)) (vx_cwSW 4 S.2.2.2.2 gL_law_L_row rfl rfl rfl (by decide +kernel) ⟨Nat.le_of_ble_eq_true rfl, Nat.le_of_ble_eq_true rfl⟩) rfl hl.1 rfl (Nat.le_of_ble_eq_true rfl) dL_law_903 ⟨hc.1, hc.2⟩ (fun H locs hP hS => ?_)
    refine lv_istore (lv' := [(5, .int (zI 1)), (4, .int (zI i)), (3, .ref (E.2.2 102)), (2, .ref (E.2.2 11)), (1, .ref (E.2.2 10)), (0, .ref bs)]) hx hb dL_law_906 hl (by decide) rfl (fun ls hl => ?_)
    have q4 : M 11 4 = M 2 1 := hI.2.2.2.1
    refine lv_aload_n hx hb dL_law_908 rfl (lv_at hl 3 rfl) ?_
    refine lv_aload_n hx hb dL_law_909 rfl (lv_at hl 5 rfl) ?_
    refine lv_iload hx hb dL_law_910 (lv_at hl 1 rfl) ?_
    refine k_push hx hb dL_law_912 ?_
    refine k_add hx hb dL_law_913 ?_
    refine k_sld S hScr hbl hbA hS (by omega) e1 dL_law_914 ?_
    refine lv_aload_n hx hb dL_law_915 rfl (lv_at hl 5 rfl) ?_
    refine lv_iload hx hb dL_law_916 (lv_at hl 1 rfl) ?_
    refine k_push hx hb dL_law_918 ?_
    refine k_add hx hb dL_law_919 ?_
    refine k_sld S hScr hbl hbA hS (by omega) e2 dL_law_920 ?_
    refine k_callVW (As := [.int (zI h), .int (zI num)]) (rest := []) S hK hP hS (c_X3_row l E hE M h num (kI_wm hI) (by omega)) (cwV 2 S.2.2.2.2 gL_law_X3_row rfl rfl rfl (by decide +kernel) ⟨Nat.le_of_ble_eq_true rfl, Nat.le_of_ble_eq_true rfl⟩) (k_rY hK hP rfl) rfl hl.1 rfl (Nat.le_of_ble_eq_true rfl) dL_law_921 ⟨hc.1, hc.2⟩ (fun z M2 H locs hz hP hS => ?_)
    refine lv_istore (lv' := [(6, .int (zI z)), (5, .int (zI 1)), (4, .int (zI i)), (3, .ref (E.2.2 102)), (2, .ref (E.2.2 11)), (1, .ref (E.2.2 10)), (0, .ref bs)]) hx hb dL_law_924 hl (by decide) rfl (fun ls hl => ?_)
    try simp only [q4] at hz
    have ht0 : M2 11 0 = 1 := by omega
    refine lv_aload_n hx hb dL_law_926 rfl (lv_at hl 4 rfl) ?_
    refine k_callV (As := []) (rest := []) S hK hP (c_X3_thrown l E M2) (cwV 0 S.2.2.2.2 gL_law_X3_thrown rfl rfl rfl (by decide +kernel) ⟨Nat.le_of_ble_eq_true rfl, Nat.le_of_ble_eq_true rfl⟩) (k_rY hK hP rfl) rfl hl.1 rfl (Nat.le_of_ble_eq_true rfl) dL_law_927 ⟨hc.1, hc.2⟩ (fun t ht => ?_)
    refine lv_iload hx hb dL_law_930 (lv_at hl 1 rfl) ?_
    refine k_eq (tgt := 937) hx hb dL_law_932 (by decide) (by omega) (fun _ => ?_) (fun q => absurd (ht.trans ht0) q)
    refine lv_iload hx hb dL_law_937 (lv_at hl 1 rfl) ?_
    refine k_ne0 (tgt := 954) hx hb dL_law_939 (by decide) (by omega) (fun _ => ?_) (fun q => absurd q (by decide))
    refine lv_goto (tgt := 1416) hx hb dL_law_954 (by decide) ?_
    exact next _ _ _ _ (kI_m hI hz.1) hP hS (lv_sub hl [2, 3, 4, 5, 6] rfl)
set_option maxHeartbeats 4000000 in
set_option maxRecDepth 100000 in
theorem lw_c_found {pg : Program} {l : Launch} {en : Env} {s0 : State} {mi : MethodId} {ar : Array Value} {bl : List Frame} {me : Method} {co : Code} {H H0 : Heap} {locs : List Loc} {cells slots : Nat} {Q : State → Prop} {ls : Array Slot} {E : kE} {M : kM} {bs L : Nat} {xs : Nat → Int32} {i : Int} (hlst : l.stackTraces = false) (S : CallFix pg mi co cL_law 9 s0 ar wsL_law RL) (hE : kInj E) (hK : kK E s0) (hX : kXs s0) (hZ : kZ (kA E H0.size) s0 H0) (hScr : va_X bs L xs s0 H0) (hbl : bs < H0.size) (hbA : ¬ kA E H0.size bs) (hL : L ≤ 2048) (hI : kI M) (hP : va_P E.1 vwCl (kW E M) H) (hS : va_S (kA E H0.size) H0 H locs) (hi : 0 ≤ i ∧ i + 3 < (L : Int)) (hc : cells + 1 ≤ 601024 ∧ slots + 6 ≤ 7293034) (hl : lv_has ls 9 [(4, .int (zI i)), (3, .ref (E.2.2 102)), (2, .ref (E.2.2 11)), (1, .ref (E.2.2 10)), (0, .ref bs)])
    (next : ∀ (M1 : kM) (H1 : Heap) (locs1 : List Loc) (ls1 : Array Slot), kI M1 → va_P E.1 vwCl (kW E M1) H1 → va_S (kA E H0.size) H0 H1 locs1 → lv_has ls1 9 [(4, .int (zI i)), (3, .ref (E.2.2 102)), (2, .ref (E.2.2 11)), (1, .ref (E.2.2 10)), (0, .ref bs)] → W pg l en room_1 s0 mi ar bl me co H1 locs1 (cells + 1) (slots + 6) Q (F0 mi 1416 ls1 []))
    {h : Int} (e1 : kSc xs (i + 1) = h) : W pg l en room_1 s0 mi ar bl me co H locs cells slots Q (F0 mi 957 ls []) := by
  have hx := S.1
  have hb := S.2.1
  have r1 : -2147483648 ≤ h ∧ h ≤ 2147483647 := by rw [← e1]; exact kSc_rng _ _
  have hO2 := kI_O hI
  have hW := hI.1
  have hm12 := hI.2.2.2.2
  obtain ⟨hs0, hs1, hsv⟩ := hW 2 (by omega)
  by_cases hh : 0 ≤ h ∧ h < 2
  · obtain ⟨hn0, hn1, hv0⟩ := hW h (by omega)
    refine lv_aload_n hx hb dL_law_957 rfl (lv_at hl 3 rfl) ?_
    refine lv_aload_n hx hb dL_law_958 rfl (lv_at hl 4 rfl) ?_
    refine lv_iload hx hb dL_law_959 (lv_at hl 0 rfl) ?_
    refine k_push hx hb dL_law_961 ?_
    refine k_add hx hb dL_law_962 ?_
    refine k_sld S hScr hbl hbA hS (by omega) e1 dL_law_963 ?_
    refine lv_aload_n hx hb dL_law_964 rfl (lv_at hl 1 rfl) ?_
    refine k_callHW (As := [.ref (E.2.2 10), .int (zI h), .ref (E.2.2 102)]) (rest := []) S hK hP hS (c_L_found l E hE M h (by omega) hW) (vx_cwSW 3 S.2.2.2.2 gL_law_L_found rfl rfl rfl (by decide +kernel) ⟨Nat.le_of_ble_eq_true rfl, Nat.le_of_ble_eq_true rfl⟩) rfl hl.1 rfl (Nat.le_of_ble_eq_true rfl) dL_law_965 ⟨Nat.le_trans (Nat.le_add_right cells 1) hc.1, Nat.le_trans (Nat.le_add_right slots 6) hc.2⟩ (fun z1 M1 H locs hLk hP hS => ?_)
    obtain ⟨rfl, v, hv, eM1⟩ := hLk
    refine W.widen (k := cells + 1) (n := slots + 6) (by omega) (by omega) ?_
    refine lv_istore (lv' := [(5, .int (zI 0)), (4, .int (zI i)), (3, .ref (E.2.2 102)), (2, .ref (E.2.2 11)), (1, .ref (E.2.2 10)), (0, .ref bs)]) hx hb dL_law_968 hl (by decide) rfl (fun ls hl => ?_)
    have hI1 : kI M1 := by rw [eM1]; exact kI_102 hI
    have q13 : M1 (13 + h) = M (h + 3) := (kI_13 hI1 hh).trans (funext (fun k => by rw [eM1, kU_at, if_neg (by omega)]))
    have q15 : M1 15 h = M h 1 := (kI_15 hI1 hh).trans (by rw [eM1, kU_at, if_neg (by omega)])
    have q16 : M1 16 = M 5 := (kI_16 hI1).trans (funext (fun k => by rw [eM1, kU_at, if_neg (by omega)]))
    have q4 : M1 11 4 = M 2 1 := hI1.2.2.2.1.trans (by rw [eM1, kU_at, if_neg (by omega)])
    refine lv_aload_n hx hb dL_law_970 rfl (lv_at hl 3 rfl) ?_
    refine lv_aload_n hx hb dL_law_971 rfl (lv_at hl 5 rfl) ?_
    refine lv_iload hx hb dL_law_972 (lv_at hl 1 rfl) ?_
    refine k_push hx hb dL_law_974 ?_
    refine k_add hx hb dL_law_975 ?_
    refine k_sld S hScr hbl hbA hS (by omega) e1 dL_law_976 ?_
    refine k_callVW (As := [.int (zI h)]) (rest := []) S hK hP hS (c_X3_found l E hE M1 h (kI_wm hI1) (by omega)) (cwV 1 S.2.2.2.2 gL_law_X3_found rfl rfl rfl (by decide +kernel) ⟨Nat.le_of_ble_eq_true rfl, Nat.le_of_ble_eq_true rfl⟩) (k_rY hK hP rfl) rfl hl.1 rfl (Nat.le_of_ble_eq_true rfl) dL_law_977 ⟨hc.1, hc.2⟩ (fun z M2 H locs hz hP hS => ?_)
    refine lv_istore (lv' := [(6, .int (zI z)), (5, .int (zI 0)), (4, .int (zI i)), (3, .ref (E.2.2 102)), (2, .ref (E.2.2 11)), (1, .ref (E.2.2 10)), (0, .ref bs)]) hx hb dL_law_980 hl (by decide) rfl (fun ls hl => ?_)
    try simp only [q13, q15, q16, q4] at hz
    have ht0 : M2 11 0 = 0 := by omega
    refine lv_aload_n hx hb dL_law_982 rfl (lv_at hl 4 rfl) ?_
    refine k_callV (As := []) (rest := []) S hK hP (c_X3_thrown l E M2) (cwV 0 S.2.2.2.2 gL_law_X3_thrown rfl rfl rfl (by decide +kernel) ⟨Nat.le_of_ble_eq_true rfl, Nat.le_of_ble_eq_true rfl⟩) (k_rY hK hP rfl) rfl hl.1 rfl (Nat.le_of_ble_eq_true rfl) dL_law_983 ⟨hc.1, hc.2⟩ (fun t ht => ?_)
    refine lv_iload hx hb dL_law_986 (lv_at hl 1 rfl) ?_
    refine k_eq (tgt := 993) hx hb dL_law_988 (by decide) (by omega) (fun _ => ?_) (fun q => absurd (ht.trans ht0) q)
    refine lv_iload hx hb dL_law_993 (lv_at hl 1 rfl) ?_
    refine k_ne0 (tgt := 1010) hx hb dL_law_995 (by decide) (by omega) (fun q => absurd rfl q) (fun _ => ?_)
    have q := hz.2.1.resolve_right (fun q => by omega)
    have hvz : v = z := hv.1.trans q.2.2.2.symm
    have h102 : M2 102 0 = z := by rw [hz.1 102 0 (by omega) (by omega), eM1, kU_same]; exact hvz
    refine lv_aload_n hx hb dL_law_998 rfl (lv_at hl 3 rfl) ?_
    refine k_push hx hb dL_law_999 ?_
    refine k_lald S hK hP dL_law_1000 ?_
    refine lv_iload hx hb dL_law_1001 (lv_at hl 0 rfl) ?_
    refine k_i2l hx hb dL_law_1003 (by omega) ?_
    rw [h102]
    refine k_lcmpE hx hb dL_law_1004 ?_
    refine k_eq0 (tgt := 1010) hx hb dL_law_1005 (by decide) (by omega) (fun _ => ?_) (fun q => absurd rfl q)
    refine lv_goto (tgt := 1416) hx hb dL_law_1010 (by decide) ?_
    exact next _ _ _ _ (kI_m hI1 hz.1) hP hS (lv_sub hl [2, 3, 4, 5, 6] rfl)
  · have hb2 : h < 0 ∨ 2 ≤ h := by omega
    refine lv_aload_n hx hb dL_law_957 rfl (lv_at hl 3 rfl) ?_
    refine lv_aload_n hx hb dL_law_958 rfl (lv_at hl 4 rfl) ?_
    refine lv_iload hx hb dL_law_959 (lv_at hl 0 rfl) ?_
    refine k_push hx hb dL_law_961 ?_
    refine k_add hx hb dL_law_962 ?_
    refine k_sld S hScr hbl hbA hS (by omega) e1 dL_law_963 ?_
    refine lv_aload_n hx hb dL_law_964 rfl (lv_at hl 1 rfl) ?_
    refine k_callHT (As := [.ref (E.2.2 10), .int (zI h), .ref (E.2.2 102)]) (rest := []) S hK hX hZ hP hS (c_L_found_b1 l E hlst M h (by omega) (by omega)) (vx_cwSW 3 S.2.2.2.2 gL_law_L_found rfl rfl rfl (by decide +kernel) ⟨Nat.le_of_ble_eq_true rfl, Nat.le_of_ble_eq_true rfl⟩) rfl hl.1 rfl (Nat.le_of_ble_eq_true rfl) dL_law_965 ⟨hc.1, hc.2⟩ (fun H locs hP hS => ?_)
    refine lv_istore (lv' := [(5, .int (zI 1)), (4, .int (zI i)), (3, .ref (E.2.2 102)), (2, .ref (E.2.2 11)), (1, .ref (E.2.2 10)), (0, .ref bs)]) hx hb dL_law_968 hl (by decide) rfl (fun ls hl => ?_)
    have q4 : M 11 4 = M 2 1 := hI.2.2.2.1
    refine lv_aload_n hx hb dL_law_970 rfl (lv_at hl 3 rfl) ?_
    refine lv_aload_n hx hb dL_law_971 rfl (lv_at hl 5 rfl) ?_
    refine lv_iload hx hb dL_law_972 (lv_at hl 1 rfl) ?_
    refine k_push hx hb dL_law_974 ?_
    refine k_add hx hb dL_law_975 ?_
    refine k_sld S hScr hbl hbA hS (by omega) e1 dL_law_976 ?_
    refine k_callVW (As := [.int (zI h)]) (rest := []) S hK hP hS (c_X3_found l E hE M h (kI_wm hI) (by omega)) (cwV 1 S.2.2.2.2 gL_law_X3_found rfl rfl rfl (by decide +kernel) ⟨Nat.le_of_ble_eq_true rfl, Nat.le_of_ble_eq_true rfl⟩) (k_rY hK hP rfl) rfl hl.1 rfl (Nat.le_of_ble_eq_true rfl) dL_law_977 ⟨hc.1, hc.2⟩ (fun z M2 H locs hz hP hS => ?_)
    refine lv_istore (lv' := [(6, .int (zI z)), (5, .int (zI 1)), (4, .int (zI i)), (3, .ref (E.2.2 102)), (2, .ref (E.2.2 11)), (1, .ref (E.2.2 10)), (0, .ref bs)]) hx hb dL_law_980 hl (by decide) rfl (fun ls hl => ?_)
    try simp only [q4] at hz
    have ht0 : M2 11 0 = 1 := by omega
    refine lv_aload_n hx hb dL_law_982 rfl (lv_at hl 4 rfl) ?_
    refine k_callV (As := []) (rest := []) S hK hP (c_X3_thrown l E M2) (cwV 0 S.2.2.2.2 gL_law_X3_thrown rfl rfl rfl (by decide +kernel) ⟨Nat.le_of_ble_eq_true rfl, Nat.le_of_ble_eq_true rfl⟩) (k_rY hK hP rfl) rfl hl.1 rfl (Nat.le_of_ble_eq_true rfl) dL_law_983 ⟨hc.1, hc.2⟩ (fun t ht => ?_)
    refine lv_iload hx hb dL_law_986 (lv_at hl 1 rfl) ?_
    refine k_eq (tgt := 993) hx hb dL_law_988 (by decide) (by omega) (fun _ => ?_) (fun q => absurd (ht.trans ht0) q)
    refine lv_iload hx hb dL_law_993 (lv_at hl 1 rfl) ?_
    refine k_ne0 (tgt := 1010) hx hb dL_law_995 (by decide) (by omega) (fun _ => ?_) (fun q => absurd q (by decide))
    refine lv_goto (tgt := 1416) hx hb dL_law_1010 (by decide) ?_
    exact next _ _ _ _ (kI_m hI hz.1) hP hS (lv_sub hl [2, 3, 4, 5, 6] rfl)
set_option maxHeartbeats 4000000 in
set_option maxRecDepth 100000 in
theorem lw_c_first {pg : Program} {l : Launch} {en : Env} {s0 : State} {mi : MethodId} {ar : Array Value} {bl : List Frame} {me : Method} {co : Code} {H H0 : Heap} {locs : List Loc} {cells slots : Nat} {Q : State → Prop} {ls : Array Slot} {E : kE} {M : kM} {bs L : Nat} {xs : Nat → Int32} {i : Int} (hlst : l.stackTraces = false) (S : CallFix pg mi co cL_law 9 s0 ar wsL_law RL) (hE : kInj E) (hK : kK E s0) (hX : kXs s0) (hZ : kZ (kA E H0.size) s0 H0) (hScr : va_X bs L xs s0 H0) (hbl : bs < H0.size) (hbA : ¬ kA E H0.size bs) (hL : L ≤ 2048) (hI : kI M) (hP : va_P E.1 vwCl (kW E M) H) (hS : va_S (kA E H0.size) H0 H locs) (hi : 0 ≤ i ∧ i + 3 < (L : Int)) (hc : cells + 1 ≤ 601024 ∧ slots + 6 ≤ 7293034) (hl : lv_has ls 9 [(4, .int (zI i)), (3, .ref (E.2.2 102)), (2, .ref (E.2.2 11)), (1, .ref (E.2.2 10)), (0, .ref bs)])
    (next : ∀ (M1 : kM) (H1 : Heap) (locs1 : List Loc) (ls1 : Array Slot), kI M1 → va_P E.1 vwCl (kW E M1) H1 → va_S (kA E H0.size) H0 H1 locs1 → lv_has ls1 9 [(4, .int (zI i)), (3, .ref (E.2.2 102)), (2, .ref (E.2.2 11)), (1, .ref (E.2.2 10)), (0, .ref bs)] → W pg l en room_1 s0 mi ar bl me co H1 locs1 (cells + 1) (slots + 6) Q (F0 mi 1416 ls1 []))
    {h : Int} (e1 : kSc xs (i + 1) = h) : W pg l en room_1 s0 mi ar bl me co H locs cells slots Q (F0 mi 1013 ls []) := by
  have hx := S.1
  have hb := S.2.1
  have r1 : -2147483648 ≤ h ∧ h ≤ 2147483647 := by rw [← e1]; exact kSc_rng _ _
  have hO2 := kI_O hI
  have hW := hI.1
  have hm12 := hI.2.2.2.2
  obtain ⟨hs0, hs1, hsv⟩ := hW 2 (by omega)
  by_cases hh : 0 ≤ h ∧ h < 2
  · obtain ⟨hn0, hn1, hv0⟩ := hW h (by omega)
    refine lv_aload_n hx hb dL_law_1013 rfl (lv_at hl 3 rfl) ?_
    refine lv_aload_n hx hb dL_law_1014 rfl (lv_at hl 4 rfl) ?_
    refine lv_iload hx hb dL_law_1015 (lv_at hl 0 rfl) ?_
    refine k_push hx hb dL_law_1017 ?_
    refine k_add hx hb dL_law_1018 ?_
    refine k_sld S hScr hbl hbA hS (by omega) e1 dL_law_1019 ?_
    refine lv_aload_n hx hb dL_law_1020 rfl (lv_at hl 1 rfl) ?_
    refine k_callHW (As := [.ref (E.2.2 10), .int (zI h), .ref (E.2.2 102)]) (rest := []) S hK hP hS (c_L_first l E hE M h (by omega) hW) (vx_cwSW 3 S.2.2.2.2 gL_law_L_first rfl rfl rfl (by decide +kernel) ⟨Nat.le_of_ble_eq_true rfl, Nat.le_of_ble_eq_true rfl⟩) rfl hl.1 rfl (Nat.le_of_ble_eq_true rfl) dL_law_1021 ⟨Nat.le_trans (Nat.le_add_right cells 1) hc.1, Nat.le_trans (Nat.le_add_right slots 6) hc.2⟩ (fun z1 M1 H locs hLk hP hS => ?_)
    obtain ⟨rfl, v, hv, eM1⟩ := hLk
    refine W.widen (k := cells + 1) (n := slots + 6) (by omega) (by omega) ?_
    refine lv_istore (lv' := [(5, .int (zI 0)), (4, .int (zI i)), (3, .ref (E.2.2 102)), (2, .ref (E.2.2 11)), (1, .ref (E.2.2 10)), (0, .ref bs)]) hx hb dL_law_1024 hl (by decide) rfl (fun ls hl => ?_)
    have hI1 : kI M1 := by rw [eM1]; exact kI_102 hI
    have q13 : M1 (13 + h) = M (h + 3) := (kI_13 hI1 hh).trans (funext (fun k => by rw [eM1, kU_at, if_neg (by omega)]))
    have q15 : M1 15 h = M h 1 := (kI_15 hI1 hh).trans (by rw [eM1, kU_at, if_neg (by omega)])
    have q16 : M1 16 = M 5 := (kI_16 hI1).trans (funext (fun k => by rw [eM1, kU_at, if_neg (by omega)]))
    have q4 : M1 11 4 = M 2 1 := hI1.2.2.2.1.trans (by rw [eM1, kU_at, if_neg (by omega)])
    refine lv_aload_n hx hb dL_law_1026 rfl (lv_at hl 3 rfl) ?_
    refine lv_aload_n hx hb dL_law_1027 rfl (lv_at hl 5 rfl) ?_
    refine lv_iload hx hb dL_law_1028 (lv_at hl 1 rfl) ?_
    refine k_push hx hb dL_law_1030 ?_
    refine k_add hx hb dL_law_1031 ?_
    refine k_sld S hScr hbl hbA hS (by omega) e1 dL_law_1032 ?_
    refine k_callVW (As := [.int (zI h)]) (rest := []) S hK hP hS (c_X3_first l E hE M1 h (kI_wm hI1) (by omega)) (cwV 1 S.2.2.2.2 gL_law_X3_first rfl rfl rfl (by decide +kernel) ⟨Nat.le_of_ble_eq_true rfl, Nat.le_of_ble_eq_true rfl⟩) (k_rY hK hP rfl) rfl hl.1 rfl (Nat.le_of_ble_eq_true rfl) dL_law_1033 ⟨hc.1, hc.2⟩ (fun z M2 H locs hz hP hS => ?_)
    refine lv_istore (lv' := [(6, .int (zI z)), (5, .int (zI 0)), (4, .int (zI i)), (3, .ref (E.2.2 102)), (2, .ref (E.2.2 11)), (1, .ref (E.2.2 10)), (0, .ref bs)]) hx hb dL_law_1036 hl (by decide) rfl (fun ls hl => ?_)
    try simp only [q13, q15, q16, q4] at hz
    have ht0 : M2 11 0 = 0 := by omega
    refine lv_aload_n hx hb dL_law_1038 rfl (lv_at hl 4 rfl) ?_
    refine k_callV (As := []) (rest := []) S hK hP (c_X3_thrown l E M2) (cwV 0 S.2.2.2.2 gL_law_X3_thrown rfl rfl rfl (by decide +kernel) ⟨Nat.le_of_ble_eq_true rfl, Nat.le_of_ble_eq_true rfl⟩) (k_rY hK hP rfl) rfl hl.1 rfl (Nat.le_of_ble_eq_true rfl) dL_law_1039 ⟨hc.1, hc.2⟩ (fun t ht => ?_)
    refine lv_iload hx hb dL_law_1042 (lv_at hl 1 rfl) ?_
    refine k_eq (tgt := 1049) hx hb dL_law_1044 (by decide) (by omega) (fun _ => ?_) (fun q => absurd (ht.trans ht0) q)
    refine lv_iload hx hb dL_law_1049 (lv_at hl 1 rfl) ?_
    refine k_ne0 (tgt := 1066) hx hb dL_law_1051 (by decide) (by omega) (fun q => absurd rfl q) (fun _ => ?_)
    have q := hz.2.1.resolve_right (fun q => by omega)
    have hvz : v = z := kIsFirst_one hv.1 q.2.2.2
    have h102 : M2 102 0 = z := by rw [hz.1 102 0 (by omega) (by omega), eM1, kU_same]; exact hvz
    refine lv_aload_n hx hb dL_law_1054 rfl (lv_at hl 3 rfl) ?_
    refine k_push hx hb dL_law_1055 ?_
    refine k_lald S hK hP dL_law_1056 ?_
    refine lv_iload hx hb dL_law_1057 (lv_at hl 0 rfl) ?_
    refine k_i2l hx hb dL_law_1059 (by omega) ?_
    rw [h102]
    refine k_lcmpE hx hb dL_law_1060 ?_
    refine k_eq0 (tgt := 1066) hx hb dL_law_1061 (by decide) (by omega) (fun _ => ?_) (fun q => absurd rfl q)
    refine lv_goto (tgt := 1416) hx hb dL_law_1066 (by decide) ?_
    exact next _ _ _ _ (kI_m hI1 hz.1) hP hS (lv_sub hl [2, 3, 4, 5, 6] rfl)
  · have hb2 : h < 0 ∨ 2 ≤ h := by omega
    refine lv_aload_n hx hb dL_law_1013 rfl (lv_at hl 3 rfl) ?_
    refine lv_aload_n hx hb dL_law_1014 rfl (lv_at hl 4 rfl) ?_
    refine lv_iload hx hb dL_law_1015 (lv_at hl 0 rfl) ?_
    refine k_push hx hb dL_law_1017 ?_
    refine k_add hx hb dL_law_1018 ?_
    refine k_sld S hScr hbl hbA hS (by omega) e1 dL_law_1019 ?_
    refine lv_aload_n hx hb dL_law_1020 rfl (lv_at hl 1 rfl) ?_
    refine k_callHT (As := [.ref (E.2.2 10), .int (zI h), .ref (E.2.2 102)]) (rest := []) S hK hX hZ hP hS (c_L_first_b1 l E hlst M h (by omega) (by omega)) (vx_cwSW 3 S.2.2.2.2 gL_law_L_first rfl rfl rfl (by decide +kernel) ⟨Nat.le_of_ble_eq_true rfl, Nat.le_of_ble_eq_true rfl⟩) rfl hl.1 rfl (Nat.le_of_ble_eq_true rfl) dL_law_1021 ⟨hc.1, hc.2⟩ (fun H locs hP hS => ?_)
    refine lv_istore (lv' := [(5, .int (zI 1)), (4, .int (zI i)), (3, .ref (E.2.2 102)), (2, .ref (E.2.2 11)), (1, .ref (E.2.2 10)), (0, .ref bs)]) hx hb dL_law_1024 hl (by decide) rfl (fun ls hl => ?_)
    have q4 : M 11 4 = M 2 1 := hI.2.2.2.1
    refine lv_aload_n hx hb dL_law_1026 rfl (lv_at hl 3 rfl) ?_
    refine lv_aload_n hx hb dL_law_1027 rfl (lv_at hl 5 rfl) ?_
    refine lv_iload hx hb dL_law_1028 (lv_at hl 1 rfl) ?_
    refine k_push hx hb dL_law_1030 ?_
    refine k_add hx hb dL_law_1031 ?_
    refine k_sld S hScr hbl hbA hS (by omega) e1 dL_law_1032 ?_
    refine k_callVW (As := [.int (zI h)]) (rest := []) S hK hP hS (c_X3_first l E hE M h (kI_wm hI) (by omega)) (cwV 1 S.2.2.2.2 gL_law_X3_first rfl rfl rfl (by decide +kernel) ⟨Nat.le_of_ble_eq_true rfl, Nat.le_of_ble_eq_true rfl⟩) (k_rY hK hP rfl) rfl hl.1 rfl (Nat.le_of_ble_eq_true rfl) dL_law_1033 ⟨hc.1, hc.2⟩ (fun z M2 H locs hz hP hS => ?_)
    refine lv_istore (lv' := [(6, .int (zI z)), (5, .int (zI 1)), (4, .int (zI i)), (3, .ref (E.2.2 102)), (2, .ref (E.2.2 11)), (1, .ref (E.2.2 10)), (0, .ref bs)]) hx hb dL_law_1036 hl (by decide) rfl (fun ls hl => ?_)
    try simp only [q4] at hz
    have ht0 : M2 11 0 = 1 := by omega
    refine lv_aload_n hx hb dL_law_1038 rfl (lv_at hl 4 rfl) ?_
    refine k_callV (As := []) (rest := []) S hK hP (c_X3_thrown l E M2) (cwV 0 S.2.2.2.2 gL_law_X3_thrown rfl rfl rfl (by decide +kernel) ⟨Nat.le_of_ble_eq_true rfl, Nat.le_of_ble_eq_true rfl⟩) (k_rY hK hP rfl) rfl hl.1 rfl (Nat.le_of_ble_eq_true rfl) dL_law_1039 ⟨hc.1, hc.2⟩ (fun t ht => ?_)
    refine lv_iload hx hb dL_law_1042 (lv_at hl 1 rfl) ?_
    refine k_eq (tgt := 1049) hx hb dL_law_1044 (by decide) (by omega) (fun _ => ?_) (fun q => absurd (ht.trans ht0) q)
    refine lv_iload hx hb dL_law_1049 (lv_at hl 1 rfl) ?_
    refine k_ne0 (tgt := 1066) hx hb dL_law_1051 (by decide) (by omega) (fun _ => ?_) (fun q => absurd q (by decide))
    refine lv_goto (tgt := 1416) hx hb dL_law_1066 (by decide) ?_
    exact next _ _ _ _ (kI_m hI hz.1) hP hS (lv_sub hl [2, 3, 4, 5, 6] rfl)
set_option maxHeartbeats 4000000 in
set_option maxRecDepth 100000 in
theorem lw_c_period {pg : Program} {l : Launch} {en : Env} {s0 : State} {mi : MethodId} {ar : Array Value} {bl : List Frame} {me : Method} {co : Code} {H H0 : Heap} {locs : List Loc} {cells slots : Nat} {Q : State → Prop} {ls : Array Slot} {E : kE} {M : kM} {bs L : Nat} {xs : Nat → Int32} {i : Int} (hlst : l.stackTraces = false) (S : CallFix pg mi co cL_law 9 s0 ar wsL_law RL) (hE : kInj E) (hK : kK E s0) (hX : kXs s0) (hZ : kZ (kA E H0.size) s0 H0) (hScr : va_X bs L xs s0 H0) (hbl : bs < H0.size) (hbA : ¬ kA E H0.size bs) (hL : L ≤ 2048) (hI : kI M) (hP : va_P E.1 vwCl (kW E M) H) (hS : va_S (kA E H0.size) H0 H locs) (hi : 0 ≤ i ∧ i + 3 < (L : Int)) (hc : cells + 1 ≤ 601024 ∧ slots + 6 ≤ 7293034) (hl : lv_has ls 9 [(4, .int (zI i)), (3, .ref (E.2.2 102)), (2, .ref (E.2.2 11)), (1, .ref (E.2.2 10)), (0, .ref bs)])
    (next : ∀ (M1 : kM) (H1 : Heap) (locs1 : List Loc) (ls1 : Array Slot), kI M1 → va_P E.1 vwCl (kW E M1) H1 → va_S (kA E H0.size) H0 H1 locs1 → lv_has ls1 9 [(4, .int (zI i)), (3, .ref (E.2.2 102)), (2, .ref (E.2.2 11)), (1, .ref (E.2.2 10)), (0, .ref bs)] → W pg l en room_1 s0 mi ar bl me co H1 locs1 (cells + 1) (slots + 6) Q (F0 mi 1416 ls1 []))
    {h : Int} (e1 : kSc xs (i + 1) = h) : W pg l en room_1 s0 mi ar bl me co H locs cells slots Q (F0 mi 1069 ls []) := by
  have hx := S.1
  have hb := S.2.1
  have r1 : -2147483648 ≤ h ∧ h ≤ 2147483647 := by rw [← e1]; exact kSc_rng _ _
  have hO2 := kI_O hI
  have hW := hI.1
  have hm12 := hI.2.2.2.2
  obtain ⟨hs0, hs1, hsv⟩ := hW 2 (by omega)
  by_cases hh : 0 ≤ h ∧ h < 2
  · obtain ⟨hn0, hn1, hv0⟩ := hW h (by omega)
    refine lv_aload_n hx hb dL_law_1069 rfl (lv_at hl 3 rfl) ?_
    refine lv_aload_n hx hb dL_law_1070 rfl (lv_at hl 4 rfl) ?_
    refine lv_iload hx hb dL_law_1071 (lv_at hl 0 rfl) ?_
    refine k_push hx hb dL_law_1073 ?_
    refine k_add hx hb dL_law_1074 ?_
    refine k_sld S hScr hbl hbA hS (by omega) e1 dL_law_1075 ?_
    refine lv_aload_n hx hb dL_law_1076 rfl (lv_at hl 1 rfl) ?_
    refine k_callHW (As := [.ref (E.2.2 10), .int (zI h), .ref (E.2.2 102)]) (rest := []) S hK hP hS (c_L_period l E hE M h (by omega) hW) (vx_cwSW 3 S.2.2.2.2 gL_law_L_period rfl rfl rfl (by decide +kernel) ⟨Nat.le_of_ble_eq_true rfl, Nat.le_of_ble_eq_true rfl⟩) rfl hl.1 rfl (Nat.le_of_ble_eq_true rfl) dL_law_1077 ⟨Nat.le_trans (Nat.le_add_right cells 1) hc.1, Nat.le_trans (Nat.le_add_right slots 6) hc.2⟩ (fun z1 M1 H locs hLk hP hS => ?_)
    obtain ⟨rfl, v, hv, eM1⟩ := hLk
    refine W.widen (k := cells + 1) (n := slots + 6) (by omega) (by omega) ?_
    refine lv_istore (lv' := [(5, .int (zI 0)), (4, .int (zI i)), (3, .ref (E.2.2 102)), (2, .ref (E.2.2 11)), (1, .ref (E.2.2 10)), (0, .ref bs)]) hx hb dL_law_1080 hl (by decide) rfl (fun ls hl => ?_)
    have hI1 : kI M1 := by rw [eM1]; exact kI_102 hI
    have q13 : M1 (13 + h) = M (h + 3) := (kI_13 hI1 hh).trans (funext (fun k => by rw [eM1, kU_at, if_neg (by omega)]))
    have q15 : M1 15 h = M h 1 := (kI_15 hI1 hh).trans (by rw [eM1, kU_at, if_neg (by omega)])
    have q16 : M1 16 = M 5 := (kI_16 hI1).trans (funext (fun k => by rw [eM1, kU_at, if_neg (by omega)]))
    have q4 : M1 11 4 = M 2 1 := hI1.2.2.2.1.trans (by rw [eM1, kU_at, if_neg (by omega)])
    refine lv_aload_n hx hb dL_law_1082 rfl (lv_at hl 3 rfl) ?_
    refine lv_aload_n hx hb dL_law_1083 rfl (lv_at hl 5 rfl) ?_
    refine lv_iload hx hb dL_law_1084 (lv_at hl 1 rfl) ?_
    refine k_push hx hb dL_law_1086 ?_
    refine k_add hx hb dL_law_1087 ?_
    refine k_sld S hScr hbl hbA hS (by omega) e1 dL_law_1088 ?_
    refine k_callVW (As := [.int (zI h)]) (rest := []) S hK hP hS (c_X3_period l E hE M1 h (kI_wm hI1) (by omega)) (cwV 1 S.2.2.2.2 gL_law_X3_period rfl rfl rfl (by decide +kernel) ⟨Nat.le_of_ble_eq_true rfl, Nat.le_of_ble_eq_true rfl⟩) (k_rY hK hP rfl) rfl hl.1 rfl (Nat.le_of_ble_eq_true rfl) dL_law_1089 ⟨hc.1, hc.2⟩ (fun z M2 H locs hz hP hS => ?_)
    refine lv_istore (lv' := [(6, .int (zI z)), (5, .int (zI 0)), (4, .int (zI i)), (3, .ref (E.2.2 102)), (2, .ref (E.2.2 11)), (1, .ref (E.2.2 10)), (0, .ref bs)]) hx hb dL_law_1092 hl (by decide) rfl (fun ls hl => ?_)
    try simp only [q13, q15, q16, q4] at hz
    have ht0 : M2 11 0 = 0 := by omega
    refine lv_aload_n hx hb dL_law_1094 rfl (lv_at hl 4 rfl) ?_
    refine k_callV (As := []) (rest := []) S hK hP (c_X3_thrown l E M2) (cwV 0 S.2.2.2.2 gL_law_X3_thrown rfl rfl rfl (by decide +kernel) ⟨Nat.le_of_ble_eq_true rfl, Nat.le_of_ble_eq_true rfl⟩) (k_rY hK hP rfl) rfl hl.1 rfl (Nat.le_of_ble_eq_true rfl) dL_law_1095 ⟨hc.1, hc.2⟩ (fun t ht => ?_)
    refine lv_iload hx hb dL_law_1098 (lv_at hl 1 rfl) ?_
    refine k_eq (tgt := 1105) hx hb dL_law_1100 (by decide) (by omega) (fun _ => ?_) (fun q => absurd (ht.trans ht0) q)
    refine lv_iload hx hb dL_law_1105 (lv_at hl 1 rfl) ?_
    refine k_ne0 (tgt := 1122) hx hb dL_law_1107 (by decide) (by omega) (fun q => absurd rfl q) (fun _ => ?_)
    have q := hz.2.1.resolve_right (fun q => by omega)
    have hvz : v = z := kIsPer_one hv.1 q.2.2.2
    have h102 : M2 102 0 = z := by rw [hz.1 102 0 (by omega) (by omega), eM1, kU_same]; exact hvz
    refine lv_aload_n hx hb dL_law_1110 rfl (lv_at hl 3 rfl) ?_
    refine k_push hx hb dL_law_1111 ?_
    refine k_lald S hK hP dL_law_1112 ?_
    refine lv_iload hx hb dL_law_1113 (lv_at hl 0 rfl) ?_
    refine k_i2l hx hb dL_law_1115 (by omega) ?_
    rw [h102]
    refine k_lcmpE hx hb dL_law_1116 ?_
    refine k_eq0 (tgt := 1122) hx hb dL_law_1117 (by decide) (by omega) (fun _ => ?_) (fun q => absurd rfl q)
    refine lv_goto (tgt := 1416) hx hb dL_law_1122 (by decide) ?_
    exact next _ _ _ _ (kI_m hI1 hz.1) hP hS (lv_sub hl [2, 3, 4, 5, 6] rfl)
  · have hb2 : h < 0 ∨ 2 ≤ h := by omega
    refine lv_aload_n hx hb dL_law_1069 rfl (lv_at hl 3 rfl) ?_
    refine lv_aload_n hx hb dL_law_1070 rfl (lv_at hl 4 rfl) ?_
    refine lv_iload hx hb dL_law_1071 (lv_at hl 0 rfl) ?_
    refine k_push hx hb dL_law_1073 ?_
    refine k_add hx hb dL_law_1074 ?_
    refine k_sld S hScr hbl hbA hS (by omega) e1 dL_law_1075 ?_
    refine lv_aload_n hx hb dL_law_1076 rfl (lv_at hl 1 rfl) ?_
    refine k_callHT (As := [.ref (E.2.2 10), .int (zI h), .ref (E.2.2 102)]) (rest := []) S hK hX hZ hP hS (c_L_period_b1 l E hlst M h (by omega) (by omega)) (vx_cwSW 3 S.2.2.2.2 gL_law_L_period rfl rfl rfl (by decide +kernel) ⟨Nat.le_of_ble_eq_true rfl, Nat.le_of_ble_eq_true rfl⟩) rfl hl.1 rfl (Nat.le_of_ble_eq_true rfl) dL_law_1077 ⟨hc.1, hc.2⟩ (fun H locs hP hS => ?_)
    refine lv_istore (lv' := [(5, .int (zI 1)), (4, .int (zI i)), (3, .ref (E.2.2 102)), (2, .ref (E.2.2 11)), (1, .ref (E.2.2 10)), (0, .ref bs)]) hx hb dL_law_1080 hl (by decide) rfl (fun ls hl => ?_)
    have q4 : M 11 4 = M 2 1 := hI.2.2.2.1
    refine lv_aload_n hx hb dL_law_1082 rfl (lv_at hl 3 rfl) ?_
    refine lv_aload_n hx hb dL_law_1083 rfl (lv_at hl 5 rfl) ?_
    refine lv_iload hx hb dL_law_1084 (lv_at hl 1 rfl) ?_
    refine k_push hx hb dL_law_1086 ?_
    refine k_add hx hb dL_law_1087 ?_
    refine k_sld S hScr hbl hbA hS (by omega) e1 dL_law_1088 ?_
    refine k_callVW (As := [.int (zI h)]) (rest := []) S hK hP hS (c_X3_period l E hE M h (kI_wm hI) (by omega)) (cwV 1 S.2.2.2.2 gL_law_X3_period rfl rfl rfl (by decide +kernel) ⟨Nat.le_of_ble_eq_true rfl, Nat.le_of_ble_eq_true rfl⟩) (k_rY hK hP rfl) rfl hl.1 rfl (Nat.le_of_ble_eq_true rfl) dL_law_1089 ⟨hc.1, hc.2⟩ (fun z M2 H locs hz hP hS => ?_)
    refine lv_istore (lv' := [(6, .int (zI z)), (5, .int (zI 1)), (4, .int (zI i)), (3, .ref (E.2.2 102)), (2, .ref (E.2.2 11)), (1, .ref (E.2.2 10)), (0, .ref bs)]) hx hb dL_law_1092 hl (by decide) rfl (fun ls hl => ?_)
    try simp only [q4] at hz
    have ht0 : M2 11 0 = 1 := by omega
    refine lv_aload_n hx hb dL_law_1094 rfl (lv_at hl 4 rfl) ?_
    refine k_callV (As := []) (rest := []) S hK hP (c_X3_thrown l E M2) (cwV 0 S.2.2.2.2 gL_law_X3_thrown rfl rfl rfl (by decide +kernel) ⟨Nat.le_of_ble_eq_true rfl, Nat.le_of_ble_eq_true rfl⟩) (k_rY hK hP rfl) rfl hl.1 rfl (Nat.le_of_ble_eq_true rfl) dL_law_1095 ⟨hc.1, hc.2⟩ (fun t ht => ?_)
    refine lv_iload hx hb dL_law_1098 (lv_at hl 1 rfl) ?_
    refine k_eq (tgt := 1105) hx hb dL_law_1100 (by decide) (by omega) (fun _ => ?_) (fun q => absurd (ht.trans ht0) q)
    refine lv_iload hx hb dL_law_1105 (lv_at hl 1 rfl) ?_
    refine k_ne0 (tgt := 1122) hx hb dL_law_1107 (by decide) (by omega) (fun _ => ?_) (fun q => absurd q (by decide))
    refine lv_goto (tgt := 1416) hx hb dL_law_1122 (by decide) ?_
    exact next _ _ _ _ (kI_m hI hz.1) hP hS (lv_sub hl [2, 3, 4, 5, 6] rfl)
set_option maxHeartbeats 4000000 in
set_option maxRecDepth 100000 in
theorem lw_c_turned {pg : Program} {l : Launch} {en : Env} {s0 : State} {mi : MethodId} {ar : Array Value} {bl : List Frame} {me : Method} {co : Code} {H H0 : Heap} {locs : List Loc} {cells slots : Nat} {Q : State → Prop} {ls : Array Slot} {E : kE} {M : kM} {bs L : Nat} {xs : Nat → Int32} {i : Int} (hlst : l.stackTraces = false) (S : CallFix pg mi co cL_law 9 s0 ar wsL_law RL) (hE : kInj E) (hK : kK E s0) (hX : kXs s0) (hZ : kZ (kA E H0.size) s0 H0) (hScr : va_X bs L xs s0 H0) (hbl : bs < H0.size) (hbA : ¬ kA E H0.size bs) (hL : L ≤ 2048) (hI : kI M) (hP : va_P E.1 vwCl (kW E M) H) (hS : va_S (kA E H0.size) H0 H locs) (hi : 0 ≤ i ∧ i + 3 < (L : Int)) (hc : cells + 1 ≤ 601024 ∧ slots + 6 ≤ 7293034) (hl : lv_has ls 9 [(4, .int (zI i)), (3, .ref (E.2.2 102)), (2, .ref (E.2.2 11)), (1, .ref (E.2.2 10)), (0, .ref bs)])
    (next : ∀ (M1 : kM) (H1 : Heap) (locs1 : List Loc) (ls1 : Array Slot), kI M1 → va_P E.1 vwCl (kW E M1) H1 → va_S (kA E H0.size) H0 H1 locs1 → lv_has ls1 9 [(4, .int (zI i)), (3, .ref (E.2.2 102)), (2, .ref (E.2.2 11)), (1, .ref (E.2.2 10)), (0, .ref bs)] → W pg l en room_1 s0 mi ar bl me co H1 locs1 (cells + 1) (slots + 6) Q (F0 mi 1416 ls1 []))
    {h : Int} (e1 : kSc xs (i + 1) = h) : W pg l en room_1 s0 mi ar bl me co H locs cells slots Q (F0 mi 1125 ls []) := by
  have hx := S.1
  have hb := S.2.1
  have r1 : -2147483648 ≤ h ∧ h ≤ 2147483647 := by rw [← e1]; exact kSc_rng _ _
  have hO2 := kI_O hI
  have hW := hI.1
  have hm12 := hI.2.2.2.2
  obtain ⟨hs0, hs1, hsv⟩ := hW 2 (by omega)
  by_cases hh : 0 ≤ h ∧ h < 2
  · obtain ⟨hn0, hn1, hv0⟩ := hW h (by omega)
    refine lv_aload_n hx hb dL_law_1125 rfl (lv_at hl 3 rfl) ?_
    refine lv_aload_n hx hb dL_law_1126 rfl (lv_at hl 4 rfl) ?_
    refine lv_iload hx hb dL_law_1127 (lv_at hl 0 rfl) ?_
    refine k_push hx hb dL_law_1129 ?_
    refine k_add hx hb dL_law_1130 ?_
    refine k_sld S hScr hbl hbA hS (by omega) e1 dL_law_1131 ?_
    refine lv_aload_n hx hb dL_law_1132 rfl (lv_at hl 1 rfl) ?_
    refine k_callHW (As := [.ref (E.2.2 10), .int (zI h), .ref (E.2.2 102)]) (rest := []) S hK hP hS (c_L_turned l E hE M h (by omega) hW) (vx_cwSW 3 S.2.2.2.2 gL_law_L_turned rfl rfl rfl (by decide +kernel) ⟨Nat.le_of_ble_eq_true rfl, Nat.le_of_ble_eq_true rfl⟩) rfl hl.1 rfl (Nat.le_of_ble_eq_true rfl) dL_law_1133 ⟨Nat.le_trans (Nat.le_add_right cells 1) hc.1, Nat.le_trans (Nat.le_add_right slots 6) hc.2⟩ (fun z1 M1 H locs hLk hP hS => ?_)
    obtain ⟨rfl, v, hv, eM1⟩ := hLk
    refine W.widen (k := cells + 1) (n := slots + 6) (by omega) (by omega) ?_
    refine lv_istore (lv' := [(5, .int (zI 0)), (4, .int (zI i)), (3, .ref (E.2.2 102)), (2, .ref (E.2.2 11)), (1, .ref (E.2.2 10)), (0, .ref bs)]) hx hb dL_law_1136 hl (by decide) rfl (fun ls hl => ?_)
    have hI1 : kI M1 := by rw [eM1]; exact kI_102 hI
    have q13 : M1 (13 + h) = M (h + 3) := (kI_13 hI1 hh).trans (funext (fun k => by rw [eM1, kU_at, if_neg (by omega)]))
    have q15 : M1 15 h = M h 1 := (kI_15 hI1 hh).trans (by rw [eM1, kU_at, if_neg (by omega)])
    have q16 : M1 16 = M 5 := (kI_16 hI1).trans (funext (fun k => by rw [eM1, kU_at, if_neg (by omega)]))
    have q4 : M1 11 4 = M 2 1 := hI1.2.2.2.1.trans (by rw [eM1, kU_at, if_neg (by omega)])
    refine lv_aload_n hx hb dL_law_1138 rfl (lv_at hl 3 rfl) ?_
    refine lv_aload_n hx hb dL_law_1139 rfl (lv_at hl 5 rfl) ?_
    refine lv_iload hx hb dL_law_1140 (lv_at hl 1 rfl) ?_
    refine k_push hx hb dL_law_1142 ?_
    refine k_add hx hb dL_law_1143 ?_
    refine k_sld S hScr hbl hbA hS (by omega) e1 dL_law_1144 ?_
    refine k_callVW (As := [.int (zI h)]) (rest := []) S hK hP hS (c_X3_turned l E hE M1 h (kI_wm hI1) (by omega)) (cwV 1 S.2.2.2.2 gL_law_X3_turned rfl rfl rfl (by decide +kernel) ⟨Nat.le_of_ble_eq_true rfl, Nat.le_of_ble_eq_true rfl⟩) (k_rY hK hP rfl) rfl hl.1 rfl (Nat.le_of_ble_eq_true rfl) dL_law_1145 ⟨hc.1, hc.2⟩ (fun z M2 H locs hz hP hS => ?_)
    refine lv_istore (lv' := [(6, .int (zI z)), (5, .int (zI 0)), (4, .int (zI i)), (3, .ref (E.2.2 102)), (2, .ref (E.2.2 11)), (1, .ref (E.2.2 10)), (0, .ref bs)]) hx hb dL_law_1148 hl (by decide) rfl (fun ls hl => ?_)
    try simp only [q13, q15, q16, q4] at hz
    have ht0 : M2 11 0 = 0 := by omega
    refine lv_aload_n hx hb dL_law_1150 rfl (lv_at hl 4 rfl) ?_
    refine k_callV (As := []) (rest := []) S hK hP (c_X3_thrown l E M2) (cwV 0 S.2.2.2.2 gL_law_X3_thrown rfl rfl rfl (by decide +kernel) ⟨Nat.le_of_ble_eq_true rfl, Nat.le_of_ble_eq_true rfl⟩) (k_rY hK hP rfl) rfl hl.1 rfl (Nat.le_of_ble_eq_true rfl) dL_law_1151 ⟨hc.1, hc.2⟩ (fun t ht => ?_)
    refine lv_iload hx hb dL_law_1154 (lv_at hl 1 rfl) ?_
    refine k_eq (tgt := 1161) hx hb dL_law_1156 (by decide) (by omega) (fun _ => ?_) (fun q => absurd (ht.trans ht0) q)
    refine lv_iload hx hb dL_law_1161 (lv_at hl 1 rfl) ?_
    refine k_ne0 (tgt := 1178) hx hb dL_law_1163 (by decide) (by omega) (fun q => absurd rfl q) (fun _ => ?_)
    have q := hz.2.1.resolve_right (fun q => by omega)
    have hvz : v = z := kIsTurn_one hv.1 q.2.2.2
    have h102 : M2 102 0 = z := by rw [hz.1 102 0 (by omega) (by omega), eM1, kU_same]; exact hvz
    refine lv_aload_n hx hb dL_law_1166 rfl (lv_at hl 3 rfl) ?_
    refine k_push hx hb dL_law_1167 ?_
    refine k_lald S hK hP dL_law_1168 ?_
    refine lv_iload hx hb dL_law_1169 (lv_at hl 0 rfl) ?_
    refine k_i2l hx hb dL_law_1171 (by omega) ?_
    rw [h102]
    refine k_lcmpE hx hb dL_law_1172 ?_
    refine k_eq0 (tgt := 1178) hx hb dL_law_1173 (by decide) (by omega) (fun _ => ?_) (fun q => absurd rfl q)
    refine lv_goto (tgt := 1416) hx hb dL_law_1178 (by decide) ?_
    exact next _ _ _ _ (kI_m hI1 hz.1) hP hS (lv_sub hl [2, 3, 4, 5, 6] rfl)
  · have hb2 : h < 0 ∨ 2 ≤ h := by omega
    refine lv_aload_n hx hb dL_law_1125 rfl (lv_at hl 3 rfl) ?_
    refine lv_aload_n hx hb dL_law_1126 rfl (lv_at hl 4 rfl) ?_
    refine lv_iload hx hb dL_law_1127 (lv_at hl 0 rfl) ?_
    refine k_push hx hb dL_law_1129 ?_
    refine k_add hx hb dL_law_1130 ?_
    refine k_sld S hScr hbl hbA hS (by omega) e1 dL_law_1131 ?_
    refine lv_aload_n hx hb dL_law_1132 rfl (lv_at hl 1 rfl) ?_
    refine k_callHT (As := [.ref (E.2.2 10), .int (zI h), .ref (E.2.2 102)]) (rest := []) S hK hX hZ hP hS (c_L_turned_b1 l E hlst M h (by omega) (by omega)) (vx_cwSW 3 S.2.2.2.2 gL_law_L_turned rfl rfl rfl (by decide +kernel) ⟨Nat.le_of_ble_eq_true rfl, Nat.le_of_ble_eq_true rfl⟩) rfl hl.1 rfl (Nat.le_of_ble_eq_true rfl) dL_law_1133 ⟨hc.1, hc.2⟩ (fun H locs hP hS => ?_)
    refine lv_istore (lv' := [(5, .int (zI 1)), (4, .int (zI i)), (3, .ref (E.2.2 102)), (2, .ref (E.2.2 11)), (1, .ref (E.2.2 10)), (0, .ref bs)]) hx hb dL_law_1136 hl (by decide) rfl (fun ls hl => ?_)
    have q4 : M 11 4 = M 2 1 := hI.2.2.2.1
    refine lv_aload_n hx hb dL_law_1138 rfl (lv_at hl 3 rfl) ?_
    refine lv_aload_n hx hb dL_law_1139 rfl (lv_at hl 5 rfl) ?_
    refine lv_iload hx hb dL_law_1140 (lv_at hl 1 rfl) ?_
    refine k_push hx hb dL_law_1142 ?_
    refine k_add hx hb dL_law_1143 ?_
    refine k_sld S hScr hbl hbA hS (by omega) e1 dL_law_1144 ?_
    refine k_callVW (As := [.int (zI h)]) (rest := []) S hK hP hS (c_X3_turned l E hE M h (kI_wm hI) (by omega)) (cwV 1 S.2.2.2.2 gL_law_X3_turned rfl rfl rfl (by decide +kernel) ⟨Nat.le_of_ble_eq_true rfl, Nat.le_of_ble_eq_true rfl⟩) (k_rY hK hP rfl) rfl hl.1 rfl (Nat.le_of_ble_eq_true rfl) dL_law_1145 ⟨hc.1, hc.2⟩ (fun z M2 H locs hz hP hS => ?_)
    refine lv_istore (lv' := [(6, .int (zI z)), (5, .int (zI 1)), (4, .int (zI i)), (3, .ref (E.2.2 102)), (2, .ref (E.2.2 11)), (1, .ref (E.2.2 10)), (0, .ref bs)]) hx hb dL_law_1148 hl (by decide) rfl (fun ls hl => ?_)
    try simp only [q4] at hz
    have ht0 : M2 11 0 = 1 := by omega
    refine lv_aload_n hx hb dL_law_1150 rfl (lv_at hl 4 rfl) ?_
    refine k_callV (As := []) (rest := []) S hK hP (c_X3_thrown l E M2) (cwV 0 S.2.2.2.2 gL_law_X3_thrown rfl rfl rfl (by decide +kernel) ⟨Nat.le_of_ble_eq_true rfl, Nat.le_of_ble_eq_true rfl⟩) (k_rY hK hP rfl) rfl hl.1 rfl (Nat.le_of_ble_eq_true rfl) dL_law_1151 ⟨hc.1, hc.2⟩ (fun t ht => ?_)
    refine lv_iload hx hb dL_law_1154 (lv_at hl 1 rfl) ?_
    refine k_eq (tgt := 1161) hx hb dL_law_1156 (by decide) (by omega) (fun _ => ?_) (fun q => absurd (ht.trans ht0) q)
    refine lv_iload hx hb dL_law_1161 (lv_at hl 1 rfl) ?_
    refine k_ne0 (tgt := 1178) hx hb dL_law_1163 (by decide) (by omega) (fun _ => ?_) (fun q => absurd q (by decide))
    refine lv_goto (tgt := 1416) hx hb dL_law_1178 (by decide) ?_
    exact next _ _ _ _ (kI_m hI hz.1) hP hS (lv_sub hl [2, 3, 4, 5, 6] rfl)
set_option maxHeartbeats 4000000 in
set_option maxRecDepth 100000 in
theorem lw_c_seam {pg : Program} {l : Launch} {en : Env} {s0 : State} {mi : MethodId} {ar : Array Value} {bl : List Frame} {me : Method} {co : Code} {H H0 : Heap} {locs : List Loc} {cells slots : Nat} {Q : State → Prop} {ls : Array Slot} {E : kE} {M : kM} {bs L : Nat} {xs : Nat → Int32} {i : Int} (hlst : l.stackTraces = false) (S : CallFix pg mi co cL_law 9 s0 ar wsL_law RL) (hE : kInj E) (hK : kK E s0) (hX : kXs s0) (hZ : kZ (kA E H0.size) s0 H0) (hScr : va_X bs L xs s0 H0) (hbl : bs < H0.size) (hbA : ¬ kA E H0.size bs) (hL : L ≤ 2048) (hI : kI M) (hP : va_P E.1 vwCl (kW E M) H) (hS : va_S (kA E H0.size) H0 H locs) (hi : 0 ≤ i ∧ i + 3 < (L : Int)) (hc : cells + 1 ≤ 601024 ∧ slots + 6 ≤ 7293034) (hl : lv_has ls 9 [(4, .int (zI i)), (3, .ref (E.2.2 102)), (2, .ref (E.2.2 11)), (1, .ref (E.2.2 10)), (0, .ref bs)])
    (next : ∀ (M1 : kM) (H1 : Heap) (locs1 : List Loc) (ls1 : Array Slot), kI M1 → va_P E.1 vwCl (kW E M1) H1 → va_S (kA E H0.size) H0 H1 locs1 → lv_has ls1 9 [(4, .int (zI i)), (3, .ref (E.2.2 102)), (2, .ref (E.2.2 11)), (1, .ref (E.2.2 10)), (0, .ref bs)] → W pg l en room_1 s0 mi ar bl me co H1 locs1 (cells + 1) (slots + 6) Q (F0 mi 1416 ls1 []))
    {w : Int} (e1 : kSc xs (i + 1) = w) : W pg l en room_1 s0 mi ar bl me co H locs cells slots Q (F0 mi 1181 ls []) := by
  have hx := S.1
  have hb := S.2.1
  have r1 : -2147483648 ≤ w ∧ w ≤ 2147483647 := by rw [← e1]; exact kSc_rng _ _
  have hO2 := kI_O hI
  have hW := hI.1
  have hm12 := hI.2.2.2.2
  obtain ⟨hs0, hs1, hsv⟩ := hW 2 (by omega)
  obtain ⟨hn0, hn1, hv0⟩ := hW 0 (by omega)
  obtain ⟨hm0, hm1, hw0⟩ := hW 1 (by omega)
  have hcs : (w < 0 ∨ 2 < w) ∨ (0 ≤ w ∧ w ≤ 2) := by omega
  rcases hcs with hk | hk
  · skip
    refine lv_aload_n hx hb dL_law_1181 rfl (lv_at hl 3 rfl) ?_
    refine lv_aload_n hx hb dL_law_1182 rfl (lv_at hl 4 rfl) ?_
    refine lv_iload hx hb dL_law_1183 (lv_at hl 0 rfl) ?_
    refine k_push hx hb dL_law_1185 ?_
    refine k_add hx hb dL_law_1186 ?_
    refine k_sld S hScr hbl hbA hS (by omega) e1 dL_law_1187 ?_
    refine lv_aload_n hx hb dL_law_1188 rfl (lv_at hl 1 rfl) ?_
    refine k_callHT (As := [.ref (E.2.2 10), .int (zI w), .ref (E.2.2 102)]) (rest := []) S hK hX hZ hP hS (c_L_seam_b1 l E hlst M w (by omega) (by omega)) (vx_cwSW 3 S.2.2.2.2 gL_law_L_seam rfl rfl rfl (by decide +kernel) ⟨Nat.le_of_ble_eq_true rfl, Nat.le_of_ble_eq_true rfl⟩) rfl hl.1 rfl (Nat.le_of_ble_eq_true rfl) dL_law_1189 ⟨hc.1, hc.2⟩ (fun H locs hP hS => ?_)
    refine lv_istore (lv' := [(5, .int (zI 1)), (4, .int (zI i)), (3, .ref (E.2.2 102)), (2, .ref (E.2.2 11)), (1, .ref (E.2.2 10)), (0, .ref bs)]) hx hb dL_law_1192 hl (by decide) rfl (fun ls hl => ?_)
    have q15 : M 15 0 = M 0 1 := kI_15 hI (g := 0) (by omega)
    have q151 : M 15 1 = M 1 1 := kI_15 hI (g := 1) (by omega)
    have q4 : M 11 4 = M 2 1 := hI.2.2.2.1
    refine lv_aload_n hx hb dL_law_1194 rfl (lv_at hl 3 rfl) ?_
    refine lv_aload_n hx hb dL_law_1195 rfl (lv_at hl 5 rfl) ?_
    refine lv_iload hx hb dL_law_1196 (lv_at hl 1 rfl) ?_
    refine k_push hx hb dL_law_1198 ?_
    refine k_add hx hb dL_law_1199 ?_
    refine k_sld S hScr hbl hbA hS (by omega) e1 dL_law_1200 ?_
    refine k_callVW (As := [.int (zI w)]) (rest := []) S hK hP hS (c_X3_seam l E hE M w (kI_wm hI) (by omega)) (cwV 1 S.2.2.2.2 gL_law_X3_seam rfl rfl rfl (by decide +kernel) ⟨Nat.le_of_ble_eq_true rfl, Nat.le_of_ble_eq_true rfl⟩) (k_rY hK hP rfl) rfl hl.1 rfl (Nat.le_of_ble_eq_true rfl) dL_law_1201 ⟨hc.1, hc.2⟩ (fun z M2 H locs hz hP hS => ?_)
    refine lv_istore (lv' := [(6, .int (zI z)), (5, .int (zI 1)), (4, .int (zI i)), (3, .ref (E.2.2 102)), (2, .ref (E.2.2 11)), (1, .ref (E.2.2 10)), (0, .ref bs)]) hx hb dL_law_1204 hl (by decide) rfl (fun ls hl => ?_)
    try simp only [q15, q151, q4] at hz
    have ht0 : M2 11 0 = 1 := by omega
    refine lv_aload_n hx hb dL_law_1206 rfl (lv_at hl 4 rfl) ?_
    refine k_callV (As := []) (rest := []) S hK hP (c_X3_thrown l E M2) (cwV 0 S.2.2.2.2 gL_law_X3_thrown rfl rfl rfl (by decide +kernel) ⟨Nat.le_of_ble_eq_true rfl, Nat.le_of_ble_eq_true rfl⟩) (k_rY hK hP rfl) rfl hl.1 rfl (Nat.le_of_ble_eq_true rfl) dL_law_1207 ⟨hc.1, hc.2⟩ (fun t ht => ?_)
    refine lv_iload hx hb dL_law_1210 (lv_at hl 1 rfl) ?_
    refine k_eq (tgt := 1217) hx hb dL_law_1212 (by decide) (by omega) (fun _ => ?_) (fun q => absurd (ht.trans ht0) q)
    refine lv_iload hx hb dL_law_1217 (lv_at hl 1 rfl) ?_
    refine k_ne0 (tgt := 1234) hx hb dL_law_1219 (by decide) (by omega) (fun _ => ?_) (fun q => absurd q (by decide))
    refine lv_goto (tgt := 1416) hx hb dL_law_1234 (by decide) ?_
    exact next _ _ _ _ (kI_m hI hz.1) hP hS (lv_sub hl [2, 3, 4, 5, 6] rfl)
  · skip
    refine lv_aload_n hx hb dL_law_1181 rfl (lv_at hl 3 rfl) ?_
    refine lv_aload_n hx hb dL_law_1182 rfl (lv_at hl 4 rfl) ?_
    refine lv_iload hx hb dL_law_1183 (lv_at hl 0 rfl) ?_
    refine k_push hx hb dL_law_1185 ?_
    refine k_add hx hb dL_law_1186 ?_
    refine k_sld S hScr hbl hbA hS (by omega) e1 dL_law_1187 ?_
    refine lv_aload_n hx hb dL_law_1188 rfl (lv_at hl 1 rfl) ?_
    refine k_callHW (As := [.ref (E.2.2 10), .int (zI w), .ref (E.2.2 102)]) (rest := []) S hK hP hS (c_L_seam l E hE M w hW hO2 (by omega)) (vx_cwSW 3 S.2.2.2.2 gL_law_L_seam rfl rfl rfl (by decide +kernel) ⟨Nat.le_of_ble_eq_true rfl, Nat.le_of_ble_eq_true rfl⟩) rfl hl.1 rfl (Nat.le_of_ble_eq_true rfl) dL_law_1189 ⟨Nat.le_trans (Nat.le_add_right cells 1) hc.1, Nat.le_trans (Nat.le_add_right slots 6) hc.2⟩ (fun z1 M1 H locs hLk hP hS => ?_)
    obtain ⟨rfl, v, hv, eM1⟩ := hLk
    refine W.widen (k := cells + 1) (n := slots + 6) (by omega) (by omega) ?_
    refine lv_istore (lv' := [(5, .int (zI 0)), (4, .int (zI i)), (3, .ref (E.2.2 102)), (2, .ref (E.2.2 11)), (1, .ref (E.2.2 10)), (0, .ref bs)]) hx hb dL_law_1192 hl (by decide) rfl (fun ls hl => ?_)
    have hI1 : kI M1 := by rw [eM1]; exact kI_102 hI
    have q13 : M1 13 = M 3 := (kI_13 hI1 (g := 0) (by omega)).trans (funext (fun k => by rw [eM1, kU_at, if_neg (by omega)]; rfl))
    have q14 : M1 14 = M 4 := (kI_13 hI1 (g := 1) (by omega)).trans (funext (fun k => by rw [eM1, kU_at, if_neg (by omega)]; rfl))
    have q15 : M1 15 0 = M 0 1 := (kI_15 hI1 (g := 0) (by omega)).trans (by rw [eM1, kU_at, if_neg (by omega)])
    have q151 : M1 15 1 = M 1 1 := (kI_15 hI1 (g := 1) (by omega)).trans (by rw [eM1, kU_at, if_neg (by omega)])
    have q16 : M1 16 = M 5 := (kI_16 hI1).trans (funext (fun k => by rw [eM1, kU_at, if_neg (by omega)]))
    have q4 : M1 11 4 = M 2 1 := hI1.2.2.2.1.trans (by rw [eM1, kU_at, if_neg (by omega)])
    refine lv_aload_n hx hb dL_law_1194 rfl (lv_at hl 3 rfl) ?_
    refine lv_aload_n hx hb dL_law_1195 rfl (lv_at hl 5 rfl) ?_
    refine lv_iload hx hb dL_law_1196 (lv_at hl 1 rfl) ?_
    refine k_push hx hb dL_law_1198 ?_
    refine k_add hx hb dL_law_1199 ?_
    refine k_sld S hScr hbl hbA hS (by omega) e1 dL_law_1200 ?_
    refine k_callVW (As := [.int (zI w)]) (rest := []) S hK hP hS (c_X3_seam l E hE M1 w (kI_wm hI1) (by omega)) (cwV 1 S.2.2.2.2 gL_law_X3_seam rfl rfl rfl (by decide +kernel) ⟨Nat.le_of_ble_eq_true rfl, Nat.le_of_ble_eq_true rfl⟩) (k_rY hK hP rfl) rfl hl.1 rfl (Nat.le_of_ble_eq_true rfl) dL_law_1201 ⟨hc.1, hc.2⟩ (fun z M2 H locs hz hP hS => ?_)
    refine lv_istore (lv' := [(6, .int (zI z)), (5, .int (zI 0)), (4, .int (zI i)), (3, .ref (E.2.2 102)), (2, .ref (E.2.2 11)), (1, .ref (E.2.2 10)), (0, .ref bs)]) hx hb dL_law_1204 hl (by decide) rfl (fun ls hl => ?_)
    try simp only [q13, q14, q15, q151, q16, q4] at hz
    have ht0 : M2 11 0 = 0 := by omega
    refine lv_aload_n hx hb dL_law_1206 rfl (lv_at hl 4 rfl) ?_
    refine k_callV (As := []) (rest := []) S hK hP (c_X3_thrown l E M2) (cwV 0 S.2.2.2.2 gL_law_X3_thrown rfl rfl rfl (by decide +kernel) ⟨Nat.le_of_ble_eq_true rfl, Nat.le_of_ble_eq_true rfl⟩) (k_rY hK hP rfl) rfl hl.1 rfl (Nat.le_of_ble_eq_true rfl) dL_law_1207 ⟨hc.1, hc.2⟩ (fun t ht => ?_)
    refine lv_iload hx hb dL_law_1210 (lv_at hl 1 rfl) ?_
    refine k_eq (tgt := 1217) hx hb dL_law_1212 (by decide) (by omega) (fun _ => ?_) (fun q => absurd (ht.trans ht0) q)
    refine lv_iload hx hb dL_law_1217 (lv_at hl 1 rfl) ?_
    refine k_ne0 (tgt := 1234) hx hb dL_law_1219 (by decide) (by omega) (fun q => absurd rfl q) (fun _ => ?_)
    have q := hz.2.1.resolve_right (fun q => by omega)
    have hvz : v = z := kIsSeam_one hv.1 q.2.2.2
    have h102 : M2 102 0 = z := by rw [hz.1 102 0 (by omega) (by omega), eM1, kU_same]; exact hvz
    refine lv_aload_n hx hb dL_law_1222 rfl (lv_at hl 3 rfl) ?_
    refine k_push hx hb dL_law_1223 ?_
    refine k_lald S hK hP dL_law_1224 ?_
    refine lv_iload hx hb dL_law_1225 (lv_at hl 0 rfl) ?_
    refine k_i2l hx hb dL_law_1227 (by omega) ?_
    rw [h102]
    refine k_lcmpE hx hb dL_law_1228 ?_
    refine k_eq0 (tgt := 1234) hx hb dL_law_1229 (by decide) (by omega) (fun _ => ?_) (fun q => absurd rfl q)
    refine lv_goto (tgt := 1416) hx hb dL_law_1234 (by decide) ?_
    exact next _ _ _ _ (kI_m hI1 hz.1) hP hS (lv_sub hl [2, 3, 4, 5, 6] rfl)
set_option maxHeartbeats 4000000 in
set_option maxRecDepth 100000 in
theorem lw_c_would {pg : Program} {l : Launch} {en : Env} {s0 : State} {mi : MethodId} {ar : Array Value} {bl : List Frame} {me : Method} {co : Code} {H H0 : Heap} {locs : List Loc} {cells slots : Nat} {Q : State → Prop} {ls : Array Slot} {E : kE} {M : kM} {bs L : Nat} {xs : Nat → Int32} {i : Int} (hlst : l.stackTraces = false) (S : CallFix pg mi co cL_law 9 s0 ar wsL_law RL) (hE : kInj E) (hK : kK E s0) (hX : kXs s0) (hZ : kZ (kA E H0.size) s0 H0) (hScr : va_X bs L xs s0 H0) (hbl : bs < H0.size) (hbA : ¬ kA E H0.size bs) (hL : L ≤ 2048) (hI : kI M) (hP : va_P E.1 vwCl (kW E M) H) (hS : va_S (kA E H0.size) H0 H locs) (hi : 0 ≤ i ∧ i + 3 < (L : Int)) (hc : cells + 1 ≤ 601024 ∧ slots + 6 ≤ 7293034) (hl : lv_has ls 9 [(4, .int (zI i)), (3, .ref (E.2.2 102)), (2, .ref (E.2.2 11)), (1, .ref (E.2.2 10)), (0, .ref bs)])
    (next : ∀ (M1 : kM) (H1 : Heap) (locs1 : List Loc) (ls1 : Array Slot), kI M1 → va_P E.1 vwCl (kW E M1) H1 → va_S (kA E H0.size) H0 H1 locs1 → lv_has ls1 9 [(4, .int (zI i)), (3, .ref (E.2.2 102)), (2, .ref (E.2.2 11)), (1, .ref (E.2.2 10)), (0, .ref bs)] → W pg l en room_1 s0 mi ar bl me co H1 locs1 (cells + 1) (slots + 6) Q (F0 mi 1416 ls1 []))
    {h : Int} (e1 : kSc xs (i + 1) = h) {st : Int} (e2 : kSc xs (i + 2) = st) : W pg l en room_1 s0 mi ar bl me co H locs cells slots Q (F0 mi 1237 ls []) := by
  have hx := S.1
  have hb := S.2.1
  have r1 : -2147483648 ≤ h ∧ h ≤ 2147483647 := by rw [← e1]; exact kSc_rng _ _
  have r2 : -2147483648 ≤ st ∧ st ≤ 2147483647 := by rw [← e2]; exact kSc_rng _ _
  have hO2 := kI_O hI
  have hW := hI.1
  have hm12 := hI.2.2.2.2
  obtain ⟨hs0, hs1, hsv⟩ := hW 2 (by omega)
  by_cases hh : 0 ≤ h ∧ h < 2
  · obtain ⟨hn0, hn1, hv0⟩ := hW h (by omega)
    have hcs : (st < 0 ∨ 8 < st) ∨ (0 ≤ st ∧ st ≤ 8) := by omega
    rcases hcs with hk | hk
    · skip
      refine lv_aload_n hx hb dL_law_1237 rfl (lv_at hl 3 rfl) ?_
      refine lv_aload_n hx hb dL_law_1238 rfl (lv_at hl 4 rfl) ?_
      refine lv_iload hx hb dL_law_1239 (lv_at hl 0 rfl) ?_
      refine k_push hx hb dL_law_1241 ?_
      refine k_add hx hb dL_law_1242 ?_
      refine k_sld S hScr hbl hbA hS (by omega) e1 dL_law_1243 ?_
      refine lv_aload_n hx hb dL_law_1244 rfl (lv_at hl 4 rfl) ?_
      refine lv_iload hx hb dL_law_1245 (lv_at hl 0 rfl) ?_
      refine k_push hx hb dL_law_1247 ?_
      refine k_add hx hb dL_law_1248 ?_
      refine k_sld S hScr hbl hbA hS (by omega) e2 dL_law_1249 ?_
      refine lv_aload_n hx hb dL_law_1250 rfl (lv_at hl 1 rfl) ?_
      refine k_callHT (As := [.ref (E.2.2 10), .int (zI h), .int (zI st), .ref (E.2.2 102)]) (rest := []) S hK hX hZ hP hS (c_L_would_b2 l E hlst M h st (by omega) hW (by omega) (by omega)) (vx_cwSW 4 S.2.2.2.2 gL_law_L_would rfl rfl rfl (by decide +kernel) ⟨Nat.le_of_ble_eq_true rfl, Nat.le_of_ble_eq_true rfl⟩) rfl hl.1 rfl (Nat.le_of_ble_eq_true rfl) dL_law_1251 ⟨hc.1, hc.2⟩ (fun H locs hP hS => ?_)
      refine lv_istore (lv' := [(5, .int (zI 2)), (4, .int (zI i)), (3, .ref (E.2.2 102)), (2, .ref (E.2.2 11)), (1, .ref (E.2.2 10)), (0, .ref bs)]) hx hb dL_law_1254 hl (by decide) rfl (fun ls hl => ?_)
      have q13 : M (13 + h) = M (h + 3) := kI_13 hI hh
      have q15 : M 15 h = M h 1 := kI_15 hI hh
      have q4 : M 11 4 = M 2 1 := hI.2.2.2.1
      refine lv_aload_n hx hb dL_law_1256 rfl (lv_at hl 3 rfl) ?_
      refine lv_aload_n hx hb dL_law_1257 rfl (lv_at hl 5 rfl) ?_
      refine lv_iload hx hb dL_law_1258 (lv_at hl 1 rfl) ?_
      refine k_push hx hb dL_law_1260 ?_
      refine k_add hx hb dL_law_1261 ?_
      refine k_sld S hScr hbl hbA hS (by omega) e1 dL_law_1262 ?_
      refine lv_aload_n hx hb dL_law_1263 rfl (lv_at hl 5 rfl) ?_
      refine lv_iload hx hb dL_law_1264 (lv_at hl 1 rfl) ?_
      refine k_push hx hb dL_law_1266 ?_
      refine k_add hx hb dL_law_1267 ?_
      refine k_sld S hScr hbl hbA hS (by omega) e2 dL_law_1268 ?_
      refine k_callVW (As := [.int (zI h), .int (zI st)]) (rest := []) S hK hP hS (c_X3_would l E hE M h st (kI_wm hI) (by omega)) (cwV 2 S.2.2.2.2 gL_law_X3_would rfl rfl rfl (by decide +kernel) ⟨Nat.le_of_ble_eq_true rfl, Nat.le_of_ble_eq_true rfl⟩) (k_rY hK hP rfl) rfl hl.1 rfl (Nat.le_of_ble_eq_true rfl) dL_law_1269 ⟨hc.1, hc.2⟩ (fun z M2 H locs hz hP hS => ?_)
      refine lv_istore (lv' := [(6, .int (zI z)), (5, .int (zI 2)), (4, .int (zI i)), (3, .ref (E.2.2 102)), (2, .ref (E.2.2 11)), (1, .ref (E.2.2 10)), (0, .ref bs)]) hx hb dL_law_1272 hl (by decide) rfl (fun ls hl => ?_)
      try simp only [q13, q15, q4] at hz
      have ht0 : M2 11 0 = 2 := by omega
      refine lv_aload_n hx hb dL_law_1274 rfl (lv_at hl 4 rfl) ?_
      refine k_callV (As := []) (rest := []) S hK hP (c_X3_thrown l E M2) (cwV 0 S.2.2.2.2 gL_law_X3_thrown rfl rfl rfl (by decide +kernel) ⟨Nat.le_of_ble_eq_true rfl, Nat.le_of_ble_eq_true rfl⟩) (k_rY hK hP rfl) rfl hl.1 rfl (Nat.le_of_ble_eq_true rfl) dL_law_1275 ⟨hc.1, hc.2⟩ (fun t ht => ?_)
      refine lv_iload hx hb dL_law_1278 (lv_at hl 1 rfl) ?_
      refine k_eq (tgt := 1285) hx hb dL_law_1280 (by decide) (by omega) (fun _ => ?_) (fun q => absurd (ht.trans ht0) q)
      refine lv_iload hx hb dL_law_1285 (lv_at hl 1 rfl) ?_
      refine k_ne0 (tgt := 1302) hx hb dL_law_1287 (by decide) (by omega) (fun _ => ?_) (fun q => absurd q (by decide))
      refine lv_goto (tgt := 1416) hx hb dL_law_1302 (by decide) ?_
      exact next _ _ _ _ (kI_m hI hz.1) hP hS (lv_sub hl [2, 3, 4, 5, 6] rfl)
    · skip
      refine lv_aload_n hx hb dL_law_1237 rfl (lv_at hl 3 rfl) ?_
      refine lv_aload_n hx hb dL_law_1238 rfl (lv_at hl 4 rfl) ?_
      refine lv_iload hx hb dL_law_1239 (lv_at hl 0 rfl) ?_
      refine k_push hx hb dL_law_1241 ?_
      refine k_add hx hb dL_law_1242 ?_
      refine k_sld S hScr hbl hbA hS (by omega) e1 dL_law_1243 ?_
      refine lv_aload_n hx hb dL_law_1244 rfl (lv_at hl 4 rfl) ?_
      refine lv_iload hx hb dL_law_1245 (lv_at hl 0 rfl) ?_
      refine k_push hx hb dL_law_1247 ?_
      refine k_add hx hb dL_law_1248 ?_
      refine k_sld S hScr hbl hbA hS (by omega) e2 dL_law_1249 ?_
      refine lv_aload_n hx hb dL_law_1250 rfl (lv_at hl 1 rfl) ?_
      refine k_callHW (As := [.ref (E.2.2 10), .int (zI h), .int (zI st), .ref (E.2.2 102)]) (rest := []) S hK hP hS (c_L_would l E hE M h st (by omega) hW (by omega)) (vx_cwSW 4 S.2.2.2.2 gL_law_L_would rfl rfl rfl (by decide +kernel) ⟨Nat.le_of_ble_eq_true rfl, Nat.le_of_ble_eq_true rfl⟩) rfl hl.1 rfl (Nat.le_of_ble_eq_true rfl) dL_law_1251 ⟨Nat.le_trans (Nat.le_add_right cells 1) hc.1, Nat.le_trans (Nat.le_add_right slots 6) hc.2⟩ (fun z1 M1 H locs hLk hP hS => ?_)
      obtain ⟨rfl, v, hv, eM1⟩ := hLk
      refine W.widen (k := cells + 1) (n := slots + 6) (by omega) (by omega) ?_
      refine lv_istore (lv' := [(5, .int (zI 0)), (4, .int (zI i)), (3, .ref (E.2.2 102)), (2, .ref (E.2.2 11)), (1, .ref (E.2.2 10)), (0, .ref bs)]) hx hb dL_law_1254 hl (by decide) rfl (fun ls hl => ?_)
      have hI1 : kI M1 := by rw [eM1]; exact kI_102 hI
      have q13 : M1 (13 + h) = M (h + 3) := (kI_13 hI1 hh).trans (funext (fun k => by rw [eM1, kU_at, if_neg (by omega)]))
      have q15 : M1 15 h = M h 1 := (kI_15 hI1 hh).trans (by rw [eM1, kU_at, if_neg (by omega)])
      have q16 : M1 16 = M 5 := (kI_16 hI1).trans (funext (fun k => by rw [eM1, kU_at, if_neg (by omega)]))
      have q4 : M1 11 4 = M 2 1 := hI1.2.2.2.1.trans (by rw [eM1, kU_at, if_neg (by omega)])
      refine lv_aload_n hx hb dL_law_1256 rfl (lv_at hl 3 rfl) ?_
      refine lv_aload_n hx hb dL_law_1257 rfl (lv_at hl 5 rfl) ?_
      refine lv_iload hx hb dL_law_1258 (lv_at hl 1 rfl) ?_
      refine k_push hx hb dL_law_1260 ?_
      refine k_add hx hb dL_law_1261 ?_
      refine k_sld S hScr hbl hbA hS (by omega) e1 dL_law_1262 ?_
      refine lv_aload_n hx hb dL_law_1263 rfl (lv_at hl 5 rfl) ?_
      refine lv_iload hx hb dL_law_1264 (lv_at hl 1 rfl) ?_
      refine k_push hx hb dL_law_1266 ?_
      refine k_add hx hb dL_law_1267 ?_
      refine k_sld S hScr hbl hbA hS (by omega) e2 dL_law_1268 ?_
      refine k_callVW (As := [.int (zI h), .int (zI st)]) (rest := []) S hK hP hS (c_X3_would l E hE M1 h st (kI_wm hI1) (by omega)) (cwV 2 S.2.2.2.2 gL_law_X3_would rfl rfl rfl (by decide +kernel) ⟨Nat.le_of_ble_eq_true rfl, Nat.le_of_ble_eq_true rfl⟩) (k_rY hK hP rfl) rfl hl.1 rfl (Nat.le_of_ble_eq_true rfl) dL_law_1269 ⟨hc.1, hc.2⟩ (fun z M2 H locs hz hP hS => ?_)
      refine lv_istore (lv' := [(6, .int (zI z)), (5, .int (zI 0)), (4, .int (zI i)), (3, .ref (E.2.2 102)), (2, .ref (E.2.2 11)), (1, .ref (E.2.2 10)), (0, .ref bs)]) hx hb dL_law_1272 hl (by decide) rfl (fun ls hl => ?_)
      try simp only [q13, q15, q16, q4] at hz
      have ht0 : M2 11 0 = 0 := by omega
      refine lv_aload_n hx hb dL_law_1274 rfl (lv_at hl 4 rfl) ?_
      refine k_callV (As := []) (rest := []) S hK hP (c_X3_thrown l E M2) (cwV 0 S.2.2.2.2 gL_law_X3_thrown rfl rfl rfl (by decide +kernel) ⟨Nat.le_of_ble_eq_true rfl, Nat.le_of_ble_eq_true rfl⟩) (k_rY hK hP rfl) rfl hl.1 rfl (Nat.le_of_ble_eq_true rfl) dL_law_1275 ⟨hc.1, hc.2⟩ (fun t ht => ?_)
      refine lv_iload hx hb dL_law_1278 (lv_at hl 1 rfl) ?_
      refine k_eq (tgt := 1285) hx hb dL_law_1280 (by decide) (by omega) (fun _ => ?_) (fun q => absurd (ht.trans ht0) q)
      refine lv_iload hx hb dL_law_1285 (lv_at hl 1 rfl) ?_
      refine k_ne0 (tgt := 1302) hx hb dL_law_1287 (by decide) (by omega) (fun q => absurd rfl q) (fun _ => ?_)
      have q := hz.2.1.resolve_right (fun q => by omega)
      have hvz : v = z := kIsNew_one hv.1 q.2.2.2.2.2
      have h102 : M2 102 0 = z := by rw [hz.1 102 0 (by omega) (by omega), eM1, kU_same]; exact hvz
      refine lv_aload_n hx hb dL_law_1290 rfl (lv_at hl 3 rfl) ?_
      refine k_push hx hb dL_law_1291 ?_
      refine k_lald S hK hP dL_law_1292 ?_
      refine lv_iload hx hb dL_law_1293 (lv_at hl 0 rfl) ?_
      refine k_i2l hx hb dL_law_1295 (by omega) ?_
      rw [h102]
      refine k_lcmpE hx hb dL_law_1296 ?_
      refine k_eq0 (tgt := 1302) hx hb dL_law_1297 (by decide) (by omega) (fun _ => ?_) (fun q => absurd rfl q)
      refine lv_goto (tgt := 1416) hx hb dL_law_1302 (by decide) ?_
      exact next _ _ _ _ (kI_m hI1 hz.1) hP hS (lv_sub hl [2, 3, 4, 5, 6] rfl)
  · have hb2 : h < 0 ∨ 2 ≤ h := by omega
    refine lv_aload_n hx hb dL_law_1237 rfl (lv_at hl 3 rfl) ?_
    refine lv_aload_n hx hb dL_law_1238 rfl (lv_at hl 4 rfl) ?_
    refine lv_iload hx hb dL_law_1239 (lv_at hl 0 rfl) ?_
    refine k_push hx hb dL_law_1241 ?_
    refine k_add hx hb dL_law_1242 ?_
    refine k_sld S hScr hbl hbA hS (by omega) e1 dL_law_1243 ?_
    refine lv_aload_n hx hb dL_law_1244 rfl (lv_at hl 4 rfl) ?_
    refine lv_iload hx hb dL_law_1245 (lv_at hl 0 rfl) ?_
    refine k_push hx hb dL_law_1247 ?_
    refine k_add hx hb dL_law_1248 ?_
    refine k_sld S hScr hbl hbA hS (by omega) e2 dL_law_1249 ?_
    refine lv_aload_n hx hb dL_law_1250 rfl (lv_at hl 1 rfl) ?_
    refine k_callHT (As := [.ref (E.2.2 10), .int (zI h), .int (zI st), .ref (E.2.2 102)]) (rest := []) S hK hX hZ hP hS (c_L_would_b1 l E hlst M h st (by omega) (by omega)) (vx_cwSW 4 S.2.2.2.2 gL_law_L_would rfl rfl rfl (by decide +kernel) ⟨Nat.le_of_ble_eq_true rfl, Nat.le_of_ble_eq_true rfl⟩) rfl hl.1 rfl (Nat.le_of_ble_eq_true rfl) dL_law_1251 ⟨hc.1, hc.2⟩ (fun H locs hP hS => ?_)
    refine lv_istore (lv' := [(5, .int (zI 1)), (4, .int (zI i)), (3, .ref (E.2.2 102)), (2, .ref (E.2.2 11)), (1, .ref (E.2.2 10)), (0, .ref bs)]) hx hb dL_law_1254 hl (by decide) rfl (fun ls hl => ?_)
    have q4 : M 11 4 = M 2 1 := hI.2.2.2.1
    refine lv_aload_n hx hb dL_law_1256 rfl (lv_at hl 3 rfl) ?_
    refine lv_aload_n hx hb dL_law_1257 rfl (lv_at hl 5 rfl) ?_
    refine lv_iload hx hb dL_law_1258 (lv_at hl 1 rfl) ?_
    refine k_push hx hb dL_law_1260 ?_
    refine k_add hx hb dL_law_1261 ?_
    refine k_sld S hScr hbl hbA hS (by omega) e1 dL_law_1262 ?_
    refine lv_aload_n hx hb dL_law_1263 rfl (lv_at hl 5 rfl) ?_
    refine lv_iload hx hb dL_law_1264 (lv_at hl 1 rfl) ?_
    refine k_push hx hb dL_law_1266 ?_
    refine k_add hx hb dL_law_1267 ?_
    refine k_sld S hScr hbl hbA hS (by omega) e2 dL_law_1268 ?_
    refine k_callVW (As := [.int (zI h), .int (zI st)]) (rest := []) S hK hP hS (c_X3_would l E hE M h st (kI_wm hI) (by omega)) (cwV 2 S.2.2.2.2 gL_law_X3_would rfl rfl rfl (by decide +kernel) ⟨Nat.le_of_ble_eq_true rfl, Nat.le_of_ble_eq_true rfl⟩) (k_rY hK hP rfl) rfl hl.1 rfl (Nat.le_of_ble_eq_true rfl) dL_law_1269 ⟨hc.1, hc.2⟩ (fun z M2 H locs hz hP hS => ?_)
    refine lv_istore (lv' := [(6, .int (zI z)), (5, .int (zI 1)), (4, .int (zI i)), (3, .ref (E.2.2 102)), (2, .ref (E.2.2 11)), (1, .ref (E.2.2 10)), (0, .ref bs)]) hx hb dL_law_1272 hl (by decide) rfl (fun ls hl => ?_)
    try simp only [q4] at hz
    have ht0 : M2 11 0 = 1 := by omega
    refine lv_aload_n hx hb dL_law_1274 rfl (lv_at hl 4 rfl) ?_
    refine k_callV (As := []) (rest := []) S hK hP (c_X3_thrown l E M2) (cwV 0 S.2.2.2.2 gL_law_X3_thrown rfl rfl rfl (by decide +kernel) ⟨Nat.le_of_ble_eq_true rfl, Nat.le_of_ble_eq_true rfl⟩) (k_rY hK hP rfl) rfl hl.1 rfl (Nat.le_of_ble_eq_true rfl) dL_law_1275 ⟨hc.1, hc.2⟩ (fun t ht => ?_)
    refine lv_iload hx hb dL_law_1278 (lv_at hl 1 rfl) ?_
    refine k_eq (tgt := 1285) hx hb dL_law_1280 (by decide) (by omega) (fun _ => ?_) (fun q => absurd (ht.trans ht0) q)
    refine lv_iload hx hb dL_law_1285 (lv_at hl 1 rfl) ?_
    refine k_ne0 (tgt := 1302) hx hb dL_law_1287 (by decide) (by omega) (fun _ => ?_) (fun q => absurd q (by decide))
    refine lv_goto (tgt := 1416) hx hb dL_law_1302 (by decide) ?_
    exact next _ _ _ _ (kI_m hI hz.1) hP hS (lv_sub hl [2, 3, 4, 5, 6] rfl)
set_option maxHeartbeats 4000000 in
set_option maxRecDepth 100000 in
theorem lw_c_advise {pg : Program} {l : Launch} {en : Env} {s0 : State} {mi : MethodId} {ar : Array Value} {bl : List Frame} {me : Method} {co : Code} {H H0 : Heap} {locs : List Loc} {cells slots : Nat} {Q : State → Prop} {ls : Array Slot} {E : kE} {M : kM} {bs L : Nat} {xs : Nat → Int32} {i : Int} (hlst : l.stackTraces = false) (S : CallFix pg mi co cL_law 9 s0 ar wsL_law RL) (hE : kInj E) (hK : kK E s0) (hX : kXs s0) (hZ : kZ (kA E H0.size) s0 H0) (hScr : va_X bs L xs s0 H0) (hbl : bs < H0.size) (hbA : ¬ kA E H0.size bs) (hL : L ≤ 2048) (hI : kI M) (hP : va_P E.1 vwCl (kW E M) H) (hS : va_S (kA E H0.size) H0 H locs) (hi : 0 ≤ i ∧ i + 3 < (L : Int)) (hc : cells + 1 ≤ 601024 ∧ slots + 6 ≤ 7293034) (hl : lv_has ls 9 [(4, .int (zI i)), (3, .ref (E.2.2 102)), (2, .ref (E.2.2 11)), (1, .ref (E.2.2 10)), (0, .ref bs)])
    (next : ∀ (M1 : kM) (H1 : Heap) (locs1 : List Loc) (ls1 : Array Slot), kI M1 → va_P E.1 vwCl (kW E M1) H1 → va_S (kA E H0.size) H0 H1 locs1 → lv_has ls1 9 [(4, .int (zI i)), (3, .ref (E.2.2 102)), (2, .ref (E.2.2 11)), (1, .ref (E.2.2 10)), (0, .ref bs)] → W pg l en room_1 s0 mi ar bl me co H1 locs1 (cells + 1) (slots + 6) Q (F0 mi 1416 ls1 []))
    {h : Int} (e1 : kSc xs (i + 1) = h) : W pg l en room_1 s0 mi ar bl me co H locs cells slots Q (F0 mi 1305 ls []) := by
  have hx := S.1
  have hb := S.2.1
  have r1 : -2147483648 ≤ h ∧ h ≤ 2147483647 := by rw [← e1]; exact kSc_rng _ _
  have hO2 := kI_O hI
  have hW := hI.1
  have hm12 := hI.2.2.2.2
  obtain ⟨hs0, hs1, hsv⟩ := hW 2 (by omega)
  by_cases hh : 0 ≤ h ∧ h < 2
  · obtain ⟨hn0, hn1, hv0⟩ := hW h (by omega)
    refine lv_aload_n hx hb dL_law_1305 rfl (lv_at hl 3 rfl) ?_
    refine lv_aload_n hx hb dL_law_1306 rfl (lv_at hl 4 rfl) ?_
    refine lv_iload hx hb dL_law_1307 (lv_at hl 0 rfl) ?_
    refine k_push hx hb dL_law_1309 ?_
    refine k_add hx hb dL_law_1310 ?_
    refine k_sld S hScr hbl hbA hS (by omega) e1 dL_law_1311 ?_
    refine lv_aload_n hx hb dL_law_1312 rfl (lv_at hl 1 rfl) ?_
    refine k_callHW (As := [.ref (E.2.2 10), .int (zI h), .ref (E.2.2 102)]) (rest := []) S hK hP hS (c_L_advise l E hE M h (by omega) hW) (vx_cwSW 3 S.2.2.2.2 gL_law_L_advise rfl rfl rfl (by decide +kernel) ⟨Nat.le_of_ble_eq_true rfl, Nat.le_of_ble_eq_true rfl⟩) rfl hl.1 rfl (Nat.le_of_ble_eq_true rfl) dL_law_1313 ⟨Nat.le_trans (Nat.le_add_right cells 1) hc.1, Nat.le_trans (Nat.le_add_right slots 6) hc.2⟩ (fun z1 M1 H locs hLk hP hS => ?_)
    obtain ⟨rfl, v, hv, eM1⟩ := hLk
    refine W.widen (k := cells + 1) (n := slots + 6) (by omega) (by omega) ?_
    refine lv_istore (lv' := [(5, .int (zI 0)), (4, .int (zI i)), (3, .ref (E.2.2 102)), (2, .ref (E.2.2 11)), (1, .ref (E.2.2 10)), (0, .ref bs)]) hx hb dL_law_1316 hl (by decide) rfl (fun ls hl => ?_)
    have hI1 : kI M1 := by rw [eM1]; exact kI_102 hI
    have q13 : M1 (13 + h) = M (h + 3) := (kI_13 hI1 hh).trans (funext (fun k => by rw [eM1, kU_at, if_neg (by omega)]))
    have q15 : M1 15 h = M h 1 := (kI_15 hI1 hh).trans (by rw [eM1, kU_at, if_neg (by omega)])
    have q16 : M1 16 = M 5 := (kI_16 hI1).trans (funext (fun k => by rw [eM1, kU_at, if_neg (by omega)]))
    have q4 : M1 11 4 = M 2 1 := hI1.2.2.2.1.trans (by rw [eM1, kU_at, if_neg (by omega)])
    refine lv_aload_n hx hb dL_law_1318 rfl (lv_at hl 3 rfl) ?_
    refine lv_aload_n hx hb dL_law_1319 rfl (lv_at hl 5 rfl) ?_
    refine lv_iload hx hb dL_law_1320 (lv_at hl 1 rfl) ?_
    refine k_push hx hb dL_law_1322 ?_
    refine k_add hx hb dL_law_1323 ?_
    refine k_sld S hScr hbl hbA hS (by omega) e1 dL_law_1324 ?_
    refine k_callVW (As := [.int (zI h)]) (rest := []) S hK hP hS (c_X3_advise l E hE M1 h (kI_wm hI1) (by omega)) (cwV 1 S.2.2.2.2 gL_law_X3_advise rfl rfl rfl (by decide +kernel) ⟨Nat.le_of_ble_eq_true rfl, Nat.le_of_ble_eq_true rfl⟩) (k_rY hK hP rfl) rfl hl.1 rfl (Nat.le_of_ble_eq_true rfl) dL_law_1325 ⟨hc.1, hc.2⟩ (fun z M2 H locs hz hP hS => ?_)
    refine lv_istore (lv' := [(6, .int (zI z)), (5, .int (zI 0)), (4, .int (zI i)), (3, .ref (E.2.2 102)), (2, .ref (E.2.2 11)), (1, .ref (E.2.2 10)), (0, .ref bs)]) hx hb dL_law_1328 hl (by decide) rfl (fun ls hl => ?_)
    try simp only [q13, q15, q16, q4] at hz
    have ht0 : M2 11 0 = 0 := by omega
    refine lv_aload_n hx hb dL_law_1330 rfl (lv_at hl 4 rfl) ?_
    refine k_callV (As := []) (rest := []) S hK hP (c_X3_thrown l E M2) (cwV 0 S.2.2.2.2 gL_law_X3_thrown rfl rfl rfl (by decide +kernel) ⟨Nat.le_of_ble_eq_true rfl, Nat.le_of_ble_eq_true rfl⟩) (k_rY hK hP rfl) rfl hl.1 rfl (Nat.le_of_ble_eq_true rfl) dL_law_1331 ⟨hc.1, hc.2⟩ (fun t ht => ?_)
    refine lv_iload hx hb dL_law_1334 (lv_at hl 1 rfl) ?_
    refine k_eq (tgt := 1341) hx hb dL_law_1336 (by decide) (by omega) (fun _ => ?_) (fun q => absurd (ht.trans ht0) q)
    refine lv_iload hx hb dL_law_1341 (lv_at hl 1 rfl) ?_
    refine k_ne0 (tgt := 1358) hx hb dL_law_1343 (by decide) (by omega) (fun q => absurd rfl q) (fun _ => ?_)
    have q := hz.2.1.resolve_right (fun q => by omega)
    have hvz : v = z := kIsAdv_one hv.1 q.2.2.2
    have h102 : M2 102 0 = z := by rw [hz.1 102 0 (by omega) (by omega), eM1, kU_same]; exact hvz
    refine lv_aload_n hx hb dL_law_1346 rfl (lv_at hl 3 rfl) ?_
    refine k_push hx hb dL_law_1347 ?_
    refine k_lald S hK hP dL_law_1348 ?_
    refine lv_iload hx hb dL_law_1349 (lv_at hl 0 rfl) ?_
    refine k_i2l hx hb dL_law_1351 (by omega) ?_
    rw [h102]
    refine k_lcmpE hx hb dL_law_1352 ?_
    refine k_eq0 (tgt := 1358) hx hb dL_law_1353 (by decide) (by omega) (fun _ => ?_) (fun q => absurd rfl q)
    refine lv_goto (tgt := 1416) hx hb dL_law_1358 (by decide) ?_
    exact next _ _ _ _ (kI_m hI1 hz.1) hP hS (lv_sub hl [2, 3, 4, 5, 6] rfl)
  · have hb2 : h < 0 ∨ 2 ≤ h := by omega
    refine lv_aload_n hx hb dL_law_1305 rfl (lv_at hl 3 rfl) ?_
    refine lv_aload_n hx hb dL_law_1306 rfl (lv_at hl 4 rfl) ?_
    refine lv_iload hx hb dL_law_1307 (lv_at hl 0 rfl) ?_
    refine k_push hx hb dL_law_1309 ?_
    refine k_add hx hb dL_law_1310 ?_
    refine k_sld S hScr hbl hbA hS (by omega) e1 dL_law_1311 ?_
    refine lv_aload_n hx hb dL_law_1312 rfl (lv_at hl 1 rfl) ?_
    refine k_callHT (As := [.ref (E.2.2 10), .int (zI h), .ref (E.2.2 102)]) (rest := []) S hK hX hZ hP hS (c_L_advise_b1 l E hlst M h (by omega) (by omega)) (vx_cwSW 3 S.2.2.2.2 gL_law_L_advise rfl rfl rfl (by decide +kernel) ⟨Nat.le_of_ble_eq_true rfl, Nat.le_of_ble_eq_true rfl⟩) rfl hl.1 rfl (Nat.le_of_ble_eq_true rfl) dL_law_1313 ⟨hc.1, hc.2⟩ (fun H locs hP hS => ?_)
    refine lv_istore (lv' := [(5, .int (zI 1)), (4, .int (zI i)), (3, .ref (E.2.2 102)), (2, .ref (E.2.2 11)), (1, .ref (E.2.2 10)), (0, .ref bs)]) hx hb dL_law_1316 hl (by decide) rfl (fun ls hl => ?_)
    have q4 : M 11 4 = M 2 1 := hI.2.2.2.1
    refine lv_aload_n hx hb dL_law_1318 rfl (lv_at hl 3 rfl) ?_
    refine lv_aload_n hx hb dL_law_1319 rfl (lv_at hl 5 rfl) ?_
    refine lv_iload hx hb dL_law_1320 (lv_at hl 1 rfl) ?_
    refine k_push hx hb dL_law_1322 ?_
    refine k_add hx hb dL_law_1323 ?_
    refine k_sld S hScr hbl hbA hS (by omega) e1 dL_law_1324 ?_
    refine k_callVW (As := [.int (zI h)]) (rest := []) S hK hP hS (c_X3_advise l E hE M h (kI_wm hI) (by omega)) (cwV 1 S.2.2.2.2 gL_law_X3_advise rfl rfl rfl (by decide +kernel) ⟨Nat.le_of_ble_eq_true rfl, Nat.le_of_ble_eq_true rfl⟩) (k_rY hK hP rfl) rfl hl.1 rfl (Nat.le_of_ble_eq_true rfl) dL_law_1325 ⟨hc.1, hc.2⟩ (fun z M2 H locs hz hP hS => ?_)
    refine lv_istore (lv' := [(6, .int (zI z)), (5, .int (zI 1)), (4, .int (zI i)), (3, .ref (E.2.2 102)), (2, .ref (E.2.2 11)), (1, .ref (E.2.2 10)), (0, .ref bs)]) hx hb dL_law_1328 hl (by decide) rfl (fun ls hl => ?_)
    try simp only [q4] at hz
    have ht0 : M2 11 0 = 1 := by omega
    refine lv_aload_n hx hb dL_law_1330 rfl (lv_at hl 4 rfl) ?_
    refine k_callV (As := []) (rest := []) S hK hP (c_X3_thrown l E M2) (cwV 0 S.2.2.2.2 gL_law_X3_thrown rfl rfl rfl (by decide +kernel) ⟨Nat.le_of_ble_eq_true rfl, Nat.le_of_ble_eq_true rfl⟩) (k_rY hK hP rfl) rfl hl.1 rfl (Nat.le_of_ble_eq_true rfl) dL_law_1331 ⟨hc.1, hc.2⟩ (fun t ht => ?_)
    refine lv_iload hx hb dL_law_1334 (lv_at hl 1 rfl) ?_
    refine k_eq (tgt := 1341) hx hb dL_law_1336 (by decide) (by omega) (fun _ => ?_) (fun q => absurd (ht.trans ht0) q)
    refine lv_iload hx hb dL_law_1341 (lv_at hl 1 rfl) ?_
    refine k_ne0 (tgt := 1358) hx hb dL_law_1343 (by decide) (by omega) (fun _ => ?_) (fun q => absurd q (by decide))
    refine lv_goto (tgt := 1416) hx hb dL_law_1358 (by decide) ?_
    exact next _ _ _ _ (kI_m hI hz.1) hP hS (lv_sub hl [2, 3, 4, 5, 6] rfl)
