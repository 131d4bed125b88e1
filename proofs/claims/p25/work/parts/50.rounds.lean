/-! ===== the law's twelve rounds ===== -/
theorem k_lcmpE {p : Program} {l : Launch} {e : Env} {R : Room} {s : State} {m : MethodId} {args : Array Value} {below : List Frame} {meth : Method} {c : Code} {H : Heap} {locs : List Loc} {cells slots : Nat} {Q : State → Prop} {cc : ByteArray} {pc : Nat} {ls : Array Slot} {rest : List Value} (hx : p.tables.exec = Jvm.exec) (hb : c.code = cc) {a : Int64} (hdg : decode cc pc = .ok (.lcmp, 1)) (k : W p l e R s m args below meth c H locs cells slots Q (F0 m (pc + 1) ls (.int (zI 0) :: rest))) : W p l e R s m args below meth c H locs cells slots Q (F0 m pc ls (.long a :: .long a :: rest)) := by
  refine W.lcmp hx hb hdg ?_
  rw [show lg_cmp a a = zI 0 by simp [lg_cmp, zI]]
  exact k
theorem kVs.J {E0 E : kE} {M N : kM} {g : Int} {y : Int → Int} (h : kVs E0 E M N g y) (hI : kI0 M) : kJ E N g :=
  ⟨h.I0 hI, y, h.sm.like (fun i i1 i2 => by rw [h.fn (c := i) (by omega)]) (fun i j i1 i2 _ _ => by rw [h.fn (c := i + 3) (by omega)])⟩
set_option maxHeartbeats 4000000 in
set_option maxRecDepth 100000 in
theorem lw_rounds {pg : Program} {en : Env} {s : State} {mi : MethodId} {bl : List Frame} {me : Method} {co : Code} {l : Launch} {bs L : Nat} {xs : Nat → Int32} (C0 : lw_At pg s mi me co bs L xs) (hlst : l.stackTraces = false) {E0 : kE} (hXs : kXs s) (hZ : kZ (kA E0 s.heap.size) s s.heap) (hScr : kScr bs L xs (kA E0 s.heap.size) s s.heap) (hA : ∀ q : Nat, kA E0 s.heap.size q → s.heap.size ≤ q) {g : Int} :
    ∀ (n : Nat) (time : Int) (E : kE) (M : kM) (H : Heap) (locs : List Loc) (cells slots : Nat) (d0 : Drawn), 0 ≤ time → time ≤ 12 → 12 - time < (n : Int) → s.drawn.sameBut d0 lw_cs → kJ E M g → kK E s → kExt E0 E → kG (kA E0 s.heap.size) s.heap.size E → va_P E.1 vwCl (kW E M) H → va_S (kA E0 s.heap.size) s.heap H locs → (cells : Int) ≤ 3000 + 127 * time → (slots : Int) ≤ 100000 + 5098 * time → ∀ ls : Array Slot, lv_has ls 23 [(0, .ref bs), (1, .ref (E.2.2 10)), (2, .ref (E.2.2 g)), (3, .int (zI time))] → W pg l en room_1 (s.setDrawn d0) mi #[Value.ref bs] bl me co H locs cells slots (lw_Z bl #[Value.ref bs] s) (F0 mi 22 ls []) := by
  obtain ⟨hx, hb, hr, hml, hown, hts, hScr0, hbl, hlocks, hgv⟩ := id C0
  have Sd : ∀ d : Drawn, CallFix pg mi co cL_law 23 (s.setDrawn d) #[Value.ref bs] wsL_law RL := fun d => ⟨hx, hb, hml, hown, dr_words (fun w h => hts w (wsL_law_in w h)) d⟩
  have hXd : ∀ d : Drawn, kXs (s.setDrawn d) := fun d => kXs.same (u := s) (U := s.setDrawn d) rfl hXs
  have hZd : ∀ d : Drawn, kZ (kA E0 s.heap.size) (s.setDrawn d) s.heap := fun d => kZ.moved (u := s) (U := s.setDrawn d) (Vm.Alike.refl s.vm) hZ
  have hCd : ∀ d : Drawn, kScr bs L xs (kA E0 s.heap.size) (s.setDrawn d) s.heap := fun d => ⟨va_X.moved (u := s) (U := s.setDrawn d) (Vm.Alike.refl s.vm) hScr.1, hScr.2⟩
  intro n
  induction n with
  | zero => intro time E M H locs cells slots d0 h0 h1 h2; exfalso; omega
  | succ n ih =>
    intro time E M H locs cells slots d0 h0 h1 h2 hd0 hJ hK hX hG hP hS hc1 hc2 ls hl
    have hn0 := hK.2.2.2
    refine lv_iload_n hx hb dL_law_22 rfl (lv_at hl 3 rfl) ?_
    refine k_bpush hx hb dL_law_23 (by decide) ?_
    refine k_ge (tgt := 1294) hx hb dL_law_25 (by decide) (by omega) (fun c => ?_) (fun c => ?_)
    · have hg := hJ.2.choose_spec.1
      refine lv_aload_n hx hb dL_law_1294 rfl (lv_at hl 2 rfl) ?_
      refine lv_aload_n hx hb dL_law_1295 rfl (lv_at hl 1 rfl) ?_
      refine k_callNDG (As := [.ref (E.2.2 10)]) (rest := []) hd0 (Sd d0) hK hG hP hS (c_X4_isSame l E hG.1 M g hJ) (cwV 1 (Sd d0).2.2.2.2 gL_law_X4_isSame rfl rfl rfl (by decide +kernel) ⟨Nat.le_of_ble_eq_true rfl, Nat.le_of_ble_eq_true rfl⟩) (k_rSim hK hP ⟨hg.1, by omega, hg.2.2.1⟩) rfl hl.1 rfl (Nat.le_of_ble_eq_true rfl) dL_law_1296 ⟨by show _ ≤ (600130 : Nat); omega, by show _ ≤ (7301080 : Nat); omega⟩ (fun H locs d1 hd1 hS => ?_)
      refine va_forget (fun q hq => hA _ (hS.2.2 q hq)) ?_
      refine W.widen (k := 600130) (n := 7301080) (by omega) (by omega) ?_
      exact lw_ret hd1 hx hb hr hlocks dL_law_1299
    · refine s_law_acts (s0 := s.setDrawn d0) (xs := xs) (L := L) hlst hJ ⟨h0, by omega⟩ (Sd d0) (hXd d0) (hZd d0) (hCd d0) hP (kK.same (u := s) (U := s.setDrawn d0) rfl hK) hX hS hG ⟨by omega, by omega⟩ (fun x E1 M1 H1 locs1 hJ1 hX1 hK1 hG1 hP1 hS1 ls hl => ?_) hl
      obtain ⟨hI, y, hs⟩ := id hJ1
      have hn1 := hK1.2.2.2
      refine lv_aload_n hx hb dL_law_88 rfl (lv_at hl 1 rfl) ?_
      refine k_callVl (As := []) (rest := []) (Sd d0) hK1 hP1 (c_X2_digest l E1 M1 hI.1 hI.2.1) (cwV 0 (Sd d0).2.2.2.2 gL_law_X2_digest rfl rfl rfl (by decide +kernel) ⟨Nat.le_of_ble_eq_true rfl, Nat.le_of_ble_eq_true rfl⟩) (k_rX hK1 hP1 rfl) rfl hl.1 rfl (Nat.le_of_ble_eq_true rfl) dL_law_89 ⟨by show _ ≤ (600130 : Nat); omega, by show _ ≤ (7301080 : Nat); omega⟩ (fun dg hdg => ?_)
      refine lv_lstore (lv' := [(5, .long (lI dg)), (0, .ref bs), (1, .ref (E1.2.2 10)), (2, .ref (E1.2.2 g)), (3, .int (zI time)), (4, .int (zI x))]) hx hb dL_law_92 hl (by decide) rfl (fun ls hl => ?_)
      refine s_law_hems (s0 := s.setDrawn d0) (E0 := E0) hI ⟨kExt.rf E1, fun _ _ _ => rfl, hs, hn1⟩ (Sd d0) hP1 hK1 hX1 hS1 hG1 ⟨by omega, by omega⟩ (fun u w E2 M2 H2 locs2 hu hw hV hX2 hK2 hG2 hP2 hS2 ls hl => ?_) (lv_sub hl [1, 2, 3, 4, 5, 0] rfl)
      have hK2s : kK E2 s := kK.same (u := s.setDrawn d0) (U := s) rfl hK2
      refine s_law_mean (E0 := E0) hd0 hI hV hu hw Sd hP2 hK2s hS2 hG2 ⟨by omega, by omega⟩ (fun d1 H3 locs3 hd1 hP3 hS3 => ?_) hl
      have hK3 : kK E2 (s.setDrawn d1) := kK.same (u := s) (U := s.setDrawn d1) rfl hK2s
      refine s_law_seam (s0 := s.setDrawn d1) hI hV (Sd d1) hP3 hK3 ⟨by omega, by omega⟩ (fun ls hl => ?_) (lv_sub hl [0, 1, 2, 3, 4, 5] rfl)
      have hI2 := hV.I0 hI
      refine lv_aload_n hx hb dL_law_1276 rfl (lv_at hl 1 rfl) ?_
      refine k_callVl (As := []) (rest := []) (Sd d1) hK3 hP3 (c_X2_digest l E2 M2 hI2.1 hI2.2.1) (cwV 0 (Sd d1).2.2.2.2 gL_law_X2_digest rfl rfl rfl (by decide +kernel) ⟨Nat.le_of_ble_eq_true rfl, Nat.le_of_ble_eq_true rfl⟩) (k_rX hK3 hP3 rfl) rfl hl.1 rfl (Nat.le_of_ble_eq_true rfl) dL_law_1277 ⟨by show _ ≤ (600130 : Nat); omega, by show _ ≤ (7301080 : Nat); omega⟩ (fun dg2 hdg2 => ?_)
      have e : dg2 = dg := by
        rw [hV.fn (c := 3) (by omega), hV.fn (c := 4) (by omega), hV.fn (c := 5) (by omega), hV.fn (c := 0) (by omega), hV.fn (c := 1) (by omega), hV.fn (c := 2) (by omega)] at hdg2
        rw [hdg2, hdg]
      refine lv_lload hx hb dL_law_1280 (lv_at hl 5 rfl) ?_
      rw [e]
      refine k_lcmpE hx hb dL_law_1282 ?_
      refine k_eq0 (tgt := 1288) hx hb dL_law_1283 (by decide) (by omega) (fun _ => ?_) (fun c => absurd rfl c)
      obtain ⟨v, ev⟩ : ∃ v : Int, v = time + 1 := ⟨_, rfl⟩
      refine k_incN (v := v) (lv' := [(3, .int (zI v)), (0, .ref bs), (1, .ref (E2.2.2 10)), (2, .ref (E2.2.2 g)), (4, .int (zI x)), (5, .long (lI dg))]) hx hb dL_law_1288 hl (k := 3) rfl ev (by decide) rfl (fun ls hl => ?_)
      refine lv_goto (tgt := 22) hx hb dL_law_1291 (by decide) ?_
      exact ih v E2 M2 H3 locs3 (cells + 123 + 4) (slots + 4938 + 160) d1 (by omega) (by omega) (by omega) hd1 (hV.J hI) hK2s hX2 hG2 hP3 hS3 (by omega) (by omega) ls (lv_sub hl [1, 2, 3, 0] rfl)
