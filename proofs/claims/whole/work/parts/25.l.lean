abbrev rL_sew : Room := { frames := 7, cells := 0, slots := 0, locals := 160 }
set_option maxHeartbeats 4000000 in
set_option maxRecDepth 100000 in
theorem c_L_sew (l : Launch) (E : kE) (hE : kInj E) (M : kM) (h st : Int) (hh : 0 ≤ h ∧ h < 2) (hW : kWf M) (hst : 0 ≤ st ∧ st ≤ 8) (hlt : M h 1 < 40) : kRW l yL_sew wsL_sew rL_sew E M [.ref (E.2.2 10), .int (zI h), .int (zI st), .ref (E.2.2 102)] (fun z N => z = 0 ∧ ∃ (v : Int) (N1 : kM), ((∀ c k : Int, c ≠ 8 + h → N1 c k = kU (kU M (h + 3) (M h 1) st) h 1 (M h 1 + 1) c k) ∧ kO N1 h ∧ v = M h 1 + 1) ∧ N = kU N1 102 0 v) := by
  refine kRWh_of (cc := cL_sew) (maxL := 5) RL (by decide) rfl rfl (Nat.le_of_ble_eq_true rfl) ?_
  intro pg en s0 mi ar bl me co ls Q S hP hS hK ends hl
  have hx := S.1
  have hb := S.2.1
  have hinX00 : ∀ w ∈ wsX00, w ∈ wsL_sew := fun w h => List.mem_cons_of_mem _ (List.mem_append_left _ (List.mem_append_left _ (List.mem_append_left _ (List.mem_append_left _ (List.mem_append_left _ (List.mem_append_right _ (h)))))))
  have hinX10 : ∀ w ∈ wsX10, w ∈ wsL_sew := fun w h => List.mem_cons_of_mem _ (List.mem_append_left _ (List.mem_append_left _ (List.mem_append_left _ (List.mem_append_left _ (List.mem_append_right _ (h))))))
  have hinX20 : ∀ w ∈ wsX20, w ∈ wsL_sew := fun w h => List.mem_cons_of_mem _ (List.mem_append_left _ (List.mem_append_left _ (List.mem_append_left _ (List.mem_append_right _ (h)))))
  have hl : lv_has ls 5 [(0, .ref (E.2.2 10)), (1, .int (zI h)), (2, .int (zI st)), (3, .ref (E.2.2 102))] := hl
  obtain ⟨hn0, hn1, hv⟩ := hW h (by omega)
  obtain ⟨hs0, hs1, hsv⟩ := hW 2 (by omega)
  refine lv_aload_n hx hb dL_sew_0 rfl (lv_at hl 3 rfl) ?_
  refine k_push hx hb dL_sew_1 ?_
  refine lv_aload_n hx hb dL_sew_2 rfl (lv_at hl 0 rfl) ?_
  refine lv_iload_n hx hb dL_sew_3 rfl (lv_at hl 1 rfl) ?_
  refine lv_iload_n hx hb dL_sew_4 rfl (lv_at hl 2 rfl) ?_
  refine k_callVW (As := [.int (zI h), .int (zI st)]) (rest := [.int (zI 0), .ref (E.2.2 102)]) S hK hP hS (c_X2_sew l E hE M h st (by omega) (by assumption) (by omega) (by omega)) (cwV 2 S.2.2.2.2 gL_sew_X2_sew rfl rfl rfl (by decide +kernel) ⟨Nat.le_of_ble_eq_true rfl, Nat.le_of_ble_eq_true rfl⟩) (k_rX hK hP rfl) rfl hl.1 rfl (Nat.le_of_ble_eq_true rfl) dL_sew_5 ⟨Nat.le_of_ble_eq_true rfl, Nat.le_of_ble_eq_true rfl⟩ (fun z_5 M_5 H locs h_5 hP hS => ?_)
  refine k_i2l hx hb dL_sew_8 (by omega) ?_
  refine k_last S hK hE hP hS dL_sew_9 (fun H locs hP hS => ?_)
  obtain ⟨M9, eM9⟩ : ∃ N9 : kM, N9 = kU M_5 102 0 z_5 := ⟨_, rfl⟩
  rw [← eM9] at hP
  refine lv_goto (tgt := 25) hx hb dL_sew_10 (by decide) ?_
  refine k_push hx hb dL_sew_25 ?_
  refine ends _ _ (0) M9 _ _ dL_sew_26 hP hS ?_
  exact ⟨rfl, z_5, M_5, h_5, eM9⟩
abbrev rL_sew_b1 : Room := { frames := 8, cells := 1, slots := 6, locals := 160 }
set_option maxHeartbeats 4000000 in
set_option maxRecDepth 100000 in
theorem c_L_sew_b1 (l : Launch) (E : kE) (hlst : l.stackTraces = false) (M : kM) (h st : Int) (hb : h < 0 ∨ 2 ≤ h) (h32 : -2147483648 ≤ h ∧ h ≤ 2147483647 ∧ -2147483648 ≤ st ∧ st ≤ 2147483647) : kRT l yL_sew wsL_sew rL_sew_b1 E M [.ref (E.2.2 10), .int (zI h), .int (zI st), .ref (E.2.2 102)] 1 := by
  refine kRTh_of (cc := cL_sew) (maxL := 5) RL (by decide) rfl rfl (Nat.le_of_ble_eq_true rfl) ?_
  intro pg en s0 mi ar bl me co ls Q S hP hK hX hZ htab ends hl
  have hx := S.1
  have hb := S.2.1
  have hinX00 : ∀ w ∈ wsX00, w ∈ wsL_sew := fun w h => List.mem_cons_of_mem _ (List.mem_append_left _ (List.mem_append_left _ (List.mem_append_left _ (List.mem_append_left _ (List.mem_append_left _ (List.mem_append_right _ (h)))))))
  have hinX10 : ∀ w ∈ wsX10, w ∈ wsL_sew := fun w h => List.mem_cons_of_mem _ (List.mem_append_left _ (List.mem_append_left _ (List.mem_append_left _ (List.mem_append_left _ (List.mem_append_right _ (h))))))
  have hinX20 : ∀ w ∈ wsX20, w ∈ wsL_sew := fun w h => List.mem_cons_of_mem _ (List.mem_append_left _ (List.mem_append_left _ (List.mem_append_left _ (List.mem_append_right _ (h)))))
  have hl : lv_has ls 5 [(0, .ref (E.2.2 10)), (1, .int (zI h)), (2, .int (zI st)), (3, .ref (E.2.2 102))] := hl
  refine lv_aload_n hx hb dL_sew_0 rfl (lv_at hl 3 rfl) ?_
  refine k_push hx hb dL_sew_1 ?_
  refine lv_aload_n hx hb dL_sew_2 rfl (lv_at hl 0 rfl) ?_
  refine lv_iload_n hx hb dL_sew_3 rfl (lv_at hl 1 rfl) ?_
  refine lv_iload_n hx hb dL_sew_4 rfl (lv_at hl 2 rfl) ?_
  refine k_thr (k_runVX (As := [.int (zI h), .int (zI st)]) (rest := [.int (zI 0), .ref (E.2.2 102)]) S hK hX hZ hP va_S.rf (c_X2_sew_b1 l E hlst M h st (by omega) (by omega)) (cwV 2 S.2.2.2.2 gL_sew_X2_sew rfl rfl rfl (by decide +kernel) ⟨Nat.le_of_ble_eq_true rfl, Nat.le_of_ble_eq_true rfl⟩) (k_rX hK hP rfl) rfl hl.1 rfl (Nat.le_of_ble_eq_true rfl) dL_sew_5 ⟨Nat.le_of_ble_eq_true rfl, Nat.le_of_ble_eq_true rfl⟩) (fun _ _ _ h => h) va_S.rf (fun ce q9 H1 locs1 hP1 hS1 hc1 hv1 hcl1 => ?_)
  refine vx_catch S.2.2.2.1 [] ⟨0, 10, 13, 13⟩ [⟨0, 10, 17, 15⟩, ⟨0, 10, 21, 17⟩] (htab.trans rfl) (k_pass0) (by decide) (by decide) (S.2.2.2.2 _ (List.mem_cons_of_mem _ (List.mem_append_left _ (List.mem_append_left _ (List.mem_append_left _ (List.mem_append_left _ (List.mem_append_left _ (List.mem_append_left _ (List.mem_append_left _ (List.mem_of_getElem? (i := 0) rfl)))))))))) (va_Nw.use rfl hX.2.1.2.2) hc1 hv1 hcl1 ?_
  refine lv_astore (lv' := [(4, .ref q9), (0, .ref (E.2.2 10)), (1, .int (zI h)), (2, .int (zI st)), (3, .ref (E.2.2 102))]) hx hb dL_sew_13 hl (by decide) rfl (fun ls hl => ?_)
  refine k_push hx hb dL_sew_15 ?_
  exact ends _ _ _ _ dL_sew_16 hP1 hS1
abbrev rL_sew_b2 : Room := { frames := 8, cells := 1, slots := 6, locals := 160 }
set_option maxHeartbeats 4000000 in
set_option maxRecDepth 100000 in
theorem c_L_sew_b2 (l : Launch) (E : kE) (hlst : l.stackTraces = false) (M : kM) (h st : Int) (hh : 0 ≤ h ∧ h < 2) (hW : kWf M) (hst : st < 0 ∨ 8 < st) (h32 : -2147483648 ≤ st ∧ st ≤ 2147483647) : kRT l yL_sew wsL_sew rL_sew_b2 E M [.ref (E.2.2 10), .int (zI h), .int (zI st), .ref (E.2.2 102)] 2 := by
  refine kRTh_of (cc := cL_sew) (maxL := 5) RL (by decide) rfl rfl (Nat.le_of_ble_eq_true rfl) ?_
  intro pg en s0 mi ar bl me co ls Q S hP hK hX hZ htab ends hl
  have hx := S.1
  have hb := S.2.1
  have hinX00 : ∀ w ∈ wsX00, w ∈ wsL_sew := fun w h => List.mem_cons_of_mem _ (List.mem_append_left _ (List.mem_append_left _ (List.mem_append_left _ (List.mem_append_left _ (List.mem_append_left _ (List.mem_append_right _ (h)))))))
  have hinX10 : ∀ w ∈ wsX10, w ∈ wsL_sew := fun w h => List.mem_cons_of_mem _ (List.mem_append_left _ (List.mem_append_left _ (List.mem_append_left _ (List.mem_append_left _ (List.mem_append_right _ (h))))))
  have hinX20 : ∀ w ∈ wsX20, w ∈ wsL_sew := fun w h => List.mem_cons_of_mem _ (List.mem_append_left _ (List.mem_append_left _ (List.mem_append_left _ (List.mem_append_right _ (h)))))
  have hl : lv_has ls 5 [(0, .ref (E.2.2 10)), (1, .int (zI h)), (2, .int (zI st)), (3, .ref (E.2.2 102))] := hl
  obtain ⟨hn0, hn1, hv⟩ := hW h (by omega)
  obtain ⟨hs0, hs1, hsv⟩ := hW 2 (by omega)
  refine lv_aload_n hx hb dL_sew_0 rfl (lv_at hl 3 rfl) ?_
  refine k_push hx hb dL_sew_1 ?_
  refine lv_aload_n hx hb dL_sew_2 rfl (lv_at hl 0 rfl) ?_
  refine lv_iload_n hx hb dL_sew_3 rfl (lv_at hl 1 rfl) ?_
  refine lv_iload_n hx hb dL_sew_4 rfl (lv_at hl 2 rfl) ?_
  refine k_thr (k_runVX (As := [.int (zI h), .int (zI st)]) (rest := [.int (zI 0), .ref (E.2.2 102)]) S hK hX hZ hP va_S.rf (c_X2_sew_b2 l E hlst M h st (by omega) (by assumption) (by omega) (by omega)) (cwV 2 S.2.2.2.2 gL_sew_X2_sew rfl rfl rfl (by decide +kernel) ⟨Nat.le_of_ble_eq_true rfl, Nat.le_of_ble_eq_true rfl⟩) (k_rX hK hP rfl) rfl hl.1 rfl (Nat.le_of_ble_eq_true rfl) dL_sew_5 ⟨Nat.le_of_ble_eq_true rfl, Nat.le_of_ble_eq_true rfl⟩) (fun _ _ _ h => h) va_S.rf (fun ce q9 H1 locs1 hP1 hS1 hc1 hv1 hcl1 => ?_)
  refine vx_catch S.2.2.2.1 [⟨0, 10, 13, 13⟩] ⟨0, 10, 17, 15⟩ [⟨0, 10, 21, 17⟩] (htab.trans rfl) (k_pass1 (Or.inr ⟨by decide, _, (S.2.2.2.2 _ (List.mem_cons_of_mem _ (List.mem_append_left _ (List.mem_append_left _ (List.mem_append_left _ (List.mem_append_left _ (List.mem_append_left _ (List.mem_append_left _ (List.mem_append_left _ (List.mem_of_getElem? (i := 0) rfl)))))))))), hX.2.2.1.2.2⟩)) (by decide) (by decide) (S.2.2.2.2 _ (List.mem_cons_of_mem _ (List.mem_append_left _ (List.mem_append_left _ (List.mem_append_left _ (List.mem_append_left _ (List.mem_append_left _ (List.mem_append_left _ (List.mem_append_left _ (List.mem_of_getElem? (i := 1) rfl)))))))))) (va_Nw.use rfl hX.2.1.2.1) hc1 hv1 hcl1 ?_
  refine lv_astore (lv' := [(4, .ref q9), (0, .ref (E.2.2 10)), (1, .int (zI h)), (2, .int (zI st)), (3, .ref (E.2.2 102))]) hx hb dL_sew_17 hl (by decide) rfl (fun ls hl => ?_)
  refine k_push hx hb dL_sew_19 ?_
  exact ends _ _ _ _ dL_sew_20 hP1 hS1
abbrev rL_sew_b3 : Room := { frames := 7, cells := 1, slots := 6, locals := 160 }
set_option maxHeartbeats 4000000 in
set_option maxRecDepth 100000 in
theorem c_L_sew_b3 (l : Launch) (E : kE) (hlst : l.stackTraces = false) (M : kM) (h st : Int) (hh : 0 ≤ h ∧ h < 2) (hW : kWf M) (hst : 0 ≤ st ∧ st ≤ 8) (hf : M h 1 = 40) : kRT l yL_sew wsL_sew rL_sew_b3 E M [.ref (E.2.2 10), .int (zI h), .int (zI st), .ref (E.2.2 102)] 3 := by
  refine kRTh_of (cc := cL_sew) (maxL := 5) RL (by decide) rfl rfl (Nat.le_of_ble_eq_true rfl) ?_
  intro pg en s0 mi ar bl me co ls Q S hP hK hX hZ htab ends hl
  have hx := S.1
  have hb := S.2.1
  have hinX00 : ∀ w ∈ wsX00, w ∈ wsL_sew := fun w h => List.mem_cons_of_mem _ (List.mem_append_left _ (List.mem_append_left _ (List.mem_append_left _ (List.mem_append_left _ (List.mem_append_left _ (List.mem_append_right _ (h)))))))
  have hinX10 : ∀ w ∈ wsX10, w ∈ wsL_sew := fun w h => List.mem_cons_of_mem _ (List.mem_append_left _ (List.mem_append_left _ (List.mem_append_left _ (List.mem_append_left _ (List.mem_append_right _ (h))))))
  have hinX20 : ∀ w ∈ wsX20, w ∈ wsL_sew := fun w h => List.mem_cons_of_mem _ (List.mem_append_left _ (List.mem_append_left _ (List.mem_append_left _ (List.mem_append_right _ (h)))))
  have hl : lv_has ls 5 [(0, .ref (E.2.2 10)), (1, .int (zI h)), (2, .int (zI st)), (3, .ref (E.2.2 102))] := hl
  obtain ⟨hn0, hn1, hv⟩ := hW h (by omega)
  obtain ⟨hs0, hs1, hsv⟩ := hW 2 (by omega)
  refine lv_aload_n hx hb dL_sew_0 rfl (lv_at hl 3 rfl) ?_
  refine k_push hx hb dL_sew_1 ?_
  refine lv_aload_n hx hb dL_sew_2 rfl (lv_at hl 0 rfl) ?_
  refine lv_iload_n hx hb dL_sew_3 rfl (lv_at hl 1 rfl) ?_
  refine lv_iload_n hx hb dL_sew_4 rfl (lv_at hl 2 rfl) ?_
  refine k_thr (k_runVX (As := [.int (zI h), .int (zI st)]) (rest := [.int (zI 0), .ref (E.2.2 102)]) S hK hX hZ hP va_S.rf (c_X2_sew_b3 l E hlst M h st (by omega) (by assumption) (by omega) (by omega)) (cwV 2 S.2.2.2.2 gL_sew_X2_sew rfl rfl rfl (by decide +kernel) ⟨Nat.le_of_ble_eq_true rfl, Nat.le_of_ble_eq_true rfl⟩) (k_rX hK hP rfl) rfl hl.1 rfl (Nat.le_of_ble_eq_true rfl) dL_sew_5 ⟨Nat.le_of_ble_eq_true rfl, Nat.le_of_ble_eq_true rfl⟩) (fun _ _ _ h => h) va_S.rf (fun ce q9 H1 locs1 hP1 hS1 hc1 hv1 hcl1 => ?_)
  refine vx_catch S.2.2.2.1 [⟨0, 10, 13, 13⟩, ⟨0, 10, 17, 15⟩] ⟨0, 10, 21, 17⟩ [] (htab.trans rfl) (k_pass2 (Or.inr ⟨by decide, _, (S.2.2.2.2 _ (List.mem_cons_of_mem _ (List.mem_append_left _ (List.mem_append_left _ (List.mem_append_left _ (List.mem_append_left _ (List.mem_append_left _ (List.mem_append_left _ (List.mem_append_left _ (List.mem_of_getElem? (i := 0) rfl)))))))))), hX.2.2.1.1⟩) (Or.inr ⟨by decide, _, (S.2.2.2.2 _ (List.mem_cons_of_mem _ (List.mem_append_left _ (List.mem_append_left _ (List.mem_append_left _ (List.mem_append_left _ (List.mem_append_left _ (List.mem_append_left _ (List.mem_append_left _ (List.mem_of_getElem? (i := 1) rfl)))))))))), hX.2.2.1.2.1⟩)) (by decide) (by decide) (S.2.2.2.2 _ (List.mem_cons_of_mem _ (List.mem_append_left _ (List.mem_append_left _ (List.mem_append_left _ (List.mem_append_left _ (List.mem_append_left _ (List.mem_append_left _ (List.mem_append_left _ (List.mem_of_getElem? (i := 2) rfl)))))))))) (va_Nw.use rfl hX.2.1.1) hc1 hv1 hcl1 ?_
  refine lv_astore (lv' := [(4, .ref q9), (0, .ref (E.2.2 10)), (1, .int (zI h)), (2, .int (zI st)), (3, .ref (E.2.2 102))]) hx hb dL_sew_21 hl (by decide) rfl (fun ls hl => ?_)
  refine k_push hx hb dL_sew_23 ?_
  exact ends _ _ _ _ dL_sew_24 hP1 hS1
abbrev rL_again : Room := { frames := 7, cells := 0, slots := 0, locals := 162 }
set_option maxHeartbeats 4000000 in
set_option maxRecDepth 100000 in
theorem c_L_again (l : Launch) (E : kE) (hE : kInj E) (M : kM) (h r : Int) (hh : 0 ≤ h ∧ h < 2) (hW : kWf M) (hr : 1 ≤ r ∧ 1 ≤ M h 1 ∧ M h 1 + r ≤ 40) : kRW l yL_again wsL_again rL_again E M [.ref (E.2.2 10), .int (zI h), .int (zI r), .ref (E.2.2 102)] (fun z N => z = 0 ∧ ∃ (v : Int) (N1 : kM), ((∀ c k : Int, c ≠ 8 + h → c ≠ h + 3 → c ≠ h → N1 c k = M c k) ∧ N1 h 1 = M h 1 + r ∧ (∀ k : Int, (k < M h 1 ∨ M h 1 + r ≤ k) → N1 (h + 3) k = M (h + 3) k) ∧ (∀ k : Int, M h 1 ≤ k → k < M h 1 + r → N1 (h + 3) k = N1 (h + 3) (k - M h 1)) ∧ kWf N1 ∧ kO N1 h ∧ v = M h 1 + r) ∧ N = kU N1 102 0 v) := by
  refine kRWh_of (cc := cL_again) (maxL := 5) RL (by decide) rfl rfl (Nat.le_of_ble_eq_true rfl) ?_
  intro pg en s0 mi ar bl me co ls Q S hP hS hK ends hl
  have hx := S.1
  have hb := S.2.1
  have hinX00 : ∀ w ∈ wsX00, w ∈ wsL_again := fun w h => List.mem_cons_of_mem _ (List.mem_append_left _ (List.mem_append_left _ (List.mem_append_left _ (List.mem_append_left _ (List.mem_append_left _ (List.mem_append_right _ (h)))))))
  have hinX10 : ∀ w ∈ wsX10, w ∈ wsL_again := fun w h => List.mem_cons_of_mem _ (List.mem_append_left _ (List.mem_append_left _ (List.mem_append_left _ (List.mem_append_left _ (List.mem_append_right _ (h))))))
  have hinX20 : ∀ w ∈ wsX20, w ∈ wsL_again := fun w h => List.mem_cons_of_mem _ (List.mem_append_left _ (List.mem_append_left _ (List.mem_append_left _ (List.mem_append_right _ (h)))))
  have hl : lv_has ls 5 [(0, .ref (E.2.2 10)), (1, .int (zI h)), (2, .int (zI r)), (3, .ref (E.2.2 102))] := hl
  obtain ⟨hn0, hn1, hv⟩ := hW h (by omega)
  obtain ⟨hs0, hs1, hsv⟩ := hW 2 (by omega)
  refine lv_aload_n hx hb dL_again_0 rfl (lv_at hl 3 rfl) ?_
  refine k_push hx hb dL_again_1 ?_
  refine lv_aload_n hx hb dL_again_2 rfl (lv_at hl 0 rfl) ?_
  refine lv_iload_n hx hb dL_again_3 rfl (lv_at hl 1 rfl) ?_
  refine lv_iload_n hx hb dL_again_4 rfl (lv_at hl 2 rfl) ?_
  refine k_callVW (As := [.int (zI h), .int (zI r)]) (rest := [.int (zI 0), .ref (E.2.2 102)]) S hK hP hS (c_X2_again l E hE M h r (by omega) (by assumption) (by omega)) (cwV 2 S.2.2.2.2 gL_again_X2_again rfl rfl rfl (by decide +kernel) ⟨Nat.le_of_ble_eq_true rfl, Nat.le_of_ble_eq_true rfl⟩) (k_rX hK hP rfl) rfl hl.1 rfl (Nat.le_of_ble_eq_true rfl) dL_again_5 ⟨Nat.le_of_ble_eq_true rfl, Nat.le_of_ble_eq_true rfl⟩ (fun z_5 M_5 H locs h_5 hP hS => ?_)
  refine k_i2l hx hb dL_again_8 (by omega) ?_
  refine k_last S hK hE hP hS dL_again_9 (fun H locs hP hS => ?_)
  obtain ⟨M9, eM9⟩ : ∃ N9 : kM, N9 = kU M_5 102 0 z_5 := ⟨_, rfl⟩
  rw [← eM9] at hP
  refine lv_goto (tgt := 25) hx hb dL_again_10 (by decide) ?_
  refine k_push hx hb dL_again_25 ?_
  refine ends _ _ (0) M9 _ _ dL_again_26 hP hS ?_
  exact ⟨rfl, z_5, M_5, h_5, eM9⟩
abbrev rL_again_b1 : Room := { frames := 8, cells := 1, slots := 6, locals := 162 }
set_option maxHeartbeats 4000000 in
set_option maxRecDepth 100000 in
theorem c_L_again_b1 (l : Launch) (E : kE) (hlst : l.stackTraces = false) (M : kM) (h r : Int) (hb : h < 0 ∨ 2 ≤ h) (h32 : -2147483648 ≤ h ∧ h ≤ 2147483647 ∧ -2147483648 ≤ r ∧ r ≤ 2147483647) : kRT l yL_again wsL_again rL_again_b1 E M [.ref (E.2.2 10), .int (zI h), .int (zI r), .ref (E.2.2 102)] 1 := by
  refine kRTh_of (cc := cL_again) (maxL := 5) RL (by decide) rfl rfl (Nat.le_of_ble_eq_true rfl) ?_
  intro pg en s0 mi ar bl me co ls Q S hP hK hX hZ htab ends hl
  have hx := S.1
  have hb := S.2.1
  have hinX00 : ∀ w ∈ wsX00, w ∈ wsL_again := fun w h => List.mem_cons_of_mem _ (List.mem_append_left _ (List.mem_append_left _ (List.mem_append_left _ (List.mem_append_left _ (List.mem_append_left _ (List.mem_append_right _ (h)))))))
  have hinX10 : ∀ w ∈ wsX10, w ∈ wsL_again := fun w h => List.mem_cons_of_mem _ (List.mem_append_left _ (List.mem_append_left _ (List.mem_append_left _ (List.mem_append_left _ (List.mem_append_right _ (h))))))
  have hinX20 : ∀ w ∈ wsX20, w ∈ wsL_again := fun w h => List.mem_cons_of_mem _ (List.mem_append_left _ (List.mem_append_left _ (List.mem_append_left _ (List.mem_append_right _ (h)))))
  have hl : lv_has ls 5 [(0, .ref (E.2.2 10)), (1, .int (zI h)), (2, .int (zI r)), (3, .ref (E.2.2 102))] := hl
  refine lv_aload_n hx hb dL_again_0 rfl (lv_at hl 3 rfl) ?_
  refine k_push hx hb dL_again_1 ?_
  refine lv_aload_n hx hb dL_again_2 rfl (lv_at hl 0 rfl) ?_
  refine lv_iload_n hx hb dL_again_3 rfl (lv_at hl 1 rfl) ?_
  refine lv_iload_n hx hb dL_again_4 rfl (lv_at hl 2 rfl) ?_
  refine k_thr (k_runVX (As := [.int (zI h), .int (zI r)]) (rest := [.int (zI 0), .ref (E.2.2 102)]) S hK hX hZ hP va_S.rf (c_X2_again_b1 l E hlst M h r (by omega) (by omega)) (cwV 2 S.2.2.2.2 gL_again_X2_again rfl rfl rfl (by decide +kernel) ⟨Nat.le_of_ble_eq_true rfl, Nat.le_of_ble_eq_true rfl⟩) (k_rX hK hP rfl) rfl hl.1 rfl (Nat.le_of_ble_eq_true rfl) dL_again_5 ⟨Nat.le_of_ble_eq_true rfl, Nat.le_of_ble_eq_true rfl⟩) (fun _ _ _ h => h) va_S.rf (fun ce q9 H1 locs1 hP1 hS1 hc1 hv1 hcl1 => ?_)
  refine vx_catch S.2.2.2.1 [] ⟨0, 10, 13, 13⟩ [⟨0, 10, 17, 15⟩, ⟨0, 10, 21, 17⟩] (htab.trans rfl) (k_pass0) (by decide) (by decide) (S.2.2.2.2 _ (List.mem_cons_of_mem _ (List.mem_append_left _ (List.mem_append_left _ (List.mem_append_left _ (List.mem_append_left _ (List.mem_append_left _ (List.mem_append_left _ (List.mem_append_left _ (List.mem_of_getElem? (i := 0) rfl)))))))))) (va_Nw.use rfl hX.2.1.2.2) hc1 hv1 hcl1 ?_
  refine lv_astore (lv' := [(4, .ref q9), (0, .ref (E.2.2 10)), (1, .int (zI h)), (2, .int (zI r)), (3, .ref (E.2.2 102))]) hx hb dL_again_13 hl (by decide) rfl (fun ls hl => ?_)
  refine k_push hx hb dL_again_15 ?_
  exact ends _ _ _ _ dL_again_16 hP1 hS1
abbrev rL_again_b2 : Room := { frames := 7, cells := 1, slots := 6, locals := 162 }
set_option maxHeartbeats 4000000 in
set_option maxRecDepth 100000 in
theorem c_L_again_b2 (l : Launch) (E : kE) (hlst : l.stackTraces = false) (M : kM) (h r : Int) (hh : 0 ≤ h ∧ h < 2) (hW : kWf M) (hr : r < 1 ∨ 40 < r) (h32 : -2147483648 ≤ r ∧ r ≤ 2147483647) : kRT l yL_again wsL_again rL_again_b2 E M [.ref (E.2.2 10), .int (zI h), .int (zI r), .ref (E.2.2 102)] 2 := by
  refine kRTh_of (cc := cL_again) (maxL := 5) RL (by decide) rfl rfl (Nat.le_of_ble_eq_true rfl) ?_
  intro pg en s0 mi ar bl me co ls Q S hP hK hX hZ htab ends hl
  have hx := S.1
  have hb := S.2.1
  have hinX00 : ∀ w ∈ wsX00, w ∈ wsL_again := fun w h => List.mem_cons_of_mem _ (List.mem_append_left _ (List.mem_append_left _ (List.mem_append_left _ (List.mem_append_left _ (List.mem_append_left _ (List.mem_append_right _ (h)))))))
  have hinX10 : ∀ w ∈ wsX10, w ∈ wsL_again := fun w h => List.mem_cons_of_mem _ (List.mem_append_left _ (List.mem_append_left _ (List.mem_append_left _ (List.mem_append_left _ (List.mem_append_right _ (h))))))
  have hinX20 : ∀ w ∈ wsX20, w ∈ wsL_again := fun w h => List.mem_cons_of_mem _ (List.mem_append_left _ (List.mem_append_left _ (List.mem_append_left _ (List.mem_append_right _ (h)))))
  have hl : lv_has ls 5 [(0, .ref (E.2.2 10)), (1, .int (zI h)), (2, .int (zI r)), (3, .ref (E.2.2 102))] := hl
  obtain ⟨hn0, hn1, hv⟩ := hW h (by omega)
  obtain ⟨hs0, hs1, hsv⟩ := hW 2 (by omega)
  refine lv_aload_n hx hb dL_again_0 rfl (lv_at hl 3 rfl) ?_
  refine k_push hx hb dL_again_1 ?_
  refine lv_aload_n hx hb dL_again_2 rfl (lv_at hl 0 rfl) ?_
  refine lv_iload_n hx hb dL_again_3 rfl (lv_at hl 1 rfl) ?_
  refine lv_iload_n hx hb dL_again_4 rfl (lv_at hl 2 rfl) ?_
  refine k_thr (k_runVX (As := [.int (zI h), .int (zI r)]) (rest := [.int (zI 0), .ref (E.2.2 102)]) S hK hX hZ hP va_S.rf (c_X2_again_b2 l E hlst M h r (by omega) (by assumption) (by omega) (by omega)) (cwV 2 S.2.2.2.2 gL_again_X2_again rfl rfl rfl (by decide +kernel) ⟨Nat.le_of_ble_eq_true rfl, Nat.le_of_ble_eq_true rfl⟩) (k_rX hK hP rfl) rfl hl.1 rfl (Nat.le_of_ble_eq_true rfl) dL_again_5 ⟨Nat.le_of_ble_eq_true rfl, Nat.le_of_ble_eq_true rfl⟩) (fun _ _ _ h => h) va_S.rf (fun ce q9 H1 locs1 hP1 hS1 hc1 hv1 hcl1 => ?_)
  refine vx_catch S.2.2.2.1 [⟨0, 10, 13, 13⟩] ⟨0, 10, 17, 15⟩ [⟨0, 10, 21, 17⟩] (htab.trans rfl) (k_pass1 (Or.inr ⟨by decide, _, (S.2.2.2.2 _ (List.mem_cons_of_mem _ (List.mem_append_left _ (List.mem_append_left _ (List.mem_append_left _ (List.mem_append_left _ (List.mem_append_left _ (List.mem_append_left _ (List.mem_append_left _ (List.mem_of_getElem? (i := 0) rfl)))))))))), hX.2.2.1.2.2⟩)) (by decide) (by decide) (S.2.2.2.2 _ (List.mem_cons_of_mem _ (List.mem_append_left _ (List.mem_append_left _ (List.mem_append_left _ (List.mem_append_left _ (List.mem_append_left _ (List.mem_append_left _ (List.mem_append_left _ (List.mem_of_getElem? (i := 1) rfl)))))))))) (va_Nw.use rfl hX.2.1.2.1) hc1 hv1 hcl1 ?_
  refine lv_astore (lv' := [(4, .ref q9), (0, .ref (E.2.2 10)), (1, .int (zI h)), (2, .int (zI r)), (3, .ref (E.2.2 102))]) hx hb dL_again_17 hl (by decide) rfl (fun ls hl => ?_)
  refine k_push hx hb dL_again_19 ?_
  exact ends _ _ _ _ dL_again_20 hP1 hS1
abbrev rL_again_b3 : Room := { frames := 7, cells := 1, slots := 6, locals := 162 }
set_option maxHeartbeats 4000000 in
set_option maxRecDepth 100000 in
theorem c_L_again_b3 (l : Launch) (E : kE) (hlst : l.stackTraces = false) (M : kM) (h r : Int) (hh : 0 ≤ h ∧ h < 2) (hW : kWf M) (hr : 1 ≤ r ∧ r ≤ 40 ∧ (M h 1 = 0 ∨ 40 < M h 1 + r)) : kRT l yL_again wsL_again rL_again_b3 E M [.ref (E.2.2 10), .int (zI h), .int (zI r), .ref (E.2.2 102)] 3 := by
  refine kRTh_of (cc := cL_again) (maxL := 5) RL (by decide) rfl rfl (Nat.le_of_ble_eq_true rfl) ?_
  intro pg en s0 mi ar bl me co ls Q S hP hK hX hZ htab ends hl
  have hx := S.1
  have hb := S.2.1
  have hinX00 : ∀ w ∈ wsX00, w ∈ wsL_again := fun w h => List.mem_cons_of_mem _ (List.mem_append_left _ (List.mem_append_left _ (List.mem_append_left _ (List.mem_append_left _ (List.mem_append_left _ (List.mem_append_right _ (h)))))))
  have hinX10 : ∀ w ∈ wsX10, w ∈ wsL_again := fun w h => List.mem_cons_of_mem _ (List.mem_append_left _ (List.mem_append_left _ (List.mem_append_left _ (List.mem_append_left _ (List.mem_append_right _ (h))))))
  have hinX20 : ∀ w ∈ wsX20, w ∈ wsL_again := fun w h => List.mem_cons_of_mem _ (List.mem_append_left _ (List.mem_append_left _ (List.mem_append_left _ (List.mem_append_right _ (h)))))
  have hl : lv_has ls 5 [(0, .ref (E.2.2 10)), (1, .int (zI h)), (2, .int (zI r)), (3, .ref (E.2.2 102))] := hl
  obtain ⟨hn0, hn1, hv⟩ := hW h (by omega)
  obtain ⟨hs0, hs1, hsv⟩ := hW 2 (by omega)
  refine lv_aload_n hx hb dL_again_0 rfl (lv_at hl 3 rfl) ?_
  refine k_push hx hb dL_again_1 ?_
  refine lv_aload_n hx hb dL_again_2 rfl (lv_at hl 0 rfl) ?_
  refine lv_iload_n hx hb dL_again_3 rfl (lv_at hl 1 rfl) ?_
  refine lv_iload_n hx hb dL_again_4 rfl (lv_at hl 2 rfl) ?_
  refine k_thr (k_runVX (As := [.int (zI h), .int (zI r)]) (rest := [.int (zI 0), .ref (E.2.2 102)]) S hK hX hZ hP va_S.rf (c_X2_again_b3 l E hlst M h r (by omega) (by assumption) (by omega)) (cwV 2 S.2.2.2.2 gL_again_X2_again rfl rfl rfl (by decide +kernel) ⟨Nat.le_of_ble_eq_true rfl, Nat.le_of_ble_eq_true rfl⟩) (k_rX hK hP rfl) rfl hl.1 rfl (Nat.le_of_ble_eq_true rfl) dL_again_5 ⟨Nat.le_of_ble_eq_true rfl, Nat.le_of_ble_eq_true rfl⟩) (fun _ _ _ h => h) va_S.rf (fun ce q9 H1 locs1 hP1 hS1 hc1 hv1 hcl1 => ?_)
  refine vx_catch S.2.2.2.1 [⟨0, 10, 13, 13⟩, ⟨0, 10, 17, 15⟩] ⟨0, 10, 21, 17⟩ [] (htab.trans rfl) (k_pass2 (Or.inr ⟨by decide, _, (S.2.2.2.2 _ (List.mem_cons_of_mem _ (List.mem_append_left _ (List.mem_append_left _ (List.mem_append_left _ (List.mem_append_left _ (List.mem_append_left _ (List.mem_append_left _ (List.mem_append_left _ (List.mem_of_getElem? (i := 0) rfl)))))))))), hX.2.2.1.1⟩) (Or.inr ⟨by decide, _, (S.2.2.2.2 _ (List.mem_cons_of_mem _ (List.mem_append_left _ (List.mem_append_left _ (List.mem_append_left _ (List.mem_append_left _ (List.mem_append_left _ (List.mem_append_left _ (List.mem_append_left _ (List.mem_of_getElem? (i := 1) rfl)))))))))), hX.2.2.1.2.1⟩)) (by decide) (by decide) (S.2.2.2.2 _ (List.mem_cons_of_mem _ (List.mem_append_left _ (List.mem_append_left _ (List.mem_append_left _ (List.mem_append_left _ (List.mem_append_left _ (List.mem_append_left _ (List.mem_append_left _ (List.mem_of_getElem? (i := 2) rfl)))))))))) (va_Nw.use rfl hX.2.1.1) hc1 hv1 hcl1 ?_
  refine lv_astore (lv' := [(4, .ref q9), (0, .ref (E.2.2 10)), (1, .int (zI h)), (2, .int (zI r)), (3, .ref (E.2.2 102))]) hx hb dL_again_21 hl (by decide) rfl (fun ls hl => ?_)
  refine k_push hx hb dL_again_23 ?_
  exact ends _ _ _ _ dL_again_24 hP1 hS1
abbrev rL_unpick : Room := { frames := 7, cells := 0, slots := 0, locals := 160 }
set_option maxHeartbeats 4000000 in
set_option maxRecDepth 100000 in
theorem c_L_unpick (l : Launch) (E : kE) (hE : kInj E) (M : kM) (h r : Int) (hh : 0 ≤ h ∧ h < 2) (hW : kWf M) (hr : 1 ≤ r ∧ r ≤ M h 1) : kRW l yL_unpick wsL_unpick rL_unpick E M [.ref (E.2.2 10), .int (zI h), .int (zI r), .ref (E.2.2 102)] (fun z N => z = 0 ∧ ∃ (v : Int) (N1 : kM), ((∀ c k : Int, c ≠ 8 + h → N1 c k = kU M h 1 (M h 1 - r) c k) ∧ kO N1 h ∧ v = M h 1 - r) ∧ N = kU N1 102 0 v) := by
  refine kRWh_of (cc := cL_unpick) (maxL := 5) RL (by decide) rfl rfl (Nat.le_of_ble_eq_true rfl) ?_
  intro pg en s0 mi ar bl me co ls Q S hP hS hK ends hl
  have hx := S.1
  have hb := S.2.1
  have hinX00 : ∀ w ∈ wsX00, w ∈ wsL_unpick := fun w h => List.mem_cons_of_mem _ (List.mem_append_left _ (List.mem_append_left _ (List.mem_append_left _ (List.mem_append_left _ (List.mem_append_right _ (h))))))
  have hinX10 : ∀ w ∈ wsX10, w ∈ wsL_unpick := fun w h => List.mem_cons_of_mem _ (List.mem_append_left _ (List.mem_append_left _ (List.mem_append_left _ (List.mem_append_right _ (h)))))
  have hinX20 : ∀ w ∈ wsX20, w ∈ wsL_unpick := fun w h => List.mem_cons_of_mem _ (List.mem_append_left _ (List.mem_append_left _ (List.mem_append_right _ (h))))
  have hl : lv_has ls 5 [(0, .ref (E.2.2 10)), (1, .int (zI h)), (2, .int (zI r)), (3, .ref (E.2.2 102))] := hl
  obtain ⟨hn0, hn1, hv⟩ := hW h (by omega)
  obtain ⟨hs0, hs1, hsv⟩ := hW 2 (by omega)
  refine lv_aload_n hx hb dL_unpick_0 rfl (lv_at hl 3 rfl) ?_
  refine k_push hx hb dL_unpick_1 ?_
  refine lv_aload_n hx hb dL_unpick_2 rfl (lv_at hl 0 rfl) ?_
  refine lv_iload_n hx hb dL_unpick_3 rfl (lv_at hl 1 rfl) ?_
  refine lv_iload_n hx hb dL_unpick_4 rfl (lv_at hl 2 rfl) ?_
  refine k_callVW (As := [.int (zI h), .int (zI r)]) (rest := [.int (zI 0), .ref (E.2.2 102)]) S hK hP hS (c_X2_unpick l E hE M h r (by omega) (by assumption) (by omega)) (cwV 2 S.2.2.2.2 gL_unpick_X2_unpick rfl rfl rfl (by decide +kernel) ⟨Nat.le_of_ble_eq_true rfl, Nat.le_of_ble_eq_true rfl⟩) (k_rX hK hP rfl) rfl hl.1 rfl (Nat.le_of_ble_eq_true rfl) dL_unpick_5 ⟨Nat.le_of_ble_eq_true rfl, Nat.le_of_ble_eq_true rfl⟩ (fun z_5 M_5 H locs h_5 hP hS => ?_)
  refine k_i2l hx hb dL_unpick_8 (by omega) ?_
  refine k_last S hK hE hP hS dL_unpick_9 (fun H locs hP hS => ?_)
  obtain ⟨M9, eM9⟩ : ∃ N9 : kM, N9 = kU M_5 102 0 z_5 := ⟨_, rfl⟩
  rw [← eM9] at hP
  refine lv_goto (tgt := 21) hx hb dL_unpick_10 (by decide) ?_
  refine k_push hx hb dL_unpick_21 ?_
  refine ends _ _ (0) M9 _ _ dL_unpick_22 hP hS ?_
  exact ⟨rfl, z_5, M_5, h_5, eM9⟩
abbrev rL_unpick_b1 : Room := { frames := 8, cells := 1, slots := 6, locals := 160 }
set_option maxHeartbeats 4000000 in
set_option maxRecDepth 100000 in
theorem c_L_unpick_b1 (l : Launch) (E : kE) (hlst : l.stackTraces = false) (M : kM) (h r : Int) (hb : h < 0 ∨ 2 ≤ h) (h32 : -2147483648 ≤ h ∧ h ≤ 2147483647 ∧ -2147483648 ≤ r ∧ r ≤ 2147483647) : kRT l yL_unpick wsL_unpick rL_unpick_b1 E M [.ref (E.2.2 10), .int (zI h), .int (zI r), .ref (E.2.2 102)] 1 := by
  refine kRTh_of (cc := cL_unpick) (maxL := 5) RL (by decide) rfl rfl (Nat.le_of_ble_eq_true rfl) ?_
  intro pg en s0 mi ar bl me co ls Q S hP hK hX hZ htab ends hl
  have hx := S.1
  have hb := S.2.1
  have hinX00 : ∀ w ∈ wsX00, w ∈ wsL_unpick := fun w h => List.mem_cons_of_mem _ (List.mem_append_left _ (List.mem_append_left _ (List.mem_append_left _ (List.mem_append_left _ (List.mem_append_right _ (h))))))
  have hinX10 : ∀ w ∈ wsX10, w ∈ wsL_unpick := fun w h => List.mem_cons_of_mem _ (List.mem_append_left _ (List.mem_append_left _ (List.mem_append_left _ (List.mem_append_right _ (h)))))
  have hinX20 : ∀ w ∈ wsX20, w ∈ wsL_unpick := fun w h => List.mem_cons_of_mem _ (List.mem_append_left _ (List.mem_append_left _ (List.mem_append_right _ (h))))
  have hl : lv_has ls 5 [(0, .ref (E.2.2 10)), (1, .int (zI h)), (2, .int (zI r)), (3, .ref (E.2.2 102))] := hl
  refine lv_aload_n hx hb dL_unpick_0 rfl (lv_at hl 3 rfl) ?_
  refine k_push hx hb dL_unpick_1 ?_
  refine lv_aload_n hx hb dL_unpick_2 rfl (lv_at hl 0 rfl) ?_
  refine lv_iload_n hx hb dL_unpick_3 rfl (lv_at hl 1 rfl) ?_
  refine lv_iload_n hx hb dL_unpick_4 rfl (lv_at hl 2 rfl) ?_
  refine k_thr (k_runVX (As := [.int (zI h), .int (zI r)]) (rest := [.int (zI 0), .ref (E.2.2 102)]) S hK hX hZ hP va_S.rf (c_X2_unpick_b1 l E hlst M h r (by omega) (by omega)) (cwV 2 S.2.2.2.2 gL_unpick_X2_unpick rfl rfl rfl (by decide +kernel) ⟨Nat.le_of_ble_eq_true rfl, Nat.le_of_ble_eq_true rfl⟩) (k_rX hK hP rfl) rfl hl.1 rfl (Nat.le_of_ble_eq_true rfl) dL_unpick_5 ⟨Nat.le_of_ble_eq_true rfl, Nat.le_of_ble_eq_true rfl⟩) (fun _ _ _ h => h) va_S.rf (fun ce q9 H1 locs1 hP1 hS1 hc1 hv1 hcl1 => ?_)
  refine vx_catch S.2.2.2.1 [] ⟨0, 10, 13, 13⟩ [⟨0, 10, 17, 15⟩] (htab.trans rfl) (k_pass0) (by decide) (by decide) (S.2.2.2.2 _ (List.mem_cons_of_mem _ (List.mem_append_left _ (List.mem_append_left _ (List.mem_append_left _ (List.mem_append_left _ (List.mem_append_left _ (List.mem_append_left _ (List.mem_of_getElem? (i := 0) rfl))))))))) (va_Nw.use rfl hX.2.1.2.2) hc1 hv1 hcl1 ?_
  refine lv_astore (lv' := [(4, .ref q9), (0, .ref (E.2.2 10)), (1, .int (zI h)), (2, .int (zI r)), (3, .ref (E.2.2 102))]) hx hb dL_unpick_13 hl (by decide) rfl (fun ls hl => ?_)
  refine k_push hx hb dL_unpick_15 ?_
  exact ends _ _ _ _ dL_unpick_16 hP1 hS1
abbrev rL_unpick_b2 : Room := { frames := 7, cells := 1, slots := 6, locals := 160 }
set_option maxHeartbeats 4000000 in
set_option maxRecDepth 100000 in
theorem c_L_unpick_b2 (l : Launch) (E : kE) (hlst : l.stackTraces = false) (M : kM) (h r : Int) (hh : 0 ≤ h ∧ h < 2) (hW : kWf M) (hr : r < 1 ∨ M h 1 < r) (h32 : -2147483648 ≤ r ∧ r ≤ 2147483647) : kRT l yL_unpick wsL_unpick rL_unpick_b2 E M [.ref (E.2.2 10), .int (zI h), .int (zI r), .ref (E.2.2 102)] 2 := by
  refine kRTh_of (cc := cL_unpick) (maxL := 5) RL (by decide) rfl rfl (Nat.le_of_ble_eq_true rfl) ?_
  intro pg en s0 mi ar bl me co ls Q S hP hK hX hZ htab ends hl
  have hx := S.1
  have hb := S.2.1
  have hinX00 : ∀ w ∈ wsX00, w ∈ wsL_unpick := fun w h => List.mem_cons_of_mem _ (List.mem_append_left _ (List.mem_append_left _ (List.mem_append_left _ (List.mem_append_left _ (List.mem_append_right _ (h))))))
  have hinX10 : ∀ w ∈ wsX10, w ∈ wsL_unpick := fun w h => List.mem_cons_of_mem _ (List.mem_append_left _ (List.mem_append_left _ (List.mem_append_left _ (List.mem_append_right _ (h)))))
  have hinX20 : ∀ w ∈ wsX20, w ∈ wsL_unpick := fun w h => List.mem_cons_of_mem _ (List.mem_append_left _ (List.mem_append_left _ (List.mem_append_right _ (h))))
  have hl : lv_has ls 5 [(0, .ref (E.2.2 10)), (1, .int (zI h)), (2, .int (zI r)), (3, .ref (E.2.2 102))] := hl
  obtain ⟨hn0, hn1, hv⟩ := hW h (by omega)
  obtain ⟨hs0, hs1, hsv⟩ := hW 2 (by omega)
  refine lv_aload_n hx hb dL_unpick_0 rfl (lv_at hl 3 rfl) ?_
  refine k_push hx hb dL_unpick_1 ?_
  refine lv_aload_n hx hb dL_unpick_2 rfl (lv_at hl 0 rfl) ?_
  refine lv_iload_n hx hb dL_unpick_3 rfl (lv_at hl 1 rfl) ?_
  refine lv_iload_n hx hb dL_unpick_4 rfl (lv_at hl 2 rfl) ?_
  refine k_thr (k_runVX (As := [.int (zI h), .int (zI r)]) (rest := [.int (zI 0), .ref (E.2.2 102)]) S hK hX hZ hP va_S.rf (c_X2_unpick_b2 l E hlst M h r (by omega) (by assumption) (by omega) (by omega)) (cwV 2 S.2.2.2.2 gL_unpick_X2_unpick rfl rfl rfl (by decide +kernel) ⟨Nat.le_of_ble_eq_true rfl, Nat.le_of_ble_eq_true rfl⟩) (k_rX hK hP rfl) rfl hl.1 rfl (Nat.le_of_ble_eq_true rfl) dL_unpick_5 ⟨Nat.le_of_ble_eq_true rfl, Nat.le_of_ble_eq_true rfl⟩) (fun _ _ _ h => h) va_S.rf (fun ce q9 H1 locs1 hP1 hS1 hc1 hv1 hcl1 => ?_)
  refine vx_catch S.2.2.2.1 [⟨0, 10, 13, 13⟩] ⟨0, 10, 17, 15⟩ [] (htab.trans rfl) (k_pass1 (Or.inr ⟨by decide, _, (S.2.2.2.2 _ (List.mem_cons_of_mem _ (List.mem_append_left _ (List.mem_append_left _ (List.mem_append_left _ (List.mem_append_left _ (List.mem_append_left _ (List.mem_append_left _ (List.mem_of_getElem? (i := 0) rfl))))))))), hX.2.2.1.2.2⟩)) (by decide) (by decide) (S.2.2.2.2 _ (List.mem_cons_of_mem _ (List.mem_append_left _ (List.mem_append_left _ (List.mem_append_left _ (List.mem_append_left _ (List.mem_append_left _ (List.mem_append_left _ (List.mem_of_getElem? (i := 1) rfl))))))))) (va_Nw.use rfl hX.2.1.2.1) hc1 hv1 hcl1 ?_
  refine lv_astore (lv' := [(4, .ref q9), (0, .ref (E.2.2 10)), (1, .int (zI h)), (2, .int (zI r)), (3, .ref (E.2.2 102))]) hx hb dL_unpick_17 hl (by decide) rfl (fun ls hl => ?_)
  refine k_push hx hb dL_unpick_19 ?_
  exact ends _ _ _ _ dL_unpick_20 hP1 hS1
abbrev rL_add : Room := { frames := 2, cells := 0, slots := 0, locals := 42 }
set_option maxHeartbeats 4000000 in
set_option maxRecDepth 100000 in
theorem c_L_add (l : Launch) (E : kE) (hE : kInj E) (M : kM) (st : Int) (hW : kWf M) (hst : 0 ≤ st ∧ st ≤ 8) (hlt : M 2 1 < 12) : kRW l yL_add wsL_add rL_add E M [.ref (E.2.2 10), .int (zI st), .ref (E.2.2 102)] (fun z N => z = 0 ∧ ∃ (v : Int) (N1 : kM), (N1 = kU (kU M 5 (M 2 1) st) 2 1 (M 2 1 + 1) ∧ v = M 2 1 + 1) ∧ N = kU N1 102 0 v) := by
  refine kRWh_of (cc := cL_add) (maxL := 4) RL (by decide) rfl rfl (Nat.le_of_ble_eq_true rfl) ?_
  intro pg en s0 mi ar bl me co ls Q S hP hS hK ends hl
  have hx := S.1
  have hb := S.2.1
  have hinX10 : ∀ w ∈ wsX10, w ∈ wsL_add := fun w h => List.mem_cons_of_mem _ (List.mem_append_left _ (List.mem_append_left _ (List.mem_append_right _ (h))))
  have hinX20 : ∀ w ∈ wsX20, w ∈ wsL_add := fun w h => List.mem_cons_of_mem _ (List.mem_append_left _ (List.mem_append_left _ (List.mem_append_left _ (List.mem_append_right _ (h)))))
  have hl : lv_has ls 4 [(0, .ref (E.2.2 10)), (1, .int (zI st)), (2, .ref (E.2.2 102))] := hl
  obtain ⟨hn0, hn1, hv⟩ := hW 0 (by omega)
  obtain ⟨hm0, hm1, hw1⟩ := hW 1 (by omega)
  obtain ⟨hs0, hs1, hsv⟩ := hW 2 (by omega)
  refine lv_aload_n hx hb dL_add_0 rfl (lv_at hl 2 rfl) ?_
  refine k_push hx hb dL_add_1 ?_
  refine lv_aload_n hx hb dL_add_2 rfl (lv_at hl 0 rfl) ?_
  refine lv_iload_n hx hb dL_add_3 rfl (lv_at hl 1 rfl) ?_
  refine k_callVW (As := [.int (zI st)]) (rest := [.int (zI 0), .ref (E.2.2 102)]) S hK hP hS (c_X2_add l E hE M st (by assumption) (by omega) (by omega)) (cwV 1 S.2.2.2.2 gL_add_X2_add rfl rfl rfl (by decide +kernel) ⟨Nat.le_of_ble_eq_true rfl, Nat.le_of_ble_eq_true rfl⟩) (k_rX hK hP rfl) rfl hl.1 rfl (Nat.le_of_ble_eq_true rfl) dL_add_4 ⟨Nat.le_of_ble_eq_true rfl, Nat.le_of_ble_eq_true rfl⟩ (fun z_4 M_4 H locs h_4 hP hS => ?_)
  refine k_i2l hx hb dL_add_7 (by omega) ?_
  refine k_last S hK hE hP hS dL_add_8 (fun H locs hP hS => ?_)
  obtain ⟨M8, eM8⟩ : ∃ N9 : kM, N9 = kU M_4 102 0 z_4 := ⟨_, rfl⟩
  rw [← eM8] at hP
  refine lv_goto (tgt := 18) hx hb dL_add_9 (by decide) ?_
  refine k_push hx hb dL_add_18 ?_
  refine ends _ _ (0) M8 _ _ dL_add_19 hP hS ?_
  exact ⟨rfl, z_4, M_4, h_4, eM8⟩
abbrev rL_add_b1 : Room := { frames := 8, cells := 1, slots := 6, locals := 140 }
set_option maxHeartbeats 4000000 in
set_option maxRecDepth 100000 in
theorem c_L_add_b1 (l : Launch) (E : kE) (hlst : l.stackTraces = false) (M : kM) (st : Int) (hst : st < 0 ∨ 8 < st) (h32 : -2147483648 ≤ st ∧ st ≤ 2147483647) : kRT l yL_add wsL_add rL_add_b1 E M [.ref (E.2.2 10), .int (zI st), .ref (E.2.2 102)] 1 := by
  refine kRTh_of (cc := cL_add) (maxL := 4) RL (by decide) rfl rfl (Nat.le_of_ble_eq_true rfl) ?_
  intro pg en s0 mi ar bl me co ls Q S hP hK hX hZ htab ends hl
  have hx := S.1
  have hb := S.2.1
  have hinX10 : ∀ w ∈ wsX10, w ∈ wsL_add := fun w h => List.mem_cons_of_mem _ (List.mem_append_left _ (List.mem_append_left _ (List.mem_append_right _ (h))))
  have hinX20 : ∀ w ∈ wsX20, w ∈ wsL_add := fun w h => List.mem_cons_of_mem _ (List.mem_append_left _ (List.mem_append_left _ (List.mem_append_left _ (List.mem_append_right _ (h)))))
  have hl : lv_has ls 4 [(0, .ref (E.2.2 10)), (1, .int (zI st)), (2, .ref (E.2.2 102))] := hl
  refine lv_aload_n hx hb dL_add_0 rfl (lv_at hl 2 rfl) ?_
  refine k_push hx hb dL_add_1 ?_
  refine lv_aload_n hx hb dL_add_2 rfl (lv_at hl 0 rfl) ?_
  refine lv_iload_n hx hb dL_add_3 rfl (lv_at hl 1 rfl) ?_
  refine k_thr (k_runVX (As := [.int (zI st)]) (rest := [.int (zI 0), .ref (E.2.2 102)]) S hK hX hZ hP va_S.rf (c_X2_add_b1 l E hlst M st (by omega) (by omega)) (cwV 1 S.2.2.2.2 gL_add_X2_add rfl rfl rfl (by decide +kernel) ⟨Nat.le_of_ble_eq_true rfl, Nat.le_of_ble_eq_true rfl⟩) (k_rX hK hP rfl) rfl hl.1 rfl (Nat.le_of_ble_eq_true rfl) dL_add_4 ⟨Nat.le_of_ble_eq_true rfl, Nat.le_of_ble_eq_true rfl⟩) (fun _ _ _ h => h) va_S.rf (fun ce q9 H1 locs1 hP1 hS1 hc1 hv1 hcl1 => ?_)
  refine vx_catch S.2.2.2.1 [] ⟨0, 9, 12, 15⟩ [⟨0, 9, 15, 17⟩] (htab.trans rfl) (k_pass0) (by decide) (by decide) (S.2.2.2.2 _ (List.mem_cons_of_mem _ (List.mem_append_left _ (List.mem_append_left _ (List.mem_append_left _ (List.mem_append_left _ (List.mem_of_getElem? (i := 0) rfl))))))) (va_Nw.use rfl hX.2.1.2.1) hc1 hv1 hcl1 ?_
  refine lv_astore_n (lv' := [(3, .ref q9), (0, .ref (E.2.2 10)), (1, .int (zI st)), (2, .ref (E.2.2 102))]) hx hb dL_add_12 rfl hl (by decide) rfl (fun ls hl => ?_)
  refine k_push hx hb dL_add_13 ?_
  exact ends _ _ _ _ dL_add_14 hP1 hS1
abbrev rL_add_b2 : Room := { frames := 7, cells := 1, slots := 6, locals := 120 }
set_option maxHeartbeats 4000000 in
set_option maxRecDepth 100000 in
theorem c_L_add_b2 (l : Launch) (E : kE) (hlst : l.stackTraces = false) (M : kM) (st : Int) (hW : kWf M) (hst : 0 ≤ st ∧ st ≤ 8) (hf : 12 ≤ M 2 1) : kRT l yL_add wsL_add rL_add_b2 E M [.ref (E.2.2 10), .int (zI st), .ref (E.2.2 102)] 2 := by
  refine kRTh_of (cc := cL_add) (maxL := 4) RL (by decide) rfl rfl (Nat.le_of_ble_eq_true rfl) ?_
  intro pg en s0 mi ar bl me co ls Q S hP hK hX hZ htab ends hl
  have hx := S.1
  have hb := S.2.1
  have hinX10 : ∀ w ∈ wsX10, w ∈ wsL_add := fun w h => List.mem_cons_of_mem _ (List.mem_append_left _ (List.mem_append_left _ (List.mem_append_right _ (h))))
  have hinX20 : ∀ w ∈ wsX20, w ∈ wsL_add := fun w h => List.mem_cons_of_mem _ (List.mem_append_left _ (List.mem_append_left _ (List.mem_append_left _ (List.mem_append_right _ (h)))))
  have hl : lv_has ls 4 [(0, .ref (E.2.2 10)), (1, .int (zI st)), (2, .ref (E.2.2 102))] := hl
  obtain ⟨hn0, hn1, hv⟩ := hW 0 (by omega)
  obtain ⟨hm0, hm1, hw1⟩ := hW 1 (by omega)
  obtain ⟨hs0, hs1, hsv⟩ := hW 2 (by omega)
  refine lv_aload_n hx hb dL_add_0 rfl (lv_at hl 2 rfl) ?_
  refine k_push hx hb dL_add_1 ?_
  refine lv_aload_n hx hb dL_add_2 rfl (lv_at hl 0 rfl) ?_
  refine lv_iload_n hx hb dL_add_3 rfl (lv_at hl 1 rfl) ?_
  refine k_thr (k_runVX (As := [.int (zI st)]) (rest := [.int (zI 0), .ref (E.2.2 102)]) S hK hX hZ hP va_S.rf (c_X2_add_b2 l E hlst M st (by assumption) (by omega) (by omega)) (cwV 1 S.2.2.2.2 gL_add_X2_add rfl rfl rfl (by decide +kernel) ⟨Nat.le_of_ble_eq_true rfl, Nat.le_of_ble_eq_true rfl⟩) (k_rX hK hP rfl) rfl hl.1 rfl (Nat.le_of_ble_eq_true rfl) dL_add_4 ⟨Nat.le_of_ble_eq_true rfl, Nat.le_of_ble_eq_true rfl⟩) (fun _ _ _ h => h) va_S.rf (fun ce q9 H1 locs1 hP1 hS1 hc1 hv1 hcl1 => ?_)
  refine vx_catch S.2.2.2.1 [⟨0, 9, 12, 15⟩] ⟨0, 9, 15, 17⟩ [] (htab.trans rfl) (k_pass1 (Or.inr ⟨by decide, _, (S.2.2.2.2 _ (List.mem_cons_of_mem _ (List.mem_append_left _ (List.mem_append_left _ (List.mem_append_left _ (List.mem_append_left _ (List.mem_of_getElem? (i := 0) rfl))))))), hX.2.2.1.2.1⟩)) (by decide) (by decide) (S.2.2.2.2 _ (List.mem_cons_of_mem _ (List.mem_append_left _ (List.mem_append_left _ (List.mem_append_left _ (List.mem_append_left _ (List.mem_of_getElem? (i := 1) rfl))))))) (va_Nw.use rfl hX.2.1.1) hc1 hv1 hcl1 ?_
  refine lv_astore_n (lv' := [(3, .ref q9), (0, .ref (E.2.2 10)), (1, .int (zI st)), (2, .ref (E.2.2 102))]) hx hb dL_add_15 rfl hl (by decide) rfl (fun ls hl => ?_)
  refine k_push hx hb dL_add_16 ?_
  exact ends _ _ _ _ dL_add_17 hP1 hS1
abbrev rL_stitch : Room := { frames := 2, cells := 0, slots := 0, locals := 44 }
set_option maxHeartbeats 4000000 in
set_option maxRecDepth 100000 in
theorem c_L_stitch (l : Launch) (E : kE) (hE : kInj E) (M : kM) (h p : Int) (hh : 0 ≤ h ∧ h < 2) (hW : kWf M) (hp : 0 ≤ p ∧ p < M h 1) : kRW l yL_stitch wsL_stitch rL_stitch E M [.ref (E.2.2 10), .int (zI h), .int (zI p), .ref (E.2.2 102)] (fun z N => z = 0 ∧ ∃ v : Int, (v = M (h + 3) p ∧ 0 ≤ v ∧ v ≤ 8) ∧ N = kU M 102 0 v) := by
  refine kRWh_of (cc := cL_stitch) (maxL := 5) RL (by decide) rfl rfl (Nat.le_of_ble_eq_true rfl) ?_
  intro pg en s0 mi ar bl me co ls Q S hP hS hK ends hl
  have hx := S.1
  have hb := S.2.1
  have hinX00 : ∀ w ∈ wsX00, w ∈ wsL_stitch := fun w h => List.mem_cons_of_mem _ (List.mem_append_left _ (List.mem_append_left _ (List.mem_append_left _ (List.mem_append_right _ (h)))))
  have hinX10 : ∀ w ∈ wsX10, w ∈ wsL_stitch := fun w h => List.mem_cons_of_mem _ (List.mem_append_left _ (List.mem_append_right _ (h)))
  have hinX20 : ∀ w ∈ wsX20, w ∈ wsL_stitch := fun w h => List.mem_cons_of_mem _ (List.mem_append_left _ (List.mem_append_left _ (List.mem_append_right _ (h))))
  have hl : lv_has ls 5 [(0, .ref (E.2.2 10)), (1, .int (zI h)), (2, .int (zI p)), (3, .ref (E.2.2 102))] := hl
  obtain ⟨hn0, hn1, hv⟩ := hW h (by omega)
  obtain ⟨hs0, hs1, hsv⟩ := hW 2 (by omega)
  refine lv_aload_n hx hb dL_stitch_0 rfl (lv_at hl 3 rfl) ?_
  refine k_push hx hb dL_stitch_1 ?_
  refine lv_aload_n hx hb dL_stitch_2 rfl (lv_at hl 0 rfl) ?_
  refine lv_iload_n hx hb dL_stitch_3 rfl (lv_at hl 1 rfl) ?_
  refine lv_iload_n hx hb dL_stitch_4 rfl (lv_at hl 2 rfl) ?_
  refine k_callV (As := [.int (zI h), .int (zI p)]) (rest := [.int (zI 0), .ref (E.2.2 102)]) S hK hP (c_X2_stitch l E M h p (by omega) (by assumption) (by omega)) (cwV 2 S.2.2.2.2 gL_stitch_X2_stitch rfl rfl rfl (by decide +kernel) ⟨Nat.le_of_ble_eq_true rfl, Nat.le_of_ble_eq_true rfl⟩) (k_rX hK hP rfl) rfl hl.1 rfl (Nat.le_of_ble_eq_true rfl) dL_stitch_5 ⟨Nat.le_of_ble_eq_true rfl, Nat.le_of_ble_eq_true rfl⟩ (fun z_5 h_5 => ?_)
  refine k_i2l hx hb dL_stitch_8 (by omega) ?_
  refine k_last S hK hE hP hS dL_stitch_9 (fun H locs hP hS => ?_)
  obtain ⟨M9, eM9⟩ : ∃ N9 : kM, N9 = kU M 102 0 z_5 := ⟨_, rfl⟩
  rw [← eM9] at hP
  refine lv_goto (tgt := 17) hx hb dL_stitch_10 (by decide) ?_
  refine k_push hx hb dL_stitch_17 ?_
  refine ends _ _ (0) M9 _ _ dL_stitch_18 hP hS ?_
  exact ⟨rfl, z_5, h_5, eM9⟩
abbrev rL_stitch_b1 : Room := { frames := 8, cells := 1, slots := 6, locals := 143 }
set_option maxHeartbeats 4000000 in
set_option maxRecDepth 100000 in
theorem c_L_stitch_b1 (l : Launch) (E : kE) (hlst : l.stackTraces = false) (M : kM) (h p : Int) (hb : h < 0 ∨ 2 ≤ h) (h32 : -2147483648 ≤ h ∧ h ≤ 2147483647 ∧ -2147483648 ≤ p ∧ p ≤ 2147483647) : kRT l yL_stitch wsL_stitch rL_stitch_b1 E M [.ref (E.2.2 10), .int (zI h), .int (zI p), .ref (E.2.2 102)] 1 := by
  refine kRTh_of (cc := cL_stitch) (maxL := 5) RL (by decide) rfl rfl (Nat.le_of_ble_eq_true rfl) ?_
  intro pg en s0 mi ar bl me co ls Q S hP hK hX hZ htab ends hl
  have hx := S.1
  have hb := S.2.1
  have hinX00 : ∀ w ∈ wsX00, w ∈ wsL_stitch := fun w h => List.mem_cons_of_mem _ (List.mem_append_left _ (List.mem_append_left _ (List.mem_append_left _ (List.mem_append_right _ (h)))))
  have hinX10 : ∀ w ∈ wsX10, w ∈ wsL_stitch := fun w h => List.mem_cons_of_mem _ (List.mem_append_left _ (List.mem_append_right _ (h)))
  have hinX20 : ∀ w ∈ wsX20, w ∈ wsL_stitch := fun w h => List.mem_cons_of_mem _ (List.mem_append_left _ (List.mem_append_left _ (List.mem_append_right _ (h))))
  have hl : lv_has ls 5 [(0, .ref (E.2.2 10)), (1, .int (zI h)), (2, .int (zI p)), (3, .ref (E.2.2 102))] := hl
  refine lv_aload_n hx hb dL_stitch_0 rfl (lv_at hl 3 rfl) ?_
  refine k_push hx hb dL_stitch_1 ?_
  refine lv_aload_n hx hb dL_stitch_2 rfl (lv_at hl 0 rfl) ?_
  refine lv_iload_n hx hb dL_stitch_3 rfl (lv_at hl 1 rfl) ?_
  refine lv_iload_n hx hb dL_stitch_4 rfl (lv_at hl 2 rfl) ?_
  refine k_thr (k_runVX (As := [.int (zI h), .int (zI p)]) (rest := [.int (zI 0), .ref (E.2.2 102)]) S hK hX hZ hP va_S.rf (c_X2_stitch_b1 l E hlst M h p (by omega) (by omega)) (cwV 2 S.2.2.2.2 gL_stitch_X2_stitch rfl rfl rfl (by decide +kernel) ⟨Nat.le_of_ble_eq_true rfl, Nat.le_of_ble_eq_true rfl⟩) (k_rX hK hP rfl) rfl hl.1 rfl (Nat.le_of_ble_eq_true rfl) dL_stitch_5 ⟨Nat.le_of_ble_eq_true rfl, Nat.le_of_ble_eq_true rfl⟩) (fun _ _ _ h => h) va_S.rf (fun ce q9 H1 locs1 hP1 hS1 hc1 hv1 hcl1 => ?_)
  refine vx_catch S.2.2.2.1 [] ⟨0, 10, 13, 13⟩ [] (htab.trans rfl) (k_pass0) (by decide) (by decide) (S.2.2.2.2 _ (List.mem_cons_of_mem _ (List.mem_append_left _ (List.mem_append_left _ (List.mem_append_left _ (List.mem_append_left _ (List.mem_of_getElem? (i := 0) rfl))))))) (va_Nw.use rfl hX.2.1.2.2) hc1 hv1 hcl1 ?_
  refine lv_astore (lv' := [(4, .ref q9), (0, .ref (E.2.2 10)), (1, .int (zI h)), (2, .int (zI p)), (3, .ref (E.2.2 102))]) hx hb dL_stitch_13 hl (by decide) rfl (fun ls hl => ?_)
  refine k_push hx hb dL_stitch_15 ?_
  exact ends _ _ _ _ dL_stitch_16 hP1 hS1
abbrev rL_stitch_b2 : Room := { frames := 8, cells := 1, slots := 6, locals := 143 }
set_option maxHeartbeats 4000000 in
set_option maxRecDepth 100000 in
theorem c_L_stitch_b2 (l : Launch) (E : kE) (hlst : l.stackTraces = false) (M : kM) (h p : Int) (hh : 0 ≤ h ∧ h < 2) (hW : kWf M) (hp : p < 0 ∨ M h 1 ≤ p) (h32 : -2147483648 ≤ p ∧ p ≤ 2147483647) : kRT l yL_stitch wsL_stitch rL_stitch_b2 E M [.ref (E.2.2 10), .int (zI h), .int (zI p), .ref (E.2.2 102)] 1 := by
  refine kRTh_of (cc := cL_stitch) (maxL := 5) RL (by decide) rfl rfl (Nat.le_of_ble_eq_true rfl) ?_
  intro pg en s0 mi ar bl me co ls Q S hP hK hX hZ htab ends hl
  have hx := S.1
  have hb := S.2.1
  have hinX00 : ∀ w ∈ wsX00, w ∈ wsL_stitch := fun w h => List.mem_cons_of_mem _ (List.mem_append_left _ (List.mem_append_left _ (List.mem_append_left _ (List.mem_append_right _ (h)))))
  have hinX10 : ∀ w ∈ wsX10, w ∈ wsL_stitch := fun w h => List.mem_cons_of_mem _ (List.mem_append_left _ (List.mem_append_right _ (h)))
  have hinX20 : ∀ w ∈ wsX20, w ∈ wsL_stitch := fun w h => List.mem_cons_of_mem _ (List.mem_append_left _ (List.mem_append_left _ (List.mem_append_right _ (h))))
  have hl : lv_has ls 5 [(0, .ref (E.2.2 10)), (1, .int (zI h)), (2, .int (zI p)), (3, .ref (E.2.2 102))] := hl
  obtain ⟨hn0, hn1, hv⟩ := hW h (by omega)
  obtain ⟨hs0, hs1, hsv⟩ := hW 2 (by omega)
  refine lv_aload_n hx hb dL_stitch_0 rfl (lv_at hl 3 rfl) ?_
  refine k_push hx hb dL_stitch_1 ?_
  refine lv_aload_n hx hb dL_stitch_2 rfl (lv_at hl 0 rfl) ?_
  refine lv_iload_n hx hb dL_stitch_3 rfl (lv_at hl 1 rfl) ?_
  refine lv_iload_n hx hb dL_stitch_4 rfl (lv_at hl 2 rfl) ?_
  refine k_thr (k_runVX (As := [.int (zI h), .int (zI p)]) (rest := [.int (zI 0), .ref (E.2.2 102)]) S hK hX hZ hP va_S.rf (c_X2_stitch_b2 l E hlst M h p (by omega) (by assumption) (by omega) (by omega)) (cwV 2 S.2.2.2.2 gL_stitch_X2_stitch rfl rfl rfl (by decide +kernel) ⟨Nat.le_of_ble_eq_true rfl, Nat.le_of_ble_eq_true rfl⟩) (k_rX hK hP rfl) rfl hl.1 rfl (Nat.le_of_ble_eq_true rfl) dL_stitch_5 ⟨Nat.le_of_ble_eq_true rfl, Nat.le_of_ble_eq_true rfl⟩) (fun _ _ _ h => h) va_S.rf (fun ce q9 H1 locs1 hP1 hS1 hc1 hv1 hcl1 => ?_)
  refine vx_catch S.2.2.2.1 [] ⟨0, 10, 13, 13⟩ [] (htab.trans rfl) (k_pass0) (by decide) (by decide) (S.2.2.2.2 _ (List.mem_cons_of_mem _ (List.mem_append_left _ (List.mem_append_left _ (List.mem_append_left _ (List.mem_append_left _ (List.mem_of_getElem? (i := 0) rfl))))))) (va_Nw.use rfl hX.2.1.2.2) hc1 hv1 hcl1 ?_
  refine lv_astore (lv' := [(4, .ref q9), (0, .ref (E.2.2 10)), (1, .int (zI h)), (2, .int (zI p)), (3, .ref (E.2.2 102))]) hx hb dL_stitch_13 hl (by decide) rfl (fun ls hl => ?_)
  refine k_push hx hb dL_stitch_15 ?_
  exact ends _ _ _ _ dL_stitch_16 hP1 hS1
abbrev rL_count : Room := { frames := 6, cells := 0, slots := 0, locals := 137 }
set_option maxHeartbeats 4000000 in
set_option maxRecDepth 100000 in
theorem c_L_count (l : Launch) (E : kE) (hE : kInj E) (M : kM) (w : Int) (hW : kWf M) (hO2 : ∀ h : Int, 0 ≤ h ∧ h < 2 → kO M h) (hw : 0 ≤ w ∧ w ≤ 5) : kRW l yL_count wsL_count rL_count E M [.ref (E.2.2 10), .int (zI w), .ref (E.2.2 102)] (fun z N => z = 0 ∧ ∃ v : Int, (kIsCount (M 3) (M 0 1) (M 4) (M 1 1) (M 2 1) w v ∧ -1 ≤ v ∧ v ≤ 1600) ∧ N = kU M 102 0 v) := by
  refine kRWh_of (cc := cL_count) (maxL := 4) RL (by decide) rfl rfl (Nat.le_of_ble_eq_true rfl) ?_
  intro pg en s0 mi ar bl me co ls Q S hP hS hK ends hl
  have hx := S.1
  have hb := S.2.1
  have hinX00 : ∀ w ∈ wsX00, w ∈ wsL_count := fun w h => List.mem_cons_of_mem _ (List.mem_append_left _ (List.mem_append_left _ (List.mem_append_right _ (h))))
  have hinX10 : ∀ w ∈ wsX10, w ∈ wsL_count := fun w h => List.mem_cons_of_mem _ (List.mem_append_left _ (List.mem_append_right _ (h)))
  have hinX20 : ∀ w ∈ wsX20, w ∈ wsL_count := fun w h => List.mem_cons_of_mem _ (List.mem_append_left _ (List.mem_append_left _ (List.mem_append_left _ (List.mem_append_right _ (h)))))
  have hl : lv_has ls 4 [(0, .ref (E.2.2 10)), (1, .int (zI w)), (2, .ref (E.2.2 102))] := hl
  obtain ⟨hn0, hn1, hv⟩ := hW 0 (by omega)
  obtain ⟨hm0, hm1, hw1⟩ := hW 1 (by omega)
  obtain ⟨hs0, hs1, hsv⟩ := hW 2 (by omega)
  refine lv_aload_n hx hb dL_count_0 rfl (lv_at hl 2 rfl) ?_
  refine k_push hx hb dL_count_1 ?_
  refine lv_aload_n hx hb dL_count_2 rfl (lv_at hl 0 rfl) ?_
  refine lv_iload_n hx hb dL_count_3 rfl (lv_at hl 1 rfl) ?_
  refine k_callV (As := [.int (zI w)]) (rest := [.int (zI 0), .ref (E.2.2 102)]) S hK hP (c_X2_count l E M w (by assumption) (by assumption) (by omega)) (cwV 1 S.2.2.2.2 gL_count_X2_count rfl rfl rfl (by decide +kernel) ⟨Nat.le_of_ble_eq_true rfl, Nat.le_of_ble_eq_true rfl⟩) (k_rX hK hP rfl) rfl hl.1 rfl (Nat.le_of_ble_eq_true rfl) dL_count_4 ⟨Nat.le_of_ble_eq_true rfl, Nat.le_of_ble_eq_true rfl⟩ (fun z_4 h_4 => ?_)
  refine k_i2l hx hb dL_count_7 (by omega) ?_
  refine k_last S hK hE hP hS dL_count_8 (fun H locs hP hS => ?_)
  obtain ⟨M8, eM8⟩ : ∃ N9 : kM, N9 = kU M 102 0 z_4 := ⟨_, rfl⟩
  rw [← eM8] at hP
  refine lv_goto (tgt := 15) hx hb dL_count_9 (by decide) ?_
  refine k_push hx hb dL_count_15 ?_
  refine ends _ _ (0) M8 _ _ dL_count_16 hP hS ?_
  exact ⟨rfl, z_4, h_4, eM8⟩
abbrev rL_count_b1 : Room := { frames := 7, cells := 1, slots := 6, locals := 137 }
set_option maxHeartbeats 4000000 in
set_option maxRecDepth 100000 in
theorem c_L_count_b1 (l : Launch) (E : kE) (hlst : l.stackTraces = false) (M : kM) (w : Int) (hw : w < 0 ∨ 5 < w) (h32 : -2147483648 ≤ w ∧ w ≤ 2147483647) : kRT l yL_count wsL_count rL_count_b1 E M [.ref (E.2.2 10), .int (zI w), .ref (E.2.2 102)] 1 := by
  refine kRTh_of (cc := cL_count) (maxL := 4) RL (by decide) rfl rfl (Nat.le_of_ble_eq_true rfl) ?_
  intro pg en s0 mi ar bl me co ls Q S hP hK hX hZ htab ends hl
  have hx := S.1
  have hb := S.2.1
  have hinX00 : ∀ w ∈ wsX00, w ∈ wsL_count := fun w h => List.mem_cons_of_mem _ (List.mem_append_left _ (List.mem_append_left _ (List.mem_append_right _ (h))))
  have hinX10 : ∀ w ∈ wsX10, w ∈ wsL_count := fun w h => List.mem_cons_of_mem _ (List.mem_append_left _ (List.mem_append_right _ (h)))
  have hinX20 : ∀ w ∈ wsX20, w ∈ wsL_count := fun w h => List.mem_cons_of_mem _ (List.mem_append_left _ (List.mem_append_left _ (List.mem_append_left _ (List.mem_append_right _ (h)))))
  have hl : lv_has ls 4 [(0, .ref (E.2.2 10)), (1, .int (zI w)), (2, .ref (E.2.2 102))] := hl
  refine lv_aload_n hx hb dL_count_0 rfl (lv_at hl 2 rfl) ?_
  refine k_push hx hb dL_count_1 ?_
  refine lv_aload_n hx hb dL_count_2 rfl (lv_at hl 0 rfl) ?_
  refine lv_iload_n hx hb dL_count_3 rfl (lv_at hl 1 rfl) ?_
  refine k_thr (k_runVX (As := [.int (zI w)]) (rest := [.int (zI 0), .ref (E.2.2 102)]) S hK hX hZ hP va_S.rf (c_X2_count_b1 l E hlst M w (by omega) (by omega)) (cwV 1 S.2.2.2.2 gL_count_X2_count rfl rfl rfl (by decide +kernel) ⟨Nat.le_of_ble_eq_true rfl, Nat.le_of_ble_eq_true rfl⟩) (k_rX hK hP rfl) rfl hl.1 rfl (Nat.le_of_ble_eq_true rfl) dL_count_4 ⟨Nat.le_of_ble_eq_true rfl, Nat.le_of_ble_eq_true rfl⟩) (fun _ _ _ h => h) va_S.rf (fun ce q9 H1 locs1 hP1 hS1 hc1 hv1 hcl1 => ?_)
  refine vx_catch S.2.2.2.1 [] ⟨0, 9, 12, 13⟩ [] (htab.trans rfl) (k_pass0) (by decide) (by decide) (S.2.2.2.2 _ (List.mem_cons_of_mem _ (List.mem_append_left _ (List.mem_append_left _ (List.mem_append_left _ (List.mem_append_left _ (List.mem_append_left _ (List.mem_of_getElem? (i := 0) rfl)))))))) (va_Nw.use rfl hX.2.1.2.2) hc1 hv1 hcl1 ?_
  refine lv_astore_n (lv' := [(3, .ref q9), (0, .ref (E.2.2 10)), (1, .int (zI w)), (2, .ref (E.2.2 102))]) hx hb dL_count_12 rfl hl (by decide) rfl (fun ls hl => ?_)
  refine k_push hx hb dL_count_13 ?_
  exact ends _ _ _ _ dL_count_14 hP1 hS1
abbrev rL_end : Room := { frames := 2, cells := 0, slots := 0, locals := 44 }
set_option maxHeartbeats 4000000 in
set_option maxRecDepth 100000 in
theorem c_L_end (l : Launch) (E : kE) (hE : kInj E) (M : kM) (h r : Int) (hh : 0 ≤ h ∧ h < 2) (hW : kWf M) (hO2 : ∀ h : Int, 0 ≤ h ∧ h < 2 → kO M h) (hp : 0 ≤ r ∧ r < M h 1) : kRW l yL_end wsL_end rL_end E M [.ref (E.2.2 10), .int (zI h), .int (zI r), .ref (E.2.2 102)] (fun z N => z = 0 ∧ ∃ v : Int, (kIsEnd (M (h + 3)) (M h 1) r v ∧ 0 ≤ v ∧ v < 40) ∧ N = kU M 102 0 v) := by
  refine kRWh_of (cc := cL_end) (maxL := 5) RL (by decide) rfl rfl (Nat.le_of_ble_eq_true rfl) ?_
  intro pg en s0 mi ar bl me co ls Q S hP hS hK ends hl
  have hx := S.1
  have hb := S.2.1
  have hinX00 : ∀ w ∈ wsX00, w ∈ wsL_end := fun w h => List.mem_cons_of_mem _ (List.mem_append_left _ (List.mem_append_left _ (List.mem_append_left _ (List.mem_append_right _ (h)))))
  have hinX10 : ∀ w ∈ wsX10, w ∈ wsL_end := fun w h => List.mem_cons_of_mem _ (List.mem_append_left _ (List.mem_append_right _ (h)))
  have hinX20 : ∀ w ∈ wsX20, w ∈ wsL_end := fun w h => List.mem_cons_of_mem _ (List.mem_append_left _ (List.mem_append_left _ (List.mem_append_right _ (h))))
  have hl : lv_has ls 5 [(0, .ref (E.2.2 10)), (1, .int (zI h)), (2, .int (zI r)), (3, .ref (E.2.2 102))] := hl
  obtain ⟨hn0, hn1, hv⟩ := hW h (by omega)
  obtain ⟨hs0, hs1, hsv⟩ := hW 2 (by omega)
  refine lv_aload_n hx hb dL_end_0 rfl (lv_at hl 3 rfl) ?_
  refine k_push hx hb dL_end_1 ?_
  refine lv_aload_n hx hb dL_end_2 rfl (lv_at hl 0 rfl) ?_
  refine lv_iload_n hx hb dL_end_3 rfl (lv_at hl 1 rfl) ?_
  refine lv_iload_n hx hb dL_end_4 rfl (lv_at hl 2 rfl) ?_
  refine k_callV (As := [.int (zI h), .int (zI r)]) (rest := [.int (zI 0), .ref (E.2.2 102)]) S hK hP (c_X2_end l E M h r (by omega) (by assumption) (by assumption) (by omega)) (cwV 2 S.2.2.2.2 gL_end_X2_end rfl rfl rfl (by decide +kernel) ⟨Nat.le_of_ble_eq_true rfl, Nat.le_of_ble_eq_true rfl⟩) (k_rX hK hP rfl) rfl hl.1 rfl (Nat.le_of_ble_eq_true rfl) dL_end_5 ⟨Nat.le_of_ble_eq_true rfl, Nat.le_of_ble_eq_true rfl⟩ (fun z_5 h_5 => ?_)
  refine k_i2l hx hb dL_end_8 (by omega) ?_
  refine k_last S hK hE hP hS dL_end_9 (fun H locs hP hS => ?_)
  obtain ⟨M9, eM9⟩ : ∃ N9 : kM, N9 = kU M 102 0 z_5 := ⟨_, rfl⟩
  rw [← eM9] at hP
  refine lv_goto (tgt := 17) hx hb dL_end_10 (by decide) ?_
  refine k_push hx hb dL_end_17 ?_
  refine ends _ _ (0) M9 _ _ dL_end_18 hP hS ?_
  exact ⟨rfl, z_5, h_5, eM9⟩
abbrev rL_end_b1 : Room := { frames := 8, cells := 1, slots := 6, locals := 143 }
set_option maxHeartbeats 4000000 in
set_option maxRecDepth 100000 in
theorem c_L_end_b1 (l : Launch) (E : kE) (hlst : l.stackTraces = false) (M : kM) (h r : Int) (hb : h < 0 ∨ 2 ≤ h) (h32 : -2147483648 ≤ h ∧ h ≤ 2147483647 ∧ -2147483648 ≤ r ∧ r ≤ 2147483647) : kRT l yL_end wsL_end rL_end_b1 E M [.ref (E.2.2 10), .int (zI h), .int (zI r), .ref (E.2.2 102)] 1 := by
  refine kRTh_of (cc := cL_end) (maxL := 5) RL (by decide) rfl rfl (Nat.le_of_ble_eq_true rfl) ?_
  intro pg en s0 mi ar bl me co ls Q S hP hK hX hZ htab ends hl
  have hx := S.1
  have hb := S.2.1
  have hinX00 : ∀ w ∈ wsX00, w ∈ wsL_end := fun w h => List.mem_cons_of_mem _ (List.mem_append_left _ (List.mem_append_left _ (List.mem_append_left _ (List.mem_append_right _ (h)))))
  have hinX10 : ∀ w ∈ wsX10, w ∈ wsL_end := fun w h => List.mem_cons_of_mem _ (List.mem_append_left _ (List.mem_append_right _ (h)))
  have hinX20 : ∀ w ∈ wsX20, w ∈ wsL_end := fun w h => List.mem_cons_of_mem _ (List.mem_append_left _ (List.mem_append_left _ (List.mem_append_right _ (h))))
  have hl : lv_has ls 5 [(0, .ref (E.2.2 10)), (1, .int (zI h)), (2, .int (zI r)), (3, .ref (E.2.2 102))] := hl
  refine lv_aload_n hx hb dL_end_0 rfl (lv_at hl 3 rfl) ?_
  refine k_push hx hb dL_end_1 ?_
  refine lv_aload_n hx hb dL_end_2 rfl (lv_at hl 0 rfl) ?_
  refine lv_iload_n hx hb dL_end_3 rfl (lv_at hl 1 rfl) ?_
  refine lv_iload_n hx hb dL_end_4 rfl (lv_at hl 2 rfl) ?_
  refine k_thr (k_runVX (As := [.int (zI h), .int (zI r)]) (rest := [.int (zI 0), .ref (E.2.2 102)]) S hK hX hZ hP va_S.rf (c_X2_end_b1 l E hlst M h r (by omega) (by omega)) (cwV 2 S.2.2.2.2 gL_end_X2_end rfl rfl rfl (by decide +kernel) ⟨Nat.le_of_ble_eq_true rfl, Nat.le_of_ble_eq_true rfl⟩) (k_rX hK hP rfl) rfl hl.1 rfl (Nat.le_of_ble_eq_true rfl) dL_end_5 ⟨Nat.le_of_ble_eq_true rfl, Nat.le_of_ble_eq_true rfl⟩) (fun _ _ _ h => h) va_S.rf (fun ce q9 H1 locs1 hP1 hS1 hc1 hv1 hcl1 => ?_)
  refine vx_catch S.2.2.2.1 [] ⟨0, 10, 13, 13⟩ [] (htab.trans rfl) (k_pass0) (by decide) (by decide) (S.2.2.2.2 _ (List.mem_cons_of_mem _ (List.mem_append_left _ (List.mem_append_left _ (List.mem_append_left _ (List.mem_append_left _ (List.mem_of_getElem? (i := 0) rfl))))))) (va_Nw.use rfl hX.2.1.2.2) hc1 hv1 hcl1 ?_
  refine lv_astore (lv' := [(4, .ref q9), (0, .ref (E.2.2 10)), (1, .int (zI h)), (2, .int (zI r)), (3, .ref (E.2.2 102))]) hx hb dL_end_13 hl (by decide) rfl (fun ls hl => ?_)
  refine k_push hx hb dL_end_15 ?_
  exact ends _ _ _ _ dL_end_16 hP1 hS1
abbrev rL_end_b2 : Room := { frames := 8, cells := 1, slots := 6, locals := 143 }
set_option maxHeartbeats 4000000 in
set_option maxRecDepth 100000 in
theorem c_L_end_b2 (l : Launch) (E : kE) (hlst : l.stackTraces = false) (M : kM) (h r : Int) (hh : 0 ≤ h ∧ h < 2) (hW : kWf M) (hp : r < 0 ∨ M h 1 ≤ r) (h32 : -2147483648 ≤ r ∧ r ≤ 2147483647) : kRT l yL_end wsL_end rL_end_b2 E M [.ref (E.2.2 10), .int (zI h), .int (zI r), .ref (E.2.2 102)] 1 := by
  refine kRTh_of (cc := cL_end) (maxL := 5) RL (by decide) rfl rfl (Nat.le_of_ble_eq_true rfl) ?_
  intro pg en s0 mi ar bl me co ls Q S hP hK hX hZ htab ends hl
  have hx := S.1
  have hb := S.2.1
  have hinX00 : ∀ w ∈ wsX00, w ∈ wsL_end := fun w h => List.mem_cons_of_mem _ (List.mem_append_left _ (List.mem_append_left _ (List.mem_append_left _ (List.mem_append_right _ (h)))))
  have hinX10 : ∀ w ∈ wsX10, w ∈ wsL_end := fun w h => List.mem_cons_of_mem _ (List.mem_append_left _ (List.mem_append_right _ (h)))
  have hinX20 : ∀ w ∈ wsX20, w ∈ wsL_end := fun w h => List.mem_cons_of_mem _ (List.mem_append_left _ (List.mem_append_left _ (List.mem_append_right _ (h))))
  have hl : lv_has ls 5 [(0, .ref (E.2.2 10)), (1, .int (zI h)), (2, .int (zI r)), (3, .ref (E.2.2 102))] := hl
  obtain ⟨hn0, hn1, hv⟩ := hW h (by omega)
  obtain ⟨hs0, hs1, hsv⟩ := hW 2 (by omega)
  refine lv_aload_n hx hb dL_end_0 rfl (lv_at hl 3 rfl) ?_
  refine k_push hx hb dL_end_1 ?_
  refine lv_aload_n hx hb dL_end_2 rfl (lv_at hl 0 rfl) ?_
  refine lv_iload_n hx hb dL_end_3 rfl (lv_at hl 1 rfl) ?_
  refine lv_iload_n hx hb dL_end_4 rfl (lv_at hl 2 rfl) ?_
  refine k_thr (k_runVX (As := [.int (zI h), .int (zI r)]) (rest := [.int (zI 0), .ref (E.2.2 102)]) S hK hX hZ hP va_S.rf (c_X2_end_b2 l E hlst M h r (by omega) (by assumption) (by omega) (by omega)) (cwV 2 S.2.2.2.2 gL_end_X2_end rfl rfl rfl (by decide +kernel) ⟨Nat.le_of_ble_eq_true rfl, Nat.le_of_ble_eq_true rfl⟩) (k_rX hK hP rfl) rfl hl.1 rfl (Nat.le_of_ble_eq_true rfl) dL_end_5 ⟨Nat.le_of_ble_eq_true rfl, Nat.le_of_ble_eq_true rfl⟩) (fun _ _ _ h => h) va_S.rf (fun ce q9 H1 locs1 hP1 hS1 hc1 hv1 hcl1 => ?_)
  refine vx_catch S.2.2.2.1 [] ⟨0, 10, 13, 13⟩ [] (htab.trans rfl) (k_pass0) (by decide) (by decide) (S.2.2.2.2 _ (List.mem_cons_of_mem _ (List.mem_append_left _ (List.mem_append_left _ (List.mem_append_left _ (List.mem_append_left _ (List.mem_of_getElem? (i := 0) rfl))))))) (va_Nw.use rfl hX.2.1.2.2) hc1 hv1 hcl1 ?_
  refine lv_astore (lv' := [(4, .ref q9), (0, .ref (E.2.2 10)), (1, .int (zI h)), (2, .int (zI r)), (3, .ref (E.2.2 102))]) hx hb dL_end_13 hl (by decide) rfl (fun ls hl => ?_)
  refine k_push hx hb dL_end_15 ?_
  exact ends _ _ _ _ dL_end_16 hP1 hS1
abbrev rL_rank : Room := { frames := 3, cells := 0, slots := 0, locals := 66 }
set_option maxHeartbeats 4000000 in
set_option maxRecDepth 100000 in
theorem c_L_rank (l : Launch) (E : kE) (hE : kInj E) (M : kM) (h p : Int) (hh : 0 ≤ h ∧ h < 2) (hW : kWf M) (hO2 : ∀ h : Int, 0 ≤ h ∧ h < 2 → kO M h) (hp : 0 ≤ p ∧ p < M h 1) : kRW l yL_rank wsL_rank rL_rank E M [.ref (E.2.2 10), .int (zI h), .int (zI p), .ref (E.2.2 102)] (fun z N => z = 0 ∧ ∃ v : Int, (v = kRk (M (h + 3)) (M h 1) p ∧ 0 ≤ v ∧ v < 40) ∧ N = kU M 102 0 v) := by
  refine kRWh_of (cc := cL_rank) (maxL := 5) RL (by decide) rfl rfl (Nat.le_of_ble_eq_true rfl) ?_
  intro pg en s0 mi ar bl me co ls Q S hP hS hK ends hl
  have hx := S.1
  have hb := S.2.1
  have hinX00 : ∀ w ∈ wsX00, w ∈ wsL_rank := fun w h => List.mem_cons_of_mem _ (List.mem_append_left _ (List.mem_append_left _ (List.mem_append_left _ (List.mem_append_right _ (h)))))
  have hinX10 : ∀ w ∈ wsX10, w ∈ wsL_rank := fun w h => List.mem_cons_of_mem _ (List.mem_append_left _ (List.mem_append_right _ (h)))
  have hinX20 : ∀ w ∈ wsX20, w ∈ wsL_rank := fun w h => List.mem_cons_of_mem _ (List.mem_append_left _ (List.mem_append_left _ (List.mem_append_right _ (h))))
  have hl : lv_has ls 5 [(0, .ref (E.2.2 10)), (1, .int (zI h)), (2, .int (zI p)), (3, .ref (E.2.2 102))] := hl
  obtain ⟨hn0, hn1, hv⟩ := hW h (by omega)
  obtain ⟨hs0, hs1, hsv⟩ := hW 2 (by omega)
  refine lv_aload_n hx hb dL_rank_0 rfl (lv_at hl 3 rfl) ?_
  refine k_push hx hb dL_rank_1 ?_
  refine lv_aload_n hx hb dL_rank_2 rfl (lv_at hl 0 rfl) ?_
  refine lv_iload_n hx hb dL_rank_3 rfl (lv_at hl 1 rfl) ?_
  refine lv_iload_n hx hb dL_rank_4 rfl (lv_at hl 2 rfl) ?_
  refine k_callV (As := [.int (zI h), .int (zI p)]) (rest := [.int (zI 0), .ref (E.2.2 102)]) S hK hP (c_X2_rank l E M h p (by omega) (by assumption) (by assumption) (by omega)) (cwV 2 S.2.2.2.2 gL_rank_X2_rank rfl rfl rfl (by decide +kernel) ⟨Nat.le_of_ble_eq_true rfl, Nat.le_of_ble_eq_true rfl⟩) (k_rX hK hP rfl) rfl hl.1 rfl (Nat.le_of_ble_eq_true rfl) dL_rank_5 ⟨Nat.le_of_ble_eq_true rfl, Nat.le_of_ble_eq_true rfl⟩ (fun z_5 h_5 => ?_)
  refine k_i2l hx hb dL_rank_8 (by omega) ?_
  refine k_last S hK hE hP hS dL_rank_9 (fun H locs hP hS => ?_)
  obtain ⟨M9, eM9⟩ : ∃ N9 : kM, N9 = kU M 102 0 z_5 := ⟨_, rfl⟩
  rw [← eM9] at hP
  refine lv_goto (tgt := 17) hx hb dL_rank_10 (by decide) ?_
  refine k_push hx hb dL_rank_17 ?_
  refine ends _ _ (0) M9 _ _ dL_rank_18 hP hS ?_
  exact ⟨rfl, z_5, h_5, eM9⟩
abbrev rL_rank_b1 : Room := { frames := 8, cells := 1, slots := 6, locals := 143 }
set_option maxHeartbeats 4000000 in
set_option maxRecDepth 100000 in
theorem c_L_rank_b1 (l : Launch) (E : kE) (hlst : l.stackTraces = false) (M : kM) (h p : Int) (hb : h < 0 ∨ 2 ≤ h) (h32 : -2147483648 ≤ h ∧ h ≤ 2147483647 ∧ -2147483648 ≤ p ∧ p ≤ 2147483647) : kRT l yL_rank wsL_rank rL_rank_b1 E M [.ref (E.2.2 10), .int (zI h), .int (zI p), .ref (E.2.2 102)] 1 := by
  refine kRTh_of (cc := cL_rank) (maxL := 5) RL (by decide) rfl rfl (Nat.le_of_ble_eq_true rfl) ?_
  intro pg en s0 mi ar bl me co ls Q S hP hK hX hZ htab ends hl
  have hx := S.1
  have hb := S.2.1
  have hinX00 : ∀ w ∈ wsX00, w ∈ wsL_rank := fun w h => List.mem_cons_of_mem _ (List.mem_append_left _ (List.mem_append_left _ (List.mem_append_left _ (List.mem_append_right _ (h)))))
  have hinX10 : ∀ w ∈ wsX10, w ∈ wsL_rank := fun w h => List.mem_cons_of_mem _ (List.mem_append_left _ (List.mem_append_right _ (h)))
  have hinX20 : ∀ w ∈ wsX20, w ∈ wsL_rank := fun w h => List.mem_cons_of_mem _ (List.mem_append_left _ (List.mem_append_left _ (List.mem_append_right _ (h))))
  have hl : lv_has ls 5 [(0, .ref (E.2.2 10)), (1, .int (zI h)), (2, .int (zI p)), (3, .ref (E.2.2 102))] := hl
  refine lv_aload_n hx hb dL_rank_0 rfl (lv_at hl 3 rfl) ?_
  refine k_push hx hb dL_rank_1 ?_
  refine lv_aload_n hx hb dL_rank_2 rfl (lv_at hl 0 rfl) ?_
  refine lv_iload_n hx hb dL_rank_3 rfl (lv_at hl 1 rfl) ?_
  refine lv_iload_n hx hb dL_rank_4 rfl (lv_at hl 2 rfl) ?_
  refine k_thr (k_runVX (As := [.int (zI h), .int (zI p)]) (rest := [.int (zI 0), .ref (E.2.2 102)]) S hK hX hZ hP va_S.rf (c_X2_rank_b1 l E hlst M h p (by omega) (by omega)) (cwV 2 S.2.2.2.2 gL_rank_X2_rank rfl rfl rfl (by decide +kernel) ⟨Nat.le_of_ble_eq_true rfl, Nat.le_of_ble_eq_true rfl⟩) (k_rX hK hP rfl) rfl hl.1 rfl (Nat.le_of_ble_eq_true rfl) dL_rank_5 ⟨Nat.le_of_ble_eq_true rfl, Nat.le_of_ble_eq_true rfl⟩) (fun _ _ _ h => h) va_S.rf (fun ce q9 H1 locs1 hP1 hS1 hc1 hv1 hcl1 => ?_)
  refine vx_catch S.2.2.2.1 [] ⟨0, 10, 13, 13⟩ [] (htab.trans rfl) (k_pass0) (by decide) (by decide) (S.2.2.2.2 _ (List.mem_cons_of_mem _ (List.mem_append_left _ (List.mem_append_left _ (List.mem_append_left _ (List.mem_append_left _ (List.mem_append_left _ (List.mem_of_getElem? (i := 0) rfl)))))))) (va_Nw.use rfl hX.2.1.2.2) hc1 hv1 hcl1 ?_
  refine lv_astore (lv' := [(4, .ref q9), (0, .ref (E.2.2 10)), (1, .int (zI h)), (2, .int (zI p)), (3, .ref (E.2.2 102))]) hx hb dL_rank_13 hl (by decide) rfl (fun ls hl => ?_)
  refine k_push hx hb dL_rank_15 ?_
  exact ends _ _ _ _ dL_rank_16 hP1 hS1
abbrev rL_rank_b2 : Room := { frames := 8, cells := 1, slots := 6, locals := 143 }
set_option maxHeartbeats 4000000 in
set_option maxRecDepth 100000 in
theorem c_L_rank_b2 (l : Launch) (E : kE) (hlst : l.stackTraces = false) (M : kM) (h p : Int) (hh : 0 ≤ h ∧ h < 2) (hW : kWf M) (hp : p < 0 ∨ M h 1 ≤ p) (h32 : -2147483648 ≤ p ∧ p ≤ 2147483647) : kRT l yL_rank wsL_rank rL_rank_b2 E M [.ref (E.2.2 10), .int (zI h), .int (zI p), .ref (E.2.2 102)] 1 := by
  refine kRTh_of (cc := cL_rank) (maxL := 5) RL (by decide) rfl rfl (Nat.le_of_ble_eq_true rfl) ?_
  intro pg en s0 mi ar bl me co ls Q S hP hK hX hZ htab ends hl
  have hx := S.1
  have hb := S.2.1
  have hinX00 : ∀ w ∈ wsX00, w ∈ wsL_rank := fun w h => List.mem_cons_of_mem _ (List.mem_append_left _ (List.mem_append_left _ (List.mem_append_left _ (List.mem_append_right _ (h)))))
  have hinX10 : ∀ w ∈ wsX10, w ∈ wsL_rank := fun w h => List.mem_cons_of_mem _ (List.mem_append_left _ (List.mem_append_right _ (h)))
  have hinX20 : ∀ w ∈ wsX20, w ∈ wsL_rank := fun w h => List.mem_cons_of_mem _ (List.mem_append_left _ (List.mem_append_left _ (List.mem_append_right _ (h))))
  have hl : lv_has ls 5 [(0, .ref (E.2.2 10)), (1, .int (zI h)), (2, .int (zI p)), (3, .ref (E.2.2 102))] := hl
  obtain ⟨hn0, hn1, hv⟩ := hW h (by omega)
  obtain ⟨hs0, hs1, hsv⟩ := hW 2 (by omega)
  refine lv_aload_n hx hb dL_rank_0 rfl (lv_at hl 3 rfl) ?_
  refine k_push hx hb dL_rank_1 ?_
  refine lv_aload_n hx hb dL_rank_2 rfl (lv_at hl 0 rfl) ?_
  refine lv_iload_n hx hb dL_rank_3 rfl (lv_at hl 1 rfl) ?_
  refine lv_iload_n hx hb dL_rank_4 rfl (lv_at hl 2 rfl) ?_
  refine k_thr (k_runVX (As := [.int (zI h), .int (zI p)]) (rest := [.int (zI 0), .ref (E.2.2 102)]) S hK hX hZ hP va_S.rf (c_X2_rank_b2 l E hlst M h p (by omega) (by assumption) (by omega) (by omega)) (cwV 2 S.2.2.2.2 gL_rank_X2_rank rfl rfl rfl (by decide +kernel) ⟨Nat.le_of_ble_eq_true rfl, Nat.le_of_ble_eq_true rfl⟩) (k_rX hK hP rfl) rfl hl.1 rfl (Nat.le_of_ble_eq_true rfl) dL_rank_5 ⟨Nat.le_of_ble_eq_true rfl, Nat.le_of_ble_eq_true rfl⟩) (fun _ _ _ h => h) va_S.rf (fun ce q9 H1 locs1 hP1 hS1 hc1 hv1 hcl1 => ?_)
  refine vx_catch S.2.2.2.1 [] ⟨0, 10, 13, 13⟩ [] (htab.trans rfl) (k_pass0) (by decide) (by decide) (S.2.2.2.2 _ (List.mem_cons_of_mem _ (List.mem_append_left _ (List.mem_append_left _ (List.mem_append_left _ (List.mem_append_left _ (List.mem_append_left _ (List.mem_of_getElem? (i := 0) rfl)))))))) (va_Nw.use rfl hX.2.1.2.2) hc1 hv1 hcl1 ?_
  refine lv_astore (lv' := [(4, .ref q9), (0, .ref (E.2.2 10)), (1, .int (zI h)), (2, .int (zI p)), (3, .ref (E.2.2 102))]) hx hb dL_rank_13 hl (by decide) rfl (fun ls hl => ?_)
  refine k_push hx hb dL_rank_15 ?_
  exact ends _ _ _ _ dL_rank_16 hP1 hS1
abbrev rL_common : Room := { frames := 3, cells := 0, slots := 0, locals := 70 }
set_option maxHeartbeats 4000000 in
set_option maxRecDepth 100000 in
theorem c_L_common (l : Launch) (E : kE) (hE : kInj E) (M : kM) (h a b : Int) (hh : 0 ≤ h ∧ h < 2) (hW : kWf M) (hp : 0 ≤ a ∧ a < M h 1 ∧ 0 ≤ b ∧ b < M h 1) : kRW l yL_common wsL_common rL_common E M [.ref (E.2.2 10), .int (zI h), .int (zI a), .int (zI b), .ref (E.2.2 102)] (fun z N => z = 0 ∧ ∃ v : Int, (v = kL (M (h + 3)) (M h 1) a (M (h + 3)) (M h 1) b ∧ 0 ≤ v ∧ v ≤ 40) ∧ N = kU M 102 0 v) := by
  refine kRWh_of (cc := cL_common) (maxL := 6) RL (by decide) rfl rfl (Nat.le_of_ble_eq_true rfl) ?_
  intro pg en s0 mi ar bl me co ls Q S hP hS hK ends hl
  have hx := S.1
  have hb := S.2.1
  have hinX00 : ∀ w ∈ wsX00, w ∈ wsL_common := fun w h => List.mem_cons_of_mem _ (List.mem_append_left _ (List.mem_append_left _ (List.mem_append_left _ (List.mem_append_right _ (h)))))
  have hinX10 : ∀ w ∈ wsX10, w ∈ wsL_common := fun w h => List.mem_cons_of_mem _ (List.mem_append_left _ (List.mem_append_right _ (h)))
  have hinX20 : ∀ w ∈ wsX20, w ∈ wsL_common := fun w h => List.mem_cons_of_mem _ (List.mem_append_left _ (List.mem_append_left _ (List.mem_append_right _ (h))))
  have hl : lv_has ls 6 [(0, .ref (E.2.2 10)), (1, .int (zI h)), (2, .int (zI a)), (3, .int (zI b)), (4, .ref (E.2.2 102))] := hl
  obtain ⟨hn0, hn1, hv⟩ := hW h (by omega)
  obtain ⟨hs0, hs1, hsv⟩ := hW 2 (by omega)
  refine lv_aload hx hb dL_common_0 (lv_at hl 4 rfl) ?_
  refine k_push hx hb dL_common_2 ?_
  refine lv_aload_n hx hb dL_common_3 rfl (lv_at hl 0 rfl) ?_
  refine lv_iload_n hx hb dL_common_4 rfl (lv_at hl 1 rfl) ?_
  refine lv_iload_n hx hb dL_common_5 rfl (lv_at hl 2 rfl) ?_
  refine lv_iload_n hx hb dL_common_6 rfl (lv_at hl 3 rfl) ?_
  refine k_callV (As := [.int (zI h), .int (zI a), .int (zI b)]) (rest := [.int (zI 0), .ref (E.2.2 102)]) S hK hP (c_X2_common l E M h a b (by omega) (by assumption) (by omega)) (cwV 3 S.2.2.2.2 gL_common_X2_common rfl rfl rfl (by decide +kernel) ⟨Nat.le_of_ble_eq_true rfl, Nat.le_of_ble_eq_true rfl⟩) (k_rX hK hP rfl) rfl hl.1 rfl (Nat.le_of_ble_eq_true rfl) dL_common_7 ⟨Nat.le_of_ble_eq_true rfl, Nat.le_of_ble_eq_true rfl⟩ (fun z_7 h_7 => ?_)
  refine k_i2l hx hb dL_common_10 (by omega) ?_
  refine k_last S hK hE hP hS dL_common_11 (fun H locs hP hS => ?_)
  obtain ⟨M11, eM11⟩ : ∃ N9 : kM, N9 = kU M 102 0 z_7 := ⟨_, rfl⟩
  rw [← eM11] at hP
  refine lv_goto (tgt := 19) hx hb dL_common_12 (by decide) ?_
  refine k_push hx hb dL_common_19 ?_
  refine ends _ _ (0) M11 _ _ dL_common_20 hP hS ?_
  exact ⟨rfl, z_7, h_7, eM11⟩
abbrev rL_common_b1 : Room := { frames := 8, cells := 1, slots := 6, locals := 144 }
set_option maxHeartbeats 4000000 in
set_option maxRecDepth 100000 in
theorem c_L_common_b1 (l : Launch) (E : kE) (hlst : l.stackTraces = false) (M : kM) (h a b : Int) (hb : h < 0 ∨ 2 ≤ h) (h32 : -2147483648 ≤ h ∧ h ≤ 2147483647 ∧ -2147483648 ≤ a ∧ a ≤ 2147483647 ∧ -2147483648 ≤ b ∧ b ≤ 2147483647) : kRT l yL_common wsL_common rL_common_b1 E M [.ref (E.2.2 10), .int (zI h), .int (zI a), .int (zI b), .ref (E.2.2 102)] 1 := by
  refine kRTh_of (cc := cL_common) (maxL := 6) RL (by decide) rfl rfl (Nat.le_of_ble_eq_true rfl) ?_
  intro pg en s0 mi ar bl me co ls Q S hP hK hX hZ htab ends hl
  have hx := S.1
  have hb := S.2.1
  have hinX00 : ∀ w ∈ wsX00, w ∈ wsL_common := fun w h => List.mem_cons_of_mem _ (List.mem_append_left _ (List.mem_append_left _ (List.mem_append_left _ (List.mem_append_right _ (h)))))
  have hinX10 : ∀ w ∈ wsX10, w ∈ wsL_common := fun w h => List.mem_cons_of_mem _ (List.mem_append_left _ (List.mem_append_right _ (h)))
  have hinX20 : ∀ w ∈ wsX20, w ∈ wsL_common := fun w h => List.mem_cons_of_mem _ (List.mem_append_left _ (List.mem_append_left _ (List.mem_append_right _ (h))))
  have hl : lv_has ls 6 [(0, .ref (E.2.2 10)), (1, .int (zI h)), (2, .int (zI a)), (3, .int (zI b)), (4, .ref (E.2.2 102))] := hl
  refine lv_aload hx hb dL_common_0 (lv_at hl 4 rfl) ?_
  refine k_push hx hb dL_common_2 ?_
  refine lv_aload_n hx hb dL_common_3 rfl (lv_at hl 0 rfl) ?_
  refine lv_iload_n hx hb dL_common_4 rfl (lv_at hl 1 rfl) ?_
  refine lv_iload_n hx hb dL_common_5 rfl (lv_at hl 2 rfl) ?_
  refine lv_iload_n hx hb dL_common_6 rfl (lv_at hl 3 rfl) ?_
  refine k_thr (k_runVX (As := [.int (zI h), .int (zI a), .int (zI b)]) (rest := [.int (zI 0), .ref (E.2.2 102)]) S hK hX hZ hP va_S.rf (c_X2_common_b1 l E hlst M h a b (by omega) (by omega)) (cwV 3 S.2.2.2.2 gL_common_X2_common rfl rfl rfl (by decide +kernel) ⟨Nat.le_of_ble_eq_true rfl, Nat.le_of_ble_eq_true rfl⟩) (k_rX hK hP rfl) rfl hl.1 rfl (Nat.le_of_ble_eq_true rfl) dL_common_7 ⟨Nat.le_of_ble_eq_true rfl, Nat.le_of_ble_eq_true rfl⟩) (fun _ _ _ h => h) va_S.rf (fun ce q9 H1 locs1 hP1 hS1 hc1 hv1 hcl1 => ?_)
  refine vx_catch S.2.2.2.1 [] ⟨0, 12, 15, 13⟩ [] (htab.trans rfl) (k_pass0) (by decide) (by decide) (S.2.2.2.2 _ (List.mem_cons_of_mem _ (List.mem_append_left _ (List.mem_append_left _ (List.mem_append_left _ (List.mem_append_left _ (List.mem_append_left _ (List.mem_of_getElem? (i := 0) rfl)))))))) (va_Nw.use rfl hX.2.1.2.2) hc1 hv1 hcl1 ?_
  refine lv_astore (lv' := [(5, .ref q9), (0, .ref (E.2.2 10)), (1, .int (zI h)), (2, .int (zI a)), (3, .int (zI b)), (4, .ref (E.2.2 102))]) hx hb dL_common_15 hl (by decide) rfl (fun ls hl => ?_)
  refine k_push hx hb dL_common_17 ?_
  exact ends _ _ _ _ dL_common_18 hP1 hS1
abbrev rL_common_b2 : Room := { frames := 8, cells := 1, slots := 6, locals := 144 }
set_option maxHeartbeats 4000000 in
set_option maxRecDepth 100000 in
theorem c_L_common_b2 (l : Launch) (E : kE) (hlst : l.stackTraces = false) (M : kM) (h a b : Int) (hh : 0 ≤ h ∧ h < 2) (hW : kWf M) (hp : a < 0 ∨ M h 1 ≤ a) (h32 : -2147483648 ≤ a ∧ a ≤ 2147483647 ∧ -2147483648 ≤ b ∧ b ≤ 2147483647) : kRT l yL_common wsL_common rL_common_b2 E M [.ref (E.2.2 10), .int (zI h), .int (zI a), .int (zI b), .ref (E.2.2 102)] 1 := by
  refine kRTh_of (cc := cL_common) (maxL := 6) RL (by decide) rfl rfl (Nat.le_of_ble_eq_true rfl) ?_
  intro pg en s0 mi ar bl me co ls Q S hP hK hX hZ htab ends hl
  have hx := S.1
  have hb := S.2.1
  have hinX00 : ∀ w ∈ wsX00, w ∈ wsL_common := fun w h => List.mem_cons_of_mem _ (List.mem_append_left _ (List.mem_append_left _ (List.mem_append_left _ (List.mem_append_right _ (h)))))
  have hinX10 : ∀ w ∈ wsX10, w ∈ wsL_common := fun w h => List.mem_cons_of_mem _ (List.mem_append_left _ (List.mem_append_right _ (h)))
  have hinX20 : ∀ w ∈ wsX20, w ∈ wsL_common := fun w h => List.mem_cons_of_mem _ (List.mem_append_left _ (List.mem_append_left _ (List.mem_append_right _ (h))))
  have hl : lv_has ls 6 [(0, .ref (E.2.2 10)), (1, .int (zI h)), (2, .int (zI a)), (3, .int (zI b)), (4, .ref (E.2.2 102))] := hl
  obtain ⟨hn0, hn1, hv⟩ := hW h (by omega)
  obtain ⟨hs0, hs1, hsv⟩ := hW 2 (by omega)
  refine lv_aload hx hb dL_common_0 (lv_at hl 4 rfl) ?_
  refine k_push hx hb dL_common_2 ?_
  refine lv_aload_n hx hb dL_common_3 rfl (lv_at hl 0 rfl) ?_
  refine lv_iload_n hx hb dL_common_4 rfl (lv_at hl 1 rfl) ?_
  refine lv_iload_n hx hb dL_common_5 rfl (lv_at hl 2 rfl) ?_
  refine lv_iload_n hx hb dL_common_6 rfl (lv_at hl 3 rfl) ?_
  refine k_thr (k_runVX (As := [.int (zI h), .int (zI a), .int (zI b)]) (rest := [.int (zI 0), .ref (E.2.2 102)]) S hK hX hZ hP va_S.rf (c_X2_common_b2 l E hlst M h a b (by omega) (by assumption) (by omega) (by omega)) (cwV 3 S.2.2.2.2 gL_common_X2_common rfl rfl rfl (by decide +kernel) ⟨Nat.le_of_ble_eq_true rfl, Nat.le_of_ble_eq_true rfl⟩) (k_rX hK hP rfl) rfl hl.1 rfl (Nat.le_of_ble_eq_true rfl) dL_common_7 ⟨Nat.le_of_ble_eq_true rfl, Nat.le_of_ble_eq_true rfl⟩) (fun _ _ _ h => h) va_S.rf (fun ce q9 H1 locs1 hP1 hS1 hc1 hv1 hcl1 => ?_)
  refine vx_catch S.2.2.2.1 [] ⟨0, 12, 15, 13⟩ [] (htab.trans rfl) (k_pass0) (by decide) (by decide) (S.2.2.2.2 _ (List.mem_cons_of_mem _ (List.mem_append_left _ (List.mem_append_left _ (List.mem_append_left _ (List.mem_append_left _ (List.mem_append_left _ (List.mem_of_getElem? (i := 0) rfl)))))))) (va_Nw.use rfl hX.2.1.2.2) hc1 hv1 hcl1 ?_
  refine lv_astore (lv' := [(5, .ref q9), (0, .ref (E.2.2 10)), (1, .int (zI h)), (2, .int (zI a)), (3, .int (zI b)), (4, .ref (E.2.2 102))]) hx hb dL_common_15 hl (by decide) rfl (fun ls hl => ?_)
  refine k_push hx hb dL_common_17 ?_
  exact ends _ _ _ _ dL_common_18 hP1 hS1
abbrev rL_common_b3 : Room := { frames := 8, cells := 1, slots := 6, locals := 144 }
set_option maxHeartbeats 4000000 in
set_option maxRecDepth 100000 in
theorem c_L_common_b3 (l : Launch) (E : kE) (hlst : l.stackTraces = false) (M : kM) (h a b : Int) (hh : 0 ≤ h ∧ h < 2) (hW : kWf M) (ha : 0 ≤ a ∧ a < M h 1) (hp : b < 0 ∨ M h 1 ≤ b) (h32 : -2147483648 ≤ a ∧ a ≤ 2147483647 ∧ -2147483648 ≤ b ∧ b ≤ 2147483647) : kRT l yL_common wsL_common rL_common_b3 E M [.ref (E.2.2 10), .int (zI h), .int (zI a), .int (zI b), .ref (E.2.2 102)] 1 := by
  refine kRTh_of (cc := cL_common) (maxL := 6) RL (by decide) rfl rfl (Nat.le_of_ble_eq_true rfl) ?_
  intro pg en s0 mi ar bl me co ls Q S hP hK hX hZ htab ends hl
  have hx := S.1
  have hb := S.2.1
  have hinX00 : ∀ w ∈ wsX00, w ∈ wsL_common := fun w h => List.mem_cons_of_mem _ (List.mem_append_left _ (List.mem_append_left _ (List.mem_append_left _ (List.mem_append_right _ (h)))))
  have hinX10 : ∀ w ∈ wsX10, w ∈ wsL_common := fun w h => List.mem_cons_of_mem _ (List.mem_append_left _ (List.mem_append_right _ (h)))
  have hinX20 : ∀ w ∈ wsX20, w ∈ wsL_common := fun w h => List.mem_cons_of_mem _ (List.mem_append_left _ (List.mem_append_left _ (List.mem_append_right _ (h))))
  have hl : lv_has ls 6 [(0, .ref (E.2.2 10)), (1, .int (zI h)), (2, .int (zI a)), (3, .int (zI b)), (4, .ref (E.2.2 102))] := hl
  obtain ⟨hn0, hn1, hv⟩ := hW h (by omega)
  obtain ⟨hs0, hs1, hsv⟩ := hW 2 (by omega)
  refine lv_aload hx hb dL_common_0 (lv_at hl 4 rfl) ?_
  refine k_push hx hb dL_common_2 ?_
  refine lv_aload_n hx hb dL_common_3 rfl (lv_at hl 0 rfl) ?_
  refine lv_iload_n hx hb dL_common_4 rfl (lv_at hl 1 rfl) ?_
  refine lv_iload_n hx hb dL_common_5 rfl (lv_at hl 2 rfl) ?_
  refine lv_iload_n hx hb dL_common_6 rfl (lv_at hl 3 rfl) ?_
  refine k_thr (k_runVX (As := [.int (zI h), .int (zI a), .int (zI b)]) (rest := [.int (zI 0), .ref (E.2.2 102)]) S hK hX hZ hP va_S.rf (c_X2_common_b3 l E hlst M h a b (by omega) (by assumption) (by omega) (by omega) (by omega)) (cwV 3 S.2.2.2.2 gL_common_X2_common rfl rfl rfl (by decide +kernel) ⟨Nat.le_of_ble_eq_true rfl, Nat.le_of_ble_eq_true rfl⟩) (k_rX hK hP rfl) rfl hl.1 rfl (Nat.le_of_ble_eq_true rfl) dL_common_7 ⟨Nat.le_of_ble_eq_true rfl, Nat.le_of_ble_eq_true rfl⟩) (fun _ _ _ h => h) va_S.rf (fun ce q9 H1 locs1 hP1 hS1 hc1 hv1 hcl1 => ?_)
  refine vx_catch S.2.2.2.1 [] ⟨0, 12, 15, 13⟩ [] (htab.trans rfl) (k_pass0) (by decide) (by decide) (S.2.2.2.2 _ (List.mem_cons_of_mem _ (List.mem_append_left _ (List.mem_append_left _ (List.mem_append_left _ (List.mem_append_left _ (List.mem_append_left _ (List.mem_of_getElem? (i := 0) rfl)))))))) (va_Nw.use rfl hX.2.1.2.2) hc1 hv1 hcl1 ?_
  refine lv_astore (lv' := [(5, .ref q9), (0, .ref (E.2.2 10)), (1, .int (zI h)), (2, .int (zI a)), (3, .int (zI b)), (4, .ref (E.2.2 102))]) hx hb dL_common_15 hl (by decide) rfl (fun ls hl => ?_)
  refine k_push hx hb dL_common_17 ?_
  exact ends _ _ _ _ dL_common_18 hP1 hS1
abbrev rL_against : Room := { frames := 4, cells := 0, slots := 0, locals := 94 }
set_option maxHeartbeats 4000000 in
set_option maxRecDepth 100000 in
theorem c_L_against (l : Launch) (E : kE) (hE : kInj E) (M : kM) (a b : Int) (hW : kWf M) (hp : 0 ≤ a ∧ a < M 0 1 ∧ 0 ≤ b ∧ b < M 1 1) : kRW l yL_against wsL_against rL_against E M [.ref (E.2.2 10), .int (zI a), .int (zI b), .ref (E.2.2 102)] (fun z N => z = 0 ∧ ∃ v : Int, (kD (M 3) (M 0 1) a (M 4) (M 1 1) b v ∧ -41 ≤ v ∧ v ≤ 41) ∧ N = kU M 102 0 v) := by
  refine kRWh_of (cc := cL_against) (maxL := 5) RL (by decide) rfl rfl (Nat.le_of_ble_eq_true rfl) ?_
  intro pg en s0 mi ar bl me co ls Q S hP hS hK ends hl
  have hx := S.1
  have hb := S.2.1
  have hinX00 : ∀ w ∈ wsX00, w ∈ wsL_against := fun w h => List.mem_cons_of_mem _ (List.mem_append_left _ (List.mem_append_left _ (List.mem_append_right _ (h))))
  have hinX10 : ∀ w ∈ wsX10, w ∈ wsL_against := fun w h => List.mem_cons_of_mem _ (List.mem_append_left _ (List.mem_append_right _ (h)))
  have hinX20 : ∀ w ∈ wsX20, w ∈ wsL_against := fun w h => List.mem_cons_of_mem _ (List.mem_append_left _ (List.mem_append_left _ (List.mem_append_left _ (List.mem_append_right _ (h)))))
  have hl : lv_has ls 5 [(0, .ref (E.2.2 10)), (1, .int (zI a)), (2, .int (zI b)), (3, .ref (E.2.2 102))] := hl
  obtain ⟨hn0, hn1, hv⟩ := hW 0 (by omega)
  obtain ⟨hm0, hm1, hw1⟩ := hW 1 (by omega)
  obtain ⟨hs0, hs1, hsv⟩ := hW 2 (by omega)
  refine lv_aload_n hx hb dL_against_0 rfl (lv_at hl 3 rfl) ?_
  refine k_push hx hb dL_against_1 ?_
  refine lv_aload_n hx hb dL_against_2 rfl (lv_at hl 0 rfl) ?_
  refine lv_iload_n hx hb dL_against_3 rfl (lv_at hl 1 rfl) ?_
  refine lv_iload_n hx hb dL_against_4 rfl (lv_at hl 2 rfl) ?_
  refine k_callV (As := [.int (zI a), .int (zI b)]) (rest := [.int (zI 0), .ref (E.2.2 102)]) S hK hP (c_X2_against l E M a b (by assumption) (by omega)) (cwV 2 S.2.2.2.2 gL_against_X2_against rfl rfl rfl (by decide +kernel) ⟨Nat.le_of_ble_eq_true rfl, Nat.le_of_ble_eq_true rfl⟩) (k_rX hK hP rfl) rfl hl.1 rfl (Nat.le_of_ble_eq_true rfl) dL_against_5 ⟨Nat.le_of_ble_eq_true rfl, Nat.le_of_ble_eq_true rfl⟩ (fun z_5 h_5 => ?_)
  refine k_i2l hx hb dL_against_8 (by omega) ?_
  refine k_last S hK hE hP hS dL_against_9 (fun H locs hP hS => ?_)
  obtain ⟨M9, eM9⟩ : ∃ N9 : kM, N9 = kU M 102 0 z_5 := ⟨_, rfl⟩
  rw [← eM9] at hP
  refine lv_goto (tgt := 17) hx hb dL_against_10 (by decide) ?_
  refine k_push hx hb dL_against_17 ?_
  refine ends _ _ (0) M9 _ _ dL_against_18 hP hS ?_
  exact ⟨rfl, z_5, h_5, eM9⟩
abbrev rL_against_b1 : Room := { frames := 8, cells := 1, slots := 6, locals := 142 }
set_option maxHeartbeats 4000000 in
set_option maxRecDepth 100000 in
theorem c_L_against_b1 (l : Launch) (E : kE) (hlst : l.stackTraces = false) (M : kM) (a b : Int) (hW : kWf M) (hp : a < 0 ∨ M 0 1 ≤ a) (h32 : -2147483648 ≤ a ∧ a ≤ 2147483647 ∧ -2147483648 ≤ b ∧ b ≤ 2147483647) : kRT l yL_against wsL_against rL_against_b1 E M [.ref (E.2.2 10), .int (zI a), .int (zI b), .ref (E.2.2 102)] 1 := by
  refine kRTh_of (cc := cL_against) (maxL := 5) RL (by decide) rfl rfl (Nat.le_of_ble_eq_true rfl) ?_
  intro pg en s0 mi ar bl me co ls Q S hP hK hX hZ htab ends hl
  have hx := S.1
  have hb := S.2.1
  have hinX00 : ∀ w ∈ wsX00, w ∈ wsL_against := fun w h => List.mem_cons_of_mem _ (List.mem_append_left _ (List.mem_append_left _ (List.mem_append_right _ (h))))
  have hinX10 : ∀ w ∈ wsX10, w ∈ wsL_against := fun w h => List.mem_cons_of_mem _ (List.mem_append_left _ (List.mem_append_right _ (h)))
  have hinX20 : ∀ w ∈ wsX20, w ∈ wsL_against := fun w h => List.mem_cons_of_mem _ (List.mem_append_left _ (List.mem_append_left _ (List.mem_append_left _ (List.mem_append_right _ (h)))))
  have hl : lv_has ls 5 [(0, .ref (E.2.2 10)), (1, .int (zI a)), (2, .int (zI b)), (3, .ref (E.2.2 102))] := hl
  obtain ⟨hn0, hn1, hv⟩ := hW 0 (by omega)
  obtain ⟨hm0, hm1, hw1⟩ := hW 1 (by omega)
  obtain ⟨hs0, hs1, hsv⟩ := hW 2 (by omega)
  refine lv_aload_n hx hb dL_against_0 rfl (lv_at hl 3 rfl) ?_
  refine k_push hx hb dL_against_1 ?_
  refine lv_aload_n hx hb dL_against_2 rfl (lv_at hl 0 rfl) ?_
  refine lv_iload_n hx hb dL_against_3 rfl (lv_at hl 1 rfl) ?_
  refine lv_iload_n hx hb dL_against_4 rfl (lv_at hl 2 rfl) ?_
  refine k_thr (k_runVX (As := [.int (zI a), .int (zI b)]) (rest := [.int (zI 0), .ref (E.2.2 102)]) S hK hX hZ hP va_S.rf (c_X2_against_b1 l E hlst M a b (by assumption) (by omega) (by omega)) (cwV 2 S.2.2.2.2 gL_against_X2_against rfl rfl rfl (by decide +kernel) ⟨Nat.le_of_ble_eq_true rfl, Nat.le_of_ble_eq_true rfl⟩) (k_rX hK hP rfl) rfl hl.1 rfl (Nat.le_of_ble_eq_true rfl) dL_against_5 ⟨Nat.le_of_ble_eq_true rfl, Nat.le_of_ble_eq_true rfl⟩) (fun _ _ _ h => h) va_S.rf (fun ce q9 H1 locs1 hP1 hS1 hc1 hv1 hcl1 => ?_)
  refine vx_catch S.2.2.2.1 [] ⟨0, 10, 13, 13⟩ [] (htab.trans rfl) (k_pass0) (by decide) (by decide) (S.2.2.2.2 _ (List.mem_cons_of_mem _ (List.mem_append_left _ (List.mem_append_left _ (List.mem_append_left _ (List.mem_append_left _ (List.mem_append_left _ (List.mem_of_getElem? (i := 0) rfl)))))))) (va_Nw.use rfl hX.2.1.2.2) hc1 hv1 hcl1 ?_
  refine lv_astore (lv' := [(4, .ref q9), (0, .ref (E.2.2 10)), (1, .int (zI a)), (2, .int (zI b)), (3, .ref (E.2.2 102))]) hx hb dL_against_13 hl (by decide) rfl (fun ls hl => ?_)
  refine k_push hx hb dL_against_15 ?_
  exact ends _ _ _ _ dL_against_16 hP1 hS1
abbrev rL_against_b2 : Room := { frames := 8, cells := 1, slots := 6, locals := 142 }
set_option maxHeartbeats 4000000 in
set_option maxRecDepth 100000 in
theorem c_L_against_b2 (l : Launch) (E : kE) (hlst : l.stackTraces = false) (M : kM) (a b : Int) (hW : kWf M) (ha : 0 ≤ a ∧ a < M 0 1) (hp : b < 0 ∨ M 1 1 ≤ b) (h32 : -2147483648 ≤ a ∧ a ≤ 2147483647 ∧ -2147483648 ≤ b ∧ b ≤ 2147483647) : kRT l yL_against wsL_against rL_against_b2 E M [.ref (E.2.2 10), .int (zI a), .int (zI b), .ref (E.2.2 102)] 1 := by
  refine kRTh_of (cc := cL_against) (maxL := 5) RL (by decide) rfl rfl (Nat.le_of_ble_eq_true rfl) ?_
  intro pg en s0 mi ar bl me co ls Q S hP hK hX hZ htab ends hl
  have hx := S.1
  have hb := S.2.1
  have hinX00 : ∀ w ∈ wsX00, w ∈ wsL_against := fun w h => List.mem_cons_of_mem _ (List.mem_append_left _ (List.mem_append_left _ (List.mem_append_right _ (h))))
  have hinX10 : ∀ w ∈ wsX10, w ∈ wsL_against := fun w h => List.mem_cons_of_mem _ (List.mem_append_left _ (List.mem_append_right _ (h)))
  have hinX20 : ∀ w ∈ wsX20, w ∈ wsL_against := fun w h => List.mem_cons_of_mem _ (List.mem_append_left _ (List.mem_append_left _ (List.mem_append_left _ (List.mem_append_right _ (h)))))
  have hl : lv_has ls 5 [(0, .ref (E.2.2 10)), (1, .int (zI a)), (2, .int (zI b)), (3, .ref (E.2.2 102))] := hl
  obtain ⟨hn0, hn1, hv⟩ := hW 0 (by omega)
  obtain ⟨hm0, hm1, hw1⟩ := hW 1 (by omega)
  obtain ⟨hs0, hs1, hsv⟩ := hW 2 (by omega)
  refine lv_aload_n hx hb dL_against_0 rfl (lv_at hl 3 rfl) ?_
  refine k_push hx hb dL_against_1 ?_
  refine lv_aload_n hx hb dL_against_2 rfl (lv_at hl 0 rfl) ?_
  refine lv_iload_n hx hb dL_against_3 rfl (lv_at hl 1 rfl) ?_
  refine lv_iload_n hx hb dL_against_4 rfl (lv_at hl 2 rfl) ?_
  refine k_thr (k_runVX (As := [.int (zI a), .int (zI b)]) (rest := [.int (zI 0), .ref (E.2.2 102)]) S hK hX hZ hP va_S.rf (c_X2_against_b2 l E hlst M a b (by assumption) (by omega) (by omega) (by omega)) (cwV 2 S.2.2.2.2 gL_against_X2_against rfl rfl rfl (by decide +kernel) ⟨Nat.le_of_ble_eq_true rfl, Nat.le_of_ble_eq_true rfl⟩) (k_rX hK hP rfl) rfl hl.1 rfl (Nat.le_of_ble_eq_true rfl) dL_against_5 ⟨Nat.le_of_ble_eq_true rfl, Nat.le_of_ble_eq_true rfl⟩) (fun _ _ _ h => h) va_S.rf (fun ce q9 H1 locs1 hP1 hS1 hc1 hv1 hcl1 => ?_)
  refine vx_catch S.2.2.2.1 [] ⟨0, 10, 13, 13⟩ [] (htab.trans rfl) (k_pass0) (by decide) (by decide) (S.2.2.2.2 _ (List.mem_cons_of_mem _ (List.mem_append_left _ (List.mem_append_left _ (List.mem_append_left _ (List.mem_append_left _ (List.mem_append_left _ (List.mem_of_getElem? (i := 0) rfl)))))))) (va_Nw.use rfl hX.2.1.2.2) hc1 hv1 hcl1 ?_
  refine lv_astore (lv' := [(4, .ref q9), (0, .ref (E.2.2 10)), (1, .int (zI a)), (2, .int (zI b)), (3, .ref (E.2.2 102))]) hx hb dL_against_13 hl (by decide) rfl (fun ls hl => ?_)
  refine k_push hx hb dL_against_15 ?_
  exact ends _ _ _ _ dL_against_16 hP1 hS1
abbrev rL_repeat : Room := { frames := 5, cells := 0, slots := 0, locals := 121 }
set_option maxHeartbeats 4000000 in
set_option maxRecDepth 100000 in
theorem c_L_repeat (l : Launch) (E : kE) (hE : kInj E) (M : kM) (h w : Int) (hh : 0 ≤ h ∧ h < 2) (hW : kWf M) (hO2 : ∀ h : Int, 0 ≤ h ∧ h < 2 → kO M h) (hw : 0 ≤ w ∧ w ≤ 2) : kRW l yL_repeat wsL_repeat rL_repeat E M [.ref (E.2.2 10), .int (zI h), .int (zI w), .ref (E.2.2 102)] (fun z N => z = 0 ∧ ∃ v : Int, (kIsRep (M (h + 3)) (M h 1) w v ∧ -1 ≤ v ∧ v ≤ 40) ∧ N = kU M 102 0 v) := by
  refine kRWh_of (cc := cL_repeat) (maxL := 5) RL (by decide) rfl rfl (Nat.le_of_ble_eq_true rfl) ?_
  intro pg en s0 mi ar bl me co ls Q S hP hS hK ends hl
  have hx := S.1
  have hb := S.2.1
  have hinX00 : ∀ w ∈ wsX00, w ∈ wsL_repeat := fun w h => List.mem_cons_of_mem _ (List.mem_append_left _ (List.mem_append_left _ (List.mem_append_left _ (List.mem_append_right _ (h)))))
  have hinX10 : ∀ w ∈ wsX10, w ∈ wsL_repeat := fun w h => List.mem_cons_of_mem _ (List.mem_append_left _ (List.mem_append_right _ (h)))
  have hinX20 : ∀ w ∈ wsX20, w ∈ wsL_repeat := fun w h => List.mem_cons_of_mem _ (List.mem_append_left _ (List.mem_append_left _ (List.mem_append_right _ (h))))
  have hl : lv_has ls 5 [(0, .ref (E.2.2 10)), (1, .int (zI h)), (2, .int (zI w)), (3, .ref (E.2.2 102))] := hl
  obtain ⟨hn0, hn1, hv⟩ := hW h (by omega)
  obtain ⟨hs0, hs1, hsv⟩ := hW 2 (by omega)
  refine lv_aload_n hx hb dL_repeat_0 rfl (lv_at hl 3 rfl) ?_
  refine k_push hx hb dL_repeat_1 ?_
  refine lv_aload_n hx hb dL_repeat_2 rfl (lv_at hl 0 rfl) ?_
  refine lv_iload_n hx hb dL_repeat_3 rfl (lv_at hl 1 rfl) ?_
  refine lv_iload_n hx hb dL_repeat_4 rfl (lv_at hl 2 rfl) ?_
  refine k_callV (As := [.int (zI h), .int (zI w)]) (rest := [.int (zI 0), .ref (E.2.2 102)]) S hK hP (c_X2_repeat l E M h w (by omega) (by assumption) (by assumption) (by omega)) (cwV 2 S.2.2.2.2 gL_repeat_X2_repeat rfl rfl rfl (by decide +kernel) ⟨Nat.le_of_ble_eq_true rfl, Nat.le_of_ble_eq_true rfl⟩) (k_rX hK hP rfl) rfl hl.1 rfl (Nat.le_of_ble_eq_true rfl) dL_repeat_5 ⟨Nat.le_of_ble_eq_true rfl, Nat.le_of_ble_eq_true rfl⟩ (fun z_5 h_5 => ?_)
  refine k_i2l hx hb dL_repeat_8 (by omega) ?_
  refine k_last S hK hE hP hS dL_repeat_9 (fun H locs hP hS => ?_)
  obtain ⟨M9, eM9⟩ : ∃ N9 : kM, N9 = kU M 102 0 z_5 := ⟨_, rfl⟩
  rw [← eM9] at hP
  refine lv_goto (tgt := 17) hx hb dL_repeat_10 (by decide) ?_
  refine k_push hx hb dL_repeat_17 ?_
  refine ends _ _ (0) M9 _ _ dL_repeat_18 hP hS ?_
  exact ⟨rfl, z_5, h_5, eM9⟩
abbrev rL_repeat_b1 : Room := { frames := 8, cells := 1, slots := 6, locals := 146 }
set_option maxHeartbeats 4000000 in
set_option maxRecDepth 100000 in
theorem c_L_repeat_b1 (l : Launch) (E : kE) (hlst : l.stackTraces = false) (M : kM) (h w : Int) (hb : h < 0 ∨ 2 ≤ h) (h32 : -2147483648 ≤ h ∧ h ≤ 2147483647 ∧ -2147483648 ≤ w ∧ w ≤ 2147483647) : kRT l yL_repeat wsL_repeat rL_repeat_b1 E M [.ref (E.2.2 10), .int (zI h), .int (zI w), .ref (E.2.2 102)] 1 := by
  refine kRTh_of (cc := cL_repeat) (maxL := 5) RL (by decide) rfl rfl (Nat.le_of_ble_eq_true rfl) ?_
  intro pg en s0 mi ar bl me co ls Q S hP hK hX hZ htab ends hl
  have hx := S.1
  have hb := S.2.1
  have hinX00 : ∀ w ∈ wsX00, w ∈ wsL_repeat := fun w h => List.mem_cons_of_mem _ (List.mem_append_left _ (List.mem_append_left _ (List.mem_append_left _ (List.mem_append_right _ (h)))))
  have hinX10 : ∀ w ∈ wsX10, w ∈ wsL_repeat := fun w h => List.mem_cons_of_mem _ (List.mem_append_left _ (List.mem_append_right _ (h)))
  have hinX20 : ∀ w ∈ wsX20, w ∈ wsL_repeat := fun w h => List.mem_cons_of_mem _ (List.mem_append_left _ (List.mem_append_left _ (List.mem_append_right _ (h))))
  have hl : lv_has ls 5 [(0, .ref (E.2.2 10)), (1, .int (zI h)), (2, .int (zI w)), (3, .ref (E.2.2 102))] := hl
  refine lv_aload_n hx hb dL_repeat_0 rfl (lv_at hl 3 rfl) ?_
  refine k_push hx hb dL_repeat_1 ?_
  refine lv_aload_n hx hb dL_repeat_2 rfl (lv_at hl 0 rfl) ?_
  refine lv_iload_n hx hb dL_repeat_3 rfl (lv_at hl 1 rfl) ?_
  refine lv_iload_n hx hb dL_repeat_4 rfl (lv_at hl 2 rfl) ?_
  refine k_thr (k_runVX (As := [.int (zI h), .int (zI w)]) (rest := [.int (zI 0), .ref (E.2.2 102)]) S hK hX hZ hP va_S.rf (c_X2_repeat_b1 l E hlst M h w (by omega) (by omega)) (cwV 2 S.2.2.2.2 gL_repeat_X2_repeat rfl rfl rfl (by decide +kernel) ⟨Nat.le_of_ble_eq_true rfl, Nat.le_of_ble_eq_true rfl⟩) (k_rX hK hP rfl) rfl hl.1 rfl (Nat.le_of_ble_eq_true rfl) dL_repeat_5 ⟨Nat.le_of_ble_eq_true rfl, Nat.le_of_ble_eq_true rfl⟩) (fun _ _ _ h => h) va_S.rf (fun ce q9 H1 locs1 hP1 hS1 hc1 hv1 hcl1 => ?_)
  refine vx_catch S.2.2.2.1 [] ⟨0, 10, 13, 13⟩ [] (htab.trans rfl) (k_pass0) (by decide) (by decide) (S.2.2.2.2 _ (List.mem_cons_of_mem _ (List.mem_append_left _ (List.mem_append_left _ (List.mem_append_left _ (List.mem_append_left _ (List.mem_append_left _ (List.mem_of_getElem? (i := 0) rfl)))))))) (va_Nw.use rfl hX.2.1.2.2) hc1 hv1 hcl1 ?_
  refine lv_astore (lv' := [(4, .ref q9), (0, .ref (E.2.2 10)), (1, .int (zI h)), (2, .int (zI w)), (3, .ref (E.2.2 102))]) hx hb dL_repeat_13 hl (by decide) rfl (fun ls hl => ?_)
  refine k_push hx hb dL_repeat_15 ?_
  exact ends _ _ _ _ dL_repeat_16 hP1 hS1
abbrev rL_repeat_b2 : Room := { frames := 7, cells := 1, slots := 6, locals := 125 }
set_option maxHeartbeats 4000000 in
set_option maxRecDepth 100000 in
theorem c_L_repeat_b2 (l : Launch) (E : kE) (hlst : l.stackTraces = false) (M : kM) (h w : Int) (hh : 0 ≤ h ∧ h < 2) (hw : w < 0 ∨ 2 < w) (h32 : -2147483648 ≤ w ∧ w ≤ 2147483647) : kRT l yL_repeat wsL_repeat rL_repeat_b2 E M [.ref (E.2.2 10), .int (zI h), .int (zI w), .ref (E.2.2 102)] 1 := by
  refine kRTh_of (cc := cL_repeat) (maxL := 5) RL (by decide) rfl rfl (Nat.le_of_ble_eq_true rfl) ?_
  intro pg en s0 mi ar bl me co ls Q S hP hK hX hZ htab ends hl
  have hx := S.1
  have hb := S.2.1
  have hinX00 : ∀ w ∈ wsX00, w ∈ wsL_repeat := fun w h => List.mem_cons_of_mem _ (List.mem_append_left _ (List.mem_append_left _ (List.mem_append_left _ (List.mem_append_right _ (h)))))
  have hinX10 : ∀ w ∈ wsX10, w ∈ wsL_repeat := fun w h => List.mem_cons_of_mem _ (List.mem_append_left _ (List.mem_append_right _ (h)))
  have hinX20 : ∀ w ∈ wsX20, w ∈ wsL_repeat := fun w h => List.mem_cons_of_mem _ (List.mem_append_left _ (List.mem_append_left _ (List.mem_append_right _ (h))))
  have hl : lv_has ls 5 [(0, .ref (E.2.2 10)), (1, .int (zI h)), (2, .int (zI w)), (3, .ref (E.2.2 102))] := hl
  refine lv_aload_n hx hb dL_repeat_0 rfl (lv_at hl 3 rfl) ?_
  refine k_push hx hb dL_repeat_1 ?_
  refine lv_aload_n hx hb dL_repeat_2 rfl (lv_at hl 0 rfl) ?_
  refine lv_iload_n hx hb dL_repeat_3 rfl (lv_at hl 1 rfl) ?_
  refine lv_iload_n hx hb dL_repeat_4 rfl (lv_at hl 2 rfl) ?_
  refine k_thr (k_runVX (As := [.int (zI h), .int (zI w)]) (rest := [.int (zI 0), .ref (E.2.2 102)]) S hK hX hZ hP va_S.rf (c_X2_repeat_b2 l E hlst M h w (by omega) (by omega) (by omega)) (cwV 2 S.2.2.2.2 gL_repeat_X2_repeat rfl rfl rfl (by decide +kernel) ⟨Nat.le_of_ble_eq_true rfl, Nat.le_of_ble_eq_true rfl⟩) (k_rX hK hP rfl) rfl hl.1 rfl (Nat.le_of_ble_eq_true rfl) dL_repeat_5 ⟨Nat.le_of_ble_eq_true rfl, Nat.le_of_ble_eq_true rfl⟩) (fun _ _ _ h => h) va_S.rf (fun ce q9 H1 locs1 hP1 hS1 hc1 hv1 hcl1 => ?_)
  refine vx_catch S.2.2.2.1 [] ⟨0, 10, 13, 13⟩ [] (htab.trans rfl) (k_pass0) (by decide) (by decide) (S.2.2.2.2 _ (List.mem_cons_of_mem _ (List.mem_append_left _ (List.mem_append_left _ (List.mem_append_left _ (List.mem_append_left _ (List.mem_append_left _ (List.mem_of_getElem? (i := 0) rfl)))))))) (va_Nw.use rfl hX.2.1.2.2) hc1 hv1 hcl1 ?_
  refine lv_astore (lv' := [(4, .ref q9), (0, .ref (E.2.2 10)), (1, .int (zI h)), (2, .int (zI w)), (3, .ref (E.2.2 102))]) hx hb dL_repeat_13 hl (by decide) rfl (fun ls hl => ?_)
  refine k_push hx hb dL_repeat_15 ?_
  exact ends _ _ _ _ dL_repeat_16 hP1 hS1
abbrev rL_row : Room := { frames := 6, cells := 0, slots := 0, locals := 142 }
set_option maxHeartbeats 4000000 in
set_option maxRecDepth 100000 in
theorem c_L_row (l : Launch) (E : kE) (hE : kInj E) (M : kM) (h num : Int) (hh : 0 ≤ h ∧ h < 2) (hW : kWf M) (hO2 : ∀ h : Int, 0 ≤ h ∧ h < 2 → kO M h) (hnum : 0 ≤ num ∧ num < kTot (M (h + 3)) (M h 1) ∧ num ≤ 2147483647) : kRW l yL_row wsL_row rL_row E M [.ref (E.2.2 10), .int (zI h), .int (zI num), .ref (E.2.2 102)] (fun z N => z = 0 ∧ ∃ v : Int, (kIsRow (M (h + 3)) (M h 1) num v ∧ -100 ≤ v ∧ v ≤ 3000) ∧ N = kU M 102 0 v) := by
  refine kRWh_of (cc := cL_row) (maxL := 5) RL (by decide) rfl rfl (Nat.le_of_ble_eq_true rfl) ?_
  intro pg en s0 mi ar bl me co ls Q S hP hS hK ends hl
  have hx := S.1
  have hb := S.2.1
  have hinX00 : ∀ w ∈ wsX00, w ∈ wsL_row := fun w h => List.mem_cons_of_mem _ (List.mem_append_left _ (List.mem_append_left _ (List.mem_append_right _ (h))))
  have hinX10 : ∀ w ∈ wsX10, w ∈ wsL_row := fun w h => List.mem_cons_of_mem _ (List.mem_append_left _ (List.mem_append_right _ (h)))
  have hinX20 : ∀ w ∈ wsX20, w ∈ wsL_row := fun w h => List.mem_cons_of_mem _ (List.mem_append_left _ (List.mem_append_left _ (List.mem_append_left _ (List.mem_append_right _ (h)))))
  have hl : lv_has ls 5 [(0, .ref (E.2.2 10)), (1, .int (zI h)), (2, .int (zI num)), (3, .ref (E.2.2 102))] := hl
  obtain ⟨hn0, hn1, hv⟩ := hW h (by omega)
  obtain ⟨hs0, hs1, hsv⟩ := hW 2 (by omega)
  refine lv_aload_n hx hb dL_row_0 rfl (lv_at hl 3 rfl) ?_
  refine k_push hx hb dL_row_1 ?_
  refine lv_aload_n hx hb dL_row_2 rfl (lv_at hl 0 rfl) ?_
  refine lv_iload_n hx hb dL_row_3 rfl (lv_at hl 1 rfl) ?_
  refine lv_iload_n hx hb dL_row_4 rfl (lv_at hl 2 rfl) ?_
  refine k_callV (As := [.int (zI h), .int (zI num)]) (rest := [.int (zI 0), .ref (E.2.2 102)]) S hK hP (c_X2_row l E M h num (by omega) (by assumption) (by assumption) (by omega)) (cwV 2 S.2.2.2.2 gL_row_X2_row rfl rfl rfl (by decide +kernel) ⟨Nat.le_of_ble_eq_true rfl, Nat.le_of_ble_eq_true rfl⟩) (k_rX hK hP rfl) rfl hl.1 rfl (Nat.le_of_ble_eq_true rfl) dL_row_5 ⟨Nat.le_of_ble_eq_true rfl, Nat.le_of_ble_eq_true rfl⟩ (fun z_5 h_5 => ?_)
  refine k_i2l hx hb dL_row_8 (by omega) ?_
  refine k_last S hK hE hP hS dL_row_9 (fun H locs hP hS => ?_)
  obtain ⟨M9, eM9⟩ : ∃ N9 : kM, N9 = kU M 102 0 z_5 := ⟨_, rfl⟩
  rw [← eM9] at hP
  refine lv_goto (tgt := 17) hx hb dL_row_10 (by decide) ?_
  refine k_push hx hb dL_row_17 ?_
  refine ends _ _ (0) M9 _ _ dL_row_18 hP hS ?_
  exact ⟨rfl, z_5, h_5, eM9⟩
abbrev rL_row_b1 : Room := { frames := 8, cells := 1, slots := 6, locals := 143 }
set_option maxHeartbeats 4000000 in
set_option maxRecDepth 100000 in
theorem c_L_row_b1 (l : Launch) (E : kE) (hlst : l.stackTraces = false) (M : kM) (h num : Int) (hb : h < 0 ∨ 2 ≤ h) (h32 : -2147483648 ≤ h ∧ h ≤ 2147483647 ∧ -2147483648 ≤ num ∧ num ≤ 2147483647) : kRT l yL_row wsL_row rL_row_b1 E M [.ref (E.2.2 10), .int (zI h), .int (zI num), .ref (E.2.2 102)] 1 := by
  refine kRTh_of (cc := cL_row) (maxL := 5) RL (by decide) rfl rfl (Nat.le_of_ble_eq_true rfl) ?_
  intro pg en s0 mi ar bl me co ls Q S hP hK hX hZ htab ends hl
  have hx := S.1
  have hb := S.2.1
  have hinX00 : ∀ w ∈ wsX00, w ∈ wsL_row := fun w h => List.mem_cons_of_mem _ (List.mem_append_left _ (List.mem_append_left _ (List.mem_append_right _ (h))))
  have hinX10 : ∀ w ∈ wsX10, w ∈ wsL_row := fun w h => List.mem_cons_of_mem _ (List.mem_append_left _ (List.mem_append_right _ (h)))
  have hinX20 : ∀ w ∈ wsX20, w ∈ wsL_row := fun w h => List.mem_cons_of_mem _ (List.mem_append_left _ (List.mem_append_left _ (List.mem_append_left _ (List.mem_append_right _ (h)))))
  have hl : lv_has ls 5 [(0, .ref (E.2.2 10)), (1, .int (zI h)), (2, .int (zI num)), (3, .ref (E.2.2 102))] := hl
  refine lv_aload_n hx hb dL_row_0 rfl (lv_at hl 3 rfl) ?_
  refine k_push hx hb dL_row_1 ?_
  refine lv_aload_n hx hb dL_row_2 rfl (lv_at hl 0 rfl) ?_
  refine lv_iload_n hx hb dL_row_3 rfl (lv_at hl 1 rfl) ?_
  refine lv_iload_n hx hb dL_row_4 rfl (lv_at hl 2 rfl) ?_
  refine k_thr (k_runVX (As := [.int (zI h), .int (zI num)]) (rest := [.int (zI 0), .ref (E.2.2 102)]) S hK hX hZ hP va_S.rf (c_X2_row_b1 l E hlst M h num (by omega) (by omega)) (cwV 2 S.2.2.2.2 gL_row_X2_row rfl rfl rfl (by decide +kernel) ⟨Nat.le_of_ble_eq_true rfl, Nat.le_of_ble_eq_true rfl⟩) (k_rX hK hP rfl) rfl hl.1 rfl (Nat.le_of_ble_eq_true rfl) dL_row_5 ⟨Nat.le_of_ble_eq_true rfl, Nat.le_of_ble_eq_true rfl⟩) (fun _ _ _ h => h) va_S.rf (fun ce q9 H1 locs1 hP1 hS1 hc1 hv1 hcl1 => ?_)
  refine vx_catch S.2.2.2.1 [] ⟨0, 10, 13, 13⟩ [] (htab.trans rfl) (k_pass0) (by decide) (by decide) (S.2.2.2.2 _ (List.mem_cons_of_mem _ (List.mem_append_left _ (List.mem_append_left _ (List.mem_append_left _ (List.mem_append_left _ (List.mem_append_left _ (List.mem_of_getElem? (i := 0) rfl)))))))) (va_Nw.use rfl hX.2.1.2.2) hc1 hv1 hcl1 ?_
  refine lv_astore (lv' := [(4, .ref q9), (0, .ref (E.2.2 10)), (1, .int (zI h)), (2, .int (zI num)), (3, .ref (E.2.2 102))]) hx hb dL_row_13 hl (by decide) rfl (fun ls hl => ?_)
  refine k_push hx hb dL_row_15 ?_
  exact ends _ _ _ _ dL_row_16 hP1 hS1
abbrev rL_row_b2 : Room := { frames := 7, cells := 1, slots := 6, locals := 142 }
set_option maxHeartbeats 4000000 in
set_option maxRecDepth 100000 in
theorem c_L_row_b2 (l : Launch) (E : kE) (hlst : l.stackTraces = false) (M : kM) (h num : Int) (hh : 0 ≤ h ∧ h < 2) (hW : kWf M) (hO2 : ∀ h : Int, 0 ≤ h ∧ h < 2 → kO M h) (hw : num < 0 ∨ kTot (M (h + 3)) (M h 1) ≤ num) (h32 : -2147483648 ≤ num ∧ num ≤ 2147483647) : kRT l yL_row wsL_row rL_row_b2 E M [.ref (E.2.2 10), .int (zI h), .int (zI num), .ref (E.2.2 102)] 1 := by
  refine kRTh_of (cc := cL_row) (maxL := 5) RL (by decide) rfl rfl (Nat.le_of_ble_eq_true rfl) ?_
  intro pg en s0 mi ar bl me co ls Q S hP hK hX hZ htab ends hl
  have hx := S.1
  have hb := S.2.1
  have hinX00 : ∀ w ∈ wsX00, w ∈ wsL_row := fun w h => List.mem_cons_of_mem _ (List.mem_append_left _ (List.mem_append_left _ (List.mem_append_right _ (h))))
  have hinX10 : ∀ w ∈ wsX10, w ∈ wsL_row := fun w h => List.mem_cons_of_mem _ (List.mem_append_left _ (List.mem_append_right _ (h)))
  have hinX20 : ∀ w ∈ wsX20, w ∈ wsL_row := fun w h => List.mem_cons_of_mem _ (List.mem_append_left _ (List.mem_append_left _ (List.mem_append_left _ (List.mem_append_right _ (h)))))
  have hl : lv_has ls 5 [(0, .ref (E.2.2 10)), (1, .int (zI h)), (2, .int (zI num)), (3, .ref (E.2.2 102))] := hl
  obtain ⟨hn0, hn1, hv⟩ := hW h (by omega)
  obtain ⟨hs0, hs1, hsv⟩ := hW 2 (by omega)
  refine lv_aload_n hx hb dL_row_0 rfl (lv_at hl 3 rfl) ?_
  refine k_push hx hb dL_row_1 ?_
  refine lv_aload_n hx hb dL_row_2 rfl (lv_at hl 0 rfl) ?_
  refine lv_iload_n hx hb dL_row_3 rfl (lv_at hl 1 rfl) ?_
  refine lv_iload_n hx hb dL_row_4 rfl (lv_at hl 2 rfl) ?_
  refine k_thr (k_runVX (As := [.int (zI h), .int (zI num)]) (rest := [.int (zI 0), .ref (E.2.2 102)]) S hK hX hZ hP va_S.rf (c_X2_row_b2 l E hlst M h num (by omega) (by assumption) (by assumption) (by omega) (by omega)) (cwV 2 S.2.2.2.2 gL_row_X2_row rfl rfl rfl (by decide +kernel) ⟨Nat.le_of_ble_eq_true rfl, Nat.le_of_ble_eq_true rfl⟩) (k_rX hK hP rfl) rfl hl.1 rfl (Nat.le_of_ble_eq_true rfl) dL_row_5 ⟨Nat.le_of_ble_eq_true rfl, Nat.le_of_ble_eq_true rfl⟩) (fun _ _ _ h => h) va_S.rf (fun ce q9 H1 locs1 hP1 hS1 hc1 hv1 hcl1 => ?_)
  refine vx_catch S.2.2.2.1 [] ⟨0, 10, 13, 13⟩ [] (htab.trans rfl) (k_pass0) (by decide) (by decide) (S.2.2.2.2 _ (List.mem_cons_of_mem _ (List.mem_append_left _ (List.mem_append_left _ (List.mem_append_left _ (List.mem_append_left _ (List.mem_append_left _ (List.mem_of_getElem? (i := 0) rfl)))))))) (va_Nw.use rfl hX.2.1.2.2) hc1 hv1 hcl1 ?_
  refine lv_astore (lv' := [(4, .ref q9), (0, .ref (E.2.2 10)), (1, .int (zI h)), (2, .int (zI num)), (3, .ref (E.2.2 102))]) hx hb dL_row_13 hl (by decide) rfl (fun ls hl => ?_)
  refine k_push hx hb dL_row_15 ?_
  exact ends _ _ _ _ dL_row_16 hP1 hS1
abbrev rL_found : Room := { frames := 5, cells := 0, slots := 0, locals := 116 }
set_option maxHeartbeats 4000000 in
set_option maxRecDepth 100000 in
theorem c_L_found (l : Launch) (E : kE) (hE : kInj E) (M : kM) (h : Int) (hh : 0 ≤ h ∧ h < 2) (hW : kWf M) : kRW l yL_found wsL_found rL_found E M [.ref (E.2.2 10), .int (zI h), .ref (E.2.2 102)] (fun z N => z = 0 ∧ ∃ v : Int, (v = kCnt (kSmp (M (h + 3)) (M h 1) (M 5) (M 2 1)) (M h 1).toNat ∧ 0 ≤ v ∧ v ≤ 40) ∧ N = kU M 102 0 v) := by
  refine kRWh_of (cc := cL_found) (maxL := 4) RL (by decide) rfl rfl (Nat.le_of_ble_eq_true rfl) ?_
  intro pg en s0 mi ar bl me co ls Q S hP hS hK ends hl
  have hx := S.1
  have hb := S.2.1
  have hinX00 : ∀ w ∈ wsX00, w ∈ wsL_found := fun w h => List.mem_cons_of_mem _ (List.mem_append_left _ (List.mem_append_left _ (List.mem_append_left _ (List.mem_append_right _ (h)))))
  have hinX10 : ∀ w ∈ wsX10, w ∈ wsL_found := fun w h => List.mem_cons_of_mem _ (List.mem_append_left _ (List.mem_append_right _ (h)))
  have hinX20 : ∀ w ∈ wsX20, w ∈ wsL_found := fun w h => List.mem_cons_of_mem _ (List.mem_append_left _ (List.mem_append_left _ (List.mem_append_right _ (h))))
  have hl : lv_has ls 4 [(0, .ref (E.2.2 10)), (1, .int (zI h)), (2, .ref (E.2.2 102))] := hl
  obtain ⟨hn0, hn1, hv⟩ := hW h (by omega)
  obtain ⟨hs0, hs1, hsv⟩ := hW 2 (by omega)
  refine lv_aload_n hx hb dL_found_0 rfl (lv_at hl 2 rfl) ?_
  refine k_push hx hb dL_found_1 ?_
  refine lv_aload_n hx hb dL_found_2 rfl (lv_at hl 0 rfl) ?_
  refine lv_iload_n hx hb dL_found_3 rfl (lv_at hl 1 rfl) ?_
  refine k_callV (As := [.int (zI h)]) (rest := [.int (zI 0), .ref (E.2.2 102)]) S hK hP (c_X2_found l E M h (by omega) (by assumption)) (cwV 1 S.2.2.2.2 gL_found_X2_found rfl rfl rfl (by decide +kernel) ⟨Nat.le_of_ble_eq_true rfl, Nat.le_of_ble_eq_true rfl⟩) (k_rX hK hP rfl) rfl hl.1 rfl (Nat.le_of_ble_eq_true rfl) dL_found_4 ⟨Nat.le_of_ble_eq_true rfl, Nat.le_of_ble_eq_true rfl⟩ (fun z_4 h_4 => ?_)
  refine k_i2l hx hb dL_found_7 (by omega) ?_
  refine k_last S hK hE hP hS dL_found_8 (fun H locs hP hS => ?_)
  obtain ⟨M8, eM8⟩ : ∃ N9 : kM, N9 = kU M 102 0 z_4 := ⟨_, rfl⟩
  rw [← eM8] at hP
  refine lv_goto (tgt := 15) hx hb dL_found_9 (by decide) ?_
  refine k_push hx hb dL_found_15 ?_
  refine ends _ _ (0) M8 _ _ dL_found_16 hP hS ?_
  exact ⟨rfl, z_4, h_4, eM8⟩
abbrev rL_found_b1 : Room := { frames := 8, cells := 1, slots := 6, locals := 141 }
set_option maxHeartbeats 4000000 in
set_option maxRecDepth 100000 in
theorem c_L_found_b1 (l : Launch) (E : kE) (hlst : l.stackTraces = false) (M : kM) (h : Int) (hb : h < 0 ∨ 2 ≤ h) (h32 : -2147483648 ≤ h ∧ h ≤ 2147483647) : kRT l yL_found wsL_found rL_found_b1 E M [.ref (E.2.2 10), .int (zI h), .ref (E.2.2 102)] 1 := by
  refine kRTh_of (cc := cL_found) (maxL := 4) RL (by decide) rfl rfl (Nat.le_of_ble_eq_true rfl) ?_
  intro pg en s0 mi ar bl me co ls Q S hP hK hX hZ htab ends hl
  have hx := S.1
  have hb := S.2.1
  have hinX00 : ∀ w ∈ wsX00, w ∈ wsL_found := fun w h => List.mem_cons_of_mem _ (List.mem_append_left _ (List.mem_append_left _ (List.mem_append_left _ (List.mem_append_right _ (h)))))
  have hinX10 : ∀ w ∈ wsX10, w ∈ wsL_found := fun w h => List.mem_cons_of_mem _ (List.mem_append_left _ (List.mem_append_right _ (h)))
  have hinX20 : ∀ w ∈ wsX20, w ∈ wsL_found := fun w h => List.mem_cons_of_mem _ (List.mem_append_left _ (List.mem_append_left _ (List.mem_append_right _ (h))))
  have hl : lv_has ls 4 [(0, .ref (E.2.2 10)), (1, .int (zI h)), (2, .ref (E.2.2 102))] := hl
  refine lv_aload_n hx hb dL_found_0 rfl (lv_at hl 2 rfl) ?_
  refine k_push hx hb dL_found_1 ?_
  refine lv_aload_n hx hb dL_found_2 rfl (lv_at hl 0 rfl) ?_
  refine lv_iload_n hx hb dL_found_3 rfl (lv_at hl 1 rfl) ?_
  refine k_thr (k_runVX (As := [.int (zI h)]) (rest := [.int (zI 0), .ref (E.2.2 102)]) S hK hX hZ hP va_S.rf (c_X2_found_b1 l E hlst M h (by omega) (by omega)) (cwV 1 S.2.2.2.2 gL_found_X2_found rfl rfl rfl (by decide +kernel) ⟨Nat.le_of_ble_eq_true rfl, Nat.le_of_ble_eq_true rfl⟩) (k_rX hK hP rfl) rfl hl.1 rfl (Nat.le_of_ble_eq_true rfl) dL_found_4 ⟨Nat.le_of_ble_eq_true rfl, Nat.le_of_ble_eq_true rfl⟩) (fun _ _ _ h => h) va_S.rf (fun ce q9 H1 locs1 hP1 hS1 hc1 hv1 hcl1 => ?_)
  refine vx_catch S.2.2.2.1 [] ⟨0, 9, 12, 13⟩ [] (htab.trans rfl) (k_pass0) (by decide) (by decide) (S.2.2.2.2 _ (List.mem_cons_of_mem _ (List.mem_append_left _ (List.mem_append_left _ (List.mem_append_left _ (List.mem_append_left _ (List.mem_append_left _ (List.mem_of_getElem? (i := 0) rfl)))))))) (va_Nw.use rfl hX.2.1.2.2) hc1 hv1 hcl1 ?_
  refine lv_astore_n (lv' := [(3, .ref q9), (0, .ref (E.2.2 10)), (1, .int (zI h)), (2, .ref (E.2.2 102))]) hx hb dL_found_12 rfl hl (by decide) rfl (fun ls hl => ?_)
  refine k_push hx hb dL_found_13 ?_
  exact ends _ _ _ _ dL_found_14 hP1 hS1
abbrev rL_first : Room := { frames := 5, cells := 0, slots := 0, locals := 115 }
set_option maxHeartbeats 4000000 in
set_option maxRecDepth 100000 in
theorem c_L_first (l : Launch) (E : kE) (hE : kInj E) (M : kM) (h : Int) (hh : 0 ≤ h ∧ h < 2) (hW : kWf M) : kRW l yL_first wsL_first rL_first E M [.ref (E.2.2 10), .int (zI h), .ref (E.2.2 102)] (fun z N => z = 0 ∧ ∃ v : Int, (kIsFirst (M (h + 3)) (M h 1) (M 5) (M 2 1) v ∧ -1 ≤ v ∧ v ≤ 40) ∧ N = kU M 102 0 v) := by
  refine kRWh_of (cc := cL_first) (maxL := 4) RL (by decide) rfl rfl (Nat.le_of_ble_eq_true rfl) ?_
  intro pg en s0 mi ar bl me co ls Q S hP hS hK ends hl
  have hx := S.1
  have hb := S.2.1
  have hinX00 : ∀ w ∈ wsX00, w ∈ wsL_first := fun w h => List.mem_cons_of_mem _ (List.mem_append_left _ (List.mem_append_left _ (List.mem_append_left _ (List.mem_append_right _ (h)))))
  have hinX10 : ∀ w ∈ wsX10, w ∈ wsL_first := fun w h => List.mem_cons_of_mem _ (List.mem_append_left _ (List.mem_append_right _ (h)))
  have hinX20 : ∀ w ∈ wsX20, w ∈ wsL_first := fun w h => List.mem_cons_of_mem _ (List.mem_append_left _ (List.mem_append_left _ (List.mem_append_right _ (h))))
  have hl : lv_has ls 4 [(0, .ref (E.2.2 10)), (1, .int (zI h)), (2, .ref (E.2.2 102))] := hl
  obtain ⟨hn0, hn1, hv⟩ := hW h (by omega)
  obtain ⟨hs0, hs1, hsv⟩ := hW 2 (by omega)
  refine lv_aload_n hx hb dL_first_0 rfl (lv_at hl 2 rfl) ?_
  refine k_push hx hb dL_first_1 ?_
  refine lv_aload_n hx hb dL_first_2 rfl (lv_at hl 0 rfl) ?_
  refine lv_iload_n hx hb dL_first_3 rfl (lv_at hl 1 rfl) ?_
  refine k_callV (As := [.int (zI h)]) (rest := [.int (zI 0), .ref (E.2.2 102)]) S hK hP (c_X2_first l E M h (by omega) (by assumption)) (cwV 1 S.2.2.2.2 gL_first_X2_first rfl rfl rfl (by decide +kernel) ⟨Nat.le_of_ble_eq_true rfl, Nat.le_of_ble_eq_true rfl⟩) (k_rX hK hP rfl) rfl hl.1 rfl (Nat.le_of_ble_eq_true rfl) dL_first_4 ⟨Nat.le_of_ble_eq_true rfl, Nat.le_of_ble_eq_true rfl⟩ (fun z_4 h_4 => ?_)
  refine k_i2l hx hb dL_first_7 (by omega) ?_
  refine k_last S hK hE hP hS dL_first_8 (fun H locs hP hS => ?_)
  obtain ⟨M8, eM8⟩ : ∃ N9 : kM, N9 = kU M 102 0 z_4 := ⟨_, rfl⟩
  rw [← eM8] at hP
  refine lv_goto (tgt := 15) hx hb dL_first_9 (by decide) ?_
  refine k_push hx hb dL_first_15 ?_
  refine ends _ _ (0) M8 _ _ dL_first_16 hP hS ?_
  exact ⟨rfl, z_4, h_4, eM8⟩
abbrev rL_first_b1 : Room := { frames := 8, cells := 1, slots := 6, locals := 141 }
set_option maxHeartbeats 4000000 in
set_option maxRecDepth 100000 in
theorem c_L_first_b1 (l : Launch) (E : kE) (hlst : l.stackTraces = false) (M : kM) (h : Int) (hb : h < 0 ∨ 2 ≤ h) (h32 : -2147483648 ≤ h ∧ h ≤ 2147483647) : kRT l yL_first wsL_first rL_first_b1 E M [.ref (E.2.2 10), .int (zI h), .ref (E.2.2 102)] 1 := by
  refine kRTh_of (cc := cL_first) (maxL := 4) RL (by decide) rfl rfl (Nat.le_of_ble_eq_true rfl) ?_
  intro pg en s0 mi ar bl me co ls Q S hP hK hX hZ htab ends hl
  have hx := S.1
  have hb := S.2.1
  have hinX00 : ∀ w ∈ wsX00, w ∈ wsL_first := fun w h => List.mem_cons_of_mem _ (List.mem_append_left _ (List.mem_append_left _ (List.mem_append_left _ (List.mem_append_right _ (h)))))
  have hinX10 : ∀ w ∈ wsX10, w ∈ wsL_first := fun w h => List.mem_cons_of_mem _ (List.mem_append_left _ (List.mem_append_right _ (h)))
  have hinX20 : ∀ w ∈ wsX20, w ∈ wsL_first := fun w h => List.mem_cons_of_mem _ (List.mem_append_left _ (List.mem_append_left _ (List.mem_append_right _ (h))))
  have hl : lv_has ls 4 [(0, .ref (E.2.2 10)), (1, .int (zI h)), (2, .ref (E.2.2 102))] := hl
  refine lv_aload_n hx hb dL_first_0 rfl (lv_at hl 2 rfl) ?_
  refine k_push hx hb dL_first_1 ?_
  refine lv_aload_n hx hb dL_first_2 rfl (lv_at hl 0 rfl) ?_
  refine lv_iload_n hx hb dL_first_3 rfl (lv_at hl 1 rfl) ?_
  refine k_thr (k_runVX (As := [.int (zI h)]) (rest := [.int (zI 0), .ref (E.2.2 102)]) S hK hX hZ hP va_S.rf (c_X2_first_b1 l E hlst M h (by omega) (by omega)) (cwV 1 S.2.2.2.2 gL_first_X2_first rfl rfl rfl (by decide +kernel) ⟨Nat.le_of_ble_eq_true rfl, Nat.le_of_ble_eq_true rfl⟩) (k_rX hK hP rfl) rfl hl.1 rfl (Nat.le_of_ble_eq_true rfl) dL_first_4 ⟨Nat.le_of_ble_eq_true rfl, Nat.le_of_ble_eq_true rfl⟩) (fun _ _ _ h => h) va_S.rf (fun ce q9 H1 locs1 hP1 hS1 hc1 hv1 hcl1 => ?_)
  refine vx_catch S.2.2.2.1 [] ⟨0, 9, 12, 13⟩ [] (htab.trans rfl) (k_pass0) (by decide) (by decide) (S.2.2.2.2 _ (List.mem_cons_of_mem _ (List.mem_append_left _ (List.mem_append_left _ (List.mem_append_left _ (List.mem_append_left _ (List.mem_append_left _ (List.mem_of_getElem? (i := 0) rfl)))))))) (va_Nw.use rfl hX.2.1.2.2) hc1 hv1 hcl1 ?_
  refine lv_astore_n (lv' := [(3, .ref q9), (0, .ref (E.2.2 10)), (1, .int (zI h)), (2, .ref (E.2.2 102))]) hx hb dL_first_12 rfl hl (by decide) rfl (fun ls hl => ?_)
  refine k_push hx hb dL_first_13 ?_
  exact ends _ _ _ _ dL_first_14 hP1 hS1
abbrev rL_period : Room := { frames := 4, cells := 0, slots := 0, locals := 88 }
set_option maxHeartbeats 4000000 in
set_option maxRecDepth 100000 in
theorem c_L_period (l : Launch) (E : kE) (hE : kInj E) (M : kM) (h : Int) (hh : 0 ≤ h ∧ h < 2) (hW : kWf M) : kRW l yL_period wsL_period rL_period E M [.ref (E.2.2 10), .int (zI h), .ref (E.2.2 102)] (fun z N => z = 0 ∧ ∃ v : Int, (kIsPer (M (h + 3)) (M h 1) v ∧ 0 ≤ v ∧ v ≤ 40) ∧ N = kU M 102 0 v) := by
  refine kRWh_of (cc := cL_period) (maxL := 4) RL (by decide) rfl rfl (Nat.le_of_ble_eq_true rfl) ?_
  intro pg en s0 mi ar bl me co ls Q S hP hS hK ends hl
  have hx := S.1
  have hb := S.2.1
  have hinX00 : ∀ w ∈ wsX00, w ∈ wsL_period := fun w h => List.mem_cons_of_mem _ (List.mem_append_left _ (List.mem_append_left _ (List.mem_append_left _ (List.mem_append_right _ (h)))))
  have hinX10 : ∀ w ∈ wsX10, w ∈ wsL_period := fun w h => List.mem_cons_of_mem _ (List.mem_append_left _ (List.mem_append_right _ (h)))
  have hinX20 : ∀ w ∈ wsX20, w ∈ wsL_period := fun w h => List.mem_cons_of_mem _ (List.mem_append_left _ (List.mem_append_left _ (List.mem_append_right _ (h))))
  have hl : lv_has ls 4 [(0, .ref (E.2.2 10)), (1, .int (zI h)), (2, .ref (E.2.2 102))] := hl
  obtain ⟨hn0, hn1, hv⟩ := hW h (by omega)
  obtain ⟨hs0, hs1, hsv⟩ := hW 2 (by omega)
  refine lv_aload_n hx hb dL_period_0 rfl (lv_at hl 2 rfl) ?_
  refine k_push hx hb dL_period_1 ?_
  refine lv_aload_n hx hb dL_period_2 rfl (lv_at hl 0 rfl) ?_
  refine lv_iload_n hx hb dL_period_3 rfl (lv_at hl 1 rfl) ?_
  refine k_callV (As := [.int (zI h)]) (rest := [.int (zI 0), .ref (E.2.2 102)]) S hK hP (c_X2_period l E M h (by omega) (by assumption)) (cwV 1 S.2.2.2.2 gL_period_X2_period rfl rfl rfl (by decide +kernel) ⟨Nat.le_of_ble_eq_true rfl, Nat.le_of_ble_eq_true rfl⟩) (k_rX hK hP rfl) rfl hl.1 rfl (Nat.le_of_ble_eq_true rfl) dL_period_4 ⟨Nat.le_of_ble_eq_true rfl, Nat.le_of_ble_eq_true rfl⟩ (fun z_4 h_4 => ?_)
  refine k_i2l hx hb dL_period_7 (by omega) ?_
  refine k_last S hK hE hP hS dL_period_8 (fun H locs hP hS => ?_)
  obtain ⟨M8, eM8⟩ : ∃ N9 : kM, N9 = kU M 102 0 z_4 := ⟨_, rfl⟩
  rw [← eM8] at hP
  refine lv_goto (tgt := 15) hx hb dL_period_9 (by decide) ?_
  refine k_push hx hb dL_period_15 ?_
  refine ends _ _ (0) M8 _ _ dL_period_16 hP hS ?_
  exact ⟨rfl, z_4, h_4, eM8⟩
abbrev rL_period_b1 : Room := { frames := 8, cells := 1, slots := 6, locals := 141 }
set_option maxHeartbeats 4000000 in
set_option maxRecDepth 100000 in
theorem c_L_period_b1 (l : Launch) (E : kE) (hlst : l.stackTraces = false) (M : kM) (h : Int) (hb : h < 0 ∨ 2 ≤ h) (h32 : -2147483648 ≤ h ∧ h ≤ 2147483647) : kRT l yL_period wsL_period rL_period_b1 E M [.ref (E.2.2 10), .int (zI h), .ref (E.2.2 102)] 1 := by
  refine kRTh_of (cc := cL_period) (maxL := 4) RL (by decide) rfl rfl (Nat.le_of_ble_eq_true rfl) ?_
  intro pg en s0 mi ar bl me co ls Q S hP hK hX hZ htab ends hl
  have hx := S.1
  have hb := S.2.1
  have hinX00 : ∀ w ∈ wsX00, w ∈ wsL_period := fun w h => List.mem_cons_of_mem _ (List.mem_append_left _ (List.mem_append_left _ (List.mem_append_left _ (List.mem_append_right _ (h)))))
  have hinX10 : ∀ w ∈ wsX10, w ∈ wsL_period := fun w h => List.mem_cons_of_mem _ (List.mem_append_left _ (List.mem_append_right _ (h)))
  have hinX20 : ∀ w ∈ wsX20, w ∈ wsL_period := fun w h => List.mem_cons_of_mem _ (List.mem_append_left _ (List.mem_append_left _ (List.mem_append_right _ (h))))
  have hl : lv_has ls 4 [(0, .ref (E.2.2 10)), (1, .int (zI h)), (2, .ref (E.2.2 102))] := hl
  refine lv_aload_n hx hb dL_period_0 rfl (lv_at hl 2 rfl) ?_
  refine k_push hx hb dL_period_1 ?_
  refine lv_aload_n hx hb dL_period_2 rfl (lv_at hl 0 rfl) ?_
  refine lv_iload_n hx hb dL_period_3 rfl (lv_at hl 1 rfl) ?_
  refine k_thr (k_runVX (As := [.int (zI h)]) (rest := [.int (zI 0), .ref (E.2.2 102)]) S hK hX hZ hP va_S.rf (c_X2_period_b1 l E hlst M h (by omega) (by omega)) (cwV 1 S.2.2.2.2 gL_period_X2_period rfl rfl rfl (by decide +kernel) ⟨Nat.le_of_ble_eq_true rfl, Nat.le_of_ble_eq_true rfl⟩) (k_rX hK hP rfl) rfl hl.1 rfl (Nat.le_of_ble_eq_true rfl) dL_period_4 ⟨Nat.le_of_ble_eq_true rfl, Nat.le_of_ble_eq_true rfl⟩) (fun _ _ _ h => h) va_S.rf (fun ce q9 H1 locs1 hP1 hS1 hc1 hv1 hcl1 => ?_)
  refine vx_catch S.2.2.2.1 [] ⟨0, 9, 12, 13⟩ [] (htab.trans rfl) (k_pass0) (by decide) (by decide) (S.2.2.2.2 _ (List.mem_cons_of_mem _ (List.mem_append_left _ (List.mem_append_left _ (List.mem_append_left _ (List.mem_append_left _ (List.mem_append_left _ (List.mem_of_getElem? (i := 0) rfl)))))))) (va_Nw.use rfl hX.2.1.2.2) hc1 hv1 hcl1 ?_
  refine lv_astore_n (lv' := [(3, .ref q9), (0, .ref (E.2.2 10)), (1, .int (zI h)), (2, .ref (E.2.2 102))]) hx hb dL_period_12 rfl hl (by decide) rfl (fun ls hl => ?_)
  refine k_push hx hb dL_period_13 ?_
  exact ends _ _ _ _ dL_period_14 hP1 hS1
abbrev rL_turned : Room := { frames := 5, cells := 0, slots := 0, locals := 110 }
set_option maxHeartbeats 4000000 in
set_option maxRecDepth 100000 in
theorem c_L_turned (l : Launch) (E : kE) (hE : kInj E) (M : kM) (h : Int) (hh : 0 ≤ h ∧ h < 2) (hW : kWf M) : kRW l yL_turned wsL_turned rL_turned E M [.ref (E.2.2 10), .int (zI h), .ref (E.2.2 102)] (fun z N => z = 0 ∧ ∃ v : Int, (kIsTurn (M (h + 3)) (M h 1) v ∧ -1 ≤ v ∧ v < 40) ∧ N = kU M 102 0 v) := by
  refine kRWh_of (cc := cL_turned) (maxL := 4) RL (by decide) rfl rfl (Nat.le_of_ble_eq_true rfl) ?_
  intro pg en s0 mi ar bl me co ls Q S hP hS hK ends hl
  have hx := S.1
  have hb := S.2.1
  have hinX00 : ∀ w ∈ wsX00, w ∈ wsL_turned := fun w h => List.mem_cons_of_mem _ (List.mem_append_left _ (List.mem_append_left _ (List.mem_append_left _ (List.mem_append_right _ (h)))))
  have hinX10 : ∀ w ∈ wsX10, w ∈ wsL_turned := fun w h => List.mem_cons_of_mem _ (List.mem_append_left _ (List.mem_append_right _ (h)))
  have hinX20 : ∀ w ∈ wsX20, w ∈ wsL_turned := fun w h => List.mem_cons_of_mem _ (List.mem_append_left _ (List.mem_append_left _ (List.mem_append_right _ (h))))
  have hl : lv_has ls 4 [(0, .ref (E.2.2 10)), (1, .int (zI h)), (2, .ref (E.2.2 102))] := hl
  obtain ⟨hn0, hn1, hv⟩ := hW h (by omega)
  obtain ⟨hs0, hs1, hsv⟩ := hW 2 (by omega)
  refine lv_aload_n hx hb dL_turned_0 rfl (lv_at hl 2 rfl) ?_
  refine k_push hx hb dL_turned_1 ?_
  refine lv_aload_n hx hb dL_turned_2 rfl (lv_at hl 0 rfl) ?_
  refine lv_iload_n hx hb dL_turned_3 rfl (lv_at hl 1 rfl) ?_
  refine k_callV (As := [.int (zI h)]) (rest := [.int (zI 0), .ref (E.2.2 102)]) S hK hP (c_X2_turned l E M h (by omega) (by assumption)) (cwV 1 S.2.2.2.2 gL_turned_X2_turned rfl rfl rfl (by decide +kernel) ⟨Nat.le_of_ble_eq_true rfl, Nat.le_of_ble_eq_true rfl⟩) (k_rX hK hP rfl) rfl hl.1 rfl (Nat.le_of_ble_eq_true rfl) dL_turned_4 ⟨Nat.le_of_ble_eq_true rfl, Nat.le_of_ble_eq_true rfl⟩ (fun z_4 h_4 => ?_)
  refine k_i2l hx hb dL_turned_7 (by omega) ?_
  refine k_last S hK hE hP hS dL_turned_8 (fun H locs hP hS => ?_)
  obtain ⟨M8, eM8⟩ : ∃ N9 : kM, N9 = kU M 102 0 z_4 := ⟨_, rfl⟩
  rw [← eM8] at hP
  refine lv_goto (tgt := 15) hx hb dL_turned_9 (by decide) ?_
  refine k_push hx hb dL_turned_15 ?_
  refine ends _ _ (0) M8 _ _ dL_turned_16 hP hS ?_
  exact ⟨rfl, z_4, h_4, eM8⟩
abbrev rL_turned_b1 : Room := { frames := 8, cells := 1, slots := 6, locals := 141 }
set_option maxHeartbeats 4000000 in
set_option maxRecDepth 100000 in
theorem c_L_turned_b1 (l : Launch) (E : kE) (hlst : l.stackTraces = false) (M : kM) (h : Int) (hb : h < 0 ∨ 2 ≤ h) (h32 : -2147483648 ≤ h ∧ h ≤ 2147483647) : kRT l yL_turned wsL_turned rL_turned_b1 E M [.ref (E.2.2 10), .int (zI h), .ref (E.2.2 102)] 1 := by
  refine kRTh_of (cc := cL_turned) (maxL := 4) RL (by decide) rfl rfl (Nat.le_of_ble_eq_true rfl) ?_
  intro pg en s0 mi ar bl me co ls Q S hP hK hX hZ htab ends hl
  have hx := S.1
  have hb := S.2.1
  have hinX00 : ∀ w ∈ wsX00, w ∈ wsL_turned := fun w h => List.mem_cons_of_mem _ (List.mem_append_left _ (List.mem_append_left _ (List.mem_append_left _ (List.mem_append_right _ (h)))))
  have hinX10 : ∀ w ∈ wsX10, w ∈ wsL_turned := fun w h => List.mem_cons_of_mem _ (List.mem_append_left _ (List.mem_append_right _ (h)))
  have hinX20 : ∀ w ∈ wsX20, w ∈ wsL_turned := fun w h => List.mem_cons_of_mem _ (List.mem_append_left _ (List.mem_append_left _ (List.mem_append_right _ (h))))
  have hl : lv_has ls 4 [(0, .ref (E.2.2 10)), (1, .int (zI h)), (2, .ref (E.2.2 102))] := hl
  refine lv_aload_n hx hb dL_turned_0 rfl (lv_at hl 2 rfl) ?_
  refine k_push hx hb dL_turned_1 ?_
  refine lv_aload_n hx hb dL_turned_2 rfl (lv_at hl 0 rfl) ?_
  refine lv_iload_n hx hb dL_turned_3 rfl (lv_at hl 1 rfl) ?_
  refine k_thr (k_runVX (As := [.int (zI h)]) (rest := [.int (zI 0), .ref (E.2.2 102)]) S hK hX hZ hP va_S.rf (c_X2_turned_b1 l E hlst M h (by omega) (by omega)) (cwV 1 S.2.2.2.2 gL_turned_X2_turned rfl rfl rfl (by decide +kernel) ⟨Nat.le_of_ble_eq_true rfl, Nat.le_of_ble_eq_true rfl⟩) (k_rX hK hP rfl) rfl hl.1 rfl (Nat.le_of_ble_eq_true rfl) dL_turned_4 ⟨Nat.le_of_ble_eq_true rfl, Nat.le_of_ble_eq_true rfl⟩) (fun _ _ _ h => h) va_S.rf (fun ce q9 H1 locs1 hP1 hS1 hc1 hv1 hcl1 => ?_)
  refine vx_catch S.2.2.2.1 [] ⟨0, 9, 12, 13⟩ [] (htab.trans rfl) (k_pass0) (by decide) (by decide) (S.2.2.2.2 _ (List.mem_cons_of_mem _ (List.mem_append_left _ (List.mem_append_left _ (List.mem_append_left _ (List.mem_append_left _ (List.mem_append_left _ (List.mem_of_getElem? (i := 0) rfl)))))))) (va_Nw.use rfl hX.2.1.2.2) hc1 hv1 hcl1 ?_
  refine lv_astore_n (lv' := [(3, .ref q9), (0, .ref (E.2.2 10)), (1, .int (zI h)), (2, .ref (E.2.2 102))]) hx hb dL_turned_12 rfl hl (by decide) rfl (fun ls hl => ?_)
  refine k_push hx hb dL_turned_13 ?_
  exact ends _ _ _ _ dL_turned_14 hP1 hS1
abbrev rL_seam : Room := { frames := 6, cells := 0, slots := 0, locals := 140 }
set_option maxHeartbeats 4000000 in
set_option maxRecDepth 100000 in
theorem c_L_seam (l : Launch) (E : kE) (hE : kInj E) (M : kM) (w : Int) (hW : kWf M) (hO2 : ∀ h : Int, 0 ≤ h ∧ h < 2 → kO M h) (hw : 0 ≤ w ∧ w ≤ 2) : kRW l yL_seam wsL_seam rL_seam E M [.ref (E.2.2 10), .int (zI w), .ref (E.2.2 102)] (fun z N => z = 0 ∧ ∃ v : Int, (kIsSeam (M 3) (M 0 1) (M 4) (M 1 1) w v ∧ -1 ≤ v ∧ v ≤ 40) ∧ N = kU M 102 0 v) := by
  refine kRWh_of (cc := cL_seam) (maxL := 4) RL (by decide) rfl rfl (Nat.le_of_ble_eq_true rfl) ?_
  intro pg en s0 mi ar bl me co ls Q S hP hS hK ends hl
  have hx := S.1
  have hb := S.2.1
  have hinX00 : ∀ w ∈ wsX00, w ∈ wsL_seam := fun w h => List.mem_cons_of_mem _ (List.mem_append_left _ (List.mem_append_left _ (List.mem_append_right _ (h))))
  have hinX10 : ∀ w ∈ wsX10, w ∈ wsL_seam := fun w h => List.mem_cons_of_mem _ (List.mem_append_left _ (List.mem_append_right _ (h)))
  have hinX20 : ∀ w ∈ wsX20, w ∈ wsL_seam := fun w h => List.mem_cons_of_mem _ (List.mem_append_left _ (List.mem_append_left _ (List.mem_append_left _ (List.mem_append_right _ (h)))))
  have hl : lv_has ls 4 [(0, .ref (E.2.2 10)), (1, .int (zI w)), (2, .ref (E.2.2 102))] := hl
  obtain ⟨hn0, hn1, hv⟩ := hW 0 (by omega)
  obtain ⟨hm0, hm1, hw1⟩ := hW 1 (by omega)
  obtain ⟨hs0, hs1, hsv⟩ := hW 2 (by omega)
  refine lv_aload_n hx hb dL_seam_0 rfl (lv_at hl 2 rfl) ?_
  refine k_push hx hb dL_seam_1 ?_
  refine lv_aload_n hx hb dL_seam_2 rfl (lv_at hl 0 rfl) ?_
  refine lv_iload_n hx hb dL_seam_3 rfl (lv_at hl 1 rfl) ?_
  refine k_callV (As := [.int (zI w)]) (rest := [.int (zI 0), .ref (E.2.2 102)]) S hK hP (c_X2_seam l E M w (by assumption) (by assumption) (by omega)) (cwV 1 S.2.2.2.2 gL_seam_X2_seam rfl rfl rfl (by decide +kernel) ⟨Nat.le_of_ble_eq_true rfl, Nat.le_of_ble_eq_true rfl⟩) (k_rX hK hP rfl) rfl hl.1 rfl (Nat.le_of_ble_eq_true rfl) dL_seam_4 ⟨Nat.le_of_ble_eq_true rfl, Nat.le_of_ble_eq_true rfl⟩ (fun z_4 h_4 => ?_)
  refine k_i2l hx hb dL_seam_7 (by omega) ?_
  refine k_last S hK hE hP hS dL_seam_8 (fun H locs hP hS => ?_)
  obtain ⟨M8, eM8⟩ : ∃ N9 : kM, N9 = kU M 102 0 z_4 := ⟨_, rfl⟩
  rw [← eM8] at hP
  refine lv_goto (tgt := 15) hx hb dL_seam_9 (by decide) ?_
  refine k_push hx hb dL_seam_15 ?_
  refine ends _ _ (0) M8 _ _ dL_seam_16 hP hS ?_
  exact ⟨rfl, z_4, h_4, eM8⟩
abbrev rL_seam_b1 : Room := { frames := 7, cells := 1, slots := 6, locals := 140 }
set_option maxHeartbeats 4000000 in
set_option maxRecDepth 100000 in
theorem c_L_seam_b1 (l : Launch) (E : kE) (hlst : l.stackTraces = false) (M : kM) (w : Int) (hw : w < 0 ∨ 2 < w) (h32 : -2147483648 ≤ w ∧ w ≤ 2147483647) : kRT l yL_seam wsL_seam rL_seam_b1 E M [.ref (E.2.2 10), .int (zI w), .ref (E.2.2 102)] 1 := by
  refine kRTh_of (cc := cL_seam) (maxL := 4) RL (by decide) rfl rfl (Nat.le_of_ble_eq_true rfl) ?_
  intro pg en s0 mi ar bl me co ls Q S hP hK hX hZ htab ends hl
  have hx := S.1
  have hb := S.2.1
  have hinX00 : ∀ w ∈ wsX00, w ∈ wsL_seam := fun w h => List.mem_cons_of_mem _ (List.mem_append_left _ (List.mem_append_left _ (List.mem_append_right _ (h))))
  have hinX10 : ∀ w ∈ wsX10, w ∈ wsL_seam := fun w h => List.mem_cons_of_mem _ (List.mem_append_left _ (List.mem_append_right _ (h)))
  have hinX20 : ∀ w ∈ wsX20, w ∈ wsL_seam := fun w h => List.mem_cons_of_mem _ (List.mem_append_left _ (List.mem_append_left _ (List.mem_append_left _ (List.mem_append_right _ (h)))))
  have hl : lv_has ls 4 [(0, .ref (E.2.2 10)), (1, .int (zI w)), (2, .ref (E.2.2 102))] := hl
  refine lv_aload_n hx hb dL_seam_0 rfl (lv_at hl 2 rfl) ?_
  refine k_push hx hb dL_seam_1 ?_
  refine lv_aload_n hx hb dL_seam_2 rfl (lv_at hl 0 rfl) ?_
  refine lv_iload_n hx hb dL_seam_3 rfl (lv_at hl 1 rfl) ?_
  refine k_thr (k_runVX (As := [.int (zI w)]) (rest := [.int (zI 0), .ref (E.2.2 102)]) S hK hX hZ hP va_S.rf (c_X2_seam_b1 l E hlst M w (by omega) (by omega)) (cwV 1 S.2.2.2.2 gL_seam_X2_seam rfl rfl rfl (by decide +kernel) ⟨Nat.le_of_ble_eq_true rfl, Nat.le_of_ble_eq_true rfl⟩) (k_rX hK hP rfl) rfl hl.1 rfl (Nat.le_of_ble_eq_true rfl) dL_seam_4 ⟨Nat.le_of_ble_eq_true rfl, Nat.le_of_ble_eq_true rfl⟩) (fun _ _ _ h => h) va_S.rf (fun ce q9 H1 locs1 hP1 hS1 hc1 hv1 hcl1 => ?_)
  refine vx_catch S.2.2.2.1 [] ⟨0, 9, 12, 13⟩ [] (htab.trans rfl) (k_pass0) (by decide) (by decide) (S.2.2.2.2 _ (List.mem_cons_of_mem _ (List.mem_append_left _ (List.mem_append_left _ (List.mem_append_left _ (List.mem_append_left _ (List.mem_append_left _ (List.mem_of_getElem? (i := 0) rfl)))))))) (va_Nw.use rfl hX.2.1.2.2) hc1 hv1 hcl1 ?_
  refine lv_astore_n (lv' := [(3, .ref q9), (0, .ref (E.2.2 10)), (1, .int (zI w)), (2, .ref (E.2.2 102))]) hx hb dL_seam_12 rfl hl (by decide) rfl (fun ls hl => ?_)
  refine k_push hx hb dL_seam_13 ?_
  exact ends _ _ _ _ dL_seam_14 hP1 hS1
abbrev rL_would : Room := { frames := 4, cells := 0, slots := 0, locals := 89 }
set_option maxHeartbeats 4000000 in
set_option maxRecDepth 100000 in
theorem c_L_would (l : Launch) (E : kE) (hE : kInj E) (M : kM) (h st : Int) (hh : 0 ≤ h ∧ h < 2) (hW : kWf M) (hst : 0 ≤ st ∧ st ≤ 8) : kRW l yL_would wsL_would rL_would E M [.ref (E.2.2 10), .int (zI h), .int (zI st), .ref (E.2.2 102)] (fun z N => z = 0 ∧ ∃ v : Int, (kIsNew (M (h + 3)) (M h 1) st v ∧ 0 ≤ v ∧ v ≤ 41) ∧ N = kU M 102 0 v) := by
  refine kRWh_of (cc := cL_would) (maxL := 5) RL (by decide) rfl rfl (Nat.le_of_ble_eq_true rfl) ?_
  intro pg en s0 mi ar bl me co ls Q S hP hS hK ends hl
  have hx := S.1
  have hb := S.2.1
  have hinX00 : ∀ w ∈ wsX00, w ∈ wsL_would := fun w h => List.mem_cons_of_mem _ (List.mem_append_left _ (List.mem_append_left _ (List.mem_append_left _ (List.mem_append_left _ (List.mem_append_right _ (h))))))
  have hinX10 : ∀ w ∈ wsX10, w ∈ wsL_would := fun w h => List.mem_cons_of_mem _ (List.mem_append_left _ (List.mem_append_left _ (List.mem_append_right _ (h))))
  have hinX20 : ∀ w ∈ wsX20, w ∈ wsL_would := fun w h => List.mem_cons_of_mem _ (List.mem_append_left _ (List.mem_append_left _ (List.mem_append_left _ (List.mem_append_right _ (h)))))
  have hl : lv_has ls 5 [(0, .ref (E.2.2 10)), (1, .int (zI h)), (2, .int (zI st)), (3, .ref (E.2.2 102))] := hl
  obtain ⟨hn0, hn1, hv⟩ := hW h (by omega)
  obtain ⟨hs0, hs1, hsv⟩ := hW 2 (by omega)
  refine lv_aload_n hx hb dL_would_0 rfl (lv_at hl 3 rfl) ?_
  refine k_push hx hb dL_would_1 ?_
  refine lv_aload_n hx hb dL_would_2 rfl (lv_at hl 0 rfl) ?_
  refine lv_iload_n hx hb dL_would_3 rfl (lv_at hl 1 rfl) ?_
  refine lv_iload_n hx hb dL_would_4 rfl (lv_at hl 2 rfl) ?_
  refine k_callV (As := [.int (zI h), .int (zI st)]) (rest := [.int (zI 0), .ref (E.2.2 102)]) S hK hP (c_X2_would l E M h st (by omega) (by assumption) (by omega)) (cwV 2 S.2.2.2.2 gL_would_X2_would rfl rfl rfl (by decide +kernel) ⟨Nat.le_of_ble_eq_true rfl, Nat.le_of_ble_eq_true rfl⟩) (k_rX hK hP rfl) rfl hl.1 rfl (Nat.le_of_ble_eq_true rfl) dL_would_5 ⟨Nat.le_of_ble_eq_true rfl, Nat.le_of_ble_eq_true rfl⟩ (fun z_5 h_5 => ?_)
  refine k_i2l hx hb dL_would_8 (by omega) ?_
  refine k_last S hK hE hP hS dL_would_9 (fun H locs hP hS => ?_)
  obtain ⟨M9, eM9⟩ : ∃ N9 : kM, N9 = kU M 102 0 z_5 := ⟨_, rfl⟩
  rw [← eM9] at hP
  refine lv_goto (tgt := 21) hx hb dL_would_10 (by decide) ?_
  refine k_push hx hb dL_would_21 ?_
  refine ends _ _ (0) M9 _ _ dL_would_22 hP hS ?_
  exact ⟨rfl, z_5, h_5, eM9⟩
abbrev rL_would_b1 : Room := { frames := 8, cells := 1, slots := 6, locals := 143 }
set_option maxHeartbeats 4000000 in
set_option maxRecDepth 100000 in
theorem c_L_would_b1 (l : Launch) (E : kE) (hlst : l.stackTraces = false) (M : kM) (h st : Int) (hb : h < 0 ∨ 2 ≤ h) (h32 : -2147483648 ≤ h ∧ h ≤ 2147483647 ∧ -2147483648 ≤ st ∧ st ≤ 2147483647) : kRT l yL_would wsL_would rL_would_b1 E M [.ref (E.2.2 10), .int (zI h), .int (zI st), .ref (E.2.2 102)] 1 := by
  refine kRTh_of (cc := cL_would) (maxL := 5) RL (by decide) rfl rfl (Nat.le_of_ble_eq_true rfl) ?_
  intro pg en s0 mi ar bl me co ls Q S hP hK hX hZ htab ends hl
  have hx := S.1
  have hb := S.2.1
  have hinX00 : ∀ w ∈ wsX00, w ∈ wsL_would := fun w h => List.mem_cons_of_mem _ (List.mem_append_left _ (List.mem_append_left _ (List.mem_append_left _ (List.mem_append_left _ (List.mem_append_right _ (h))))))
  have hinX10 : ∀ w ∈ wsX10, w ∈ wsL_would := fun w h => List.mem_cons_of_mem _ (List.mem_append_left _ (List.mem_append_left _ (List.mem_append_right _ (h))))
  have hinX20 : ∀ w ∈ wsX20, w ∈ wsL_would := fun w h => List.mem_cons_of_mem _ (List.mem_append_left _ (List.mem_append_left _ (List.mem_append_left _ (List.mem_append_right _ (h)))))
  have hl : lv_has ls 5 [(0, .ref (E.2.2 10)), (1, .int (zI h)), (2, .int (zI st)), (3, .ref (E.2.2 102))] := hl
  refine lv_aload_n hx hb dL_would_0 rfl (lv_at hl 3 rfl) ?_
  refine k_push hx hb dL_would_1 ?_
  refine lv_aload_n hx hb dL_would_2 rfl (lv_at hl 0 rfl) ?_
  refine lv_iload_n hx hb dL_would_3 rfl (lv_at hl 1 rfl) ?_
  refine lv_iload_n hx hb dL_would_4 rfl (lv_at hl 2 rfl) ?_
  refine k_thr (k_runVX (As := [.int (zI h), .int (zI st)]) (rest := [.int (zI 0), .ref (E.2.2 102)]) S hK hX hZ hP va_S.rf (c_X2_would_b1 l E hlst M h st (by omega) (by omega)) (cwV 2 S.2.2.2.2 gL_would_X2_would rfl rfl rfl (by decide +kernel) ⟨Nat.le_of_ble_eq_true rfl, Nat.le_of_ble_eq_true rfl⟩) (k_rX hK hP rfl) rfl hl.1 rfl (Nat.le_of_ble_eq_true rfl) dL_would_5 ⟨Nat.le_of_ble_eq_true rfl, Nat.le_of_ble_eq_true rfl⟩) (fun _ _ _ h => h) va_S.rf (fun ce q9 H1 locs1 hP1 hS1 hc1 hv1 hcl1 => ?_)
  refine vx_catch S.2.2.2.1 [] ⟨0, 10, 13, 13⟩ [⟨0, 10, 17, 15⟩] (htab.trans rfl) (k_pass0) (by decide) (by decide) (S.2.2.2.2 _ (List.mem_cons_of_mem _ (List.mem_append_left _ (List.mem_append_left _ (List.mem_append_left _ (List.mem_append_left _ (List.mem_append_left _ (List.mem_append_left _ (List.mem_of_getElem? (i := 0) rfl))))))))) (va_Nw.use rfl hX.2.1.2.2) hc1 hv1 hcl1 ?_
  refine lv_astore (lv' := [(4, .ref q9), (0, .ref (E.2.2 10)), (1, .int (zI h)), (2, .int (zI st)), (3, .ref (E.2.2 102))]) hx hb dL_would_13 hl (by decide) rfl (fun ls hl => ?_)
  refine k_push hx hb dL_would_15 ?_
  exact ends _ _ _ _ dL_would_16 hP1 hS1
abbrev rL_would_b2 : Room := { frames := 8, cells := 1, slots := 6, locals := 142 }
set_option maxHeartbeats 4000000 in
set_option maxRecDepth 100000 in
theorem c_L_would_b2 (l : Launch) (E : kE) (hlst : l.stackTraces = false) (M : kM) (h st : Int) (hh : 0 ≤ h ∧ h < 2) (hW : kWf M) (hst : st < 0 ∨ 8 < st) (h32 : -2147483648 ≤ st ∧ st ≤ 2147483647) : kRT l yL_would wsL_would rL_would_b2 E M [.ref (E.2.2 10), .int (zI h), .int (zI st), .ref (E.2.2 102)] 2 := by
  refine kRTh_of (cc := cL_would) (maxL := 5) RL (by decide) rfl rfl (Nat.le_of_ble_eq_true rfl) ?_
  intro pg en s0 mi ar bl me co ls Q S hP hK hX hZ htab ends hl
  have hx := S.1
  have hb := S.2.1
  have hinX00 : ∀ w ∈ wsX00, w ∈ wsL_would := fun w h => List.mem_cons_of_mem _ (List.mem_append_left _ (List.mem_append_left _ (List.mem_append_left _ (List.mem_append_left _ (List.mem_append_right _ (h))))))
  have hinX10 : ∀ w ∈ wsX10, w ∈ wsL_would := fun w h => List.mem_cons_of_mem _ (List.mem_append_left _ (List.mem_append_left _ (List.mem_append_right _ (h))))
  have hinX20 : ∀ w ∈ wsX20, w ∈ wsL_would := fun w h => List.mem_cons_of_mem _ (List.mem_append_left _ (List.mem_append_left _ (List.mem_append_left _ (List.mem_append_right _ (h)))))
  have hl : lv_has ls 5 [(0, .ref (E.2.2 10)), (1, .int (zI h)), (2, .int (zI st)), (3, .ref (E.2.2 102))] := hl
  obtain ⟨hn0, hn1, hv⟩ := hW h (by omega)
  obtain ⟨hs0, hs1, hsv⟩ := hW 2 (by omega)
  refine lv_aload_n hx hb dL_would_0 rfl (lv_at hl 3 rfl) ?_
  refine k_push hx hb dL_would_1 ?_
  refine lv_aload_n hx hb dL_would_2 rfl (lv_at hl 0 rfl) ?_
  refine lv_iload_n hx hb dL_would_3 rfl (lv_at hl 1 rfl) ?_
  refine lv_iload_n hx hb dL_would_4 rfl (lv_at hl 2 rfl) ?_
  refine k_thr (k_runVX (As := [.int (zI h), .int (zI st)]) (rest := [.int (zI 0), .ref (E.2.2 102)]) S hK hX hZ hP va_S.rf (c_X2_would_b2 l E hlst M h st (by omega) (by assumption) (by omega) (by omega)) (cwV 2 S.2.2.2.2 gL_would_X2_would rfl rfl rfl (by decide +kernel) ⟨Nat.le_of_ble_eq_true rfl, Nat.le_of_ble_eq_true rfl⟩) (k_rX hK hP rfl) rfl hl.1 rfl (Nat.le_of_ble_eq_true rfl) dL_would_5 ⟨Nat.le_of_ble_eq_true rfl, Nat.le_of_ble_eq_true rfl⟩) (fun _ _ _ h => h) va_S.rf (fun ce q9 H1 locs1 hP1 hS1 hc1 hv1 hcl1 => ?_)
  refine vx_catch S.2.2.2.1 [⟨0, 10, 13, 13⟩] ⟨0, 10, 17, 15⟩ [] (htab.trans rfl) (k_pass1 (Or.inr ⟨by decide, _, (S.2.2.2.2 _ (List.mem_cons_of_mem _ (List.mem_append_left _ (List.mem_append_left _ (List.mem_append_left _ (List.mem_append_left _ (List.mem_append_left _ (List.mem_append_left _ (List.mem_of_getElem? (i := 0) rfl))))))))), hX.2.2.1.2.2⟩)) (by decide) (by decide) (S.2.2.2.2 _ (List.mem_cons_of_mem _ (List.mem_append_left _ (List.mem_append_left _ (List.mem_append_left _ (List.mem_append_left _ (List.mem_append_left _ (List.mem_append_left _ (List.mem_of_getElem? (i := 1) rfl))))))))) (va_Nw.use rfl hX.2.1.2.1) hc1 hv1 hcl1 ?_
  refine lv_astore (lv' := [(4, .ref q9), (0, .ref (E.2.2 10)), (1, .int (zI h)), (2, .int (zI st)), (3, .ref (E.2.2 102))]) hx hb dL_would_17 hl (by decide) rfl (fun ls hl => ?_)
  refine k_push hx hb dL_would_19 ?_
  exact ends _ _ _ _ dL_would_20 hP1 hS1
abbrev rL_advise : Room := { frames := 4, cells := 0, slots := 0, locals := 92 }
set_option maxHeartbeats 4000000 in
set_option maxRecDepth 100000 in
theorem c_L_advise (l : Launch) (E : kE) (hE : kInj E) (M : kM) (h : Int) (hh : 0 ≤ h ∧ h < 2) (hW : kWf M) : kRW l yL_advise wsL_advise rL_advise E M [.ref (E.2.2 10), .int (zI h), .ref (E.2.2 102)] (fun z N => z = 0 ∧ ∃ v : Int, (kIsAdv (M (h + 3)) (M h 1) v ∧ 0 ≤ v ∧ v ≤ 8) ∧ N = kU M 102 0 v) := by
  refine kRWh_of (cc := cL_advise) (maxL := 4) RL (by decide) rfl rfl (Nat.le_of_ble_eq_true rfl) ?_
  intro pg en s0 mi ar bl me co ls Q S hP hS hK ends hl
  have hx := S.1
  have hb := S.2.1
  have hinX00 : ∀ w ∈ wsX00, w ∈ wsL_advise := fun w h => List.mem_cons_of_mem _ (List.mem_append_left _ (List.mem_append_left _ (List.mem_append_left _ (List.mem_append_right _ (h)))))
  have hinX10 : ∀ w ∈ wsX10, w ∈ wsL_advise := fun w h => List.mem_cons_of_mem _ (List.mem_append_left _ (List.mem_append_right _ (h)))
  have hinX20 : ∀ w ∈ wsX20, w ∈ wsL_advise := fun w h => List.mem_cons_of_mem _ (List.mem_append_left _ (List.mem_append_left _ (List.mem_append_right _ (h))))
  have hl : lv_has ls 4 [(0, .ref (E.2.2 10)), (1, .int (zI h)), (2, .ref (E.2.2 102))] := hl
  obtain ⟨hn0, hn1, hv⟩ := hW h (by omega)
  obtain ⟨hs0, hs1, hsv⟩ := hW 2 (by omega)
  refine lv_aload_n hx hb dL_advise_0 rfl (lv_at hl 2 rfl) ?_
  refine k_push hx hb dL_advise_1 ?_
  refine lv_aload_n hx hb dL_advise_2 rfl (lv_at hl 0 rfl) ?_
  refine lv_iload_n hx hb dL_advise_3 rfl (lv_at hl 1 rfl) ?_
  refine k_callV (As := [.int (zI h)]) (rest := [.int (zI 0), .ref (E.2.2 102)]) S hK hP (c_X2_advise l E M h (by omega) (by assumption)) (cwV 1 S.2.2.2.2 gL_advise_X2_advise rfl rfl rfl (by decide +kernel) ⟨Nat.le_of_ble_eq_true rfl, Nat.le_of_ble_eq_true rfl⟩) (k_rX hK hP rfl) rfl hl.1 rfl (Nat.le_of_ble_eq_true rfl) dL_advise_4 ⟨Nat.le_of_ble_eq_true rfl, Nat.le_of_ble_eq_true rfl⟩ (fun z_4 h_4 => ?_)
  refine k_i2l hx hb dL_advise_7 (by omega) ?_
  refine k_last S hK hE hP hS dL_advise_8 (fun H locs hP hS => ?_)
  obtain ⟨M8, eM8⟩ : ∃ N9 : kM, N9 = kU M 102 0 z_4 := ⟨_, rfl⟩
  rw [← eM8] at hP
  refine lv_goto (tgt := 15) hx hb dL_advise_9 (by decide) ?_
  refine k_push hx hb dL_advise_15 ?_
  refine ends _ _ (0) M8 _ _ dL_advise_16 hP hS ?_
  exact ⟨rfl, z_4, h_4, eM8⟩
abbrev rL_advise_b1 : Room := { frames := 8, cells := 1, slots := 6, locals := 146 }
set_option maxHeartbeats 4000000 in
set_option maxRecDepth 100000 in
theorem c_L_advise_b1 (l : Launch) (E : kE) (hlst : l.stackTraces = false) (M : kM) (h : Int) (hb : h < 0 ∨ 2 ≤ h) (h32 : -2147483648 ≤ h ∧ h ≤ 2147483647) : kRT l yL_advise wsL_advise rL_advise_b1 E M [.ref (E.2.2 10), .int (zI h), .ref (E.2.2 102)] 1 := by
  refine kRTh_of (cc := cL_advise) (maxL := 4) RL (by decide) rfl rfl (Nat.le_of_ble_eq_true rfl) ?_
  intro pg en s0 mi ar bl me co ls Q S hP hK hX hZ htab ends hl
  have hx := S.1
  have hb := S.2.1
  have hinX00 : ∀ w ∈ wsX00, w ∈ wsL_advise := fun w h => List.mem_cons_of_mem _ (List.mem_append_left _ (List.mem_append_left _ (List.mem_append_left _ (List.mem_append_right _ (h)))))
  have hinX10 : ∀ w ∈ wsX10, w ∈ wsL_advise := fun w h => List.mem_cons_of_mem _ (List.mem_append_left _ (List.mem_append_right _ (h)))
  have hinX20 : ∀ w ∈ wsX20, w ∈ wsL_advise := fun w h => List.mem_cons_of_mem _ (List.mem_append_left _ (List.mem_append_left _ (List.mem_append_right _ (h))))
  have hl : lv_has ls 4 [(0, .ref (E.2.2 10)), (1, .int (zI h)), (2, .ref (E.2.2 102))] := hl
  refine lv_aload_n hx hb dL_advise_0 rfl (lv_at hl 2 rfl) ?_
  refine k_push hx hb dL_advise_1 ?_
  refine lv_aload_n hx hb dL_advise_2 rfl (lv_at hl 0 rfl) ?_
  refine lv_iload_n hx hb dL_advise_3 rfl (lv_at hl 1 rfl) ?_
  refine k_thr (k_runVX (As := [.int (zI h)]) (rest := [.int (zI 0), .ref (E.2.2 102)]) S hK hX hZ hP va_S.rf (c_X2_advise_b1 l E hlst M h (by omega) (by omega)) (cwV 1 S.2.2.2.2 gL_advise_X2_advise rfl rfl rfl (by decide +kernel) ⟨Nat.le_of_ble_eq_true rfl, Nat.le_of_ble_eq_true rfl⟩) (k_rX hK hP rfl) rfl hl.1 rfl (Nat.le_of_ble_eq_true rfl) dL_advise_4 ⟨Nat.le_of_ble_eq_true rfl, Nat.le_of_ble_eq_true rfl⟩) (fun _ _ _ h => h) va_S.rf (fun ce q9 H1 locs1 hP1 hS1 hc1 hv1 hcl1 => ?_)
  refine vx_catch S.2.2.2.1 [] ⟨0, 9, 12, 13⟩ [] (htab.trans rfl) (k_pass0) (by decide) (by decide) (S.2.2.2.2 _ (List.mem_cons_of_mem _ (List.mem_append_left _ (List.mem_append_left _ (List.mem_append_left _ (List.mem_append_left _ (List.mem_append_left _ (List.mem_of_getElem? (i := 0) rfl)))))))) (va_Nw.use rfl hX.2.1.2.2) hc1 hv1 hcl1 ?_
  refine lv_astore_n (lv' := [(3, .ref q9), (0, .ref (E.2.2 10)), (1, .int (zI h)), (2, .ref (E.2.2 102))]) hx hb dL_advise_12 rfl hl (by decide) rfl (fun ls hl => ?_)
  refine k_push hx hb dL_advise_13 ?_
  exact ends _ _ _ _ dL_advise_14 hP1 hS1
