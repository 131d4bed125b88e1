set_option maxHeartbeats 4000000 in
set_option maxRecDepth 100000 in
theorem s_L_act_again {pg : Program} {en : Env} {s0 : State} {mi : MethodId} {ar : Array Value} {bl : List Frame} {me : Method} {co : Code} {ls : Array Slot} {Q : State → Prop} (l : Launch) (hlst : l.stackTraces = false) (E0 : kE) (M : kM) (g h n x : Int) (hJ : kJ E0 M g) (hh : 0 ≤ h ∧ h < 2) (hnn : n = M h 1) (S : CallFix pg mi co cL_act 9 s0 ar wsL_act RL) (hP : va_P E0.1 vwCl (kW E0 M) s0.heap) (hS : va_S (kA E0 s0.heap.size) s0.heap s0.heap []) (hK : kK E0 s0) (hG : kG (kA E0 s0.heap.size) s0.heap.size E0) (hXs : kXs s0) (hZ : kZ (kA E0 s0.heap.size) s0 s0.heap) (htab : co.exceptionTable.toList = tableOf [(150, 159, 162, 30), (313, 321, 324, 30), (446, 455, 458, 30)]) (ends : kEndI pg l en rL_act s0 mi ar bl me co cL_act 41 1646 E0 (fun E1 M1 z => z = 1 ∧ kJ E1 M1 g) Q) (hl : lv_has ls 9 [(4, .int (zI n)), (3, .int (zI h)), (0, .ref (E0.2.2 10)), (1, .ref (E0.2.2 g)), (2, .int (zI x))]) : W pg l en rL_act s0 mi ar bl me co s0.heap [] 0 0 Q (F0 mi 56 ls []) := by
  have hx := S.1
  have hb := S.2.1
  have hn := hK.2.2.2
  have hinX00 : ∀ w ∈ wsX00, w ∈ wsL_act := fun w h => List.mem_cons_of_mem _ (List.mem_append_left _ (List.mem_append_left _ (List.mem_append_left _ (List.mem_append_left _ (List.mem_append_left _ (List.mem_append_right _ (h)))))))
  have hinX10 : ∀ w ∈ wsX10, w ∈ wsL_act := fun w h => List.mem_cons_of_mem _ (List.mem_append_left _ (List.mem_append_left _ (List.mem_append_left _ (List.mem_append_left _ (List.mem_append_right _ (h))))))
  have hinX20 : ∀ w ∈ wsX20, w ∈ wsL_act := fun w h => List.mem_cons_of_mem _ (List.mem_append_left _ (List.mem_append_left _ (List.mem_append_left _ (List.mem_append_right _ (h)))))
  have hinX40 : ∀ w ∈ wsX40, w ∈ wsL_act := fun w h => List.mem_cons_of_mem _ (List.mem_append_left _ (List.mem_append_left _ (List.mem_append_left _ (List.mem_append_left _ (List.mem_append_left _ (List.mem_append_left _ (List.mem_append_right _ (h))))))))
  have hX : kExt E0 E0 := kExt.rf E0
  have hl : lv_has ls 9 [(4, .int (zI n)), (3, .int (zI h)), (0, .ref (E0.2.2 10)), (1, .ref (E0.2.2 g)), (2, .int (zI x))] := hl
  have hE := hG.1
  have hJ0 := hJ
  obtain ⟨hI, y, hs⟩ := hJ
  obtain ⟨hW, hO2, hp12⟩ := id hI
  obtain ⟨hn0, hn1, hv⟩ := hW h (by omega)
  have hg := hs.1
  have hyr := (hs.2.2 h (by omega) (by omega)).1
  have fin := hJ0
  refine k_push hx hb dL_act_56 ?_
  refine lv_iload_n hx hb dL_act_57 rfl (lv_at hl 4 rfl) ?_
  refine k_push hx hb dL_act_58 ?_
  refine k_shr hx hb dL_act_59 (fun z_59 h_59 => ?_)
  refine lv_iload_n hx hb dL_act_60 rfl (lv_at hl 4 rfl) ?_
  refine k_bpush hx hb dL_act_61 (by decide) ?_
  refine k_shr hx hb dL_act_63 (fun z_63 h_63 => ?_)
  refine k_push hx hb dL_act_64 ?_
  refine k_callS (As := [.int (zI z_63), .int (zI 2)]) (rest := [.int (zI z_59), .int (zI 1)]) S hK hP (c_L_below l E0 M z_63 2 (by omega)) (va_cwS 2 S.2.2.2.2 gL_act_L_below rfl rfl rfl (by decide +kernel) ⟨Nat.le_of_ble_eq_true rfl, Nat.le_of_ble_eq_true rfl⟩) rfl hl.1 rfl (Nat.le_of_ble_eq_true rfl) dL_act_65 ⟨by show _ ≤ (41 : Nat); omega, by show _ ≤ (1646 : Nat); omega⟩ (fun z_65 h_65 => ?_)
  have jn_83 : ∀  (r : Int), (1 ≤ r ∧ r ≤ 40) → ∀ ls : Array Slot, lv_has ls 9 [(0, .ref (E0.2.2 10)), (1, .ref (E0.2.2 g)), (2, .int (zI x)), (3, .int (zI h)), (4, .int (zI n)), (6, .int (zI r))] → W pg l en rL_act s0 mi ar bl me co s0.heap [] 0 0 Q (F0 mi 83 ls []) := by
    intro r hr ls hl
    refine lv_iload hx hb dL_act_83 (lv_at hl 4 rfl) ?_
    have jn_102 : (M h 1 = 0 ∨ 40 < M h 1 + r) → ∀ ls : Array Slot, lv_has ls 9 [(0, .ref (E0.2.2 10)), (1, .ref (E0.2.2 g)), (2, .int (zI x)), (3, .int (zI h)), (4, .int (zI n)), (6, .int (zI r))] → W pg l en rL_act s0 mi ar bl me co s0.heap [] 0 0 Q (F0 mi 102 ls []) := by
      intro  hc ls hl
      refine k_push hx hb dL_act_102 ?_
      refine lv_istore (lv' := [(7, .int (zI 0)), (0, .ref (E0.2.2 10)), (1, .ref (E0.2.2 g)), (2, .int (zI x)), (3, .int (zI h)), (4, .int (zI n)), (6, .int (zI r))]) hx hb dL_act_103 hl (by decide) rfl (fun ls hl => ?_)
      refine k_push hx hb dL_act_105 ?_
      refine lv_istore (lv' := [(8, .int (zI 0)), (7, .int (zI 0)), (0, .ref (E0.2.2 10)), (1, .ref (E0.2.2 g)), (2, .int (zI x)), (3, .int (zI h)), (4, .int (zI n)), (6, .int (zI r))]) hx hb dL_act_106 hl (by decide) rfl (fun ls hl => ?_)
      refine lv_iload hx hb dL_act_108 (lv_at hl 0 rfl) ?_
      refine lv_iload hx hb dL_act_110 (lv_at hl 7 rfl) ?_
      refine k_ge (tgt := 150) hx hb dL_act_112 (by decide) (by omega) (fun c_112 => ?_) (fun c_112 => ?_)
      · exact absurd c_112 (by omega)
      · skip
        refine lv_iload hx hb dL_act_115 (lv_at hl 1 rfl) ?_
        refine k_eq0 (tgt := 150) hx hb dL_act_117 (by decide) (by omega) (fun c_117 => ?_) (fun c_117 => ?_)
        · skip
          refine lv_aload_n hx hb dL_act_150 rfl (lv_at hl 2 rfl) ?_
          refine lv_iload_n hx hb dL_act_151 rfl (lv_at hl 5 rfl) ?_
          refine lv_iload hx hb dL_act_152 (lv_at hl 7 rfl) ?_
          refine k_thrG (k_runVXG (As := [.int (zI h), .int (zI r)]) (rest := []) S hK hXs hZ hG hP hS (c_X2_again_b3 l E0 hlst M h r hh hW ⟨hr.1, hr.2, hc⟩) (cwV 2 S.2.2.2.2 gL_act_X2_again rfl rfl rfl (by decide +kernel) ⟨Nat.le_of_ble_eq_true rfl, Nat.le_of_ble_eq_true rfl⟩) (k_rX hK hP rfl) rfl hl.1 rfl (Nat.le_of_ble_eq_true rfl) dL_act_154 ⟨by show _ ≤ (41 : Nat); omega, by show _ ≤ (1646 : Nat); omega⟩) (fun _ _ _ h => h) hG hS (fun ce q9 H locs hP hS hc1 hv1 hcl1 => ?_)
          refine vx_catch S.2.2.2.1 [] ⟨150, 159, 162, 30⟩ [⟨313, 321, 324, 30⟩, ⟨446, 455, 458, 30⟩] (htab.trans rfl) (k_pass0) (by decide) (by decide) (S.2.2.2.2 _ (List.mem_cons_of_mem _ (List.mem_append_left _ (List.mem_append_left _ (List.mem_append_left _ (List.mem_append_left _ (List.mem_append_left _ (List.mem_append_left _ (List.mem_append_left _ (List.mem_append_left _ (List.mem_of_getElem? (i := 0) rfl))))))))))) (va_Nw.use rfl hXs.2.1) hc1 hv1 hcl1 ?_
          refine lv_astore (lv' := [(8, .ref q9), (7, .int (zI 0)), (0, .ref (E0.2.2 10)), (1, .ref (E0.2.2 g)), (2, .int (zI x)), (3, .int (zI h)), (4, .int (zI n)), (6, .int (zI r))]) hx hb dL_act_162 hl (by decide) rfl (fun ls hl => ?_)
          refine k_push hx hb dL_act_164 ?_
          refine lv_istore (lv' := [(5, .int (zI (-1))), (8, .ref q9), (7, .int (zI 0)), (0, .ref (E0.2.2 10)), (1, .ref (E0.2.2 g)), (2, .int (zI x)), (3, .int (zI h)), (4, .int (zI n)), (6, .int (zI r))]) hx hb dL_act_165 hl (by decide) rfl (fun ls hl => ?_)
          refine lv_iload hx hb dL_act_167 (lv_at hl 0 rfl) ?_
          refine lv_iload hx hb dL_act_169 (lv_at hl 2 rfl) ?_
          refine k_eq0 (tgt := 182) hx hb dL_act_171 (by decide) (by omega) (fun c_171 => ?_) (fun c_171 => ?_)
          · skip
            refine k_push hx hb dL_act_182 ?_
            refine k_ne (tgt := 190) hx hb dL_act_183 (by decide) (by omega) (fun c_183 => ?_) (fun c_183 => ?_)
            · exact absurd c_183 (by omega)
            · skip
              refine k_push hx hb dL_act_186 ?_
              refine lv_goto (tgt := 191) hx hb dL_act_187 (by decide) ?_
              refine W.widen (k := 41) (n := 1646) (by omega) (by omega) ?_
              refine ends _ _ E0 M (1) _ _ dL_act_191 hX hG hP hS ?_
              exact ⟨rfl, fin⟩
          · exact absurd c_171 (by omega)
        · exact absurd c_117 (by omega)
    refine k_le0 (tgt := 102) hx hb dL_act_85 (by decide) (by omega) (fun c_85 => ?_) (fun c_85 => ?_)
    · skip
      refine jn_102  (by omega) _ (lv_sub hl [0, 1, 2, 3, 4, 5] rfl)
    · skip
      refine lv_iload hx hb dL_act_88 (lv_at hl 4 rfl) ?_
      refine lv_iload hx hb dL_act_90 (lv_at hl 5 rfl) ?_
      refine k_add hx hb dL_act_92 ?_
      refine k_bpush hx hb dL_act_93 (by decide) ?_
      refine k_gt (tgt := 102) hx hb dL_act_95 (by decide) (by omega) (fun c_95 => ?_) (fun c_95 => ?_)
      · skip
        refine jn_102  (by omega) _ (lv_sub hl [0, 1, 2, 3, 4, 5] rfl)
      · skip
        refine k_push hx hb dL_act_98 ?_
        refine lv_goto (tgt := 103) hx hb dL_act_99 (by decide) ?_
        refine lv_istore (lv' := [(7, .int (zI 1)), (0, .ref (E0.2.2 10)), (1, .ref (E0.2.2 g)), (2, .int (zI x)), (3, .int (zI h)), (4, .int (zI n)), (6, .int (zI r))]) hx hb dL_act_103 hl (by decide) rfl (fun ls hl => ?_)
        refine k_push hx hb dL_act_105 ?_
        refine lv_istore (lv' := [(8, .int (zI 0)), (7, .int (zI 1)), (0, .ref (E0.2.2 10)), (1, .ref (E0.2.2 g)), (2, .int (zI x)), (3, .int (zI h)), (4, .int (zI n)), (6, .int (zI r))]) hx hb dL_act_106 hl (by decide) rfl (fun ls hl => ?_)
        have lp_108 : ∀ (n_108 : Nat) (k : Int) (y : Int → Int) (E_108 : kE) (M_108 : kM) (H : Heap) (locs : List Loc), (0 ≤ k ∧ k ≤ r) → (kSm E_108 M_108 g y (fun i => if i = h then n + k else M i 1) (fun i j => if i = h then kCy (M (h + 3)) n j else M (i + 3) j)) → (∀ c i : Int, c < 11 → M_108 c i = M c i) → (r - k < (n_108 : Int)) → kExt E0 E_108 → kK E_108 s0 → kG (kA E0 s0.heap.size) s0.heap.size E_108 → va_P E_108.1 vwCl (kW E_108 M_108) H → va_S (kA E0 s0.heap.size) s0.heap H locs → ∀ ls : Array Slot, lv_has ls 9 [(0, .ref (E_108.2.2 10)), (1, .ref (E_108.2.2 g)), (2, .int (zI x)), (3, .int (zI h)), (4, .int (zI n)), (6, .int (zI r)), (7, .int (zI 1)), (8, .int (zI k))] → W pg l en rL_act s0 mi ar bl me co H locs (k.toNat) (41 * k.toNat) Q (F0 mi 108 ls []) := by
          intro n_108
          induction n_108 with
          | zero => intro k y E_108 M_108 H locs h1 hs hF hm_108; exfalso; omega
          | succ n_108 ih_108 =>
            intro k y E_108 M_108 H locs h1 hs hF hm_108 hX hK hG hP hS ls hl
            have hn := hK.2.2.2
            have hg := hs.1
            have hyr := (hs.2.2 h (by omega) (by omega)).1
            have arr : kArr E_108 M_108 (y h) (n + k) := by
              have q : kArr E_108 M_108 (y h) (if h = h then n + k else M h 1) := hs.arr (i := h) ⟨by omega, by omega⟩
              rw [if_pos rfl] at q
              exact q
            refine lv_iload hx hb dL_act_108 (lv_at hl 7 rfl) ?_
            refine lv_iload hx hb dL_act_110 (lv_at hl 5 rfl) ?_
            refine k_ge (tgt := 150) hx hb dL_act_112 (by decide) (by omega) (fun c_112 => ?_) (fun c_112 => ?_)
            · skip
              have kr : k = r := by omega
              have e81 : M_108 h 1 = n := by rw [hF h 1 (by omega), hnn]
              have hW8 : kWf M_108 := (kI0_congr hI hF).1
              refine lv_aload_n hx hb dL_act_150 rfl (lv_at hl 0 rfl) ?_
              refine lv_iload_n hx hb dL_act_151 rfl (lv_at hl 3 rfl) ?_
              refine lv_iload hx hb dL_act_152 (lv_at hl 5 rfl) ?_
              refine k_callVWG (As := [.int (zI h), .int (zI r)]) (rest := []) S hK hG hP hS (c_X2_again l E_108 hG.1 M_108 h r (by omega) (by assumption) (by omega)) (cwV 2 S.2.2.2.2 gL_act_X2_again rfl rfl rfl (by decide +kernel) ⟨Nat.le_of_ble_eq_true rfl, Nat.le_of_ble_eq_true rfl⟩) (k_rX hK hP rfl) rfl hl.1 rfl (Nat.le_of_ble_eq_true rfl) dL_act_154 ⟨by show _ ≤ (41 : Nat); omega, by show _ ≤ (1646 : Nat); omega⟩ (fun z_154 M_154 H locs h_154 hP hS => ?_)
              obtain ⟨p1, p2, p3, p4, p5, p6, p7⟩ := h_154
              have fin := kJ_again hI hh hnn ⟨hr.1, by omega, by omega⟩ hF (by rw [kr] at hs; exact hs) p1 p2 p3 p4 p5 p6
              refine lv_istore (lv' := [(5, .int (zI z_154)), (0, .ref (E_108.2.2 10)), (1, .ref (E_108.2.2 g)), (2, .int (zI x)), (3, .int (zI h)), (4, .int (zI n)), (6, .int (zI r)), (7, .int (zI 1)), (8, .int (zI k))]) hx hb dL_act_157 hl (by decide) rfl (fun ls hl => ?_)
              refine lv_goto (tgt := 167) hx hb dL_act_159 (by decide) ?_
              refine lv_iload hx hb dL_act_167 (lv_at hl 0 rfl) ?_
              refine lv_iload hx hb dL_act_169 (lv_at hl 7 rfl) ?_
              refine k_eq0 (tgt := 182) hx hb dL_act_171 (by decide) (by omega) (fun c_171 => ?_) (fun c_171 => ?_)
              · exact absurd c_171 (by omega)
              · skip
                refine lv_iload hx hb dL_act_174 (lv_at hl 5 rfl) ?_
                refine lv_iload hx hb dL_act_176 (lv_at hl 6 rfl) ?_
                refine k_add hx hb dL_act_178 ?_
                refine lv_goto (tgt := 183) hx hb dL_act_179 (by decide) ?_
                refine k_ne (tgt := 190) hx hb dL_act_183 (by decide) (by omega) (fun c_183 => ?_) (fun c_183 => ?_)
                · exact absurd c_183 (by omega)
                · skip
                  refine k_push hx hb dL_act_186 ?_
                  refine lv_goto (tgt := 191) hx hb dL_act_187 (by decide) ?_
                  refine W.widen (k := 41) (n := 1646) (by omega) (by omega) ?_
                  refine ends _ _ E_108 M_154 (1) _ _ dL_act_191 hX hG hP hS ?_
                  exact ⟨rfl, fin⟩
            · skip
              refine lv_iload hx hb dL_act_115 (lv_at hl 6 rfl) ?_
              refine k_eq0 (tgt := 150) hx hb dL_act_117 (by decide) (by omega) (fun c_117 => ?_) (fun c_117 => ?_)
              · exact absurd c_117 (by omega)
              · skip
                refine lv_aload_n hx hb dL_act_120 rfl (lv_at hl 1 rfl) ?_
                refine k_sim S hK hP hinX40 0 (by decide) (S.2.2.2.2 _ (List.mem_cons_of_mem _ (List.mem_append_left _ (List.mem_append_left _ (List.mem_append_left _ (List.mem_append_left _ (List.mem_append_left _ (List.mem_append_left _ (List.mem_append_left _ (List.mem_append_left _ (List.mem_of_getElem? (i := 1) rfl))))))))))) dL_act_121 ⟨hs.1.1, by have := hs.1.2.1; omega, hs.1.2.2.1⟩ (a := E_108.2.2 (g + 1)) hs.1.2.2.2.1 rfl ?_
                refine lv_iload_n hx hb dL_act_124 rfl (lv_at hl 3 rfl) ?_
                refine lv_aload_n hx hb dL_act_125 rfl (lv_at hl 1 rfl) ?_
                refine k_sim S hK hP hinX40 0 (by decide) (S.2.2.2.2 _ (List.mem_cons_of_mem _ (List.mem_append_left _ (List.mem_append_left _ (List.mem_append_left _ (List.mem_append_left _ (List.mem_append_left _ (List.mem_append_left _ (List.mem_append_left _ (List.mem_append_left _ (List.mem_of_getElem? (i := 1) rfl))))))))))) dL_act_126 ⟨hs.1.1, by have := hs.1.2.1; omega, hs.1.2.2.1⟩ (a := E_108.2.2 (g + 1)) hs.1.2.2.2.1 rfl ?_
                refine lv_iload_n hx hb dL_act_129 rfl (lv_at hl 3 rfl) ?_
                refine k_aald S hK hP 2 ⟨by have := hs.1.1; omega, hs.1.2.1, hs.2.1.1, hs.2.1.2.1, by omega, by omega⟩ (by omega) (a := E_108.2.2 (y h)) (hs.2.1.2.2 _ (by omega) (by omega)) dL_act_130 ?_
                refine lv_aload_n hx hb dL_act_131 rfl (lv_at hl 1 rfl) ?_
                refine k_sim S hK hP hinX40 0 (by decide) (S.2.2.2.2 _ (List.mem_cons_of_mem _ (List.mem_append_left _ (List.mem_append_left _ (List.mem_append_left _ (List.mem_append_left _ (List.mem_append_left _ (List.mem_append_left _ (List.mem_append_left _ (List.mem_append_left _ (List.mem_of_getElem? (i := 1) rfl))))))))))) dL_act_132 ⟨hs.1.1, by have := hs.1.2.1; omega, hs.1.2.2.1⟩ (a := E_108.2.2 (g + 1)) hs.1.2.2.2.1 rfl ?_
                refine lv_iload_n hx hb dL_act_135 rfl (lv_at hl 3 rfl) ?_
                refine k_aald S hK hP 2 ⟨by have := hs.1.1; omega, hs.1.2.1, hs.2.1.1, hs.2.1.2.1, by omega, by omega⟩ (by omega) (a := E_108.2.2 (y h)) (hs.2.1.2.2 _ (by omega) (by omega)) dL_act_136 ?_
                refine lv_iload hx hb dL_act_137 (lv_at hl 7 rfl) ?_
                refine k_ald S hK hP (n + k) (arr) (by omega) dL_act_139 ?_
                refine k_callSNR (As := [.ref (E_108.2.2 (y h)), .int (zI (M_108 (y h) k))]) (rest := [.int (zI h), .ref (E_108.2.2 (g + 1))]) S hK hG hP hS (c_X4_with l E_108 hG.1 M_108 (y h) (n + k) (M_108 (y h) k) (by exact arr) (by omega) (by omega)) (va_cwS 2 S.2.2.2.2 gL_act_X4_with rfl rfl rfl (by decide +kernel) ⟨Nat.le_of_ble_eq_true rfl, Nat.le_of_ble_eq_true rfl⟩) rfl hl.1 rfl (Nat.le_of_ble_eq_true rfl) dL_act_140 ⟨by show _ ≤ (41 : Nat); omega, by show _ ≤ (1646 : Nat); omega⟩ (fun E140 M140 z_140 H locs hX140 hK hG h_140 hP hS => ?_)
                have md := h_140
                obtain ⟨⟨m1, m2⟩, m3, m4, m5, m6⟩ := h_140
                have hl : lv_has ls 9 [(0, .ref (E140.2.2 10)), (1, .ref (E140.2.2 g)), (2, .int (zI x)), (3, .int (zI h)), (4, .int (zI n)), (6, .int (zI r)), (7, .int (zI 1)), (8, .int (zI k))] := by rw [hX140.ad (c := 10) (by omega), hX140.ad (c := g) (by omega)]; exact hl
                rw [← hX140.ad (c := g + 1) (by omega)]
                have hX := hX.tr hX140
                refine k_aast S hK hG hP hS 2 (n + k + 1) ⟨by omega, by omega, by rw [m3 _ _ (by omega)]; exact hs.2.1.1, by rw [m3 _ _ (by omega)]; exact hs.2.1.2.1, by omega, by omega⟩ (by omega) (Or.inr (Or.inr ⟨by omega, by omega, m4, m5, by omega, by omega⟩)) dL_act_143 (fun H locs hP hS => ?_)
                obtain ⟨M143, eM143⟩ : ∃ N9 : kM, N9 = kU M140 (g + 1) h (E140.2.2 z_140 : Int) := ⟨_, rfl⟩
                rw [← eM143] at hP
                obtain ⟨⟨y1, hs1⟩, hF1, hn1x⟩ := kSm_cy hs hh ⟨h1.1, by omega, by omega⟩ hX140 md eM143
                obtain ⟨v8_144, ev8_144⟩ : ∃ v : Int, v = k + 1 := ⟨_, rfl⟩
                refine k_incN (v := v8_144) (lv' := [(8, .int (zI v8_144)), (0, .ref (E140.2.2 10)), (1, .ref (E140.2.2 g)), (2, .int (zI x)), (3, .int (zI h)), (4, .int (zI n)), (6, .int (zI r)), (7, .int (zI 1))]) hx hb dL_act_144 hl (k := 7) rfl ev8_144 (by decide) rfl (fun ls hl => ?_)
                refine lv_goto (tgt := 108) hx hb dL_act_147 (by decide) ?_
                refine W.widen (k := v8_144.toNat) (n := 41 * v8_144.toNat) (by omega) (by omega) ?_
                refine ih_108 v8_144 y1 E140 M143 _ _ (by omega) (by rw [ev8_144]; exact hs1) (by exact fun c i hc => (hF1 c i hc).trans (hF c i hc)) (by omega) hX hK hG hP hS _ (lv_sub hl [1, 2, 3, 4, 5, 6, 7, 0] rfl)
        refine W.widen (k := (0 : Int).toNat) (n := 41 * (0 : Int).toNat) (by omega) (by omega) ?_
        refine lp_108 (((r - 0 : Int)).toNat + 1) 0 y E0 M _ _ (by omega) ?_ (by exact fun _ _ _ => rfl) (by omega) hX hK hG hP hS _ (lv_sub hl [2, 3, 4, 5, 6, 7, 1, 0] rfl)
        · refine hs.like (fun i _ _ => ?_) (fun i j _ _ j1 j2 => ?_)
          · show (if i = h then n + 0 else M i 1) = M i 1
            by_cases e : i = h
            · rw [if_pos e, e]; omega
            · rw [if_neg e]
          · show (if i = h then kCy (M (h + 3)) n j else M (i + 3) j) = M (i + 3) j
            by_cases e : i = h
            · have j2 : j < M i 1 := j2
              rw [if_pos e, e]
              rw [e] at j2
              exact kCy_lt ⟨j1, by omega⟩
            · rw [if_neg e]
  refine k_ne0 (tgt := 75) hx hb dL_act_68 (by decide) (by omega) (fun c_68 => ?_) (fun c_68 => ?_)
  · skip
    refine k_bpush hx hb dL_act_75 (by decide) ?_
    refine k_callS (As := [.int (zI z_59), .int (zI 40)]) (rest := [.int (zI 1)]) S hK hP (c_L_below l E0 M z_59 40 (by omega)) (va_cwS 2 S.2.2.2.2 gL_act_L_below rfl rfl rfl (by decide +kernel) ⟨Nat.le_of_ble_eq_true rfl, Nat.le_of_ble_eq_true rfl⟩) rfl hl.1 rfl (Nat.le_of_ble_eq_true rfl) dL_act_77 ⟨by show _ ≤ (41 : Nat); omega, by show _ ≤ (1646 : Nat); omega⟩ (fun z_77 h_77 => ?_)
    refine k_add hx hb dL_act_80 ?_
    refine k_nm (fun v6_81 ev6_81 => ?_)
    refine lv_istore (lv' := [(6, .int (zI v6_81)), (4, .int (zI n)), (3, .int (zI h)), (0, .ref (E0.2.2 10)), (1, .ref (E0.2.2 g)), (2, .int (zI x))]) hx hb dL_act_81 hl (by decide) rfl (fun ls hl => ?_)
    refine jn_83 v6_81 (by omega) _ (lv_sub hl [3, 4, 5, 2, 1, 0] rfl)
  · skip
    refine k_push hx hb dL_act_71 ?_
    refine lv_goto (tgt := 77) hx hb dL_act_72 (by decide) ?_
    refine k_callS (As := [.int (zI z_59), .int (zI 5)]) (rest := [.int (zI 1)]) S hK hP (c_L_below l E0 M z_59 5 (by omega)) (va_cwS 2 S.2.2.2.2 gL_act_L_below rfl rfl rfl (by decide +kernel) ⟨Nat.le_of_ble_eq_true rfl, Nat.le_of_ble_eq_true rfl⟩) rfl hl.1 rfl (Nat.le_of_ble_eq_true rfl) dL_act_77 ⟨by show _ ≤ (41 : Nat); omega, by show _ ≤ (1646 : Nat); omega⟩ (fun z_77 h_77 => ?_)
    refine k_add hx hb dL_act_80 ?_
    refine k_nm (fun v6_81 ev6_81 => ?_)
    refine lv_istore (lv' := [(6, .int (zI v6_81)), (4, .int (zI n)), (3, .int (zI h)), (0, .ref (E0.2.2 10)), (1, .ref (E0.2.2 g)), (2, .int (zI x))]) hx hb dL_act_81 hl (by decide) rfl (fun ls hl => ?_)
    refine jn_83 v6_81 (by omega) _ (lv_sub hl [3, 4, 5, 2, 1, 0] rfl)
set_option maxHeartbeats 4000000 in
set_option maxRecDepth 100000 in
theorem s_L_act_cut {pg : Program} {en : Env} {s0 : State} {mi : MethodId} {ar : Array Value} {bl : List Frame} {me : Method} {co : Code} {ls : Array Slot} {Q : State → Prop} (l : Launch) (hlst : l.stackTraces = false) (E0 : kE) (M : kM) (g h n x : Int) (hJ : kJ E0 M g) (hh : 0 ≤ h ∧ h < 2) (hnn : n = M h 1) (S : CallFix pg mi co cL_act 9 s0 ar wsL_act RL) (hP : va_P E0.1 vwCl (kW E0 M) s0.heap) (hS : va_S (kA E0 s0.heap.size) s0.heap s0.heap []) (hK : kK E0 s0) (hG : kG (kA E0 s0.heap.size) s0.heap.size E0) (hXs : kXs s0) (hZ : kZ (kA E0 s0.heap.size) s0 s0.heap) (htab : co.exceptionTable.toList = tableOf [(150, 159, 162, 30), (313, 321, 324, 30), (446, 455, 458, 30)]) (ends : kEndI pg l en rL_act s0 mi ar bl me co cL_act 41 1646 E0 (fun E1 M1 z => z = 1 ∧ kJ E1 M1 g) Q) (hl : lv_has ls 9 [(4, .int (zI n)), (3, .int (zI h)), (0, .ref (E0.2.2 10)), (1, .ref (E0.2.2 g)), (2, .int (zI x))]) : W pg l en rL_act s0 mi ar bl me co s0.heap [] 0 0 Q (F0 mi 192 ls []) := by
  have hx := S.1
  have hb := S.2.1
  have hn := hK.2.2.2
  have hinX00 : ∀ w ∈ wsX00, w ∈ wsL_act := fun w h => List.mem_cons_of_mem _ (List.mem_append_left _ (List.mem_append_left _ (List.mem_append_left _ (List.mem_append_left _ (List.mem_append_left _ (List.mem_append_right _ (h)))))))
  have hinX10 : ∀ w ∈ wsX10, w ∈ wsL_act := fun w h => List.mem_cons_of_mem _ (List.mem_append_left _ (List.mem_append_left _ (List.mem_append_left _ (List.mem_append_left _ (List.mem_append_right _ (h))))))
  have hinX20 : ∀ w ∈ wsX20, w ∈ wsL_act := fun w h => List.mem_cons_of_mem _ (List.mem_append_left _ (List.mem_append_left _ (List.mem_append_left _ (List.mem_append_right _ (h)))))
  have hinX40 : ∀ w ∈ wsX40, w ∈ wsL_act := fun w h => List.mem_cons_of_mem _ (List.mem_append_left _ (List.mem_append_left _ (List.mem_append_left _ (List.mem_append_left _ (List.mem_append_left _ (List.mem_append_left _ (List.mem_append_right _ (h))))))))
  have hX : kExt E0 E0 := kExt.rf E0
  have hl : lv_has ls 9 [(4, .int (zI n)), (3, .int (zI h)), (0, .ref (E0.2.2 10)), (1, .ref (E0.2.2 g)), (2, .int (zI x))] := hl
  have hE := hG.1
  have hJ0 := hJ
  obtain ⟨hI, y, hs⟩ := hJ
  obtain ⟨hW, hO2, hp12⟩ := id hI
  obtain ⟨hn0, hn1, hv⟩ := hW h (by omega)
  have hg := hs.1
  have hyr := (hs.2.2 h (by omega) (by omega)).1
  have fin := hJ0
  refine lv_iload hx hb dL_act_192 (lv_at hl 0 rfl) ?_
  refine k_ne0 (tgt := 199) hx hb dL_act_194 (by decide) (by omega) (fun c_194 => ?_) (fun c_194 => ?_)
  · skip
    refine k_push hx hb dL_act_199 ?_
    refine lv_iload_n hx hb dL_act_200 rfl (lv_at hl 4 rfl) ?_
    refine k_push hx hb dL_act_201 ?_
    refine k_shr hx hb dL_act_202 (fun z_202 h_202 => ?_)
    refine lv_iload_n hx hb dL_act_203 rfl (lv_at hl 4 rfl) ?_
    refine k_bpush hx hb dL_act_204 (by decide) ?_
    refine k_shr hx hb dL_act_206 (fun z_206 h_206 => ?_)
    refine k_push hx hb dL_act_207 ?_
    refine k_callS (As := [.int (zI z_206), .int (zI 3)]) (rest := [.int (zI z_202), .int (zI 1)]) S hK hP (c_L_below l E0 M z_206 3 (by omega)) (va_cwS 2 S.2.2.2.2 gL_act_L_below rfl rfl rfl (by decide +kernel) ⟨Nat.le_of_ble_eq_true rfl, Nat.le_of_ble_eq_true rfl⟩) rfl hl.1 rfl (Nat.le_of_ble_eq_true rfl) dL_act_208 ⟨by show _ ≤ (41 : Nat); omega, by show _ ≤ (1646 : Nat); omega⟩ (fun z_208 h_208 => ?_)
    have jn_231 : ∀  (r : Int), (1 ≤ r ∧ r ≤ n) → ∀ ls : Array Slot, lv_has ls 9 [(0, .ref (E0.2.2 10)), (1, .ref (E0.2.2 g)), (2, .int (zI x)), (3, .int (zI h)), (4, .int (zI n)), (6, .int (zI r))] → W pg l en rL_act s0 mi ar bl me co s0.heap [] 0 0 Q (F0 mi 231 ls []) := by
      intro r hr ls hl
      refine lv_aload_n hx hb dL_act_231 rfl (lv_at hl 1 rfl) ?_
      refine k_sim S hK hP hinX40 0 (by decide) (S.2.2.2.2 _ (List.mem_cons_of_mem _ (List.mem_append_left _ (List.mem_append_left _ (List.mem_append_left _ (List.mem_append_left _ (List.mem_append_left _ (List.mem_append_left _ (List.mem_append_left _ (List.mem_append_left _ (List.mem_of_getElem? (i := 1) rfl))))))))))) dL_act_232 ⟨hs.1.1, by have := hs.1.2.1; omega, hs.1.2.2.1⟩ (a := E0.2.2 (g + 1)) hs.1.2.2.2.1 rfl ?_
      refine lv_iload_n hx hb dL_act_235 rfl (lv_at hl 3 rfl) ?_
      refine lv_aload_n hx hb dL_act_236 rfl (lv_at hl 1 rfl) ?_
      refine k_sim S hK hP hinX40 0 (by decide) (S.2.2.2.2 _ (List.mem_cons_of_mem _ (List.mem_append_left _ (List.mem_append_left _ (List.mem_append_left _ (List.mem_append_left _ (List.mem_append_left _ (List.mem_append_left _ (List.mem_append_left _ (List.mem_append_left _ (List.mem_of_getElem? (i := 1) rfl))))))))))) dL_act_237 ⟨hs.1.1, by have := hs.1.2.1; omega, hs.1.2.2.1⟩ (a := E0.2.2 (g + 1)) hs.1.2.2.2.1 rfl ?_
      refine lv_iload_n hx hb dL_act_240 rfl (lv_at hl 3 rfl) ?_
      refine k_aald S hK hP 2 ⟨by have := hs.1.1; omega, hs.1.2.1, hs.2.1.1, hs.2.1.2.1, by omega, by omega⟩ (by omega) (a := E0.2.2 (y h)) (hs.2.1.2.2 _ (by omega) (by omega)) dL_act_241 ?_
      refine lv_iload hx hb dL_act_242 (lv_at hl 4 rfl) ?_
      refine lv_iload hx hb dL_act_244 (lv_at hl 5 rfl) ?_
      refine k_sub hx hb dL_act_246 ?_
      refine k_callSNR (As := [.ref (E0.2.2 (y h)), .int (zI (n - r))]) (rest := [.int (zI h), .ref (E0.2.2 (g + 1))]) S hK hG hP hS (c_X4_cut l E0 hG.1 M (y h) n (n - r) (by rw [hnn]; exact hs.arr (i := h) ⟨by omega, by omega⟩) (by omega) (by omega)) (va_cwS 2 S.2.2.2.2 gL_act_X4_cut rfl rfl rfl (by decide +kernel) ⟨Nat.le_of_ble_eq_true rfl, Nat.le_of_ble_eq_true rfl⟩) rfl hl.1 rfl (Nat.le_of_ble_eq_true rfl) dL_act_247 ⟨by show _ ≤ (41 : Nat); omega, by show _ ≤ (1646 : Nat); omega⟩ (fun E247 M247 z_247 H locs hX247 hK hG h_247 hP hS => ?_)
      have md := h_247
      obtain ⟨⟨m1, m2⟩, m3, m4, m5, m6⟩ := h_247
      have hl : lv_has ls 9 [(0, .ref (E247.2.2 10)), (1, .ref (E247.2.2 g)), (2, .int (zI x)), (3, .int (zI h)), (4, .int (zI n)), (6, .int (zI r))] := by rw [hX247.ad (c := 10) (by omega), hX247.ad (c := g) (by omega)]; exact hl
      rw [← hX247.ad (c := g + 1) (by omega)]
      have hX := hX.tr hX247
      refine k_aast S hK hG hP hS 2 (n - r) ⟨by omega, by omega, by rw [m3 _ _ (by omega)]; exact hs.2.1.1, by rw [m3 _ _ (by omega)]; exact hs.2.1.2.1, by omega, by omega⟩ (by omega) (Or.inr (Or.inr ⟨by omega, by omega, m4, m5, by omega, by omega⟩)) dL_act_250 (fun H locs hP hS => ?_)
      obtain ⟨M250, eM250⟩ : ∃ N9 : kM, N9 = kU M247 (g + 1) h (E247.2.2 z_247 : Int) := ⟨_, rfl⟩
      rw [← eM250] at hP
      obtain ⟨⟨y1, hs1⟩, hF1, hn1x⟩ := kSm_cut hs hh hnn ⟨by omega, by omega, by omega⟩ hX247 md eM250
      have e81 : M250 h 1 = n := by rw [hF1 h 1 (by omega), hnn]
      have hW8 : kWf M250 := (kI0_congr hI hF1).1
      refine lv_aload_n hx hb dL_act_251 rfl (lv_at hl 0 rfl) ?_
      refine lv_iload_n hx hb dL_act_252 rfl (lv_at hl 3 rfl) ?_
      refine lv_iload hx hb dL_act_253 (lv_at hl 5 rfl) ?_
      refine k_callVWG (As := [.int (zI h), .int (zI r)]) (rest := []) S hK hG hP hS (c_X2_unpick l E247 hG.1 M250 h r (by omega) (by assumption) (by omega)) (cwV 2 S.2.2.2.2 gL_act_X2_unpick rfl rfl rfl (by decide +kernel) ⟨Nat.le_of_ble_eq_true rfl, Nat.le_of_ble_eq_true rfl⟩) (k_rX hK hP rfl) rfl hl.1 rfl (Nat.le_of_ble_eq_true rfl) dL_act_255 ⟨by show _ ≤ (41 : Nat); omega, by show _ ≤ (1646 : Nat); omega⟩ (fun z_255 M_255 H locs h_255 hP hS => ?_)
      obtain ⟨p1, p2, p3⟩ := h_255
      have fin := kJ_cut hI hh hnn hr hF1 hs1 p1 p2
      refine lv_iload hx hb dL_act_258 (lv_at hl 4 rfl) ?_
      refine lv_iload hx hb dL_act_260 (lv_at hl 5 rfl) ?_
      refine k_sub hx hb dL_act_262 ?_
      refine k_ne (tgt := 270) hx hb dL_act_263 (by decide) (by omega) (fun c_263 => ?_) (fun c_263 => ?_)
      · exact absurd c_263 (by omega)
      · skip
        refine k_push hx hb dL_act_266 ?_
        refine lv_goto (tgt := 271) hx hb dL_act_267 (by decide) ?_
        refine W.widen (k := 41) (n := 1646) (by omega) (by omega) ?_
        refine ends _ _ E247 M_255 (1) _ _ dL_act_271 hX hG hP hS ?_
        exact ⟨rfl, fin⟩
    refine k_ne0 (tgt := 219) hx hb dL_act_211 (by decide) (by omega) (fun c_211 => ?_) (fun c_211 => ?_)
    · skip
      refine lv_iload hx hb dL_act_219 (lv_at hl 0 rfl) ?_
      refine k_push hx hb dL_act_221 ?_
      refine k_min S hl.1 (S.2.2.2.2 _ (List.mem_cons_of_mem _ (List.mem_append_left _ (List.mem_append_left _ (List.mem_append_left _ (List.mem_append_left _ (List.mem_append_left _ (List.mem_append_left _ (List.mem_append_left _ (List.mem_append_left _ (List.mem_of_getElem? (i := 2) rfl))))))))))) (S.2.2.2.2 _ (List.mem_cons_of_mem _ (List.mem_append_left _ (List.mem_append_left _ (List.mem_append_left _ (List.mem_append_left _ (List.mem_append_left _ (List.mem_append_left _ (List.mem_append_left _ (List.mem_append_left _ (List.mem_of_getElem? (i := 3) rfl))))))))))) (S.2.2.2.2 _ (List.mem_cons_of_mem _ (List.mem_append_left _ (List.mem_append_left _ (List.mem_append_left _ (List.mem_append_left _ (List.mem_append_left _ (List.mem_append_left _ (List.mem_append_left _ (List.mem_append_left _ (List.mem_of_getElem? (i := 4) rfl))))))))))) (S.2.2.2.2 _ (List.mem_cons_of_mem _ (List.mem_append_left _ (List.mem_append_left _ (List.mem_append_left _ (List.mem_append_left _ (List.mem_append_left _ (List.mem_append_left _ (List.mem_append_left _ (List.mem_append_left _ (List.mem_of_getElem? (i := 5) rfl))))))))))) ⟨Nat.le_of_ble_eq_true rfl, Nat.le_of_ble_eq_true rfl⟩ ⟨by show _ ≤ (41 : Nat); omega, by show _ ≤ (1646 : Nat); omega⟩ (by omega) dL_act_222 (fun z_222 h_222 => ?_)
      refine k_callS (As := [.int (zI z_202), .int (zI z_222)]) (rest := [.int (zI 1)]) S hK hP (c_L_below l E0 M z_202 z_222 (by omega)) (va_cwS 2 S.2.2.2.2 gL_act_L_below rfl rfl rfl (by decide +kernel) ⟨Nat.le_of_ble_eq_true rfl, Nat.le_of_ble_eq_true rfl⟩) rfl hl.1 rfl (Nat.le_of_ble_eq_true rfl) dL_act_225 ⟨by show _ ≤ (41 : Nat); omega, by show _ ≤ (1646 : Nat); omega⟩ (fun z_225 h_225 => ?_)
      refine k_add hx hb dL_act_228 ?_
      refine k_nm (fun v6_229 ev6_229 => ?_)
      refine lv_istore (lv' := [(6, .int (zI v6_229)), (4, .int (zI n)), (3, .int (zI h)), (0, .ref (E0.2.2 10)), (1, .ref (E0.2.2 g)), (2, .int (zI x))]) hx hb dL_act_229 hl (by decide) rfl (fun ls hl => ?_)
      refine jn_231 v6_229 (by omega) _ (lv_sub hl [3, 4, 5, 2, 1, 0] rfl)
    · skip
      refine lv_iload hx hb dL_act_214 (lv_at hl 0 rfl) ?_
      refine lv_goto (tgt := 225) hx hb dL_act_216 (by decide) ?_
      refine k_callS (As := [.int (zI z_202), .int (zI n)]) (rest := [.int (zI 1)]) S hK hP (c_L_below l E0 M z_202 n (by omega)) (va_cwS 2 S.2.2.2.2 gL_act_L_below rfl rfl rfl (by decide +kernel) ⟨Nat.le_of_ble_eq_true rfl, Nat.le_of_ble_eq_true rfl⟩) rfl hl.1 rfl (Nat.le_of_ble_eq_true rfl) dL_act_225 ⟨by show _ ≤ (41 : Nat); omega, by show _ ≤ (1646 : Nat); omega⟩ (fun z_225 h_225 => ?_)
      refine k_add hx hb dL_act_228 ?_
      refine k_nm (fun v6_229 ev6_229 => ?_)
      refine lv_istore (lv' := [(6, .int (zI v6_229)), (4, .int (zI n)), (3, .int (zI h)), (0, .ref (E0.2.2 10)), (1, .ref (E0.2.2 g)), (2, .int (zI x))]) hx hb dL_act_229 hl (by decide) rfl (fun ls hl => ?_)
      refine jn_231 v6_229 (by omega) _ (lv_sub hl [3, 4, 5, 2, 1, 0] rfl)
  · skip
    refine k_push hx hb dL_act_197 ?_
    refine W.widen (k := 41) (n := 1646) (by omega) (by omega) ?_
    refine ends _ _ E0 M (1) _ _ dL_act_198 hX hG hP hS ?_
    exact ⟨rfl, fin⟩
set_option maxHeartbeats 4000000 in
set_option maxRecDepth 100000 in
theorem s_L_act_add {pg : Program} {en : Env} {s0 : State} {mi : MethodId} {ar : Array Value} {bl : List Frame} {me : Method} {co : Code} {ls : Array Slot} {Q : State → Prop} (l : Launch) (hlst : l.stackTraces = false) (E0 : kE) (M : kM) (g h n x : Int) (hJ : kJ E0 M g) (hh : 0 ≤ h ∧ h < 2) (hnn : n = M h 1) (S : CallFix pg mi co cL_act 9 s0 ar wsL_act RL) (hP : va_P E0.1 vwCl (kW E0 M) s0.heap) (hS : va_S (kA E0 s0.heap.size) s0.heap s0.heap []) (hK : kK E0 s0) (hG : kG (kA E0 s0.heap.size) s0.heap.size E0) (hXs : kXs s0) (hZ : kZ (kA E0 s0.heap.size) s0 s0.heap) (htab : co.exceptionTable.toList = tableOf [(150, 159, 162, 30), (313, 321, 324, 30), (446, 455, 458, 30)]) (ends : kEndI pg l en rL_act s0 mi ar bl me co cL_act 41 1646 E0 (fun E1 M1 z => z = 1 ∧ kJ E1 M1 g) Q) (hl : lv_has ls 9 [(4, .int (zI n)), (3, .int (zI h)), (0, .ref (E0.2.2 10)), (1, .ref (E0.2.2 g)), (2, .int (zI x))]) : W pg l en rL_act s0 mi ar bl me co s0.heap [] 0 0 Q (F0 mi 272 ls []) := by
  have hx := S.1
  have hb := S.2.1
  have hn := hK.2.2.2
  have hinX00 : ∀ w ∈ wsX00, w ∈ wsL_act := fun w h => List.mem_cons_of_mem _ (List.mem_append_left _ (List.mem_append_left _ (List.mem_append_left _ (List.mem_append_left _ (List.mem_append_left _ (List.mem_append_right _ (h)))))))
  have hinX10 : ∀ w ∈ wsX10, w ∈ wsL_act := fun w h => List.mem_cons_of_mem _ (List.mem_append_left _ (List.mem_append_left _ (List.mem_append_left _ (List.mem_append_left _ (List.mem_append_right _ (h))))))
  have hinX20 : ∀ w ∈ wsX20, w ∈ wsL_act := fun w h => List.mem_cons_of_mem _ (List.mem_append_left _ (List.mem_append_left _ (List.mem_append_left _ (List.mem_append_right _ (h)))))
  have hinX40 : ∀ w ∈ wsX40, w ∈ wsL_act := fun w h => List.mem_cons_of_mem _ (List.mem_append_left _ (List.mem_append_left _ (List.mem_append_left _ (List.mem_append_left _ (List.mem_append_left _ (List.mem_append_left _ (List.mem_append_right _ (h))))))))
  have hX : kExt E0 E0 := kExt.rf E0
  have hl : lv_has ls 9 [(4, .int (zI n)), (3, .int (zI h)), (0, .ref (E0.2.2 10)), (1, .ref (E0.2.2 g)), (2, .int (zI x))] := hl
  have hE := hG.1
  have hJ0 := hJ
  obtain ⟨hI, y, hs⟩ := hJ
  obtain ⟨hW, hO2, hp12⟩ := id hI
  obtain ⟨hn0, hn1, hv⟩ := hW h (by omega)
  have hg := hs.1
  have hyr := (hs.2.2 h (by omega) (by omega)).1
  have fin := hJ0
  obtain ⟨hp0, hp1, hpv⟩ := hW 2 (by omega)
  have hsr := (hs.2.2 2 (by omega) (by omega)).1
  refine lv_aload_n hx hb dL_act_272 rfl (lv_at hl 3 rfl) ?_
  refine k_sim S hK hP hinX40 1 (by decide) (S.2.2.2.2 _ (List.mem_cons_of_mem _ (List.mem_append_left _ (List.mem_append_left _ (List.mem_append_left _ (List.mem_append_left _ (List.mem_append_left _ (List.mem_append_left _ (List.mem_append_left _ (List.mem_append_left _ (List.mem_of_getElem? (i := 6) rfl))))))))))) dL_act_273 ⟨hs.1.1, by have := hs.1.2.1; omega, hs.1.2.2.1⟩ (a := E0.2.2 (y 2)) hs.1.2.2.2.2 rfl ?_
  refine k_alen S hK hP (M 2 1) (hs.arr (i := 2) ⟨by omega, by omega⟩) dL_act_276 ?_
  refine k_bpush hx hb dL_act_277 (by decide) ?_
  refine k_ge (tgt := 286) hx hb dL_act_279 (by decide) (by omega) (fun c_279 => ?_) (fun c_279 => ?_)
  · skip
    refine k_push hx hb dL_act_286 ?_
    refine lv_istore (lv' := [(6, .int (zI 0)), (4, .int (zI n)), (3, .int (zI h)), (0, .ref (E0.2.2 10)), (1, .ref (E0.2.2 g)), (2, .int (zI x))]) hx hb dL_act_287 hl (by decide) rfl (fun ls hl => ?_)
    refine lv_iload_n hx hb dL_act_289 rfl (lv_at hl 5 rfl) ?_
    refine k_callS (As := [.int (zI x)]) (rest := []) S hK hP (c_L_stitchOf l E0 M x ) (va_cwS 1 S.2.2.2.2 gL_act_L_stitchOf rfl rfl rfl (by decide +kernel) ⟨Nat.le_of_ble_eq_true rfl, Nat.le_of_ble_eq_true rfl⟩) rfl hl.1 rfl (Nat.le_of_ble_eq_true rfl) dL_act_290 ⟨by show _ ≤ (41 : Nat); omega, by show _ ≤ (1646 : Nat); omega⟩ (fun z_290 h_290 => ?_)
    refine lv_istore (lv' := [(7, .int (zI z_290)), (6, .int (zI 0)), (4, .int (zI n)), (3, .int (zI h)), (0, .ref (E0.2.2 10)), (1, .ref (E0.2.2 g)), (2, .int (zI x))]) hx hb dL_act_293 hl (by decide) rfl (fun ls hl => ?_)
    refine lv_iload hx hb dL_act_295 (lv_at hl 1 rfl) ?_
    refine k_eq0 (tgt := 313) hx hb dL_act_297 (by decide) (by omega) (fun c_297 => ?_) (fun c_297 => ?_)
    · skip
      refine lv_aload_n hx hb dL_act_313 rfl (lv_at hl 4 rfl) ?_
      refine lv_iload hx hb dL_act_314 (lv_at hl 0 rfl) ?_
      refine k_thrG (k_runVXG (As := [.int (zI z_290)]) (rest := []) S hK hXs hZ hG hP hS (c_X2_add_b2 l E0 hlst M z_290 hW h_290 (by omega)) (cwV 1 S.2.2.2.2 gL_act_X2_add rfl rfl rfl (by decide +kernel) ⟨Nat.le_of_ble_eq_true rfl, Nat.le_of_ble_eq_true rfl⟩) (k_rX hK hP rfl) rfl hl.1 rfl (Nat.le_of_ble_eq_true rfl) dL_act_316 ⟨by show _ ≤ (41 : Nat); omega, by show _ ≤ (1646 : Nat); omega⟩) (fun _ _ _ h => h) hG hS (fun ce q9 H locs hP hS hc1 hv1 hcl1 => ?_)
      refine vx_catch S.2.2.2.1 [⟨150, 159, 162, 30⟩] ⟨313, 321, 324, 30⟩ [⟨446, 455, 458, 30⟩] (htab.trans rfl) (k_pass1 (Or.inl (by decide))) (by decide) (by decide) (S.2.2.2.2 _ (List.mem_cons_of_mem _ (List.mem_append_left _ (List.mem_append_left _ (List.mem_append_left _ (List.mem_append_left _ (List.mem_append_left _ (List.mem_append_left _ (List.mem_append_left _ (List.mem_append_left _ (List.mem_of_getElem? (i := 0) rfl))))))))))) (va_Nw.use rfl hXs.2.1) hc1 hv1 hcl1 ?_
      refine lv_astore (lv' := [(8, .ref q9), (7, .int (zI z_290)), (6, .int (zI 0)), (4, .int (zI n)), (3, .int (zI h)), (0, .ref (E0.2.2 10)), (1, .ref (E0.2.2 g)), (2, .int (zI x))]) hx hb dL_act_324 hl (by decide) rfl (fun ls hl => ?_)
      refine k_push hx hb dL_act_326 ?_
      refine lv_istore (lv' := [(5, .int (zI (-1))), (8, .ref q9), (7, .int (zI z_290)), (6, .int (zI 0)), (4, .int (zI n)), (3, .int (zI h)), (0, .ref (E0.2.2 10)), (1, .ref (E0.2.2 g)), (2, .int (zI x))]) hx hb dL_act_327 hl (by decide) rfl (fun ls hl => ?_)
      refine lv_iload hx hb dL_act_329 (lv_at hl 0 rfl) ?_
      refine lv_iload hx hb dL_act_331 (lv_at hl 3 rfl) ?_
      refine k_eq0 (tgt := 344) hx hb dL_act_333 (by decide) (by omega) (fun c_333 => ?_) (fun c_333 => ?_)
      · skip
        refine k_push hx hb dL_act_344 ?_
        refine k_ne (tgt := 352) hx hb dL_act_345 (by decide) (by omega) (fun c_345 => ?_) (fun c_345 => ?_)
        · exact absurd c_345 (by omega)
        · skip
          refine k_push hx hb dL_act_348 ?_
          refine lv_goto (tgt := 353) hx hb dL_act_349 (by decide) ?_
          refine W.widen (k := 41) (n := 1646) (by omega) (by omega) ?_
          refine ends _ _ E0 M (1) _ _ dL_act_353 hX hG hP hS ?_
          exact ⟨rfl, fin⟩
      · exact absurd c_333 (by omega)
    · exact absurd c_297 (by omega)
  · skip
    refine k_push hx hb dL_act_282 ?_
    refine lv_goto (tgt := 287) hx hb dL_act_283 (by decide) ?_
    refine lv_istore (lv' := [(6, .int (zI 1)), (4, .int (zI n)), (3, .int (zI h)), (0, .ref (E0.2.2 10)), (1, .ref (E0.2.2 g)), (2, .int (zI x))]) hx hb dL_act_287 hl (by decide) rfl (fun ls hl => ?_)
    refine lv_iload_n hx hb dL_act_289 rfl (lv_at hl 5 rfl) ?_
    refine k_callS (As := [.int (zI x)]) (rest := []) S hK hP (c_L_stitchOf l E0 M x ) (va_cwS 1 S.2.2.2.2 gL_act_L_stitchOf rfl rfl rfl (by decide +kernel) ⟨Nat.le_of_ble_eq_true rfl, Nat.le_of_ble_eq_true rfl⟩) rfl hl.1 rfl (Nat.le_of_ble_eq_true rfl) dL_act_290 ⟨by show _ ≤ (41 : Nat); omega, by show _ ≤ (1646 : Nat); omega⟩ (fun z_290 h_290 => ?_)
    refine lv_istore (lv' := [(7, .int (zI z_290)), (6, .int (zI 1)), (4, .int (zI n)), (3, .int (zI h)), (0, .ref (E0.2.2 10)), (1, .ref (E0.2.2 g)), (2, .int (zI x))]) hx hb dL_act_293 hl (by decide) rfl (fun ls hl => ?_)
    refine lv_iload hx hb dL_act_295 (lv_at hl 1 rfl) ?_
    refine k_eq0 (tgt := 313) hx hb dL_act_297 (by decide) (by omega) (fun c_297 => ?_) (fun c_297 => ?_)
    · exact absurd c_297 (by omega)
    · skip
      refine lv_aload_n hx hb dL_act_300 rfl (lv_at hl 5 rfl) ?_
      refine lv_aload_n hx hb dL_act_301 rfl (lv_at hl 5 rfl) ?_
      refine k_sim S hK hP hinX40 1 (by decide) (S.2.2.2.2 _ (List.mem_cons_of_mem _ (List.mem_append_left _ (List.mem_append_left _ (List.mem_append_left _ (List.mem_append_left _ (List.mem_append_left _ (List.mem_append_left _ (List.mem_append_left _ (List.mem_append_left _ (List.mem_of_getElem? (i := 6) rfl))))))))))) dL_act_302 ⟨hs.1.1, by have := hs.1.2.1; omega, hs.1.2.2.1⟩ (a := E0.2.2 (y 2)) hs.1.2.2.2.2 rfl ?_
      refine lv_iload hx hb dL_act_305 (lv_at hl 0 rfl) ?_
      refine k_callSNR (As := [.ref (E0.2.2 (y 2)), .int (zI z_290)]) (rest := [.ref (E0.2.2 g)]) S hK hG hP hS (c_X4_with l E0 hG.1 M (y 2) (M 2 1) z_290 (by exact hs.arr (i := 2) ⟨by omega, by omega⟩) (by omega) (by omega)) (va_cwS 2 S.2.2.2.2 gL_act_X4_with rfl rfl rfl (by decide +kernel) ⟨Nat.le_of_ble_eq_true rfl, Nat.le_of_ble_eq_true rfl⟩) rfl hl.1 rfl (Nat.le_of_ble_eq_true rfl) dL_act_307 ⟨by show _ ≤ (41 : Nat); omega, by show _ ≤ (1646 : Nat); omega⟩ (fun E307 M307 z_307 H locs hX307 hK hG h_307 hP hS => ?_)
      have md := h_307
      obtain ⟨⟨m1, m2⟩, m3, m4, m5, m6⟩ := h_307
      have hl : lv_has ls 9 [(7, .int (zI z_290)), (6, .int (zI 1)), (4, .int (zI n)), (3, .int (zI h)), (0, .ref (E307.2.2 10)), (1, .ref (E307.2.2 g)), (2, .int (zI x))] := by rw [hX307.ad (c := 10) (by omega), hX307.ad (c := g) (by omega)]; exact hl
      rw [← hX307.ad (c := g) (by omega)]
      have hX := hX.tr hX307
      refine k_putsim S hK hG hP hS hinX40 1 (by decide) (S.2.2.2.2 _ (List.mem_cons_of_mem _ (List.mem_append_left _ (List.mem_append_left _ (List.mem_append_left _ (List.mem_append_left _ (List.mem_append_left _ (List.mem_append_left _ (List.mem_append_left _ (List.mem_append_left _ (List.mem_of_getElem? (i := 6) rfl))))))))))) dL_act_310 ⟨hg.1, by omega, by rw [m3 _ _ (by omega)]; exact hg.2.2.1⟩ (fun H locs hP hS => ?_)
      have hP : va_P E307.1 vwCl (kW E307 (kU M307 g 1 (E307.2.2 z_307 : Int))) H := hP
      obtain ⟨M310, eM310⟩ : ∃ N9 : kM, N9 = kU M307 g 1 (E307.2.2 z_307 : Int) := ⟨_, rfl⟩
      rw [← eM310] at hP
      obtain ⟨⟨y1, hs1⟩, hF1, hn1x⟩ := kSm_add hs ⟨hp0, by omega⟩ hX307 md eM310
      have e81 : M310 2 1 = M 2 1 := by rw [hF1 2 1 (by omega)]
      have hW8 : kWf M310 := (kI0_congr hI hF1).1
      refine lv_aload_n hx hb dL_act_313 rfl (lv_at hl 4 rfl) ?_
      refine lv_iload hx hb dL_act_314 (lv_at hl 0 rfl) ?_
      refine k_callVWG (As := [.int (zI z_290)]) (rest := []) S hK hG hP hS (c_X2_add l E307 hG.1 M310 z_290 (by assumption) (by omega) (by omega)) (cwV 1 S.2.2.2.2 gL_act_X2_add rfl rfl rfl (by decide +kernel) ⟨Nat.le_of_ble_eq_true rfl, Nat.le_of_ble_eq_true rfl⟩) (k_rX hK hP rfl) rfl hl.1 rfl (Nat.le_of_ble_eq_true rfl) dL_act_316 ⟨by show _ ≤ (41 : Nat); omega, by show _ ≤ (1646 : Nat); omega⟩ (fun z_316 M_316 H locs h_316 hP hS => ?_)
      obtain ⟨p1, p2⟩ := h_316
      have fin := kJ_add hI h_290 (by omega) hF1 hs1 p1
      have e82 : M_316 2 1 = M 2 1 + 1 := by rw [p1, kU_same, e81]
      obtain ⟨-, y1, hs⟩ := id fin
      have hg := hs.1
      refine lv_istore (lv' := [(5, .int (zI z_316)), (7, .int (zI z_290)), (6, .int (zI 1)), (4, .int (zI n)), (3, .int (zI h)), (0, .ref (E307.2.2 10)), (1, .ref (E307.2.2 g)), (2, .int (zI x))]) hx hb dL_act_319 hl (by decide) rfl (fun ls hl => ?_)
      refine lv_goto (tgt := 329) hx hb dL_act_321 (by decide) ?_
      refine lv_iload hx hb dL_act_329 (lv_at hl 0 rfl) ?_
      refine lv_iload hx hb dL_act_331 (lv_at hl 2 rfl) ?_
      refine k_eq0 (tgt := 344) hx hb dL_act_333 (by decide) (by omega) (fun c_333 => ?_) (fun c_333 => ?_)
      · exact absurd c_333 (by omega)
      · skip
        refine lv_aload_n hx hb dL_act_336 rfl (lv_at hl 6 rfl) ?_
        refine k_sim S hK hP hinX40 1 (by decide) (S.2.2.2.2 _ (List.mem_cons_of_mem _ (List.mem_append_left _ (List.mem_append_left _ (List.mem_append_left _ (List.mem_append_left _ (List.mem_append_left _ (List.mem_append_left _ (List.mem_append_left _ (List.mem_append_left _ (List.mem_of_getElem? (i := 6) rfl))))))))))) dL_act_337 ⟨hs.1.1, by have := hs.1.2.1; omega, hs.1.2.2.1⟩ (a := E307.2.2 (y1 2)) hs.1.2.2.2.2 rfl ?_
        refine k_alen S hK hP (M_316 2 1) (hs.arr (i := 2) ⟨by omega, by omega⟩) dL_act_340 ?_
        refine lv_goto (tgt := 345) hx hb dL_act_341 (by decide) ?_
        refine k_ne (tgt := 352) hx hb dL_act_345 (by decide) (by omega) (fun c_345 => ?_) (fun c_345 => ?_)
        · exact absurd c_345 (by omega)
        · skip
          refine k_push hx hb dL_act_348 ?_
          refine lv_goto (tgt := 353) hx hb dL_act_349 (by decide) ?_
          refine W.widen (k := 41) (n := 1646) (by omega) (by omega) ?_
          refine ends _ _ E307 M_316 (1) _ _ dL_act_353 hX hG hP hS ?_
          exact ⟨rfl, fin⟩
set_option maxHeartbeats 4000000 in
set_option maxRecDepth 100000 in
theorem s_L_act_clear {pg : Program} {en : Env} {s0 : State} {mi : MethodId} {ar : Array Value} {bl : List Frame} {me : Method} {co : Code} {ls : Array Slot} {Q : State → Prop} (l : Launch) (hlst : l.stackTraces = false) (E0 : kE) (M : kM) (g h n x : Int) (hJ : kJ E0 M g) (hh : 0 ≤ h ∧ h < 2) (hnn : n = M h 1) (S : CallFix pg mi co cL_act 9 s0 ar wsL_act RL) (hP : va_P E0.1 vwCl (kW E0 M) s0.heap) (hS : va_S (kA E0 s0.heap.size) s0.heap s0.heap []) (hK : kK E0 s0) (hG : kG (kA E0 s0.heap.size) s0.heap.size E0) (hXs : kXs s0) (hZ : kZ (kA E0 s0.heap.size) s0 s0.heap) (htab : co.exceptionTable.toList = tableOf [(150, 159, 162, 30), (313, 321, 324, 30), (446, 455, 458, 30)]) (ends : kEndI pg l en rL_act s0 mi ar bl me co cL_act 41 1646 E0 (fun E1 M1 z => z = 1 ∧ kJ E1 M1 g) Q) (hl : lv_has ls 9 [(4, .int (zI n)), (3, .int (zI h)), (0, .ref (E0.2.2 10)), (1, .ref (E0.2.2 g)), (2, .int (zI x))]) : W pg l en rL_act s0 mi ar bl me co s0.heap [] 0 0 Q (F0 mi 354 ls []) := by
  have hx := S.1
  have hb := S.2.1
  have hn := hK.2.2.2
  have hinX00 : ∀ w ∈ wsX00, w ∈ wsL_act := fun w h => List.mem_cons_of_mem _ (List.mem_append_left _ (List.mem_append_left _ (List.mem_append_left _ (List.mem_append_left _ (List.mem_append_left _ (List.mem_append_right _ (h)))))))
  have hinX10 : ∀ w ∈ wsX10, w ∈ wsL_act := fun w h => List.mem_cons_of_mem _ (List.mem_append_left _ (List.mem_append_left _ (List.mem_append_left _ (List.mem_append_left _ (List.mem_append_right _ (h))))))
  have hinX20 : ∀ w ∈ wsX20, w ∈ wsL_act := fun w h => List.mem_cons_of_mem _ (List.mem_append_left _ (List.mem_append_left _ (List.mem_append_left _ (List.mem_append_right _ (h)))))
  have hinX40 : ∀ w ∈ wsX40, w ∈ wsL_act := fun w h => List.mem_cons_of_mem _ (List.mem_append_left _ (List.mem_append_left _ (List.mem_append_left _ (List.mem_append_left _ (List.mem_append_left _ (List.mem_append_left _ (List.mem_append_right _ (h))))))))
  have hX : kExt E0 E0 := kExt.rf E0
  have hl : lv_has ls 9 [(4, .int (zI n)), (3, .int (zI h)), (0, .ref (E0.2.2 10)), (1, .ref (E0.2.2 g)), (2, .int (zI x))] := hl
  have hE := hG.1
  have hJ0 := hJ
  obtain ⟨hI, y, hs⟩ := hJ
  obtain ⟨hW, hO2, hp12⟩ := id hI
  obtain ⟨hn0, hn1, hv⟩ := hW h (by omega)
  have hg := hs.1
  have hyr := (hs.2.2 h (by omega) (by omega)).1
  have fin := hJ0
  obtain ⟨hp0, hp1, hpv⟩ := hW 2 (by omega)
  have hsr := (hs.2.2 2 (by omega) (by omega)).1
  refine lv_iload_n hx hb dL_act_354 rfl (lv_at hl 4 rfl) ?_
  refine k_push hx hb dL_act_355 ?_
  refine k_shr hx hb dL_act_356 (fun z_356 h_356 => ?_)
  refine k_push hx hb dL_act_357 ?_
  refine k_callS (As := [.int (zI z_356), .int (zI 3)]) (rest := []) S hK hP (c_L_below l E0 M z_356 3 (by omega)) (va_cwS 2 S.2.2.2.2 gL_act_L_below rfl rfl rfl (by decide +kernel) ⟨Nat.le_of_ble_eq_true rfl, Nat.le_of_ble_eq_true rfl⟩) rfl hl.1 rfl (Nat.le_of_ble_eq_true rfl) dL_act_358 ⟨by show _ ≤ (41 : Nat); omega, by show _ ≤ (1646 : Nat); omega⟩ (fun z_358 h_358 => ?_)
  have jn_375 : ∀ ls : Array Slot, lv_has ls 9 [(0, .ref (E0.2.2 10)), (1, .ref (E0.2.2 g)), (2, .int (zI x)), (3, .int (zI h)), (4, .int (zI n))] → W pg l en rL_act s0 mi ar bl me co s0.heap [] 0 0 Q (F0 mi 375 ls []) := by
    intro   ls hl
    refine lv_aload_n hx hb dL_act_375 rfl (lv_at hl 1 rfl) ?_
    refine k_sim S hK hP hinX40 1 (by decide) (S.2.2.2.2 _ (List.mem_cons_of_mem _ (List.mem_append_left _ (List.mem_append_left _ (List.mem_append_left _ (List.mem_append_left _ (List.mem_append_left _ (List.mem_append_left _ (List.mem_append_left _ (List.mem_append_left _ (List.mem_of_getElem? (i := 6) rfl))))))))))) dL_act_376 ⟨hs.1.1, by have := hs.1.2.1; omega, hs.1.2.2.1⟩ (a := E0.2.2 (y 2)) hs.1.2.2.2.2 rfl ?_
    refine k_alen S hK hP (M 2 1) (hs.arr (i := 2) ⟨by omega, by omega⟩) dL_act_379 ?_
    refine k_nm (fun v6_380 ev6_380 => ?_)
    refine lv_istore (lv' := [(6, .int (zI v6_380)), (0, .ref (E0.2.2 10)), (1, .ref (E0.2.2 g)), (2, .int (zI x)), (3, .int (zI h)), (4, .int (zI n))]) hx hb dL_act_380 hl (by decide) rfl (fun ls hl => ?_)
    refine lv_aload_n hx hb dL_act_382 rfl (lv_at hl 2 rfl) ?_
    refine k_push hx hb dL_act_383 ?_
    refine k_newA (len := 0) S hK hG hP hS (S.2.2.2.2 _ (List.mem_cons_of_mem _ (List.mem_append_left _ (List.mem_append_left _ (List.mem_append_left _ (List.mem_append_left _ (List.mem_append_left _ (List.mem_append_left _ (List.mem_append_left _ (List.mem_append_left _ (List.mem_of_getElem? (i := 7) rfl))))))))))) (by omega) (by show _ ≤ (41 : Nat); omega) (by show _ ≤ (1646 : Nat); omega) dL_act_384 (fun E384 H hX384 hn384 hK hG hP hS => ?_)
    obtain ⟨M384, eM384⟩ : ∃ N9 : kM, N9 = kNw M (kn E0) (kIa 0) := ⟨_, rfl⟩
    rw [← eM384] at hP
    have hM384 : ∀ k i : Int, k < kn E0 → M384 k i = M k i := fun k i hk => by rw [eM384]; exact kNw_ne (by omega)
    obtain ⟨q384, eq384⟩ : ∃ q : Int, q = kn E0 := ⟨_, rfl⟩
    rw [← eq384] at eM384 ⊢
    have hl : lv_has ls 9 [(6, .int (zI v6_380)), (0, .ref (E384.2.2 10)), (1, .ref (E384.2.2 g)), (2, .int (zI x)), (3, .int (zI h)), (4, .int (zI n))] := by rw [hX384.ad (c := 10) (by omega), hX384.ad (c := g) (by omega)]; exact hl
    rw [← hX384.ad (c := g) (by omega)]
    have hX := hX.tr hX384
    refine k_putsim S hK hG hP hS hinX40 1 (by decide) (S.2.2.2.2 _ (List.mem_cons_of_mem _ (List.mem_append_left _ (List.mem_append_left _ (List.mem_append_left _ (List.mem_append_left _ (List.mem_append_left _ (List.mem_append_left _ (List.mem_append_left _ (List.mem_append_left _ (List.mem_of_getElem? (i := 6) rfl))))))))))) dL_act_386 ⟨hg.1, by omega, by rw [hM384 _ _ (by omega)]; exact hg.2.2.1⟩ (fun H locs hP hS => ?_)
    have hP : va_P E384.1 vwCl (kW E384 (kU M384 g 1 (E384.2.2 q384 : Int))) H := hP
    obtain ⟨M386, eM386⟩ : ∃ N9 : kM, N9 = kU M384 g 1 (E384.2.2 q384 : Int) := ⟨_, rfl⟩
    rw [← eM386] at hP
    obtain ⟨⟨y1, hs1⟩, hF1, hn1x⟩ := kSm_clr hs hX384 hn384 eq384 eM384 eM386
    have e81 : M386 2 1 = M 2 1 := by rw [hF1 2 1 (by omega)]
    have hW8 : kWf M386 := (kI0_congr hI hF1).1
    refine lv_aload_n hx hb dL_act_389 rfl (lv_at hl 1 rfl) ?_
    refine k_callVWG (As := []) (rest := []) S hK hG hP hS (c_X2_clear l E384 hG.1 M386  (by assumption)) (cwV 0 S.2.2.2.2 gL_act_X2_clear rfl rfl rfl (by decide +kernel) ⟨Nat.le_of_ble_eq_true rfl, Nat.le_of_ble_eq_true rfl⟩) (k_rX hK hP rfl) rfl hl.1 rfl (Nat.le_of_ble_eq_true rfl) dL_act_390 ⟨by show _ ≤ (41 : Nat); omega, by show _ ≤ (1646 : Nat); omega⟩ (fun z_390 M_390 H locs h_390 hP hS => ?_)
    obtain ⟨p1, p2⟩ := h_390
    have fin := kJ_clear hI hF1 hs1 p1
    refine lv_iload hx hb dL_act_393 (lv_at hl 0 rfl) ?_
    refine k_ne (tgt := 402) hx hb dL_act_395 (by decide) (by omega) (fun c_395 => ?_) (fun c_395 => ?_)
    · exact absurd c_395 (by omega)
    · skip
      refine k_push hx hb dL_act_398 ?_
      refine lv_goto (tgt := 403) hx hb dL_act_399 (by decide) ?_
      refine W.widen (k := 41) (n := 1646) (by omega) (by omega) ?_
      refine ends _ _ E384 M_390 (1) _ _ dL_act_403 hX hG hP hS ?_
      exact ⟨rfl, fin⟩
  refine k_le0 (tgt := 375) hx hb dL_act_361 (by decide) (by omega) (fun c_361 => ?_) (fun c_361 => ?_)
  · skip
    refine jn_375   _ (lv_sub hl [2, 3, 4, 1, 0] rfl)
  · skip
    refine lv_aload_n hx hb dL_act_364 rfl (lv_at hl 3 rfl) ?_
    refine k_sim S hK hP hinX40 1 (by decide) (S.2.2.2.2 _ (List.mem_cons_of_mem _ (List.mem_append_left _ (List.mem_append_left _ (List.mem_append_left _ (List.mem_append_left _ (List.mem_append_left _ (List.mem_append_left _ (List.mem_append_left _ (List.mem_append_left _ (List.mem_of_getElem? (i := 6) rfl))))))))))) dL_act_365 ⟨hs.1.1, by have := hs.1.2.1; omega, hs.1.2.2.1⟩ (a := E0.2.2 (y 2)) hs.1.2.2.2.2 rfl ?_
    refine k_alen S hK hP (M 2 1) (hs.arr (i := 2) ⟨by omega, by omega⟩) dL_act_368 ?_
    refine k_push hx hb dL_act_369 ?_
    refine k_ge (tgt := 375) hx hb dL_act_370 (by decide) (by omega) (fun c_370 => ?_) (fun c_370 => ?_)
    · skip
      refine jn_375   _ (lv_sub hl [2, 3, 4, 1, 0] rfl)
    · skip
      refine k_push hx hb dL_act_373 ?_
      refine W.widen (k := 41) (n := 1646) (by omega) (by omega) ?_
      refine ends _ _ E0 M (1) _ _ dL_act_374 hX hG hP hS ?_
      exact ⟨rfl, fin⟩
set_option maxHeartbeats 4000000 in
set_option maxRecDepth 100000 in
theorem s_L_act_sew {pg : Program} {en : Env} {s0 : State} {mi : MethodId} {ar : Array Value} {bl : List Frame} {me : Method} {co : Code} {ls : Array Slot} {Q : State → Prop} (l : Launch) (hlst : l.stackTraces = false) (E0 : kE) (M : kM) (g h n x : Int) (hJ : kJ E0 M g) (hh : 0 ≤ h ∧ h < 2) (hnn : n = M h 1) (S : CallFix pg mi co cL_act 9 s0 ar wsL_act RL) (hP : va_P E0.1 vwCl (kW E0 M) s0.heap) (hS : va_S (kA E0 s0.heap.size) s0.heap s0.heap []) (hK : kK E0 s0) (hG : kG (kA E0 s0.heap.size) s0.heap.size E0) (hXs : kXs s0) (hZ : kZ (kA E0 s0.heap.size) s0 s0.heap) (htab : co.exceptionTable.toList = tableOf [(150, 159, 162, 30), (313, 321, 324, 30), (446, 455, 458, 30)]) (ends : kEndI pg l en rL_act s0 mi ar bl me co cL_act 41 1646 E0 (fun E1 M1 z => z = 1 ∧ kJ E1 M1 g) Q) (hl : lv_has ls 9 [(4, .int (zI n)), (3, .int (zI h)), (0, .ref (E0.2.2 10)), (1, .ref (E0.2.2 g)), (2, .int (zI x))]) : W pg l en rL_act s0 mi ar bl me co s0.heap [] 0 0 Q (F0 mi 404 ls []) := by
  have hx := S.1
  have hb := S.2.1
  have hn := hK.2.2.2
  have hinX00 : ∀ w ∈ wsX00, w ∈ wsL_act := fun w h => List.mem_cons_of_mem _ (List.mem_append_left _ (List.mem_append_left _ (List.mem_append_left _ (List.mem_append_left _ (List.mem_append_left _ (List.mem_append_right _ (h)))))))
  have hinX10 : ∀ w ∈ wsX10, w ∈ wsL_act := fun w h => List.mem_cons_of_mem _ (List.mem_append_left _ (List.mem_append_left _ (List.mem_append_left _ (List.mem_append_left _ (List.mem_append_right _ (h))))))
  have hinX20 : ∀ w ∈ wsX20, w ∈ wsL_act := fun w h => List.mem_cons_of_mem _ (List.mem_append_left _ (List.mem_append_left _ (List.mem_append_left _ (List.mem_append_right _ (h)))))
  have hinX40 : ∀ w ∈ wsX40, w ∈ wsL_act := fun w h => List.mem_cons_of_mem _ (List.mem_append_left _ (List.mem_append_left _ (List.mem_append_left _ (List.mem_append_left _ (List.mem_append_left _ (List.mem_append_left _ (List.mem_append_right _ (h))))))))
  have hX : kExt E0 E0 := kExt.rf E0
  have hl : lv_has ls 9 [(4, .int (zI n)), (3, .int (zI h)), (0, .ref (E0.2.2 10)), (1, .ref (E0.2.2 g)), (2, .int (zI x))] := hl
  have hE := hG.1
  have hJ0 := hJ
  obtain ⟨hI, y, hs⟩ := hJ
  obtain ⟨hW, hO2, hp12⟩ := id hI
  obtain ⟨hn0, hn1, hv⟩ := hW h (by omega)
  have hg := hs.1
  have hyr := (hs.2.2 h (by omega) (by omega)).1
  have fin := hJ0
  refine lv_iload_n hx hb dL_act_404 rfl (lv_at hl 4 rfl) ?_
  refine k_callS (As := [.int (zI x)]) (rest := []) S hK hP (c_L_stitchOf l E0 M x ) (va_cwS 1 S.2.2.2.2 gL_act_L_stitchOf rfl rfl rfl (by decide +kernel) ⟨Nat.le_of_ble_eq_true rfl, Nat.le_of_ble_eq_true rfl⟩) rfl hl.1 rfl (Nat.le_of_ble_eq_true rfl) dL_act_405 ⟨by show _ ≤ (41 : Nat); omega, by show _ ≤ (1646 : Nat); omega⟩ (fun z_405 h_405 => ?_)
  refine lv_istore (lv' := [(6, .int (zI z_405)), (4, .int (zI n)), (3, .int (zI h)), (0, .ref (E0.2.2 10)), (1, .ref (E0.2.2 g)), (2, .int (zI x))]) hx hb dL_act_408 hl (by decide) rfl (fun ls hl => ?_)
  refine lv_iload hx hb dL_act_410 (lv_at hl 1 rfl) ?_
  refine k_bpush hx hb dL_act_412 (by decide) ?_
  refine k_ge (tgt := 421) hx hb dL_act_414 (by decide) (by omega) (fun c_414 => ?_) (fun c_414 => ?_)
  · skip
    refine k_push hx hb dL_act_421 ?_
    refine lv_istore (lv' := [(7, .int (zI 0)), (6, .int (zI z_405)), (4, .int (zI n)), (3, .int (zI h)), (0, .ref (E0.2.2 10)), (1, .ref (E0.2.2 g)), (2, .int (zI x))]) hx hb dL_act_422 hl (by decide) rfl (fun ls hl => ?_)
    refine lv_iload hx hb dL_act_424 (lv_at hl 0 rfl) ?_
    refine k_eq0 (tgt := 446) hx hb dL_act_426 (by decide) (by omega) (fun c_426 => ?_) (fun c_426 => ?_)
    · skip
      refine lv_aload_n hx hb dL_act_446 rfl (lv_at hl 4 rfl) ?_
      refine lv_iload_n hx hb dL_act_447 rfl (lv_at hl 3 rfl) ?_
      refine lv_iload hx hb dL_act_448 (lv_at hl 1 rfl) ?_
      refine k_thrG (k_runVXG (As := [.int (zI h), .int (zI z_405)]) (rest := []) S hK hXs hZ hG hP hS (c_X2_sew_b3 l E0 hlst M h z_405 hh hW h_405 (by omega)) (cwV 2 S.2.2.2.2 gL_act_X2_sew rfl rfl rfl (by decide +kernel) ⟨Nat.le_of_ble_eq_true rfl, Nat.le_of_ble_eq_true rfl⟩) (k_rX hK hP rfl) rfl hl.1 rfl (Nat.le_of_ble_eq_true rfl) dL_act_450 ⟨by show _ ≤ (41 : Nat); omega, by show _ ≤ (1646 : Nat); omega⟩) (fun _ _ _ h => h) hG hS (fun ce q9 H locs hP hS hc1 hv1 hcl1 => ?_)
      refine vx_catch S.2.2.2.1 [⟨150, 159, 162, 30⟩, ⟨313, 321, 324, 30⟩] ⟨446, 455, 458, 30⟩ [] (htab.trans rfl) (k_pass2 (Or.inl (by decide)) (Or.inl (by decide))) (by decide) (by decide) (S.2.2.2.2 _ (List.mem_cons_of_mem _ (List.mem_append_left _ (List.mem_append_left _ (List.mem_append_left _ (List.mem_append_left _ (List.mem_append_left _ (List.mem_append_left _ (List.mem_append_left _ (List.mem_append_left _ (List.mem_of_getElem? (i := 0) rfl))))))))))) (va_Nw.use rfl hXs.2.1) hc1 hv1 hcl1 ?_
      refine lv_astore (lv' := [(8, .ref q9), (7, .int (zI 0)), (6, .int (zI z_405)), (4, .int (zI n)), (3, .int (zI h)), (0, .ref (E0.2.2 10)), (1, .ref (E0.2.2 g)), (2, .int (zI x))]) hx hb dL_act_458 hl (by decide) rfl (fun ls hl => ?_)
      refine k_push hx hb dL_act_460 ?_
      refine lv_istore (lv' := [(5, .int (zI (-1))), (8, .ref q9), (7, .int (zI 0)), (6, .int (zI z_405)), (4, .int (zI n)), (3, .int (zI h)), (0, .ref (E0.2.2 10)), (1, .ref (E0.2.2 g)), (2, .int (zI x))]) hx hb dL_act_461 hl (by decide) rfl (fun ls hl => ?_)
      refine lv_iload hx hb dL_act_463 (lv_at hl 0 rfl) ?_
      refine lv_iload hx hb dL_act_465 (lv_at hl 2 rfl) ?_
      refine k_eq0 (tgt := 477) hx hb dL_act_467 (by decide) (by omega) (fun c_467 => ?_) (fun c_467 => ?_)
      · skip
        refine k_push hx hb dL_act_477 ?_
        refine k_ne (tgt := 485) hx hb dL_act_478 (by decide) (by omega) (fun c_478 => ?_) (fun c_478 => ?_)
        · exact absurd c_478 (by omega)
        · skip
          refine k_push hx hb dL_act_481 ?_
          refine lv_goto (tgt := 486) hx hb dL_act_482 (by decide) ?_
          refine W.widen (k := 41) (n := 1646) (by omega) (by omega) ?_
          refine ends _ _ E0 M (1) _ _ dL_act_486 hX hG hP hS ?_
          exact ⟨rfl, fin⟩
      · exact absurd c_467 (by omega)
    · exact absurd c_426 (by omega)
  · skip
    refine k_push hx hb dL_act_417 ?_
    refine lv_goto (tgt := 422) hx hb dL_act_418 (by decide) ?_
    refine lv_istore (lv' := [(7, .int (zI 1)), (6, .int (zI z_405)), (4, .int (zI n)), (3, .int (zI h)), (0, .ref (E0.2.2 10)), (1, .ref (E0.2.2 g)), (2, .int (zI x))]) hx hb dL_act_422 hl (by decide) rfl (fun ls hl => ?_)
    refine lv_iload hx hb dL_act_424 (lv_at hl 0 rfl) ?_
    refine k_eq0 (tgt := 446) hx hb dL_act_426 (by decide) (by omega) (fun c_426 => ?_) (fun c_426 => ?_)
    · exact absurd c_426 (by omega)
    · skip
      refine lv_aload_n hx hb dL_act_429 rfl (lv_at hl 5 rfl) ?_
      refine k_sim S hK hP hinX40 0 (by decide) (S.2.2.2.2 _ (List.mem_cons_of_mem _ (List.mem_append_left _ (List.mem_append_left _ (List.mem_append_left _ (List.mem_append_left _ (List.mem_append_left _ (List.mem_append_left _ (List.mem_append_left _ (List.mem_append_left _ (List.mem_of_getElem? (i := 1) rfl))))))))))) dL_act_430 ⟨hs.1.1, by have := hs.1.2.1; omega, hs.1.2.2.1⟩ (a := E0.2.2 (g + 1)) hs.1.2.2.2.1 rfl ?_
      refine lv_iload_n hx hb dL_act_433 rfl (lv_at hl 3 rfl) ?_
      refine lv_aload_n hx hb dL_act_434 rfl (lv_at hl 5 rfl) ?_
      refine k_sim S hK hP hinX40 0 (by decide) (S.2.2.2.2 _ (List.mem_cons_of_mem _ (List.mem_append_left _ (List.mem_append_left _ (List.mem_append_left _ (List.mem_append_left _ (List.mem_append_left _ (List.mem_append_left _ (List.mem_append_left _ (List.mem_append_left _ (List.mem_of_getElem? (i := 1) rfl))))))))))) dL_act_435 ⟨hs.1.1, by have := hs.1.2.1; omega, hs.1.2.2.1⟩ (a := E0.2.2 (g + 1)) hs.1.2.2.2.1 rfl ?_
      refine lv_iload_n hx hb dL_act_438 rfl (lv_at hl 3 rfl) ?_
      refine k_aald S hK hP 2 ⟨by have := hs.1.1; omega, hs.1.2.1, hs.2.1.1, hs.2.1.2.1, by omega, by omega⟩ (by omega) (a := E0.2.2 (y h)) (hs.2.1.2.2 _ (by omega) (by omega)) dL_act_439 ?_
      refine lv_iload hx hb dL_act_440 (lv_at hl 1 rfl) ?_
      refine k_callSNR (As := [.ref (E0.2.2 (y h)), .int (zI z_405)]) (rest := [.int (zI h), .ref (E0.2.2 (g + 1))]) S hK hG hP hS (c_X4_with l E0 hG.1 M (y h) n z_405 (by rw [hnn]; exact hs.arr (i := h) ⟨by omega, by omega⟩) (by omega) (by omega)) (va_cwS 2 S.2.2.2.2 gL_act_X4_with rfl rfl rfl (by decide +kernel) ⟨Nat.le_of_ble_eq_true rfl, Nat.le_of_ble_eq_true rfl⟩) rfl hl.1 rfl (Nat.le_of_ble_eq_true rfl) dL_act_442 ⟨by show _ ≤ (41 : Nat); omega, by show _ ≤ (1646 : Nat); omega⟩ (fun E442 M442 z_442 H locs hX442 hK hG h_442 hP hS => ?_)
      have md := h_442
      obtain ⟨⟨m1, m2⟩, m3, m4, m5, m6⟩ := h_442
      have hl : lv_has ls 9 [(7, .int (zI 1)), (6, .int (zI z_405)), (4, .int (zI n)), (3, .int (zI h)), (0, .ref (E442.2.2 10)), (1, .ref (E442.2.2 g)), (2, .int (zI x))] := by rw [hX442.ad (c := 10) (by omega), hX442.ad (c := g) (by omega)]; exact hl
      rw [← hX442.ad (c := g + 1) (by omega)]
      have hX := hX.tr hX442
      refine k_aast S hK hG hP hS 2 (n + 1) ⟨by omega, by omega, by rw [m3 _ _ (by omega)]; exact hs.2.1.1, by rw [m3 _ _ (by omega)]; exact hs.2.1.2.1, by omega, by omega⟩ (by omega) (Or.inr (Or.inr ⟨by omega, by omega, m4, m5, by omega, by omega⟩)) dL_act_445 (fun H locs hP hS => ?_)
      obtain ⟨M445, eM445⟩ : ∃ N9 : kM, N9 = kU M442 (g + 1) h (E442.2.2 z_442 : Int) := ⟨_, rfl⟩
      rw [← eM445] at hP
      obtain ⟨⟨y1, hs1⟩, hF1, hn1x⟩ := kSm_with hs hh hnn ⟨by omega, by omega⟩ hX442 md eM445
      have e81 : M445 h 1 = n := by rw [hF1 h 1 (by omega), hnn]
      have hW8 : kWf M445 := (kI0_congr hI hF1).1
      refine lv_aload_n hx hb dL_act_446 rfl (lv_at hl 4 rfl) ?_
      refine lv_iload_n hx hb dL_act_447 rfl (lv_at hl 3 rfl) ?_
      refine lv_iload hx hb dL_act_448 (lv_at hl 1 rfl) ?_
      refine k_callVWG (As := [.int (zI h), .int (zI z_405)]) (rest := []) S hK hG hP hS (c_X2_sew l E442 hG.1 M445 h z_405 (by omega) (by assumption) (by omega) (by omega)) (cwV 2 S.2.2.2.2 gL_act_X2_sew rfl rfl rfl (by decide +kernel) ⟨Nat.le_of_ble_eq_true rfl, Nat.le_of_ble_eq_true rfl⟩) (k_rX hK hP rfl) rfl hl.1 rfl (Nat.le_of_ble_eq_true rfl) dL_act_450 ⟨by show _ ≤ (41 : Nat); omega, by show _ ≤ (1646 : Nat); omega⟩ (fun z_450 M_450 H locs h_450 hP hS => ?_)
      obtain ⟨p1, p2, p3⟩ := h_450
      have fin := kJ_sew hI hh h_405 hnn (by omega) hF1 hs1 p1 p2
      refine lv_istore (lv' := [(5, .int (zI z_450)), (7, .int (zI 1)), (6, .int (zI z_405)), (4, .int (zI n)), (3, .int (zI h)), (0, .ref (E442.2.2 10)), (1, .ref (E442.2.2 g)), (2, .int (zI x))]) hx hb dL_act_453 hl (by decide) rfl (fun ls hl => ?_)
      refine lv_goto (tgt := 463) hx hb dL_act_455 (by decide) ?_
      refine lv_iload hx hb dL_act_463 (lv_at hl 0 rfl) ?_
      refine lv_iload hx hb dL_act_465 (lv_at hl 1 rfl) ?_
      refine k_eq0 (tgt := 477) hx hb dL_act_467 (by decide) (by omega) (fun c_467 => ?_) (fun c_467 => ?_)
      · exact absurd c_467 (by omega)
      · skip
        refine lv_iload hx hb dL_act_470 (lv_at hl 3 rfl) ?_
        refine k_push hx hb dL_act_472 ?_
        refine k_add hx hb dL_act_473 ?_
        refine lv_goto (tgt := 478) hx hb dL_act_474 (by decide) ?_
        refine k_ne (tgt := 485) hx hb dL_act_478 (by decide) (by omega) (fun c_478 => ?_) (fun c_478 => ?_)
        · exact absurd c_478 (by omega)
        · skip
          refine k_push hx hb dL_act_481 ?_
          refine lv_goto (tgt := 486) hx hb dL_act_482 (by decide) ?_
          refine W.widen (k := 41) (n := 1646) (by omega) (by omega) ?_
          refine ends _ _ E442 M_450 (1) _ _ dL_act_486 hX hG hP hS ?_
          exact ⟨rfl, fin⟩
set_option maxHeartbeats 4000000 in
set_option maxRecDepth 100000 in
/-- one act: the object and the Sim do the same -/
theorem c_L_act (l : Launch) (E0 : kE) (hE : kInj E0) (M : kM) (hlst : l.stackTraces = false) (g x : Int) (hJ : kJ E0 M g) : kNX l yL_act wsL_act rL_act 41 1646 E0 M [.ref (E0.2.2 10), .ref (E0.2.2 g), .int (zI x)] (fun E1 M1 z => z = 1 ∧ kJ E1 M1 g) := by
  refine kNXh_of (cc := cL_act) (maxL := 9) (rt := .boolean) RL hE (by decide) rfl rfl (Nat.le_of_ble_eq_true rfl) (fun _ _ _ hz => k_narb (Or.inr hz.1)) ?_
  intro pg en s0 mi ar bl me co ls Q S hP hS hK hG hXs hZ htab ends hl
  have hx := S.1
  have hb := S.2.1
  have hn := hK.2.2.2
  have hinX00 : ∀ w ∈ wsX00, w ∈ wsL_act := fun w h => List.mem_cons_of_mem _ (List.mem_append_left _ (List.mem_append_left _ (List.mem_append_left _ (List.mem_append_left _ (List.mem_append_left _ (List.mem_append_right _ (h)))))))
  have hinX10 : ∀ w ∈ wsX10, w ∈ wsL_act := fun w h => List.mem_cons_of_mem _ (List.mem_append_left _ (List.mem_append_left _ (List.mem_append_left _ (List.mem_append_left _ (List.mem_append_right _ (h))))))
  have hinX20 : ∀ w ∈ wsX20, w ∈ wsL_act := fun w h => List.mem_cons_of_mem _ (List.mem_append_left _ (List.mem_append_left _ (List.mem_append_left _ (List.mem_append_right _ (h)))))
  have hinX40 : ∀ w ∈ wsX40, w ∈ wsL_act := fun w h => List.mem_cons_of_mem _ (List.mem_append_left _ (List.mem_append_left _ (List.mem_append_left _ (List.mem_append_left _ (List.mem_append_left _ (List.mem_append_left _ (List.mem_append_right _ (h))))))))
  have hX : kExt E0 E0 := kExt.rf E0
  have hl : lv_has ls 9 [(0, .ref (E0.2.2 10)), (1, .ref (E0.2.2 g)), (2, .int (zI x))] := hl
  obtain ⟨hI, y, hs⟩ := id hJ
  obtain ⟨hW, hO2, hp12⟩ := id hI
  have hg := hs.1
  refine lv_iload_n hx hb dL_act_0 rfl (lv_at hl 2 rfl) ?_
  refine k_push hx hb dL_act_1 ?_
  refine k_shr hx hb dL_act_2 (fun z_2 h_2 => ?_)
  refine k_push hx hb dL_act_3 ?_
  refine k_callS (As := [.int (zI z_2), .int (zI 2)]) (rest := []) S hK hP (c_L_below l E0 M z_2 2 (by omega)) (va_cwS 2 S.2.2.2.2 gL_act_L_below rfl rfl rfl (by decide +kernel) ⟨Nat.le_of_ble_eq_true rfl, Nat.le_of_ble_eq_true rfl⟩) rfl hl.1 rfl (Nat.le_of_ble_eq_true rfl) dL_act_4 ⟨by show _ ≤ (41 : Nat); omega, by show _ ≤ (1646 : Nat); omega⟩ (fun z_4 h_4 => ?_)
  refine lv_istore_n (lv' := [(3, .int (zI z_4)), (0, .ref (E0.2.2 10)), (1, .ref (E0.2.2 g)), (2, .int (zI x))]) hx hb dL_act_7 rfl hl (by decide) rfl (fun ls hl => ?_)
  obtain ⟨hn0, hn1, hv⟩ := hW z_4 (by omega)
  have hyr := (hs.2.2 z_4 (by omega) (by omega)).1
  refine lv_aload_n hx hb dL_act_8 rfl (lv_at hl 2 rfl) ?_
  refine k_sim S hK hP hinX40 0 (by decide) (S.2.2.2.2 _ (List.mem_cons_of_mem _ (List.mem_append_left _ (List.mem_append_left _ (List.mem_append_left _ (List.mem_append_left _ (List.mem_append_left _ (List.mem_append_left _ (List.mem_append_left _ (List.mem_append_left _ (List.mem_of_getElem? (i := 1) rfl))))))))))) dL_act_9 ⟨hs.1.1, by have := hs.1.2.1; omega, hs.1.2.2.1⟩ (a := E0.2.2 (g + 1)) hs.1.2.2.2.1 rfl ?_
  refine lv_iload_n hx hb dL_act_12 rfl (lv_at hl 0 rfl) ?_
  refine k_aald S hK hP 2 ⟨by have := hs.1.1; omega, hs.1.2.1, hs.2.1.1, hs.2.1.2.1, by omega, by omega⟩ (by omega) (a := E0.2.2 (y z_4)) (hs.2.1.2.2 _ (by omega) (by omega)) dL_act_13 ?_
  refine k_alen S hK hP (M z_4 1) (hs.arr (i := z_4) ⟨by omega, by omega⟩) dL_act_14 ?_
  refine k_nm (fun v4_15 ev4_15 => ?_)
  refine lv_istore (lv' := [(4, .int (zI v4_15)), (3, .int (zI z_4)), (0, .ref (E0.2.2 10)), (1, .ref (E0.2.2 g)), (2, .int (zI x))]) hx hb dL_act_15 hl (by decide) rfl (fun ls hl => ?_)
  refine lv_iload_n hx hb dL_act_17 rfl (lv_at hl 4 rfl) ?_
  refine k_bpush hx hb dL_act_18 (by decide) ?_
  refine k_callS (As := [.int (zI x), .int (zI 12)]) (rest := []) S hK hP (c_L_below l E0 M x 12 (by omega)) (va_cwS 2 S.2.2.2.2 gL_act_L_below rfl rfl rfl (by decide +kernel) ⟨Nat.le_of_ble_eq_true rfl, Nat.le_of_ble_eq_true rfl⟩) rfl hl.1 rfl (Nat.le_of_ble_eq_true rfl) dL_act_20 ⟨by show _ ≤ (41 : Nat); omega, by show _ ≤ (1646 : Nat); omega⟩ (fun z_20 h_20 => ?_)
  have hcase : z_20 = 0 ∨ z_20 = 1 ∨ z_20 = 2 ∨ z_20 = 3 ∨ z_20 = 4 ∨ 4 < z_20 := by omega
  rcases hcase with hc_0 | hc_1 | hc_2 | hc_3 | hc_4 | hc_d
  · refine lv_tableIn (tgt := 56) (off := 33) hx hb dL_act_23 (by rw [zI_toInt (by omega)]; omega) (by rw [zI_toInt (by omega)]; omega) (by rw [zI_toInt (by omega), hc_0]; rfl) (by decide) ?_
    exact s_L_act_again l hlst E0 M g z_4 v4_15 x hJ h_4 ev4_15 S hP hS hK hG hXs hZ htab ends hl
  · refine lv_tableIn (tgt := 192) (off := 169) hx hb dL_act_23 (by rw [zI_toInt (by omega)]; omega) (by rw [zI_toInt (by omega)]; omega) (by rw [zI_toInt (by omega), hc_1]; rfl) (by decide) ?_
    exact s_L_act_cut l hlst E0 M g z_4 v4_15 x hJ h_4 ev4_15 S hP hS hK hG hXs hZ htab ends hl
  · refine lv_tableIn (tgt := 272) (off := 249) hx hb dL_act_23 (by rw [zI_toInt (by omega)]; omega) (by rw [zI_toInt (by omega)]; omega) (by rw [zI_toInt (by omega), hc_2]; rfl) (by decide) ?_
    exact s_L_act_add l hlst E0 M g z_4 v4_15 x hJ h_4 ev4_15 S hP hS hK hG hXs hZ htab ends hl
  · refine lv_tableIn (tgt := 272) (off := 249) hx hb dL_act_23 (by rw [zI_toInt (by omega)]; omega) (by rw [zI_toInt (by omega)]; omega) (by rw [zI_toInt (by omega), hc_3]; rfl) (by decide) ?_
    exact s_L_act_add l hlst E0 M g z_4 v4_15 x hJ h_4 ev4_15 S hP hS hK hG hXs hZ htab ends hl
  · refine lv_tableIn (tgt := 354) (off := 331) hx hb dL_act_23 (by rw [zI_toInt (by omega)]; omega) (by rw [zI_toInt (by omega)]; omega) (by rw [zI_toInt (by omega), hc_4]; rfl) (by decide) ?_
    exact s_L_act_clear l hlst E0 M g z_4 v4_15 x hJ h_4 ev4_15 S hP hS hK hG hXs hZ htab ends hl
  · refine lv_tableOut (tgt := 404) hx hb dL_act_23 (by rw [zI_toInt (by omega)]; omega) (by decide) ?_
    exact s_L_act_sew l hlst E0 M g z_4 v4_15 x hJ h_4 ev4_15 S hP hS hK hG hXs hZ htab ends hl
