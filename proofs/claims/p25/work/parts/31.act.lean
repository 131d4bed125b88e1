set_option maxHeartbeats 4000000 in
set_option maxRecDepth 100000 in
theorem s_L_act_again {pg : Program} {en : Env} {s0 : State} {mi : MethodId} {ar : Array Value} {bl : List Frame} {me : Method} {co : Code} {ls : Array Slot} {Q : State → Prop} (l : Launch) (hlst : l.stackTraces = false) (E0 : kE) (M : kM) (g h n x : Int) (hJ : kJ E0 M g) (hh : 0 ≤ h ∧ h < 2) (hnn : n = M h 1) (S : CallFix pg mi co cL_act 9 s0 ar wsL_act RL) (hP : va_P E0.1 vwCl (kW E0 M) s0.heap) (hS : va_S (kA E0 s0.heap.size) s0.heap s0.heap []) (hK : kK E0 s0) (hG : kG (kA E0 s0.heap.size) s0.heap.size E0) (hXs : kXs s0) (hZ : kZ (kA E0 s0.heap.size) s0 s0.heap) (htab : co.exceptionTable.toList = tableOf [(150, 159, 162, 30), (313, 321, 324, 30), (446, 455, 458, 30)]) (ends : kEndI pg l en rL_act s0 mi ar bl me co cL_act 41 1646 E0 (fun E1 M1 z => z = 1 ∧ kJ E1 M1 g) Q) (hl : lv_has ls 9 [(4, .int (zI n)), (3, .int (zI h)), (0, .ref (E0.2.2 10)), (1, .ref (E0.2.2 g)), (2, .int (zI x))]) : W pg l en rL_act s0 mi ar bl me co s0.heap [] 0 0 Q (F0 mi 56 ls []) := by
  have hx := S.1
  have hb := S.2.1
  have hn := hK.2.2.2
  have hinX00 : ∀ w ∈ wsX00, w ∈ wsL_act := fun w h => List.mem_cons_of_mem _ (List.mem_append_left _ (List.mem_append_left _ (List.mem_append_left _ (List.mem_append_left _ (List.mem_append_left _ (List.mem_append_right _ (h)))))))
  have hinX10 : ∀ w ∈ wsX10, w ∈ wsL_act := fun w h => List.mem_cons_of_mem _ (List.mem_append_left _ (List.mem_append_left _ (List.mem_append_left _ (List.mem_append_left _ (List.mem_append_right _ (h))))))
  have hinX20 : ∀ w ∈ wsX20, w ∈ wsL_act := fun w h => List.mem_cons_of_mem _ (List.mem_append_left _ (List.mem_append_left _ (List.mem_append_left _ (List.mem_append_right _ (h)))))
  have hinX40 : ∀ w ∈ wsX40, w ∈ wsL_act := fun w h => List.mem_cons_of_mem _ (List.mem_append_left _ (List.mem_append_left _ (List.mem_append_left _ (List.mem_append_left _ (List.mem_append_left _ (List.mem_append_left _ (List.mem_append_right _ (h))))))))
  have hX : kExt E0 E0 := kExt.rf E0
  have hl : lv_has ls 9 [(4, .int (zI n)), (3, .int (zI h)), (0, .ref (E0.2.2 10)), (1, .ref (E0.2.2 g)), (2, .int (zI x))] := hl
  have hE := hG.1
  have hJ0 := hJ
  obtain ⟨hI, y, hs⟩ := hJ
  obtain ⟨hW, hO2, hp12⟩ := id hI
  obtain ⟨hn0, hn1, hv⟩ := hW h (by omega)
  have hg := hs.1
  have hyr := (hs.2.2 h (by omega) (by omega)).1
  have fin := hJ0
  refine k_push hx hb dL_act_56 ?_
  refine lv_iload_n hx hb dL_act_57 rfl (lv_at hl 4 rfl) ?_
  refine k_push hx hb dL_act_58 ?_
  refine k_shr hx hb dL_act_59 (fun z_59 h_59 => ?_)
  refine lv_iload_n hx hb dL_act_60 rfl (lv_at hl 4 rfl) ?_
  refine k_bpush hx hb dL_act_61 (by decide) ?_
  refine k_shr hx hb dL_act_63 (fun z_63 h_63 => ?_)
  refine k_push hx hb dL_act_64 ?_
  refine k_callS (As := [.int (zI z_63), .int (zI 2)]) (rest := [.int (zI z_59), .int (zI 1)]) S hK hP (c_L_below l E0 M z_63 2 (by omega)) (va_cwS 2 S.2.2.2.2 gL_act_L_below rfl rfl rfl (by decide +kernel) ⟨Nat.le_of_ble_eq_true rfl, Nat.le_of_ble_eq_true rfl⟩) rfl hl.1 rfl (Nat.le_of_ble_eq_true rfl) dL_act_65 ⟨by show _ ≤ (41 : Nat); omega, by show _ ≤ (1646 : Nat); omega⟩ (fun z_65 h_65 => ?_)
  have jn_83 : ∀  (r : Int), (1 ≤ r ∧ r ≤ 40) → ∀ ls : Array Slot, lv_has ls 9 [(0, .ref (E0.2.2 10)), (1, .ref (E0.2.2 g)), (2, .int (zI x)), (3, .int (zI h)), (4, .int (zI n)), (6, .int (zI r))] → W pg l en rL_act s0 mi ar bl me co s0.heap [] 0 0 Q (F0 mi 83 ls []) := by
    intro r hr ls hl
    refine lv_iload hx hb dL_act_83 (lv_at hl 4 rfl) ?_
    have jn_102 : (M h 1 = 0 ∨ 40 < M h 1 + r) → ∀ ls : Array Slot, lv_has ls 9 [(0, .ref (E0.2.2 10)), (1, .ref (E0.2.2 g)), (2, .int (zI x)), (3, .int (zI h)), (4, .int (zI n)), (6, .int (zI r))] → W pg l en rL_act s0 mi ar bl me co s0.heap [] 0 0 Q (F0 mi 102 ls []) := by
      intro  hc ls hl
      refine k_push hx hb dL_act_102 ?_
      refine lv_istore (lv' := [(7, .int (zI 0)), (0, .ref (E0.2.2 10)), (1, .ref (E0.2.2 g)), (2, .int (zI x)), (3, .int (zI h)), (4, .int (zI n)), (6, .int (zI r))]) hx hb dL_act_103 hl (by decide) rfl (fun ls hl => ?_)
      refine k_push hx hb dL_act_105 ?_
      refine lv_istore (lv' := [(8, .int (zI 0)), (7, .int (zI 0)), (0, .ref (E0.2.2 10)), (1, .ref (E0.2.2 g)), (2, .int (zI x)), (3, .int (zI h)), (4, .int (zI n)), (6, .int (zI r))]) hx hb dL_act_106 hl (by decide) rfl (fun ls hl => ?_)
      refine lv_iload hx hb dL_act_108 (lv_at hl 0 rfl) ?_
      refine lv_iload hx hb dL_act_110 (lv_at hl 7 rfl) ?_
      refine k_ge (tgt := 150) hx hb dL_act_112 (by decide) (by omega) (fun c_112 => ?_) (fun c_112 => ?_)
      · exact absurd c_112 (by omega)
      · skip
        refine lv_iload hx hb dL_act_115 (lv_at hl 1 rfl) ?_
        refine k_eq0 (tgt := 150) hx hb dL_act_117 (by decide) (by omega) (fun c_117 => ?_) (fun c_117 => ?_)
        · skip
          refine lv_aload_n hx hb dL_act_150 rfl (lv_at hl 2 rfl) ?_
          refine lv_iload_n hx hb dL_act_151 rfl (lv_at hl 5 rfl) ?_
          refine lv_iload hx hb dL_act_152 (lv_at hl 7 rfl) ?_
          refine k_thrG (k_runVXG (As := [.int (zI h), .int (zI r)]) (rest := []) S hK hXs hZ hG hP hS (c_X2_again_b3 l E0 hlst M h r hh hW ⟨hr.1, hr.2, hc⟩) (cwV 2 S.2.2.2.2 gL_act_X2_again rfl rfl rfl (by decide +kernel) ⟨Nat.le_of_ble_eq_true rfl, Nat.le_of_ble_eq_true rfl⟩) (k_rX hK hP rfl) rfl hl.1 rfl (Nat.le_of_ble_eq_true rfl) dL_act_154 ⟨by show _ ≤ (41 : Nat); omega, by show _ ≤ (1646 : Nat); omega⟩) (fun _ _ _ h => h) hG hS (fun ce q9 H locs hP hS hc1 hv1 hcl1 => ?_)
          refine vx_catch S.2.2.2.1 [] ⟨150, 159, 162, 30⟩ [⟨313, 321, 324, 30⟩, ⟨446, 455, 458, 30⟩] (htab.trans rfl) (k_pass0) (by decide) (by decide) (S.2.2.2.2 _ (List.mem_cons_of_mem _ (List.mem_append_left _ (List.mem_append_left _ (List.mem_append_left _ (List.mem_append_left _ (List.mem_append_left _ (List.mem_append_left _ (List.mem_append_left _ (List.mem_append_left _ (List.mem_of_getElem? (i := 0) rfl))))))))))) (va_Nw.use rfl hXs.2.1) hc1 hv1 hcl1 ?_
          refine lv_astore (lv' := [(8, .ref q9), (7, .int (zI 0)), (0, .ref (E0.2.2 10)), (1, .ref (E0.2.2 g)), (2, .int (zI x)), (3, .int (zI h)), (4, .int (zI n)), (6, .int (zI r))]) hx hb dL_act_162 hl (by decide) rfl (fun ls hl => ?_)
          refine k_push hx hb dL_act_164 ?_
          refine lv_istore (lv' := [(5, .int (zI (-1))), (8, .ref q9), (7, .int (zI 0)), (0, .ref (E0.2.2 10)), (1, .ref (E0.2.2 g)), (2, .int (zI x)), (3, .int (zI h)), (4, .int (zI n)), (6, .int (zI r))]) hx hb dL_act_165 hl (by decide) rfl (fun ls hl => ?_)
          refine lv_iload hx hb dL_act_167 (lv_at hl 0 rfl) ?_
          refine lv_iload hx hb dL_act_169 (lv_at hl 2 rfl) ?_
          refine k_eq0 (tgt := 182) hx hb dL_act_171 (by decide) (by omega) (fun c_171 => ?_) (fun c_171 => ?_)
          · skip
            refine k_push hx hb dL_act_182 ?_
            refine k_ne (tgt := 190) hx hb dL_act_183 (by decide) (by omega) (fun c_183 => ?_) (fun c_183 => ?_)
            · exact absurd c_183 (by omega)
            · skip
              refine k_push hx hb dL_act_186 ?_
              refine lv_goto (tgt := 191) hx hb dL_act_187 (by decide) ?_
              refine W.widen (k := 41) (n := 1646) (by omega) (by omega) ?_
              refine ends _ _ E0 M (1) _ _ dL_act_191 hX hG hP hS ?_
              exact ⟨rfl, fin⟩
          · exact absurd c_171 (by omega)
        · exact absurd c_117 (by omega)
    refine k_le0 (tgt := 102) hx hb dL_act_85 (by decide) (by omega) (fun c_85 => ?_) (fun c_85 => ?_)
    · skip
      refine jn_102  (by omega) _ (lv_sub hl [0, 1, 2, 3, 4, 5] rfl)
    · skip
      refine lv_iload hx hb dL_act_88 (lv_at hl 4 rfl) ?_
      refine lv_iload hx hb dL_act_90 (lv_at hl 5 rfl) ?_
      refine k_add hx hb dL_act_92 ?_
      refine k_bpush hx hb dL_act_93 (by decide) ?_
      refine k_gt (tgt := 102) hx hb dL_act_95 (by decide) (by omega) (fun c_95 => ?_) (fun c_95 => ?_)
      · skip
        refine jn_102  (by omega) _ (lv_sub hl [0, 1, 2, 3, 4, 5] rfl)
      · skip
        refine k_push hx hb dL_act_98 ?_
        refine lv_goto (tgt := 103) hx hb dL_act_99 (by decide) ?_
        refine lv_istore (lv' := [(7, .int (zI 1)), (0, .ref (E0.2.2 10)), (1, .ref (E0.2.2 g)), (2, .int (zI x)), (3, .int (zI h)), (4, .int (zI n)), (6, .int (zI r))]) hx hb dL_act_103 hl (by decide) rfl (fun ls hl => ?_)
        refine k_push hx hb dL_act_105 ?_
        refine lv_istore (lv' := [(8, .int (zI 0)), (7, .int (zI 1)), (0, .ref (E0.2.2 10)), (1, .ref (E0.2.2 g)), (2, .int (zI x)), (3, .int (zI h)), (4, .int (zI n)), (6, .int (zI r))]) hx hb dL_act_106 hl (by decide) rfl (fun ls hl => ?_)
        have lp_108 : ∀ (n_108 : Nat) (k : Int) (y : Int → Int) (E_108 : kE) (M_108 : kM) (H : Heap) (locs : List Loc), (0 ≤ k ∧ k ≤ r) → (kSm E_108 M_108 g y (fun i => if i = h then n + k else M i 1) (fun i j => if i = h then kCy (M (h + 3)) n j else M (i + 3) j)) → (∀ c i : Int, c < 11 → M_108 c i = M c i) → (r - k < (n_108 : Int)) → kExt E0 E_108 → kK E_108 s0 → kG (kA E0 s0.heap.size) s0.heap.size E_108 → va_P E_108.1 vwCl (kW E_108 M_108) H → va_S (kA E0 s0.heap.size) s0.heap H locs → ∀ ls : Array Slot, lv_has ls 9 [(0, .ref (E_108.2.2 10)), (1, .ref (E_108.2.2 g)), (2, .int (zI x)), (3, .int (zI h)), (4, .int (zI n)), (6, .int (zI r)), (7, .int (zI 1)), (8, .int (zI k))] → W pg l en rL_act s0 mi ar bl me co H locs (k.toNat) (41 * k.toNat) Q (F0 mi 108 ls []) := by
          intro n_108
          induction n_108 with
          | zero => intro k y E_108 M_108 H locs h1 hs hF hm_108; exfalso; omega
          | succ n_108 ih_108 =>
            intro k y E_108 M_108 H locs h1 hs hF hm_108 hX hK hG hP hS ls hl
            have hn := hK.2.2.2
            have hg := hs.1
            have hyr := (hs.2.2 h (by omega) (by omega)).1
            have arr : kArr E_108 M_108 (y h) (n + k) := by
              have q : kArr E_108 M_108 (y h) (if h = h then n + k else M h 1) := hs.arr (i := h) ⟨by omega, by omega⟩
              rw [if_pos rfl] at q
              exact q
            refine lv_iload hx hb dL_act_108 (lv_at hl 7 rfl) ?_
            refine lv_iload hx hb dL_act_110 (lv_at hl 5 rfl) ?_
            refine k_ge (tgt := 150) hx hb dL_act_112 (by decide) (by omega) (fun c_112 => ?_) (fun c_112 => ?_)
            · skip
              have kr : k = r := by omega
              have e81 : M_108 h 1 = n := by rw [hF h 1 (by omega), hnn]
              have hW8 : kWf M_108 := (kI0_congr hI hF).1
              refine lv_aload_n hx hb dL_act_150 rfl (lv_at hl 0 rfl) ?_
              refine lv_iload_n hx hb dL_act_151 rfl (lv_at hl 3 rfl) ?_
              refine lv_iload hx hb dL_act_152 (lv_at hl 5 rfl) ?_
              refine k_callVWG (As := [.int (zI h), .int (zI r)]) (rest := []) S hK hG hP hS (c_X2_again l E_108 hG.1 M_108 h r (by omega) (by assumption) (by omega)) (cwV 2 S.2.2.2.2 gL_act_X2_again rfl rfl rfl (by decide +kernel) ⟨Nat.le_of_ble_eq_true rfl, Nat.le_of_ble_eq_true rfl⟩) (k_rX hK hP rfl) rfl hl.1 rfl (Nat.le_of_ble_eq_true rfl) dL_act_154 ⟨by show _ ≤ (41 : Nat); omega, by show _ ≤ (1646 : Nat); omega⟩ (fun z_154 M_154 H locs h_154 hP hS => ?_)
              obtain ⟨p1, p2, p3, p4, p5, p6, p7⟩ := h_154
              have fin := kJ_again hI hh hnn ⟨hr.1, by omega, by omega⟩ hF (by rw [kr] at hs; exact hs) p1 p2 p3 p4 p5 p6
              refine lv_istore (lv' := [(5, .int (zI z_154)), (0, .ref (E_108.2.2 10)), (1, .ref (E_108.2.2 g)), (2, .int (zI x)), (3, .int (zI h)), (4, .int (zI n)), (6, .int (zI r)), (7, .int (zI 1)), (8, .int (zI k))]) hx hb dL_act_157 hl (by decide) rfl (fun ls hl => ?_)
              refine lv_goto (tgt := 167) hx hb dL_act_159 (by decide) ?_
              refine lv_iload hx hb dL_act_167 (lv_at hl 0 rfl) ?_
              refine lv_iload hx hb dL_act_169 (lv_at hl 7 rfl) ?_
              refine k_eq0 (tgt := 182) hx hb dL_act_171 (by decide) (by omega) (fun c_171 => ?_) (fun c_171 => ?_)
              · exact absurd c_171 (by omega)
              · skip
                refine lv_iload hx hb dL_act_174 (lv_at hl 5 rfl) ?_
                refine lv_iload hx hb dL_act_176 (lv_at hl 6 rfl) ?_
                refine k_add hx hb dL_act_178 ?_
                refine lv_goto (tgt := 183) hx hb dL_act_179 (by decide) ?_
                refine k_ne (tgt := 190) hx hb dL_act_183 (by decide) (by omega) (fun c_183 => ?_) (fun c_183 => ?_)
                · exact absurd c_183 (by omega)
                · skip
                  refine k_push hx hb dL_act_186 ?_
                  refine lv_goto (tgt := 191) hx hb dL_act_187 (by decide) ?_
                  refine W.widen (k := 41) (n := 1646) (by omega) (by omega) ?_
                  refine ends _ _ E_108 M_154 (1) _ _ dL_act_191 hX hG hP hS ?_
                  exact ⟨rfl, fin⟩
            · skip
              refine lv_iload hx hb dL_act_115 (lv_at hl 6 rfl) ?_
              refine k_eq0 (tgt := 150) hx hb dL_act_117 (by decide) (by omega) (fun c_117 => ?_) (fun c_117 => ?_)
              · exact absurd c_117 (by omega)
              · skip
                refine lv_aload_n hx hb dL_act_120 rfl (lv_at hl 1 rfl) ?_
                refine k_sim S hK hP hinX40 0 (by decide) (S.2.2.2.2 _ (List.mem_cons_of_mem _ (List.mem_append_left _ (List.mem_append_left _ (List.mem_append_left _ (List.mem_append_left _ (List.mem_append_left _ (List.mem_append_left _ (List.mem_append_left _ (List.mem_append_left _ (List.mem_of_getElem? (i := 1) rfl))))))))))) dL_act_121 ⟨hs.1.1, by have := hs.1.2.1; omega, hs.1.2.2.1⟩ (a := E_108.2.2 (g + 1)) hs.1.2.2.2.1 rfl ?_
                refine lv_iload_n hx hb dL_act_124 rfl (lv_at hl 3 rfl) ?_
                refine lv_aload_n hx hb dL_act_125 rfl (lv_at hl 1 rfl) ?_
                refine k_sim S hK hP hinX40 0 (by decide) (S.2.2.2.2 _ (List.mem_cons_of_mem _ (List.mem_append_left _ (List.mem_append_left _ (List.mem_append_left _ (List.mem_append_left _ (List.mem_append_left _ (List.mem_append_left _ (List.mem_append_left _ (List.mem_append_left _ (List.mem_of_getElem? (i := 1) rfl))))))))))) dL_act_126 ⟨hs.1.1, by have := hs.1.2.1; omega, hs.1.2.2.1⟩ (a := E_108.2.2 (g + 1)) hs.1.2.2.2.1 rfl ?_
                refine lv_iload_n hx hb dL_act_129 rfl (lv_at hl 3 rfl) ?_
                refine k_aald S hK hP 2 ⟨by have := hs.1.1; omega, hs.1.2.1, hs.2.1.1, hs.2.1.2.1, by omega, by omega⟩ (by omega) (a := E_108.2.2 (y h)) (hs.2.1.2.2 _ (by omega) (by omega)) dL_act_130 ?_
                refine lv_aload_n hx hb dL_act_131 rfl (lv_at hl 1 rfl) ?_
                refine k_sim S hK hP hinX40 0 (by decide) (S.2.2.2.2 _ (List.mem_cons_of_mem _ (List.mem_append_left _ (List.mem_append_left _ (List.mem_append_left _ (List.mem_append_left _ (List.mem_append_left _ (List.mem_append_left _ (List.mem_append_left _ (List.mem_append_left _ (List.mem_of_getElem? (i := 1) rfl))))))))))) dL_act_132 ⟨hs.1.1, by have := hs.1.2.1; omega, hs.1.2.2.1⟩ (a := E_108.2.2 (g + 1)) hs.1.2.2.2.1 rfl ?_
                refine lv_iload_n hx hb dL_act_135 rfl (lv_at hl 3 rfl) ?_
                refine k_aald S hK hP 2 ⟨by have := hs.1.1; omega, hs.1.2.1, hs.2.1.1, hs.2.1.2.1, by omega, by omega⟩ (by omega) (a := E_108.2.2 (y h)) (hs.2.1.2.2 _ (by omega) (by omega)) dL_act_136 ?_
                refine lv_iload hx hb dL_act_137 (lv_at hl 7 rfl) ?_
                refine k_ald S hK hP (n + k) (arr) (by omega) dL_act_139 ?_
                refine k_callSNR (As := [.ref (E_108.2.2 (y h)), .int (zI (M_108 (y h) k))]) (rest := [.int (zI h), .ref (E_108.2.2 (g + 1))]) S hK hG hP hS (c_X4_with l E_108 hG.1 M_108 (y h) (n + k) (M_108 (y h) k) (by exact arr) (by omega) (by omega)) (va_cwS 2 S.2.2.2.2 gL_act_X4_with rfl rfl rfl (by decide +kernel) ⟨Nat.le_of_ble_eq_true rfl, Nat.le_of_ble_eq_true rfl⟩) rfl hl.1 rfl (Nat.le_of_ble_eq_true rfl) dL_act_140 ⟨by show _ ≤ (41 : Nat); omega, by show _ ≤ (1646 : Nat); omega⟩ (fun E140 M140 z_140 H locs hX140 hK hG h_140 hP hS => ?_)
                have md := h_140
                obtain ⟨⟨m1, m2⟩, m3, m4, m5, m6⟩ := h_140
                have hl : lv_has ls 9 [(0, .ref (E140.2.2 10)), (1, .ref (E140.2.2 g)), (2, .int (zI x)), (3, .int (zI h)), (4, .int (zI n)), (6, .int (zI r)), (7, .int (zI 1)), (8, .int (zI k))] := by rw [hX140.ad (c := 10) (by omega), hX140.ad (c := g) (by omega)]; exact hl
                rw [← hX140.ad (c := g + 1) (by omega)]
                have hX := hX.tr hX140
                refine k_aast S hK hG hP hS 2 (n + k + 1) ⟨by omega, by omega, by rw [m3 _ _ (by omega)]; exact hs.2.1.1, by rw [m3 _ _ (by omega)]; exact hs.2.1.2.1, by omega, by omega⟩ (by omega) (Or.inr (Or.inr ⟨by omega, by omega, m4, m5, by omega, by omega⟩)) dL_act_143 (fun H locs hP hS => ?_)
                obtain ⟨M143, eM143⟩ : ∃ N9 : kM, N9 = kU M140 (g + 1) h (E140.2.2 z_140 : Int) := ⟨_, rfl⟩
                rw [← eM143] at hP
                obtain ⟨⟨y1, hs1⟩, hF1, hn1x⟩ := kSm_cy hs hh ⟨h1.1, by omega, by omega⟩ hX140 md eM143
                obtain ⟨v8_144, ev8_144⟩ : ∃ v : Int, v = k + 1 := ⟨_, rfl⟩
                refine k_incN (v := v8_144) (lv' := [(8, .int (zI v8_144)), (0, .ref (E140.2.2 10)), (1, .ref (E140.2.2 g)), (2, .int (zI x)), (3, .int (zI h)), (4, .int (zI n)), (6, .int (zI r)), (7, .int (zI 1))]) hx hb dL_act_144 hl (k := 7) rfl ev8_144 (by decide) rfl (fun ls hl => ?_)
                refine lv_goto (tgt := 108) hx hb dL_act_147 (by decide) ?_
                refine W.widen (k := v8_144.toNat) (n := 41 * v8_144.toNat) (by omega) (by omega) ?_
                refine ih_108 v8_144 y1 E140 M143 _ _ (by omega) (by rw [ev8_144]; exact hs1) (by exact fun c i hc => (hF1 c i hc).trans (hF c i hc)) (by omega) hX hK hG hP hS _ (lv_sub hl [1, 2, 3, 4, 5, 6, 7, 0] rfl)
        refine W.widen (k := (0 : Int).toNat) (n := 41 * (0 : Int).toNat) (by omega) (by omega) ?_
        refine lp_108 (((r - 0 : Int)).toNat + 1) 0 y E0 M _ _ (by omega) ?_ (by exact fun _ _ _ => rfl) (by omega) hX hK hG hP hS _ (lv_sub hl [2, 3, 4, 5, 6, 7, 1, 0] rfl)
        · refine hs.like (fun i _ _ => ?_) (fun i j _ _ j1 j2 => ?_)
          · show (if i = h then n + 0 else M i 1) = M i 1
            by_cases e : i = h
            · rw [if_pos e, e]; omega
            · rw [if_neg e]
          · show (if i = h then kCy (M (h + 3)) n j else M (i + 3) j) = M (i + 3) j
            by_cases e : i = h
            · have j2 : j < M i 1 := j2
              rw [if_pos e, e]
              rw [e] at j2
              exact kCy_lt ⟨j1, by omega⟩
            · rw [if_neg e]
  refine k_ne0 (tgt := 75) hx hb dL_act_68 (by decide) (by omega) (fun c_68 => ?_) (fun c_68 => ?_)
  · skip
    refine k_bpush hx hb dL_act_75 (by decide) ?_
    refine k_callS (As := [.int (zI z_59), .int (zI 40)]) (rest := [.int (zI 1)]) S hK hP (c_L_below l E0 M z_59 40 (by omega)) (va_cwS 2 S.2.2.2.2 gL_act_L_below rfl rfl rfl (by decide +kernel) ⟨Nat.le_of_ble_eq_true rfl, Nat.le_of_ble_eq_true rfl⟩) rfl hl.1 rfl (Nat.le_of_ble_eq_true rfl) dL_act_77 ⟨by show _ ≤ (41 : Nat); omega, by show _ ≤ (1646 : Nat); omega⟩ (fun z_77 h_77 => ?_)
    refine k_add hx hb dL_act_80 ?_
    refine k_nm (fun v6_81 ev6_81 => ?_)
    refine lv_istore (lv' := [(6, .int (zI v6_81)), (4, .int (zI n)), (3, .int (zI h)), (0, .ref (E0.2.2 10)), (1, .ref (E0.2.2 g)), (2, .int (zI x))]) hx hb dL_act_81 hl (by decide) rfl (fun ls hl => ?_)
    refine jn_83 v6_81 (by omega) _ (lv_sub hl [3, 4, 5, 2, 1, 0] rfl)
  · skip
    refine k_push hx hb dL_act_71 ?_
    refine lv_goto (tgt := 77) hx hb dL_act_72 (by decide) ?_
    refine k_callS (As := [.int (zI z_59), .int (zI 5)]) (rest := [.int (zI 1)]) S hK hP (c_L_below l E0 M z_59 5 (by omega)) (va_cwS 2 S.2.2.2.2 gL_act_L_below rfl rfl rfl (by decide +kernel) ⟨Nat.le_of_ble_eq_true rfl, Nat.le_of_ble_eq_true rfl⟩) rfl hl.1 rfl (Nat.le_of_ble_eq_true rfl) dL_act_77 ⟨by show _ ≤ (41 : Nat); omega, by show _ ≤ (1646 : Nat); omega⟩ (fun z_77 h_77 => ?_)
    refine k_add hx hb dL_act_80 ?_
    refine k_nm (fun v6_81 ev6_81 => ?_)
    refine lv_istore (lv' := [(6, .int (zI v6_81)), (4, .int (zI n)), (3, .int (zI h)), (0, .ref (E0.2.2 10)), (1, .ref (E0.2.2 g)), (2, .int (zI x))]) hx hb dL_act_81 hl (by decide) rfl (fun ls hl => ?_)
    refine jn_83 v6_81 (by omega) _ (lv_sub hl [3, 4, 5, 2, 1, 0] rfl)
