theorem kSeam_ab {x : Int → Int} {nx : Int} {y : Int → Int} {ny a b : Int} (h0 : kIsSeam x nx y ny 0 a) (h1 : kIsSeam x nx y ny 1 b) : 0 ≤ a ∧ (a = 0 → b = -1) ∧ (0 < a → 0 ≤ b) := by
  obtain ⟨b0, k0, t0, w0⟩ := h0
  obtain ⟨b1, k1, t1, w1⟩ := h1
  obtain ⟨rfl, rfl⟩ := kTop_one (Int.le_refl _) t0 t1
  have ea : a = k0 := by omega
  have eb : b = b0 := by omega
  subst ea eb
  rcases t0 with ⟨u1, u2, -⟩ | ⟨u1, u2, u3, -⟩
  · exact ⟨by omega, fun _ => u1, fun q => absurd u2 (by omega)⟩
  · exact ⟨by omega, fun q => absurd q (by omega), fun _ => u1⟩
theorem kD_seam {x : Int → Int} {nx a : Int} {y : Int → Int} {ny b z k : Int} (h : kD x nx a y ny b z) (hk : kL x nx a y ny b = k) : z = 0 ∨ z = k + 1 ∨ z = -(k + 1) := by
  obtain ⟨t, t1, t2⟩ := h
  have e := kL_of t1
  rw [hk] at e
  subst e
  rcases t2 with ⟨-, -, q⟩ | ⟨-, q⟩ | ⟨-, q⟩
  · exact Or.inl q
  · exact Or.inr (Or.inr q)
  · exact Or.inr (Or.inl q)
set_option maxHeartbeats 4000000 in
set_option maxRecDepth 100000 in
theorem s_law_seam {pg : Program} {l : Launch} {en : Env} {s0 : State} {mi : MethodId} {ar : Array Value} {bl : List Frame} {me : Method} {co : Code} {ls : Array Slot} {Q : State → Prop} {H : Heap} {locs : List Loc} {E0 E : kE} {M N : kM} {g x time dg : Int} {y : Int → Int} {bs cells slots : Nat} (hI : kI0 M) (hV : kVs E0 E M N g y) (S : CallFix pg mi co cL_law 23 s0 ar wsL_law RL) (hP : va_P E.1 vwCl (kW E N) H) (hK : kK E s0) (hcs0 : cells ≤ 600130 ∧ slots ≤ 7301080)
    (jn_1276 :  ∀ ls : Array Slot, lv_has ls 23 [(0, .ref bs), (1, .ref (E.2.2 10)), (2, .ref (E.2.2 g)), (3, .int (zI time)), (4, .int (zI x)), (5, .long (lI dg))] → W pg l en room_1 s0 mi ar bl me co H locs cells slots Q (F0 mi 1276 ls []))
    (hl : lv_has ls 23 [(0, .ref bs), (1, .ref (E.2.2 10)), (2, .ref (E.2.2 g)), (3, .int (zI time)), (4, .int (zI x)), (5, .long (lI dg))]) : W pg l en room_1 s0 mi ar bl me co H locs cells slots Q (F0 mi 1110 ls []) := by
  have hx := S.1
  have hb := S.2.1
  have hn := hK.2.2.2
  have hinX00 : ∀ w ∈ wsX00, w ∈ wsL_law := inlX0
  have hinX10 : ∀ w ∈ wsX10, w ∈ wsL_law := inlX1
  have hinX20 : ∀ w ∈ wsX20, w ∈ wsL_law := inlX2
  have hinX30 : ∀ w ∈ wsX30, w ∈ wsL_law := inlX3
  have hinX40 : ∀ w ∈ wsX40, w ∈ wsL_law := inlX4
  have hl : lv_has ls 23 [(0, .ref bs), (1, .ref (E.2.2 10)), (2, .ref (E.2.2 g)), (3, .int (zI time)), (4, .int (zI x)), (5, .long (lI dg))] := hl
  have hIN := hV.I0 hI
  have hWN := hIN.1
  have hO2 := hIN.2.1
  obtain ⟨ha0, ha1, hva⟩ := hI.1 0 (by omega)
  obtain ⟨hb0, hb1, hvb⟩ := hI.1 1 (by omega)
  have f3 := hV.fn (c := 3) (by omega)
  have f4 := hV.fn (c := 4) (by omega)
  have f0 := hV.fn (c := 0) (by omega)
  have f1 := hV.fn (c := 1) (by omega)
  have f2 := hV.fn (c := 2) (by omega)
  have g0 : N 0 1 = M 0 1 := by rw [f0]
  have g1 : N 1 1 = M 1 1 := by rw [f1]
  refine lv_aload_n hx hb dL_law_1110 rfl (lv_at hl 1 rfl) ?_
  refine k_push hx hb dL_law_1111 ?_
  refine k_callV (As := [.int (zI 0)]) (rest := []) S hK hP (c_X2_seam l E N 0 (by assumption) (by assumption) (by omega)) (cwV 1 S.2.2.2.2 gL_law_X2_seam rfl rfl rfl (by decide +kernel) ⟨Nat.le_of_ble_eq_true rfl, Nat.le_of_ble_eq_true rfl⟩) (k_rX hK hP rfl) rfl hl.1 rfl (Nat.le_of_ble_eq_true rfl) dL_law_1112 ⟨by show _ ≤ (600130 : Nat); omega, by show _ ≤ (7301080 : Nat); omega⟩ (fun z_1112 h_1112 => ?_)
  have s1112 : kIsSeam (M 3) (M 0 1) (M 4) (M 1 1) 0 z_1112 := by have q := h_1112.1; rw [f3, f4, f0, f1] at q; exact q
  refine lv_istore (lv' := [(9, .int (zI z_1112)), (0, .ref bs), (1, .ref (E.2.2 10)), (2, .ref (E.2.2 g)), (3, .int (zI time)), (4, .int (zI x)), (5, .long (lI dg))]) hx hb dL_law_1115 hl (by decide) rfl (fun ls hl => ?_)
  refine lv_iload hx hb dL_law_1117 (lv_at hl 0 rfl) ?_
  refine lv_aload_n hx hb dL_law_1119 rfl (lv_at hl 2 rfl) ?_
  refine k_push hx hb dL_law_1120 ?_
  refine k_callV (As := [.int (zI 5)]) (rest := [.int (zI z_1112)]) S hK hP (c_X2_count l E N 5 (by assumption) (by assumption) (by omega)) (cwV 1 S.2.2.2.2 gL_law_X2_count rfl rfl rfl (by decide +kernel) ⟨Nat.le_of_ble_eq_true rfl, Nat.le_of_ble_eq_true rfl⟩) (k_rX hK hP rfl) rfl hl.1 rfl (Nat.le_of_ble_eq_true rfl) dL_law_1121 ⟨by show _ ≤ (600130 : Nat); omega, by show _ ≤ (7301080 : Nat); omega⟩ (fun z_1121 h_1121 => ?_)
  have e1121 : z_1112 = z_1121 := by
    have q := h_1121.1
    rw [f3, f4, f0, f1, f2] at q
    exact kIsCount_one (Or.inr (Or.inr (Or.inr (Or.inr (Or.inr ⟨rfl, s1112⟩))))) q
  refine k_ne (tgt := 1179) hx hb dL_law_1124 (by decide) (by omega) (fun c_1124 => ?_) (fun c_1124 => ?_)
  · exact absurd c_1124 (by omega)
  · skip
    refine lv_iload hx hb dL_law_1127 (lv_at hl 0 rfl) ?_
    refine k_ne0 (tgt := 1136) hx hb dL_law_1129 (by decide) (by omega) (fun c_1129 => ?_) (fun c_1129 => ?_)
    · skip
      refine k_push hx hb dL_law_1136 ?_
      refine lv_aload_n hx hb dL_law_1137 rfl (lv_at hl 2 rfl) ?_
      refine k_push hx hb dL_law_1138 ?_
      refine k_callV (As := [.int (zI 1)]) (rest := [.int (zI 0)]) S hK hP (c_X2_seam l E N 1 (by assumption) (by assumption) (by omega)) (cwV 1 S.2.2.2.2 gL_law_X2_seam rfl rfl rfl (by decide +kernel) ⟨Nat.le_of_ble_eq_true rfl, Nat.le_of_ble_eq_true rfl⟩) (k_rX hK hP rfl) rfl hl.1 rfl (Nat.le_of_ble_eq_true rfl) dL_law_1139 ⟨by show _ ≤ (600130 : Nat); omega, by show _ ≤ (7301080 : Nat); omega⟩ (fun z_1139 h_1139 => ?_)
      have s1139 : kIsSeam (M 3) (M 0 1) (M 4) (M 1 1) 1 z_1139 := by have q := h_1139.1; rw [f3, f4, f0, f1] at q; exact q
      have ab := kSeam_ab s1112 s1139
      refine k_ge0 (tgt := 1149) hx hb dL_law_1142 (by decide) (by omega) (fun c_1142 => ?_) (fun c_1142 => ?_)
      · skip
        refine k_push hx hb dL_law_1149 ?_
        refine k_ne (tgt := 1179) hx hb dL_law_1150 (by decide) (by omega) (fun c_1150 => ?_) (fun c_1150 => ?_)
        · exact absurd c_1150 (by omega)
        · skip
          refine lv_iload hx hb dL_law_1153 (lv_at hl 0 rfl) ?_
          refine k_ne0 (tgt := 1162) hx hb dL_law_1155 (by decide) (by omega) (fun c_1155 => ?_) (fun c_1155 => ?_)
          · skip
            refine k_push hx hb dL_law_1162 ?_
            refine lv_aload_n hx hb dL_law_1163 rfl (lv_at hl 2 rfl) ?_
            refine k_push hx hb dL_law_1164 ?_
            refine k_callV (As := [.int (zI 2)]) (rest := [.int (zI 0)]) S hK hP (c_X2_seam l E N 2 (by assumption) (by assumption) (by omega)) (cwV 1 S.2.2.2.2 gL_law_X2_seam rfl rfl rfl (by decide +kernel) ⟨Nat.le_of_ble_eq_true rfl, Nat.le_of_ble_eq_true rfl⟩) (k_rX hK hP rfl) rfl hl.1 rfl (Nat.le_of_ble_eq_true rfl) dL_law_1165 ⟨by show _ ≤ (600130 : Nat); omega, by show _ ≤ (7301080 : Nat); omega⟩ (fun z_1165 h_1165 => ?_)
            have s1165 : kIsSeam (M 3) (M 0 1) (M 4) (M 1 1) 2 z_1165 := by have q := h_1165.1; rw [f3, f4, f0, f1] at q; exact q
            have sf := kSeam_facts s1112 s1139 s1165
            refine k_ge0 (tgt := 1175) hx hb dL_law_1168 (by decide) (by omega) (fun c_1168 => ?_) (fun c_1168 => ?_)
            · skip
              refine k_push hx hb dL_law_1175 ?_
              refine k_eq (tgt := 1181) hx hb dL_law_1176 (by decide) (by omega) (fun c_1176 => ?_) (fun c_1176 => ?_)
              · skip
                refine k_push hx hb dL_law_1181 ?_
                refine lv_istore (lv' := [(10, .int (zI 0)), (9, .int (zI z_1112)), (0, .ref bs), (1, .ref (E.2.2 10)), (2, .ref (E.2.2 g)), (3, .int (zI time)), (4, .int (zI x)), (5, .long (lI dg))]) hx hb dL_law_1182 hl (by decide) rfl (fun ls hl => ?_)
                have lp_1184 : ∀ (n_1184 : Nat) (k : Int), (0 ≤ k ∧ (k ≤ z_1112 ∨ k = 0)) → (z_1112 - k < (n_1184 : Int)) → ∀ ls : Array Slot, lv_has ls 23 [(0, .ref bs), (1, .ref (E.2.2 10)), (2, .ref (E.2.2 g)), (3, .int (zI time)), (4, .int (zI x)), (5, .long (lI dg)), (9, .int (zI z_1112)), (10, .int (zI k))] → W pg l en room_1 s0 mi ar bl me co H locs cells slots Q (F0 mi 1184 ls []) := by
                  intro n_1184
                  induction n_1184 with
                  | zero => intro k h1 hm_1184; exfalso; omega
                  | succ n_1184 ih_1184 =>
                    intro k h1 hm_1184 ls hl
                    refine lv_iload hx hb dL_law_1184 (lv_at hl 7 rfl) ?_
                    refine lv_iload hx hb dL_law_1186 (lv_at hl 6 rfl) ?_
                    refine k_ge (tgt := 1228) hx hb dL_law_1188 (by decide) (by omega) (fun c_1188 => ?_) (fun c_1188 => ?_)
                    · skip
                      refine lv_iload hx hb dL_law_1228 (lv_at hl 6 rfl) ?_
                      refine k_le0 (tgt := 1276) hx hb dL_law_1230 (by decide) (by omega) (fun c_1230 => ?_) (fun c_1230 => ?_)
                      · skip
                        refine jn_1276   _ (lv_sub hl [0, 1, 2, 3, 4, 5] rfl)
                      · skip
                        have sf2 := sf.2.2 (by omega)
                        refine lv_aload_n hx hb dL_law_1233 rfl (lv_at hl 1 rfl) ?_
                        refine lv_aload_n hx hb dL_law_1234 rfl (lv_at hl 1 rfl) ?_
                        refine k_push hx hb dL_law_1235 ?_
                        refine k_callV (As := [.int (zI 1)]) (rest := [.ref (E.2.2 10)]) S hK hP (c_X2_seam l E N 1 (by assumption) (by assumption) (by omega)) (cwV 1 S.2.2.2.2 gL_law_X2_seam rfl rfl rfl (by decide +kernel) ⟨Nat.le_of_ble_eq_true rfl, Nat.le_of_ble_eq_true rfl⟩) (k_rX hK hP rfl) rfl hl.1 rfl (Nat.le_of_ble_eq_true rfl) dL_law_1236 ⟨by show _ ≤ (600130 : Nat); omega, by show _ ≤ (7301080 : Nat); omega⟩ (fun z_1236 h_1236 => ?_)
                        have s1236 : kIsSeam (M 3) (M 0 1) (M 4) (M 1 1) 1 z_1236 := by have q := h_1236.1; rw [f3, f4, f0, f1] at q; exact q
                        have e1236 : z_1236 = z_1139 := kIsSeam_one s1236 s1139
                        refine lv_aload_n hx hb dL_law_1239 rfl (lv_at hl 1 rfl) ?_
                        refine k_push hx hb dL_law_1240 ?_
                        refine k_callV (As := [.int (zI 2)]) (rest := [.int (zI z_1236), .ref (E.2.2 10)]) S hK hP (c_X2_seam l E N 2 (by assumption) (by assumption) (by omega)) (cwV 1 S.2.2.2.2 gL_law_X2_seam rfl rfl rfl (by decide +kernel) ⟨Nat.le_of_ble_eq_true rfl, Nat.le_of_ble_eq_true rfl⟩) (k_rX hK hP rfl) rfl hl.1 rfl (Nat.le_of_ble_eq_true rfl) dL_law_1241 ⟨by show _ ≤ (600130 : Nat); omega, by show _ ≤ (7301080 : Nat); omega⟩ (fun z_1241 h_1241 => ?_)
                        have s1241 : kIsSeam (M 3) (M 0 1) (M 4) (M 1 1) 2 z_1241 := by have q := h_1241.1; rw [f3, f4, f0, f1] at q; exact q
                        have e1241 : z_1241 = z_1165 := kIsSeam_one s1241 s1165
                        refine k_callV (As := [.int (zI z_1236), .int (zI z_1241)]) (rest := []) S hK hP (c_X2_against l E N z_1236 z_1241 (by assumption) (by omega)) (cwV 2 S.2.2.2.2 gL_law_X2_against rfl rfl rfl (by decide +kernel) ⟨Nat.le_of_ble_eq_true rfl, Nat.le_of_ble_eq_true rfl⟩) (k_rX hK hP rfl) rfl hl.1 rfl (Nat.le_of_ble_eq_true rfl) dL_law_1244 ⟨by show _ ≤ (600130 : Nat); omega, by show _ ≤ (7301080 : Nat); omega⟩ (fun z_1244 h_1244 => ?_)
                        have k1244 : z_1244 = 0 ∨ z_1244 = z_1112 + 1 ∨ z_1244 = -(z_1112 + 1) := by have q := h_1244.1; rw [f3, f4, f0, f1, e1236, e1241] at q; exact kD_seam q sf2.2.2
                        refine k_abs S hl.1 (S.2.2.2.2 _ (List.mem_append_left _ (List.mem_append_left _ (List.mem_append_left _ (List.mem_append_left _ (List.mem_append_left _ (List.mem_append_left _ (List.mem_append_left _ (List.mem_append_left _ (List.mem_append_left _ (List.mem_append_left _ (List.mem_of_getElem? (i := 10) rfl)))))))))))) (S.2.2.2.2 _ (List.mem_append_left _ (List.mem_append_left _ (List.mem_append_left _ (List.mem_append_left _ (List.mem_append_left _ (List.mem_append_left _ (List.mem_append_left _ (List.mem_append_left _ (List.mem_append_left _ (List.mem_append_left _ (List.mem_of_getElem? (i := 11) rfl)))))))))))) (S.2.2.2.2 _ (List.mem_append_left _ (List.mem_append_left _ (List.mem_append_left _ (List.mem_append_left _ (List.mem_append_left _ (List.mem_append_left _ (List.mem_append_left _ (List.mem_append_left _ (List.mem_append_left _ (List.mem_append_left _ (List.mem_of_getElem? (i := 7) rfl)))))))))))) (S.2.2.2.2 _ (List.mem_append_left _ (List.mem_append_left _ (List.mem_append_left _ (List.mem_append_left _ (List.mem_append_left _ (List.mem_append_left _ (List.mem_append_left _ (List.mem_append_left _ (List.mem_append_left _ (List.mem_append_left _ (List.mem_of_getElem? (i := 12) rfl)))))))))))) ⟨Nat.le_of_ble_eq_true rfl, Nat.le_of_ble_eq_true rfl⟩ ⟨by show _ ≤ (600130 : Nat); omega, by show _ ≤ (7301080 : Nat); omega⟩ (by omega) dL_law_1247 (fun z_1247 h_1247 => ?_)
                        refine lv_iload hx hb dL_law_1250 (lv_at hl 6 rfl) ?_
                        refine k_push hx hb dL_law_1252 ?_
                        refine k_add hx hb dL_law_1253 ?_
                        refine k_eq (tgt := 1276) hx hb dL_law_1254 (by decide) (by omega) (fun c_1254 => ?_) (fun c_1254 => ?_)
                        · skip
                          refine jn_1276   _ (lv_sub hl [0, 1, 2, 3, 4, 5] rfl)
                        · skip
                          refine lv_aload_n hx hb dL_law_1257 rfl (lv_at hl 1 rfl) ?_
                          refine lv_aload_n hx hb dL_law_1258 rfl (lv_at hl 1 rfl) ?_
                          refine k_push hx hb dL_law_1259 ?_
                          refine k_callV (As := [.int (zI 1)]) (rest := [.ref (E.2.2 10)]) S hK hP (c_X2_seam l E N 1 (by assumption) (by assumption) (by omega)) (cwV 1 S.2.2.2.2 gL_law_X2_seam rfl rfl rfl (by decide +kernel) ⟨Nat.le_of_ble_eq_true rfl, Nat.le_of_ble_eq_true rfl⟩) (k_rX hK hP rfl) rfl hl.1 rfl (Nat.le_of_ble_eq_true rfl) dL_law_1260 ⟨by show _ ≤ (600130 : Nat); omega, by show _ ≤ (7301080 : Nat); omega⟩ (fun z_1260 h_1260 => ?_)
                          have s1260 : kIsSeam (M 3) (M 0 1) (M 4) (M 1 1) 1 z_1260 := by have q := h_1260.1; rw [f3, f4, f0, f1] at q; exact q
                          have e1260 : z_1260 = z_1139 := kIsSeam_one s1260 s1139
                          refine lv_aload_n hx hb dL_law_1263 rfl (lv_at hl 1 rfl) ?_
                          refine k_push hx hb dL_law_1264 ?_
                          refine k_callV (As := [.int (zI 2)]) (rest := [.int (zI z_1260), .ref (E.2.2 10)]) S hK hP (c_X2_seam l E N 2 (by assumption) (by assumption) (by omega)) (cwV 1 S.2.2.2.2 gL_law_X2_seam rfl rfl rfl (by decide +kernel) ⟨Nat.le_of_ble_eq_true rfl, Nat.le_of_ble_eq_true rfl⟩) (k_rX hK hP rfl) rfl hl.1 rfl (Nat.le_of_ble_eq_true rfl) dL_law_1265 ⟨by show _ ≤ (600130 : Nat); omega, by show _ ≤ (7301080 : Nat); omega⟩ (fun z_1265 h_1265 => ?_)
                          have s1265 : kIsSeam (M 3) (M 0 1) (M 4) (M 1 1) 2 z_1265 := by have q := h_1265.1; rw [f3, f4, f0, f1] at q; exact q
                          have e1265 : z_1265 = z_1165 := kIsSeam_one s1265 s1165
                          refine k_callV (As := [.int (zI z_1260), .int (zI z_1265)]) (rest := []) S hK hP (c_X2_against l E N z_1260 z_1265 (by assumption) (by omega)) (cwV 2 S.2.2.2.2 gL_law_X2_against rfl rfl rfl (by decide +kernel) ⟨Nat.le_of_ble_eq_true rfl, Nat.le_of_ble_eq_true rfl⟩) (k_rX hK hP rfl) rfl hl.1 rfl (Nat.le_of_ble_eq_true rfl) dL_law_1268 ⟨by show _ ≤ (600130 : Nat); omega, by show _ ≤ (7301080 : Nat); omega⟩ (fun z_1268 h_1268 => ?_)
                          have k1268 : z_1268 = 0 ∨ z_1268 = z_1112 + 1 ∨ z_1268 = -(z_1112 + 1) := by have q := h_1268.1; rw [f3, f4, f0, f1, e1260, e1265] at q; exact kD_seam q sf2.2.2
                          have e1268 : z_1268 = z_1244 := kD_one (by have q := h_1268.1; rw [e1260, e1265] at q; exact q) (by have q := h_1244.1; rw [e1236, e1241] at q; exact q)
                          refine k_eq0 (tgt := 1276) hx hb dL_law_1271 (by decide) (by omega) (fun c_1271 => ?_) (fun c_1271 => ?_)
                          · skip
                            refine jn_1276   _ (lv_sub hl [0, 1, 2, 3, 4, 5] rfl)
                          · exact absurd c_1271 (by omega)
                    · skip
                      have sf2 := sf.2.2 (by omega)
                      have sfe := (kL_spec (x := M 3) (y := M 4) (nx := M 0 1) (ny := M 1 1) (a := z_1139) (b := z_1165) (by omega) (by omega)).2.2.2.1
                      rw [sf2.2.2] at sfe
                      refine lv_aload_n hx hb dL_law_1191 rfl (lv_at hl 1 rfl) ?_
                      refine k_push hx hb dL_law_1192 ?_
                      refine lv_aload_n hx hb dL_law_1193 rfl (lv_at hl 1 rfl) ?_
                      refine k_push hx hb dL_law_1194 ?_
                      refine k_callV (As := [.int (zI 1)]) (rest := [.int (zI 0), .ref (E.2.2 10)]) S hK hP (c_X2_seam l E N 1 (by assumption) (by assumption) (by omega)) (cwV 1 S.2.2.2.2 gL_law_X2_seam rfl rfl rfl (by decide +kernel) ⟨Nat.le_of_ble_eq_true rfl, Nat.le_of_ble_eq_true rfl⟩) (k_rX hK hP rfl) rfl hl.1 rfl (Nat.le_of_ble_eq_true rfl) dL_law_1195 ⟨by show _ ≤ (600130 : Nat); omega, by show _ ≤ (7301080 : Nat); omega⟩ (fun z_1195 h_1195 => ?_)
                      have s1195 : kIsSeam (M 3) (M 0 1) (M 4) (M 1 1) 1 z_1195 := by have q := h_1195.1; rw [f3, f4, f0, f1] at q; exact q
                      have e1195 : z_1195 = z_1139 := kIsSeam_one s1195 s1139
                      refine lv_iload hx hb dL_law_1198 (lv_at hl 7 rfl) ?_
                      refine k_add hx hb dL_law_1200 ?_
                      refine k_callV (As := [.int (zI 0), .int (zI (z_1195 + k))]) (rest := []) S hK hP (c_X2_stitch l E N 0 (z_1195 + k) (by omega) (by assumption) (by omega)) (cwV 2 S.2.2.2.2 gL_law_X2_stitch rfl rfl rfl (by decide +kernel) ⟨Nat.le_of_ble_eq_true rfl, Nat.le_of_ble_eq_true rfl⟩) (k_rX hK hP rfl) rfl hl.1 rfl (Nat.le_of_ble_eq_true rfl) dL_law_1201 ⟨by show _ ≤ (600130 : Nat); omega, by show _ ≤ (7301080 : Nat); omega⟩ (fun z_1201 h_1201 => ?_)
                      have v1 := h_1201.1
                      rw [show N (0 + 3) = M 3 from f3, e1195] at v1
                      refine lv_aload_n hx hb dL_law_1204 rfl (lv_at hl 1 rfl) ?_
                      refine k_push hx hb dL_law_1205 ?_
                      refine lv_aload_n hx hb dL_law_1206 rfl (lv_at hl 1 rfl) ?_
                      refine k_push hx hb dL_law_1207 ?_
                      refine k_callV (As := [.int (zI 2)]) (rest := [.int (zI 1), .ref (E.2.2 10), .int (zI z_1201)]) S hK hP (c_X2_seam l E N 2 (by assumption) (by assumption) (by omega)) (cwV 1 S.2.2.2.2 gL_law_X2_seam rfl rfl rfl (by decide +kernel) ⟨Nat.le_of_ble_eq_true rfl, Nat.le_of_ble_eq_true rfl⟩) (k_rX hK hP rfl) rfl hl.1 rfl (Nat.le_of_ble_eq_true rfl) dL_law_1208 ⟨by show _ ≤ (600130 : Nat); omega, by show _ ≤ (7301080 : Nat); omega⟩ (fun z_1208 h_1208 => ?_)
                      have s1208 : kIsSeam (M 3) (M 0 1) (M 4) (M 1 1) 2 z_1208 := by have q := h_1208.1; rw [f3, f4, f0, f1] at q; exact q
                      have e1208 : z_1208 = z_1165 := kIsSeam_one s1208 s1165
                      refine lv_iload hx hb dL_law_1211 (lv_at hl 7 rfl) ?_
                      refine k_add hx hb dL_law_1213 ?_
                      refine k_callV (As := [.int (zI 1), .int (zI (z_1208 + k))]) (rest := [.int (zI z_1201)]) S hK hP (c_X2_stitch l E N 1 (z_1208 + k) (by omega) (by assumption) (by omega)) (cwV 2 S.2.2.2.2 gL_law_X2_stitch rfl rfl rfl (by decide +kernel) ⟨Nat.le_of_ble_eq_true rfl, Nat.le_of_ble_eq_true rfl⟩) (k_rX hK hP rfl) rfl hl.1 rfl (Nat.le_of_ble_eq_true rfl) dL_law_1214 ⟨by show _ ≤ (600130 : Nat); omega, by show _ ≤ (7301080 : Nat); omega⟩ (fun z_1214 h_1214 => ?_)
                      have v2 := h_1214.1
                      rw [show N (1 + 3) = M 4 from f4, e1208] at v2
                      have v3 := sfe k h1.1 (by omega)
                      refine k_eq (tgt := 1222) hx hb dL_law_1217 (by decide) (by omega) (fun c_1217 => ?_) (fun c_1217 => ?_)
                      · skip
                        obtain ⟨v10_1222, ev10_1222⟩ : ∃ v : Int, v = k + 1 := ⟨_, rfl⟩
                        refine k_incN (v := v10_1222) (lv' := [(10, .int (zI v10_1222)), (0, .ref bs), (1, .ref (E.2.2 10)), (2, .ref (E.2.2 g)), (3, .int (zI time)), (4, .int (zI x)), (5, .long (lI dg)), (9, .int (zI z_1112))]) hx hb dL_law_1222 hl (k := 7) rfl ev10_1222 (by decide) rfl (fun ls hl => ?_)
                        refine lv_goto (tgt := 1184) hx hb dL_law_1225 (by decide) ?_
                        refine ih_1184 v10_1222 (by omega) (by omega) _ (lv_sub hl [1, 2, 3, 4, 5, 6, 7, 0] rfl)
                      · exact absurd c_1217 (by omega)
                refine lp_1184 (((z_1112 - 0 : Int)).toNat + 1) 0 (by omega) (by omega) _ (lv_sub hl [2, 3, 4, 5, 6, 7, 1, 0] rfl)
              · exact absurd c_1176 (by omega)
            · exact absurd c_1168 (by omega)
          · exact absurd c_1155 (by omega)
      · exact absurd c_1142 (by omega)
    · skip
      refine k_push hx hb dL_law_1132 ?_
      refine lv_goto (tgt := 1137) hx hb dL_law_1133 (by decide) ?_
      refine lv_aload_n hx hb dL_law_1137 rfl (lv_at hl 2 rfl) ?_
      refine k_push hx hb dL_law_1138 ?_
      refine k_callV (As := [.int (zI 1)]) (rest := [.int (zI 1)]) S hK hP (c_X2_seam l E N 1 (by assumption) (by assumption) (by omega)) (cwV 1 S.2.2.2.2 gL_law_X2_seam rfl rfl rfl (by decide +kernel) ⟨Nat.le_of_ble_eq_true rfl, Nat.le_of_ble_eq_true rfl⟩) (k_rX hK hP rfl) rfl hl.1 rfl (Nat.le_of_ble_eq_true rfl) dL_law_1139 ⟨by show _ ≤ (600130 : Nat); omega, by show _ ≤ (7301080 : Nat); omega⟩ (fun z_1139 h_1139 => ?_)
      have s1139 : kIsSeam (M 3) (M 0 1) (M 4) (M 1 1) 1 z_1139 := by have q := h_1139.1; rw [f3, f4, f0, f1] at q; exact q
      have ab := kSeam_ab s1112 s1139
      refine k_ge0 (tgt := 1149) hx hb dL_law_1142 (by decide) (by omega) (fun c_1142 => ?_) (fun c_1142 => ?_)
      · exact absurd c_1142 (by omega)
      · skip
        refine k_push hx hb dL_law_1145 ?_
        refine lv_goto (tgt := 1150) hx hb dL_law_1146 (by decide) ?_
        refine k_ne (tgt := 1179) hx hb dL_law_1150 (by decide) (by omega) (fun c_1150 => ?_) (fun c_1150 => ?_)
        · exact absurd c_1150 (by omega)
        · skip
          refine lv_iload hx hb dL_law_1153 (lv_at hl 0 rfl) ?_
          refine k_ne0 (tgt := 1162) hx hb dL_law_1155 (by decide) (by omega) (fun c_1155 => ?_) (fun c_1155 => ?_)
          · exact absurd c_1155 (by omega)
          · skip
            refine k_push hx hb dL_law_1158 ?_
            refine lv_goto (tgt := 1163) hx hb dL_law_1159 (by decide) ?_
            refine lv_aload_n hx hb dL_law_1163 rfl (lv_at hl 2 rfl) ?_
            refine k_push hx hb dL_law_1164 ?_
            refine k_callV (As := [.int (zI 2)]) (rest := [.int (zI 1)]) S hK hP (c_X2_seam l E N 2 (by assumption) (by assumption) (by omega)) (cwV 1 S.2.2.2.2 gL_law_X2_seam rfl rfl rfl (by decide +kernel) ⟨Nat.le_of_ble_eq_true rfl, Nat.le_of_ble_eq_true rfl⟩) (k_rX hK hP rfl) rfl hl.1 rfl (Nat.le_of_ble_eq_true rfl) dL_law_1165 ⟨by show _ ≤ (600130 : Nat); omega, by show _ ≤ (7301080 : Nat); omega⟩ (fun z_1165 h_1165 => ?_)
            have s1165 : kIsSeam (M 3) (M 0 1) (M 4) (M 1 1) 2 z_1165 := by have q := h_1165.1; rw [f3, f4, f0, f1] at q; exact q
            have sf := kSeam_facts s1112 s1139 s1165
            refine k_ge0 (tgt := 1175) hx hb dL_law_1168 (by decide) (by omega) (fun c_1168 => ?_) (fun c_1168 => ?_)
            · exact absurd c_1168 (by omega)
            · skip
              refine k_push hx hb dL_law_1171 ?_
              refine lv_goto (tgt := 1176) hx hb dL_law_1172 (by decide) ?_
              refine k_eq (tgt := 1181) hx hb dL_law_1176 (by decide) (by omega) (fun c_1176 => ?_) (fun c_1176 => ?_)
              · skip
                refine k_push hx hb dL_law_1181 ?_
                refine lv_istore (lv' := [(10, .int (zI 0)), (9, .int (zI z_1112)), (0, .ref bs), (1, .ref (E.2.2 10)), (2, .ref (E.2.2 g)), (3, .int (zI time)), (4, .int (zI x)), (5, .long (lI dg))]) hx hb dL_law_1182 hl (by decide) rfl (fun ls hl => ?_)
                have lp_1184 : ∀ (n_1184 : Nat) (k : Int), (0 ≤ k ∧ (k ≤ z_1112 ∨ k = 0)) → (z_1112 - k < (n_1184 : Int)) → ∀ ls : Array Slot, lv_has ls 23 [(0, .ref bs), (1, .ref (E.2.2 10)), (2, .ref (E.2.2 g)), (3, .int (zI time)), (4, .int (zI x)), (5, .long (lI dg)), (9, .int (zI z_1112)), (10, .int (zI k))] → W pg l en room_1 s0 mi ar bl me co H locs cells slots Q (F0 mi 1184 ls []) := by
                  intro n_1184
                  induction n_1184 with
                  | zero => intro k h1 hm_1184; exfalso; omega
                  | succ n_1184 ih_1184 =>
                    intro k h1 hm_1184 ls hl
                    refine lv_iload hx hb dL_law_1184 (lv_at hl 7 rfl) ?_
                    refine lv_iload hx hb dL_law_1186 (lv_at hl 6 rfl) ?_
                    refine k_ge (tgt := 1228) hx hb dL_law_1188 (by decide) (by omega) (fun c_1188 => ?_) (fun c_1188 => ?_)
                    · skip
                      refine lv_iload hx hb dL_law_1228 (lv_at hl 6 rfl) ?_
                      refine k_le0 (tgt := 1276) hx hb dL_law_1230 (by decide) (by omega) (fun c_1230 => ?_) (fun c_1230 => ?_)
                      · skip
                        refine jn_1276   _ (lv_sub hl [0, 1, 2, 3, 4, 5] rfl)
                      · skip
                        have sf2 := sf.2.2 (by omega)
                        refine lv_aload_n hx hb dL_law_1233 rfl (lv_at hl 1 rfl) ?_
                        refine lv_aload_n hx hb dL_law_1234 rfl (lv_at hl 1 rfl) ?_
                        refine k_push hx hb dL_law_1235 ?_
                        refine k_callV (As := [.int (zI 1)]) (rest := [.ref (E.2.2 10)]) S hK hP (c_X2_seam l E N 1 (by assumption) (by assumption) (by omega)) (cwV 1 S.2.2.2.2 gL_law_X2_seam rfl rfl rfl (by decide +kernel) ⟨Nat.le_of_ble_eq_true rfl, Nat.le_of_ble_eq_true rfl⟩) (k_rX hK hP rfl) rfl hl.1 rfl (Nat.le_of_ble_eq_true rfl) dL_law_1236 ⟨by show _ ≤ (600130 : Nat); omega, by show _ ≤ (7301080 : Nat); omega⟩ (fun z_1236 h_1236 => ?_)
                        have s1236 : kIsSeam (M 3) (M 0 1) (M 4) (M 1 1) 1 z_1236 := by have q := h_1236.1; rw [f3, f4, f0, f1] at q; exact q
                        have e1236 : z_1236 = z_1139 := kIsSeam_one s1236 s1139
                        refine lv_aload_n hx hb dL_law_1239 rfl (lv_at hl 1 rfl) ?_
                        refine k_push hx hb dL_law_1240 ?_
                        refine k_callV (As := [.int (zI 2)]) (rest := [.int (zI z_1236), .ref (E.2.2 10)]) S hK hP (c_X2_seam l E N 2 (by assumption) (by assumption) (by omega)) (cwV 1 S.2.2.2.2 gL_law_X2_seam rfl rfl rfl (by decide +kernel) ⟨Nat.le_of_ble_eq_true rfl, Nat.le_of_ble_eq_true rfl⟩) (k_rX hK hP rfl) rfl hl.1 rfl (Nat.le_of_ble_eq_true rfl) dL_law_1241 ⟨by show _ ≤ (600130 : Nat); omega, by show _ ≤ (7301080 : Nat); omega⟩ (fun z_1241 h_1241 => ?_)
                        have s1241 : kIsSeam (M 3) (M 0 1) (M 4) (M 1 1) 2 z_1241 := by have q := h_1241.1; rw [f3, f4, f0, f1] at q; exact q
                        have e1241 : z_1241 = z_1165 := kIsSeam_one s1241 s1165
                        refine k_callV (As := [.int (zI z_1236), .int (zI z_1241)]) (rest := []) S hK hP (c_X2_against l E N z_1236 z_1241 (by assumption) (by omega)) (cwV 2 S.2.2.2.2 gL_law_X2_against rfl rfl rfl (by decide +kernel) ⟨Nat.le_of_ble_eq_true rfl, Nat.le_of_ble_eq_true rfl⟩) (k_rX hK hP rfl) rfl hl.1 rfl (Nat.le_of_ble_eq_true rfl) dL_law_1244 ⟨by show _ ≤ (600130 : Nat); omega, by show _ ≤ (7301080 : Nat); omega⟩ (fun z_1244 h_1244 => ?_)
                        have k1244 : z_1244 = 0 ∨ z_1244 = z_1112 + 1 ∨ z_1244 = -(z_1112 + 1) := by have q := h_1244.1; rw [f3, f4, f0, f1, e1236, e1241] at q; exact kD_seam q sf2.2.2
                        refine k_abs S hl.1 (S.2.2.2.2 _ (List.mem_append_left _ (List.mem_append_left _ (List.mem_append_left _ (List.mem_append_left _ (List.mem_append_left _ (List.mem_append_left _ (List.mem_append_left _ (List.mem_append_left _ (List.mem_append_left _ (List.mem_append_left _ (List.mem_of_getElem? (i := 10) rfl)))))))))))) (S.2.2.2.2 _ (List.mem_append_left _ (List.mem_append_left _ (List.mem_append_left _ (List.mem_append_left _ (List.mem_append_left _ (List.mem_append_left _ (List.mem_append_left _ (List.mem_append_left _ (List.mem_append_left _ (List.mem_append_left _ (List.mem_of_getElem? (i := 11) rfl)))))))))))) (S.2.2.2.2 _ (List.mem_append_left _ (List.mem_append_left _ (List.mem_append_left _ (List.mem_append_left _ (List.mem_append_left _ (List.mem_append_left _ (List.mem_append_left _ (List.mem_append_left _ (List.mem_append_left _ (List.mem_append_left _ (List.mem_of_getElem? (i := 7) rfl)))))))))))) (S.2.2.2.2 _ (List.mem_append_left _ (List.mem_append_left _ (List.mem_append_left _ (List.mem_append_left _ (List.mem_append_left _ (List.mem_append_left _ (List.mem_append_left _ (List.mem_append_left _ (List.mem_append_left _ (List.mem_append_left _ (List.mem_of_getElem? (i := 12) rfl)))))))))))) ⟨Nat.le_of_ble_eq_true rfl, Nat.le_of_ble_eq_true rfl⟩ ⟨by show _ ≤ (600130 : Nat); omega, by show _ ≤ (7301080 : Nat); omega⟩ (by omega) dL_law_1247 (fun z_1247 h_1247 => ?_)
                        refine lv_iload hx hb dL_law_1250 (lv_at hl 6 rfl) ?_
                        refine k_push hx hb dL_law_1252 ?_
                        refine k_add hx hb dL_law_1253 ?_
                        refine k_eq (tgt := 1276) hx hb dL_law_1254 (by decide) (by omega) (fun c_1254 => ?_) (fun c_1254 => ?_)
                        · skip
                          refine jn_1276   _ (lv_sub hl [0, 1, 2, 3, 4, 5] rfl)
                        · skip
                          refine lv_aload_n hx hb dL_law_1257 rfl (lv_at hl 1 rfl) ?_
                          refine lv_aload_n hx hb dL_law_1258 rfl (lv_at hl 1 rfl) ?_
                          refine k_push hx hb dL_law_1259 ?_
                          refine k_callV (As := [.int (zI 1)]) (rest := [.ref (E.2.2 10)]) S hK hP (c_X2_seam l E N 1 (by assumption) (by assumption) (by omega)) (cwV 1 S.2.2.2.2 gL_law_X2_seam rfl rfl rfl (by decide +kernel) ⟨Nat.le_of_ble_eq_true rfl, Nat.le_of_ble_eq_true rfl⟩) (k_rX hK hP rfl) rfl hl.1 rfl (Nat.le_of_ble_eq_true rfl) dL_law_1260 ⟨by show _ ≤ (600130 : Nat); omega, by show _ ≤ (7301080 : Nat); omega⟩ (fun z_1260 h_1260 => ?_)
                          have s1260 : kIsSeam (M 3) (M 0 1) (M 4) (M 1 1) 1 z_1260 := by have q := h_1260.1; rw [f3, f4, f0, f1] at q; exact q
                          have e1260 : z_1260 = z_1139 := kIsSeam_one s1260 s1139
                          refine lv_aload_n hx hb dL_law_1263 rfl (lv_at hl 1 rfl) ?_
                          refine k_push hx hb dL_law_1264 ?_
                          refine k_callV (As := [.int (zI 2)]) (rest := [.int (zI z_1260), .ref (E.2.2 10)]) S hK hP (c_X2_seam l E N 2 (by assumption) (by assumption) (by omega)) (cwV 1 S.2.2.2.2 gL_law_X2_seam rfl rfl rfl (by decide +kernel) ⟨Nat.le_of_ble_eq_true rfl, Nat.le_of_ble_eq_true rfl⟩) (k_rX hK hP rfl) rfl hl.1 rfl (Nat.le_of_ble_eq_true rfl) dL_law_1265 ⟨by show _ ≤ (600130 : Nat); omega, by show _ ≤ (7301080 : Nat); omega⟩ (fun z_1265 h_1265 => ?_)
                          have s1265 : kIsSeam (M 3) (M 0 1) (M 4) (M 1 1) 2 z_1265 := by have q := h_1265.1; rw [f3, f4, f0, f1] at q; exact q
                          have e1265 : z_1265 = z_1165 := kIsSeam_one s1265 s1165
                          refine k_callV (As := [.int (zI z_1260), .int (zI z_1265)]) (rest := []) S hK hP (c_X2_against l E N z_1260 z_1265 (by assumption) (by omega)) (cwV 2 S.2.2.2.2 gL_law_X2_against rfl rfl rfl (by decide +kernel) ⟨Nat.le_of_ble_eq_true rfl, Nat.le_of_ble_eq_true rfl⟩) (k_rX hK hP rfl) rfl hl.1 rfl (Nat.le_of_ble_eq_true rfl) dL_law_1268 ⟨by show _ ≤ (600130 : Nat); omega, by show _ ≤ (7301080 : Nat); omega⟩ (fun z_1268 h_1268 => ?_)
                          have k1268 : z_1268 = 0 ∨ z_1268 = z_1112 + 1 ∨ z_1268 = -(z_1112 + 1) := by have q := h_1268.1; rw [f3, f4, f0, f1, e1260, e1265] at q; exact kD_seam q sf2.2.2
                          have e1268 : z_1268 = z_1244 := kD_one (by have q := h_1268.1; rw [e1260, e1265] at q; exact q) (by have q := h_1244.1; rw [e1236, e1241] at q; exact q)
                          refine k_eq0 (tgt := 1276) hx hb dL_law_1271 (by decide) (by omega) (fun c_1271 => ?_) (fun c_1271 => ?_)
                          · skip
                            refine jn_1276   _ (lv_sub hl [0, 1, 2, 3, 4, 5] rfl)
                          · exact absurd c_1271 (by omega)
                    · skip
                      have sf2 := sf.2.2 (by omega)
                      have sfe := (kL_spec (x := M 3) (y := M 4) (nx := M 0 1) (ny := M 1 1) (a := z_1139) (b := z_1165) (by omega) (by omega)).2.2.2.1
                      rw [sf2.2.2] at sfe
                      refine lv_aload_n hx hb dL_law_1191 rfl (lv_at hl 1 rfl) ?_
                      refine k_push hx hb dL_law_1192 ?_
                      refine lv_aload_n hx hb dL_law_1193 rfl (lv_at hl 1 rfl) ?_
                      refine k_push hx hb dL_law_1194 ?_
                      refine k_callV (As := [.int (zI 1)]) (rest := [.int (zI 0), .ref (E.2.2 10)]) S hK hP (c_X2_seam l E N 1 (by assumption) (by assumption) (by omega)) (cwV 1 S.2.2.2.2 gL_law_X2_seam rfl rfl rfl (by decide +kernel) ⟨Nat.le_of_ble_eq_true rfl, Nat.le_of_ble_eq_true rfl⟩) (k_rX hK hP rfl) rfl hl.1 rfl (Nat.le_of_ble_eq_true rfl) dL_law_1195 ⟨by show _ ≤ (600130 : Nat); omega, by show _ ≤ (7301080 : Nat); omega⟩ (fun z_1195 h_1195 => ?_)
                      have s1195 : kIsSeam (M 3) (M 0 1) (M 4) (M 1 1) 1 z_1195 := by have q := h_1195.1; rw [f3, f4, f0, f1] at q; exact q
                      have e1195 : z_1195 = z_1139 := kIsSeam_one s1195 s1139
                      refine lv_iload hx hb dL_law_1198 (lv_at hl 7 rfl) ?_
                      refine k_add hx hb dL_law_1200 ?_
                      refine k_callV (As := [.int (zI 0), .int (zI (z_1195 + k))]) (rest := []) S hK hP (c_X2_stitch l E N 0 (z_1195 + k) (by omega) (by assumption) (by omega)) (cwV 2 S.2.2.2.2 gL_law_X2_stitch rfl rfl rfl (by decide +kernel) ⟨Nat.le_of_ble_eq_true rfl, Nat.le_of_ble_eq_true rfl⟩) (k_rX hK hP rfl) rfl hl.1 rfl (Nat.le_of_ble_eq_true rfl) dL_law_1201 ⟨by show _ ≤ (600130 : Nat); omega, by show _ ≤ (7301080 : Nat); omega⟩ (fun z_1201 h_1201 => ?_)
                      have v1 := h_1201.1
                      rw [show N (0 + 3) = M 3 from f3, e1195] at v1
                      refine lv_aload_n hx hb dL_law_1204 rfl (lv_at hl 1 rfl) ?_
                      refine k_push hx hb dL_law_1205 ?_
                      refine lv_aload_n hx hb dL_law_1206 rfl (lv_at hl 1 rfl) ?_
                      refine k_push hx hb dL_law_1207 ?_
                      refine k_callV (As := [.int (zI 2)]) (rest := [.int (zI 1), .ref (E.2.2 10), .int (zI z_1201)]) S hK hP (c_X2_seam l E N 2 (by assumption) (by assumption) (by omega)) (cwV 1 S.2.2.2.2 gL_law_X2_seam rfl rfl rfl (by decide +kernel) ⟨Nat.le_of_ble_eq_true rfl, Nat.le_of_ble_eq_true rfl⟩) (k_rX hK hP rfl) rfl hl.1 rfl (Nat.le_of_ble_eq_true rfl) dL_law_1208 ⟨by show _ ≤ (600130 : Nat); omega, by show _ ≤ (7301080 : Nat); omega⟩ (fun z_1208 h_1208 => ?_)
                      have s1208 : kIsSeam (M 3) (M 0 1) (M 4) (M 1 1) 2 z_1208 := by have q := h_1208.1; rw [f3, f4, f0, f1] at q; exact q
                      have e1208 : z_1208 = z_1165 := kIsSeam_one s1208 s1165
                      refine lv_iload hx hb dL_law_1211 (lv_at hl 7 rfl) ?_
                      refine k_add hx hb dL_law_1213 ?_
                      refine k_callV (As := [.int (zI 1), .int (zI (z_1208 + k))]) (rest := [.int (zI z_1201)]) S hK hP (c_X2_stitch l E N 1 (z_1208 + k) (by omega) (by assumption) (by omega)) (cwV 2 S.2.2.2.2 gL_law_X2_stitch rfl rfl rfl (by decide +kernel) ⟨Nat.le_of_ble_eq_true rfl, Nat.le_of_ble_eq_true rfl⟩) (k_rX hK hP rfl) rfl hl.1 rfl (Nat.le_of_ble_eq_true rfl) dL_law_1214 ⟨by show _ ≤ (600130 : Nat); omega, by show _ ≤ (7301080 : Nat); omega⟩ (fun z_1214 h_1214 => ?_)
                      have v2 := h_1214.1
                      rw [show N (1 + 3) = M 4 from f4, e1208] at v2
                      have v3 := sfe k h1.1 (by omega)
                      refine k_eq (tgt := 1222) hx hb dL_law_1217 (by decide) (by omega) (fun c_1217 => ?_) (fun c_1217 => ?_)
                      · skip
                        obtain ⟨v10_1222, ev10_1222⟩ : ∃ v : Int, v = k + 1 := ⟨_, rfl⟩
                        refine k_incN (v := v10_1222) (lv' := [(10, .int (zI v10_1222)), (0, .ref bs), (1, .ref (E.2.2 10)), (2, .ref (E.2.2 g)), (3, .int (zI time)), (4, .int (zI x)), (5, .long (lI dg)), (9, .int (zI z_1112))]) hx hb dL_law_1222 hl (k := 7) rfl ev10_1222 (by decide) rfl (fun ls hl => ?_)
                        refine lv_goto (tgt := 1184) hx hb dL_law_1225 (by decide) ?_
                        refine ih_1184 v10_1222 (by omega) (by omega) _ (lv_sub hl [1, 2, 3, 4, 5, 6, 7, 0] rfl)
                      · exact absurd c_1217 (by omega)
                refine lp_1184 (((z_1112 - 0 : Int)).toNat + 1) 0 (by omega) (by omega) _ (lv_sub hl [2, 3, 4, 5, 6, 7, 1, 0] rfl)
              · exact absurd c_1176 (by omega)
