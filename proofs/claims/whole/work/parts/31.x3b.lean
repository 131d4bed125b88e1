abbrev rX3_differentRows : Room := { frames := 2, cells := 0, slots := 0, locals := 47 }
set_option maxHeartbeats 4000000 in
set_option maxRecDepth 100000 in
theorem c_X3_differentRows (l : Launch) (E : kE) (hE : kInj E) (M : kM) (h : Int) (hh : 0 ≤ h ∧ h < 2) (hW : kWm M) : kRW l yX3_differentRows wsX3_differentRows rX3_differentRows E M [.ref (E.2.2 11), .int (zI h)] (fun z N => kF 18 58 M N ∧ z = kSum (kDr (M (13 + h)) (M 15 h)) (M 15 h).toNat ∧ 0 ≤ z ∧ z ≤ 1600) := by
  refine kRW_of (cc := cX3_differentRows) (maxL := 4) (rt := .int) RX3 (by decide) rfl rfl (Nat.le_of_ble_eq_true rfl) k_nariW ?_
  intro pg en s0 mi ar bl me co ls Q S hP hS hK ends hl
  have hx := S.1
  have hb := S.2.1
  have hinX30 : ∀ w ∈ wsX30, w ∈ wsX3_differentRows := fun w h => List.mem_cons_of_mem _ (List.mem_append_right _ (h))
  have hl : lv_has ls 4 [(0, .ref (E.2.2 11)), (1, .int (zI h))] := hl
  obtain ⟨hWh, hs0, hs1, hsv⟩ := id hW
  obtain ⟨hn0, hn1, hv⟩ := hWh h hh
  refine lv_aload_n hx hb dX3_differentRows_0 rfl (lv_at hl 0 rfl) ?_
  refine lv_iload_n hx hb dX3_differentRows_1 rfl (lv_at hl 1 rfl) ?_
  refine k_callVV (As := [.int (zI h)]) (rest := []) S hK hP hS (c_X3_look l E hE M h (by omega) (by assumption)) (cwV 1 S.2.2.2.2 gX3_differentRows_X3_look rfl rfl rfl (by decide +kernel) ⟨Nat.le_of_ble_eq_true rfl, Nat.le_of_ble_eq_true rfl⟩) (k_rY hK hP rfl) rfl hl.1 rfl (Nat.le_of_ble_eq_true rfl) dX3_differentRows_2 ⟨Nat.le_of_ble_eq_true rfl, Nat.le_of_ble_eq_true rfl⟩ (fun M_2 H locs h_2 hP hS => ?_)
  obtain ⟨hF, hSm⟩ := h_2
  have hW2 : kWm M_2 := kWm_F hW hF (by omega)
  have eqn : M_2 15 h = M 15 h := hF 15 h (by omega)
  have eqx : M_2 (13 + h) = M (13 + h) := kF_row hF (by omega)
  refine k_push hx hb dX3_differentRows_5 ?_
  refine lv_istore_n (lv' := [(2, .int (zI 0)), (0, .ref (E.2.2 11)), (1, .int (zI h))]) hx hb dX3_differentRows_6 rfl hl (by decide) rfl (fun ls hl => ?_)
  refine k_push hx hb dX3_differentRows_7 ?_
  refine lv_istore_n (lv' := [(3, .int (zI 0)), (2, .int (zI 0)), (0, .ref (E.2.2 11)), (1, .int (zI h))]) hx hb dX3_differentRows_8 rfl hl (by decide) rfl (fun ls hl => ?_)
  have lp_9 : ∀ (n_9 : Nat) (sm : Int) (a : Int), (0 ≤ a ∧ a ≤ M 15 h ∧ 0 ≤ sm ∧ sm ≤ 40 * a) → (sm = kSum (kDr (M (13 + h)) (M 15 h)) a.toNat) → (M 15 h - a < (n_9 : Int)) → ∀ ls : Array Slot, lv_has ls 4 [(0, .ref (E.2.2 11)), (1, .int (zI h)), (2, .int (zI sm)), (3, .int (zI a))] → W pg l en rX3_differentRows s0 mi ar bl me co H locs 0 0 Q (F0 mi 9 ls []) := by
    intro n_9
    induction n_9 with
    | zero => intro sm a h1 h2 hm_9; exfalso; omega
    | succ n_9 ih_9 =>
      intro sm a h1 h2 hm_9 ls hl
      refine lv_iload_n hx hb dX3_differentRows_9 rfl (lv_at hl 3 rfl) ?_
      refine lv_aload_n hx hb dX3_differentRows_10 rfl (lv_at hl 0 rfl) ?_
      refine k_mod S hK hP hinX30 2 (by decide) (S.2.2.2.2 _ (List.mem_cons_of_mem _ (List.mem_append_left _ (List.mem_of_getElem? (i := 0) rfl)))) dX3_differentRows_11 rfl (.ref (E.2.2 15)) rfl rfl ?_
      refine lv_iload_n hx hb dX3_differentRows_14 rfl (lv_at hl 1 rfl) ?_
      refine k_ald S hK hP 2 (by unfold kArr; omega) (by omega) dX3_differentRows_15 ?_
      refine k_ge (tgt := 42) hx hb dX3_differentRows_16 (by decide) (by omega) (fun c_16 => ?_) (fun c_16 => ?_)
      · skip
        refine lv_iload_n hx hb dX3_differentRows_42 rfl (lv_at hl 2 rfl) ?_
        refine ends _ _ (sm) M_2 _ _ dX3_differentRows_43 hP hS ?_
        refine ⟨hF, ?_, by omega, by omega⟩
        rw [h2, show a = M 15 h by omega]
      · skip
        refine lv_iload_n hx hb dX3_differentRows_19 rfl (lv_at hl 2 rfl) ?_
        refine lv_aload_n hx hb dX3_differentRows_20 rfl (lv_at hl 0 rfl) ?_
        refine k_mod S hK hP hinX30 2 (by decide) (S.2.2.2.2 _ (List.mem_cons_of_mem _ (List.mem_append_left _ (List.mem_of_getElem? (i := 0) rfl)))) dX3_differentRows_21 rfl (.ref (E.2.2 15)) rfl rfl ?_
        refine lv_iload_n hx hb dX3_differentRows_24 rfl (lv_at hl 1 rfl) ?_
        refine k_ald S hK hP 2 (by unfold kArr; omega) (by omega) dX3_differentRows_25 ?_
        refine lv_iload_n hx hb dX3_differentRows_26 rfl (lv_at hl 3 rfl) ?_
        refine k_sub hx hb dX3_differentRows_27 ?_
        refine lv_aload_n hx hb dX3_differentRows_28 rfl (lv_at hl 0 rfl) ?_
        refine lv_iload_n hx hb dX3_differentRows_29 rfl (lv_at hl 3 rfl) ?_
        refine k_callV (As := [.int (zI a)]) (rest := [.int (zI ((M_2 15 h) - a)), .int (zI sm)]) S hK hP (c_X3_mostBefore l E M_2 a (by omega) (by intro b b1 b2; rw [hSm a b (by omega) (by omega) b1 (by omega)]; have := kL_rng (x := M_2 (13 + h)) (y := M_2 (13 + h)) (nx := M_2 15 h) (ny := M_2 15 h) (a := a) (b := b) (by omega) (by omega); omega)) (cwV 1 S.2.2.2.2 gX3_differentRows_X3_mostBefore rfl rfl rfl (by decide +kernel) ⟨Nat.le_of_ble_eq_true rfl, Nat.le_of_ble_eq_true rfl⟩) (k_rY hK hP rfl) rfl hl.1 rfl (Nat.le_of_ble_eq_true rfl) dX3_differentRows_30 ⟨Nat.le_of_ble_eq_true rfl, Nat.le_of_ble_eq_true rfl⟩ (fun z_30 h_30 => ?_)
        have q30 : z_30 = kMb (M (13 + h)) (M 15 h) a := by
          rw [h_30.1]
          refine kMaxF_congr _ (fun b b1 b2 => ?_)
          rw [hSm a b (by omega) (by omega) b1 (by omega), eqn, eqx]
        have q31 := kMb_rng (x := M (13 + h)) (n := M 15 h) (a := a) (by omega)
        refine k_sub hx hb dX3_differentRows_33 ?_
        refine k_add hx hb dX3_differentRows_34 ?_
        refine k_nm (fun v2_35 ev2_35 => ?_)
        refine lv_istore_n (lv' := [(2, .int (zI v2_35)), (0, .ref (E.2.2 11)), (1, .int (zI h)), (3, .int (zI a))]) hx hb dX3_differentRows_35 rfl hl (by decide) rfl (fun ls hl => ?_)
        obtain ⟨v3_36, ev3_36⟩ : ∃ v : Int, v = a + 1 := ⟨_, rfl⟩
        refine k_incN (v := v3_36) (lv' := [(3, .int (zI v3_36)), (2, .int (zI v2_35)), (0, .ref (E.2.2 11)), (1, .int (zI h))]) hx hb dX3_differentRows_36 hl (k := 3) rfl ev3_36 (by decide) rfl (fun ls hl => ?_)
        refine lv_goto (tgt := 9) hx hb dX3_differentRows_39 (by decide) ?_
        refine ih_9 v2_35 v3_36 (by omega) ?_ (by omega) _ (lv_sub hl [2, 3, 1, 0] rfl)
        · subst ev3_36
          rw [kSum_step _ (by omega), ← h2]
          unfold kDr
          omega
  refine lp_9 ((M 15 h - 0).toNat + 1) 0 0 (by omega) (by rfl) (by omega) _ (lv_sub hl [2, 3, 1, 0] rfl)
abbrev rX3_repeatTold : Room := { frames := 2, cells := 0, slots := 0, locals := 50 }
set_option maxHeartbeats 4000000 in
set_option maxRecDepth 100000 in
theorem c_X3_repeatTold (l : Launch) (E : kE) (hE : kInj E) (M : kM) (h w : Int) (hh : 0 ≤ h ∧ h < 2) (hW : kWm M) (hw : 0 ≤ w ∧ w ≤ 2) : kRW l yX3_repeatTold wsX3_repeatTold rX3_repeatTold E M [.ref (E.2.2 11), .int (zI h), .int (zI w)] (fun z N => kF 18 58 M N ∧ kIsRep (M (13 + h)) (M 15 h) w z ∧ -1 ≤ z ∧ z ≤ 40) := by
  refine kRW_of (cc := cX3_repeatTold) (maxL := 7) (rt := .int) RX3 (by decide) rfl rfl (Nat.le_of_ble_eq_true rfl) k_nariW ?_
  intro pg en s0 mi ar bl me co ls Q S hP hS hK ends hl
  have hx := S.1
  have hb := S.2.1
  have hinX30 : ∀ w ∈ wsX30, w ∈ wsX3_repeatTold := fun w h => List.mem_cons_of_mem _ (List.mem_append_right _ (h))
  have hl : lv_has ls 7 [(0, .ref (E.2.2 11)), (1, .int (zI h)), (2, .int (zI w))] := hl
  obtain ⟨hWh, hs0, hs1, hsv⟩ := id hW
  obtain ⟨hn0, hn1, hv⟩ := hWh h hh
  refine lv_aload_n hx hb dX3_repeatTold_0 rfl (lv_at hl 0 rfl) ?_
  refine lv_iload_n hx hb dX3_repeatTold_1 rfl (lv_at hl 1 rfl) ?_
  refine k_callVV (As := [.int (zI h)]) (rest := []) S hK hP hS (c_X3_look l E hE M h (by omega) (by assumption)) (cwV 1 S.2.2.2.2 gX3_repeatTold_X3_look rfl rfl rfl (by decide +kernel) ⟨Nat.le_of_ble_eq_true rfl, Nat.le_of_ble_eq_true rfl⟩) (k_rY hK hP rfl) rfl hl.1 rfl (Nat.le_of_ble_eq_true rfl) dX3_repeatTold_2 ⟨Nat.le_of_ble_eq_true rfl, Nat.le_of_ble_eq_true rfl⟩ (fun M_2 H locs h_2 hP hS => ?_)
  obtain ⟨hF, hSm⟩ := h_2
  have hW2 : kWm M_2 := kWm_F hW hF (by omega)
  have eqn : M_2 15 h = M 15 h := hF 15 h (by omega)
  have eqx : M_2 (13 + h) = M (13 + h) := kF_row hF (by omega)
  refine k_push hx hb dX3_repeatTold_5 ?_
  refine lv_istore_n (lv' := [(3, .int (zI (-1))), (0, .ref (E.2.2 11)), (1, .int (zI h)), (2, .int (zI w))]) hx hb dX3_repeatTold_6 rfl hl (by decide) rfl (fun ls hl => ?_)
  refine k_push hx hb dX3_repeatTold_7 ?_
  refine lv_istore (lv' := [(4, .int (zI 0)), (3, .int (zI (-1))), (0, .ref (E.2.2 11)), (1, .int (zI h)), (2, .int (zI w))]) hx hb dX3_repeatTold_8 hl (by decide) rfl (fun ls hl => ?_)
  refine k_push hx hb dX3_repeatTold_10 ?_
  refine lv_istore (lv' := [(5, .int (zI 0)), (4, .int (zI 0)), (3, .int (zI (-1))), (0, .ref (E.2.2 11)), (1, .int (zI h)), (2, .int (zI w))]) hx hb dX3_repeatTold_11 hl (by decide) rfl (fun ls hl => ?_)
  have lp_13 : ∀ (n_13 : Nat) (b : Int) (k : Int) (a : Int), (0 ≤ a ∧ a ≤ M 15 h ∧ 0 ≤ k ∧ k ≤ 40 ∧ -1 ≤ b ∧ b ≤ 40) → (kTop (kMbs (M (13 + h)) (M 15 h)) (M (13 + h)) (M 15 h) a b k) → (M 15 h - a < (n_13 : Int)) → ∀ ls : Array Slot, lv_has ls 7 [(0, .ref (E.2.2 11)), (1, .int (zI h)), (2, .int (zI w)), (3, .int (zI b)), (4, .int (zI k)), (5, .int (zI a))] → W pg l en rX3_repeatTold s0 mi ar bl me co H locs 0 0 Q (F0 mi 13 ls []) := by
    intro n_13
    induction n_13 with
    | zero => intro b k a h1 h2 hm_13; exfalso; omega
    | succ n_13 ih_13 =>
      intro b k a h1 h2 hm_13 ls hl
      refine lv_iload hx hb dX3_repeatTold_13 (lv_at hl 5 rfl) ?_
      refine lv_aload_n hx hb dX3_repeatTold_15 rfl (lv_at hl 0 rfl) ?_
      refine k_mod S hK hP hinX30 2 (by decide) (S.2.2.2.2 _ (List.mem_cons_of_mem _ (List.mem_append_left _ (List.mem_append_left _ (List.mem_of_getElem? (i := 0) rfl))))) dX3_repeatTold_16 rfl (.ref (E.2.2 15)) rfl rfl ?_
      refine lv_iload_n hx hb dX3_repeatTold_19 rfl (lv_at hl 1 rfl) ?_
      refine k_ald S hK hP 2 (by unfold kArr; omega) (by omega) dX3_repeatTold_20 ?_
      refine k_ge (tgt := 96) hx hb dX3_repeatTold_21 (by decide) (by omega) (fun c_21 => ?_) (fun c_21 => ?_)
      · skip
        refine lv_iload_n hx hb dX3_repeatTold_96 rfl (lv_at hl 2 rfl) ?_
        refine k_ne0 (tgt := 103) hx hb dX3_repeatTold_97 (by decide) (by omega) (fun c_97 => ?_) (fun c_97 => ?_)
        · skip
          refine lv_iload_n hx hb dX3_repeatTold_103 rfl (lv_at hl 2 rfl) ?_
          refine k_push hx hb dX3_repeatTold_104 ?_
          refine k_ne (tgt := 112) hx hb dX3_repeatTold_105 (by decide) (by omega) (fun c_105 => ?_) (fun c_105 => ?_)
          · skip
            refine lv_iload_n hx hb dX3_repeatTold_112 rfl (lv_at hl 3 rfl) ?_
            refine k_push hx hb dX3_repeatTold_113 ?_
            refine k_ne (tgt := 121) hx hb dX3_repeatTold_114 (by decide) (by omega) (fun c_114 => ?_) (fun c_114 => ?_)
            · skip
              refine lv_aload_n hx hb dX3_repeatTold_121 rfl (lv_at hl 0 rfl) ?_
              refine lv_iload_n hx hb dX3_repeatTold_122 rfl (lv_at hl 1 rfl) ?_
              refine lv_iload_n hx hb dX3_repeatTold_123 rfl (lv_at hl 3 rfl) ?_
              refine lv_iload hx hb dX3_repeatTold_124 (lv_at hl 4 rfl) ?_
              have q125 : 0 ≤ b ∧ b < a := by rcases h2 with ⟨q, q2, -⟩ | ⟨q, q2, -⟩ <;> omega
              refine k_callV (As := [.int (zI h), .int (zI b), .int (zI k)]) (rest := []) S hK hP (c_X3_placesOf l E M_2 h b k (by omega) (by assumption) (by omega) (by intro c c1 c2; rw [hSm c b c1 (by omega) (by omega) (by omega)]; have := kL_rng (x := M_2 (13 + h)) (y := M_2 (13 + h)) (nx := M_2 15 h) (ny := M_2 15 h) (a := c) (b := b) (by omega) (by omega); omega)) (cwV 3 S.2.2.2.2 gX3_repeatTold_X3_placesOf rfl rfl rfl (by decide +kernel) ⟨Nat.le_of_ble_eq_true rfl, Nat.le_of_ble_eq_true rfl⟩) (k_rY hK hP rfl) rfl hl.1 rfl (Nat.le_of_ble_eq_true rfl) dX3_repeatTold_126 ⟨Nat.le_of_ble_eq_true rfl, Nat.le_of_ble_eq_true rfl⟩ (fun z_126 h_126 => ?_)
              have q126 : z_126 = kCnt (fun c => k ≤ kL (M (13 + h)) (M 15 h) c (M (13 + h)) (M 15 h) b) (M 15 h).toNat := by
                rw [h_126.1, eqn]
                refine kCnt_congr _ (fun c c1 c2 => ?_)
                rw [hSm c b c1 (by omega) (by omega) (by omega), eqn, eqx]
              refine ends _ _ (z_126) M_2 _ _ dX3_repeatTold_129 hP hS ?_
              rw [show a = M 15 h by omega] at h2
              first
                | exact ⟨hF, ⟨b, k, h2, Or.inr (Or.inl ⟨by omega, rfl⟩)⟩, by omega, by omega⟩
                | exact ⟨hF, ⟨b, k, h2, Or.inr (Or.inr ⟨by omega, by omega, Or.inl ⟨by omega, rfl⟩⟩)⟩, by omega, by omega⟩
                | exact ⟨hF, ⟨b, k, h2, Or.inr (Or.inr ⟨by omega, by omega, Or.inr ⟨by omega, q126⟩⟩)⟩, by omega, by omega⟩
            · skip
              refine k_push hx hb dX3_repeatTold_117 ?_
              refine lv_goto (tgt := 129) hx hb dX3_repeatTold_118 (by decide) ?_
              refine ends _ _ (0) M_2 _ _ dX3_repeatTold_129 hP hS ?_
              rw [show a = M 15 h by omega] at h2
              first
                | exact ⟨hF, ⟨b, k, h2, Or.inr (Or.inl ⟨by omega, rfl⟩)⟩, by omega, by omega⟩
                | exact ⟨hF, ⟨b, k, h2, Or.inr (Or.inr ⟨by omega, by omega, Or.inl ⟨by omega, rfl⟩⟩)⟩, by omega, by omega⟩
                | exact ⟨hF, ⟨b, k, h2, Or.inr (Or.inr ⟨by omega, by omega, Or.inr ⟨by omega, q126⟩⟩)⟩, by omega, by omega⟩
          · skip
            refine lv_iload_n hx hb dX3_repeatTold_108 rfl (lv_at hl 3 rfl) ?_
            refine lv_goto (tgt := 129) hx hb dX3_repeatTold_109 (by decide) ?_
            refine ends _ _ (b) M_2 _ _ dX3_repeatTold_129 hP hS ?_
            rw [show a = M 15 h by omega] at h2
            first
              | exact ⟨hF, ⟨b, k, h2, Or.inr (Or.inl ⟨by omega, rfl⟩)⟩, by omega, by omega⟩
              | exact ⟨hF, ⟨b, k, h2, Or.inr (Or.inr ⟨by omega, by omega, Or.inl ⟨by omega, rfl⟩⟩)⟩, by omega, by omega⟩
              | exact ⟨hF, ⟨b, k, h2, Or.inr (Or.inr ⟨by omega, by omega, Or.inr ⟨by omega, q126⟩⟩)⟩, by omega, by omega⟩
        · skip
          refine lv_iload hx hb dX3_repeatTold_100 (lv_at hl 4 rfl) ?_
          refine ends _ _ (k) M_2 _ _ dX3_repeatTold_102 hP hS ?_
          exact ⟨hF, ⟨b, k, by rw [show a = M 15 h by omega] at h2; exact h2, Or.inl ⟨by omega, rfl⟩⟩, by omega, by omega⟩
      · skip
        refine lv_aload_n hx hb dX3_repeatTold_24 rfl (lv_at hl 0 rfl) ?_
        refine lv_iload_n hx hb dX3_repeatTold_25 rfl (lv_at hl 1 rfl) ?_
        refine lv_iload hx hb dX3_repeatTold_26 (lv_at hl 5 rfl) ?_
        refine k_callV (As := [.int (zI h), .int (zI a)]) (rest := []) S hK hP (c_X3_mostBeside l E M_2 h a (by omega) (by assumption) (by omega) (by intro b b1 b2; rw [hSm a b (by omega) (by omega) b1 (by omega)]; have := kL_rng (x := M_2 (13 + h)) (y := M_2 (13 + h)) (nx := M_2 15 h) (ny := M_2 15 h) (a := a) (b := b) (by omega) (by omega); omega)) (cwV 2 S.2.2.2.2 gX3_repeatTold_X3_mostBeside rfl rfl rfl (by decide +kernel) ⟨Nat.le_of_ble_eq_true rfl, Nat.le_of_ble_eq_true rfl⟩) (k_rY hK hP rfl) rfl hl.1 rfl (Nat.le_of_ble_eq_true rfl) dX3_repeatTold_28 ⟨Nat.le_of_ble_eq_true rfl, Nat.le_of_ble_eq_true rfl⟩ (fun z_28 h_28 => ?_)
        have q28 : z_28 = kMbs (M (13 + h)) (M 15 h) a := by
          rw [h_28.1]; unfold kMbs; rw [eqn]
          refine kMaxF_congr _ (fun b b1 b2 => ?_)
          split
          · rfl
          · rw [hSm a b (by omega) (by omega) b1 (by omega), eqn, eqx]
        have q29 := kMbs_rng (x := M (13 + h)) (n := M 15 h) (a := a) (by omega)
        refine lv_istore (lv' := [(6, .int (zI z_28)), (0, .ref (E.2.2 11)), (1, .int (zI h)), (2, .int (zI w)), (3, .int (zI b)), (4, .int (zI k)), (5, .int (zI a))]) hx hb dX3_repeatTold_31 hl (by decide) rfl (fun ls hl => ?_)
        refine lv_iload hx hb dX3_repeatTold_33 (lv_at hl 0 rfl) ?_
        refine lv_iload hx hb dX3_repeatTold_35 (lv_at hl 5 rfl) ?_
        refine k_lt (tgt := 90) hx hb dX3_repeatTold_37 (by decide) (by omega) (fun c_37 => ?_) (fun c_37 => ?_)
        · skip
          obtain ⟨v5_90, ev5_90⟩ : ∃ v : Int, v = a + 1 := ⟨_, rfl⟩
          refine k_incN (v := v5_90) (lv' := [(5, .int (zI v5_90)), (6, .int (zI z_28)), (0, .ref (E.2.2 11)), (1, .int (zI h)), (2, .int (zI w)), (3, .int (zI b)), (4, .int (zI k))]) hx hb dX3_repeatTold_90 hl (k := 6) rfl ev5_90 (by decide) rfl (fun ls hl => ?_)
          refine lv_goto (tgt := 13) hx hb dX3_repeatTold_93 (by decide) ?_
          refine ih_13 b k v5_90 (by omega) ?_ (by omega) _ (lv_sub hl [2, 3, 4, 5, 6, 0] rfl)
          · subst ev5_90
            first
              | exact kTop_skip h2 (by omega)
              | (rw [q28]; exact kTop_new h2 (by omega) q29.2 (by omega))
              | exact kTop_eq1 h2 (by omega) (by omega)
              | exact kTop_eq2 h2 (by omega) (by omega) (by omega) (h_74.resolve_left (fun q => by omega)).2
              | (rw [q28]; exact kTop_eq3 h2 (by omega) q29.2 (by omega) (by omega) (by omega) (h_74.resolve_right (fun q => by omega)).2)
        · skip
          refine lv_iload hx hb dX3_repeatTold_40 (lv_at hl 0 rfl) ?_
          refine k_ne0 (tgt := 48) hx hb dX3_repeatTold_42 (by decide) (by omega) (fun c_42 => ?_) (fun c_42 => ?_)
          · skip
            refine lv_iload hx hb dX3_repeatTold_48 (lv_at hl 0 rfl) ?_
            refine lv_iload hx hb dX3_repeatTold_50 (lv_at hl 5 rfl) ?_
            refine k_ne (tgt := 83) hx hb dX3_repeatTold_52 (by decide) (by omega) (fun c_52 => ?_) (fun c_52 => ?_)
            · skip
              refine lv_iload hx hb dX3_repeatTold_83 (lv_at hl 6 rfl) ?_
              refine lv_istore_n (lv' := [(3, .int (zI a)), (6, .int (zI z_28)), (0, .ref (E.2.2 11)), (1, .int (zI h)), (2, .int (zI w)), (4, .int (zI k)), (5, .int (zI a))]) hx hb dX3_repeatTold_85 rfl hl (by decide) rfl (fun ls hl => ?_)
              refine lv_iload hx hb dX3_repeatTold_86 (lv_at hl 1 rfl) ?_
              refine lv_istore (lv' := [(4, .int (zI z_28)), (3, .int (zI a)), (6, .int (zI z_28)), (0, .ref (E.2.2 11)), (1, .int (zI h)), (2, .int (zI w)), (5, .int (zI a))]) hx hb dX3_repeatTold_88 hl (by decide) rfl (fun ls hl => ?_)
              obtain ⟨v5_90, ev5_90⟩ : ∃ v : Int, v = a + 1 := ⟨_, rfl⟩
              refine k_incN (v := v5_90) (lv' := [(5, .int (zI v5_90)), (4, .int (zI z_28)), (3, .int (zI a)), (6, .int (zI z_28)), (0, .ref (E.2.2 11)), (1, .int (zI h)), (2, .int (zI w))]) hx hb dX3_repeatTold_90 hl (k := 6) rfl ev5_90 (by decide) rfl (fun ls hl => ?_)
              refine lv_goto (tgt := 13) hx hb dX3_repeatTold_93 (by decide) ?_
              refine ih_13 a z_28 v5_90 (by omega) ?_ (by omega) _ (lv_sub hl [4, 5, 6, 2, 1, 0] rfl)
              · subst ev5_90
                first
                  | exact kTop_skip h2 (by omega)
                  | (rw [q28]; exact kTop_new h2 (by omega) q29.2 (by omega))
                  | exact kTop_eq1 h2 (by omega) (by omega)
                  | exact kTop_eq2 h2 (by omega) (by omega) (by omega) (h_74.resolve_left (fun q => by omega)).2
                  | (rw [q28]; exact kTop_eq3 h2 (by omega) q29.2 (by omega) (by omega) (by omega) (h_74.resolve_right (fun q => by omega)).2)
            · skip
              refine lv_aload_n hx hb dX3_repeatTold_55 rfl (lv_at hl 1 rfl) ?_
              refine k_mod S hK hP hinX30 5 (by decide) (S.2.2.2.2 _ (List.mem_cons_of_mem _ (List.mem_append_left _ (List.mem_append_left _ (List.mem_of_getElem? (i := 1) rfl))))) dX3_repeatTold_56 rfl (.ref (E.2.2 17)) rfl rfl ?_
              refine lv_iload hx hb dX3_repeatTold_59 (lv_at hl 6 rfl) ?_
              refine k_aald S hK hP (18 + a) 41 (by unfold kRow; omega) dX3_repeatTold_61 ?_
              refine lv_iload_n hx hb dX3_repeatTold_62 rfl (lv_at hl 4 rfl) ?_
              have q62 : 0 ≤ b ∧ b < a := by rcases h2 with ⟨q, q2, -⟩ | ⟨q, q2, -⟩ <;> omega
              refine k_ald S hK hP 41 (by unfold kArr; omega) (by omega) dX3_repeatTold_63 ?_
              have q63 : 0 ≤ b ∧ b < a := by rcases h2 with ⟨q, q2, -⟩ | ⟨q, q2, -⟩ <;> omega
              have q64 : M_2 (18 + a) b = kL (M (13 + h)) (M 15 h) a (M (13 + h)) (M 15 h) b := by rw [hSm a b (by omega) (by omega) (by omega) (by omega), eqn, eqx]
              have q65 := kL_rng (x := M (13 + h)) (y := M (13 + h)) (nx := M 15 h) (ny := M 15 h) (a := a) (b := b) (by omega) (by omega)
              refine lv_iload hx hb dX3_repeatTold_64 (lv_at hl 5 rfl) ?_
              refine k_ge (tgt := 90) hx hb dX3_repeatTold_66 (by decide) (by omega) (fun c_66 => ?_) (fun c_66 => ?_)
              · skip
                obtain ⟨v5_90, ev5_90⟩ : ∃ v : Int, v = a + 1 := ⟨_, rfl⟩
                refine k_incN (v := v5_90) (lv' := [(5, .int (zI v5_90)), (6, .int (zI z_28)), (0, .ref (E.2.2 11)), (1, .int (zI h)), (2, .int (zI w)), (3, .int (zI b)), (4, .int (zI k))]) hx hb dX3_repeatTold_90 hl (k := 6) rfl ev5_90 (by decide) rfl (fun ls hl => ?_)
                refine lv_goto (tgt := 13) hx hb dX3_repeatTold_93 (by decide) ?_
                refine ih_13 b k v5_90 (by omega) ?_ (by omega) _ (lv_sub hl [2, 3, 4, 5, 6, 0] rfl)
                · subst ev5_90
                  first
                    | exact kTop_skip h2 (by omega)
                    | (rw [q28]; exact kTop_new h2 (by omega) q29.2 (by omega))
                    | exact kTop_eq1 h2 (by omega) (by omega)
                    | exact kTop_eq2 h2 (by omega) (by omega) (by omega) (h_74.resolve_left (fun q => by omega)).2
                    | (rw [q28]; exact kTop_eq3 h2 (by omega) q29.2 (by omega) (by omega) (by omega) (h_74.resolve_right (fun q => by omega)).2)
              · skip
                refine lv_aload_n hx hb dX3_repeatTold_69 rfl (lv_at hl 1 rfl) ?_
                refine lv_iload_n hx hb dX3_repeatTold_70 rfl (lv_at hl 2 rfl) ?_
                refine lv_iload hx hb dX3_repeatTold_71 (lv_at hl 6 rfl) ?_
                refine lv_iload_n hx hb dX3_repeatTold_73 rfl (lv_at hl 4 rfl) ?_
                refine k_callV (As := [.int (zI h), .int (zI a), .int (zI b)]) (rest := []) S hK hP (c_X3_isLess l E M_2 h a b (by omega) (by assumption) (by assumption) (by omega)) (cwV 3 S.2.2.2.2 gX3_repeatTold_X3_isLess rfl rfl rfl (by decide +kernel) ⟨Nat.le_of_ble_eq_true rfl, Nat.le_of_ble_eq_true rfl⟩) (k_rY hK hP rfl) rfl hl.1 rfl (Nat.le_of_ble_eq_true rfl) dX3_repeatTold_74 ⟨Nat.le_of_ble_eq_true rfl, Nat.le_of_ble_eq_true rfl⟩ (fun z_74 h_74 => ?_)
                rw [eqn, eqx] at h_74
                refine k_ne0 (tgt := 83) hx hb dX3_repeatTold_77 (by decide) (by omega) (fun c_77 => ?_) (fun c_77 => ?_)
                · skip
                  refine lv_iload hx hb dX3_repeatTold_83 (lv_at hl 6 rfl) ?_
                  refine lv_istore_n (lv' := [(3, .int (zI a)), (6, .int (zI z_28)), (0, .ref (E.2.2 11)), (1, .int (zI h)), (2, .int (zI w)), (4, .int (zI k)), (5, .int (zI a))]) hx hb dX3_repeatTold_85 rfl hl (by decide) rfl (fun ls hl => ?_)
                  refine lv_iload hx hb dX3_repeatTold_86 (lv_at hl 1 rfl) ?_
                  refine lv_istore (lv' := [(4, .int (zI z_28)), (3, .int (zI a)), (6, .int (zI z_28)), (0, .ref (E.2.2 11)), (1, .int (zI h)), (2, .int (zI w)), (5, .int (zI a))]) hx hb dX3_repeatTold_88 hl (by decide) rfl (fun ls hl => ?_)
                  obtain ⟨v5_90, ev5_90⟩ : ∃ v : Int, v = a + 1 := ⟨_, rfl⟩
                  refine k_incN (v := v5_90) (lv' := [(5, .int (zI v5_90)), (4, .int (zI z_28)), (3, .int (zI a)), (6, .int (zI z_28)), (0, .ref (E.2.2 11)), (1, .int (zI h)), (2, .int (zI w))]) hx hb dX3_repeatTold_90 hl (k := 6) rfl ev5_90 (by decide) rfl (fun ls hl => ?_)
                  refine lv_goto (tgt := 13) hx hb dX3_repeatTold_93 (by decide) ?_
                  refine ih_13 a z_28 v5_90 (by omega) ?_ (by omega) _ (lv_sub hl [4, 5, 6, 2, 1, 0] rfl)
                  · subst ev5_90
                    first
                      | exact kTop_skip h2 (by omega)
                      | (rw [q28]; exact kTop_new h2 (by omega) q29.2 (by omega))
                      | exact kTop_eq1 h2 (by omega) (by omega)
                      | exact kTop_eq2 h2 (by omega) (by omega) (by omega) (h_74.resolve_left (fun q => by omega)).2
                      | (rw [q28]; exact kTop_eq3 h2 (by omega) q29.2 (by omega) (by omega) (by omega) (h_74.resolve_right (fun q => by omega)).2)
                · skip
                  refine lv_goto (tgt := 90) hx hb dX3_repeatTold_80 (by decide) ?_
                  obtain ⟨v5_90, ev5_90⟩ : ∃ v : Int, v = a + 1 := ⟨_, rfl⟩
                  refine k_incN (v := v5_90) (lv' := [(5, .int (zI v5_90)), (6, .int (zI z_28)), (0, .ref (E.2.2 11)), (1, .int (zI h)), (2, .int (zI w)), (3, .int (zI b)), (4, .int (zI k))]) hx hb dX3_repeatTold_90 hl (k := 6) rfl ev5_90 (by decide) rfl (fun ls hl => ?_)
                  refine lv_goto (tgt := 13) hx hb dX3_repeatTold_93 (by decide) ?_
                  refine ih_13 b k v5_90 (by omega) ?_ (by omega) _ (lv_sub hl [2, 3, 4, 5, 6, 0] rfl)
                  · subst ev5_90
                    first
                      | exact kTop_skip h2 (by omega)
                      | (rw [q28]; exact kTop_new h2 (by omega) q29.2 (by omega))
                      | exact kTop_eq1 h2 (by omega) (by omega)
                      | exact kTop_eq2 h2 (by omega) (by omega) (by omega) (h_74.resolve_left (fun q => by omega)).2
                      | (rw [q28]; exact kTop_eq3 h2 (by omega) q29.2 (by omega) (by omega) (by omega) (h_74.resolve_right (fun q => by omega)).2)
          · skip
            refine lv_goto (tgt := 90) hx hb dX3_repeatTold_45 (by decide) ?_
            obtain ⟨v5_90, ev5_90⟩ : ∃ v : Int, v = a + 1 := ⟨_, rfl⟩
            refine k_incN (v := v5_90) (lv' := [(5, .int (zI v5_90)), (6, .int (zI z_28)), (0, .ref (E.2.2 11)), (1, .int (zI h)), (2, .int (zI w)), (3, .int (zI b)), (4, .int (zI k))]) hx hb dX3_repeatTold_90 hl (k := 6) rfl ev5_90 (by decide) rfl (fun ls hl => ?_)
            refine lv_goto (tgt := 13) hx hb dX3_repeatTold_93 (by decide) ?_
            refine ih_13 b k v5_90 (by omega) ?_ (by omega) _ (lv_sub hl [2, 3, 4, 5, 6, 0] rfl)
            · subst ev5_90
              first
                | exact kTop_skip h2 (by omega)
                | (rw [q28]; exact kTop_new h2 (by omega) q29.2 (by omega))
                | exact kTop_eq1 h2 (by omega) (by omega)
                | exact kTop_eq2 h2 (by omega) (by omega) (by omega) (h_74.resolve_left (fun q => by omega)).2
                | (rw [q28]; exact kTop_eq3 h2 (by omega) q29.2 (by omega) (by omega) (by omega) (h_74.resolve_right (fun q => by omega)).2)
  refine lp_13 ((M 15 h - 0).toNat + 1) (-1) 0 0 (by omega) (by exact kTop_0 _ _ _) (by omega) _ (lv_sub hl [3, 4, 5, 2, 1, 0] rfl)
abbrev rX3_seamTold : Room := { frames := 2, cells := 0, slots := 0, locals := 50 }
set_option maxHeartbeats 4000000 in
set_option maxRecDepth 100000 in
theorem c_X3_seamTold (l : Launch) (E : kE) (hE : kInj E) (M : kM) (w : Int) (hW : kWm M) (hw : 0 ≤ w ∧ w ≤ 2) : kRW l yX3_seamTold wsX3_seamTold rX3_seamTold E M [.ref (E.2.2 11), .int (zI w)] (fun z N => kF 18 101 M N ∧ kIsSeam (M 13) (M 15 0) (M 14) (M 15 1) w z ∧ -1 ≤ z ∧ z ≤ 40) := by
  refine kRW_of (cc := cX3_seamTold) (maxL := 6) (rt := .int) RX3 (by decide) rfl rfl (Nat.le_of_ble_eq_true rfl) k_nariW ?_
  intro pg en s0 mi ar bl me co ls Q S hP hS hK ends hl
  have hx := S.1
  have hb := S.2.1
  have hinX30 : ∀ w ∈ wsX30, w ∈ wsX3_seamTold := fun w h => List.mem_cons_of_mem _ (List.mem_append_right _ (h))
  have hl : lv_has ls 6 [(0, .ref (E.2.2 11)), (1, .int (zI w))] := hl
  obtain ⟨hWh, hs0, hs1, hsv⟩ := id hW
  obtain ⟨hn0, hn1, hv⟩ := hWh 0 (by omega)
  obtain ⟨hm0, hm1, hw1⟩ := hWh 1 (by omega)
  refine lv_aload_n hx hb dX3_seamTold_0 rfl (lv_at hl 0 rfl) ?_
  refine k_push hx hb dX3_seamTold_1 ?_
  refine k_callVV (As := [.int (zI 0)]) (rest := []) S hK hP hS (c_X3_look l E hE M 0 (by omega) (by assumption)) (cwV 1 S.2.2.2.2 gX3_seamTold_X3_look rfl rfl rfl (by decide +kernel) ⟨Nat.le_of_ble_eq_true rfl, Nat.le_of_ble_eq_true rfl⟩) (k_rY hK hP rfl) rfl hl.1 rfl (Nat.le_of_ble_eq_true rfl) dX3_seamTold_2 ⟨Nat.le_of_ble_eq_true rfl, Nat.le_of_ble_eq_true rfl⟩ (fun M_2 H locs h_2 hP hS => ?_)
  obtain ⟨hF6, hSm6⟩ := h_2
  have en6 : M_2 15 0 = M 15 0 := hF6 15 0 (by omega)
  have hW6 : kWm M_2 := kWm_F hW hF6 (by omega)
  refine lv_aload_n hx hb dX3_seamTold_5 rfl (lv_at hl 0 rfl) ?_
  refine k_callVV (As := []) (rest := []) S hK hP hS (c_X3_lookAtBoth l E hE M_2  (by assumption)) (cwV 0 S.2.2.2.2 gX3_seamTold_X3_lookAtBoth rfl rfl rfl (by decide +kernel) ⟨Nat.le_of_ble_eq_true rfl, Nat.le_of_ble_eq_true rfl⟩) (k_rY hK hP rfl) rfl hl.1 rfl (Nat.le_of_ble_eq_true rfl) dX3_seamTold_6 ⟨Nat.le_of_ble_eq_true rfl, Nat.le_of_ble_eq_true rfl⟩ (fun M_6 H locs h_6 hP hS => ?_)
  obtain ⟨hF7, hB7⟩ := h_6
  have hW2 : kWm M_6 := kWm_F hW6 hF7 (by omega)
  have hF : kF 18 101 M M_6 := kF_trans (kF_mono hF6 (by omega)) (kF_mono hF7 (by omega))
  have eqn : M_6 15 0 = M 15 0 := hF 15 0 (by omega)
  have eqm : M_6 15 1 = M 15 1 := hF 15 1 (by omega)
  have eqx : M_6 13 = M 13 := kF_row hF (by omega)
  have eqy : M_6 14 = M 14 := kF_row hF (by omega)
  have hSm : kSame M_6 0 := by
    intro a b a1 a2 b1 b2
    rw [hF7 15 0 (by omega)] at a2 b2 ⊢
    rw [kF_row hF7 (c := 13 + 0) (by omega), hF7 (18 + a) b (by omega)]
    exact hSm6 a b a1 a2 b1 b2
  have hSa : ∀ a b : Int, 0 ≤ a → a ≤ M 15 0 → 0 ≤ b → b ≤ M 15 0 → M_6 (18 + a) b = kL (M 13) (M 15 0) a (M 13) (M 15 0) b := by
    intro a b a1 a2 b1 b2
    rw [← eqn] at a2 b2
    have := hSm a b a1 a2 b1 b2
    rw [show (13 : Int) + 0 = 13 by omega, eqn, eqx] at this
    exact this
  have hBo : ∀ a b : Int, 0 ≤ a → a ≤ M 15 0 → 0 ≤ b → b ≤ M 15 1 → M_6 (61 + a) b = kL (M 13) (M 15 0) a (M 14) (M 15 1) b := by
    intro a b a1 a2 b1 b2
    rw [hB7 a b a1 (by omega) b1 (by omega), eqn, eqm, eqx, eqy]
  refine k_push hx hb dX3_seamTold_9 ?_
  refine lv_istore_n (lv' := [(2, .int (zI (-1))), (0, .ref (E.2.2 11)), (1, .int (zI w))]) hx hb dX3_seamTold_10 rfl hl (by decide) rfl (fun ls hl => ?_)
  refine k_push hx hb dX3_seamTold_11 ?_
  refine lv_istore_n (lv' := [(3, .int (zI 0)), (2, .int (zI (-1))), (0, .ref (E.2.2 11)), (1, .int (zI w))]) hx hb dX3_seamTold_12 rfl hl (by decide) rfl (fun ls hl => ?_)
  refine k_push hx hb dX3_seamTold_13 ?_
  refine lv_istore (lv' := [(4, .int (zI 0)), (3, .int (zI 0)), (2, .int (zI (-1))), (0, .ref (E.2.2 11)), (1, .int (zI w))]) hx hb dX3_seamTold_14 hl (by decide) rfl (fun ls hl => ?_)
  have lp_16 : ∀ (n_16 : Nat) (b : Int) (k : Int) (a : Int), (0 ≤ a ∧ a ≤ M 15 0 ∧ 0 ≤ k ∧ k ≤ 40 ∧ -1 ≤ b ∧ b ≤ 40) → (kTop (kMac (M 13) (M 15 0) (M 14) (M 15 1)) (M 13) (M 15 0) a b k) → (M 15 0 - a < (n_16 : Int)) → ∀ ls : Array Slot, lv_has ls 6 [(0, .ref (E.2.2 11)), (1, .int (zI w)), (2, .int (zI b)), (3, .int (zI k)), (4, .int (zI a))] → W pg l en rX3_seamTold s0 mi ar bl me co H locs 0 0 Q (F0 mi 16 ls []) := by
    intro n_16
    induction n_16 with
    | zero => intro b k a h1 h2 hm_16; exfalso; omega
    | succ n_16 ih_16 =>
      intro b k a h1 h2 hm_16 ls hl
      refine lv_iload hx hb dX3_seamTold_16 (lv_at hl 4 rfl) ?_
      refine lv_aload_n hx hb dX3_seamTold_18 rfl (lv_at hl 0 rfl) ?_
      refine k_mod S hK hP hinX30 2 (by decide) (S.2.2.2.2 _ (List.mem_cons_of_mem _ (List.mem_append_left _ (List.mem_append_left _ (List.mem_of_getElem? (i := 0) rfl))))) dX3_seamTold_19 rfl (.ref (E.2.2 15)) rfl rfl ?_
      refine k_push hx hb dX3_seamTold_22 ?_
      refine k_ald S hK hP 2 (by unfold kArr; omega) (by omega) dX3_seamTold_23 ?_
      refine k_ge (tgt := 94) hx hb dX3_seamTold_24 (by decide) (by omega) (fun c_24 => ?_) (fun c_24 => ?_)
      · skip
        refine lv_iload_n hx hb dX3_seamTold_94 rfl (lv_at hl 1 rfl) ?_
        refine k_ne0 (tgt := 100) hx hb dX3_seamTold_95 (by decide) (by omega) (fun c_95 => ?_) (fun c_95 => ?_)
        · skip
          refine lv_iload_n hx hb dX3_seamTold_100 rfl (lv_at hl 1 rfl) ?_
          refine k_push hx hb dX3_seamTold_101 ?_
          refine k_eq (tgt := 110) hx hb dX3_seamTold_102 (by decide) (by omega) (fun c_102 => ?_) (fun c_102 => ?_)
          · skip
            refine lv_iload_n hx hb dX3_seamTold_110 rfl (lv_at hl 2 rfl) ?_
            refine ends _ _ (b) M_6 _ _ dX3_seamTold_111 hP hS ?_
            rw [show a = M 15 0 by omega] at h2
            first
              | exact ⟨hF, ⟨b, k, h2, Or.inr (Or.inl ⟨by omega, rfl⟩)⟩, by omega, by omega⟩
              | exact ⟨hF, ⟨b, k, h2, Or.inr (Or.inr ⟨by omega, by omega, Or.inl ⟨by omega, by omega⟩⟩)⟩, by omega, by omega⟩
          · skip
            refine lv_iload_n hx hb dX3_seamTold_105 rfl (lv_at hl 2 rfl) ?_
            refine k_push hx hb dX3_seamTold_106 ?_
            refine k_ne (tgt := 112) hx hb dX3_seamTold_107 (by decide) (by omega) (fun c_107 => ?_) (fun c_107 => ?_)
            · skip
              have hbk : 0 ≤ b ∧ b < M 15 0 ∧ 0 < k ∧ k = kMac (M 13) (M 15 0) (M 14) (M 15 1) b := by
                rcases h2 with ⟨q, q2, -⟩ | ⟨q, q2, q3, q4, -⟩
                · omega
                · exact ⟨q, by omega, q3, q4⟩
              have hex : ∃ c : Int, 0 ≤ c ∧ c < M 15 1 ∧ kL (M 13) (M 15 0) b (M 14) (M 15 1) c = k := by
                rcases (kMaxF_rng (fun c => kL (M 13) (M 15 0) b (M 14) (M 15 1) c) (M 15 1).toNat).2.2 with q | ⟨c, c1, c2, c3⟩
                · have := hbk.2.2.2; unfold kMac at this; omega
                · exact ⟨c, c1, by omega, by rw [c3]; exact hbk.2.2.2.symm⟩
              refine k_push hx hb dX3_seamTold_112 ?_
              refine lv_istore (lv' := [(4, .int (zI 0)), (0, .ref (E.2.2 11)), (1, .int (zI w)), (2, .int (zI b)), (3, .int (zI k))]) hx hb dX3_seamTold_113 hl (by decide) rfl (fun ls hl => ?_)
              have lp_115 : ∀ (n_115 : Nat) (q : Int), (0 ≤ q ∧ q < M 15 1) → (∀ c : Int, 0 ≤ c → c < q → kL (M 13) (M 15 0) b (M 14) (M 15 1) c < k) → (M 15 1 - q < (n_115 : Int)) → ∀ ls : Array Slot, lv_has ls 6 [(0, .ref (E.2.2 11)), (1, .int (zI w)), (2, .int (zI b)), (3, .int (zI k)), (4, .int (zI q))] → W pg l en rX3_seamTold s0 mi ar bl me co H locs 0 0 Q (F0 mi 115 ls []) := by
                intro n_115
                induction n_115 with
                | zero => intro q g1 g2 hm_115; exfalso; omega
                | succ n_115 ih_115 =>
                  intro q g1 g2 hm_115 ls hl
                  refine lv_aload_n hx hb dX3_seamTold_115 rfl (lv_at hl 0 rfl) ?_
                  refine k_mod S hK hP hinX30 7 (by decide) (S.2.2.2.2 _ (List.mem_cons_of_mem _ (List.mem_append_left _ (List.mem_append_left _ (List.mem_of_getElem? (i := 2) rfl))))) dX3_seamTold_116 rfl (.ref (E.2.2 60)) rfl rfl ?_
                  refine lv_iload_n hx hb dX3_seamTold_119 rfl (lv_at hl 2 rfl) ?_
                  refine k_aald S hK hP (61 + b) 41 (by unfold kRow; omega) dX3_seamTold_120 ?_
                  refine lv_iload hx hb dX3_seamTold_121 (lv_at hl 4 rfl) ?_
                  refine k_ald S hK hP 41 (by unfold kArr; omega) (by omega) dX3_seamTold_123 ?_
                  have q123 : M_6 (61 + b) q = kL (M 13) (M 15 0) b (M 14) (M 15 1) q := hBo b q (by omega) (by omega) (by omega) (by omega)
                  have q124 := kL_rng (x := M 13) (y := M 14) (nx := M 15 0) (ny := M 15 1) (a := b) (b := q) (by omega) (by omega)
                  refine lv_iload_n hx hb dX3_seamTold_124 rfl (lv_at hl 3 rfl) ?_
                  refine k_ge (tgt := 134) hx hb dX3_seamTold_125 (by decide) (by omega) (fun c_125 => ?_) (fun c_125 => ?_)
                  · skip
                    refine lv_iload hx hb dX3_seamTold_134 (lv_at hl 4 rfl) ?_
                    refine ends _ _ (q) M_6 _ _ dX3_seamTold_136 hP hS ?_
                    rw [show a = M 15 0 by omega] at h2
                    exact ⟨hF, ⟨b, k, h2, Or.inr (Or.inr ⟨by omega, by omega, Or.inr ⟨by omega, by omega, by omega, by omega, g2⟩⟩)⟩, by omega, by omega⟩
                  · skip
                    obtain ⟨v4_128, ev4_128⟩ : ∃ v : Int, v = q + 1 := ⟨_, rfl⟩
                    refine k_incN (v := v4_128) (lv' := [(4, .int (zI v4_128)), (0, .ref (E.2.2 11)), (1, .int (zI w)), (2, .int (zI b)), (3, .int (zI k))]) hx hb dX3_seamTold_128 hl (k := 4) rfl ev4_128 (by decide) rfl (fun ls hl => ?_)
                    refine lv_goto (tgt := 115) hx hb dX3_seamTold_131 (by decide) ?_
                    refine ih_115 v4_128 ?_ ?_ (by omega) _ (lv_sub hl [1, 2, 3, 4, 0] rfl)
                    · refine ⟨by omega, ?_⟩
                      obtain ⟨c, c1, c2, c3⟩ := hex
                      rcases Int.lt_or_le c q with r | r
                      · have := g2 c c1 r; omega
                      · by_cases r2 : c = q
                        · rw [r2] at c3; omega
                        · omega
                    · intro c c1 c2
                      by_cases r : c = q
                      · rw [r]; omega
                      · exact g2 c c1 (by omega)
              refine lp_115 ((M 15 1 - 0).toNat + 1) 0 (by obtain ⟨c, c1, c2, c3⟩ := hex; omega) (by intro c c1 c2; exfalso; omega) (by omega) _ (lv_sub hl [1, 2, 3, 4, 0] rfl)
            · skip
              refine lv_iload_n hx hb dX3_seamTold_110 rfl (lv_at hl 2 rfl) ?_
              refine ends _ _ (b) M_6 _ _ dX3_seamTold_111 hP hS ?_
              rw [show a = M 15 0 by omega] at h2
              first
                | exact ⟨hF, ⟨b, k, h2, Or.inr (Or.inl ⟨by omega, rfl⟩)⟩, by omega, by omega⟩
                | exact ⟨hF, ⟨b, k, h2, Or.inr (Or.inr ⟨by omega, by omega, Or.inl ⟨by omega, by omega⟩⟩)⟩, by omega, by omega⟩
        · skip
          refine lv_iload_n hx hb dX3_seamTold_98 rfl (lv_at hl 3 rfl) ?_
          refine ends _ _ (k) M_6 _ _ dX3_seamTold_99 hP hS ?_
          exact ⟨hF, ⟨b, k, by rw [show a = M 15 0 by omega] at h2; exact h2, Or.inl ⟨by omega, rfl⟩⟩, by omega, by omega⟩
      · skip
        refine lv_aload_n hx hb dX3_seamTold_27 rfl (lv_at hl 0 rfl) ?_
        refine lv_iload hx hb dX3_seamTold_28 (lv_at hl 4 rfl) ?_
        refine k_callV (As := [.int (zI a)]) (rest := []) S hK hP (c_X3_mostAcross l E M_6 a (by assumption) (by omega) (by intro b b1 b2; rw [hBo a b (by omega) (by omega) b1 (by omega)]; have := kL_rng (x := M 13) (y := M 14) (nx := M 15 0) (ny := M 15 1) (a := a) (b := b) (by omega) (by omega); omega)) (cwV 1 S.2.2.2.2 gX3_seamTold_X3_mostAcross rfl rfl rfl (by decide +kernel) ⟨Nat.le_of_ble_eq_true rfl, Nat.le_of_ble_eq_true rfl⟩) (k_rY hK hP rfl) rfl hl.1 rfl (Nat.le_of_ble_eq_true rfl) dX3_seamTold_30 ⟨Nat.le_of_ble_eq_true rfl, Nat.le_of_ble_eq_true rfl⟩ (fun z_30 h_30 => ?_)
        have q28 : z_30 = kMac (M 13) (M 15 0) (M 14) (M 15 1) a := by
          rw [h_30.1]; unfold kMac; rw [eqm]
          refine kMaxF_congr _ (fun b b1 b2 => ?_)
          rw [hBo a b (by omega) (by omega) b1 (by omega)]
        have q29 := kMac_rng (x := M 13) (y := M 14) (nx := M 15 0) (ny := M 15 1) (a := a) (by omega)
        refine lv_istore (lv' := [(5, .int (zI z_30)), (0, .ref (E.2.2 11)), (1, .int (zI w)), (2, .int (zI b)), (3, .int (zI k)), (4, .int (zI a))]) hx hb dX3_seamTold_33 hl (by decide) rfl (fun ls hl => ?_)
        refine lv_iload hx hb dX3_seamTold_35 (lv_at hl 0 rfl) ?_
        refine lv_iload_n hx hb dX3_seamTold_37 rfl (lv_at hl 4 rfl) ?_
        refine k_lt (tgt := 88) hx hb dX3_seamTold_38 (by decide) (by omega) (fun c_38 => ?_) (fun c_38 => ?_)
        · skip
          obtain ⟨v4_88, ev4_88⟩ : ∃ v : Int, v = a + 1 := ⟨_, rfl⟩
          refine k_incN (v := v4_88) (lv' := [(4, .int (zI v4_88)), (5, .int (zI z_30)), (0, .ref (E.2.2 11)), (1, .int (zI w)), (2, .int (zI b)), (3, .int (zI k))]) hx hb dX3_seamTold_88 hl (k := 5) rfl ev4_88 (by decide) rfl (fun ls hl => ?_)
          refine lv_goto (tgt := 16) hx hb dX3_seamTold_91 (by decide) ?_
          refine ih_16 b k v4_88 (by omega) ?_ (by omega) _ (lv_sub hl [2, 3, 4, 5, 0] rfl)
          · subst ev4_88
            first
              | exact kTop_skip h2 (by omega)
              | (rw [q28]; exact kTop_new h2 (by omega) q29.2 (by omega))
              | exact kTop_eq1 h2 (by omega) (by omega)
              | exact kTop_eq2 h2 (by omega) (by omega) (by omega) (h_73.resolve_left (fun q => by omega)).2
              | (rw [q28]; exact kTop_eq3 h2 (by omega) q29.2 (by omega) (by omega) (by omega) (h_73.resolve_right (fun q => by omega)).2)
        · skip
          refine lv_iload hx hb dX3_seamTold_41 (lv_at hl 0 rfl) ?_
          refine k_ne0 (tgt := 49) hx hb dX3_seamTold_43 (by decide) (by omega) (fun c_43 => ?_) (fun c_43 => ?_)
          · skip
            refine lv_iload hx hb dX3_seamTold_49 (lv_at hl 0 rfl) ?_
            refine lv_iload_n hx hb dX3_seamTold_51 rfl (lv_at hl 4 rfl) ?_
            refine k_ne (tgt := 82) hx hb dX3_seamTold_52 (by decide) (by omega) (fun c_52 => ?_) (fun c_52 => ?_)
            · skip
              refine lv_iload hx hb dX3_seamTold_82 (lv_at hl 5 rfl) ?_
              refine lv_istore_n (lv' := [(2, .int (zI a)), (5, .int (zI z_30)), (0, .ref (E.2.2 11)), (1, .int (zI w)), (3, .int (zI k)), (4, .int (zI a))]) hx hb dX3_seamTold_84 rfl hl (by decide) rfl (fun ls hl => ?_)
              refine lv_iload hx hb dX3_seamTold_85 (lv_at hl 1 rfl) ?_
              refine lv_istore_n (lv' := [(3, .int (zI z_30)), (2, .int (zI a)), (5, .int (zI z_30)), (0, .ref (E.2.2 11)), (1, .int (zI w)), (4, .int (zI a))]) hx hb dX3_seamTold_87 rfl hl (by decide) rfl (fun ls hl => ?_)
              obtain ⟨v4_88, ev4_88⟩ : ∃ v : Int, v = a + 1 := ⟨_, rfl⟩
              refine k_incN (v := v4_88) (lv' := [(4, .int (zI v4_88)), (3, .int (zI z_30)), (2, .int (zI a)), (5, .int (zI z_30)), (0, .ref (E.2.2 11)), (1, .int (zI w))]) hx hb dX3_seamTold_88 hl (k := 5) rfl ev4_88 (by decide) rfl (fun ls hl => ?_)
              refine lv_goto (tgt := 16) hx hb dX3_seamTold_91 (by decide) ?_
              refine ih_16 a z_30 v4_88 (by omega) ?_ (by omega) _ (lv_sub hl [4, 5, 2, 1, 0] rfl)
              · subst ev4_88
                first
                  | exact kTop_skip h2 (by omega)
                  | (rw [q28]; exact kTop_new h2 (by omega) q29.2 (by omega))
                  | exact kTop_eq1 h2 (by omega) (by omega)
                  | exact kTop_eq2 h2 (by omega) (by omega) (by omega) (h_73.resolve_left (fun q => by omega)).2
                  | (rw [q28]; exact kTop_eq3 h2 (by omega) q29.2 (by omega) (by omega) (by omega) (h_73.resolve_right (fun q => by omega)).2)
            · skip
              refine lv_aload_n hx hb dX3_seamTold_55 rfl (lv_at hl 1 rfl) ?_
              refine k_mod S hK hP hinX30 5 (by decide) (S.2.2.2.2 _ (List.mem_cons_of_mem _ (List.mem_append_left _ (List.mem_append_left _ (List.mem_of_getElem? (i := 1) rfl))))) dX3_seamTold_56 rfl (.ref (E.2.2 17)) rfl rfl ?_
              refine lv_iload hx hb dX3_seamTold_59 (lv_at hl 5 rfl) ?_
              refine k_aald S hK hP (18 + a) 41 (by unfold kRow; omega) dX3_seamTold_61 ?_
              refine lv_iload_n hx hb dX3_seamTold_62 rfl (lv_at hl 3 rfl) ?_
              have q62 : 0 ≤ b ∧ b < a := by rcases h2 with ⟨q, q2, -⟩ | ⟨q, q2, -⟩ <;> omega
              refine k_ald S hK hP 41 (by unfold kArr; omega) (by omega) dX3_seamTold_63 ?_
              have q64 : M_6 (18 + a) b = kL (M 13) (M 15 0) a (M 13) (M 15 0) b := hSa a b (by omega) (by omega) (by omega) (by omega)
              have q65 := kL_rng (x := M 13) (y := M 13) (nx := M 15 0) (ny := M 15 0) (a := a) (b := b) (by omega) (by omega)
              refine lv_iload_n hx hb dX3_seamTold_64 rfl (lv_at hl 4 rfl) ?_
              refine k_ge (tgt := 88) hx hb dX3_seamTold_65 (by decide) (by omega) (fun c_65 => ?_) (fun c_65 => ?_)
              · skip
                obtain ⟨v4_88, ev4_88⟩ : ∃ v : Int, v = a + 1 := ⟨_, rfl⟩
                refine k_incN (v := v4_88) (lv' := [(4, .int (zI v4_88)), (5, .int (zI z_30)), (0, .ref (E.2.2 11)), (1, .int (zI w)), (2, .int (zI b)), (3, .int (zI k))]) hx hb dX3_seamTold_88 hl (k := 5) rfl ev4_88 (by decide) rfl (fun ls hl => ?_)
                refine lv_goto (tgt := 16) hx hb dX3_seamTold_91 (by decide) ?_
                refine ih_16 b k v4_88 (by omega) ?_ (by omega) _ (lv_sub hl [2, 3, 4, 5, 0] rfl)
                · subst ev4_88
                  first
                    | exact kTop_skip h2 (by omega)
                    | (rw [q28]; exact kTop_new h2 (by omega) q29.2 (by omega))
                    | exact kTop_eq1 h2 (by omega) (by omega)
                    | exact kTop_eq2 h2 (by omega) (by omega) (by omega) (h_73.resolve_left (fun q => by omega)).2
                    | (rw [q28]; exact kTop_eq3 h2 (by omega) q29.2 (by omega) (by omega) (by omega) (h_73.resolve_right (fun q => by omega)).2)
              · skip
                refine lv_aload_n hx hb dX3_seamTold_68 rfl (lv_at hl 1 rfl) ?_
                refine k_push hx hb dX3_seamTold_69 ?_
                refine lv_iload hx hb dX3_seamTold_70 (lv_at hl 5 rfl) ?_
                refine lv_iload_n hx hb dX3_seamTold_72 rfl (lv_at hl 3 rfl) ?_
                refine k_callV (As := [.int (zI 0), .int (zI a), .int (zI b)]) (rest := []) S hK hP (c_X3_isLess l E M_6 0 a b (by omega) (by assumption) (by assumption) (by omega)) (cwV 3 S.2.2.2.2 gX3_seamTold_X3_isLess rfl rfl rfl (by decide +kernel) ⟨Nat.le_of_ble_eq_true rfl, Nat.le_of_ble_eq_true rfl⟩) (k_rY hK hP rfl) rfl hl.1 rfl (Nat.le_of_ble_eq_true rfl) dX3_seamTold_73 ⟨Nat.le_of_ble_eq_true rfl, Nat.le_of_ble_eq_true rfl⟩ (fun z_73 h_73 => ?_)
                rw [show (13 : Int) + 0 = 13 by omega, eqn, eqx] at h_73
                refine k_ne0 (tgt := 82) hx hb dX3_seamTold_76 (by decide) (by omega) (fun c_76 => ?_) (fun c_76 => ?_)
                · skip
                  refine lv_iload hx hb dX3_seamTold_82 (lv_at hl 5 rfl) ?_
                  refine lv_istore_n (lv' := [(2, .int (zI a)), (5, .int (zI z_30)), (0, .ref (E.2.2 11)), (1, .int (zI w)), (3, .int (zI k)), (4, .int (zI a))]) hx hb dX3_seamTold_84 rfl hl (by decide) rfl (fun ls hl => ?_)
                  refine lv_iload hx hb dX3_seamTold_85 (lv_at hl 1 rfl) ?_
                  refine lv_istore_n (lv' := [(3, .int (zI z_30)), (2, .int (zI a)), (5, .int (zI z_30)), (0, .ref (E.2.2 11)), (1, .int (zI w)), (4, .int (zI a))]) hx hb dX3_seamTold_87 rfl hl (by decide) rfl (fun ls hl => ?_)
                  obtain ⟨v4_88, ev4_88⟩ : ∃ v : Int, v = a + 1 := ⟨_, rfl⟩
                  refine k_incN (v := v4_88) (lv' := [(4, .int (zI v4_88)), (3, .int (zI z_30)), (2, .int (zI a)), (5, .int (zI z_30)), (0, .ref (E.2.2 11)), (1, .int (zI w))]) hx hb dX3_seamTold_88 hl (k := 5) rfl ev4_88 (by decide) rfl (fun ls hl => ?_)
                  refine lv_goto (tgt := 16) hx hb dX3_seamTold_91 (by decide) ?_
                  refine ih_16 a z_30 v4_88 (by omega) ?_ (by omega) _ (lv_sub hl [4, 5, 2, 1, 0] rfl)
                  · subst ev4_88
                    first
                      | exact kTop_skip h2 (by omega)
                      | (rw [q28]; exact kTop_new h2 (by omega) q29.2 (by omega))
                      | exact kTop_eq1 h2 (by omega) (by omega)
                      | exact kTop_eq2 h2 (by omega) (by omega) (by omega) (h_73.resolve_left (fun q => by omega)).2
                      | (rw [q28]; exact kTop_eq3 h2 (by omega) q29.2 (by omega) (by omega) (by omega) (h_73.resolve_right (fun q => by omega)).2)
                · skip
                  refine lv_goto (tgt := 88) hx hb dX3_seamTold_79 (by decide) ?_
                  obtain ⟨v4_88, ev4_88⟩ : ∃ v : Int, v = a + 1 := ⟨_, rfl⟩
                  refine k_incN (v := v4_88) (lv' := [(4, .int (zI v4_88)), (5, .int (zI z_30)), (0, .ref (E.2.2 11)), (1, .int (zI w)), (2, .int (zI b)), (3, .int (zI k))]) hx hb dX3_seamTold_88 hl (k := 5) rfl ev4_88 (by decide) rfl (fun ls hl => ?_)
                  refine lv_goto (tgt := 16) hx hb dX3_seamTold_91 (by decide) ?_
                  refine ih_16 b k v4_88 (by omega) ?_ (by omega) _ (lv_sub hl [2, 3, 4, 5, 0] rfl)
                  · subst ev4_88
                    first
                      | exact kTop_skip h2 (by omega)
                      | (rw [q28]; exact kTop_new h2 (by omega) q29.2 (by omega))
                      | exact kTop_eq1 h2 (by omega) (by omega)
                      | exact kTop_eq2 h2 (by omega) (by omega) (by omega) (h_73.resolve_left (fun q => by omega)).2
                      | (rw [q28]; exact kTop_eq3 h2 (by omega) q29.2 (by omega) (by omega) (by omega) (h_73.resolve_right (fun q => by omega)).2)
          · skip
            refine lv_goto (tgt := 88) hx hb dX3_seamTold_46 (by decide) ?_
            obtain ⟨v4_88, ev4_88⟩ : ∃ v : Int, v = a + 1 := ⟨_, rfl⟩
            refine k_incN (v := v4_88) (lv' := [(4, .int (zI v4_88)), (5, .int (zI z_30)), (0, .ref (E.2.2 11)), (1, .int (zI w)), (2, .int (zI b)), (3, .int (zI k))]) hx hb dX3_seamTold_88 hl (k := 5) rfl ev4_88 (by decide) rfl (fun ls hl => ?_)
            refine lv_goto (tgt := 16) hx hb dX3_seamTold_91 (by decide) ?_
            refine ih_16 b k v4_88 (by omega) ?_ (by omega) _ (lv_sub hl [2, 3, 4, 5, 0] rfl)
            · subst ev4_88
              first
                | exact kTop_skip h2 (by omega)
                | (rw [q28]; exact kTop_new h2 (by omega) q29.2 (by omega))
                | exact kTop_eq1 h2 (by omega) (by omega)
                | exact kTop_eq2 h2 (by omega) (by omega) (by omega) (h_73.resolve_left (fun q => by omega)).2
                | (rw [q28]; exact kTop_eq3 h2 (by omega) q29.2 (by omega) (by omega) (by omega) (h_73.resolve_right (fun q => by omega)).2)
  refine lp_16 ((M 15 0 - 0).toNat + 1) (-1) 0 0 (by omega) (by exact kTop_0 _ _ _) (by omega) _ (lv_sub hl [3, 4, 2, 1, 0] rfl)
abbrev rX3_isSampleAt : Room := { frames := 0, cells := 0, slots := 0, locals := 0 }
set_option maxHeartbeats 4000000 in
set_option maxRecDepth 100000 in
theorem c_X3_isSampleAt (l : Launch) (E : kE) (M : kM) (h p : Int) (hh : 0 ≤ h ∧ h < 2) (hW : kWm M) (hp : 0 ≤ p ∧ p < M 15 h) : kRO l yX3_isSampleAt wsX3_isSampleAt rX3_isSampleAt E M [.ref (E.2.2 11), .int (zI h), .int (zI p)] (fun z => (z = 1 ∧ kSmp (M (13 + h)) (M 15 h) (M 16) (M 11 4) p) ∨ (z = 0 ∧ ¬ kSmp (M (13 + h)) (M 15 h) (M 16) (M 11 4) p)) := by
  refine kRO_of (cc := cX3_isSampleAt) (maxL := 4) (rt := .boolean) RX3 (by decide) rfl rfl (Nat.le_of_ble_eq_true rfl) (fun z hz => k_narb (by omega)) ?_
  intro pg en s0 mi ar bl me co ls Q S hP hK ends hl
  have hx := S.1
  have hb := S.2.1
  have hinX30 : ∀ w ∈ wsX30, w ∈ wsX3_isSampleAt := fun w h => List.mem_cons_of_mem _ (List.mem_append_right _ (h))
  have hl : lv_has ls 4 [(0, .ref (E.2.2 11)), (1, .int (zI h)), (2, .int (zI p))] := hl
  obtain ⟨hWh, hs0, hs1, hsv⟩ := id hW
  obtain ⟨hn0, hn1, hv⟩ := hWh h hh
  refine lv_aload_n hx hb dX3_isSampleAt_0 rfl (lv_at hl 0 rfl) ?_
  refine k_mod S hK hP hinX30 4 (by decide) (S.2.2.2.2 _ (List.mem_cons_of_mem _ (List.mem_append_left _ (List.mem_of_getElem? (i := 0) rfl)))) dX3_isSampleAt_1 rfl (.int (zI (M 11 4))) rfl rfl ?_
  refine k_eq0 (tgt := 22) hx hb dX3_isSampleAt_4 (by decide) (by omega) (fun c_4 => ?_) (fun c_4 => ?_)
  · skip
    refine k_push hx hb dX3_isSampleAt_22 ?_
    refine ends _ _ (0) dX3_isSampleAt_23 ?_
    exact Or.inr ⟨rfl, fun q => by have := q.1; have := q.2.1; omega⟩
  · skip
    refine lv_iload_n hx hb dX3_isSampleAt_7 rfl (lv_at hl 2 rfl) ?_
    refine lv_aload_n hx hb dX3_isSampleAt_8 rfl (lv_at hl 0 rfl) ?_
    refine k_mod S hK hP hinX30 4 (by decide) (S.2.2.2.2 _ (List.mem_cons_of_mem _ (List.mem_append_left _ (List.mem_of_getElem? (i := 0) rfl)))) dX3_isSampleAt_9 rfl (.int (zI (M 11 4))) rfl rfl ?_
    refine k_add hx hb dX3_isSampleAt_12 ?_
    refine lv_aload_n hx hb dX3_isSampleAt_13 rfl (lv_at hl 0 rfl) ?_
    refine k_mod S hK hP hinX30 2 (by decide) (S.2.2.2.2 _ (List.mem_cons_of_mem _ (List.mem_append_left _ (List.mem_of_getElem? (i := 1) rfl)))) dX3_isSampleAt_14 rfl (.ref (E.2.2 15)) rfl rfl ?_
    refine lv_iload_n hx hb dX3_isSampleAt_17 rfl (lv_at hl 1 rfl) ?_
    refine k_ald S hK hP 2 (by unfold kArr; omega) (by omega) dX3_isSampleAt_18 ?_
    refine k_le (tgt := 24) hx hb dX3_isSampleAt_19 (by decide) (by omega) (fun c_19 => ?_) (fun c_19 => ?_)
    · skip
      refine k_push hx hb dX3_isSampleAt_24 ?_
      refine lv_istore_n (lv' := [(3, .int (zI 0)), (0, .ref (E.2.2 11)), (1, .int (zI h)), (2, .int (zI p))]) hx hb dX3_isSampleAt_25 rfl hl (by decide) rfl (fun ls hl => ?_)
      have lp_26 : ∀ (n_26 : Nat) (t : Int), (0 ≤ t ∧ t ≤ M 11 4) → (kEq (M (13 + h)) p (M 16) 0 t) → (M 11 4 - t < (n_26 : Int)) → ∀ ls : Array Slot, lv_has ls 4 [(0, .ref (E.2.2 11)), (1, .int (zI h)), (2, .int (zI p)), (3, .int (zI t))] → W pg l en rX3_isSampleAt s0 mi ar bl me co s0.heap [] 0 0 Q (F0 mi 26 ls []) := by
        intro n_26
        induction n_26 with
        | zero => intro t h1 h2 hm_26; exfalso; omega
        | succ n_26 ih_26 =>
          intro t h1 h2 hm_26 ls hl
          refine lv_iload_n hx hb dX3_isSampleAt_26 rfl (lv_at hl 3 rfl) ?_
          refine lv_aload_n hx hb dX3_isSampleAt_27 rfl (lv_at hl 0 rfl) ?_
          refine k_mod S hK hP hinX30 4 (by decide) (S.2.2.2.2 _ (List.mem_cons_of_mem _ (List.mem_append_left _ (List.mem_of_getElem? (i := 0) rfl)))) dX3_isSampleAt_28 rfl (.int (zI (M 11 4))) rfl rfl ?_
          refine k_ge (tgt := 61) hx hb dX3_isSampleAt_31 (by decide) (by omega) (fun c_31 => ?_) (fun c_31 => ?_)
          · skip
            refine k_push hx hb dX3_isSampleAt_61 ?_
            refine ends _ _ (1) dX3_isSampleAt_62 ?_
            exact Or.inl ⟨rfl, by omega, by omega, by rw [show M 11 4 = t by omega]; exact h2⟩
          · skip
            refine lv_aload_n hx hb dX3_isSampleAt_34 rfl (lv_at hl 0 rfl) ?_
            refine k_mod S hK hP hinX30 1 (by decide) (S.2.2.2.2 _ (List.mem_cons_of_mem _ (List.mem_append_left _ (List.mem_of_getElem? (i := 2) rfl)))) dX3_isSampleAt_35 rfl (.ref (E.2.2 12)) rfl rfl ?_
            refine lv_iload_n hx hb dX3_isSampleAt_38 rfl (lv_at hl 1 rfl) ?_
            refine k_aald S hK hP (13 + h) 2 (by unfold kRow; omega) dX3_isSampleAt_39 ?_
            refine lv_iload_n hx hb dX3_isSampleAt_40 rfl (lv_at hl 2 rfl) ?_
            refine lv_iload_n hx hb dX3_isSampleAt_41 rfl (lv_at hl 3 rfl) ?_
            refine k_add hx hb dX3_isSampleAt_42 ?_
            refine k_ald S hK hP 40 (by unfold kArr; omega) (by omega) dX3_isSampleAt_43 ?_
            have q5 := hv (p + t) (by omega) (by omega)
            refine lv_aload_n hx hb dX3_isSampleAt_44 rfl (lv_at hl 0 rfl) ?_
            refine k_mod S hK hP hinX30 3 (by decide) (S.2.2.2.2 _ (List.mem_cons_of_mem _ (List.mem_append_left _ (List.mem_of_getElem? (i := 3) rfl)))) dX3_isSampleAt_45 rfl (.ref (E.2.2 16)) rfl rfl ?_
            refine lv_iload_n hx hb dX3_isSampleAt_48 rfl (lv_at hl 3 rfl) ?_
            refine k_ald S hK hP 12 (by unfold kArr; omega) (by omega) dX3_isSampleAt_49 ?_
            have q6 := hsv t (by omega) (by omega)
            refine k_eq (tgt := 55) hx hb dX3_isSampleAt_50 (by decide) (by omega) (fun c_50 => ?_) (fun c_50 => ?_)
            · skip
              obtain ⟨v3_55, ev3_55⟩ : ∃ v : Int, v = t + 1 := ⟨_, rfl⟩
              refine k_incN (v := v3_55) (lv' := [(3, .int (zI v3_55)), (0, .ref (E.2.2 11)), (1, .int (zI h)), (2, .int (zI p))]) hx hb dX3_isSampleAt_55 hl (k := 3) rfl ev3_55 (by decide) rfl (fun ls hl => ?_)
              refine lv_goto (tgt := 26) hx hb dX3_isSampleAt_58 (by decide) ?_
              refine ih_26 v3_55 (by omega) ?_ (by omega) _ (lv_sub hl [1, 2, 3, 0] rfl)
              · subst ev3_55
                exact kEq_succ h2 (by rw [Int.zero_add]; exact c_50)
            · skip
              refine k_push hx hb dX3_isSampleAt_53 ?_
              refine ends _ _ (0) dX3_isSampleAt_54 ?_
              exact Or.inr ⟨rfl, fun q => c_50 (by have := q.2.2 t (by omega) (by omega); rw [Int.zero_add] at this; exact this)⟩
      refine lp_26 ((M 11 4 - 0).toNat + 1) 0 (by omega) (by exact kEq_0 _ _ _ _) (by omega) _ (lv_sub hl [1, 2, 3, 0] rfl)
    · skip
      refine k_push hx hb dX3_isSampleAt_22 ?_
      refine ends _ _ (0) dX3_isSampleAt_23 ?_
      exact Or.inr ⟨rfl, fun q => by have := q.1; have := q.2.1; omega⟩
abbrev rX3_foundIn : Room := { frames := 1, cells := 0, slots := 0, locals := 23 }
set_option maxHeartbeats 4000000 in
set_option maxRecDepth 100000 in
theorem c_X3_foundIn (l : Launch) (E : kE) (M : kM) (h : Int) (hh : 0 ≤ h ∧ h < 2) (hW : kWm M) : kRO l yX3_foundIn wsX3_foundIn rX3_foundIn E M [.ref (E.2.2 11), .int (zI h)] (fun z => z = kCnt (kSmp (M (13 + h)) (M 15 h) (M 16) (M 11 4)) (M 15 h).toNat ∧ 0 ≤ z ∧ z ≤ 40) := by
  refine kRO_of (cc := cX3_foundIn) (maxL := 4) (rt := .int) RX3 (by decide) rfl rfl (Nat.le_of_ble_eq_true rfl) k_nari ?_
  intro pg en s0 mi ar bl me co ls Q S hP hK ends hl
  have hx := S.1
  have hb := S.2.1
  have hinX30 : ∀ w ∈ wsX30, w ∈ wsX3_foundIn := fun w h => List.mem_cons_of_mem _ (List.mem_append_right _ (h))
  have hl : lv_has ls 4 [(0, .ref (E.2.2 11)), (1, .int (zI h))] := hl
  obtain ⟨hWh, hs0, hs1, hsv⟩ := id hW
  obtain ⟨hn0, hn1, hv⟩ := hWh h hh
  refine k_push hx hb dX3_foundIn_0 ?_
  refine lv_istore_n (lv' := [(2, .int (zI 0)), (0, .ref (E.2.2 11)), (1, .int (zI h))]) hx hb dX3_foundIn_1 rfl hl (by decide) rfl (fun ls hl => ?_)
  refine k_push hx hb dX3_foundIn_2 ?_
  refine lv_istore_n (lv' := [(3, .int (zI 0)), (2, .int (zI 0)), (0, .ref (E.2.2 11)), (1, .int (zI h))]) hx hb dX3_foundIn_3 rfl hl (by decide) rfl (fun ls hl => ?_)
  have lp_4 : ∀ (n_4 : Nat) (c : Int) (a : Int), (0 ≤ a ∧ a ≤ M 15 h ∧ 0 ≤ c ∧ c ≤ a) → (c = kCnt (kSmp (M (13 + h)) (M 15 h) (M 16) (M 11 4)) a.toNat) → (M 15 h - a < (n_4 : Int)) → ∀ ls : Array Slot, lv_has ls 4 [(0, .ref (E.2.2 11)), (1, .int (zI h)), (2, .int (zI c)), (3, .int (zI a))] → W pg l en rX3_foundIn s0 mi ar bl me co s0.heap [] 0 0 Q (F0 mi 4 ls []) := by
    intro n_4
    induction n_4 with
    | zero => intro c a h1 h2 hm_4; exfalso; omega
    | succ n_4 ih_4 =>
      intro c a h1 h2 hm_4 ls hl
      refine lv_iload_n hx hb dX3_foundIn_4 rfl (lv_at hl 3 rfl) ?_
      refine lv_aload_n hx hb dX3_foundIn_5 rfl (lv_at hl 0 rfl) ?_
      refine k_mod S hK hP hinX30 2 (by decide) (S.2.2.2.2 _ (List.mem_cons_of_mem _ (List.mem_append_left _ (List.mem_of_getElem? (i := 0) rfl)))) dX3_foundIn_6 rfl (.ref (E.2.2 15)) rfl rfl ?_
      refine lv_iload_n hx hb dX3_foundIn_9 rfl (lv_at hl 1 rfl) ?_
      refine k_ald S hK hP 2 (by unfold kArr; omega) (by omega) dX3_foundIn_10 ?_
      refine k_ge (tgt := 37) hx hb dX3_foundIn_11 (by decide) (by omega) (fun c_11 => ?_) (fun c_11 => ?_)
      · skip
        refine lv_iload_n hx hb dX3_foundIn_37 rfl (lv_at hl 2 rfl) ?_
        refine ends _ _ (c) dX3_foundIn_38 ?_
        refine ⟨?_, by omega, by omega⟩
        rw [h2, show a = M 15 h by omega]
      · skip
        refine lv_iload_n hx hb dX3_foundIn_14 rfl (lv_at hl 2 rfl) ?_
        refine lv_aload_n hx hb dX3_foundIn_15 rfl (lv_at hl 0 rfl) ?_
        refine lv_iload_n hx hb dX3_foundIn_16 rfl (lv_at hl 1 rfl) ?_
        refine lv_iload_n hx hb dX3_foundIn_17 rfl (lv_at hl 3 rfl) ?_
        refine k_callV (As := [.int (zI h), .int (zI a)]) (rest := [.int (zI c)]) S hK hP (c_X3_isSampleAt l E M h a (by omega) (by assumption) (by omega)) (cwV 2 S.2.2.2.2 gX3_foundIn_X3_isSampleAt rfl rfl rfl (by decide +kernel) ⟨Nat.le_of_ble_eq_true rfl, Nat.le_of_ble_eq_true rfl⟩) (k_rY hK hP rfl) rfl hl.1 rfl (Nat.le_of_ble_eq_true rfl) dX3_foundIn_18 ⟨Nat.le_of_ble_eq_true rfl, Nat.le_of_ble_eq_true rfl⟩ (fun z_18 h_18 => ?_)
        refine k_eq0 (tgt := 28) hx hb dX3_foundIn_21 (by decide) (by omega) (fun c_21 => ?_) (fun c_21 => ?_)
        · skip
          refine k_push hx hb dX3_foundIn_28 ?_
          refine k_add hx hb dX3_foundIn_29 ?_
          refine k_nm (fun v2_30 ev2_30 => ?_)
          refine lv_istore_n (lv' := [(2, .int (zI v2_30)), (0, .ref (E.2.2 11)), (1, .int (zI h)), (3, .int (zI a))]) hx hb dX3_foundIn_30 rfl hl (by decide) rfl (fun ls hl => ?_)
          obtain ⟨v3_31, ev3_31⟩ : ∃ v : Int, v = a + 1 := ⟨_, rfl⟩
          refine k_incN (v := v3_31) (lv' := [(3, .int (zI v3_31)), (2, .int (zI v2_30)), (0, .ref (E.2.2 11)), (1, .int (zI h))]) hx hb dX3_foundIn_31 hl (k := 3) rfl ev3_31 (by decide) rfl (fun ls hl => ?_)
          refine lv_goto (tgt := 4) hx hb dX3_foundIn_34 (by decide) ?_
          refine ih_4 v2_30 v3_31 (by omega) ?_ (by omega) _ (lv_sub hl [2, 3, 1, 0] rfl)
          · subst ev3_31
            first
              | (rw [ev2_30, kCnt_t _ (k := a) (by omega) (h_18.resolve_right (fun q => c_21 q.1)).2, ← h2])
              | (rw [ev2_30, kCnt_f _ (k := a) (by omega) (h_18.resolve_left (fun q => by omega)).2, ← h2]; omega)
        · skip
          refine k_push hx hb dX3_foundIn_24 ?_
          refine lv_goto (tgt := 29) hx hb dX3_foundIn_25 (by decide) ?_
          refine k_add hx hb dX3_foundIn_29 ?_
          refine k_nm (fun v2_30 ev2_30 => ?_)
          refine lv_istore_n (lv' := [(2, .int (zI v2_30)), (0, .ref (E.2.2 11)), (1, .int (zI h)), (3, .int (zI a))]) hx hb dX3_foundIn_30 rfl hl (by decide) rfl (fun ls hl => ?_)
          obtain ⟨v3_31, ev3_31⟩ : ∃ v : Int, v = a + 1 := ⟨_, rfl⟩
          refine k_incN (v := v3_31) (lv' := [(3, .int (zI v3_31)), (2, .int (zI v2_30)), (0, .ref (E.2.2 11)), (1, .int (zI h))]) hx hb dX3_foundIn_31 hl (k := 3) rfl ev3_31 (by decide) rfl (fun ls hl => ?_)
          refine lv_goto (tgt := 4) hx hb dX3_foundIn_34 (by decide) ?_
          refine ih_4 v2_30 v3_31 (by omega) ?_ (by omega) _ (lv_sub hl [2, 3, 1, 0] rfl)
          · subst ev3_31
            first
              | (rw [ev2_30, kCnt_t _ (k := a) (by omega) (h_18.resolve_right (fun q => c_21 q.1)).2, ← h2])
              | (rw [ev2_30, kCnt_f _ (k := a) (by omega) (h_18.resolve_left (fun q => by omega)).2, ← h2]; omega)
  refine lp_4 ((M 15 h - 0).toNat + 1) 0 0 (by omega) (by rfl) (by omega) _ (lv_sub hl [2, 3, 1, 0] rfl)
abbrev rX3_isPeriod : Room := { frames := 0, cells := 0, slots := 0, locals := 0 }
set_option maxHeartbeats 4000000 in
set_option maxRecDepth 100000 in
theorem c_X3_isPeriod (l : Launch) (E : kE) (M : kM) (h p : Int) (hh : 0 ≤ h ∧ h < 2) (hW : kWm M) (hp : 0 ≤ p ∧ p ≤ M 15 h) : kRO l yX3_isPeriod wsX3_isPeriod rX3_isPeriod E M [.ref (E.2.2 11), .int (zI h), .int (zI p)] (fun z => (z = 1 ∧ kPer (M (13 + h)) (M 15 h) p) ∨ (z = 0 ∧ ¬ kPer (M (13 + h)) (M 15 h) p)) := by
  refine kRO_of (cc := cX3_isPeriod) (maxL := 4) (rt := .boolean) RX3 (by decide) rfl rfl (Nat.le_of_ble_eq_true rfl) (fun z hz => k_narb (by omega)) ?_
  intro pg en s0 mi ar bl me co ls Q S hP hK ends hl
  have hx := S.1
  have hb := S.2.1
  have hinX30 : ∀ w ∈ wsX30, w ∈ wsX3_isPeriod := fun w h => List.mem_cons_of_mem _ (List.mem_append_right _ (h))
  have hl : lv_has ls 4 [(0, .ref (E.2.2 11)), (1, .int (zI h)), (2, .int (zI p))] := hl
  obtain ⟨hWh, hs0, hs1, hsv⟩ := id hW
  obtain ⟨hn0, hn1, hv⟩ := hWh h hh
  refine lv_iload_n hx hb dX3_isPeriod_0 rfl (lv_at hl 2 rfl) ?_
  refine lv_istore_n (lv' := [(3, .int (zI p)), (0, .ref (E.2.2 11)), (1, .int (zI h)), (2, .int (zI p))]) hx hb dX3_isPeriod_1 rfl hl (by decide) rfl (fun ls hl => ?_)
  have lp_2 : ∀ (n_2 : Nat) (k : Int), (p ≤ k ∧ k ≤ M 15 h) → (∀ t : Int, p ≤ t → t < k → M (13 + h) t = M (13 + h) (t - p)) → (M 15 h - k < (n_2 : Int)) → ∀ ls : Array Slot, lv_has ls 4 [(0, .ref (E.2.2 11)), (1, .int (zI h)), (2, .int (zI p)), (3, .int (zI k))] → W pg l en rX3_isPeriod s0 mi ar bl me co s0.heap [] 0 0 Q (F0 mi 2 ls []) := by
    intro n_2
    induction n_2 with
    | zero => intro k h1 h2 hm_2; exfalso; omega
    | succ n_2 ih_2 =>
      intro k h1 h2 hm_2 ls hl
      refine lv_iload_n hx hb dX3_isPeriod_2 rfl (lv_at hl 3 rfl) ?_
      refine lv_aload_n hx hb dX3_isPeriod_3 rfl (lv_at hl 0 rfl) ?_
      refine k_mod S hK hP hinX30 2 (by decide) (S.2.2.2.2 _ (List.mem_cons_of_mem _ (List.mem_append_left _ (List.mem_of_getElem? (i := 0) rfl)))) dX3_isPeriod_4 rfl (.ref (E.2.2 15)) rfl rfl ?_
      refine lv_iload_n hx hb dX3_isPeriod_7 rfl (lv_at hl 1 rfl) ?_
      refine k_ald S hK hP 2 (by unfold kArr; omega) (by omega) dX3_isPeriod_8 ?_
      refine k_ge (tgt := 41) hx hb dX3_isPeriod_9 (by decide) (by omega) (fun c_9 => ?_) (fun c_9 => ?_)
      · skip
        refine k_push hx hb dX3_isPeriod_41 ?_
        refine ends _ _ (1) dX3_isPeriod_42 ?_
        refine Or.inl ⟨rfl, fun t t1 t2 => ?_⟩
        have := h2 (p + t) (by omega) (by omega)
        rw [show p + t - p = t by omega] at this
        rw [Int.zero_add]; exact this.symm
      · skip
        refine lv_aload_n hx hb dX3_isPeriod_12 rfl (lv_at hl 0 rfl) ?_
        refine k_mod S hK hP hinX30 1 (by decide) (S.2.2.2.2 _ (List.mem_cons_of_mem _ (List.mem_append_left _ (List.mem_of_getElem? (i := 1) rfl)))) dX3_isPeriod_13 rfl (.ref (E.2.2 12)) rfl rfl ?_
        refine lv_iload_n hx hb dX3_isPeriod_16 rfl (lv_at hl 1 rfl) ?_
        refine k_aald S hK hP (13 + h) 2 (by unfold kRow; omega) dX3_isPeriod_17 ?_
        refine lv_iload_n hx hb dX3_isPeriod_18 rfl (lv_at hl 3 rfl) ?_
        refine k_ald S hK hP 40 (by unfold kArr; omega) (by omega) dX3_isPeriod_19 ?_
        have q5 := hv k (by omega) (by omega)
        refine lv_aload_n hx hb dX3_isPeriod_20 rfl (lv_at hl 0 rfl) ?_
        refine k_mod S hK hP hinX30 1 (by decide) (S.2.2.2.2 _ (List.mem_cons_of_mem _ (List.mem_append_left _ (List.mem_of_getElem? (i := 1) rfl)))) dX3_isPeriod_21 rfl (.ref (E.2.2 12)) rfl rfl ?_
        refine lv_iload_n hx hb dX3_isPeriod_24 rfl (lv_at hl 1 rfl) ?_
        refine k_aald S hK hP (13 + h) 2 (by unfold kRow; omega) dX3_isPeriod_25 ?_
        refine lv_iload_n hx hb dX3_isPeriod_26 rfl (lv_at hl 3 rfl) ?_
        refine lv_iload_n hx hb dX3_isPeriod_27 rfl (lv_at hl 2 rfl) ?_
        refine k_sub hx hb dX3_isPeriod_28 ?_
        refine k_ald S hK hP 40 (by unfold kArr; omega) (by omega) dX3_isPeriod_29 ?_
        have q6 := hv (k - p) (by omega) (by omega)
        refine k_eq (tgt := 35) hx hb dX3_isPeriod_30 (by decide) (by omega) (fun c_30 => ?_) (fun c_30 => ?_)
        · skip
          obtain ⟨v3_35, ev3_35⟩ : ∃ v : Int, v = k + 1 := ⟨_, rfl⟩
          refine k_incN (v := v3_35) (lv' := [(3, .int (zI v3_35)), (0, .ref (E.2.2 11)), (1, .int (zI h)), (2, .int (zI p))]) hx hb dX3_isPeriod_35 hl (k := 3) rfl ev3_35 (by decide) rfl (fun ls hl => ?_)
          refine lv_goto (tgt := 2) hx hb dX3_isPeriod_38 (by decide) ?_
          refine ih_2 v3_35 (by omega) ?_ (by omega) _ (lv_sub hl [1, 2, 3, 0] rfl)
          · intro t q1 q2
            by_cases q : t = k
            · rw [q]; exact c_30
            · exact h2 t q1 (by omega)
        · skip
          refine k_push hx hb dX3_isPeriod_33 ?_
          refine ends _ _ (0) dX3_isPeriod_34 ?_
          refine Or.inr ⟨rfl, fun q => c_30 ?_⟩
          have := q (k - p) (by omega) (by omega)
          rw [show p + (k - p) = k by omega, Int.zero_add] at this
          exact this.symm
  refine lp_2 ((M 15 h - p).toNat + 1) p (by omega) (by intro t q1 q2; exfalso; omega) (by omega) _ (lv_sub hl [1, 2, 3, 0] rfl)
abbrev rX3_periodOf : Room := { frames := 1, cells := 0, slots := 0, locals := 23 }
set_option maxHeartbeats 4000000 in
set_option maxRecDepth 100000 in
theorem c_X3_periodOf (l : Launch) (E : kE) (M : kM) (h : Int) (hh : 0 ≤ h ∧ h < 2) (hW : kWm M) : kRO l yX3_periodOf wsX3_periodOf rX3_periodOf E M [.ref (E.2.2 11), .int (zI h)] (fun z => kIsPer (M (13 + h)) (M 15 h) z ∧ 0 ≤ z ∧ z ≤ 40) := by
  refine kRO_of (cc := cX3_periodOf) (maxL := 3) (rt := .int) RX3 (by decide) rfl rfl (Nat.le_of_ble_eq_true rfl) k_nari ?_
  intro pg en s0 mi ar bl me co ls Q S hP hK ends hl
  have hx := S.1
  have hb := S.2.1
  have hinX30 : ∀ w ∈ wsX30, w ∈ wsX3_periodOf := fun w h => List.mem_cons_of_mem _ (List.mem_append_right _ (h))
  have hl : lv_has ls 3 [(0, .ref (E.2.2 11)), (1, .int (zI h))] := hl
  obtain ⟨hWh, hs0, hs1, hsv⟩ := id hW
  obtain ⟨hn0, hn1, hv⟩ := hWh h hh
  refine k_push hx hb dX3_periodOf_0 ?_
  refine lv_aload_n hx hb dX3_periodOf_1 rfl (lv_at hl 0 rfl) ?_
  refine k_mod S hK hP hinX30 2 (by decide) (S.2.2.2.2 _ (List.mem_cons_of_mem _ (List.mem_append_left _ (List.mem_of_getElem? (i := 0) rfl)))) dX3_periodOf_2 rfl (.ref (E.2.2 15)) rfl rfl ?_
  refine lv_iload_n hx hb dX3_periodOf_5 rfl (lv_at hl 1 rfl) ?_
  refine k_ald S hK hP 2 (by unfold kArr; omega) (by omega) dX3_periodOf_6 ?_
  refine k_min S hl.1 (S.2.2.2.2 _ (List.mem_cons_of_mem _ (List.mem_append_left _ (List.mem_of_getElem? (i := 1) rfl)))) (S.2.2.2.2 _ (List.mem_cons_of_mem _ (List.mem_append_left _ (List.mem_of_getElem? (i := 2) rfl)))) (S.2.2.2.2 _ (List.mem_cons_of_mem _ (List.mem_append_left _ (List.mem_of_getElem? (i := 3) rfl)))) (S.2.2.2.2 _ (List.mem_cons_of_mem _ (List.mem_append_left _ (List.mem_of_getElem? (i := 4) rfl)))) ⟨Nat.le_of_ble_eq_true rfl, Nat.le_of_ble_eq_true rfl⟩ ⟨Nat.le_of_ble_eq_true rfl, Nat.le_of_ble_eq_true rfl⟩ (by omega) dX3_periodOf_7 (fun z_7 h_7 => ?_)
  refine lv_istore_n (lv' := [(2, .int (zI z_7)), (0, .ref (E.2.2 11)), (1, .int (zI h))]) hx hb dX3_periodOf_10 rfl hl (by decide) rfl (fun ls hl => ?_)
  have lp_11 : ∀ (n_11 : Nat) (p : Int), ((M 15 h = 0 ∧ p = 0) ∨ (1 ≤ p ∧ p ≤ M 15 h)) → (∀ q : Int, 1 ≤ q → q < p → ¬ kPer (M (13 + h)) (M 15 h) q) → (M 15 h - p < (n_11 : Int)) → ∀ ls : Array Slot, lv_has ls 3 [(0, .ref (E.2.2 11)), (1, .int (zI h)), (2, .int (zI p))] → W pg l en rX3_periodOf s0 mi ar bl me co s0.heap [] 0 0 Q (F0 mi 11 ls []) := by
    intro n_11
    induction n_11 with
    | zero => intro p h1 h2 hm_11; exfalso; omega
    | succ n_11 ih_11 =>
      intro p h1 h2 hm_11 ls hl
      refine lv_aload_n hx hb dX3_periodOf_11 rfl (lv_at hl 0 rfl) ?_
      refine lv_iload_n hx hb dX3_periodOf_12 rfl (lv_at hl 1 rfl) ?_
      refine lv_iload_n hx hb dX3_periodOf_13 rfl (lv_at hl 2 rfl) ?_
      refine k_callV (As := [.int (zI h), .int (zI p)]) (rest := []) S hK hP (c_X3_isPeriod l E M h p (by omega) (by assumption) (by omega)) (cwV 2 S.2.2.2.2 gX3_periodOf_X3_isPeriod rfl rfl rfl (by decide +kernel) ⟨Nat.le_of_ble_eq_true rfl, Nat.le_of_ble_eq_true rfl⟩) (k_rY hK hP rfl) rfl hl.1 rfl (Nat.le_of_ble_eq_true rfl) dX3_periodOf_14 ⟨Nat.le_of_ble_eq_true rfl, Nat.le_of_ble_eq_true rfl⟩ (fun z_14 h_14 => ?_)
      refine k_ne0 (tgt := 26) hx hb dX3_periodOf_17 (by decide) (by omega) (fun c_17 => ?_) (fun c_17 => ?_)
      · skip
        refine lv_iload_n hx hb dX3_periodOf_26 rfl (lv_at hl 2 rfl) ?_
        refine ends _ _ (p) dX3_periodOf_27 ?_
        refine ⟨?_, by omega, by omega⟩
        by_cases q : M 15 h = 0
        · exact Or.inl ⟨q, by omega⟩
        · exact Or.inr ⟨by omega, by omega, (h_14.resolve_right (fun q => c_17 q.1)).2, h2⟩
      · skip
        obtain ⟨v2_20, ev2_20⟩ : ∃ v : Int, v = p + 1 := ⟨_, rfl⟩
        refine k_incN (v := v2_20) (lv' := [(2, .int (zI v2_20)), (0, .ref (E.2.2 11)), (1, .int (zI h))]) hx hb dX3_periodOf_20 hl (k := 2) rfl ev2_20 (by decide) rfl (fun ls hl => ?_)
        refine lv_goto (tgt := 11) hx hb dX3_periodOf_23 (by decide) ?_
        refine ih_11 v2_20 ?_ ?_ (by have q : ¬ kPer (M (13 + h)) (M 15 h) p := (h_14.resolve_left (fun q => by omega)).2; have q2 : p ≠ M 15 h := (by intro q2; apply q; rw [q2]; unfold kPer; rw [Int.sub_self]; exact kEq_0 _ _ _ _); omega) _ (lv_sub hl [1, 2, 0] rfl)
        · have q : ¬ kPer (M (13 + h)) (M 15 h) p := (h_14.resolve_left (fun q => by omega)).2
          have q2 : p ≠ M 15 h := by
            intro q2; apply q; rw [q2]; unfold kPer; rw [Int.sub_self]; exact kEq_0 _ _ _ _
          omega
        · intro q q1 q2
          by_cases r : q = p
          · rw [r]; exact (h_14.resolve_left (fun q => by omega)).2
          · exact h2 q q1 (by omega)
  refine lp_11 ((M 15 h - z_7).toNat + 1) z_7 (by omega) (by intro q q1 q2; exfalso; omega) (by omega) _ (lv_sub hl [1, 2, 0] rfl)
abbrev rX3_isLessAround : Room := { frames := 0, cells := 0, slots := 0, locals := 0 }
set_option maxHeartbeats 4000000 in
set_option maxRecDepth 100000 in
theorem c_X3_isLessAround (l : Launch) (E : kE) (M : kM) (h a b : Int) (hh : 0 ≤ h ∧ h < 2) (hW : kWm M) (hab : 0 ≤ a ∧ a < M 15 h ∧ 0 ≤ b ∧ b < M 15 h) : kRO l yX3_isLessAround wsX3_isLessAround rX3_isLessAround E M [.ref (E.2.2 11), .int (zI h), .int (zI a), .int (zI b)] (fun z => (z = 1 ∧ kRL (M (13 + h)) (M 15 h) a b) ∨ (z = 0 ∧ ¬ kRL (M (13 + h)) (M 15 h) a b)) := by
  refine kRO_of (cc := cX3_isLessAround) (maxL := 8) (rt := .boolean) RX3 (by decide) rfl rfl (Nat.le_of_ble_eq_true rfl) (fun z hz => k_narb (by omega)) ?_
  intro pg en s0 mi ar bl me co ls Q S hP hK ends hl
  have hx := S.1
  have hb := S.2.1
  have hinX30 : ∀ w ∈ wsX30, w ∈ wsX3_isLessAround := fun w h => List.mem_cons_of_mem _ (List.mem_append_right _ (h))
  have hl : lv_has ls 8 [(0, .ref (E.2.2 11)), (1, .int (zI h)), (2, .int (zI a)), (3, .int (zI b))] := hl
  obtain ⟨hWh, hs0, hs1, hsv⟩ := id hW
  obtain ⟨hn0, hn1, hv⟩ := hWh h hh
  refine lv_aload_n hx hb dX3_isLessAround_0 rfl (lv_at hl 0 rfl) ?_
  refine k_mod S hK hP hinX30 2 (by decide) (S.2.2.2.2 _ (List.mem_cons_of_mem _ (List.mem_append_left _ (List.mem_of_getElem? (i := 0) rfl)))) dX3_isLessAround_1 rfl (.ref (E.2.2 15)) rfl rfl ?_
  refine lv_iload_n hx hb dX3_isLessAround_4 rfl (lv_at hl 1 rfl) ?_
  refine k_ald S hK hP 2 (by unfold kArr; omega) (by omega) dX3_isLessAround_5 ?_
  refine k_nm (fun v4_6 ev4_6 => ?_)
  refine lv_istore (lv' := [(4, .int (zI v4_6)), (0, .ref (E.2.2 11)), (1, .int (zI h)), (2, .int (zI a)), (3, .int (zI b))]) hx hb dX3_isLessAround_6 hl (by decide) rfl (fun ls hl => ?_)
  refine k_push hx hb dX3_isLessAround_8 ?_
  refine lv_istore (lv' := [(5, .int (zI 0)), (4, .int (zI v4_6)), (0, .ref (E.2.2 11)), (1, .int (zI h)), (2, .int (zI a)), (3, .int (zI b))]) hx hb dX3_isLessAround_9 hl (by decide) rfl (fun ls hl => ?_)
  have lp_11 : ∀ (n_11 : Nat) (t : Int), (0 ≤ t ∧ t ≤ M 15 h) → (∀ u : Int, 0 ≤ u → u < t → kRot (M (13 + h)) (M 15 h) a u = kRot (M (13 + h)) (M 15 h) b u) → (v4_6 - t < (n_11 : Int)) → ∀ ls : Array Slot, lv_has ls 8 [(0, .ref (E.2.2 11)), (1, .int (zI h)), (2, .int (zI a)), (3, .int (zI b)), (4, .int (zI v4_6)), (5, .int (zI t))] → W pg l en rX3_isLessAround s0 mi ar bl me co s0.heap [] 0 0 Q (F0 mi 11 ls []) := by
    intro n_11
    induction n_11 with
    | zero => intro t h1 h2 hm_11; exfalso; omega
    | succ n_11 ih_11 =>
      intro t h1 h2 hm_11 ls hl
      refine lv_iload hx hb dX3_isLessAround_11 (lv_at hl 5 rfl) ?_
      refine lv_iload hx hb dX3_isLessAround_13 (lv_at hl 4 rfl) ?_
      refine k_ge (tgt := 76) hx hb dX3_isLessAround_15 (by decide) (by omega) (fun c_15 => ?_) (fun c_15 => ?_)
      · skip
        refine k_push hx hb dX3_isLessAround_76 ?_
        refine ends _ _ (0) dX3_isLessAround_77 ?_
        exact Or.inr ⟨rfl, fun q => by obtain ⟨u, q1, q2, q3, -⟩ := q; have := h2 u q1 (by omega); omega⟩
      · skip
        refine lv_aload_n hx hb dX3_isLessAround_18 rfl (lv_at hl 0 rfl) ?_
        refine k_mod S hK hP hinX30 1 (by decide) (S.2.2.2.2 _ (List.mem_cons_of_mem _ (List.mem_append_left _ (List.mem_of_getElem? (i := 1) rfl)))) dX3_isLessAround_19 rfl (.ref (E.2.2 12)) rfl rfl ?_
        refine lv_iload_n hx hb dX3_isLessAround_22 rfl (lv_at hl 1 rfl) ?_
        refine k_aald S hK hP (13 + h) 2 (by unfold kRow; omega) dX3_isLessAround_23 ?_
        refine lv_iload_n hx hb dX3_isLessAround_24 rfl (lv_at hl 2 rfl) ?_
        refine lv_iload hx hb dX3_isLessAround_25 (lv_at hl 5 rfl) ?_
        refine k_add hx hb dX3_isLessAround_27 ?_
        refine lv_iload hx hb dX3_isLessAround_28 (lv_at hl 4 rfl) ?_
        refine k_rem hx hb dX3_isLessAround_30 (by omega) ?_
        have qm := Int.emod_nonneg (a + t) (b := v4_6) (by omega)
        have qn := Int.emod_lt_of_pos (a + t) (b := v4_6) (by omega)
        have qv := hv ((a + t) % v4_6) (by omega) (by omega)
        have qr := kRot_mod (x := M (13 + h)) (n := v4_6) (a := a) (t := t) (by omega) (by omega)
        refine k_ald S hK hP 40 (by unfold kArr; omega) (by omega) dX3_isLessAround_31 ?_
        refine k_nm (fun v6_32 ev6_32 => ?_)
        refine lv_istore (lv' := [(6, .int (zI v6_32)), (0, .ref (E.2.2 11)), (1, .int (zI h)), (2, .int (zI a)), (3, .int (zI b)), (4, .int (zI v4_6)), (5, .int (zI t))]) hx hb dX3_isLessAround_32 hl (by decide) rfl (fun ls hl => ?_)
        have qr2 : v6_32 = kRot (M (13 + h)) (M 15 h) a t := by rw [ev6_32, qr, ev4_6]
        refine lv_aload_n hx hb dX3_isLessAround_34 rfl (lv_at hl 1 rfl) ?_
        refine k_mod S hK hP hinX30 1 (by decide) (S.2.2.2.2 _ (List.mem_cons_of_mem _ (List.mem_append_left _ (List.mem_of_getElem? (i := 1) rfl)))) dX3_isLessAround_35 rfl (.ref (E.2.2 12)) rfl rfl ?_
        refine lv_iload_n hx hb dX3_isLessAround_38 rfl (lv_at hl 2 rfl) ?_
        refine k_aald S hK hP (13 + h) 2 (by unfold kRow; omega) dX3_isLessAround_39 ?_
        refine lv_iload_n hx hb dX3_isLessAround_40 rfl (lv_at hl 4 rfl) ?_
        refine lv_iload hx hb dX3_isLessAround_41 (lv_at hl 6 rfl) ?_
        refine k_add hx hb dX3_isLessAround_43 ?_
        refine lv_iload hx hb dX3_isLessAround_44 (lv_at hl 5 rfl) ?_
        refine k_rem hx hb dX3_isLessAround_46 (by omega) ?_
        have pm := Int.emod_nonneg (b + t) (b := v4_6) (by omega)
        have pn := Int.emod_lt_of_pos (b + t) (b := v4_6) (by omega)
        have pv := hv ((b + t) % v4_6) (by omega) (by omega)
        have pr := kRot_mod (x := M (13 + h)) (n := v4_6) (a := b) (t := t) (by omega) (by omega)
        refine k_ald S hK hP 40 (by unfold kArr; omega) (by omega) dX3_isLessAround_47 ?_
        refine k_nm (fun v7_48 ev7_48 => ?_)
        refine lv_istore (lv' := [(7, .int (zI v7_48)), (6, .int (zI v6_32)), (0, .ref (E.2.2 11)), (1, .int (zI h)), (2, .int (zI a)), (3, .int (zI b)), (4, .int (zI v4_6)), (5, .int (zI t))]) hx hb dX3_isLessAround_48 hl (by decide) rfl (fun ls hl => ?_)
        have pr2 : v7_48 = kRot (M (13 + h)) (M 15 h) b t := by rw [ev7_48, pr, ev4_6]
        refine lv_iload hx hb dX3_isLessAround_50 (lv_at hl 1 rfl) ?_
        refine lv_iload hx hb dX3_isLessAround_52 (lv_at hl 0 rfl) ?_
        refine k_eq (tgt := 70) hx hb dX3_isLessAround_54 (by decide) (by omega) (fun c_54 => ?_) (fun c_54 => ?_)
        · skip
          obtain ⟨v5_70, ev5_70⟩ : ∃ v : Int, v = t + 1 := ⟨_, rfl⟩
          refine k_incN (v := v5_70) (lv' := [(5, .int (zI v5_70)), (7, .int (zI v7_48)), (6, .int (zI v6_32)), (0, .ref (E.2.2 11)), (1, .int (zI h)), (2, .int (zI a)), (3, .int (zI b)), (4, .int (zI v4_6))]) hx hb dX3_isLessAround_70 hl (k := 7) rfl ev5_70 (by decide) rfl (fun ls hl => ?_)
          refine lv_goto (tgt := 11) hx hb dX3_isLessAround_73 (by decide) ?_
          refine ih_11 v5_70 (by omega) ?_ (by omega) _ (lv_sub hl [3, 4, 5, 6, 7, 0] rfl)
          · intro u q1 q2
            by_cases q : u = t
            · rw [q, ← qr2, ← pr2]; exact c_54
            · exact h2 u q1 (by omega)
        · skip
          refine lv_iload hx hb dX3_isLessAround_57 (lv_at hl 1 rfl) ?_
          refine lv_iload hx hb dX3_isLessAround_59 (lv_at hl 0 rfl) ?_
          refine k_ge (tgt := 68) hx hb dX3_isLessAround_61 (by decide) (by omega) (fun c_61 => ?_) (fun c_61 => ?_)
          · skip
            refine k_push hx hb dX3_isLessAround_68 ?_
            refine ends _ _ (0) dX3_isLessAround_69 ?_
            first | exact Or.inl ⟨rfl, ⟨t, by omega, by omega, by omega, h2⟩⟩ | exact Or.inr ⟨rfl, kRL_no (by omega) h2 (by omega)⟩
          · skip
            refine k_push hx hb dX3_isLessAround_64 ?_
            refine lv_goto (tgt := 69) hx hb dX3_isLessAround_65 (by decide) ?_
            refine ends _ _ (1) dX3_isLessAround_69 ?_
            first | exact Or.inl ⟨rfl, ⟨t, by omega, by omega, by omega, h2⟩⟩ | exact Or.inr ⟨rfl, kRL_no (by omega) h2 (by omega)⟩
  refine lp_11 ((v4_6 - 0).toNat + 1) 0 (by omega) (by intro u q1 q2; exfalso; omega) (by omega) _ (lv_sub hl [2, 3, 4, 5, 1, 0] rfl)
abbrev rX3_turnedOf : Room := { frames := 1, cells := 0, slots := 0, locals := 27 }
set_option maxHeartbeats 4000000 in
set_option maxRecDepth 100000 in
theorem c_X3_turnedOf (l : Launch) (E : kE) (M : kM) (h : Int) (hh : 0 ≤ h ∧ h < 2) (hW : kWm M) : kRO l yX3_turnedOf wsX3_turnedOf rX3_turnedOf E M [.ref (E.2.2 11), .int (zI h)] (fun z => ((M 15 h = 0 ∧ z = -1) ∨ (0 < M 15 h ∧ z = kBst (M (13 + h)) (M 15 h) (M 15 h - 1).toNat)) ∧ -1 ≤ z ∧ z < 40) := by
  refine kRO_of (cc := cX3_turnedOf) (maxL := 4) (rt := .int) RX3 (by decide) rfl rfl (Nat.le_of_ble_eq_true rfl) k_nari ?_
  intro pg en s0 mi ar bl me co ls Q S hP hK ends hl
  have hx := S.1
  have hb := S.2.1
  have hinX30 : ∀ w ∈ wsX30, w ∈ wsX3_turnedOf := fun w h => List.mem_cons_of_mem _ (List.mem_append_right _ (h))
  have hl : lv_has ls 4 [(0, .ref (E.2.2 11)), (1, .int (zI h))] := hl
  obtain ⟨hWh, hs0, hs1, hsv⟩ := id hW
  obtain ⟨hn0, hn1, hv⟩ := hWh h hh
  refine lv_aload_n hx hb dX3_turnedOf_0 rfl (lv_at hl 0 rfl) ?_
  refine k_mod S hK hP hinX30 2 (by decide) (S.2.2.2.2 _ (List.mem_cons_of_mem _ (List.mem_append_left _ (List.mem_of_getElem? (i := 0) rfl)))) dX3_turnedOf_1 rfl (.ref (E.2.2 15)) rfl rfl ?_
  refine lv_iload_n hx hb dX3_turnedOf_4 rfl (lv_at hl 1 rfl) ?_
  refine k_ald S hK hP 2 (by unfold kArr; omega) (by omega) dX3_turnedOf_5 ?_
  refine k_ne0 (tgt := 13) hx hb dX3_turnedOf_6 (by decide) (by omega) (fun c_6 => ?_) (fun c_6 => ?_)
  · skip
    refine k_push hx hb dX3_turnedOf_13 ?_
    refine lv_istore_n (lv' := [(2, .int (zI 0)), (0, .ref (E.2.2 11)), (1, .int (zI h))]) hx hb dX3_turnedOf_14 rfl hl (by decide) rfl (fun ls hl => ?_)
    refine k_push hx hb dX3_turnedOf_15 ?_
    refine lv_istore_n (lv' := [(3, .int (zI 1)), (2, .int (zI 0)), (0, .ref (E.2.2 11)), (1, .int (zI h))]) hx hb dX3_turnedOf_16 rfl hl (by decide) rfl (fun ls hl => ?_)
    have lp_17 : ∀ (n_17 : Nat) (b : Int) (p : Int), (1 ≤ p ∧ (p ≤ M 15 h ∨ p = 1) ∧ -1 ≤ b ∧ b < 40 ∧ (0 < M 15 h → 0 ≤ b ∧ b < M 15 h) ∧ (M 15 h = 0 → b = -1)) → (0 < M 15 h → b = kBst (M (13 + h)) (M 15 h) (p - 1).toNat) → (M 15 h + 1 - p < (n_17 : Int)) → ∀ ls : Array Slot, lv_has ls 4 [(0, .ref (E.2.2 11)), (1, .int (zI h)), (2, .int (zI b)), (3, .int (zI p))] → W pg l en rX3_turnedOf s0 mi ar bl me co s0.heap [] 0 0 Q (F0 mi 17 ls []) := by
      intro n_17
      induction n_17 with
      | zero => intro b p h1 h2 hm_17; exfalso; omega
      | succ n_17 ih_17 =>
        intro b p h1 h2 hm_17 ls hl
        refine lv_iload_n hx hb dX3_turnedOf_17 rfl (lv_at hl 3 rfl) ?_
        refine lv_aload_n hx hb dX3_turnedOf_18 rfl (lv_at hl 0 rfl) ?_
        refine k_mod S hK hP hinX30 2 (by decide) (S.2.2.2.2 _ (List.mem_cons_of_mem _ (List.mem_append_left _ (List.mem_of_getElem? (i := 0) rfl)))) dX3_turnedOf_19 rfl (.ref (E.2.2 15)) rfl rfl ?_
        refine lv_iload_n hx hb dX3_turnedOf_22 rfl (lv_at hl 1 rfl) ?_
        refine k_ald S hK hP 2 (by unfold kArr; omega) (by omega) dX3_turnedOf_23 ?_
        refine k_ge (tgt := 45) hx hb dX3_turnedOf_24 (by decide) (by omega) (fun c_24 => ?_) (fun c_24 => ?_)
        · skip
          refine lv_iload_n hx hb dX3_turnedOf_45 rfl (lv_at hl 2 rfl) ?_
          refine ends _ _ (b) dX3_turnedOf_46 ?_
          refine ⟨?_, by omega, by omega⟩
          by_cases q : M 15 h = 0
          · exact Or.inl ⟨q, by omega⟩
          · refine Or.inr ⟨by omega, ?_⟩
            rw [h2 (by omega), show p - 1 = M 15 h - 1 by omega]
        · skip
          refine lv_aload_n hx hb dX3_turnedOf_27 rfl (lv_at hl 0 rfl) ?_
          refine lv_iload_n hx hb dX3_turnedOf_28 rfl (lv_at hl 1 rfl) ?_
          refine lv_iload_n hx hb dX3_turnedOf_29 rfl (lv_at hl 3 rfl) ?_
          refine lv_iload_n hx hb dX3_turnedOf_30 rfl (lv_at hl 2 rfl) ?_
          refine k_callV (As := [.int (zI h), .int (zI p), .int (zI b)]) (rest := []) S hK hP (c_X3_isLessAround l E M h p b (by omega) (by assumption) (by omega)) (cwV 3 S.2.2.2.2 gX3_turnedOf_X3_isLessAround rfl rfl rfl (by decide +kernel) ⟨Nat.le_of_ble_eq_true rfl, Nat.le_of_ble_eq_true rfl⟩) (k_rY hK hP rfl) rfl hl.1 rfl (Nat.le_of_ble_eq_true rfl) dX3_turnedOf_31 ⟨Nat.le_of_ble_eq_true rfl, Nat.le_of_ble_eq_true rfl⟩ (fun z_31 h_31 => ?_)
          refine k_eq0 (tgt := 39) hx hb dX3_turnedOf_34 (by decide) (by omega) (fun c_34 => ?_) (fun c_34 => ?_)
          · skip
            obtain ⟨v3_39, ev3_39⟩ : ∃ v : Int, v = p + 1 := ⟨_, rfl⟩
            refine k_incN (v := v3_39) (lv' := [(3, .int (zI v3_39)), (0, .ref (E.2.2 11)), (1, .int (zI h)), (2, .int (zI b))]) hx hb dX3_turnedOf_39 hl (k := 3) rfl ev3_39 (by decide) rfl (fun ls hl => ?_)
            refine lv_goto (tgt := 17) hx hb dX3_turnedOf_42 (by decide) ?_
            refine ih_17 b v3_39 (by omega) ?_ (by omega) _ (lv_sub hl [1, 2, 3, 0] rfl)
            · intro q
              subst ev3_39
              rw [show p + 1 - 1 = p by omega, kBst_step (by omega), ← h2 q]
              first | exact (kIf_t (h_31.resolve_right (fun g => c_34 g.1)).2).symm | exact (kIf_f (h_31.resolve_left (fun g => by omega)).2).symm
          · skip
            refine lv_iload_n hx hb dX3_turnedOf_37 rfl (lv_at hl 3 rfl) ?_
            refine lv_istore_n (lv' := [(2, .int (zI p)), (0, .ref (E.2.2 11)), (1, .int (zI h)), (3, .int (zI p))]) hx hb dX3_turnedOf_38 rfl hl (by decide) rfl (fun ls hl => ?_)
            obtain ⟨v3_39, ev3_39⟩ : ∃ v : Int, v = p + 1 := ⟨_, rfl⟩
            refine k_incN (v := v3_39) (lv' := [(3, .int (zI v3_39)), (2, .int (zI p)), (0, .ref (E.2.2 11)), (1, .int (zI h))]) hx hb dX3_turnedOf_39 hl (k := 3) rfl ev3_39 (by decide) rfl (fun ls hl => ?_)
            refine lv_goto (tgt := 17) hx hb dX3_turnedOf_42 (by decide) ?_
            refine ih_17 p v3_39 (by omega) ?_ (by omega) _ (lv_sub hl [2, 3, 1, 0] rfl)
            · intro q
              subst ev3_39
              rw [show p + 1 - 1 = p by omega, kBst_step (by omega), ← h2 q]
              first | exact (kIf_t (h_31.resolve_right (fun g => c_34 g.1)).2).symm | exact (kIf_f (h_31.resolve_left (fun g => by omega)).2).symm
    refine lp_17 ((M 15 h + 1 - 1).toNat + 1) 0 1 (by omega) (by first | (intro _; rfl) | (intro q; exfalso; omega)) (by omega) _ (lv_sub hl [2, 3, 1, 0] rfl)
  · skip
    refine k_push hx hb dX3_turnedOf_9 ?_
    refine lv_goto (tgt := 14) hx hb dX3_turnedOf_10 (by decide) ?_
    refine lv_istore_n (lv' := [(2, .int (zI (-1))), (0, .ref (E.2.2 11)), (1, .int (zI h))]) hx hb dX3_turnedOf_14 rfl hl (by decide) rfl (fun ls hl => ?_)
    refine k_push hx hb dX3_turnedOf_15 ?_
    refine lv_istore_n (lv' := [(3, .int (zI 1)), (2, .int (zI (-1))), (0, .ref (E.2.2 11)), (1, .int (zI h))]) hx hb dX3_turnedOf_16 rfl hl (by decide) rfl (fun ls hl => ?_)
    have lp_17 : ∀ (n_17 : Nat) (b : Int) (p : Int), (1 ≤ p ∧ (p ≤ M 15 h ∨ p = 1) ∧ -1 ≤ b ∧ b < 40 ∧ (0 < M 15 h → 0 ≤ b ∧ b < M 15 h) ∧ (M 15 h = 0 → b = -1)) → (0 < M 15 h → b = kBst (M (13 + h)) (M 15 h) (p - 1).toNat) → (M 15 h + 1 - p < (n_17 : Int)) → ∀ ls : Array Slot, lv_has ls 4 [(0, .ref (E.2.2 11)), (1, .int (zI h)), (2, .int (zI b)), (3, .int (zI p))] → W pg l en rX3_turnedOf s0 mi ar bl me co s0.heap [] 0 0 Q (F0 mi 17 ls []) := by
      intro n_17
      induction n_17 with
      | zero => intro b p h1 h2 hm_17; exfalso; omega
      | succ n_17 ih_17 =>
        intro b p h1 h2 hm_17 ls hl
        refine lv_iload_n hx hb dX3_turnedOf_17 rfl (lv_at hl 3 rfl) ?_
        refine lv_aload_n hx hb dX3_turnedOf_18 rfl (lv_at hl 0 rfl) ?_
        refine k_mod S hK hP hinX30 2 (by decide) (S.2.2.2.2 _ (List.mem_cons_of_mem _ (List.mem_append_left _ (List.mem_of_getElem? (i := 0) rfl)))) dX3_turnedOf_19 rfl (.ref (E.2.2 15)) rfl rfl ?_
        refine lv_iload_n hx hb dX3_turnedOf_22 rfl (lv_at hl 1 rfl) ?_
        refine k_ald S hK hP 2 (by unfold kArr; omega) (by omega) dX3_turnedOf_23 ?_
        refine k_ge (tgt := 45) hx hb dX3_turnedOf_24 (by decide) (by omega) (fun c_24 => ?_) (fun c_24 => ?_)
        · skip
          refine lv_iload_n hx hb dX3_turnedOf_45 rfl (lv_at hl 2 rfl) ?_
          refine ends _ _ (b) dX3_turnedOf_46 ?_
          refine ⟨?_, by omega, by omega⟩
          by_cases q : M 15 h = 0
          · exact Or.inl ⟨q, by omega⟩
          · refine Or.inr ⟨by omega, ?_⟩
            rw [h2 (by omega), show p - 1 = M 15 h - 1 by omega]
        · skip
          refine lv_aload_n hx hb dX3_turnedOf_27 rfl (lv_at hl 0 rfl) ?_
          refine lv_iload_n hx hb dX3_turnedOf_28 rfl (lv_at hl 1 rfl) ?_
          refine lv_iload_n hx hb dX3_turnedOf_29 rfl (lv_at hl 3 rfl) ?_
          refine lv_iload_n hx hb dX3_turnedOf_30 rfl (lv_at hl 2 rfl) ?_
          refine k_callV (As := [.int (zI h), .int (zI p), .int (zI b)]) (rest := []) S hK hP (c_X3_isLessAround l E M h p b (by omega) (by assumption) (by omega)) (cwV 3 S.2.2.2.2 gX3_turnedOf_X3_isLessAround rfl rfl rfl (by decide +kernel) ⟨Nat.le_of_ble_eq_true rfl, Nat.le_of_ble_eq_true rfl⟩) (k_rY hK hP rfl) rfl hl.1 rfl (Nat.le_of_ble_eq_true rfl) dX3_turnedOf_31 ⟨Nat.le_of_ble_eq_true rfl, Nat.le_of_ble_eq_true rfl⟩ (fun z_31 h_31 => ?_)
          refine k_eq0 (tgt := 39) hx hb dX3_turnedOf_34 (by decide) (by omega) (fun c_34 => ?_) (fun c_34 => ?_)
          · skip
            obtain ⟨v3_39, ev3_39⟩ : ∃ v : Int, v = p + 1 := ⟨_, rfl⟩
            refine k_incN (v := v3_39) (lv' := [(3, .int (zI v3_39)), (0, .ref (E.2.2 11)), (1, .int (zI h)), (2, .int (zI b))]) hx hb dX3_turnedOf_39 hl (k := 3) rfl ev3_39 (by decide) rfl (fun ls hl => ?_)
            refine lv_goto (tgt := 17) hx hb dX3_turnedOf_42 (by decide) ?_
            refine ih_17 b v3_39 (by omega) ?_ (by omega) _ (lv_sub hl [1, 2, 3, 0] rfl)
            · intro q
              subst ev3_39
              rw [show p + 1 - 1 = p by omega, kBst_step (by omega), ← h2 q]
              first | exact (kIf_t (h_31.resolve_right (fun g => c_34 g.1)).2).symm | exact (kIf_f (h_31.resolve_left (fun g => by omega)).2).symm
          · skip
            refine lv_iload_n hx hb dX3_turnedOf_37 rfl (lv_at hl 3 rfl) ?_
            refine lv_istore_n (lv' := [(2, .int (zI p)), (0, .ref (E.2.2 11)), (1, .int (zI h)), (3, .int (zI p))]) hx hb dX3_turnedOf_38 rfl hl (by decide) rfl (fun ls hl => ?_)
            obtain ⟨v3_39, ev3_39⟩ : ∃ v : Int, v = p + 1 := ⟨_, rfl⟩
            refine k_incN (v := v3_39) (lv' := [(3, .int (zI v3_39)), (2, .int (zI p)), (0, .ref (E.2.2 11)), (1, .int (zI h))]) hx hb dX3_turnedOf_39 hl (k := 3) rfl ev3_39 (by decide) rfl (fun ls hl => ?_)
            refine lv_goto (tgt := 17) hx hb dX3_turnedOf_42 (by decide) ?_
            refine ih_17 p v3_39 (by omega) ?_ (by omega) _ (lv_sub hl [2, 3, 1, 0] rfl)
            · intro q
              subst ev3_39
              rw [show p + 1 - 1 = p by omega, kBst_step (by omega), ← h2 q]
              first | exact (kIf_t (h_31.resolve_right (fun g => c_34 g.1)).2).symm | exact (kIf_f (h_31.resolve_left (fun g => by omega)).2).symm
    refine lp_17 ((M 15 h + 1 - 1).toNat + 1) (-1) 1 (by omega) (by first | (intro _; rfl) | (intro q; exfalso; omega)) (by omega) _ (lv_sub hl [2, 3, 1, 0] rfl)
abbrev rX3_more : Room := { frames := 1, cells := 0, slots := 0, locals := 21 }
set_option maxHeartbeats 4000000 in
set_option maxRecDepth 100000 in
theorem c_X3_more (l : Launch) (E : kE) (M : kM) (h st : Int) (hh : 0 ≤ h ∧ h < 2) (hW : kWm M) (hst : 0 ≤ st ∧ st ≤ 8) : kRO l yX3_more wsX3_more rX3_more E M [.ref (E.2.2 11), .int (zI h), .int (zI st)] (fun z => (∃ k : Int, kMx (kNewS (M (13 + h)) (M 15 h) st) k ∧ z = M 15 h + 1 - k) ∧ 0 ≤ z ∧ z ≤ 41) := by
  refine kRO_of (cc := cX3_more) (maxL := 7) (rt := .int) RX3 (by decide) rfl rfl (Nat.le_of_ble_eq_true rfl) k_nari ?_
  intro pg en s0 mi ar bl me co ls Q S hP hK ends hl
  have hx := S.1
  have hb := S.2.1
  have hinX30 : ∀ w ∈ wsX30, w ∈ wsX3_more := fun w h => List.mem_cons_of_mem _ (List.mem_append_right _ (h))
  have hl : lv_has ls 7 [(0, .ref (E.2.2 11)), (1, .int (zI h)), (2, .int (zI st))] := hl
  obtain ⟨hWh, hs0, hs1, hsv⟩ := id hW
  obtain ⟨hn0, hn1, hv⟩ := hWh h hh
  refine lv_aload_n hx hb dX3_more_0 rfl (lv_at hl 0 rfl) ?_
  refine k_mod S hK hP hinX30 2 (by decide) (S.2.2.2.2 _ (List.mem_cons_of_mem _ (List.mem_append_left _ (List.mem_of_getElem? (i := 0) rfl)))) dX3_more_1 rfl (.ref (E.2.2 15)) rfl rfl ?_
  refine lv_iload_n hx hb dX3_more_4 rfl (lv_at hl 1 rfl) ?_
  refine k_ald S hK hP 2 (by unfold kArr; omega) (by omega) dX3_more_5 ?_
  refine k_nm (fun v3_6 ev3_6 => ?_)
  refine lv_istore_n (lv' := [(3, .int (zI v3_6)), (0, .ref (E.2.2 11)), (1, .int (zI h)), (2, .int (zI st))]) hx hb dX3_more_6 rfl hl (by decide) rfl (fun ls hl => ?_)
  refine k_push hx hb dX3_more_7 ?_
  refine lv_istore (lv' := [(4, .int (zI 0)), (3, .int (zI v3_6)), (0, .ref (E.2.2 11)), (1, .int (zI h)), (2, .int (zI st))]) hx hb dX3_more_8 hl (by decide) rfl (fun ls hl => ?_)
  refine k_push hx hb dX3_more_10 ?_
  refine lv_istore (lv' := [(5, .int (zI 0)), (4, .int (zI 0)), (3, .int (zI v3_6)), (0, .ref (E.2.2 11)), (1, .int (zI h)), (2, .int (zI st))]) hx hb dX3_more_11 hl (by decide) rfl (fun ls hl => ?_)
  have lp_13 : ∀ (n_13 : Nat) (k : Int) (e : Int), (0 ≤ e ∧ e ≤ M 15 h ∧ 0 ≤ k ∧ k ≤ e) → (k = 0 ∨ kNewS (M (13 + h)) (M 15 h) st k) → (∀ e2 s : Int, 0 ≤ e2 → e2 < e → M (13 + h) e2 = st → kBk (M (13 + h)) (M 15 h) e2 s → 1 + s ≤ k) → (v3_6 - e < (n_13 : Int)) → ∀ ls : Array Slot, lv_has ls 7 [(0, .ref (E.2.2 11)), (1, .int (zI h)), (2, .int (zI st)), (3, .int (zI v3_6)), (4, .int (zI k)), (5, .int (zI e))] → W pg l en rX3_more s0 mi ar bl me co s0.heap [] 0 0 Q (F0 mi 13 ls []) := by
    intro n_13
    induction n_13 with
    | zero => intro k e h1 h2 h3 hm_13; exfalso; omega
    | succ n_13 ih_13 =>
      intro k e h1 h2 h3 hm_13 ls hl
      refine lv_iload hx hb dX3_more_13 (lv_at hl 5 rfl) ?_
      refine lv_iload_n hx hb dX3_more_15 rfl (lv_at hl 3 rfl) ?_
      refine k_ge (tgt := 93) hx hb dX3_more_16 (by decide) (by omega) (fun c_16 => ?_) (fun c_16 => ?_)
      · skip
        refine lv_iload_n hx hb dX3_more_93 rfl (lv_at hl 3 rfl) ?_
        refine k_push hx hb dX3_more_94 ?_
        refine k_add hx hb dX3_more_95 ?_
        refine lv_iload hx hb dX3_more_96 (lv_at hl 4 rfl) ?_
        refine k_sub hx hb dX3_more_98 ?_
        refine ends _ _ ((v3_6 + 1) - k) dX3_more_99 ?_
        refine ⟨⟨k, ⟨by omega, h2, fun v hv9 => ?_⟩, by omega⟩, by omega⟩
        obtain ⟨e2, s, q1, q2, q3, q4, rfl⟩ := hv9
        exact h3 e2 s q1 (by omega) q3 q4
      · skip
        refine lv_aload_n hx hb dX3_more_19 rfl (lv_at hl 0 rfl) ?_
        refine k_mod S hK hP hinX30 1 (by decide) (S.2.2.2.2 _ (List.mem_cons_of_mem _ (List.mem_append_left _ (List.mem_of_getElem? (i := 1) rfl)))) dX3_more_20 rfl (.ref (E.2.2 12)) rfl rfl ?_
        refine lv_iload_n hx hb dX3_more_23 rfl (lv_at hl 1 rfl) ?_
        refine k_aald S hK hP (13 + h) 2 (by unfold kRow; omega) dX3_more_24 ?_
        refine lv_iload hx hb dX3_more_25 (lv_at hl 5 rfl) ?_
        refine k_ald S hK hP 40 (by unfold kArr; omega) (by omega) dX3_more_27 ?_
        have q5 := hv e (by omega) (by omega)
        refine lv_iload_n hx hb dX3_more_28 rfl (lv_at hl 2 rfl) ?_
        refine k_eq (tgt := 35) hx hb dX3_more_29 (by decide) (by omega) (fun c_29 => ?_) (fun c_29 => ?_)
        · skip
          refine k_push hx hb dX3_more_35 ?_
          refine lv_istore (lv' := [(6, .int (zI 1)), (0, .ref (E.2.2 11)), (1, .int (zI h)), (2, .int (zI st)), (3, .int (zI v3_6)), (4, .int (zI k)), (5, .int (zI e))]) hx hb dX3_more_36 hl (by decide) rfl (fun ls hl => ?_)
          have lp_38 : ∀ (n_38 : Nat) (q : Int), (1 ≤ q ∧ q ≤ e + 1) → (∀ t : Int, 0 ≤ t → t < q - 1 → M (13 + h) (e - 1 - t) = M (13 + h) (M 15 h - 1 - t)) → (e + 1 - q < (n_38 : Int)) → ∀ ls : Array Slot, lv_has ls 7 [(0, .ref (E.2.2 11)), (1, .int (zI h)), (2, .int (zI st)), (3, .int (zI v3_6)), (4, .int (zI k)), (5, .int (zI e)), (6, .int (zI q))] → W pg l en rX3_more s0 mi ar bl me co s0.heap [] 0 0 Q (F0 mi 38 ls []) := by
            intro n_38
            induction n_38 with
            | zero => intro q g1 g2 hm_38; exfalso; omega
            | succ n_38 ih_38 =>
              intro q g1 g2 hm_38 ls hl
              refine lv_iload hx hb dX3_more_38 (lv_at hl 5 rfl) ?_
              refine lv_iload hx hb dX3_more_40 (lv_at hl 6 rfl) ?_
              refine k_sub hx hb dX3_more_42 ?_
              refine k_lt0 (tgt := 78) hx hb dX3_more_43 (by decide) (by omega) (fun c_43 => ?_) (fun c_43 => ?_)
              · skip
                have hbk : kBk (M (13 + h)) (M 15 h) e (q - 1) := by
                  refine ⟨by omega, by omega, g2, ?_⟩
                  rw [show e - 1 - (q - 1) = e - q by omega, show M 15 h - 1 - (q - 1) = v3_6 - q by omega]
                  first | exact Or.inl (by omega) | exact Or.inr c_69
                refine lv_iload hx hb dX3_more_78 (lv_at hl 4 rfl) ?_
                refine lv_iload hx hb dX3_more_80 (lv_at hl 6 rfl) ?_
                refine k_max S hl.1 (S.2.2.2.2 _ (List.mem_cons_of_mem _ (List.mem_append_left _ (List.mem_of_getElem? (i := 2) rfl)))) (S.2.2.2.2 _ (List.mem_cons_of_mem _ (List.mem_append_left _ (List.mem_of_getElem? (i := 3) rfl)))) (S.2.2.2.2 _ (List.mem_cons_of_mem _ (List.mem_append_left _ (List.mem_of_getElem? (i := 4) rfl)))) (S.2.2.2.2 _ (List.mem_cons_of_mem _ (List.mem_append_left _ (List.mem_of_getElem? (i := 5) rfl)))) ⟨Nat.le_of_ble_eq_true rfl, Nat.le_of_ble_eq_true rfl⟩ ⟨Nat.le_of_ble_eq_true rfl, Nat.le_of_ble_eq_true rfl⟩ (by omega) dX3_more_82 (fun z_82 h_82 => ?_)
                refine lv_istore (lv' := [(4, .int (zI z_82)), (0, .ref (E.2.2 11)), (1, .int (zI h)), (2, .int (zI st)), (3, .int (zI v3_6)), (5, .int (zI e)), (6, .int (zI q))]) hx hb dX3_more_85 hl (by decide) rfl (fun ls hl => ?_)
                obtain ⟨v5_87, ev5_87⟩ : ∃ v : Int, v = e + 1 := ⟨_, rfl⟩
                refine k_incN (v := v5_87) (lv' := [(5, .int (zI v5_87)), (4, .int (zI z_82)), (0, .ref (E.2.2 11)), (1, .int (zI h)), (2, .int (zI st)), (3, .int (zI v3_6)), (6, .int (zI q))]) hx hb dX3_more_87 hl (k := 5) rfl ev5_87 (by decide) rfl (fun ls hl => ?_)
                refine lv_goto (tgt := 13) hx hb dX3_more_90 (by decide) ?_
                refine ih_13 z_82 v5_87 (by omega) ?_ ?_ (by omega) _ (lv_sub hl [2, 3, 4, 5, 1, 0] rfl)
                · first
                    | exact h2
                    | (rcases h_82 with q9 | q9 <;> rw [q9.2]; exact Or.inr ⟨e, q - 1, by omega, by omega, c_29, hbk, by omega⟩; exact h2)
                · intro e2 s q1 q2 q3 q4
                  by_cases r : e2 = e
                  · subst r
                    first | (exfalso; exact c_29 q3) | (have := kBk_one q4 hbk; omega)
                  · have := h3 e2 s q1 (by omega) q3 q4
                    omega
              · skip
                refine lv_aload_n hx hb dX3_more_46 rfl (lv_at hl 0 rfl) ?_
                refine k_mod S hK hP hinX30 1 (by decide) (S.2.2.2.2 _ (List.mem_cons_of_mem _ (List.mem_append_left _ (List.mem_of_getElem? (i := 1) rfl)))) dX3_more_47 rfl (.ref (E.2.2 12)) rfl rfl ?_
                refine lv_iload_n hx hb dX3_more_50 rfl (lv_at hl 1 rfl) ?_
                refine k_aald S hK hP (13 + h) 2 (by unfold kRow; omega) dX3_more_51 ?_
                refine lv_iload hx hb dX3_more_52 (lv_at hl 5 rfl) ?_
                refine lv_iload hx hb dX3_more_54 (lv_at hl 6 rfl) ?_
                refine k_sub hx hb dX3_more_56 ?_
                refine k_ald S hK hP 40 (by unfold kArr; omega) (by omega) dX3_more_57 ?_
                have q6 := hv (e - q) (by omega) (by omega)
                refine lv_aload_n hx hb dX3_more_58 rfl (lv_at hl 0 rfl) ?_
                refine k_mod S hK hP hinX30 1 (by decide) (S.2.2.2.2 _ (List.mem_cons_of_mem _ (List.mem_append_left _ (List.mem_of_getElem? (i := 1) rfl)))) dX3_more_59 rfl (.ref (E.2.2 12)) rfl rfl ?_
                refine lv_iload_n hx hb dX3_more_62 rfl (lv_at hl 1 rfl) ?_
                refine k_aald S hK hP (13 + h) 2 (by unfold kRow; omega) dX3_more_63 ?_
                refine lv_iload_n hx hb dX3_more_64 rfl (lv_at hl 3 rfl) ?_
                refine lv_iload hx hb dX3_more_65 (lv_at hl 6 rfl) ?_
                refine k_sub hx hb dX3_more_67 ?_
                refine k_ald S hK hP 40 (by unfold kArr; omega) (by omega) dX3_more_68 ?_
                have q7 := hv (v3_6 - q) (by omega) (by omega)
                refine k_ne (tgt := 78) hx hb dX3_more_69 (by decide) (by omega) (fun c_69 => ?_) (fun c_69 => ?_)
                · skip
                  have hbk : kBk (M (13 + h)) (M 15 h) e (q - 1) := by
                    refine ⟨by omega, by omega, g2, ?_⟩
                    rw [show e - 1 - (q - 1) = e - q by omega, show M 15 h - 1 - (q - 1) = v3_6 - q by omega]
                    first | exact Or.inl (by omega) | exact Or.inr c_69
                  refine lv_iload hx hb dX3_more_78 (lv_at hl 4 rfl) ?_
                  refine lv_iload hx hb dX3_more_80 (lv_at hl 6 rfl) ?_
                  refine k_max S hl.1 (S.2.2.2.2 _ (List.mem_cons_of_mem _ (List.mem_append_left _ (List.mem_of_getElem? (i := 2) rfl)))) (S.2.2.2.2 _ (List.mem_cons_of_mem _ (List.mem_append_left _ (List.mem_of_getElem? (i := 3) rfl)))) (S.2.2.2.2 _ (List.mem_cons_of_mem _ (List.mem_append_left _ (List.mem_of_getElem? (i := 4) rfl)))) (S.2.2.2.2 _ (List.mem_cons_of_mem _ (List.mem_append_left _ (List.mem_of_getElem? (i := 5) rfl)))) ⟨Nat.le_of_ble_eq_true rfl, Nat.le_of_ble_eq_true rfl⟩ ⟨Nat.le_of_ble_eq_true rfl, Nat.le_of_ble_eq_true rfl⟩ (by omega) dX3_more_82 (fun z_82 h_82 => ?_)
                  refine lv_istore (lv' := [(4, .int (zI z_82)), (0, .ref (E.2.2 11)), (1, .int (zI h)), (2, .int (zI st)), (3, .int (zI v3_6)), (5, .int (zI e)), (6, .int (zI q))]) hx hb dX3_more_85 hl (by decide) rfl (fun ls hl => ?_)
                  obtain ⟨v5_87, ev5_87⟩ : ∃ v : Int, v = e + 1 := ⟨_, rfl⟩
                  refine k_incN (v := v5_87) (lv' := [(5, .int (zI v5_87)), (4, .int (zI z_82)), (0, .ref (E.2.2 11)), (1, .int (zI h)), (2, .int (zI st)), (3, .int (zI v3_6)), (6, .int (zI q))]) hx hb dX3_more_87 hl (k := 5) rfl ev5_87 (by decide) rfl (fun ls hl => ?_)
                  refine lv_goto (tgt := 13) hx hb dX3_more_90 (by decide) ?_
                  refine ih_13 z_82 v5_87 (by omega) ?_ ?_ (by omega) _ (lv_sub hl [2, 3, 4, 5, 1, 0] rfl)
                  · first
                      | exact h2
                      | (rcases h_82 with q9 | q9 <;> rw [q9.2]; exact Or.inr ⟨e, q - 1, by omega, by omega, c_29, hbk, by omega⟩; exact h2)
                  · intro e2 s q1 q2 q3 q4
                    by_cases r : e2 = e
                    · subst r
                      first | (exfalso; exact c_29 q3) | (have := kBk_one q4 hbk; omega)
                    · have := h3 e2 s q1 (by omega) q3 q4
                      omega
                · skip
                  obtain ⟨v6_72, ev6_72⟩ : ∃ v : Int, v = q + 1 := ⟨_, rfl⟩
                  refine k_incN (v := v6_72) (lv' := [(6, .int (zI v6_72)), (0, .ref (E.2.2 11)), (1, .int (zI h)), (2, .int (zI st)), (3, .int (zI v3_6)), (4, .int (zI k)), (5, .int (zI e))]) hx hb dX3_more_72 hl (k := 6) rfl ev6_72 (by decide) rfl (fun ls hl => ?_)
                  refine lv_goto (tgt := 38) hx hb dX3_more_75 (by decide) ?_
                  refine ih_38 v6_72 (by omega) ?_ (by omega) _ (lv_sub hl [1, 2, 3, 4, 5, 6, 0] rfl)
                  · intro t q1 q2
                    by_cases r : t = q - 1
                    · rw [r, show e - 1 - (q - 1) = e - q by omega, show M 15 h - 1 - (q - 1) = v3_6 - q by omega]; exact c_69
                    · exact g2 t q1 (by omega)
          refine lp_38 ((e + 1 - 1).toNat + 1) 1 (by omega) (by intro t q1 q2; exfalso; omega) (by omega) _ (lv_sub hl [1, 2, 3, 4, 5, 6, 0] rfl)
        · skip
          refine lv_goto (tgt := 87) hx hb dX3_more_32 (by decide) ?_
          obtain ⟨v5_87, ev5_87⟩ : ∃ v : Int, v = e + 1 := ⟨_, rfl⟩
          refine k_incN (v := v5_87) (lv' := [(5, .int (zI v5_87)), (0, .ref (E.2.2 11)), (1, .int (zI h)), (2, .int (zI st)), (3, .int (zI v3_6)), (4, .int (zI k))]) hx hb dX3_more_87 hl (k := 5) rfl ev5_87 (by decide) rfl (fun ls hl => ?_)
          refine lv_goto (tgt := 13) hx hb dX3_more_90 (by decide) ?_
          refine ih_13 k v5_87 (by omega) ?_ ?_ (by omega) _ (lv_sub hl [1, 2, 3, 4, 5, 0] rfl)
          · first
              | exact h2
              | (rcases h_82 with q9 | q9 <;> rw [q9.2]; exact Or.inr ⟨e, q - 1, by omega, by omega, c_29, hbk, by omega⟩; exact h2)
          · intro e2 s q1 q2 q3 q4
            by_cases r : e2 = e
            · subst r
              first | (exfalso; exact c_29 q3) | (have := kBk_one q4 hbk; omega)
            · have := h3 e2 s q1 (by omega) q3 q4
              omega
  refine lp_13 ((v3_6 - 0).toNat + 1) 0 0 (by omega) (by exact Or.inl rfl) (by intro e2 s q1 q2; exfalso; omega) (by omega) _ (lv_sub hl [3, 4, 5, 2, 1, 0] rfl)
