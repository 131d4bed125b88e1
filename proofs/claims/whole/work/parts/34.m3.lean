abbrev rX3_mean : Room := { frames := 4, cells := 0, slots := 0, locals := 96 }
set_option maxHeartbeats 4000000 in
set_option maxRecDepth 100000 in
theorem c_X3_mean (l : Launch) (E : kE) (hE : kInj E) (M : kM) (hW : kWm M) : kMD l yX3_mean wsX3_mean rX3_mean E M [.ref (E.2.2 11)] (fun r N => kFm M N ∧ N 11 0 = 0 ∧ kIsMean (M 13) (M 15 0) (M 14) (M 15 1) r) := by
  refine kMD_of (cc := cX3_mean) (maxL := 5) RX3 (by decide) rfl rfl (Nat.le_of_ble_eq_true rfl) ?_
  intro pg en s0 mi ar bl me co ls Q S hP hS hK ends0 ends1 hl
  have hx := S.1
  have hb := S.2.1
  have hinX30 : ∀ w ∈ wsX30, w ∈ wsX3_mean := fun w h => List.mem_cons_of_mem _ (List.mem_append_right _ (h))
  have hl : lv_has ls 5 [(0, .ref (E.2.2 11))] := hl
  obtain ⟨hWh, hs0, hs1, hsv⟩ := id hW
  refine lv_aload_n hx hb dX3_mean_0 rfl (lv_at hl 0 rfl) ?_
  refine k_push hx hb dX3_mean_1 ?_
  refine k_putmod S hK hE hP hS hinX30 0 (by decide) (S.2.2.2.2 _ (List.mem_cons_of_mem _ (List.mem_append_left _ (List.mem_append_left _ (List.mem_of_getElem? (i := 0) rfl))))) dX3_mean_2 rfl (fun H locs hP hS => ?_)
  obtain ⟨M2, eM2⟩ : ∃ N9 : kM, N9 = kU M 11 0 0 := ⟨_, rfl⟩
  have hP : va_P E.1 vwCl (kW E M2) H := by rw [eM2]; exact hP
  have t2 := kFm_trans (fun _ _ _ _ => rfl) (kFt_m (kFt_of eM2))
  have t0 : M2 11 0 = 0 := kFt_11 eM2
  refine k_push hx hb dX3_mean_5 ?_
  refine lv_istore_n (lv' := [(1, .int (zI 0)), (0, .ref (E.2.2 11))]) hx hb dX3_mean_6 rfl hl (by decide) rfl (fun ls hl => ?_)
  refine k_push hx hb dX3_mean_7 ?_
  refine lv_istore_n (lv' := [(2, .int (zI 0)), (1, .int (zI 0)), (0, .ref (E.2.2 11))]) hx hb dX3_mean_8 rfl hl (by decide) rfl (fun ls hl => ?_)
  refine k_push hx hb dX3_mean_9 ?_
  refine lv_istore_n (lv' := [(3, .int (zI 0)), (2, .int (zI 0)), (1, .int (zI 0)), (0, .ref (E.2.2 11))]) hx hb dX3_mean_10 rfl hl (by decide) rfl (fun ls hl => ?_)
  have lp_11 : ∀ (n_11 : Nat) (sm : Int) (cn : Int) (h : Int) (N : kM) (H : Heap) (locs : List Loc), (0 ≤ h ∧ h ≤ 2) → (kFm M N) → (N 11 0 = 0) → (∃ P : Int → Int → Int, (∀ g : Int, 0 ≤ g → g < h → kOrd (M (13 + g)) (M 15 g) (P g)) ∧ sm = kSum (fun g => kSum (kNx (M (13 + g)) (M 15 g) (P g)) (M 15 g).toNat) h.toNat) → (cn = kSum (fun g => kPr (M 15 g)) h.toNat) → (0 ≤ cn ∧ cn ≤ 40 * h) → (2 - h < (n_11 : Int)) → va_P E.1 vwCl (kW E N) H → va_S (kA E s0.heap.size) s0.heap H locs → ∀ ls : Array Slot, lv_has ls 5 [(0, .ref (E.2.2 11)), (1, .int (zI sm)), (2, .int (zI cn)), (3, .int (zI h))] → W pg l en rX3_mean s0 mi ar bl me co H locs 0 0 Q (F0 mi 11 ls []) := by
    intro n_11
    induction n_11 with
    | zero => intro sm cn h N H locs f1 f2 f3 f4 f5 f6 hm_11; exfalso; omega
    | succ n_11 ih_11 =>
      intro sm cn h N H locs f1 f2 f3 f4 f5 f6 hm_11 hP hS ls hl
      have hWN : kWm N := kWm_m hW f2
      have e13 : N 13 = M 13 := kFm_row f2 (by omega)
      have e14 : N 14 = M 14 := kFm_row f2 (by omega)
      have e16 : N 16 = M 16 := kFm_row f2 (by omega)
      have e15 : ∀ k : Int, N 15 k = M 15 k := fun k => f2 15 k (by omega) (by omega)
      have e11 : N 11 4 = M 11 4 := f2 11 4 (by omega) (by omega)
      refine lv_iload_n hx hb dX3_mean_11 rfl (lv_at hl 3 rfl) ?_
      refine k_push hx hb dX3_mean_12 ?_
      refine k_ge (tgt := 75) hx hb dX3_mean_13 (by decide) (by omega) (fun c_13 => ?_) (fun c_13 => ?_)
      · skip
        refine lv_iload_n hx hb dX3_mean_75 rfl (lv_at hl 2 rfl) ?_
        refine k_ne0 (tgt := 83) hx hb dX3_mean_76 (by decide) (by omega) (fun c_76 => ?_) (fun c_76 => ?_)
        · skip
          refine lv_iload_n hx hb dX3_mean_83 rfl (lv_at hl 1 rfl) ?_
          refine lv_i2d hx hb dX3_mean_84 ?_
          refine lv_iload_n hx hb dX3_mean_85 rfl (lv_at hl 2 rfl) ?_
          refine lv_i2d hx hb dX3_mean_86 ?_
          refine ends1 _ _ sm cn N _ _ dX3_mean_87 dX3_mean_88 hP hS (fun r9 hr9 => ?_)
          obtain ⟨P, p1, p2⟩ := f4
          rw [show h = 2 by omega, kSum_two] at p2
          rw [show h = 2 by omega, kSum_two] at f5
          refine ⟨f2, f3, P 0, P 1, p1 0 (by omega) (by omega), p1 1 (by omega) (by omega), ?_⟩
          have ea : sm = kSum (kNx (M 13) (M 15 0) (P 0)) (M 15 0).toNat + kSum (kNx (M 14) (M 15 1) (P 1)) (M 15 1).toNat := p2
          rw [← ea, ← f5]
          unfold kMean
          rw [if_neg (by omega)]
          exact hr9
        · skip
          refine lv_dconst0 hx hb dX3_mean_79 ?_
          refine lv_goto (tgt := 88) hx hb dX3_mean_80 (by decide) ?_
          refine ends0 _ _ N _ _ dX3_mean_88 hP hS ?_
          obtain ⟨P, p1, p2⟩ := f4
          rw [show h = 2 by omega, kSum_two] at p2
          rw [show h = 2 by omega, kSum_two] at f5
          refine ⟨f2, f3, P 0, P 1, p1 0 (by omega) (by omega), p1 1 (by omega) (by omega), ?_⟩
          have eb : kPr (M 15 0) + kPr (M 15 1) = 0 := by omega
          rw [eb]
          unfold kMean
          rw [if_pos rfl]
          exact alike64_refl _
      · skip
        obtain ⟨hn0, hn1, hv⟩ := hWh h (by omega)
        have eh : N (13 + h) = M (13 + h) := kFm_row f2 (by omega)
        have eN15 := e15 h
        refine lv_aload_n hx hb dX3_mean_16 rfl (lv_at hl 0 rfl) ?_
        refine lv_iload_n hx hb dX3_mean_17 rfl (lv_at hl 3 rfl) ?_
        refine k_callVV (As := [.int (zI h)]) (rest := []) S hK hP hS (c_X3_order l E hE N h (by omega) (by assumption)) (cwV 1 S.2.2.2.2 gX3_mean_X3_order rfl rfl rfl (by decide +kernel) ⟨Nat.le_of_ble_eq_true rfl, Nat.le_of_ble_eq_true rfl⟩) (k_rY hK hP rfl) rfl hl.1 rfl (Nat.le_of_ble_eq_true rfl) dX3_mean_18 ⟨Nat.le_of_ble_eq_true rfl, Nat.le_of_ble_eq_true rfl⟩ (fun M_18 H locs h_18 hP hS => ?_)
        obtain ⟨o1, o2, o3⟩ := h_18
        rw [e15 h, eh] at o3
        have hF1 : kFm M M_18 := kFm_trans f2 (kFm_F o1 (by omega))
        have e81 : M_18 15 h = M 15 h := hF1 15 h (by omega) (by omega)
        have e82 : M_18 (13 + h) = M (13 + h) := kFm_row hF1 (by omega)
        have hz18 : M_18 11 0 = 0 := by rw [o1 11 0 (by omega)]; exact f3
        refine k_push hx hb dX3_mean_21 ?_
        refine lv_istore (lv' := [(4, .int (zI 1)), (0, .ref (E.2.2 11)), (1, .int (zI sm)), (2, .int (zI cn)), (3, .int (zI h))]) hx hb dX3_mean_22 hl (by decide) rfl (fun ls hl => ?_)
        have lp_24 : ∀ (n_24 : Nat) (s2 : Int) (c2 : Int) (r : Int), (1 ≤ r ∧ (r ≤ M 15 h ∨ r = 1)) → (s2 = sm + kSum (kNx (M (13 + h)) (M 15 h) (M_18 59)) (r - 1).toNat) → (c2 = cn + (r - 1)) → (M 15 h + 1 - r < (n_24 : Int)) → ∀ ls : Array Slot, lv_has ls 5 [(0, .ref (E.2.2 11)), (1, .int (zI s2)), (2, .int (zI c2)), (3, .int (zI h)), (4, .int (zI r))] → W pg l en rX3_mean s0 mi ar bl me co H locs 0 0 Q (F0 mi 24 ls []) := by
          intro n_24
          induction n_24 with
          | zero => intro s2 c2 r k1 k2 k3 hm_24; exfalso; omega
          | succ n_24 ih_24 =>
            intro s2 c2 r k1 k2 k3 hm_24 ls hl
            refine lv_iload hx hb dX3_mean_24 (lv_at hl 4 rfl) ?_
            refine lv_aload_n hx hb dX3_mean_26 rfl (lv_at hl 0 rfl) ?_
            refine k_mod S hK hP hinX30 2 (by decide) (S.2.2.2.2 _ (List.mem_cons_of_mem _ (List.mem_append_left _ (List.mem_append_left _ (List.mem_of_getElem? (i := 1) rfl))))) dX3_mean_27 rfl (.ref (E.2.2 15)) rfl rfl ?_
            refine lv_iload_n hx hb dX3_mean_30 rfl (lv_at hl 3 rfl) ?_
            refine k_ald S hK hP 2 (by unfold kArr; omega) (by omega) dX3_mean_31 ?_
            refine k_ge (tgt := 69) hx hb dX3_mean_32 (by decide) (by omega) (fun c_32 => ?_) (fun c_32 => ?_)
            · skip
              obtain ⟨v3_69, ev3_69⟩ : ∃ v : Int, v = h + 1 := ⟨_, rfl⟩
              refine k_incN (v := v3_69) (lv' := [(3, .int (zI v3_69)), (0, .ref (E.2.2 11)), (1, .int (zI s2)), (2, .int (zI c2)), (4, .int (zI r))]) hx hb dX3_mean_69 hl (k := 3) rfl ev3_69 (by decide) rfl (fun ls hl => ?_)
              refine lv_goto (tgt := 11) hx hb dX3_mean_72 (by decide) ?_
              refine ih_11 s2 c2 v3_69 M_18 _ _ (by omega) (by exact hF1) (by exact hz18) ?_ ?_ (by omega) (by omega) hP hS _ (lv_sub hl [1, 2, 3, 0] rfl)
              · obtain ⟨P, p1, p2⟩ := f4
                obtain ⟨P2, p3, p4⟩ := kMeanStep (by omega) p1 p2 o3
                subst ev3_69
                refine ⟨P2, p3, ?_⟩
                rw [← p4, k2, kNxSum (x := M (13 + h)) (n := M 15 h) (P := M_18 59) (r := r) (by omega) (by omega) (by omega) (by omega)]
              · subst ev3_69
                rw [kSum_step _ (by omega), ← f5, k3]
                unfold kPr
                split <;> omega
            · skip
              have qp := o3.1 (r - 1) (by omega) (by omega)
              have qq := o3.1 r (by omega) (by omega)
              have qs := o2 (M_18 59 (r - 1)) (M_18 59 r) (by omega) (by omega) (by omega) (by omega)
              rw [e81, e82] at qs
              refine lv_iload_n hx hb dX3_mean_35 rfl (lv_at hl 1 rfl) ?_
              refine lv_aload_n hx hb dX3_mean_36 rfl (lv_at hl 0 rfl) ?_
              refine k_mod S hK hP hinX30 5 (by decide) (S.2.2.2.2 _ (List.mem_cons_of_mem _ (List.mem_append_left _ (List.mem_append_left _ (List.mem_of_getElem? (i := 2) rfl))))) dX3_mean_37 rfl (.ref (E.2.2 17)) rfl rfl ?_
              refine lv_aload_n hx hb dX3_mean_40 rfl (lv_at hl 0 rfl) ?_
              refine k_mod S hK hP hinX30 6 (by decide) (S.2.2.2.2 _ (List.mem_cons_of_mem _ (List.mem_append_left _ (List.mem_append_left _ (List.mem_of_getElem? (i := 3) rfl))))) dX3_mean_41 rfl (.ref (E.2.2 59)) rfl rfl ?_
              refine lv_iload hx hb dX3_mean_44 (lv_at hl 4 rfl) ?_
              refine k_push hx hb dX3_mean_46 ?_
              refine k_sub hx hb dX3_mean_47 ?_
              refine k_ald S hK hP 40 (by unfold kArr; omega) (by omega) dX3_mean_48 ?_
              refine k_aald S hK hP (18 + (M_18 59 (r - 1))) 41 (by unfold kRow; omega) dX3_mean_49 ?_
              refine lv_aload_n hx hb dX3_mean_50 rfl (lv_at hl 0 rfl) ?_
              refine k_mod S hK hP hinX30 6 (by decide) (S.2.2.2.2 _ (List.mem_cons_of_mem _ (List.mem_append_left _ (List.mem_append_left _ (List.mem_of_getElem? (i := 3) rfl))))) dX3_mean_51 rfl (.ref (E.2.2 59)) rfl rfl ?_
              refine lv_iload hx hb dX3_mean_54 (lv_at hl 4 rfl) ?_
              refine k_ald S hK hP 40 (by unfold kArr; omega) (by omega) dX3_mean_56 ?_
              refine k_ald S hK hP 41 (by unfold kArr; omega) (by omega) dX3_mean_57 ?_
              refine k_add hx hb dX3_mean_58 ?_
              refine k_nm (fun v1_59 ev1_59 => ?_)
              refine lv_istore_n (lv' := [(1, .int (zI v1_59)), (0, .ref (E.2.2 11)), (2, .int (zI c2)), (3, .int (zI h)), (4, .int (zI r))]) hx hb dX3_mean_59 rfl hl (by decide) rfl (fun ls hl => ?_)
              obtain ⟨v2_60, ev2_60⟩ : ∃ v : Int, v = c2 + 1 := ⟨_, rfl⟩
              refine k_incN (v := v2_60) (lv' := [(2, .int (zI v2_60)), (1, .int (zI v1_59)), (0, .ref (E.2.2 11)), (3, .int (zI h)), (4, .int (zI r))]) hx hb dX3_mean_60 hl (k := 2) rfl ev2_60 (by decide) rfl (fun ls hl => ?_)
              obtain ⟨v4_63, ev4_63⟩ : ∃ v : Int, v = r + 1 := ⟨_, rfl⟩
              refine k_incN (v := v4_63) (lv' := [(4, .int (zI v4_63)), (2, .int (zI v2_60)), (1, .int (zI v1_59)), (0, .ref (E.2.2 11)), (3, .int (zI h))]) hx hb dX3_mean_63 hl (k := 4) rfl ev4_63 (by decide) rfl (fun ls hl => ?_)
              refine lv_goto (tgt := 24) hx hb dX3_mean_66 (by decide) ?_
              refine ih_24 v1_59 v2_60 v4_63 (by omega) ?_ (by omega) (by omega) _ (lv_sub hl [3, 2, 1, 4, 0] rfl)
              · subst ev4_63
                rw [show r + 1 - 1 = r - 1 + 1 by omega, kSum_step _ (by omega), kNx_in (by omega), show r - 1 + 1 = r by omega, ev1_59, qs, k2]
                omega
        refine lp_24 (((M 15 h + 1 - 1 : Int)).toNat + 1) sm cn 1 (by omega) ?_ (by omega) (by omega) _ (lv_sub hl [1, 2, 3, 4, 0] rfl)
        · show sm = sm + kSum _ 0
          exact (Int.add_zero _).symm
  refine lp_11 (((2 - 0 : Int)).toNat + 1) 0 0 0 M2 _ _ (by omega) (by exact t2) (by exact t0) ?_ (by rfl) (by omega) (by omega) hP hS _ (lv_sub hl [3, 2, 1, 0] rfl)
  · exact ⟨fun _ _ => 0, fun g g1 g2 => absurd g2 (by omega), rfl⟩
