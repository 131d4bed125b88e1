abbrev rL_build : Room := { frames := 31, cells := 2465, slots := 98764, locals := 1228 }
set_option maxHeartbeats 4000000 in
set_option maxRecDepth 100000 in
/-- sixty acts -/
theorem c_L_build (l : Launch) (E0 : kE) (hE : kInj E0) (M : kM) (hlst : l.stackTraces = false) (bs L : Nat) (xs : Nat → Int32) (hL : L ≤ 260) (hI : kI0 M) (h0 : ∀ i : Int, 0 ≤ i → i < 3 → M i 1 = 0) : kNXS l yL_build wsL_build rL_build 2465 98764 E0 M bs L xs [.ref (E0.2.2 10), .ref bs] (fun E1 M1 x => kJ E1 M1 x ∧ 11 ≤ x ∧ x < kn E1) := by
  refine kNXS_of (cc := cL_build) (maxL := 5) (rt := (.object "HemSuffixesLaw$Sim")) RL hE hL (by decide) rfl rfl (Nat.le_of_ble_eq_true rfl) (Or.inl ⟨_, rfl⟩) ?_
  intro pg en s0 mi ar bl me co ls Q S hP hS hK hG hXs hZ hScr ends hl
  have hx := S.1
  have hb := S.2.1
  have hn := hK.2.2.2
  have hinX00 : ∀ w ∈ wsX00, w ∈ wsL_build := fun w h => List.mem_cons_of_mem _ (List.mem_append_left _ (List.mem_append_left _ (List.mem_append_left _ (List.mem_append_left _ (List.mem_append_left _ (List.mem_append_right _ (h)))))))
  have hinX10 : ∀ w ∈ wsX10, w ∈ wsL_build := fun w h => List.mem_cons_of_mem _ (List.mem_append_left _ (List.mem_append_left _ (List.mem_append_left _ (List.mem_append_left _ (List.mem_append_right _ (h))))))
  have hinX20 : ∀ w ∈ wsX20, w ∈ wsL_build := fun w h => List.mem_cons_of_mem _ (List.mem_append_left _ (List.mem_append_left _ (List.mem_append_left _ (List.mem_append_right _ (h)))))
  have hinX40 : ∀ w ∈ wsX40, w ∈ wsL_build := fun w h => List.mem_cons_of_mem _ (List.mem_append_left _ (List.mem_append_left _ (List.mem_append_left _ (List.mem_append_left _ (List.mem_append_left _ (List.mem_append_left _ (List.mem_append_right _ (h))))))))
  have hX : kExt E0 E0 := kExt.rf E0
  have hl : lv_has ls 5 [(0, .ref (E0.2.2 10)), (1, .ref bs)] := hl
  refine k_newSim S hK hG hP hS hinX40 (S.2.2.2.2 _ (List.mem_cons_of_mem _ (List.mem_append_left _ (List.mem_append_left _ (List.mem_append_left _ (List.mem_append_left _ (List.mem_append_left _ (List.mem_append_left _ (List.mem_append_left _ (List.mem_append_left _ (List.mem_of_getElem? (i := 0) rfl))))))))))) (S.2.2.2.2 _ (List.mem_cons_of_mem _ (List.mem_append_left _ (List.mem_append_left _ (List.mem_append_left _ (List.mem_append_left _ (List.mem_append_left _ (List.mem_append_left _ (List.mem_append_left _ (List.mem_append_left _ (List.mem_of_getElem? (i := 1) rfl))))))))))) (S.2.2.2.2 _ (List.mem_cons_of_mem _ (List.mem_append_left _ (List.mem_append_left _ (List.mem_append_left _ (List.mem_append_left _ (List.mem_append_left _ (List.mem_append_left _ (List.mem_append_left _ (List.mem_append_left _ (List.mem_of_getElem? (i := 2) rfl))))))))))) (by show _ ≤ (2465 : Nat); omega) (by show _ ≤ (98764 : Nat); omega) dL_build_0 (fun Ea H hX0 hn0 hK hG hP hS => ?_)
  obtain ⟨Ma, eMa⟩ : ∃ N9 : kM, N9 = kNw M (kn E0) (kSo) := ⟨_, rfl⟩
  rw [← eMa] at hP
  have hM0 : ∀ k i : Int, k < kn E0 → Ma k i = M k i := fun k i hk => by rw [eMa]; exact kNw_ne (by omega)
  obtain ⟨q0, eq0⟩ : ∃ q : Int, q = kn E0 := ⟨_, rfl⟩
  rw [← eq0] at eMa ⊢
  have hl : lv_has ls 5 [(0, .ref (Ea.2.2 10)), (1, .ref bs)] := by rw [hX0.ad (c := 10) (by omega)]; exact hl
  have hX := hX.tr hX0
  refine lv_dup hx hb dL_build_3 rfl ?_
  have hk3 : Ma q0 (-2) = 3 := by rw [eMa, kNw_hit]; rfl
  refine k_callINN (As := []) (rest := [.ref (Ea.2.2 q0)]) S hK hG hP hS (c_X4_init l Ea hG.1 Ma q0 (by omega) (by assumption)) ⟨va_cnB 0 S.2.2.2.2 gL_build_X4_init_n61 rfl rfl rfl hK.2.1.2.2.2.2 (S.2.2.2.2 _ (List.mem_cons_of_mem _ (List.mem_append_left _ (List.mem_append_left _ (List.mem_append_left _ (List.mem_append_left _ (List.mem_append_left _ (List.mem_append_left _ (List.mem_append_left _ (List.mem_append_left _ (List.mem_of_getElem? (i := 2) rfl))))))))))) (by decide +kernel) ⟨Nat.le_of_ble_eq_true rfl, Nat.le_of_ble_eq_true rfl⟩, rfl, (S.2.2.2.2 _ (List.mem_cons_of_mem _ (List.mem_append_left _ (List.mem_append_left _ (List.mem_append_left _ (List.mem_append_left _ (List.mem_append_left _ (List.mem_append_left _ (List.mem_append_left _ (List.mem_append_left _ (List.mem_of_getElem? (i := 3) rfl)))))))))))⟩ rfl hl.1 rfl (Nat.le_of_ble_eq_true rfl) dL_build_4 ⟨by show _ ≤ (2465 : Nat); omega, by show _ ≤ (98764 : Nat); omega⟩ (fun E4 M4 H locs hX4 hK hG h_4 hP hS => ?_)
  have hl : lv_has ls 5 [(0, .ref (E4.2.2 10)), (1, .ref bs)] := by rw [hX4.ad (c := 10) (by omega)]; exact hl
  rw [← hX4.ad (c := q0) (by omega)]
  have hX := hX.tr hX4
  obtain ⟨y, hs, hF4⟩ := h_4
  have e4 : ∀ c i : Int, c < 11 → M4 c i = M c i := fun c i hc => (hF4 c i (by omega)).trans (hM0 c i (by omega))
  have hJ : kJ E4 M4 q0 := kJ_fin (N := M4) hs (kI0_congr hI e4) (fun _ _ _ => rfl) (fun i i1 i2 => by rw [e4 i 1 (by omega)]; exact h0 i i1 i2) (fun i j i1 i2 j1 j2 => by have j3 : j < 0 := j2; omega)
  have hg := hs.1
  refine W.widen (k := 5) (n := 4) (by omega) (by omega) ?_
  refine lv_astore_n (lv' := [(2, .ref (E4.2.2 q0)), (0, .ref (E4.2.2 10)), (1, .ref bs)]) hx hb dL_build_7 rfl hl (by decide) rfl (fun ls hl => ?_)
  refine k_push hx hb dL_build_8 ?_
  refine lv_istore_n (lv' := [(3, .int (zI 0)), (2, .ref (E4.2.2 q0)), (0, .ref (E4.2.2 10)), (1, .ref bs)]) hx hb dL_build_9 rfl hl (by decide) rfl (fun ls hl => ?_)
  have lp_10 : ∀ (n_10 : Nat) (t : Int) (E_10 : kE) (M_10 : kM) (H : Heap) (locs : List Loc), (0 ≤ t ∧ t ≤ 60) → (kJ E_10 M_10 q0) → (60 - t < (n_10 : Int)) → kExt E0 E_10 → kK E_10 s0 → kG (kA E0 s0.heap.size) s0.heap.size E_10 → va_P E_10.1 vwCl (kW E_10 M_10) H → va_S (kA E0 s0.heap.size) s0.heap H locs → ∀ ls : Array Slot, lv_has ls 5 [(0, .ref (E_10.2.2 10)), (1, .ref bs), (2, .ref (E_10.2.2 q0)), (3, .int (zI t))] → W pg l en rL_build s0 mi ar bl me co H locs (5 + 41 * t.toNat) (4 + 1646 * t.toNat) Q (F0 mi 10 ls []) := by
    intro n_10
    induction n_10 with
    | zero => intro t E_10 M_10 H locs h1 hJ hm_10; exfalso; omega
    | succ n_10 ih_10 =>
      intro t E_10 M_10 H locs h1 hJ hm_10 hX hK hG hP hS ls hl
      have hn := hK.2.2.2
      have hg := hJ.2.choose_spec.1
      refine lv_iload_n hx hb dL_build_10 rfl (lv_at hl 3 rfl) ?_
      refine k_bpush hx hb dL_build_11 (by decide) ?_
      refine k_ge (tgt := 56) hx hb dL_build_13 (by decide) (by omega) (fun c_13 => ?_) (fun c_13 => ?_)
      · skip
        refine lv_aload_n hx hb dL_build_56 rfl (lv_at hl 2 rfl) ?_
        refine W.widen (k := 2465) (n := 98764) (by omega) (by omega) ?_
        refine ends _ _ E_10 M_10 (q0) _ _ dL_build_57 hX hG hP hS ?_
        exact ⟨hJ, by omega, by omega⟩
      · skip
        refine lv_aload_n hx hb dL_build_16 rfl (lv_at hl 1 rfl) ?_
        refine lv_iload_n hx hb dL_build_17 rfl (lv_at hl 3 rfl) ?_
        refine k_bpush hx hb dL_build_18 (by decide) ?_
        refine k_rem hx hb dL_build_20 (by omega) ?_
        refine k_callSC (As := [.ref bs, .int (zI (t % 16))]) (rest := []) S hScr hS (c_L_cell l bs L xs (t % 16) hL (by omega)) (va_cwS 2 S.2.2.2.2 gL_build_L_cell rfl rfl rfl (by decide +kernel) ⟨Nat.le_of_ble_eq_true rfl, Nat.le_of_ble_eq_true rfl⟩) rfl hl.1 rfl (Nat.le_of_ble_eq_true rfl) dL_build_21 ⟨by show _ ≤ (2465 : Nat); omega, by show _ ≤ (98764 : Nat); omega⟩ (fun z_21 h_21 => ?_)
        refine lv_iload_n hx hb dL_build_24 rfl (lv_at hl 3 rfl) ?_
        refine k_bpush hx hb dL_build_25 (by decide) ?_
        refine k_div hx hb dL_build_27 (by omega) ?_
        refine k_push hx hb dL_build_28 ?_
        refine k_mul hx hb dL_build_29 ?_
        refine k_shr hx hb dL_build_30 (fun z_30 h_30 => ?_)
        refine k_bpush hx hb dL_build_31 (by decide) ?_
        refine lv_iload_n hx hb dL_build_33 rfl (lv_at hl 3 rfl) ?_
        refine k_mul hx hb dL_build_34 ?_
        refine k_add hx hb dL_build_35 ?_
        refine k_nm (fun v4_36 ev4_36 => ?_)
        refine lv_istore (lv' := [(4, .int (zI v4_36)), (0, .ref (E_10.2.2 10)), (1, .ref bs), (2, .ref (E_10.2.2 q0)), (3, .int (zI t))]) hx hb dL_build_36 hl (by decide) rfl (fun ls hl => ?_)
        refine lv_aload_n hx hb dL_build_38 rfl (lv_at hl 1 rfl) ?_
        refine lv_aload_n hx hb dL_build_39 rfl (lv_at hl 3 rfl) ?_
        refine lv_iload hx hb dL_build_40 (lv_at hl 0 rfl) ?_
        refine k_callHX (As := [.ref (E_10.2.2 10), .ref (E_10.2.2 q0), .int (zI v4_36)]) (rest := []) S hK hXs hZ hG hP hS (c_L_act l E_10 hG.1 M_10 hlst q0 v4_36 hJ) (vx_cwSW 3 S.2.2.2.2 gL_build_L_act rfl rfl rfl (by decide +kernel) ⟨Nat.le_of_ble_eq_true rfl, Nat.le_of_ble_eq_true rfl⟩) rfl hl.1 rfl (Nat.le_of_ble_eq_true rfl) dL_build_42 ⟨by show _ ≤ (2465 : Nat); omega, by show _ ≤ (98764 : Nat); omega⟩ (fun E42 M42 z_42 H locs hX42 hK hG h_42 hP hS => ?_)
        have hl : lv_has ls 5 [(4, .int (zI v4_36)), (0, .ref (E42.2.2 10)), (1, .ref bs), (2, .ref (E42.2.2 q0)), (3, .int (zI t))] := by rw [hX42.ad (c := 10) (by omega), hX42.ad (c := q0) (by omega)]; exact hl
        have hX := hX.tr hX42
        refine k_ne0 (tgt := 50) hx hb dL_build_45 (by decide) (by omega) (fun c_45 => ?_) (fun c_45 => ?_)
        · skip
          obtain ⟨v3_50, ev3_50⟩ : ∃ v : Int, v = t + 1 := ⟨_, rfl⟩
          refine k_incN (v := v3_50) (lv' := [(3, .int (zI v3_50)), (4, .int (zI v4_36)), (0, .ref (E42.2.2 10)), (1, .ref bs), (2, .ref (E42.2.2 q0))]) hx hb dL_build_50 hl (k := 4) rfl ev3_50 (by decide) rfl (fun ls hl => ?_)
          refine lv_goto (tgt := 10) hx hb dL_build_53 (by decide) ?_
          refine W.widen (k := 5 + 41 * v3_50.toNat) (n := 4 + 1646 * v3_50.toNat) (by omega) (by omega) ?_
          refine ih_10 v3_50 E42 M42 _ _ (by omega) (by exact h_42.2) (by omega) hX hK hG hP hS _ (lv_sub hl [2, 3, 4, 0] rfl)
        · exact absurd c_45 (by omega)
  refine W.widen (k := 5 + 41 * (0 : Int).toNat) (n := 4 + 1646 * (0 : Int).toNat) (by omega) (by omega) ?_
  refine lp_10 (((60 - 0 : Int)).toNat + 1) 0 E4 M4 _ _ (by omega) (by exact hJ) (by omega) hX hK hG hP hS _ (lv_sub hl [2, 3, 1, 0] rfl)
