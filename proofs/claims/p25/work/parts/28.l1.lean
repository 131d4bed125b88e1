abbrev rL_below : Room := { frames := 0, cells := 0, slots := 0, locals := 0 }
set_option maxHeartbeats 4000000 in
set_option maxRecDepth 100000 in
/-- below: some number, 0 to n - 1 -/
theorem c_L_below (l : Launch) (E : kE) (M : kM) (v n : Int) (hn1 : 1 ≤ n ∧ n ≤ 2147483647) : kRO l yL_below wsL_below rL_below E M [.int (zI v), .int (zI n)] (fun z => 0 ≤ z ∧ z < n) := by
  refine kRO_of (cc := cL_below) (maxL := 2) (rt := .int) RL (by decide) rfl rfl (Nat.le_of_ble_eq_true rfl) k_nari ?_
  intro pg en s0 mi ar bl me co ls Q S hP hK ends hl
  have hx := S.1
  have hb := S.2.1
  have hn := hK.2.2.2
  have hl : lv_has ls 2 [(0, .int (zI v)), (1, .int (zI n))] := hl
  refine lv_iload_n hx hb dL_below_0 rfl (lv_at hl 0 rfl) ?_
  refine lv_ldc hx hb S.2.2.2.1 (S.2.2.2.2 _ (List.mem_cons_of_mem _ (List.mem_of_getElem? (i := 0) rfl))) dL_below_1 ?_
  refine k_and31 hx hb dL_below_3 (fun z_3 h_3 => ?_)
  refine lv_iload_n hx hb dL_below_4 rfl (lv_at hl 1 rfl) ?_
  refine k_rem hx hb dL_below_5 (by omega) ?_
  refine ends _ _ (z_3 % n) dL_below_6 ?_
  exact ⟨Int.emod_nonneg _ (by omega), Int.emod_lt_of_pos _ (by omega)⟩
abbrev rL_stitchOf : Room := { frames := 1, cells := 0, slots := 0, locals := 21 }
set_option maxHeartbeats 4000000 in
set_option maxRecDepth 100000 in
/-- a stitch -/
theorem c_L_stitchOf (l : Launch) (E : kE) (M : kM) (x : Int) : kRO l yL_stitchOf wsL_stitchOf rL_stitchOf E M [.int (zI x)] (fun z => 0 ≤ z ∧ z ≤ 8) := by
  refine kRO_of (cc := cL_stitchOf) (maxL := 1) (rt := .int) RL (by decide) rfl rfl (Nat.le_of_ble_eq_true rfl) k_nari ?_
  intro pg en s0 mi ar bl me co ls Q S hP hK ends hl
  have hx := S.1
  have hb := S.2.1
  have hn := hK.2.2.2
  have hl : lv_has ls 1 [(0, .int (zI x))] := hl
  refine lv_iload_n hx hb dL_stitchOf_0 rfl (lv_at hl 0 rfl) ?_
  refine k_bpush hx hb dL_stitchOf_1 (by decide) ?_
  refine k_shr hx hb dL_stitchOf_3 (fun z_3 h_3 => ?_)
  refine k_push hx hb dL_stitchOf_4 ?_
  refine k_callS (As := [.int (zI z_3), .int (zI 4)]) (rest := []) S hK hP (c_L_below l E M z_3 4 (by omega)) (va_cwS 2 S.2.2.2.2 gL_stitchOf_L_below rfl rfl rfl (by decide +kernel) ⟨Nat.le_of_ble_eq_true rfl, Nat.le_of_ble_eq_true rfl⟩) rfl hl.1 rfl (Nat.le_of_ble_eq_true rfl) dL_stitchOf_5 ⟨Nat.le_of_ble_eq_true rfl, Nat.le_of_ble_eq_true rfl⟩ (fun z_5 h_5 => ?_)
  refine k_ne0 (tgt := 22) hx hb dL_stitchOf_8 (by decide) (by omega) (fun c_8 => ?_) (fun c_8 => ?_)
  · skip
    refine lv_iload_n hx hb dL_stitchOf_22 rfl (lv_at hl 0 rfl) ?_
    refine k_push hx hb dL_stitchOf_23 ?_
    refine k_shr hx hb dL_stitchOf_24 (fun z_24 h_24 => ?_)
    refine k_push hx hb dL_stitchOf_25 ?_
    refine lv_iload_n hx hb dL_stitchOf_26 rfl (lv_at hl 0 rfl) ?_
    refine k_bpush hx hb dL_stitchOf_27 (by decide) ?_
    refine k_shr hx hb dL_stitchOf_29 (fun z_29 h_29 => ?_)
    refine k_push hx hb dL_stitchOf_30 ?_
    refine k_callS (As := [.int (zI z_29), .int (zI 2)]) (rest := [.int (zI 2), .int (zI z_24)]) S hK hP (c_L_below l E M z_29 2 (by omega)) (va_cwS 2 S.2.2.2.2 gL_stitchOf_L_below rfl rfl rfl (by decide +kernel) ⟨Nat.le_of_ble_eq_true rfl, Nat.le_of_ble_eq_true rfl⟩) rfl hl.1 rfl (Nat.le_of_ble_eq_true rfl) dL_stitchOf_31 ⟨Nat.le_of_ble_eq_true rfl, Nat.le_of_ble_eq_true rfl⟩ (fun z_31 h_31 => ?_)
    refine k_add hx hb dL_stitchOf_34 ?_
    refine k_callS (As := [.int (zI z_24), .int (zI (2 + z_31))]) (rest := []) S hK hP (c_L_below l E M z_24 (2 + z_31) (by omega)) (va_cwS 2 S.2.2.2.2 gL_stitchOf_L_below rfl rfl rfl (by decide +kernel) ⟨Nat.le_of_ble_eq_true rfl, Nat.le_of_ble_eq_true rfl⟩) rfl hl.1 rfl (Nat.le_of_ble_eq_true rfl) dL_stitchOf_35 ⟨Nat.le_of_ble_eq_true rfl, Nat.le_of_ble_eq_true rfl⟩ (fun z_35 h_35 => ?_)
    refine ends _ _ (z_35) dL_stitchOf_38 ?_
    omega
  · skip
    refine lv_iload_n hx hb dL_stitchOf_11 rfl (lv_at hl 0 rfl) ?_
    refine k_push hx hb dL_stitchOf_12 ?_
    refine k_shr hx hb dL_stitchOf_13 (fun z_13 h_13 => ?_)
    refine k_bpush hx hb dL_stitchOf_14 (by decide) ?_
    refine k_callS (As := [.int (zI z_13), .int (zI 9)]) (rest := []) S hK hP (c_L_below l E M z_13 9 (by omega)) (va_cwS 2 S.2.2.2.2 gL_stitchOf_L_below rfl rfl rfl (by decide +kernel) ⟨Nat.le_of_ble_eq_true rfl, Nat.le_of_ble_eq_true rfl⟩) rfl hl.1 rfl (Nat.le_of_ble_eq_true rfl) dL_stitchOf_16 ⟨Nat.le_of_ble_eq_true rfl, Nat.le_of_ble_eq_true rfl⟩ (fun z_16 h_16 => ?_)
    refine lv_goto (tgt := 38) hx hb dL_stitchOf_19 (by decide) ?_
    refine ends _ _ (z_16) dL_stitchOf_38 ?_
    omega
abbrev rL_common : Room := { frames := 0, cells := 0, slots := 0, locals := 0 }
set_option maxHeartbeats 4000000 in
set_option maxRecDepth 100000 in
/-- how many stitches two rows have in common from two places on -/
theorem c_L_common (l : Launch) (E : kE) (M : kM) (c1 a c2 b n1 n2 : Int) (h1 : kArr E M c1 n1) (h2 : kArr E M c2 n2) (hv1 : ∀ j : Int, 0 ≤ j → j < n1 → 0 ≤ M c1 j ∧ M c1 j ≤ 8) (hv2 : ∀ j : Int, 0 ≤ j → j < n2 → 0 ≤ M c2 j ∧ M c2 j ≤ 8) (ha : 0 ≤ a ∧ a ≤ n1) (hb2 : 0 ≤ b ∧ b ≤ n2) : kRO l yL_common wsL_common rL_common E M [.ref (E.2.2 c1), .int (zI a), .ref (E.2.2 c2), .int (zI b)] (fun z => kLC (M c1) n1 a (M c2) n2 b z) := by
  refine kRO_of (cc := cL_common) (maxL := 5) (rt := .int) RL (by decide) rfl rfl (Nat.le_of_ble_eq_true rfl) k_nari ?_
  intro pg en s0 mi ar bl me co ls Q S hP hK ends hl
  have hx := S.1
  have hb := S.2.1
  have hn := hK.2.2.2
  have hl : lv_has ls 5 [(0, .ref (E.2.2 c1)), (1, .int (zI a)), (2, .ref (E.2.2 c2)), (3, .int (zI b))] := hl
  have r1 := kArr_rng h1 hn
  have r2 := kArr_rng h2 hn
  refine k_push hx hb dL_common_0 ?_
  refine lv_istore (lv' := [(4, .int (zI 0)), (0, .ref (E.2.2 c1)), (1, .int (zI a)), (2, .ref (E.2.2 c2)), (3, .int (zI b))]) hx hb dL_common_1 hl (by decide) rfl (fun ls hl => ?_)
  have lp_3 : ∀ (n_3 : Nat) (k : Int), (0 ≤ k ∧ a + k ≤ n1 ∧ b + k ≤ n2) → (kEq (M c1) a (M c2) b k) → (n1 - a - k < (n_3 : Int)) → ∀ ls : Array Slot, lv_has ls 5 [(0, .ref (E.2.2 c1)), (1, .int (zI a)), (2, .ref (E.2.2 c2)), (3, .int (zI b)), (4, .int (zI k))] → W pg l en rL_common s0 mi ar bl me co s0.heap [] 0 0 Q (F0 mi 3 ls []) := by
    intro n_3
    induction n_3 with
    | zero => intro k h3 h4 hm_3; exfalso; omega
    | succ n_3 ih_3 =>
      intro k h3 h4 hm_3 ls hl
      refine lv_iload_n hx hb dL_common_3 rfl (lv_at hl 1 rfl) ?_
      refine lv_iload hx hb dL_common_4 (lv_at hl 4 rfl) ?_
      refine k_add hx hb dL_common_6 ?_
      refine lv_aload_n hx hb dL_common_7 rfl (lv_at hl 0 rfl) ?_
      refine k_alen S hK hP (n1) (h1) dL_common_8 ?_
      refine k_ge (tgt := 42) hx hb dL_common_9 (by decide) (by omega) (fun c_9 => ?_) (fun c_9 => ?_)
      · skip
        refine lv_iload hx hb dL_common_42 (lv_at hl 4 rfl) ?_
        refine ends _ _ (k) dL_common_44 ?_
        exact ⟨by omega, by omega, by omega, h4, by omega⟩
      · skip
        refine lv_iload_n hx hb dL_common_12 rfl (lv_at hl 3 rfl) ?_
        refine lv_iload hx hb dL_common_13 (lv_at hl 4 rfl) ?_
        refine k_add hx hb dL_common_15 ?_
        refine lv_aload_n hx hb dL_common_16 rfl (lv_at hl 2 rfl) ?_
        refine k_alen S hK hP (n2) (h2) dL_common_17 ?_
        refine k_ge (tgt := 42) hx hb dL_common_18 (by decide) (by omega) (fun c_18 => ?_) (fun c_18 => ?_)
        · skip
          refine lv_iload hx hb dL_common_42 (lv_at hl 4 rfl) ?_
          refine ends _ _ (k) dL_common_44 ?_
          exact ⟨by omega, by omega, by omega, h4, by omega⟩
        · skip
          refine lv_aload_n hx hb dL_common_21 rfl (lv_at hl 0 rfl) ?_
          refine lv_iload_n hx hb dL_common_22 rfl (lv_at hl 1 rfl) ?_
          refine lv_iload hx hb dL_common_23 (lv_at hl 4 rfl) ?_
          refine k_add hx hb dL_common_25 ?_
          refine k_ald S hK hP (n1) (h1) (by omega) dL_common_26 ?_
          refine lv_aload_n hx hb dL_common_27 rfl (lv_at hl 2 rfl) ?_
          refine lv_iload_n hx hb dL_common_28 rfl (lv_at hl 3 rfl) ?_
          refine lv_iload hx hb dL_common_29 (lv_at hl 4 rfl) ?_
          refine k_add hx hb dL_common_31 ?_
          refine k_ald S hK hP (n2) (h2) (by omega) dL_common_32 ?_
          have q1 := hv1 (a + k) (by omega) (by omega)
          have q2 := hv2 (b + k) (by omega) (by omega)
          refine k_ne (tgt := 42) hx hb dL_common_33 (by decide) (by omega) (fun c_33 => ?_) (fun c_33 => ?_)
          · skip
            refine lv_iload hx hb dL_common_42 (lv_at hl 4 rfl) ?_
            refine ends _ _ (k) dL_common_44 ?_
            exact ⟨by omega, by omega, by omega, h4, by omega⟩
          · skip
            obtain ⟨v4_36, ev4_36⟩ : ∃ v : Int, v = k + 1 := ⟨_, rfl⟩
            refine k_incN (v := v4_36) (lv' := [(4, .int (zI v4_36)), (0, .ref (E.2.2 c1)), (1, .int (zI a)), (2, .ref (E.2.2 c2)), (3, .int (zI b))]) hx hb dL_common_36 hl (k := 4) rfl ev4_36 (by decide) rfl (fun ls hl => ?_)
            refine lv_goto (tgt := 3) hx hb dL_common_39 (by decide) ?_
            refine ih_3 v4_36 (by omega) (by subst ev4_36; exact kEq_succ h4 (by omega)) (by omega) _ (lv_sub hl [1, 2, 3, 4, 0] rfl)
  refine lp_3 (((n1 - a - 0 : Int)).toNat + 1) 0 (by omega) (by exact kEq_0 _ _ _ _) (by omega) _ (lv_sub hl [1, 2, 3, 4, 0] rfl)
abbrev rX4_with : Room := { frames := 0, cells := 1, slots := 41, locals := 0 }
set_option maxHeartbeats 4000000 in
set_option maxRecDepth 100000 in
/-- with: a row, and one stitch more -/
theorem c_X4_with (l : Launch) (E0 : kE) (hE : kInj E0) (M : kM) (c n st : Int) (h1 : kArr E0 M c n) (hc : 11 ≤ c ∧ c < kn E0) (hn2 : 0 ≤ n ∧ n ≤ 40) : kNR l yX4_with wsX4_with rX4_with 1 41 E0 M [.ref (E0.2.2 c), .int (zI st)] (fun E1 M1 x => kMade E0 M E1 M1 x (n + 1) (fun j => if j < n then M c j else st)) := by
  refine kNR_of (cc := cX4_with) (maxL := 4) (rt := (.array .int)) RX4 hE (by decide) rfl rfl (Nat.le_of_ble_eq_true rfl) (Or.inr ⟨_, rfl⟩) ?_
  intro pg en s0 mi ar bl me co ls Q S hP hS hK hG ends hl
  have hx := S.1
  have hb := S.2.1
  have hn := hK.2.2.2
  have hX : kExt E0 E0 := kExt.rf E0
  have hl : lv_has ls 4 [(0, .ref (E0.2.2 c)), (1, .int (zI st))] := hl
  refine lv_aload_n hx hb dX4_with_0 rfl (lv_at hl 0 rfl) ?_
  refine k_alen S hK hP (n) (by first | exact h1 | exact kArr_ext hX4 (fun k2 i hk => i2 k2 i (by omega)) h1) dX4_with_1 ?_
  refine k_push hx hb dX4_with_2 ?_
  refine k_add hx hb dX4_with_3 ?_
  refine k_newA (len := n + 1) S hK hG hP hS (S.2.2.2.2 _ (List.mem_cons_of_mem _ (List.mem_of_getElem? (i := 0) rfl))) (by omega) (by show _ ≤ (1 : Nat); omega) (by show _ ≤ (41 : Nat); omega) dX4_with_4 (fun E4 H hX4 hn4 hK hG hP hS => ?_)
  obtain ⟨M4, eM4⟩ : ∃ N9 : kM, N9 = kNw M (kn E0) (kIa (n + 1)) := ⟨_, rfl⟩
  rw [← eM4] at hP
  have hM4 : ∀ k i : Int, k < kn E0 → M4 k i = M k i := fun k i hk => by rw [eM4]; exact kNw_ne (by omega)
  obtain ⟨q4, eq4⟩ : ∃ q : Int, q = kn E0 := ⟨_, rfl⟩
  rw [← eq4] at eM4 ⊢
  have hl : lv_has ls 4 [(0, .ref (E4.2.2 c)), (1, .int (zI st))] := by rw [hX4.ad (c := c) (by omega)]; exact hl
  have hX := hX.tr hX4
  have i2 : ∀ k2 i : Int, k2 < q4 → M4 k2 i = M k2 i := fun k2 i hk => hM4 k2 i (by omega)
  have i3 : M4 q4 (-2) = 0 ∧ M4 q4 (-1) = n + 1 := by rw [eM4, kNw_same, kNw_same]; exact ⟨rfl, rfl⟩
  refine W.widen (k := 1) (n := 41) (by omega) (by omega) ?_
  refine lv_astore_n (lv' := [(2, .ref (E4.2.2 q4)), (0, .ref (E4.2.2 c)), (1, .int (zI st))]) hx hb dX4_with_6 rfl hl (by decide) rfl (fun ls hl => ?_)
  refine k_push hx hb dX4_with_7 ?_
  refine lv_istore_n (lv' := [(3, .int (zI 0)), (2, .ref (E4.2.2 q4)), (0, .ref (E4.2.2 c)), (1, .int (zI st))]) hx hb dX4_with_8 rfl hl (by decide) rfl (fun ls hl => ?_)
  have lp_9 : ∀ (n_9 : Nat) (k : Int) (M_9 : kM) (H : Heap) (locs : List Loc), (0 ≤ k ∧ k ≤ n) → (∀ k2 i : Int, k2 < q4 → M_9 k2 i = M k2 i) → (M_9 q4 (-2) = 0 ∧ M_9 q4 (-1) = n + 1) → (∀ j : Int, 0 ≤ j → j < k → M_9 q4 j = M c j) → (n - k < (n_9 : Int)) → va_P E4.1 vwCl (kW E4 M_9) H → va_S (kA E0 s0.heap.size) s0.heap H locs → ∀ ls : Array Slot, lv_has ls 4 [(0, .ref (E4.2.2 c)), (1, .int (zI st)), (2, .ref (E4.2.2 q4)), (3, .int (zI k))] → W pg l en rX4_with s0 mi ar bl me co H locs 1 41 Q (F0 mi 9 ls []) := by
    intro n_9
    induction n_9 with
    | zero => intro k M_9 H locs i1 i2 i3 i4 hm_9; exfalso; omega
    | succ n_9 ih_9 =>
      intro k M_9 H locs i1 i2 i3 i4 hm_9 hP hS ls hl
      refine lv_iload_n hx hb dX4_with_9 rfl (lv_at hl 3 rfl) ?_
      refine lv_aload_n hx hb dX4_with_10 rfl (lv_at hl 0 rfl) ?_
      refine k_alen S hK hP (n) (by first | exact h1 | exact kArr_ext hX4 (fun k2 i hk => i2 k2 i (by omega)) h1) dX4_with_11 ?_
      refine k_ge (tgt := 27) hx hb dX4_with_12 (by decide) (by omega) (fun c_12 => ?_) (fun c_12 => ?_)
      · skip
        refine lv_aload_n hx hb dX4_with_27 rfl (lv_at hl 2 rfl) ?_
        refine lv_aload_n hx hb dX4_with_28 rfl (lv_at hl 0 rfl) ?_
        refine k_alen S hK hP (n) (by first | exact h1 | exact kArr_ext hX4 (fun k2 i hk => i2 k2 i (by omega)) h1) dX4_with_29 ?_
        refine lv_iload_n hx hb dX4_with_30 rfl (lv_at hl 1 rfl) ?_
        refine k_astG S hK hG hP hS (n + 1) (Or.inr (Or.inr ⟨by omega, by omega, i3.1, i3.2, by omega, by omega⟩)) (by omega) dX4_with_31 (fun H locs hP hS => ?_)
        obtain ⟨M31, eM31⟩ : ∃ N9 : kM, N9 = kU M_9 q4 n st := ⟨_, rfl⟩
        rw [← eM31] at hP
        refine lv_aload_n hx hb dX4_with_32 rfl (lv_at hl 2 rfl) ?_
        refine ends _ _ E4 M31 (q4) _ _ dX4_with_33 hX hG hP hS ?_
        refine ⟨⟨by omega, by omega⟩, fun k2 i hk => ?_, ?_, ?_, fun j j1 j2 => ?_⟩
        · rw [eM31, kU_cell (by omega)]; exact i2 k2 i (by omega)
        · rw [eM31, kU_place (by omega)]; exact i3.1
        · rw [eM31, kU_place (by omega)]; exact i3.2
        · rw [eM31]
          show _ = (if j < n then M c j else st)
          by_cases e : j = n
          · rw [e, kU_same, if_neg (by omega)]
          · rw [kU_place e, if_pos (by omega)]; exact i4 j j1 (by omega)
      · skip
        refine lv_aload_n hx hb dX4_with_15 rfl (lv_at hl 2 rfl) ?_
        refine lv_iload_n hx hb dX4_with_16 rfl (lv_at hl 3 rfl) ?_
        refine lv_aload_n hx hb dX4_with_17 rfl (lv_at hl 0 rfl) ?_
        refine lv_iload_n hx hb dX4_with_18 rfl (lv_at hl 3 rfl) ?_
        refine k_ald S hK hP (n) (by first | exact h1 | exact kArr_ext hX4 (fun k2 i hk => i2 k2 i (by omega)) h1) (by omega) dX4_with_19 ?_
        refine k_astG S hK hG hP hS (n + 1) (Or.inr (Or.inr ⟨by omega, by omega, i3.1, i3.2, by omega, by omega⟩)) (by omega) dX4_with_20 (fun H locs hP hS => ?_)
        obtain ⟨M20, eM20⟩ : ∃ N9 : kM, N9 = kU M_9 q4 k (M_9 c k) := ⟨_, rfl⟩
        rw [← eM20] at hP
        obtain ⟨v3_21, ev3_21⟩ : ∃ v : Int, v = k + 1 := ⟨_, rfl⟩
        refine k_incN (v := v3_21) (lv' := [(3, .int (zI v3_21)), (0, .ref (E4.2.2 c)), (1, .int (zI st)), (2, .ref (E4.2.2 q4))]) hx hb dX4_with_21 hl (k := 3) rfl ev3_21 (by decide) rfl (fun ls hl => ?_)
        refine lv_goto (tgt := 9) hx hb dX4_with_24 (by decide) ?_
        refine ih_9 v3_21 M20 _ _ (by omega) ?_ ?_ ?_ (by omega) hP hS _ (lv_sub hl [1, 2, 3, 0] rfl)
        · intro k2 i hk
          rw [eM20, kU_cell (by omega)]
          exact i2 k2 i hk
        · rw [eM20, kU_place (by omega), kU_place (by omega)]
          exact i3
        · intro j j1 j2
          rw [eM20]
          by_cases e : j = k
          · rw [e, kU_same, i2 c _ (by omega)]
          · rw [kU_place e]; exact i4 j j1 (by omega)
  refine lp_9 (((n - 0 : Int)).toNat + 1) 0 M4 _ _ (by omega) (by exact i2) (by exact i3) (by intro j j1 j2; omega) (by omega) hP hS _ (lv_sub hl [2, 3, 1, 0] rfl)
abbrev rX4_cut : Room := { frames := 0, cells := 1, slots := 41, locals := 0 }
set_option maxHeartbeats 4000000 in
set_option maxRecDepth 100000 in
/-- cut: the beginning of a row -/
theorem c_X4_cut (l : Launch) (E0 : kE) (hE : kInj E0) (M : kM) (c n r : Int) (h1 : kArr E0 M c n) (hc : 11 ≤ c ∧ c < kn E0) (hn2 : 0 ≤ r ∧ r ≤ n ∧ n ≤ 40) : kNR l yX4_cut wsX4_cut rX4_cut 1 41 E0 M [.ref (E0.2.2 c), .int (zI r)] (fun E1 M1 x => kMade E0 M E1 M1 x r (M c)) := by
  refine kNR_of (cc := cX4_cut) (maxL := 4) (rt := (.array .int)) RX4 hE (by decide) rfl rfl (Nat.le_of_ble_eq_true rfl) (Or.inr ⟨_, rfl⟩) ?_
  intro pg en s0 mi ar bl me co ls Q S hP hS hK hG ends hl
  have hx := S.1
  have hb := S.2.1
  have hn := hK.2.2.2
  have hX : kExt E0 E0 := kExt.rf E0
  have hl : lv_has ls 4 [(0, .ref (E0.2.2 c)), (1, .int (zI r))] := hl
  refine lv_iload_n hx hb dX4_cut_0 rfl (lv_at hl 1 rfl) ?_
  refine k_newA (len := r) S hK hG hP hS (S.2.2.2.2 _ (List.mem_cons_of_mem _ (List.mem_of_getElem? (i := 0) rfl))) (by omega) (by show _ ≤ (1 : Nat); omega) (by show _ ≤ (41 : Nat); omega) dX4_cut_1 (fun E1 H hX1 hn1 hK hG hP hS => ?_)
  obtain ⟨M1, eM1⟩ : ∃ N9 : kM, N9 = kNw M (kn E0) (kIa r) := ⟨_, rfl⟩
  rw [← eM1] at hP
  have hM1 : ∀ k i : Int, k < kn E0 → M1 k i = M k i := fun k i hk => by rw [eM1]; exact kNw_ne (by omega)
  obtain ⟨q1, eq1⟩ : ∃ q : Int, q = kn E0 := ⟨_, rfl⟩
  rw [← eq1] at eM1 ⊢
  have hl : lv_has ls 4 [(0, .ref (E1.2.2 c)), (1, .int (zI r))] := by rw [hX1.ad (c := c) (by omega)]; exact hl
  have hX := hX.tr hX1
  have i2 : ∀ k2 i : Int, k2 < q1 → M1 k2 i = M k2 i := fun k2 i hk => hM1 k2 i (by omega)
  have i3 : M1 q1 (-2) = 0 ∧ M1 q1 (-1) = r := by rw [eM1, kNw_same, kNw_same]; exact ⟨rfl, rfl⟩
  refine W.widen (k := 1) (n := 41) (by omega) (by omega) ?_
  refine lv_astore_n (lv' := [(2, .ref (E1.2.2 q1)), (0, .ref (E1.2.2 c)), (1, .int (zI r))]) hx hb dX4_cut_3 rfl hl (by decide) rfl (fun ls hl => ?_)
  refine k_push hx hb dX4_cut_4 ?_
  refine lv_istore_n (lv' := [(3, .int (zI 0)), (2, .ref (E1.2.2 q1)), (0, .ref (E1.2.2 c)), (1, .int (zI r))]) hx hb dX4_cut_5 rfl hl (by decide) rfl (fun ls hl => ?_)
  have lp_6 : ∀ (n_6 : Nat) (k : Int) (M_6 : kM) (H : Heap) (locs : List Loc), (0 ≤ k ∧ k ≤ r) → (∀ k2 i : Int, k2 < q1 → M_6 k2 i = M k2 i) → (M_6 q1 (-2) = 0 ∧ M_6 q1 (-1) = r) → (∀ j : Int, 0 ≤ j → j < k → M_6 q1 j = M c j) → (r - k < (n_6 : Int)) → va_P E1.1 vwCl (kW E1 M_6) H → va_S (kA E0 s0.heap.size) s0.heap H locs → ∀ ls : Array Slot, lv_has ls 4 [(0, .ref (E1.2.2 c)), (1, .int (zI r)), (2, .ref (E1.2.2 q1)), (3, .int (zI k))] → W pg l en rX4_cut s0 mi ar bl me co H locs 1 41 Q (F0 mi 6 ls []) := by
    intro n_6
    induction n_6 with
    | zero => intro k M_6 H locs i1 i2 i3 i4 hm_6; exfalso; omega
    | succ n_6 ih_6 =>
      intro k M_6 H locs i1 i2 i3 i4 hm_6 hP hS ls hl
      refine lv_iload_n hx hb dX4_cut_6 rfl (lv_at hl 3 rfl) ?_
      refine lv_iload_n hx hb dX4_cut_7 rfl (lv_at hl 1 rfl) ?_
      refine k_ge (tgt := 23) hx hb dX4_cut_8 (by decide) (by omega) (fun c_8 => ?_) (fun c_8 => ?_)
      · skip
        refine lv_aload_n hx hb dX4_cut_23 rfl (lv_at hl 2 rfl) ?_
        refine ends _ _ E1 M_6 (q1) _ _ dX4_cut_24 hX hG hP hS ?_
        exact ⟨⟨by omega, by omega⟩, fun k2 i hk => i2 k2 i (by omega), i3.1, i3.2, fun j j1 j2 => i4 j j1 (by omega)⟩
      · skip
        refine lv_aload_n hx hb dX4_cut_11 rfl (lv_at hl 2 rfl) ?_
        refine lv_iload_n hx hb dX4_cut_12 rfl (lv_at hl 3 rfl) ?_
        refine lv_aload_n hx hb dX4_cut_13 rfl (lv_at hl 0 rfl) ?_
        refine lv_iload_n hx hb dX4_cut_14 rfl (lv_at hl 3 rfl) ?_
        refine k_ald S hK hP (n) (by first | exact h1 | exact kArr_ext hX1 (fun k2 i hk => i2 k2 i (by omega)) h1) (by omega) dX4_cut_15 ?_
        refine k_astG S hK hG hP hS (r) (Or.inr (Or.inr ⟨by omega, by omega, i3.1, i3.2, by omega, by omega⟩)) (by omega) dX4_cut_16 (fun H locs hP hS => ?_)
        obtain ⟨M16, eM16⟩ : ∃ N9 : kM, N9 = kU M_6 q1 k (M_6 c k) := ⟨_, rfl⟩
        rw [← eM16] at hP
        obtain ⟨v3_17, ev3_17⟩ : ∃ v : Int, v = k + 1 := ⟨_, rfl⟩
        refine k_incN (v := v3_17) (lv' := [(3, .int (zI v3_17)), (0, .ref (E1.2.2 c)), (1, .int (zI r)), (2, .ref (E1.2.2 q1))]) hx hb dX4_cut_17 hl (k := 3) rfl ev3_17 (by decide) rfl (fun ls hl => ?_)
        refine lv_goto (tgt := 6) hx hb dX4_cut_20 (by decide) ?_
        refine ih_6 v3_17 M16 _ _ (by omega) ?_ ?_ ?_ (by omega) hP hS _ (lv_sub hl [1, 2, 3, 0] rfl)
        · intro k2 i hk
          rw [eM16, kU_cell (by omega)]
          exact i2 k2 i hk
        · rw [eM16, kU_place (by omega), kU_place (by omega)]
          exact i3
        · intro j j1 j2
          rw [eM16]
          by_cases e : j = k
          · rw [e, kU_same, i2 c _ (by omega)]
          · rw [kU_place e]; exact i4 j j1 (by omega)
  refine lp_6 (((r - 0 : Int)).toNat + 1) 0 M1 _ _ (by omega) (by exact i2) (by exact i3) (by intro j j1 j2; omega) (by omega) hP hS _ (lv_sub hl [2, 3, 1, 0] rfl)
