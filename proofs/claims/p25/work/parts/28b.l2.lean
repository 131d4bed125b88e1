abbrev rX4_period : Room := { frames := 1, cells := 0, slots := 0, locals := 24 }
set_option maxHeartbeats 4000000 in
set_option maxRecDepth 100000 in
/-- the law's own period -/
theorem c_X4_period (l : Launch) (E : kE) (M : kM) (g h : Int) (y L : Int → Int) (X : Int → Int → Int) (hs : kSm E M g y L X) (hv : ∀ i j : Int, 0 ≤ i → i < 3 → 0 ≤ j → j < L i → 0 ≤ X i j ∧ X i j ≤ 8) (hh : 0 ≤ h ∧ h < 2) : kRO l yX4_period wsX4_period rX4_period E M [.ref (E.2.2 g), .int (zI h)] (fun z => kIsPer (X h) (L h) z ∧ 0 ≤ z ∧ z ≤ 40) := by
  refine kRO_of (cc := cX4_period) (maxL := 5) (rt := .int) RX4 (by decide) rfl rfl (Nat.le_of_ble_eq_true rfl) k_nari ?_
  intro pg en s0 mi ar bl me co ls Q S hP hK ends hl
  have hx := S.1
  have hb := S.2.1
  have hn := hK.2.2.2
  have hinX40 : ∀ w ∈ wsX40, w ∈ wsX4_period := fun w h => List.mem_cons_of_mem _ (List.mem_append_right _ (h))
  have hl : lv_has ls 5 [(0, .ref (E.2.2 g)), (1, .int (zI h))] := hl
  obtain ⟨⟨g1, g2, g3, g4, g5⟩, -, hc3⟩ := id hs
  have hy0 := (hc3 0 (by omega) (by omega)).1
  have hy1 := (hc3 1 (by omega) (by omega)).1
  have hy2 := (hc3 2 (by omega) (by omega)).1
  have hyh := (hc3 h (by omega) (by omega)).1
  have hlh := hs.len (i := h) (by omega)
  have hl2 := hs.len (i := 2) (by omega)
  refine lv_aload_n hx hb dX4_period_0 rfl (lv_at hl 0 rfl) ?_
  refine k_sim S hK hP hinX40 0 (by decide) (S.2.2.2.2 _ (List.mem_cons_of_mem _ (List.mem_append_left _ (List.mem_of_getElem? (i := 0) rfl)))) dX4_period_1 ⟨hs.1.1, by have := hs.1.2.1; omega, hs.1.2.2.1⟩ (a := E.2.2 (g + 1)) hs.1.2.2.2.1 rfl ?_
  refine lv_iload_n hx hb dX4_period_4 rfl (lv_at hl 1 rfl) ?_
  refine k_aald S hK hP 2 ⟨by have := hs.1.1; omega, hs.1.2.1, hs.2.1.1, hs.2.1.2.1, by omega, by omega⟩ (by omega) (a := E.2.2 (y h)) (hs.2.1.2.2 _ (by omega) (by omega)) dX4_period_5 ?_
  refine k_alen S hK hP (L h) (hs.arr (by omega)) dX4_period_6 ?_
  refine k_nm (fun v2_7 ev2_7 => ?_)
  refine lv_istore_n (lv' := [(2, .int (zI v2_7)), (0, .ref (E.2.2 g)), (1, .int (zI h))]) hx hb dX4_period_7 rfl hl (by decide) rfl (fun ls hl => ?_)
  refine lv_iload_n hx hb dX4_period_8 rfl (lv_at hl 0 rfl) ?_
  refine lv_istore_n (lv' := [(3, .int (zI v2_7)), (2, .int (zI v2_7)), (0, .ref (E.2.2 g)), (1, .int (zI h))]) hx hb dX4_period_9 rfl hl (by decide) rfl (fun ls hl => ?_)
  refine lv_iload_n hx hb dX4_period_10 rfl (lv_at hl 1 rfl) ?_
  refine k_push hx hb dX4_period_11 ?_
  refine k_sub hx hb dX4_period_12 ?_
  refine k_nm (fun v4_13 ev4_13 => ?_)
  refine lv_istore (lv' := [(4, .int (zI v4_13)), (3, .int (zI v2_7)), (2, .int (zI v2_7)), (0, .ref (E.2.2 g)), (1, .int (zI h))]) hx hb dX4_period_13 hl (by decide) rfl (fun ls hl => ?_)
  have lp_15 : ∀ (n_15 : Nat) (b : Int) (q : Int), (-1 ≤ q ∧ (q < b ∨ L h = 0) ∧ q < L h + 1 ∧ 0 ≤ b ∧ b ≤ L h ∧ (L h = 0 ∨ (0 ≤ q ∧ q < L h))) → (kPer (X h) (L h) b) → (∀ p : Int, q < p → p < b → ¬ kPer (X h) (L h) p) → (q + 1 < (n_15 : Int)) → ∀ ls : Array Slot, lv_has ls 5 [(0, .ref (E.2.2 g)), (1, .int (zI h)), (2, .int (zI v2_7)), (3, .int (zI b)), (4, .int (zI q))] → W pg l en rX4_period s0 mi ar bl me co s0.heap [] 0 0 Q (F0 mi 15 ls []) := by
    intro n_15
    induction n_15 with
    | zero => intro b q h3 h4 h5 hm_15; exfalso; omega
    | succ n_15 ih_15 =>
      intro b q h3 h4 h5 hm_15 ls hl
      refine lv_iload hx hb dX4_period_15 (lv_at hl 4 rfl) ?_
      refine k_le0 (tgt := 54) hx hb dX4_period_17 (by decide) (by omega) (fun c_17 => ?_) (fun c_17 => ?_)
      · skip
        refine lv_iload_n hx hb dX4_period_54 rfl (lv_at hl 3 rfl) ?_
        refine ends _ _ (b) dX4_period_55 ?_
        refine ⟨?_, by omega, by omega⟩
        by_cases e : L h = 0
        · exact Or.inl ⟨e, by omega⟩
        · exact Or.inr ⟨by omega, by omega, h4, fun p p1 p2 => h5 p (by omega) p2⟩
      · skip
        refine lv_aload_n hx hb dX4_period_20 rfl (lv_at hl 0 rfl) ?_
        refine k_sim S hK hP hinX40 0 (by decide) (S.2.2.2.2 _ (List.mem_cons_of_mem _ (List.mem_append_left _ (List.mem_of_getElem? (i := 0) rfl)))) dX4_period_21 ⟨hs.1.1, by have := hs.1.2.1; omega, hs.1.2.2.1⟩ (a := E.2.2 (g + 1)) hs.1.2.2.2.1 rfl ?_
        refine lv_iload_n hx hb dX4_period_24 rfl (lv_at hl 1 rfl) ?_
        refine k_aald S hK hP 2 ⟨by have := hs.1.1; omega, hs.1.2.1, hs.2.1.1, hs.2.1.2.1, by omega, by omega⟩ (by omega) (a := E.2.2 (y h)) (hs.2.1.2.2 _ (by omega) (by omega)) dX4_period_25 ?_
        refine lv_iload hx hb dX4_period_26 (lv_at hl 4 rfl) ?_
        refine lv_aload_n hx hb dX4_period_28 rfl (lv_at hl 0 rfl) ?_
        refine k_sim S hK hP hinX40 0 (by decide) (S.2.2.2.2 _ (List.mem_cons_of_mem _ (List.mem_append_left _ (List.mem_of_getElem? (i := 0) rfl)))) dX4_period_29 ⟨hs.1.1, by have := hs.1.2.1; omega, hs.1.2.2.1⟩ (a := E.2.2 (g + 1)) hs.1.2.2.2.1 rfl ?_
        refine lv_iload_n hx hb dX4_period_32 rfl (lv_at hl 1 rfl) ?_
        refine k_aald S hK hP 2 ⟨by have := hs.1.1; omega, hs.1.2.1, hs.2.1.1, hs.2.1.2.1, by omega, by omega⟩ (by omega) (a := E.2.2 (y h)) (hs.2.1.2.2 _ (by omega) (by omega)) dX4_period_33 ?_
        refine k_push hx hb dX4_period_34 ?_
        refine k_callSN (As := [.ref (E.2.2 (y h)), .int (zI q), .ref (E.2.2 (y h)), .int (zI 0)]) (rest := []) S hK hP (c_L_common l E M (y h) q (y h) 0 (L h) (L h) (by exact hs.arr (by omega)) (by exact hs.arr (by omega)) (by exact hs.rng hv (by omega)) (by exact hs.rng hv (by omega)) (by omega) (by omega)) ⟨va_cnB 4 S.2.2.2.2 gX4_period_L_common_n18 rfl rfl rfl hK.2.1.2.2.2.1 (S.2.2.2.2 _ (List.mem_cons_of_mem _ (List.mem_append_left _ (List.mem_of_getElem? (i := 2) rfl)))) (by decide +kernel) ⟨Nat.le_of_ble_eq_true rfl, Nat.le_of_ble_eq_true rfl⟩, (S.2.2.2.2 _ (List.mem_cons_of_mem _ (List.mem_append_left _ (List.mem_of_getElem? (i := 1) rfl)))), trivial⟩ rfl hl.1 rfl (Nat.le_of_ble_eq_true rfl) dX4_period_35 ⟨Nat.le_of_ble_eq_true rfl, Nat.le_of_ble_eq_true rfl⟩ (fun z_35 h_35 => ?_)
        have k35 : kLC (X h) (L h) q (X h) (L h) 0 z_35 := kLC_congr h_35 (by omega) (by omega) (fun j j1 j2 => (hs.at (by omega) ⟨j1, j2⟩).symm) (fun j j1 j2 => (hs.at (by omega) ⟨j1, j2⟩).symm)
        have p35 := kPer_lc k35 (by omega)
        have r35 := k35.2.1
        have s35 := k35.1
        refine lv_iload_n hx hb dX4_period_38 rfl (lv_at hl 2 rfl) ?_
        refine lv_iload hx hb dX4_period_39 (lv_at hl 4 rfl) ?_
        refine k_sub hx hb dX4_period_41 ?_
        refine k_ne (tgt := 48) hx hb dX4_period_42 (by decide) (by omega) (fun c_42 => ?_) (fun c_42 => ?_)
        · skip
          obtain ⟨v4_48, ev4_48⟩ : ∃ v : Int, v = q + (-1) := ⟨_, rfl⟩
          refine k_incN (v := v4_48) (lv' := [(4, .int (zI v4_48)), (0, .ref (E.2.2 g)), (1, .int (zI h)), (2, .int (zI v2_7)), (3, .int (zI b))]) hx hb dX4_period_48 hl (k := 4) rfl ev4_48 (by decide) rfl (fun ls hl => ?_)
          refine lv_goto (tgt := 15) hx hb dX4_period_51 (by decide) ?_
          refine ih_15 b v4_48 (by omega) ?_ ?_ (by omega) _ (lv_sub hl [1, 2, 3, 4, 0] rfl)
          · first | exact p35.mp (by omega) | exact h4
          · intro p p1 p2
            by_cases e : p = q
            · first | omega | (rw [e]; exact fun z => c_42 (by have := p35.mpr z; omega))
            · exact h5 p (by omega) (by omega)
        · skip
          refine lv_iload hx hb dX4_period_45 (lv_at hl 4 rfl) ?_
          refine lv_istore_n (lv' := [(3, .int (zI q)), (0, .ref (E.2.2 g)), (1, .int (zI h)), (2, .int (zI v2_7)), (4, .int (zI q))]) hx hb dX4_period_47 rfl hl (by decide) rfl (fun ls hl => ?_)
          obtain ⟨v4_48, ev4_48⟩ : ∃ v : Int, v = q + (-1) := ⟨_, rfl⟩
          refine k_incN (v := v4_48) (lv' := [(4, .int (zI v4_48)), (3, .int (zI q)), (0, .ref (E.2.2 g)), (1, .int (zI h)), (2, .int (zI v2_7))]) hx hb dX4_period_48 hl (k := 4) rfl ev4_48 (by decide) rfl (fun ls hl => ?_)
          refine lv_goto (tgt := 15) hx hb dX4_period_51 (by decide) ?_
          refine ih_15 q v4_48 (by omega) ?_ ?_ (by omega) _ (lv_sub hl [2, 3, 4, 1, 0] rfl)
          · first | exact p35.mp (by omega) | exact h4
          · intro p p1 p2
            by_cases e : p = q
            · first | omega | (rw [e]; exact fun z => c_42 (by have := p35.mpr z; omega))
            · exact h5 p (by omega) (by omega)
  refine lp_15 (((v4_13 + 1 : Int)).toNat + 1) v2_7 v4_13 (by omega) (by intro t t1 t2; omega) (by intro p p1 p2; omega) (by omega) _ (lv_sub hl [3, 4, 2, 1, 0] rfl)
abbrev rX4_placesOfSample : Room := { frames := 1, cells := 1, slots := 2, locals := 24 }
set_option maxHeartbeats 4000000 in
set_option maxRecDepth 100000 in
/-- at how many places the sample stands, and the first one -/
theorem c_X4_placesOfSample (l : Launch) (E0 : kE) (hE : kInj E0) (M : kM) (g h : Int) (y L : Int → Int) (X : Int → Int → Int) (hs : kSm E0 M g y L X) (hv : ∀ i j : Int, 0 ≤ i → i < 3 → 0 ≤ j → j < L i → 0 ≤ X i j ∧ X i j ≤ 8) (hh : 0 ≤ h ∧ h < 2) : kNR l yX4_placesOfSample wsX4_placesOfSample rX4_placesOfSample 1 2 E0 M [.ref (E0.2.2 g), .int (zI h)] (fun E1 M1 x => ∃ u v : Int, kMade E0 M E1 M1 x 2 (fun j => if j = 0 then u else v) ∧ u = kCnt (kSmp (X h) (L h) (X 2) (L 2)) (L h).toNat ∧ kIsFirst (X h) (L h) (X 2) (L 2) v) := by
  refine kNR_of (cc := cX4_placesOfSample) (maxL := 4) (rt := (.array .int)) RX4 hE (by decide) rfl rfl (Nat.le_of_ble_eq_true rfl) (Or.inr ⟨_, rfl⟩) ?_
  intro pg en s0 mi ar bl me co ls Q S hP hS hK hG ends hl
  have hx := S.1
  have hb := S.2.1
  have hn := hK.2.2.2
  have hinX40 : ∀ w ∈ wsX40, w ∈ wsX4_placesOfSample := fun w h => List.mem_cons_of_mem _ (List.mem_append_right _ (h))
  have hX : kExt E0 E0 := kExt.rf E0
  have hl : lv_has ls 4 [(0, .ref (E0.2.2 g)), (1, .int (zI h))] := hl
  obtain ⟨⟨g1, g2, g3, g4, g5⟩, -, hc3⟩ := id hs
  have hy0 := (hc3 0 (by omega) (by omega)).1
  have hy1 := (hc3 1 (by omega) (by omega)).1
  have hy2 := (hc3 2 (by omega) (by omega)).1
  have hyh := (hc3 h (by omega) (by omega)).1
  have hlh := hs.len (i := h) (by omega)
  have hl2 := hs.len (i := 2) (by omega)
  refine k_push hx hb dX4_placesOfSample_0 ?_
  refine k_newA (len := 2) S hK hG hP hS (S.2.2.2.2 _ (List.mem_cons_of_mem _ (List.mem_append_left _ (List.mem_of_getElem? (i := 0) rfl)))) (by omega) (by show _ ≤ (1 : Nat); omega) (by show _ ≤ (2 : Nat); omega) dX4_placesOfSample_1 (fun E1 H hX1 hn1 hK hG hP hS => ?_)
  obtain ⟨M1, eM1⟩ : ∃ N9 : kM, N9 = kNw M (kn E0) (kIa 2) := ⟨_, rfl⟩
  rw [← eM1] at hP
  have hM1 : ∀ k i : Int, k < kn E0 → M1 k i = M k i := fun k i hk => by rw [eM1]; exact kNw_ne (by omega)
  obtain ⟨q1, eq1⟩ : ∃ q : Int, q = kn E0 := ⟨_, rfl⟩
  rw [← eq1] at eM1 ⊢
  have hl : lv_has ls 4 [(0, .ref (E1.2.2 g)), (1, .int (zI h))] := by rw [hX1.ad (c := g) (by omega)]; exact hl
  have hX := hX.tr hX1
  have hs := hs.ext hX1 (fun k i _ hk => hM1 k i hk)
  have i6 : ∀ k2 i : Int, k2 < q1 → M1 k2 i = M k2 i := fun k2 i hk => hM1 k2 i (by omega)
  have i3 : M1 q1 (-2) = 0 ∧ M1 q1 (-1) = 2 := by rw [eM1, kNw_same, kNw_same]; exact ⟨rfl, rfl⟩
  refine W.widen (k := 1) (n := 2) (by omega) (by omega) ?_
  refine lv_dup hx hb dX4_placesOfSample_3 rfl ?_
  refine k_push hx hb dX4_placesOfSample_4 ?_
  refine k_push hx hb dX4_placesOfSample_5 ?_
  refine k_astG S hK hG hP hS (2) (Or.inr (Or.inr ⟨by omega, by omega, i3.1, i3.2, by omega, by omega⟩)) (by omega) dX4_placesOfSample_6 (fun H locs hP hS => ?_)
  obtain ⟨M6, eM6⟩ : ∃ N9 : kM, N9 = kU M1 q1 0 0 := ⟨_, rfl⟩
  rw [← eM6] at hP
  have hs := hs.put eM6 (by omega)
  have i3 : M6 q1 (-2) = 0 ∧ M6 q1 (-1) = 2 := by rw [eM6, kU_place (by omega), kU_place (by omega)]; exact i3
  have i6 : ∀ k2 i : Int, k2 < q1 → M6 k2 i = M k2 i := fun k2 i hk => by rw [eM6, kU_cell (by omega)]; exact i6 k2 i hk
  refine lv_dup hx hb dX4_placesOfSample_7 rfl ?_
  refine k_push hx hb dX4_placesOfSample_8 ?_
  refine k_push hx hb dX4_placesOfSample_9 ?_
  refine k_astG S hK hG hP hS (2) (Or.inr (Or.inr ⟨by omega, by omega, i3.1, i3.2, by omega, by omega⟩)) (by omega) dX4_placesOfSample_10 (fun H locs hP hS => ?_)
  obtain ⟨M10, eM10⟩ : ∃ N9 : kM, N9 = kU M6 q1 1 (-1) := ⟨_, rfl⟩
  rw [← eM10] at hP
  have hs := hs.put eM10 (by omega)
  have i3 : M10 q1 (-2) = 0 ∧ M10 q1 (-1) = 2 := by rw [eM10, kU_place (by omega), kU_place (by omega)]; exact i3
  have i6 : ∀ k2 i : Int, k2 < q1 → M10 k2 i = M k2 i := fun k2 i hk => by rw [eM10, kU_cell (by omega)]; exact i6 k2 i hk
  have i40 : M10 q1 0 = 0 := by rw [eM10, kU_place (by omega), eM6, kU_same]
  have i41 : M10 q1 1 = -1 := by rw [eM10, kU_same]
  refine lv_astore_n (lv' := [(2, .ref (E1.2.2 q1)), (0, .ref (E1.2.2 g)), (1, .int (zI h))]) hx hb dX4_placesOfSample_11 rfl hl (by decide) rfl (fun ls hl => ?_)
  refine lv_aload_n hx hb dX4_placesOfSample_12 rfl (lv_at hl 1 rfl) ?_
  refine k_sim S hK hP hinX40 0 (by decide) (S.2.2.2.2 _ (List.mem_cons_of_mem _ (List.mem_append_left _ (List.mem_of_getElem? (i := 1) rfl)))) dX4_placesOfSample_13 ⟨hs.1.1, by have := hs.1.2.1; omega, hs.1.2.2.1⟩ (a := E1.2.2 (g + 1)) hs.1.2.2.2.1 rfl ?_
  refine lv_iload_n hx hb dX4_placesOfSample_16 rfl (lv_at hl 2 rfl) ?_
  refine k_aald S hK hP 2 ⟨by have := hs.1.1; omega, hs.1.2.1, hs.2.1.1, hs.2.1.2.1, by omega, by omega⟩ (by omega) (a := E1.2.2 (y h)) (hs.2.1.2.2 _ (by omega) (by omega)) dX4_placesOfSample_17 ?_
  refine k_alen S hK hP (L h) (hs.arr (by omega)) dX4_placesOfSample_18 ?_
  refine k_push hx hb dX4_placesOfSample_19 ?_
  refine k_sub hx hb dX4_placesOfSample_20 ?_
  refine k_nm (fun v3_21 ev3_21 => ?_)
  refine lv_istore_n (lv' := [(3, .int (zI v3_21)), (2, .ref (E1.2.2 q1)), (0, .ref (E1.2.2 g)), (1, .int (zI h))]) hx hb dX4_placesOfSample_21 rfl hl (by decide) rfl (fun ls hl => ?_)
  have lp_22 : ∀ (n_22 : Nat) (q : Int) (M_22 : kM) (H : Heap) (locs : List Loc), (-1 ≤ q ∧ q < L h) → (kSm E1 M_22 g y L X) → (M_22 q1 (-2) = 0 ∧ M_22 q1 (-1) = 2) → (∀ k2 i : Int, k2 < q1 → M_22 k2 i = M k2 i) → (M_22 q1 0 = kCnt (kSmp (X h) (L h) (X 2) (L 2)) (L h).toNat - kCnt (kSmp (X h) (L h) (X 2) (L 2)) (q + 1).toNat) → ((M_22 q1 1 = -1 ∧ ∀ a : Int, q < a → a < L h → ¬ kSmp (X h) (L h) (X 2) (L 2) a) ∨ (q < M_22 q1 1 ∧ M_22 q1 1 < L h ∧ kSmp (X h) (L h) (X 2) (L 2) (M_22 q1 1) ∧ ∀ a : Int, q < a → a < M_22 q1 1 → ¬ kSmp (X h) (L h) (X 2) (L 2) a)) → (q + 1 < (n_22 : Int)) → va_P E1.1 vwCl (kW E1 M_22) H → va_S (kA E0 s0.heap.size) s0.heap H locs → ∀ ls : Array Slot, lv_has ls 4 [(0, .ref (E1.2.2 g)), (1, .int (zI h)), (2, .ref (E1.2.2 q1)), (3, .int (zI q))] → W pg l en rX4_placesOfSample s0 mi ar bl me co H locs 1 2 Q (F0 mi 22 ls []) := by
    intro n_22
    induction n_22 with
    | zero => intro q M_22 H locs h3 hs i3 i6 i4 i5 hm_22; exfalso; omega
    | succ n_22 ih_22 =>
      intro q M_22 H locs h3 hs i3 i6 i4 i5 hm_22 hP hS ls hl
      refine lv_iload_n hx hb dX4_placesOfSample_22 rfl (lv_at hl 3 rfl) ?_
      refine k_lt0 (tgt := 77) hx hb dX4_placesOfSample_23 (by decide) (by omega) (fun c_23 => ?_) (fun c_23 => ?_)
      · skip
        refine lv_aload_n hx hb dX4_placesOfSample_77 rfl (lv_at hl 2 rfl) ?_
        refine ends _ _ E1 M_22 (q1) _ _ dX4_placesOfSample_78 hX hG hP hS ?_
        have fin : M_22 q1 0 = kCnt (kSmp (X h) (L h) (X 2) (L 2)) (L h).toNat ∧ kIsFirst (X h) (L h) (X 2) (L 2) (M_22 q1 1) := by
          by_cases e : L 2 = 0
          · have no : ∀ a : Int, ¬ kSmp (X h) (L h) (X 2) (L 2) a := fun a z => by have := z.1; omega
            have z1 := kCnt_no (L h).toNat (fun a _ _ => no a)
            have z2 := kCnt_no (q + 1).toNat (fun a _ _ => no a)
            refine ⟨by omega, ?_⟩
            rcases i5 with ⟨j1, j2⟩ | ⟨j1, j2, j3, j4⟩
            · exact Or.inl ⟨j1, fun a _ _ => no a⟩
            · exact absurd j3 (no _)
          · have eq : q = -1 := by omega
            rw [eq, show ((-1 : Int) + 1).toNat = (0 : Int).toNat from rfl, kCnt_0] at i4
            refine ⟨by omega, ?_⟩
            rcases i5 with ⟨j1, j2⟩ | ⟨j1, j2, j3, j4⟩
            · exact Or.inl ⟨j1, fun a a1 a2 => j2 a (by omega) a2⟩
            · exact Or.inr ⟨by omega, j2, j3, fun a a1 a2 => j4 a (by omega) a2⟩
        refine ⟨M_22 q1 0, M_22 q1 1, ⟨⟨by omega, by omega⟩, fun k2 i hk => i6 k2 i (by omega), i3.1, i3.2, fun j j1 j2 => ?_⟩, fin.1, fin.2⟩
        show M_22 q1 j = (if j = 0 then M_22 q1 0 else M_22 q1 1)
        by_cases e : j = 0
        · rw [if_pos e, e]
        · rw [if_neg e, show j = 1 by omega]
      · skip
        refine lv_aload_n hx hb dX4_placesOfSample_26 rfl (lv_at hl 0 rfl) ?_
        refine k_sim S hK hP hinX40 1 (by decide) (S.2.2.2.2 _ (List.mem_cons_of_mem _ (List.mem_append_left _ (List.mem_of_getElem? (i := 2) rfl)))) dX4_placesOfSample_27 ⟨hs.1.1, by have := hs.1.2.1; omega, hs.1.2.2.1⟩ (a := E1.2.2 (y 2)) hs.1.2.2.2.2 rfl ?_
        refine k_alen S hK hP (L 2) (hs.arr (by omega)) dX4_placesOfSample_30 ?_
        refine k_le0 (tgt := 77) hx hb dX4_placesOfSample_31 (by decide) (by omega) (fun c_31 => ?_) (fun c_31 => ?_)
        · skip
          refine lv_aload_n hx hb dX4_placesOfSample_77 rfl (lv_at hl 2 rfl) ?_
          refine ends _ _ E1 M_22 (q1) _ _ dX4_placesOfSample_78 hX hG hP hS ?_
          have fin : M_22 q1 0 = kCnt (kSmp (X h) (L h) (X 2) (L 2)) (L h).toNat ∧ kIsFirst (X h) (L h) (X 2) (L 2) (M_22 q1 1) := by
            by_cases e : L 2 = 0
            · have no : ∀ a : Int, ¬ kSmp (X h) (L h) (X 2) (L 2) a := fun a z => by have := z.1; omega
              have z1 := kCnt_no (L h).toNat (fun a _ _ => no a)
              have z2 := kCnt_no (q + 1).toNat (fun a _ _ => no a)
              refine ⟨by omega, ?_⟩
              rcases i5 with ⟨j1, j2⟩ | ⟨j1, j2, j3, j4⟩
              · exact Or.inl ⟨j1, fun a _ _ => no a⟩
              · exact absurd j3 (no _)
            · have eq : q = -1 := by omega
              rw [eq, show ((-1 : Int) + 1).toNat = (0 : Int).toNat from rfl, kCnt_0] at i4
              refine ⟨by omega, ?_⟩
              rcases i5 with ⟨j1, j2⟩ | ⟨j1, j2, j3, j4⟩
              · exact Or.inl ⟨j1, fun a a1 a2 => j2 a (by omega) a2⟩
              · exact Or.inr ⟨by omega, j2, j3, fun a a1 a2 => j4 a (by omega) a2⟩
          refine ⟨M_22 q1 0, M_22 q1 1, ⟨⟨by omega, by omega⟩, fun k2 i hk => i6 k2 i (by omega), i3.1, i3.2, fun j j1 j2 => ?_⟩, fin.1, fin.2⟩
          show M_22 q1 j = (if j = 0 then M_22 q1 0 else M_22 q1 1)
          by_cases e : j = 0
          · rw [if_pos e, e]
          · rw [if_neg e, show j = 1 by omega]
        · skip
          refine lv_aload_n hx hb dX4_placesOfSample_34 rfl (lv_at hl 0 rfl) ?_
          refine k_sim S hK hP hinX40 0 (by decide) (S.2.2.2.2 _ (List.mem_cons_of_mem _ (List.mem_append_left _ (List.mem_of_getElem? (i := 1) rfl)))) dX4_placesOfSample_35 ⟨hs.1.1, by have := hs.1.2.1; omega, hs.1.2.2.1⟩ (a := E1.2.2 (g + 1)) hs.1.2.2.2.1 rfl ?_
          refine lv_iload_n hx hb dX4_placesOfSample_38 rfl (lv_at hl 1 rfl) ?_
          refine k_aald S hK hP 2 ⟨by have := hs.1.1; omega, hs.1.2.1, hs.2.1.1, hs.2.1.2.1, by omega, by omega⟩ (by omega) (a := E1.2.2 (y h)) (hs.2.1.2.2 _ (by omega) (by omega)) dX4_placesOfSample_39 ?_
          refine lv_iload_n hx hb dX4_placesOfSample_40 rfl (lv_at hl 3 rfl) ?_
          refine lv_aload_n hx hb dX4_placesOfSample_41 rfl (lv_at hl 0 rfl) ?_
          refine k_sim S hK hP hinX40 1 (by decide) (S.2.2.2.2 _ (List.mem_cons_of_mem _ (List.mem_append_left _ (List.mem_of_getElem? (i := 2) rfl)))) dX4_placesOfSample_42 ⟨hs.1.1, by have := hs.1.2.1; omega, hs.1.2.2.1⟩ (a := E1.2.2 (y 2)) hs.1.2.2.2.2 rfl ?_
          refine k_push hx hb dX4_placesOfSample_45 ?_
          refine k_callSN (As := [.ref (E1.2.2 (y h)), .int (zI q), .ref (E1.2.2 (y 2)), .int (zI 0)]) (rest := []) S hK hP (c_L_common l E1 M_22 (y h) q (y 2) 0 (L h) (L 2) (by exact hs.arr (by omega)) (by exact hs.arr (by omega)) (by exact hs.rng hv (by omega)) (by exact hs.rng hv (by omega)) (by omega) (by omega)) ⟨va_cnB 4 S.2.2.2.2 gX4_placesOfSample_L_common_n18 rfl rfl rfl hK.2.1.2.2.2.1 (S.2.2.2.2 _ (List.mem_cons_of_mem _ (List.mem_append_left _ (List.mem_of_getElem? (i := 4) rfl)))) (by decide +kernel) ⟨Nat.le_of_ble_eq_true rfl, Nat.le_of_ble_eq_true rfl⟩, (S.2.2.2.2 _ (List.mem_cons_of_mem _ (List.mem_append_left _ (List.mem_of_getElem? (i := 3) rfl)))), trivial⟩ rfl hl.1 rfl (Nat.le_of_ble_eq_true rfl) dX4_placesOfSample_46 ⟨by show _ ≤ (1 : Nat); omega, by show _ ≤ (2 : Nat); omega⟩ (fun z_46 h_46 => ?_)
          have k46 : kLC (X h) (L h) q (X 2) (L 2) 0 z_46 := kLC_congr h_46 (by omega) (by omega) (fun j j1 j2 => (hs.at (by omega) ⟨j1, j2⟩).symm) (fun j j1 j2 => (hs.at (by omega) ⟨j1, j2⟩).symm)
          have p46 := kSmp_lc k46 (by omega)
          have r46 := k46.2.1
          have s46 := k46.1
          have t46 := k46.2.2.1
          refine lv_aload_n hx hb dX4_placesOfSample_49 rfl (lv_at hl 0 rfl) ?_
          refine k_sim S hK hP hinX40 1 (by decide) (S.2.2.2.2 _ (List.mem_cons_of_mem _ (List.mem_append_left _ (List.mem_of_getElem? (i := 2) rfl)))) dX4_placesOfSample_50 ⟨hs.1.1, by have := hs.1.2.1; omega, hs.1.2.2.1⟩ (a := E1.2.2 (y 2)) hs.1.2.2.2.2 rfl ?_
          refine k_alen S hK hP (L 2) (hs.arr (by omega)) dX4_placesOfSample_53 ?_
          refine k_ge (tgt := 60) hx hb dX4_placesOfSample_54 (by decide) (by omega) (fun c_54 => ?_) (fun c_54 => ?_)
          · skip
            refine lv_aload_n hx hb dX4_placesOfSample_60 rfl (lv_at hl 2 rfl) ?_
            refine k_push hx hb dX4_placesOfSample_61 ?_
            refine lv_dup2_11 hx hb dX4_placesOfSample_62 rfl rfl ?_
            refine k_ald S hK hP (2) (Or.inr (Or.inr ⟨by omega, by omega, i3.1, i3.2, by omega, by omega⟩)) (by omega) dX4_placesOfSample_63 ?_
            refine k_push hx hb dX4_placesOfSample_64 ?_
            refine k_add hx hb dX4_placesOfSample_65 ?_
            refine k_astG S hK hG hP hS (2) (Or.inr (Or.inr ⟨by omega, by omega, i3.1, i3.2, by omega, by omega⟩)) (by omega) dX4_placesOfSample_66 (fun H locs hP hS => ?_)
            obtain ⟨M66, eM66⟩ : ∃ N9 : kM, N9 = kU M_22 q1 0 ((M_22 q1 0) + 1) := ⟨_, rfl⟩
            rw [← eM66] at hP
            have hs := hs.put eM66 (by omega)
            have i3 : M66 q1 (-2) = 0 ∧ M66 q1 (-1) = 2 := by rw [eM66, kU_place (by omega), kU_place (by omega)]; exact i3
            refine lv_aload_n hx hb dX4_placesOfSample_67 rfl (lv_at hl 2 rfl) ?_
            refine k_push hx hb dX4_placesOfSample_68 ?_
            refine lv_iload_n hx hb dX4_placesOfSample_69 rfl (lv_at hl 3 rfl) ?_
            refine k_astG S hK hG hP hS (2) (Or.inr (Or.inr ⟨by omega, by omega, i3.1, i3.2, by omega, by omega⟩)) (by omega) dX4_placesOfSample_70 (fun H locs hP hS => ?_)
            obtain ⟨M70, eM70⟩ : ∃ N9 : kM, N9 = kU M66 q1 1 q := ⟨_, rfl⟩
            rw [← eM70] at hP
            have hs := hs.put eM70 (by omega)
            have i3 : M70 q1 (-2) = 0 ∧ M70 q1 (-1) = 2 := by rw [eM70, kU_place (by omega), kU_place (by omega)]; exact i3
            have n0 : M70 q1 0 = M_22 q1 0 + 1 := by rw [eM70, kU_place (by omega), eM66, kU_same]
            have n1 : M70 q1 1 = q := by rw [eM70, kU_same]
            have i6 : ∀ k2 i : Int, k2 < q1 → M70 k2 i = M k2 i := fun k2 i hk => by rw [eM70, kU_cell (by omega), eM66, kU_cell (by omega)]; exact i6 k2 i hk
            have yes : kSmp (X h) (L h) (X 2) (L 2) q := p46.mpr (by omega)
            have d := kCnt_t (kSmp (X h) (L h) (X 2) (L 2)) (k := q) (by omega) yes
            obtain ⟨v3_71, ev3_71⟩ : ∃ v : Int, v = q + (-1) := ⟨_, rfl⟩
            refine k_incN (v := v3_71) (lv' := [(3, .int (zI v3_71)), (0, .ref (E1.2.2 g)), (1, .int (zI h)), (2, .ref (E1.2.2 q1))]) hx hb dX4_placesOfSample_71 hl (k := 3) rfl ev3_71 (by decide) rfl (fun ls hl => ?_)
            refine lv_goto (tgt := 22) hx hb dX4_placesOfSample_74 (by decide) ?_
            refine ih_22 v3_71 M70 _ _ (by omega) (by exact hs) (by exact i3) (by exact i6) ?_ ?_ (by omega) hP hS _ (lv_sub hl [1, 2, 3, 0] rfl)
            · rw [show v3_71 + 1 = q by omega]
              omega
            · first | (rw [n1]; exact Or.inr ⟨by omega, by omega, yes, fun a a1 a2 => by omega⟩) | (rcases i5 with ⟨j1, j2⟩ | ⟨j1, j2, j3, j4⟩)
              all_goals first | exact Or.inl ⟨j1, fun a a1 a2 => by by_cases e : a = q <;> first | (rw [e]; exact no) | exact j2 a (by omega) a2⟩ | exact Or.inr ⟨by omega, j2, j3, fun a a1 a2 => by by_cases e : a = q <;> first | (rw [e]; exact no) | exact j4 a (by omega) a2⟩
          · skip
            have no : ¬ kSmp (X h) (L h) (X 2) (L 2) q := fun z => by have := p46.mp z; omega
            have d := kCnt_f (kSmp (X h) (L h) (X 2) (L 2)) (k := q) (by omega) no
            refine lv_goto (tgt := 71) hx hb dX4_placesOfSample_57 (by decide) ?_
            obtain ⟨v3_71, ev3_71⟩ : ∃ v : Int, v = q + (-1) := ⟨_, rfl⟩
            refine k_incN (v := v3_71) (lv' := [(3, .int (zI v3_71)), (0, .ref (E1.2.2 g)), (1, .int (zI h)), (2, .ref (E1.2.2 q1))]) hx hb dX4_placesOfSample_71 hl (k := 3) rfl ev3_71 (by decide) rfl (fun ls hl => ?_)
            refine lv_goto (tgt := 22) hx hb dX4_placesOfSample_74 (by decide) ?_
            refine ih_22 v3_71 M_22 _ _ (by omega) (by exact hs) (by exact i3) (by exact i6) ?_ ?_ (by omega) hP hS _ (lv_sub hl [1, 2, 3, 0] rfl)
            · rw [show v3_71 + 1 = q by omega]
              omega
            · first | (rw [n1]; exact Or.inr ⟨by omega, by omega, yes, fun a a1 a2 => by omega⟩) | (rcases i5 with ⟨j1, j2⟩ | ⟨j1, j2, j3, j4⟩)
              all_goals first | exact Or.inl ⟨j1, fun a a1 a2 => by by_cases e : a = q <;> first | (rw [e]; exact no) | exact j2 a (by omega) a2⟩ | exact Or.inr ⟨by omega, j2, j3, fun a a1 a2 => by by_cases e : a = q <;> first | (rw [e]; exact no) | exact j4 a (by omega) a2⟩
  refine lp_22 (((v3_21 + 1 : Int)).toNat + 1) v3_21 M10 _ _ (by omega) (by exact hs) (by exact i3) (by exact i6) (by rw [i40, show v3_21 + 1 = L h by omega]; omega) (by exact Or.inl ⟨i41, fun a a1 a2 => by omega⟩) (by omega) hP hS _ (lv_sub hl [2, 3, 1, 0] rfl)
abbrev rX4_turned : Room := { frames := 1, cells := 1, slots := 80, locals := 24 }
set_option maxHeartbeats 4000000 in
set_option maxRecDepth 100000 in
/-- the law's own turn -/
theorem c_X4_turned (l : Launch) (E0 : kE) (hE : kInj E0) (M : kM) (g h : Int) (y L : Int → Int) (X : Int → Int → Int) (hs : kSm E0 M g y L X) (hv : ∀ i j : Int, 0 ≤ i → i < 3 → 0 ≤ j → j < L i → 0 ≤ X i j ∧ X i j ≤ 8) (hh : 0 ≤ h ∧ h < 2) : kNI l yX4_turned wsX4_turned rX4_turned 1 80 E0 M [.ref (E0.2.2 g), .int (zI h)] (fun E1 M1 z => (kIsTurn (X h) (L h) z ∧ -1 ≤ z ∧ z < 40) ∧ kn E1 = kn E0 + 1 ∧ ∀ k i : Int, k < kn E0 → M1 k i = M k i) := by
  refine kNI_of (cc := cX4_turned) (maxL := 7) (rt := .int) RX4 hE (by decide) rfl rfl (Nat.le_of_ble_eq_true rfl) (fun _ _ _ _ => rfl) ?_
  intro pg en s0 mi ar bl me co ls Q S hP hS hK hG ends hl
  have hx := S.1
  have hb := S.2.1
  have hn := hK.2.2.2
  have hinX40 : ∀ w ∈ wsX40, w ∈ wsX4_turned := fun w h => List.mem_cons_of_mem _ (List.mem_append_right _ (h))
  have hX : kExt E0 E0 := kExt.rf E0
  have hl : lv_has ls 7 [(0, .ref (E0.2.2 g)), (1, .int (zI h))] := hl
  obtain ⟨⟨g1, g2, g3, g4, g5⟩, -, hc3⟩ := id hs
  have hy0 := (hc3 0 (by omega) (by omega)).1
  have hy1 := (hc3 1 (by omega) (by omega)).1
  have hy2 := (hc3 2 (by omega) (by omega)).1
  have hyh := (hc3 h (by omega) (by omega)).1
  have hlh := hs.len (i := h) (by omega)
  have hl2 := hs.len (i := 2) (by omega)
  refine lv_aload_n hx hb dX4_turned_0 rfl (lv_at hl 0 rfl) ?_
  refine k_sim S hK hP hinX40 0 (by decide) (S.2.2.2.2 _ (List.mem_cons_of_mem _ (List.mem_append_left _ (List.mem_of_getElem? (i := 0) rfl)))) dX4_turned_1 ⟨hs.1.1, by have := hs.1.2.1; omega, hs.1.2.2.1⟩ (a := E0.2.2 (g + 1)) hs.1.2.2.2.1 rfl ?_
  refine lv_iload_n hx hb dX4_turned_4 rfl (lv_at hl 1 rfl) ?_
  refine k_aald S hK hP 2 ⟨by have := hs.1.1; omega, hs.1.2.1, hs.2.1.1, hs.2.1.2.1, by omega, by omega⟩ (by omega) (a := E0.2.2 (y h)) (hs.2.1.2.2 _ (by omega) (by omega)) dX4_turned_5 ?_
  refine k_alen S hK hP (L h) (hs.arr (by omega)) dX4_turned_6 ?_
  refine k_nm (fun v2_7 ev2_7 => ?_)
  refine lv_istore_n (lv' := [(2, .int (zI v2_7)), (0, .ref (E0.2.2 g)), (1, .int (zI h))]) hx hb dX4_turned_7 rfl hl (by decide) rfl (fun ls hl => ?_)
  refine k_push hx hb dX4_turned_8 ?_
  refine lv_iload_n hx hb dX4_turned_9 rfl (lv_at hl 0 rfl) ?_
  refine k_mul hx hb dX4_turned_10 ?_
  refine k_newA (len := 2 * v2_7) S hK hG hP hS (S.2.2.2.2 _ (List.mem_cons_of_mem _ (List.mem_append_left _ (List.mem_of_getElem? (i := 1) rfl)))) (by omega) (by show _ ≤ (1 : Nat); omega) (by show _ ≤ (80 : Nat); omega) dX4_turned_11 (fun E11 H hX11 hn11 hK hG hP hS => ?_)
  obtain ⟨M11, eM11⟩ : ∃ N9 : kM, N9 = kNw M (kn E0) (kIa (2 * v2_7)) := ⟨_, rfl⟩
  rw [← eM11] at hP
  have hM11 : ∀ k i : Int, k < kn E0 → M11 k i = M k i := fun k i hk => by rw [eM11]; exact kNw_ne (by omega)
  obtain ⟨q11, eq11⟩ : ∃ q : Int, q = kn E0 := ⟨_, rfl⟩
  rw [← eq11] at eM11 ⊢
  have hl : lv_has ls 7 [(2, .int (zI v2_7)), (0, .ref (E11.2.2 g)), (1, .int (zI h))] := by rw [hX11.ad (c := g) (by omega)]; exact hl
  have hX := hX.tr hX11
  have hs := hs.ext hX11 (fun k i _ hk => hM11 k i hk)
  have i6 : ∀ k2 i : Int, k2 < q11 → M11 k2 i = M k2 i := fun k2 i hk => hM11 k2 i (by omega)
  have i3 : M11 q11 (-2) = 0 ∧ M11 q11 (-1) = 2 * v2_7 := by rw [eM11, kNw_same, kNw_same]; exact ⟨rfl, rfl⟩
  refine W.widen (k := 1) (n := 80) (by omega) (by omega) ?_
  refine lv_astore_n (lv' := [(3, .ref (E11.2.2 q11)), (2, .int (zI v2_7)), (0, .ref (E11.2.2 g)), (1, .int (zI h))]) hx hb dX4_turned_13 rfl hl (by decide) rfl (fun ls hl => ?_)
  refine k_push hx hb dX4_turned_14 ?_
  refine lv_istore (lv' := [(4, .int (zI 0)), (3, .ref (E11.2.2 q11)), (2, .int (zI v2_7)), (0, .ref (E11.2.2 g)), (1, .int (zI h))]) hx hb dX4_turned_15 hl (by decide) rfl (fun ls hl => ?_)
  have lp_17 : ∀ (n_17 : Nat) (k : Int) (M_17 : kM) (H : Heap) (locs : List Loc), (0 ≤ k ∧ k ≤ 2 * v2_7) → (kSm E11 M_17 g y L X) → (M_17 q11 (-2) = 0 ∧ M_17 q11 (-1) = 2 * v2_7) → (∀ k2 i : Int, k2 < q11 → M_17 k2 i = M k2 i) → (∀ j : Int, 0 ≤ j → j < k → M_17 q11 j = X h (j % v2_7)) → (2 * v2_7 - k < (n_17 : Int)) → va_P E11.1 vwCl (kW E11 M_17) H → va_S (kA E0 s0.heap.size) s0.heap H locs → ∀ ls : Array Slot, lv_has ls 7 [(0, .ref (E11.2.2 g)), (1, .int (zI h)), (2, .int (zI v2_7)), (3, .ref (E11.2.2 q11)), (4, .int (zI k))] → W pg l en rX4_turned s0 mi ar bl me co H locs 1 80 Q (F0 mi 17 ls []) := by
    intro n_17
    induction n_17 with
    | zero => intro k M_17 H locs h3 hs i3 i6 i4 hm_17; exfalso; omega
    | succ n_17 ih_17 =>
      intro k M_17 H locs h3 hs i3 i6 i4 hm_17 hP hS ls hl
      refine lv_iload hx hb dX4_turned_17 (lv_at hl 4 rfl) ?_
      refine k_push hx hb dX4_turned_19 ?_
      refine lv_iload_n hx hb dX4_turned_20 rfl (lv_at hl 2 rfl) ?_
      refine k_mul hx hb dX4_turned_21 ?_
      refine k_ge (tgt := 46) hx hb dX4_turned_22 (by decide) (by omega) (fun c_22 => ?_) (fun c_22 => ?_)
      · skip
        refine lv_iload_n hx hb dX4_turned_46 rfl (lv_at hl 2 rfl) ?_
        refine k_push hx hb dX4_turned_47 ?_
        refine k_sub hx hb dX4_turned_48 ?_
        refine k_nm (fun v4_49 ev4_49 => ?_)
        refine lv_istore (lv' := [(4, .int (zI v4_49)), (0, .ref (E11.2.2 g)), (1, .int (zI h)), (2, .int (zI v2_7)), (3, .ref (E11.2.2 q11))]) hx hb dX4_turned_49 hl (by decide) rfl (fun ls hl => ?_)
        have hr17 : ∀ j : Int, 0 ≤ j → j < 2 * v2_7 → 0 ≤ M_17 q11 j ∧ M_17 q11 j ≤ 8 := fun j j1 j2 => by
          rw [i4 j j1 (by omega)]
          have e1 := Int.emod_nonneg j (b := v2_7) (by omega)
          have e2 := Int.emod_lt_of_pos j (b := v2_7) (by omega)
          exact hv h _ (by omega) (by omega) e1 (by omega)
        have hd17 : ∀ j : Int, 0 ≤ j → j < 2 * v2_7 → M_17 q11 j = X h (j % v2_7) := fun j j1 j2 => i4 j j1 (by omega)
        refine lv_iload_n hx hb dX4_turned_51 rfl (lv_at hl 3 rfl) ?_
        refine k_push hx hb dX4_turned_52 ?_
        refine k_sub hx hb dX4_turned_53 ?_
        refine k_nm (fun v5_54 ev5_54 => ?_)
        refine lv_istore (lv' := [(5, .int (zI v5_54)), (4, .int (zI v4_49)), (0, .ref (E11.2.2 g)), (1, .int (zI h)), (2, .int (zI v2_7)), (3, .ref (E11.2.2 q11))]) hx hb dX4_turned_54 hl (by decide) rfl (fun ls hl => ?_)
        have lp_56 : ∀ (n_56 : Nat) (b : Int) (q : Int), ((v2_7 = 0 ∧ b = -1 ∧ q = -2) ∨ (0 < v2_7 ∧ -1 ≤ q ∧ q < b ∧ b < v2_7 ∧ ∀ a : Int, q < a → a < v2_7 → ¬ kRL (X h) v2_7 a b ∧ (a < b → kRL (X h) v2_7 b a))) → (q + 3 < (n_56 : Int)) → ∀ ls : Array Slot, lv_has ls 7 [(0, .ref (E11.2.2 g)), (1, .int (zI h)), (2, .int (zI v2_7)), (3, .ref (E11.2.2 q11)), (4, .int (zI b)), (5, .int (zI q))] → W pg l en rX4_turned s0 mi ar bl me co H locs 1 80 Q (F0 mi 56 ls []) := by
          intro n_56
          induction n_56 with
          | zero => intro b q i5 hm_56; exfalso; omega
          | succ n_56 ih_56 =>
            intro b q i5 hm_56 ls hl
            refine lv_iload hx hb dX4_turned_56 (lv_at hl 5 rfl) ?_
            refine k_lt0 (tgt := 105) hx hb dX4_turned_58 (by decide) (by omega) (fun c_58 => ?_) (fun c_58 => ?_)
            · skip
              refine lv_iload hx hb dX4_turned_105 (lv_at hl 4 rfl) ?_
              refine ends _ _ E11 M_17 (b) _ _ dX4_turned_107 hX hG hP hS ?_
              refine ⟨?_, by omega, fun k2 i hk => i6 k2 i (by omega)⟩
              rcases i5 with ⟨j1, j2, j3⟩ | ⟨j1, j2, j3, j4, j5⟩
              · exact ⟨Or.inl ⟨by omega, by omega⟩, by omega, by omega⟩
              · rw [← ev2_7]
                exact ⟨kTurn_of ⟨⟨by omega, j4⟩, fun a a1 a2 => j5 a (by omega) a2⟩, by omega, by omega⟩
            · skip
              refine lv_aload_n hx hb dX4_turned_61 rfl (lv_at hl 3 rfl) ?_
              refine lv_iload hx hb dX4_turned_62 (lv_at hl 5 rfl) ?_
              refine lv_aload_n hx hb dX4_turned_64 rfl (lv_at hl 3 rfl) ?_
              refine lv_iload hx hb dX4_turned_65 (lv_at hl 4 rfl) ?_
              refine k_callSN (As := [.ref (E11.2.2 q11), .int (zI q), .ref (E11.2.2 q11), .int (zI b)]) (rest := []) S hK hP (c_L_common l E11 M_17 q11 q q11 b (2 * v2_7) (2 * v2_7) (by exact Or.inr (Or.inr ⟨by omega, by omega, i3.1, i3.2, by omega, by omega⟩)) (by exact Or.inr (Or.inr ⟨by omega, by omega, i3.1, i3.2, by omega, by omega⟩)) (by assumption) (by assumption) (by omega) (by omega)) ⟨va_cnB 4 S.2.2.2.2 gX4_turned_L_common_n18 rfl rfl rfl hK.2.1.2.2.2.1 (S.2.2.2.2 _ (List.mem_cons_of_mem _ (List.mem_append_left _ (List.mem_of_getElem? (i := 3) rfl)))) (by decide +kernel) ⟨Nat.le_of_ble_eq_true rfl, Nat.le_of_ble_eq_true rfl⟩, (S.2.2.2.2 _ (List.mem_cons_of_mem _ (List.mem_append_left _ (List.mem_of_getElem? (i := 2) rfl)))), trivial⟩ rfl hl.1 rfl (Nat.le_of_ble_eq_true rfl) dX4_turned_67 ⟨by show _ ≤ (1 : Nat); omega, by show _ ≤ (80 : Nat); omega⟩ (fun z_67 h_67 => ?_)
              have t67 := kTurn_lc (x := X h) hd17 (a := q) (b := b) (by omega) (by omega) h_67
              have s67 := kBest_step (x := X h) (n := v2_7) (q := q) (b := b) (by omega) (by omega) (i5.resolve_left (by omega)).2.2.2.2
              have r67 := h_67.2.1
              have q67 := h_67.1
              have u67 := h_67.2.2.1
              refine lv_istore (lv' := [(6, .int (zI z_67)), (0, .ref (E11.2.2 g)), (1, .int (zI h)), (2, .int (zI v2_7)), (3, .ref (E11.2.2 q11)), (4, .int (zI b)), (5, .int (zI q))]) hx hb dX4_turned_70 hl (by decide) rfl (fun ls hl => ?_)
              refine lv_iload hx hb dX4_turned_72 (lv_at hl 0 rfl) ?_
              refine lv_iload_n hx hb dX4_turned_74 rfl (lv_at hl 3 rfl) ?_
              refine k_ge (tgt := 95) hx hb dX4_turned_75 (by decide) (by omega) (fun c_75 => ?_) (fun c_75 => ?_)
              · skip
                refine lv_iload hx hb dX4_turned_95 (lv_at hl 6 rfl) ?_
                refine lv_istore (lv' := [(4, .int (zI q)), (6, .int (zI z_67)), (0, .ref (E11.2.2 g)), (1, .int (zI h)), (2, .int (zI v2_7)), (3, .ref (E11.2.2 q11)), (5, .int (zI q))]) hx hb dX4_turned_97 hl (by decide) rfl (fun ls hl => ?_)
                obtain ⟨v5_99, ev5_99⟩ : ∃ v : Int, v = q + (-1) := ⟨_, rfl⟩
                refine k_incN (v := v5_99) (lv' := [(5, .int (zI v5_99)), (4, .int (zI q)), (6, .int (zI z_67)), (0, .ref (E11.2.2 g)), (1, .int (zI h)), (2, .int (zI v2_7)), (3, .ref (E11.2.2 q11))]) hx hb dX4_turned_99 hl (k := 6) rfl ev5_99 (by decide) rfl (fun ls hl => ?_)
                refine lv_goto (tgt := 56) hx hb dX4_turned_102 (by decide) ?_
                refine ih_56 q v5_99 ?_ (by omega) _ (lv_sub hl [3, 4, 5, 6, 1, 0] rfl)
                · refine Or.inr ⟨by omega, by omega, by omega, by omega, fun a a1 a2 => ?_⟩
                  first | exact s67.1 (t67.1 (by omega)) a (by omega) a2 | exact s67.1 ((t67.2 (by omega)).1 (by omega)) a (by omega) a2 | exact s67.2 ((t67.2 (by omega)).2 (by omega)) a (by omega) a2
              · skip
                refine lv_aload_n hx hb dX4_turned_78 rfl (lv_at hl 4 rfl) ?_
                refine lv_iload hx hb dX4_turned_79 (lv_at hl 6 rfl) ?_
                refine lv_iload hx hb dX4_turned_81 (lv_at hl 0 rfl) ?_
                refine k_add hx hb dX4_turned_83 ?_
                have w1 := hr17 (q + z_67) (by omega) (by omega)
                refine k_ald S hK hP (2 * v2_7) (Or.inr (Or.inr ⟨by omega, by omega, i3.1, i3.2, by omega, by omega⟩)) (by omega) dX4_turned_84 ?_
                refine lv_aload_n hx hb dX4_turned_85 rfl (lv_at hl 4 rfl) ?_
                refine lv_iload hx hb dX4_turned_86 (lv_at hl 5 rfl) ?_
                refine lv_iload hx hb dX4_turned_88 (lv_at hl 0 rfl) ?_
                refine k_add hx hb dX4_turned_90 ?_
                have w2 := hr17 (b + z_67) (by omega) (by omega)
                refine k_ald S hK hP (2 * v2_7) (Or.inr (Or.inr ⟨by omega, by omega, i3.1, i3.2, by omega, by omega⟩)) (by omega) dX4_turned_91 ?_
                refine k_ge (tgt := 99) hx hb dX4_turned_92 (by decide) (by omega) (fun c_92 => ?_) (fun c_92 => ?_)
                · skip
                  obtain ⟨v5_99, ev5_99⟩ : ∃ v : Int, v = q + (-1) := ⟨_, rfl⟩
                  refine k_incN (v := v5_99) (lv' := [(5, .int (zI v5_99)), (6, .int (zI z_67)), (0, .ref (E11.2.2 g)), (1, .int (zI h)), (2, .int (zI v2_7)), (3, .ref (E11.2.2 q11)), (4, .int (zI b))]) hx hb dX4_turned_99 hl (k := 6) rfl ev5_99 (by decide) rfl (fun ls hl => ?_)
                  refine lv_goto (tgt := 56) hx hb dX4_turned_102 (by decide) ?_
                  refine ih_56 b v5_99 ?_ (by omega) _ (lv_sub hl [2, 3, 4, 5, 6, 0] rfl)
                  · refine Or.inr ⟨by omega, by omega, by omega, by omega, fun a a1 a2 => ?_⟩
                    first | exact s67.1 (t67.1 (by omega)) a (by omega) a2 | exact s67.1 ((t67.2 (by omega)).1 (by omega)) a (by omega) a2 | exact s67.2 ((t67.2 (by omega)).2 (by omega)) a (by omega) a2
                · skip
                  refine lv_iload hx hb dX4_turned_95 (lv_at hl 6 rfl) ?_
                  refine lv_istore (lv' := [(4, .int (zI q)), (6, .int (zI z_67)), (0, .ref (E11.2.2 g)), (1, .int (zI h)), (2, .int (zI v2_7)), (3, .ref (E11.2.2 q11)), (5, .int (zI q))]) hx hb dX4_turned_97 hl (by decide) rfl (fun ls hl => ?_)
                  obtain ⟨v5_99, ev5_99⟩ : ∃ v : Int, v = q + (-1) := ⟨_, rfl⟩
                  refine k_incN (v := v5_99) (lv' := [(5, .int (zI v5_99)), (4, .int (zI q)), (6, .int (zI z_67)), (0, .ref (E11.2.2 g)), (1, .int (zI h)), (2, .int (zI v2_7)), (3, .ref (E11.2.2 q11))]) hx hb dX4_turned_99 hl (k := 6) rfl ev5_99 (by decide) rfl (fun ls hl => ?_)
                  refine lv_goto (tgt := 56) hx hb dX4_turned_102 (by decide) ?_
                  refine ih_56 q v5_99 ?_ (by omega) _ (lv_sub hl [3, 4, 5, 6, 1, 0] rfl)
                  · refine Or.inr ⟨by omega, by omega, by omega, by omega, fun a a1 a2 => ?_⟩
                    first | exact s67.1 (t67.1 (by omega)) a (by omega) a2 | exact s67.1 ((t67.2 (by omega)).1 (by omega)) a (by omega) a2 | exact s67.2 ((t67.2 (by omega)).2 (by omega)) a (by omega) a2
        refine lp_56 (((v5_54 + 3 : Int)).toNat + 1) v4_49 v5_54 ?_ (by omega) _ (lv_sub hl [2, 3, 4, 5, 1, 0] rfl)
        · by_cases e : v2_7 = 0
          · exact Or.inl ⟨e, by omega, by omega⟩
          · refine Or.inr ⟨by omega, by omega, by omega, by omega, fun a a1 a2 => ?_⟩
            rw [show a = v4_49 by omega]
            exact ⟨kRL_irr, fun z => by omega⟩
      · skip
        refine lv_aload_n hx hb dX4_turned_25 rfl (lv_at hl 3 rfl) ?_
        refine lv_iload hx hb dX4_turned_26 (lv_at hl 4 rfl) ?_
        refine lv_aload_n hx hb dX4_turned_28 rfl (lv_at hl 0 rfl) ?_
        refine k_sim S hK hP hinX40 0 (by decide) (S.2.2.2.2 _ (List.mem_cons_of_mem _ (List.mem_append_left _ (List.mem_of_getElem? (i := 0) rfl)))) dX4_turned_29 ⟨hs.1.1, by have := hs.1.2.1; omega, hs.1.2.2.1⟩ (a := E11.2.2 (g + 1)) hs.1.2.2.2.1 rfl ?_
        refine lv_iload_n hx hb dX4_turned_32 rfl (lv_at hl 1 rfl) ?_
        refine k_aald S hK hP 2 ⟨by have := hs.1.1; omega, hs.1.2.1, hs.2.1.1, hs.2.1.2.1, by omega, by omega⟩ (by omega) (a := E11.2.2 (y h)) (hs.2.1.2.2 _ (by omega) (by omega)) dX4_turned_33 ?_
        refine lv_iload hx hb dX4_turned_34 (lv_at hl 4 rfl) ?_
        refine lv_iload_n hx hb dX4_turned_36 rfl (lv_at hl 2 rfl) ?_
        refine k_rem hx hb dX4_turned_37 (by omega) ?_
        have e37 := Int.emod_nonneg k (b := v2_7) (by omega)
        have f37 := Int.emod_lt_of_pos k (b := v2_7) (by omega)
        refine k_ald S hK hP (L h) (hs.arr (by omega)) (by omega) dX4_turned_38 ?_
        refine k_astG S hK hG hP hS (2 * v2_7) (Or.inr (Or.inr ⟨by omega, by omega, i3.1, i3.2, by omega, by omega⟩)) (by omega) dX4_turned_39 (fun H locs hP hS => ?_)
        obtain ⟨M39, eM39⟩ : ∃ N9 : kM, N9 = kU M_17 q11 k (M_17 (y h) (k % v2_7)) := ⟨_, rfl⟩
        rw [← eM39] at hP
        have hat := hs.at (i := h) (j := k % v2_7) (by omega) (by omega)
        have hs := hs.put eM39 (by omega)
        have i3 : M39 q11 (-2) = 0 ∧ M39 q11 (-1) = 2 * v2_7 := by rw [eM39, kU_place (by omega), kU_place (by omega)]; exact i3
        have i6 : ∀ k2 i : Int, k2 < q11 → M39 k2 i = M k2 i := fun k2 i hk => by rw [eM39, kU_cell (by omega)]; exact i6 k2 i hk
        obtain ⟨v4_40, ev4_40⟩ : ∃ v : Int, v = k + 1 := ⟨_, rfl⟩
        refine k_incN (v := v4_40) (lv' := [(4, .int (zI v4_40)), (0, .ref (E11.2.2 g)), (1, .int (zI h)), (2, .int (zI v2_7)), (3, .ref (E11.2.2 q11))]) hx hb dX4_turned_40 hl (k := 4) rfl ev4_40 (by decide) rfl (fun ls hl => ?_)
        refine lv_goto (tgt := 17) hx hb dX4_turned_43 (by decide) ?_
        refine ih_17 v4_40 M39 _ _ (by omega) (by exact hs) (by exact i3) (by exact i6) ?_ (by omega) hP hS _ (lv_sub hl [1, 2, 3, 4, 0] rfl)
        · intro j j1 j2
          rw [eM39]
          by_cases e : j = k
          · rw [e, kU_same]; exact hat
          · rw [kU_place e]; exact i4 j j1 (by omega)
  refine lp_17 (((2 * v2_7 - 0 : Int)).toNat + 1) 0 M11 _ _ (by omega) (by exact hs) (by exact i3) (by exact i6) (by intro j j1 j2; omega) (by omega) hP hS _ (lv_sub hl [3, 4, 2, 1, 0] rfl)
