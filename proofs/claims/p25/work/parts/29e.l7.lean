abbrev rX4_init : Room := { frames := 1, cells := 4, slots := 2, locals := 20 }
set_option maxHeartbeats 4000000 in
set_option maxRecDepth 100000 in
/-- a new Sim -/
theorem c_X4_init (l : Launch) (E0 : kE) (hE : kInj E0) (M : kM) (g : Int) (hg : 11 ≤ g ∧ kn E0 = g + 1) (hk : M g (-2) = 3) : kNV l yX4_init wsX4_init rX4_init 4 2 E0 M [.ref (E0.2.2 g)] (fun E1 M1 => ∃ y : Int → Int, kSm E1 M1 g y (fun _ => 0) (fun _ _ => 0) ∧ ∀ k i : Int, k < g → M1 k i = M k i) := by
  refine kNV_of (cc := cX4_init) (maxL := 1) RX4 hE (by decide) rfl rfl (Nat.le_of_ble_eq_true rfl) rfl ?_
  intro pg en s0 mi ar bl me co ls Q S hP hS hK hG hin ends hl
  have hx := S.1
  have hb := S.2.1
  have hn := hK.2.2.2
  have hinX40 : ∀ w ∈ wsX40, w ∈ wsX4_init := fun w h => List.mem_cons_of_mem _ (List.mem_append_right _ (h))
  have hX : kExt E0 E0 := kExt.rf E0
  have hl : lv_has ls 1 [(0, .ref (E0.2.2 g))] := hl
  have hF : ∀ k i : Int, k < g → M k i = M k i := fun _ _ _ => rfl
  refine lv_aload_n hx hb dX4_init_0 rfl (lv_at hl 0 rfl) ?_
  refine W.objInit hx hb S.2.2.2.1 (S.2.2.2.2 _ (List.mem_cons_of_mem _ (List.mem_append_left _ (List.mem_of_getElem? (i := 0) rfl)))) (S.2.2.2.2 _ (List.mem_cons_of_mem _ (List.mem_append_left _ (List.mem_of_getElem? (i := 1) rfl)))) (S.2.2.2.2 _ (List.mem_cons_of_mem _ (List.mem_append_left _ (List.mem_of_getElem? (i := 2) rfl)))) rfl (by rw [S.2.2.1]; exact hl.1) rfl dX4_init_1 (Nat.le_of_ble_eq_true rfl) (Nat.le_of_ble_eq_true rfl) ?_
  refine W.eq (g2 := F0 mi 4 ls []) rfl ?_
  refine lv_aload_n hx hb dX4_init_4 rfl (lv_at hl 0 rfl) ?_
  refine k_push hx hb dX4_init_5 ?_
  refine k_newG (len := 2) S hK hG hP hS (S.2.2.2.2 _ (List.mem_cons_of_mem _ (List.mem_append_left _ (List.mem_of_getElem? (i := 3) rfl)))) (by omega) (by show _ ≤ (4 : Nat); omega) (by show _ ≤ (2 : Nat); omega) dX4_init_6 (fun E6 H hX6 hn6 hK hG hP hS => ?_)
  obtain ⟨M6, eM6⟩ : ∃ N9 : kM, N9 = kNw M (kn E0) (kGa 2) := ⟨_, rfl⟩
  rw [← eM6] at hP
  have hM6 : ∀ k i : Int, k < kn E0 → M6 k i = M k i := fun k i hk => by rw [eM6]; exact kNw_ne (by omega)
  obtain ⟨q6, eq6⟩ : ∃ q : Int, q = kn E0 := ⟨_, rfl⟩
  rw [← eq6] at eM6 ⊢
  have hl : lv_has ls 1 [(0, .ref (E6.2.2 g))] := by rw [hX6.ad (c := g) (by omega)]; exact hl
  rw [← hX6.ad (c := g) (by omega)]
  have hk : M6 g (-2) = 3 := by rw [hM6 _ _ (by omega)]; exact hk
  have hF : ∀ k i : Int, k < g → M6 k i = M k i := fun k i hk => (hM6 k i (by omega)).trans (hF k i hk)
  have hX := hX.tr hX6
  refine lv_dup hx hb dX4_init_9 rfl ?_
  refine k_push hx hb dX4_init_10 ?_
  refine k_push hx hb dX4_init_11 ?_
  refine k_newA (len := 0) S hK hG hP hS (S.2.2.2.2 _ (List.mem_cons_of_mem _ (List.mem_append_left _ (List.mem_of_getElem? (i := 4) rfl)))) (by omega) (by show _ ≤ (4 : Nat); omega) (by show _ ≤ (2 : Nat); omega) dX4_init_12 (fun E12 H hX12 hn12 hK hG hP hS => ?_)
  obtain ⟨M12, eM12⟩ : ∃ N9 : kM, N9 = kNw M6 (kn E6) (kIa 0) := ⟨_, rfl⟩
  rw [← eM12] at hP
  have hM12 : ∀ k i : Int, k < kn E6 → M12 k i = M6 k i := fun k i hk => by rw [eM12]; exact kNw_ne (by omega)
  obtain ⟨q12, eq12⟩ : ∃ q : Int, q = kn E6 := ⟨_, rfl⟩
  rw [← eq12] at eM12 ⊢
  have hl : lv_has ls 1 [(0, .ref (E12.2.2 g))] := by rw [hX12.ad (c := g) (by omega)]; exact hl
  rw [← hX12.ad (c := q6) (by omega)]
  rw [← hX12.ad (c := g) (by omega)]
  have hk : M12 g (-2) = 3 := by rw [hM12 _ _ (by omega)]; exact hk
  have hF : ∀ k i : Int, k < g → M12 k i = M k i := fun k i hk => (hM12 k i (by omega)).trans (hF k i hk)
  have hX := hX.tr hX12
  refine k_aast S hK hG hP hS 2 0 ⟨by omega, by omega, by rw [eM12, kNw_ne (by omega), eM6, kNw_hit]; rfl, by rw [eM12, kNw_ne (by omega), eM6, kNw_hit]; rfl, by omega, by omega⟩ (by omega) (Or.inr (Or.inr ⟨by omega, by omega, by rw [eM12, kNw_hit]; rfl, by rw [eM12, kNw_hit]; rfl, by omega, by omega⟩)) dX4_init_14 (fun H locs hP hS => ?_)
  obtain ⟨M14, eM14⟩ : ∃ N9 : kM, N9 = kU M12 q6 0 (E12.2.2 q12 : Int) := ⟨_, rfl⟩
  rw [← eM14] at hP
  have hk : M14 g (-2) = 3 := by rw [eM14, kU_cell (by omega)]; exact hk
  have hF : ∀ k i : Int, k < g → M14 k i = M k i := fun k i hk => by rw [eM14, kU_cell (by omega)]; exact hF k i hk
  refine lv_dup hx hb dX4_init_15 rfl ?_
  refine k_push hx hb dX4_init_16 ?_
  refine k_push hx hb dX4_init_17 ?_
  refine k_newA (len := 0) S hK hG hP hS (S.2.2.2.2 _ (List.mem_cons_of_mem _ (List.mem_append_left _ (List.mem_of_getElem? (i := 4) rfl)))) (by omega) (by show _ ≤ (4 : Nat); omega) (by show _ ≤ (2 : Nat); omega) dX4_init_18 (fun E18 H hX18 hn18 hK hG hP hS => ?_)
  obtain ⟨M18, eM18⟩ : ∃ N9 : kM, N9 = kNw M14 (kn E12) (kIa 0) := ⟨_, rfl⟩
  rw [← eM18] at hP
  have hM18 : ∀ k i : Int, k < kn E12 → M18 k i = M14 k i := fun k i hk => by rw [eM18]; exact kNw_ne (by omega)
  obtain ⟨q18, eq18⟩ : ∃ q : Int, q = kn E12 := ⟨_, rfl⟩
  rw [← eq18] at eM18 ⊢
  have hl : lv_has ls 1 [(0, .ref (E18.2.2 g))] := by rw [hX18.ad (c := g) (by omega)]; exact hl
  rw [← hX18.ad (c := q6) (by omega)]
  rw [← hX18.ad (c := g) (by omega)]
  have hk : M18 g (-2) = 3 := by rw [hM18 _ _ (by omega)]; exact hk
  have hF : ∀ k i : Int, k < g → M18 k i = M k i := fun k i hk => (hM18 k i (by omega)).trans (hF k i hk)
  have hX := hX.tr hX18
  refine k_aast S hK hG hP hS 2 0 ⟨by omega, by omega, by rw [eM18, kNw_ne (by omega), eM14, kU_place (by omega), eM12, kNw_ne (by omega), eM6, kNw_hit]; rfl, by rw [eM18, kNw_ne (by omega), eM14, kU_place (by omega), eM12, kNw_ne (by omega), eM6, kNw_hit]; rfl, by omega, by omega⟩ (by omega) (Or.inr (Or.inr ⟨by omega, by omega, by rw [eM18, kNw_hit]; rfl, by rw [eM18, kNw_hit]; rfl, by omega, by omega⟩)) dX4_init_20 (fun H locs hP hS => ?_)
  obtain ⟨M20, eM20⟩ : ∃ N9 : kM, N9 = kU M18 q6 1 (E18.2.2 q18 : Int) := ⟨_, rfl⟩
  rw [← eM20] at hP
  have hk : M20 g (-2) = 3 := by rw [eM20, kU_cell (by omega)]; exact hk
  have hF : ∀ k i : Int, k < g → M20 k i = M k i := fun k i hk => by rw [eM20, kU_cell (by omega)]; exact hF k i hk
  refine k_putsim S hK hG hP hS hinX40 0 (by decide) (S.2.2.2.2 _ (List.mem_cons_of_mem _ (List.mem_append_left _ (List.mem_of_getElem? (i := 5) rfl)))) dX4_init_21 ⟨by omega, by omega, hk⟩ (fun H locs hP hS => ?_)
  have hP : va_P E18.1 vwCl (kW E18 (kU M20 g 0 (E18.2.2 q6 : Int))) H := hP
  obtain ⟨M21, eM21⟩ : ∃ N9 : kM, N9 = kU M20 g 0 (E18.2.2 q6 : Int) := ⟨_, rfl⟩
  rw [← eM21] at hP
  have hk : M21 g (-2) = 3 := by rw [eM21, kU_place (by omega)]; exact hk
  have hF : ∀ k i : Int, k < g → M21 k i = M k i := fun k i hk => by rw [eM21, kU_cell (by omega)]; exact hF k i hk
  refine lv_aload_n hx hb dX4_init_24 rfl (lv_at hl 0 rfl) ?_
  refine k_push hx hb dX4_init_25 ?_
  refine k_newA (len := 0) S hK hG hP hS (S.2.2.2.2 _ (List.mem_cons_of_mem _ (List.mem_append_left _ (List.mem_of_getElem? (i := 4) rfl)))) (by omega) (by show _ ≤ (4 : Nat); omega) (by show _ ≤ (2 : Nat); omega) dX4_init_26 (fun E26 H hX26 hn26 hK hG hP hS => ?_)
  obtain ⟨M26, eM26⟩ : ∃ N9 : kM, N9 = kNw M21 (kn E18) (kIa 0) := ⟨_, rfl⟩
  rw [← eM26] at hP
  have hM26 : ∀ k i : Int, k < kn E18 → M26 k i = M21 k i := fun k i hk => by rw [eM26]; exact kNw_ne (by omega)
  obtain ⟨q26, eq26⟩ : ∃ q : Int, q = kn E18 := ⟨_, rfl⟩
  rw [← eq26] at eM26 ⊢
  have hl : lv_has ls 1 [(0, .ref (E26.2.2 g))] := by rw [hX26.ad (c := g) (by omega)]; exact hl
  rw [← hX26.ad (c := g) (by omega)]
  have hk : M26 g (-2) = 3 := by rw [hM26 _ _ (by omega)]; exact hk
  have hF : ∀ k i : Int, k < g → M26 k i = M k i := fun k i hk => (hM26 k i (by omega)).trans (hF k i hk)
  have hX := hX.tr hX26
  refine k_putsim S hK hG hP hS hinX40 1 (by decide) (S.2.2.2.2 _ (List.mem_cons_of_mem _ (List.mem_append_left _ (List.mem_of_getElem? (i := 6) rfl)))) dX4_init_28 ⟨by omega, by omega, hk⟩ (fun H locs hP hS => ?_)
  have hP : va_P E26.1 vwCl (kW E26 (kU M26 g 1 (E26.2.2 q26 : Int))) H := hP
  obtain ⟨M28, eM28⟩ : ∃ N9 : kM, N9 = kU M26 g 1 (E26.2.2 q26 : Int) := ⟨_, rfl⟩
  rw [← eM28] at hP
  have hk : M28 g (-2) = 3 := by rw [eM28, kU_place (by omega)]; exact hk
  have hF : ∀ k i : Int, k < g → M28 k i = M k i := fun k i hk => by rw [eM28, kU_cell (by omega)]; exact hF k i hk
  refine W.widen (k := 4) (n := 2) (by omega) (by omega) ?_
  refine ends _ _ E26 M28 _ _ dX4_init_31 hX hG hP hS ?_
  have hq : ∀ i : Int, M28 (g + 1) i = M20 q6 i := fun i => by rw [eM28, kU_cell (by omega), eM26, kNw_ne (by omega), eM21, kU_cell (by omega), show g + 1 = q6 by omega]
  have hq2 : ∀ i : Int, M20 q6 i = if i = 1 then (E18.2.2 q18 : Int) else if i = 0 then (E12.2.2 q12 : Int) else kGa 2 i := fun i => by
    by_cases i1 : i = 1
    · rw [if_pos i1, i1, eM20, kU_same]
    · rw [if_neg i1, eM20, kU_place i1, eM18, kNw_ne (by omega)]
      by_cases i0 : i = 0
      · rw [if_pos i0, i0, eM14, kU_same]
      · rw [if_neg i0, eM14, kU_place i0, eM12, kNw_ne (by omega), eM6, kNw_hit]
  refine ⟨fun i => g + 2 + i, ⟨⟨by omega, by omega, hk, ?_, ?_⟩, ⟨?_, ?_, fun h h1 h2 => ?_⟩, fun i i1 i2 => ?_⟩, hF⟩
  · rw [eM28, kU_place (by omega), eM26, kNw_ne (by omega), eM21, kU_same, hX26.ad (c := g + 1) (by omega), show g + 1 = q6 by omega]
  · show _ = ((E26.2.2 (g + 2 + 2) : Nat) : Int)
    rw [eM28, kU_same, show g + 2 + 2 = q26 by omega]
  · rw [hq, hq2, if_neg (by omega), if_neg (by omega)]; rfl
  · rw [hq, hq2, if_neg (by omega), if_neg (by omega)]; rfl
  · show _ = ((E26.2.2 (g + 2 + h) : Nat) : Int)
    rcases (show h = 0 ∨ h = 1 by omega) with rfl | rfl
    · rw [hq, hq2, if_neg (by omega), if_pos rfl, hX26.ad (c := g + 2 + 0) (by omega), hX18.ad (c := g + 2 + 0) (by omega), show g + 2 + 0 = q12 by omega]
    · rw [hq, hq2, if_pos rfl, hX26.ad (c := g + 2 + 1) (by omega), show g + 2 + 1 = q18 by omega]
  · have hv : ∀ j : Int, M28 (g + 2 + i) j = kIa 0 j := fun j => by
      rcases (show i = 0 ∨ i = 1 ∨ i = 2 by omega) with rfl | rfl | rfl
      · rw [show g + 2 + 0 = q12 by omega, eM28, kU_cell (by omega), eM26, kNw_ne (by omega), eM21, kU_cell (by omega), eM20, kU_cell (by omega), eM18, kNw_ne (by omega), eM14, kU_cell (by omega), eM12, kNw_hit]
      · rw [show g + 2 + 1 = q18 by omega, eM28, kU_cell (by omega), eM26, kNw_ne (by omega), eM21, kU_cell (by omega), eM20, kU_cell (by omega), eM18, kNw_hit]
      · rw [show g + 2 + 2 = q26 by omega, eM28, kU_cell (by omega), eM26, kNw_hit]
    exact ⟨⟨by show _ ≤ g + 2 + i; omega, by show g + 2 + i < _; omega, by show g + 2 + i ≠ _; omega, by show g + 2 + i ≠ _; omega⟩, by show M28 (g + 2 + i) _ = _; rw [hv]; rfl, ⟨by show M28 (g + 2 + i) _ = _; rw [hv]; rfl, by show (0 : Int) ≤ 0; omega, by show (0 : Int) ≤ 40; omega⟩, fun j j1 j2 => by have j3 : j < 0 := j2; omega⟩
