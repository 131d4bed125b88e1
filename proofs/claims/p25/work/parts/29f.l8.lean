abbrev rX3_init : Room := { frames := 42, cells := 19, slots := 29098, locals := 1008 }
set_option maxHeartbeats 4000000 in
set_option maxRecDepth 100000 in
/-- the rows of both hems, in order -/
theorem c_X3_init (l : Launch) (E0 : kE) (hE : kInj E0) (M : kM) (r c1 c2 : Int) (N : Int → Int) (X : Int → Int → Int) (hr : 11 ≤ r ∧ kn E0 = r + 1) (hk4 : M r (-2) = 4) (hc1 : kArr E0 M c1 (N 0)) (hc2 : kArr E0 M c2 (N 1)) (hcr : (11 ≤ c1 ∧ c1 < r) ∧ 11 ≤ c2 ∧ c2 < r) (hN : (0 ≤ N 0 ∧ N 0 ≤ 40) ∧ 0 ≤ N 1 ∧ N 1 ≤ 40) (hv1 : ∀ j : Int, 0 ≤ j → j < N 0 → M c1 j = X 0 j ∧ 0 ≤ X 0 j ∧ X 0 j ≤ 8) (hv2 : ∀ j : Int, 0 ≤ j → j < N 1 → M c2 j = X 1 j ∧ 0 ≤ X 1 j ∧ X 1 j ≤ 8) : kNV l yX3_init wsX3_init rX3_init 19 29098 E0 M [.ref (E0.2.2 r), .ref (E0.2.2 c1), .ref (E0.2.2 c2)] (fun E1 M1 => kRs E1 M1 r N X ∧ ∀ k i : Int, k < r → M1 k i = M k i) := by
  refine kNV_of (cc := cX3_init) (maxL := 3) RX3 hE (by decide) rfl rfl (Nat.le_of_ble_eq_true rfl) rfl ?_
  intro pg en s0 mi ar bl me co ls Q S hP hS hK hG hin ends hl
  have hx := S.1
  have hb := S.2.1
  have hn := hK.2.2.2
  have hinX30 : ∀ w ∈ wsX30, w ∈ wsX3_init := fun w h => List.mem_cons_of_mem _ (List.mem_append_right _ (h))
  have hX : kExt E0 E0 := kExt.rf E0
  have hl : lv_has ls 3 [(0, .ref (E0.2.2 r)), (1, .ref (E0.2.2 c1)), (2, .ref (E0.2.2 c2))] := hl
  have hLx : kLx M E0 M r 1 (M r 5) := ⟨fun _ _ _ => rfl, ⟨hr.1, hr.2⟩, hk4, rfl, fun k off h1 h2 => by unfold kRfd at h1; omega, fun off h1 h2 => by unfold kRgp at h1; omega, fun off len h1 h2 => by unfold kRof at h1; omega⟩
  refine lv_aload_n hx hb dX3_init_0 rfl (lv_at hl 0 rfl) ?_
  refine W.objInit hx hb S.2.2.2.1 (S.2.2.2.2 _ (List.mem_cons_of_mem _ (List.mem_append_left _ (List.mem_of_getElem? (i := 0) rfl)))) (S.2.2.2.2 _ (List.mem_cons_of_mem _ (List.mem_append_left _ (List.mem_of_getElem? (i := 1) rfl)))) (S.2.2.2.2 _ (List.mem_cons_of_mem _ (List.mem_append_left _ (List.mem_of_getElem? (i := 2) rfl)))) rfl (by rw [S.2.2.1]; exact hl.1) rfl dX3_init_1 (Nat.le_of_ble_eq_true rfl) (Nat.le_of_ble_eq_true rfl) ?_
  refine W.eq (g2 := F0 mi 4 ls []) rfl ?_
  refine lv_aload_n hx hb dX3_init_4 rfl (lv_at hl 0 rfl) ?_
  refine k_spush hx hb dX3_init_5 (by decide) ?_
  refine k_newA (len := 15300) S hK hG hP hS (S.2.2.2.2 _ (List.mem_cons_of_mem _ (List.mem_append_left _ (List.mem_of_getElem? (i := 3) rfl)))) (by omega) (by show _ ≤ (19 : Nat); omega) (by show _ ≤ (29098 : Nat); omega) dX3_init_8 (fun E8 H hX8 hn8 hK hG hP hS => ?_)
  obtain ⟨M8, eM8⟩ : ∃ N9 : kM, N9 = kNw M (kn E0) (kIa 15300) := ⟨_, rfl⟩
  rw [← eM8] at hP
  have hM8 : ∀ k i : Int, k < kn E0 → M8 k i = M k i := fun k i hk => by rw [eM8]; exact kNw_ne (by omega)
  obtain ⟨q8, eq8⟩ : ∃ q : Int, q = kn E0 := ⟨_, rfl⟩
  rw [← eq8] at eM8 ⊢
  have hl : lv_has ls 3 [(0, .ref (E8.2.2 r)), (1, .ref (E8.2.2 c1)), (2, .ref (E8.2.2 c2))] := by rw [hX8.ad (c := r) (by omega), hX8.ad (c := c1) (by omega), hX8.ad (c := c2) (by omega)]; exact hl
  rw [← hX8.ad (c := r) (by omega)]
  have hX := hX.tr hX8
  refine k_putrow S hK hG hP hS hinX30 hin 0 (.array .int) (by decide) (by decide) rfl (by first | exact Or.inl rfl | exact Or.inr rfl) (S.2.2.2.2 _ (List.mem_cons_of_mem _ (List.mem_append_left _ (List.mem_of_getElem? (i := 4) rfl)))) rfl dX3_init_10 (kz := 0) rfl ⟨by omega, by omega, by rw [eM8, kNw_ne (by omega)]; exact hLx.2.2.1⟩ (fun H locs hP hS => ?_)
  obtain ⟨M10, eM10⟩ : ∃ N9 : kM, N9 = kU M8 r 0 (E8.2.2 q8 : Int) := ⟨_, rfl⟩
  rw [← eM10] at hP
  replace hLx := kLx_row hLx (by omega) hX8 (k := 0) (len := 15300) hn8 eq8 (by unfold kRfd; omega) (by unfold kRof; omega) eM8 eM10
  refine lv_aload_n hx hb dX3_init_13 rfl (lv_at hl 0 rfl) ?_
  refine k_spush hx hb dX3_init_14 (by decide) ?_
  refine k_newA (len := 1700) S hK hG hP hS (S.2.2.2.2 _ (List.mem_cons_of_mem _ (List.mem_append_left _ (List.mem_of_getElem? (i := 3) rfl)))) (by omega) (by show _ ≤ (19 : Nat); omega) (by show _ ≤ (29098 : Nat); omega) dX3_init_17 (fun E17 H hX17 hn17 hK hG hP hS => ?_)
  obtain ⟨M17, eM17⟩ : ∃ N9 : kM, N9 = kNw M10 (kn E8) (kIa 1700) := ⟨_, rfl⟩
  rw [← eM17] at hP
  have hM17 : ∀ k i : Int, k < kn E8 → M17 k i = M10 k i := fun k i hk => by rw [eM17]; exact kNw_ne (by omega)
  obtain ⟨q17, eq17⟩ : ∃ q : Int, q = kn E8 := ⟨_, rfl⟩
  rw [← eq17] at eM17 ⊢
  have hl : lv_has ls 3 [(0, .ref (E17.2.2 r)), (1, .ref (E17.2.2 c1)), (2, .ref (E17.2.2 c2))] := by rw [hX17.ad (c := r) (by omega), hX17.ad (c := c1) (by omega), hX17.ad (c := c2) (by omega)]; exact hl
  rw [← hX17.ad (c := r) (by omega)]
  have hX := hX.tr hX17
  refine k_putrow S hK hG hP hS hinX30 hin 1 (.array .int) (by decide) (by decide) rfl (by first | exact Or.inl rfl | exact Or.inr rfl) (S.2.2.2.2 _ (List.mem_cons_of_mem _ (List.mem_append_left _ (List.mem_of_getElem? (i := 5) rfl)))) rfl dX3_init_19 (kz := 1) rfl ⟨by omega, by omega, by rw [eM17, kNw_ne (by omega)]; exact hLx.2.2.1⟩ (fun H locs hP hS => ?_)
  obtain ⟨M19, eM19⟩ : ∃ N9 : kM, N9 = kU M17 r 1 (E17.2.2 q17 : Int) := ⟨_, rfl⟩
  rw [← eM19] at hP
  replace hLx := kLx_row hLx (by omega) hX17 (k := 1) (len := 1700) hn17 eq17 (by unfold kRfd; omega) (by unfold kRof; omega) eM17 eM19
  refine lv_aload_n hx hb dX3_init_22 rfl (lv_at hl 0 rfl) ?_
  refine k_push hx hb dX3_init_23 ?_
  refine k_spush hx hb dX3_init_24 (by decide) ?_
  refine k_newM (len := 1700) S hK hG hP hS (S.2.2.2.2 _ (List.mem_cons_of_mem _ (List.mem_append_left _ (List.mem_of_getElem? (i := 6) rfl)))) (S.2.2.2.2 _ (List.mem_cons_of_mem _ (List.mem_append_left _ (List.mem_of_getElem? (i := 3) rfl)))) (by omega) (by show _ ≤ (19 : Nat); omega) (by show _ ≤ (29098 : Nat); omega) dX3_init_27 (fun E27 H hX27 hn27 hK hG hP hS => ?_)
  obtain ⟨M27, eM27⟩ : ∃ N9 : kM, N9 = kNw (kNw (kNw M19 (kn E17) (kGb (E27.2.2 (kn E17 + 1) : Int) (E27.2.2 (kn E17 + 2) : Int))) (kn E17 + 1) (kIa 1700)) (kn E17 + 2) (kIa 1700) := ⟨_, rfl⟩
  rw [← eM27] at hP
  have hM27 : ∀ k i : Int, k < kn E17 → M27 k i = M19 k i := fun k i hk => by rw [eM27, kNw_ne (by omega), kNw_ne (by omega), kNw_ne (by omega)]
  obtain ⟨q27, eq27⟩ : ∃ q : Int, q = kn E17 := ⟨_, rfl⟩
  rw [← eq27] at eM27 ⊢
  have hl : lv_has ls 3 [(0, .ref (E27.2.2 r)), (1, .ref (E27.2.2 c1)), (2, .ref (E27.2.2 c2))] := by rw [hX27.ad (c := r) (by omega), hX27.ad (c := c1) (by omega), hX27.ad (c := c2) (by omega)]; exact hl
  rw [← hX27.ad (c := r) (by omega)]
  have hX := hX.tr hX27
  refine k_putrow S hK hG hP hS hinX30 hin 2 (.array (.array .int)) (by decide) (by decide) rfl (by first | exact Or.inl rfl | exact Or.inr rfl) (S.2.2.2.2 _ (List.mem_cons_of_mem _ (List.mem_append_left _ (List.mem_of_getElem? (i := 7) rfl)))) rfl dX3_init_31 (kz := 2) rfl ⟨by omega, by omega, by rw [eM27, kNw_ne (by omega), kNw_ne (by omega), kNw_ne (by omega)]; exact hLx.2.2.1⟩ (fun H locs hP hS => ?_)
  obtain ⟨M31, eM31⟩ : ∃ N9 : kM, N9 = kU M27 r 2 (E27.2.2 q27 : Int) := ⟨_, rfl⟩
  rw [← eM31] at hP
  replace hLx := kLx_grp hLx (by omega) hX27 (k := 2) (len := 1700) hn27 eq27 (by unfold kRfd; omega) (by unfold kRgp; omega) (by unfold kRof; omega) eM27 eM31
  refine lv_aload_n hx hb dX3_init_34 rfl (lv_at hl 0 rfl) ?_
  refine k_push hx hb dX3_init_35 ?_
  refine k_spush hx hb dX3_init_36 (by decide) ?_
  refine k_newM (len := 1700) S hK hG hP hS (S.2.2.2.2 _ (List.mem_cons_of_mem _ (List.mem_append_left _ (List.mem_of_getElem? (i := 6) rfl)))) (S.2.2.2.2 _ (List.mem_cons_of_mem _ (List.mem_append_left _ (List.mem_of_getElem? (i := 3) rfl)))) (by omega) (by show _ ≤ (19 : Nat); omega) (by show _ ≤ (29098 : Nat); omega) dX3_init_39 (fun E39 H hX39 hn39 hK hG hP hS => ?_)
  obtain ⟨M39, eM39⟩ : ∃ N9 : kM, N9 = kNw (kNw (kNw M31 (kn E27) (kGb (E39.2.2 (kn E27 + 1) : Int) (E39.2.2 (kn E27 + 2) : Int))) (kn E27 + 1) (kIa 1700)) (kn E27 + 2) (kIa 1700) := ⟨_, rfl⟩
  rw [← eM39] at hP
  have hM39 : ∀ k i : Int, k < kn E27 → M39 k i = M31 k i := fun k i hk => by rw [eM39, kNw_ne (by omega), kNw_ne (by omega), kNw_ne (by omega)]
  obtain ⟨q39, eq39⟩ : ∃ q : Int, q = kn E27 := ⟨_, rfl⟩
  rw [← eq39] at eM39 ⊢
  have hl : lv_has ls 3 [(0, .ref (E39.2.2 r)), (1, .ref (E39.2.2 c1)), (2, .ref (E39.2.2 c2))] := by rw [hX39.ad (c := r) (by omega), hX39.ad (c := c1) (by omega), hX39.ad (c := c2) (by omega)]; exact hl
  rw [← hX39.ad (c := r) (by omega)]
  have hX := hX.tr hX39
  refine k_putrow S hK hG hP hS hinX30 hin 3 (.array (.array .int)) (by decide) (by decide) rfl (by first | exact Or.inl rfl | exact Or.inr rfl) (S.2.2.2.2 _ (List.mem_cons_of_mem _ (List.mem_append_left _ (List.mem_of_getElem? (i := 8) rfl)))) rfl dX3_init_43 (kz := 3) rfl ⟨by omega, by omega, by rw [eM39, kNw_ne (by omega), kNw_ne (by omega), kNw_ne (by omega)]; exact hLx.2.2.1⟩ (fun H locs hP hS => ?_)
  obtain ⟨M43, eM43⟩ : ∃ N9 : kM, N9 = kU M39 r 3 (E39.2.2 q39 : Int) := ⟨_, rfl⟩
  rw [← eM43] at hP
  replace hLx := kLx_grp hLx (by omega) hX39 (k := 3) (len := 1700) hn39 eq39 (by unfold kRfd; omega) (by unfold kRgp; omega) (by unfold kRof; omega) eM39 eM43
  refine lv_aload_n hx hb dX3_init_46 rfl (lv_at hl 0 rfl) ?_
  refine k_push hx hb dX3_init_47 ?_
  refine k_spush hx hb dX3_init_48 (by decide) ?_
  refine k_newM (len := 1700) S hK hG hP hS (S.2.2.2.2 _ (List.mem_cons_of_mem _ (List.mem_append_left _ (List.mem_of_getElem? (i := 6) rfl)))) (S.2.2.2.2 _ (List.mem_cons_of_mem _ (List.mem_append_left _ (List.mem_of_getElem? (i := 3) rfl)))) (by omega) (by show _ ≤ (19 : Nat); omega) (by show _ ≤ (29098 : Nat); omega) dX3_init_51 (fun E51 H hX51 hn51 hK hG hP hS => ?_)
  obtain ⟨M51, eM51⟩ : ∃ N9 : kM, N9 = kNw (kNw (kNw M43 (kn E39) (kGb (E51.2.2 (kn E39 + 1) : Int) (E51.2.2 (kn E39 + 2) : Int))) (kn E39 + 1) (kIa 1700)) (kn E39 + 2) (kIa 1700) := ⟨_, rfl⟩
  rw [← eM51] at hP
  have hM51 : ∀ k i : Int, k < kn E39 → M51 k i = M43 k i := fun k i hk => by rw [eM51, kNw_ne (by omega), kNw_ne (by omega), kNw_ne (by omega)]
  obtain ⟨q51, eq51⟩ : ∃ q : Int, q = kn E39 := ⟨_, rfl⟩
  rw [← eq51] at eM51 ⊢
  have hl : lv_has ls 3 [(0, .ref (E51.2.2 r)), (1, .ref (E51.2.2 c1)), (2, .ref (E51.2.2 c2))] := by rw [hX51.ad (c := r) (by omega), hX51.ad (c := c1) (by omega), hX51.ad (c := c2) (by omega)]; exact hl
  rw [← hX51.ad (c := r) (by omega)]
  have hX := hX.tr hX51
  refine k_putrow S hK hG hP hS hinX30 hin 4 (.array (.array .int)) (by decide) (by decide) rfl (by first | exact Or.inl rfl | exact Or.inr rfl) (S.2.2.2.2 _ (List.mem_cons_of_mem _ (List.mem_append_left _ (List.mem_of_getElem? (i := 9) rfl)))) rfl dX3_init_55 (kz := 4) rfl ⟨by omega, by omega, by rw [eM51, kNw_ne (by omega), kNw_ne (by omega), kNw_ne (by omega)]; exact hLx.2.2.1⟩ (fun H locs hP hS => ?_)
  obtain ⟨M55, eM55⟩ : ∃ N9 : kM, N9 = kU M51 r 4 (E51.2.2 q51 : Int) := ⟨_, rfl⟩
  rw [← eM55] at hP
  replace hLx := kLx_grp hLx (by omega) hX51 (k := 4) (len := 1700) hn51 eq51 (by unfold kRfd; omega) (by unfold kRgp; omega) (by unfold kRof; omega) eM51 eM55
  refine lv_aload_n hx hb dX3_init_58 rfl (lv_at hl 0 rfl) ?_
  refine k_push hx hb dX3_init_59 ?_
  refine k_putnodes S hK hG hP hS hinX30 (S.2.2.2.2 _ (List.mem_cons_of_mem _ (List.mem_append_left _ (List.mem_of_getElem? (i := 10) rfl)))) dX3_init_60 ⟨by omega, by omega, hLx.2.2.1⟩ (fun H locs hP hS => ?_)
  obtain ⟨M60, eM60⟩ : ∃ N9 : kM, N9 = kU M55 r 5 1 := ⟨_, rfl⟩
  rw [← eM60] at hP
  replace hLx := kLx_nod hLx eM60
  refine lv_aload_n hx hb dX3_init_63 rfl (lv_at hl 0 rfl) ?_
  refine k_push hx hb dX3_init_64 ?_
  refine k_spush hx hb dX3_init_65 (by decide) ?_
  refine k_newM (len := 900) S hK hG hP hS (S.2.2.2.2 _ (List.mem_cons_of_mem _ (List.mem_append_left _ (List.mem_of_getElem? (i := 6) rfl)))) (S.2.2.2.2 _ (List.mem_cons_of_mem _ (List.mem_append_left _ (List.mem_of_getElem? (i := 3) rfl)))) (by omega) (by show _ ≤ (19 : Nat); omega) (by show _ ≤ (29098 : Nat); omega) dX3_init_68 (fun E68 H hX68 hn68 hK hG hP hS => ?_)
  obtain ⟨M68, eM68⟩ : ∃ N9 : kM, N9 = kNw (kNw (kNw M60 (kn E51) (kGb (E68.2.2 (kn E51 + 1) : Int) (E68.2.2 (kn E51 + 2) : Int))) (kn E51 + 1) (kIa 900)) (kn E51 + 2) (kIa 900) := ⟨_, rfl⟩
  rw [← eM68] at hP
  have hM68 : ∀ k i : Int, k < kn E51 → M68 k i = M60 k i := fun k i hk => by rw [eM68, kNw_ne (by omega), kNw_ne (by omega), kNw_ne (by omega)]
  obtain ⟨q68, eq68⟩ : ∃ q : Int, q = kn E51 := ⟨_, rfl⟩
  rw [← eq68] at eM68 ⊢
  have hl : lv_has ls 3 [(0, .ref (E68.2.2 r)), (1, .ref (E68.2.2 c1)), (2, .ref (E68.2.2 c2))] := by rw [hX68.ad (c := r) (by omega), hX68.ad (c := c1) (by omega), hX68.ad (c := c2) (by omega)]; exact hl
  rw [← hX68.ad (c := r) (by omega)]
  have hX := hX.tr hX68
  refine k_putrow S hK hG hP hS hinX30 hin 6 (.array (.array .int)) (by decide) (by decide) rfl (by first | exact Or.inl rfl | exact Or.inr rfl) (S.2.2.2.2 _ (List.mem_cons_of_mem _ (List.mem_append_left _ (List.mem_of_getElem? (i := 11) rfl)))) rfl dX3_init_72 (kz := 6) rfl ⟨by omega, by omega, by rw [eM68, kNw_ne (by omega), kNw_ne (by omega), kNw_ne (by omega)]; exact hLx.2.2.1⟩ (fun H locs hP hS => ?_)
  obtain ⟨M72, eM72⟩ : ∃ N9 : kM, N9 = kU M68 r 6 (E68.2.2 q68 : Int) := ⟨_, rfl⟩
  rw [← eM72] at hP
  replace hLx := kLx_grp hLx (by omega) hX68 (k := 6) (len := 900) hn68 eq68 (by unfold kRfd; omega) (by unfold kRgp; omega) (by unfold kRof; omega) eM68 eM72
  refine lv_aload_n hx hb dX3_init_75 rfl (lv_at hl 0 rfl) ?_
  refine k_push hx hb dX3_init_76 ?_
  refine k_newA (len := 2) S hK hG hP hS (S.2.2.2.2 _ (List.mem_cons_of_mem _ (List.mem_append_left _ (List.mem_of_getElem? (i := 3) rfl)))) (by omega) (by show _ ≤ (19 : Nat); omega) (by show _ ≤ (29098 : Nat); omega) dX3_init_77 (fun E77 H hX77 hn77 hK hG hP hS => ?_)
  obtain ⟨M77, eM77⟩ : ∃ N9 : kM, N9 = kNw M72 (kn E68) (kIa 2) := ⟨_, rfl⟩
  rw [← eM77] at hP
  have hM77 : ∀ k i : Int, k < kn E68 → M77 k i = M72 k i := fun k i hk => by rw [eM77]; exact kNw_ne (by omega)
  obtain ⟨q77, eq77⟩ : ∃ q : Int, q = kn E68 := ⟨_, rfl⟩
  rw [← eq77] at eM77 ⊢
  have hl : lv_has ls 3 [(0, .ref (E77.2.2 r)), (1, .ref (E77.2.2 c1)), (2, .ref (E77.2.2 c2))] := by rw [hX77.ad (c := r) (by omega), hX77.ad (c := c1) (by omega), hX77.ad (c := c2) (by omega)]; exact hl
  rw [← hX77.ad (c := r) (by omega)]
  have hX := hX.tr hX77
  refine k_putrow S hK hG hP hS hinX30 hin 7 (.array .int) (by decide) (by decide) rfl (by first | exact Or.inl rfl | exact Or.inr rfl) (S.2.2.2.2 _ (List.mem_cons_of_mem _ (List.mem_append_left _ (List.mem_of_getElem? (i := 12) rfl)))) rfl dX3_init_79 (kz := 7) rfl ⟨by omega, by omega, by rw [eM77, kNw_ne (by omega)]; exact hLx.2.2.1⟩ (fun H locs hP hS => ?_)
  obtain ⟨M79, eM79⟩ : ∃ N9 : kM, N9 = kU M77 r 7 (E77.2.2 q77 : Int) := ⟨_, rfl⟩
  rw [← eM79] at hP
  replace hLx := kLx_row hLx (by omega) hX77 (k := 7) (len := 2) hn77 eq77 (by unfold kRfd; omega) (by unfold kRof; omega) eM77 eM79
  refine lv_aload_n hx hb dX3_init_82 rfl (lv_at hl 0 rfl) ?_
  refine k_push hx hb dX3_init_83 ?_
  refine k_bpush hx hb dX3_init_84 (by decide) ?_
  refine k_newM (len := 42) S hK hG hP hS (S.2.2.2.2 _ (List.mem_cons_of_mem _ (List.mem_append_left _ (List.mem_of_getElem? (i := 6) rfl)))) (S.2.2.2.2 _ (List.mem_cons_of_mem _ (List.mem_append_left _ (List.mem_of_getElem? (i := 3) rfl)))) (by omega) (by show _ ≤ (19 : Nat); omega) (by show _ ≤ (29098 : Nat); omega) dX3_init_86 (fun E86 H hX86 hn86 hK hG hP hS => ?_)
  obtain ⟨M86, eM86⟩ : ∃ N9 : kM, N9 = kNw (kNw (kNw M79 (kn E77) (kGb (E86.2.2 (kn E77 + 1) : Int) (E86.2.2 (kn E77 + 2) : Int))) (kn E77 + 1) (kIa 42)) (kn E77 + 2) (kIa 42) := ⟨_, rfl⟩
  rw [← eM86] at hP
  have hM86 : ∀ k i : Int, k < kn E77 → M86 k i = M79 k i := fun k i hk => by rw [eM86, kNw_ne (by omega), kNw_ne (by omega), kNw_ne (by omega)]
  obtain ⟨q86, eq86⟩ : ∃ q : Int, q = kn E77 := ⟨_, rfl⟩
  rw [← eq86] at eM86 ⊢
  have hl : lv_has ls 3 [(0, .ref (E86.2.2 r)), (1, .ref (E86.2.2 c1)), (2, .ref (E86.2.2 c2))] := by rw [hX86.ad (c := r) (by omega), hX86.ad (c := c1) (by omega), hX86.ad (c := c2) (by omega)]; exact hl
  rw [← hX86.ad (c := r) (by omega)]
  have hX := hX.tr hX86
  refine k_putrow S hK hG hP hS hinX30 hin 8 (.array (.array .int)) (by decide) (by decide) rfl (by first | exact Or.inl rfl | exact Or.inr rfl) (S.2.2.2.2 _ (List.mem_cons_of_mem _ (List.mem_append_left _ (List.mem_of_getElem? (i := 13) rfl)))) rfl dX3_init_90 (kz := 8) rfl ⟨by omega, by omega, by rw [eM86, kNw_ne (by omega), kNw_ne (by omega), kNw_ne (by omega)]; exact hLx.2.2.1⟩ (fun H locs hP hS => ?_)
  obtain ⟨M90, eM90⟩ : ∃ N9 : kM, N9 = kU M86 r 8 (E86.2.2 q86 : Int) := ⟨_, rfl⟩
  rw [← eM90] at hP
  replace hLx := kLx_grp hLx (by omega) hX86 (k := 8) (len := 42) hn86 eq86 (by unfold kRfd; omega) (by unfold kRgp; omega) (by unfold kRof; omega) eM86 eM90
  refine lv_aload_n hx hb dX3_init_93 rfl (lv_at hl 0 rfl) ?_
  refine k_push hx hb dX3_init_94 ?_
  refine k_newA (len := 2) S hK hG hP hS (S.2.2.2.2 _ (List.mem_cons_of_mem _ (List.mem_append_left _ (List.mem_of_getElem? (i := 3) rfl)))) (by omega) (by show _ ≤ (19 : Nat); omega) (by show _ ≤ (29098 : Nat); omega) dX3_init_95 (fun E95 H hX95 hn95 hK hG hP hS => ?_)
  obtain ⟨M95, eM95⟩ : ∃ N9 : kM, N9 = kNw M90 (kn E86) (kIa 2) := ⟨_, rfl⟩
  rw [← eM95] at hP
  have hM95 : ∀ k i : Int, k < kn E86 → M95 k i = M90 k i := fun k i hk => by rw [eM95]; exact kNw_ne (by omega)
  obtain ⟨q95, eq95⟩ : ∃ q : Int, q = kn E86 := ⟨_, rfl⟩
  rw [← eq95] at eM95 ⊢
  have hl : lv_has ls 3 [(0, .ref (E95.2.2 r)), (1, .ref (E95.2.2 c1)), (2, .ref (E95.2.2 c2))] := by rw [hX95.ad (c := r) (by omega), hX95.ad (c := c1) (by omega), hX95.ad (c := c2) (by omega)]; exact hl
  rw [← hX95.ad (c := r) (by omega)]
  have hX := hX.tr hX95
  refine k_putrow S hK hG hP hS hinX30 hin 9 (.array .int) (by decide) (by decide) rfl (by first | exact Or.inl rfl | exact Or.inr rfl) (S.2.2.2.2 _ (List.mem_cons_of_mem _ (List.mem_append_left _ (List.mem_of_getElem? (i := 14) rfl)))) rfl dX3_init_97 (kz := 9) rfl ⟨by omega, by omega, by rw [eM95, kNw_ne (by omega)]; exact hLx.2.2.1⟩ (fun H locs hP hS => ?_)
  obtain ⟨M97, eM97⟩ : ∃ N9 : kM, N9 = kU M95 r 9 (E95.2.2 q95 : Int) := ⟨_, rfl⟩
  rw [← eM97] at hP
  replace hLx := kLx_row hLx (by omega) hX95 (k := 9) (len := 2) hn95 eq95 (by unfold kRfd; omega) (by unfold kRof; omega) eM95 eM97
  obtain ⟨hL, z1, z2, z3, z4, z5⟩ := kLx_all hLx
  have f5 : M97 r 5 = 1 := hLx.2.2.2.1
  have hF := hLx.1
  have hc1 : kArr E95 M97 c1 (N 0) := kArr_fr (kArr_ext hX (fun _ _ _ => rfl) hc1) (fun i => hF c1 i (by omega))
  have hc2 : kArr E95 M97 c2 (N 1) := kArr_fr (kArr_ext hX (fun _ _ _ => rfl) hc2) (fun i => hF c2 i (by omega))
  clear hn8 eq8 eM8 hn17 eq17 eM17 hn27 eq27 eM27 hn39 eq39 eM39 hn51 eq51 eM51 hn68 eq68 eM68 hn77 eq77 eM77 hn86 eq86 eM86 hn95 eq95 eM95
  have hT0 : ∃ wd : Int → Int → Int, kTw X N M97 r wd 0 0 0 := by
    refine ⟨fun _ _ => 0, ?_, ?_⟩
    · rw [f5]
      exact kTr_0 X N (fun i hi => by rw [z1]; exact if_neg (by omega)) (by rw [z2]; rfl) (fun h v h1 h2 hv => by
        show M97 (r + 4 + h) v = 0
        rw [(z3 h h1 h2).1]; exact if_neg (by omega)) _
    · rw [f5]
      exact kEd_0 X N (fun h v h1 h2 hv => by
        show M97 (r + 10 + h) v = 0
        rw [(z3 h h1 h2).2]; exact if_neg (by omega)) _
  have hB0 : M97 r 5 ≤ 1 + 820 * 0 := by rw [f5]; omega
  have hc2n : ∀ (j : Int), 0 ≤ j → j < N 1 → M97 c2 j = X 1 j ∧ 0 ≤ X 1 j ∧ X 1 j ≤ 8 := fun j j1 j2 => by rw [hF c2 j (by omega)]; exact hv2 j j1 j2
  have hc1n : ∀ (j : Int), 0 ≤ j → j < N 0 → M97 c1 j = X 0 j ∧ 0 ≤ X 0 j ∧ X 0 j ≤ 8 := fun j j1 j2 => by rw [hF c1 j (by omega)]; exact hv1 j j1 j2
  have zo : ∀ h : Int, 0 ≤ h → h < 2 → M97 (r + 15) h = 0 ∧ M97 (r + 19) h = 0 := fun h h1 h2 => ⟨by rw [z4]; exact if_neg (by omega), by rw [z5]; exact if_neg (by omega)⟩
  refine lv_aload_n hx hb dX3_init_100 rfl (lv_at hl 0 rfl) ?_
  refine k_push hx hb dX3_init_101 ?_
  refine lv_aload_n hx hb dX3_init_102 rfl (lv_at hl 1 rfl) ?_
  refine k_callVVG (As := [.int (zI 0), .ref (E95.2.2 c1)]) (rest := []) S hK hG hP hS (c_X3_grow l E95 hG.1 M97 r 0 c1 (N 0) N X (by assumption) (by omega) (by exact hc1) (by omega) (by exact ⟨by omega, by omega, rfl⟩) (by exact hc1n) (by exact hT0) (by omega)) (cwV 2 S.2.2.2.2 gX3_init_X3_grow rfl rfl rfl (by decide +kernel) ⟨Nat.le_of_ble_eq_true rfl, Nat.le_of_ble_eq_true rfl⟩) (k_rRows hK hP ⟨hL.1.1, by have := hL.1.2.1; omega, hL.1.2.2⟩) rfl hl.1 rfl (Nat.le_of_ble_eq_true rfl) dX3_init_103 ⟨by show _ ≤ (19 : Nat); omega, by show _ ≤ (29098 : Nat); omega⟩ (fun M_103 H locs h_103 hP hS => ?_)
  obtain ⟨pT, pL, pB, pF⟩ := h_103
  have hL := pL
  have hT0 := pT
  have hB0 : M_103 r 5 ≤ 1 + 820 * 1 := pB
  have hc2 : kArr E95 M_103 c2 (N 1) := kArr_fr hc2 (fun i => pF c2 i (Or.inl (by omega)))
  have hc2n : ∀ (j : Int), 0 ≤ j → j < N 1 → M_103 c2 j = X 1 j ∧ 0 ≤ X 1 j ∧ X 1 j ≤ 8 := fun j j1 j2 => by rw [pF c2 j (Or.inl (by omega))]; exact hc2n j j1 j2
  refine lv_aload_n hx hb dX3_init_106 rfl (lv_at hl 0 rfl) ?_
  refine k_push hx hb dX3_init_107 ?_
  refine lv_aload_n hx hb dX3_init_108 rfl (lv_at hl 2 rfl) ?_
  refine k_callVVG (As := [.int (zI 1), .ref (E95.2.2 c2)]) (rest := []) S hK hG hP hS (c_X3_grow l E95 hG.1 M_103 r 1 c2 (N 1) N X (by assumption) (by omega) (by exact hc2) (by omega) (by exact ⟨by omega, by omega, rfl⟩) (by exact hc2n) (by exact hT0) (by omega)) (cwV 2 S.2.2.2.2 gX3_init_X3_grow rfl rfl rfl (by decide +kernel) ⟨Nat.le_of_ble_eq_true rfl, Nat.le_of_ble_eq_true rfl⟩) (k_rRows hK hP ⟨hL.1.1, by have := hL.1.2.1; omega, hL.1.2.2⟩) rfl hl.1 rfl (Nat.le_of_ble_eq_true rfl) dX3_init_109 ⟨by show _ ≤ (19 : Nat); omega, by show _ ≤ (29098 : Nat); omega⟩ (fun M_109 H locs h_109 hP hS => ?_)
  obtain ⟨⟨wd, qT⟩, qL, qB, qF⟩ := h_109
  have hL := qL
  have qT2 : kTw X N M_109 r wd 2 0 0 := qT
  have T0 := kTree_of qT2 (q := 0) (by omega) hN.1 (fun j j1 j2 => (hv1 j j1 j2).2) (by omega)
  have T1 := kTree_of qT2 (q := 1) (by omega) hN.2 (fun j j1 j2 => (hv2 j j1 j2).2) (by omega)
  have hF9 : ∀ k i : Int, k < r → M_109 k i = M k i := fun k i hk => (qF k i (Or.inl hk)).trans ((pF k i (Or.inl hk)).trans (hF k i hk))
  have zo0 : M_109 (r + 15) 0 = 0 ∧ M_109 (r + 19) 0 = 0 := ⟨by rw [qF _ _ (by omega), pF _ _ (by omega)]; exact (zo 0 (by omega) (by omega)).1, by rw [qF _ _ (by omega), pF _ _ (by omega)]; exact (zo 0 (by omega) (by omega)).2⟩
  refine lv_aload_n hx hb dX3_init_112 rfl (lv_at hl 0 rfl) ?_
  refine k_push hx hb dX3_init_113 ?_
  refine k_push hx hb dX3_init_114 ?_
  refine k_callVVG (As := [.int (zI 0), .int (zI 0)]) (rest := []) S hK hG hP hS (c_X3_walk l E95 hG.1 r 0 (M_109 r 5) (M_109 (r + 1)) (M_109 (r + 2)) (M_109 (r + 4 + 0)) (M_109 (r + 7 + 0)) (M_109 (r + 10 + 0)) wd (X 0) (N 0) ⟨by omega, by omega⟩ T0 41 M_109 0 hL ⟨rfl, rfl, rfl⟩ ⟨by omega, by have := T0.1.1; omega⟩ (Or.inl rfl) (by rw [T0.1.2.1]; rfl) (by rw [zo0.1]; exact ⟨by omega, fun i i1 i2 => by omega, fun i j i1 i2 i3 => by omega⟩) (fun i i1 i2 => by rw [zo0.1] at i2; omega) (by rw [zo0.2]; exact ⟨by omega, fun i i1 i2 => by omega, fun i j i1 i2 i3 => by omega⟩) (fun i i1 i2 => by rw [zo0.2] at i2; omega)) (cwV 2 S.2.2.2.2 gX3_init_X3_walk rfl rfl rfl (by decide +kernel) ⟨by decide, by decide⟩) (k_rRows hK hP ⟨hL.1.1, by have := hL.1.2.1; omega, hL.1.2.2⟩) rfl hl.1 rfl (Nat.le_of_ble_eq_true rfl) dX3_init_115 ⟨by show _ ≤ (19 : Nat); omega, by show _ ≤ (29098 : Nat); omega⟩ (fun M_115 H locs h_115 hP hS => ?_)
  obtain ⟨uF, uL, uO, uP⟩ := h_115
  have hL := uL
  rw [zo0.1] at uO
  rw [zo0.2] at uP
  have zo1 : M_115 (r + 15) 1 = 0 ∧ M_115 (r + 19) 1 = 0 := ⟨by rw [uF _ _ (by omega) (by omega) (by omega) (by omega), qF _ _ (by omega), pF _ _ (by omega)]; exact (zo 1 (by omega) (by omega)).1, by rw [uF _ _ (by omega) (by omega) (by omega) (by omega), qF _ _ (by omega), pF _ _ (by omega)]; exact (zo 1 (by omega) (by omega)).2⟩
  refine lv_aload_n hx hb dX3_init_118 rfl (lv_at hl 0 rfl) ?_
  refine k_push hx hb dX3_init_119 ?_
  refine k_push hx hb dX3_init_120 ?_
  refine k_callVVG (As := [.int (zI 1), .int (zI 0)]) (rest := []) S hK hG hP hS (c_X3_walk l E95 hG.1 r 1 (M_109 r 5) (M_109 (r + 1)) (M_109 (r + 2)) (M_109 (r + 4 + 1)) (M_109 (r + 7 + 1)) (M_109 (r + 10 + 1)) wd (X 1) (N 1) ⟨by omega, by omega⟩ T1 41 M_115 0 hL ⟨funext (fun i => uF (r + 1) i (by omega) (by omega) (by omega) (by omega)), funext (fun i => uF (r + 4 + 1) i (by omega) (by omega) (by omega) (by omega)), funext (fun i => uF (r + 10 + 1) i (by omega) (by omega) (by omega) (by omega))⟩ ⟨by omega, by have := T0.1.1; omega⟩ (Or.inl rfl) (by rw [T0.1.2.1]; rfl) (by rw [zo1.1]; exact ⟨by omega, fun i i1 i2 => by omega, fun i j i1 i2 i3 => by omega⟩) (fun i i1 i2 => by rw [zo1.1] at i2; omega) (by rw [zo1.2]; exact ⟨by omega, fun i i1 i2 => by omega, fun i j i1 i2 i3 => by omega⟩) (fun i i1 i2 => by rw [zo1.2] at i2; omega)) (cwV 2 S.2.2.2.2 gX3_init_X3_walk rfl rfl rfl (by decide +kernel) ⟨by decide, by decide⟩) (k_rRows hK hP ⟨hL.1.1, by have := hL.1.2.1; omega, hL.1.2.2⟩) rfl hl.1 rfl (Nat.le_of_ble_eq_true rfl) dX3_init_121 ⟨by show _ ≤ (19 : Nat); omega, by show _ ≤ (29098 : Nat); omega⟩ (fun M_121 H locs h_121 hP hS => ?_)
  obtain ⟨wF, wL, wO, wP⟩ := h_121
  rw [zo1.1] at wO
  rw [zo1.2] at wP
  refine W.widen (k := 19) (n := 29098) (by omega) (by omega) ?_
  refine ends _ _ E95 M_121 _ _ dX3_init_124 hX hG hP hS ?_
  have f0 := kFO_of T0 uO
  have f1 := kFO_of T1 wO
  have p0 := kOrd_of T0 uP
  have p1 := kOrd_of T1 wP
  have e2 : ∀ k : Int, k ≠ r + 13 + 0 → k ≠ r + 15 → k ≠ r + 17 + 0 → k ≠ r + 19 → k ≠ r + 13 + 1 → k ≠ r + 17 + 1 → M_121 k = M_109 k := fun k k1 k2 k3 k4 k5 k6 => funext (fun i => (wF k i k5 (Or.inl k2) k6 (Or.inl k4)).trans (uF k i k1 (Or.inl k2) k3 (Or.inl k4)))
  refine ⟨⟨wL, wd, fun h h1 h2 => ?_⟩, fun k i hk => ?_⟩
  · rcases (show h = 0 ∨ h = 1 by omega) with rfl | rfl
    · rw [e2 (r + 1) (by omega) (by omega) (by omega) (by omega) (by omega) (by omega), e2 (r + 2) (by omega) (by omega) (by omega) (by omega) (by omega) (by omega), e2 (r + 4 + 0) (by omega) (by omega) (by omega) (by omega) (by omega) (by omega), e2 (r + 7 + 0) (by omega) (by omega) (by omega) (by omega) (by omega) (by omega), e2 (r + 10 + 0) (by omega) (by omega) (by omega) (by omega) (by omega) (by omega), e2 r (by omega) (by omega) (by omega) (by omega) (by omega) (by omega)]
      rw [show M_121 (r + 13 + 0) = M_115 (r + 13 + 0) from funext (fun i => wF _ i (by omega) (by omega) (by omega) (by omega)), show M_121 (r + 17 + 0) = M_115 (r + 17 + 0) from funext (fun i => wF _ i (by omega) (by omega) (by omega) (by omega)), wF (r + 15) 0 (by omega) (by omega) (by omega) (by omega)]
      exact ⟨T0, f0.1, p0, f0.2⟩
    · rw [e2 (r + 1) (by omega) (by omega) (by omega) (by omega) (by omega) (by omega), e2 (r + 2) (by omega) (by omega) (by omega) (by omega) (by omega) (by omega), e2 (r + 4 + 1) (by omega) (by omega) (by omega) (by omega) (by omega) (by omega), e2 (r + 7 + 1) (by omega) (by omega) (by omega) (by omega) (by omega) (by omega), e2 (r + 10 + 1) (by omega) (by omega) (by omega) (by omega) (by omega) (by omega), e2 r (by omega) (by omega) (by omega) (by omega) (by omega) (by omega)]
      exact ⟨T1, f1.1, p1, f1.2⟩
  · rw [wF k i (by omega) (by omega) (by omega) (by omega), uF k i (by omega) (by omega) (by omega) (by omega)]; exact hF9 k i hk
