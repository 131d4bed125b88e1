theorem kVs.ext0 {E0 E E1 : kE} {M N N1 : kM} {g : Int} {y : Int → Int} (h : kVs E0 E M N g y) (hX : kExt E E1) (hN : ∀ k i : Int, k < kn E0 → N1 k i = N k i) : kVs E0 E1 M N1 g y := ⟨h.1.tr hX, fun k i hk => (hN k i hk).trans (h.2.1 k i hk), h.2.2.1, h.2.2.2⟩
set_option maxHeartbeats 4000000 in
set_option maxRecDepth 100000 in
theorem s_same_out {pg : Program} {l : Launch} {en : Env} {s0 : State} {mi : MethodId} {ar : Array Value} {bl : List Frame} {me : Method} {co : Code} {ls : Array Slot} {Q : State → Prop} {H : Heap} {locs : List Loc} {E0 E : kE} {M N : kM} {g r : Int} {y : Int → Int} (hI : kI0 M) (hV : kVw E0 E M N g r y) (S : CallFix pg mi co cX4_isSame 11 s0 ar wsX4_isSame RX4) (hP : va_P E.1 vwCl (kW E N) H) (hK : kK E s0) (hX : kExt E0 E) (hS : va_S (kA E0 s0.heap.size) s0.heap H locs) (hG : kG (kA E0 s0.heap.size) s0.heap.size E)
    (ends : ∀ (pc : Nat) (ls : Array Slot) (d1 : Drawn) (H : Heap) (locs : List Loc), decode cX4_isSame pc = .ok (.ireturn, 1) → s0.drawn.sameBut d1 lw_cs → va_S (kA E0 s0.heap.size) s0.heap H locs → W pg l en rX4_isSame (s0.setDrawn d1) mi ar bl me co H locs 28 29287 Q (F0 mi pc ls [.int (zI 1)]))
    (hl : lv_has ls 11 [(0, .ref (E.2.2 g)), (1, .ref (E.2.2 10)), (2, .ref (E.2.2 r))]) : W pg l en rX4_isSame s0 mi ar bl me co H locs 22 29117 Q (F0 mi 145 ls []) := by
  have hx := S.1
  have hb := S.2.1
  have hn := hK.2.2.2
  have hinX00 : ∀ w ∈ wsX00, w ∈ wsX4_isSame := fun w h => List.mem_cons_of_mem _ (List.mem_append_left _ (List.mem_append_left _ (List.mem_append_right _ (h))))
  have hinX10 : ∀ w ∈ wsX10, w ∈ wsX4_isSame := fun w h => List.mem_cons_of_mem _ (List.mem_append_left _ (List.mem_append_right _ (h)))
  have hinX20 : ∀ w ∈ wsX20, w ∈ wsX4_isSame := fun w h => List.mem_cons_of_mem _ (List.mem_append_left _ (List.mem_append_left _ (List.mem_append_left _ (List.mem_append_right _ (h)))))
  have hinX30 : ∀ w ∈ wsX30, w ∈ wsX4_isSame := fun w h => List.mem_cons_of_mem _ (List.mem_append_left _ (List.mem_append_left _ (List.mem_append_left _ (List.mem_append_left _ (List.mem_append_left _ (List.mem_append_right _ (h)))))))
  have hinX40 : ∀ w ∈ wsX40, w ∈ wsX4_isSame := fun w h => List.mem_cons_of_mem _ (List.mem_append_left _ (List.mem_append_left _ (List.mem_append_left _ (List.mem_append_left _ (List.mem_append_right _ (h))))))
  have hl : lv_has ls 11 [(0, .ref (E.2.2 g)), (1, .ref (E.2.2 10)), (2, .ref (E.2.2 r))] := hl
  refine k_push hx hb dX4_isSame_145 ?_
  refine lv_istore (lv' := [(5, .int (zI 0)), (0, .ref (E.2.2 g)), (1, .ref (E.2.2 10)), (2, .ref (E.2.2 r))]) hx hb dX4_isSame_146 hl (by decide) rfl (fun ls hl => ?_)
  refine k_push hx hb dX4_isSame_148 ?_
  refine lv_istore (lv' := [(6, .int (zI 0)), (5, .int (zI 0)), (0, .ref (E.2.2 g)), (1, .ref (E.2.2 10)), (2, .ref (E.2.2 r))]) hx hb dX4_isSame_149 hl (by decide) rfl (fun ls hl => ?_)
  refine k_push hx hb dX4_isSame_151 ?_
  refine lv_istore (lv' := [(7, .int (zI 0)), (6, .int (zI 0)), (5, .int (zI 0)), (0, .ref (E.2.2 g)), (1, .ref (E.2.2 10)), (2, .ref (E.2.2 r))]) hx hb dX4_isSame_152 hl (by decide) rfl (fun ls hl => ?_)
  have lp_154 : ∀ (n_154 : Nat) (sum : Int) (pairs : Int) (h : Int) (E_154 : kE) (M_154 : kM) (H : Heap) (locs : List Loc), (0 ≤ h ∧ h ≤ 2) → (kVw E0 E_154 M M_154 g r y) → (sum = kSum (kSS M) h.toNat) → (pairs = kSum (fun q => kPr (M q 1)) h.toNat) → (2 - h < (n_154 : Int)) → kExt E0 E_154 → kK E_154 s0 → kG (kA E0 s0.heap.size) s0.heap.size E_154 → va_P E_154.1 vwCl (kW E_154 M_154) H → va_S (kA E0 s0.heap.size) s0.heap H locs → ∀ ls : Array Slot, lv_has ls 11 [(0, .ref (E_154.2.2 g)), (1, .ref (E_154.2.2 10)), (2, .ref (E_154.2.2 r)), (5, .int (zI sum)), (6, .int (zI pairs)), (7, .int (zI h))] → W pg l en rX4_isSame s0 mi ar bl me co H locs (22 + 3 * h.toNat) (29117 + 85 * h.toNat) Q (F0 mi 154 ls []) := by
    intro n_154
    induction n_154 with
    | zero => intro sum pairs h E_154 M_154 H locs h1 hV hsum hpr hm_154; exfalso; omega
    | succ n_154 ih_154 =>
      intro sum pairs h E_154 M_154 H locs h1 hV hsum hpr hm_154 hX hK hG hP hS ls hl
      have hn := hK.2.2.2
      obtain ⟨hV1, hr0, hR⟩ := id hV
      have hs := hV1.sm
      have hL := hR.1
      have hg := hs.1
      have hLr := hL.1
      refine lv_iload hx hb dX4_isSame_154 (lv_at hl 5 rfl) ?_
      refine k_push hx hb dX4_isSame_156 ?_
      refine k_ge (tgt := 392) hx hb dX4_isSame_157 (by decide) (by omega) (fun c_157 => ?_) (fun c_157 => ?_)
      · skip
        refine W.widen (k := 28) (n := 29287) (by omega) (by omega) ?_
        exact s_same_end hI hV (by rw [hsum, show h = 2 by omega]; exact kSum_two _) (by rw [hpr, show h = 2 by omega]; exact kSum_two (fun q => kPr (M q 1))) S hP hK hS hG ends (lv_sub hl [3, 4, 5, 0, 1, 2] rfl)
      · skip
        refine lv_aload_n hx hb dX4_isSame_160 rfl (lv_at hl 0 rfl) ?_
        refine k_sim S hK hP hinX40 0 (by decide) (S.2.2.2.2 _ (List.mem_cons_of_mem _ (List.mem_append_left _ (List.mem_append_left _ (List.mem_append_left _ (List.mem_append_left _ (List.mem_append_left _ (List.mem_append_left _ (List.mem_append_left _ (List.mem_of_getElem? (i := 3) rfl)))))))))) dX4_isSame_161 ⟨hs.1.1, by have := hs.1.2.1; omega, hs.1.2.2.1⟩ (a := E_154.2.2 (g + 1)) hs.1.2.2.2.1 rfl ?_
        refine lv_iload hx hb dX4_isSame_164 (lv_at hl 5 rfl) ?_
        refine k_aald S hK hP 2 ⟨by have := hs.1.1; omega, hs.1.2.1, hs.2.1.1, hs.2.1.2.1, by omega, by omega⟩ (by omega) (a := E_154.2.2 (y h)) (hs.2.1.2.2 _ (by omega) (by omega)) dX4_isSame_166 ?_
        refine lv_astore (lv' := [(8, .ref (E_154.2.2 (y h))), (0, .ref (E_154.2.2 g)), (1, .ref (E_154.2.2 10)), (2, .ref (E_154.2.2 r)), (5, .int (zI sum)), (6, .int (zI pairs)), (7, .int (zI h))]) hx hb dX4_isSame_167 hl (by decide) rfl (fun ls hl => ?_)
        have jn_279 : ∀  (u : Int) (w : Int), (u = sum + kSS M h) → (w = pairs + kPr (M h 1)) → ∀ ls : Array Slot, lv_has ls 11 [(0, .ref (E_154.2.2 g)), (1, .ref (E_154.2.2 10)), (2, .ref (E_154.2.2 r)), (5, .int (zI u)), (6, .int (zI w)), (7, .int (zI h))] → W pg l en rX4_isSame s0 mi ar bl me co H locs (22 + 3 * h.toNat) (29117 + 85 * h.toNat) Q (F0 mi 279 ls []) := by
          intro u w hu hw ls hl
          have jn_386 : ∀  (E_386 : kE) (M_386 : kM) (H : Heap) (locs : List Loc), (kVw E0 E_386 M M_386 g r y) → kExt E0 E_386 → kK E_386 s0 → kG (kA E0 s0.heap.size) s0.heap.size E_386 → va_P E_386.1 vwCl (kW E_386 M_386) H → va_S (kA E0 s0.heap.size) s0.heap H locs → ∀ ls : Array Slot, lv_has ls 11 [(0, .ref (E_386.2.2 g)), (1, .ref (E_386.2.2 10)), (2, .ref (E_386.2.2 r)), (5, .int (zI u)), (6, .int (zI w)), (7, .int (zI h))] → W pg l en rX4_isSame s0 mi ar bl me co H locs (22 + 3 * h.toNat + 3) (29117 + 85 * h.toNat + 85) Q (F0 mi 386 ls []) := by
            intro E_386 M_386 H locs hV hX hK hG hP hS ls hl
            have hn := hK.2.2.2
            obtain ⟨v7_386, ev7_386⟩ : ∃ v : Int, v = h + 1 := ⟨_, rfl⟩
            refine k_incN (v := v7_386) (lv' := [(7, .int (zI v7_386)), (0, .ref (E_386.2.2 g)), (1, .ref (E_386.2.2 10)), (2, .ref (E_386.2.2 r)), (5, .int (zI u)), (6, .int (zI w))]) hx hb dX4_isSame_386 hl (k := 5) rfl ev7_386 (by decide) rfl (fun ls hl => ?_)
            refine lv_goto (tgt := 154) hx hb dX4_isSame_389 (by decide) ?_
            refine W.widen (k := 22 + 3 * v7_386.toNat) (n := 29117 + 85 * v7_386.toNat) (by omega) (by omega) ?_
            refine ih_154 u w v7_386 E_386 M_386 _ _ (by omega) (by exact hV) ?_ ?_ (by omega) hX hK hG hP hS _ (lv_sub hl [1, 2, 3, 4, 5, 0] rfl)
            · rw [ev7_386, kSum_step _ h1.1, ← hsum]
              exact hu
            · rw [ev7_386, kSum_step _ h1.1, ← hpr]
              exact hw
          exact s_same_rep hI hV ⟨h1.1, by omega⟩ S hP hK ⟨by omega, by omega⟩ hX hS hG ⟨by omega, by omega⟩ jn_386 hl
        exact s_same_in hI hV ⟨h1.1, by omega⟩ S hP hK ⟨by omega, by omega⟩ jn_279 (lv_sub hl [1, 2, 3, 4, 5, 6, 0] rfl)
  refine W.widen (k := 22 + 3 * (0 : Int).toNat) (n := 29117 + 85 * (0 : Int).toNat) (by omega) (by omega) ?_
  refine lp_154 (((2 - 0 : Int)).toNat + 1) 0 0 0 E N _ _ (by omega) (by exact hV) (by rfl) (by rfl) (by omega) hX hK hG hP hS _ (lv_sub hl [3, 4, 5, 2, 1, 0] rfl)
set_option maxHeartbeats 4000000 in
set_option maxRecDepth 100000 in
/-- the object says the same as the Sim -/
theorem c_X4_isSame (l : Launch) (E0 : kE) (hE : kInj E0) (M : kM) (g : Int) (hJ : kJ E0 M g) : kND l yX4_isSame wsX4_isSame rX4_isSame 28 29287 E0 M [.ref (E0.2.2 g), .ref (E0.2.2 10)] := by
  refine kND_of (cc := cX4_isSame) (maxL := 11) RX4 hE (by decide) rfl rfl (Nat.le_of_ble_eq_true rfl) ?_
  intro pg en s0 mi ar bl me co ls Q S hP hS hK hG ends hl
  have hx := S.1
  have hb := S.2.1
  have hn := hK.2.2.2
  have hinX00 : ∀ w ∈ wsX00, w ∈ wsX4_isSame := fun w h => List.mem_cons_of_mem _ (List.mem_append_left _ (List.mem_append_left _ (List.mem_append_right _ (h))))
  have hinX10 : ∀ w ∈ wsX10, w ∈ wsX4_isSame := fun w h => List.mem_cons_of_mem _ (List.mem_append_left _ (List.mem_append_right _ (h)))
  have hinX20 : ∀ w ∈ wsX20, w ∈ wsX4_isSame := fun w h => List.mem_cons_of_mem _ (List.mem_append_left _ (List.mem_append_left _ (List.mem_append_left _ (List.mem_append_right _ (h)))))
  have hinX30 : ∀ w ∈ wsX30, w ∈ wsX4_isSame := fun w h => List.mem_cons_of_mem _ (List.mem_append_left _ (List.mem_append_left _ (List.mem_append_left _ (List.mem_append_left _ (List.mem_append_left _ (List.mem_append_right _ (h)))))))
  have hinX40 : ∀ w ∈ wsX40, w ∈ wsX4_isSame := fun w h => List.mem_cons_of_mem _ (List.mem_append_left _ (List.mem_append_left _ (List.mem_append_left _ (List.mem_append_left _ (List.mem_append_right _ (h))))))
  have hX : kExt E0 E0 := kExt.rf E0
  have hl : lv_has ls 11 [(0, .ref (E0.2.2 g)), (1, .ref (E0.2.2 10))] := hl
  obtain ⟨hI, y, hs⟩ := id hJ
  have hg := hs.1
  have hy0 := (hs.2.2 0 (by omega) (by omega)).1
  have hy1 := (hs.2.2 1 (by omega) (by omega)).1
  have hVs : kVs E0 E0 M M g y := ⟨kExt.rf E0, fun _ _ _ => rfl, hs, hn⟩
  obtain ⟨hn00, hn01, hv0⟩ := hI.1 0 (by omega)
  obtain ⟨hn10, hn11, hv1⟩ := hI.1 1 (by omega)
  obtain ⟨hp0, hp1, hpv⟩ := hI.1 2 (by omega)
  refine k_newRows S hK hG hP hS hinX30 (S.2.2.2.2 _ (List.mem_cons_of_mem _ (List.mem_append_left _ (List.mem_append_left _ (List.mem_append_left _ (List.mem_append_left _ (List.mem_append_left _ (List.mem_append_left _ (List.mem_append_left _ (List.mem_of_getElem? (i := 0) rfl)))))))))) (S.2.2.2.2 _ (List.mem_cons_of_mem _ (List.mem_append_left _ (List.mem_append_left _ (List.mem_append_left _ (List.mem_append_left _ (List.mem_append_left _ (List.mem_append_left _ (List.mem_append_left _ (List.mem_of_getElem? (i := 1) rfl)))))))))) (S.2.2.2.2 _ (List.mem_cons_of_mem _ (List.mem_append_left _ (List.mem_append_left _ (List.mem_append_left _ (List.mem_append_left _ (List.mem_append_left _ (List.mem_append_left _ (List.mem_append_left _ (List.mem_of_getElem? (i := 2) rfl)))))))))) (by show _ ≤ (28 : Nat); omega) (by show _ ≤ (29287 : Nat); omega) dX4_isSame_0 (fun Ea H hX0 hn0 hK hG hP hS => ?_)
  obtain ⟨Ma, eMa⟩ : ∃ N9 : kM, N9 = kNw M (kn E0) (kRo) := ⟨_, rfl⟩
  rw [← eMa] at hP
  have hM0 : ∀ k i : Int, k < kn E0 → Ma k i = M k i := fun k i hk => by rw [eMa]; exact kNw_ne (by omega)
  obtain ⟨q0, eq0⟩ : ∃ q : Int, q = kn E0 := ⟨_, rfl⟩
  rw [← eq0] at eMa ⊢
  have hl : lv_has ls 11 [(0, .ref (Ea.2.2 g)), (1, .ref (Ea.2.2 10))] := by rw [hX0.ad (c := g) (by omega), hX0.ad (c := 10) (by omega)]; exact hl
  have hVs := hVs.ext0 hX0 (fun k i hk => hM0 k i (by have := hVs.1.2.2.1; omega))
  have hs := hVs.sm
  have hX := hX.tr hX0
  refine lv_dup hx hb dX4_isSame_3 rfl ?_
  refine lv_aload_n hx hb dX4_isSame_4 rfl (lv_at hl 0 rfl) ?_
  refine k_sim S hK hP hinX40 0 (by decide) (S.2.2.2.2 _ (List.mem_cons_of_mem _ (List.mem_append_left _ (List.mem_append_left _ (List.mem_append_left _ (List.mem_append_left _ (List.mem_append_left _ (List.mem_append_left _ (List.mem_append_left _ (List.mem_of_getElem? (i := 3) rfl)))))))))) dX4_isSame_5 ⟨hs.1.1, by have := hs.1.2.1; omega, hs.1.2.2.1⟩ (a := Ea.2.2 (g + 1)) hs.1.2.2.2.1 rfl ?_
  refine k_push hx hb dX4_isSame_8 ?_
  refine k_aald S hK hP 2 ⟨by have := hs.1.1; omega, hs.1.2.1, hs.2.1.1, hs.2.1.2.1, by omega, by omega⟩ (by omega) (a := Ea.2.2 (y 0)) (hs.2.1.2.2 _ (by omega) (by omega)) dX4_isSame_9 ?_
  refine lv_aload_n hx hb dX4_isSame_10 rfl (lv_at hl 0 rfl) ?_
  refine k_sim S hK hP hinX40 0 (by decide) (S.2.2.2.2 _ (List.mem_cons_of_mem _ (List.mem_append_left _ (List.mem_append_left _ (List.mem_append_left _ (List.mem_append_left _ (List.mem_append_left _ (List.mem_append_left _ (List.mem_append_left _ (List.mem_of_getElem? (i := 3) rfl)))))))))) dX4_isSame_11 ⟨hs.1.1, by have := hs.1.2.1; omega, hs.1.2.2.1⟩ (a := Ea.2.2 (g + 1)) hs.1.2.2.2.1 rfl ?_
  refine k_push hx hb dX4_isSame_14 ?_
  refine k_aald S hK hP 2 ⟨by have := hs.1.1; omega, hs.1.2.1, hs.2.1.1, hs.2.1.2.1, by omega, by omega⟩ (by omega) (a := Ea.2.2 (y 1)) (hs.2.1.2.2 _ (by omega) (by omega)) dX4_isSame_15 ?_
  have hk4 : Ma q0 (-2) = 4 := by rw [eMa, kNw_hit]; rfl
  refine k_callINV (As := [.ref (Ea.2.2 (y 0)), .ref (Ea.2.2 (y 1))]) (rest := [.ref (Ea.2.2 q0)]) S hK hG hP hS (c_X3_init l Ea hG.1 Ma q0 (y 0) (y 1) (fun i => M i 1) (fun i => M (i + 3)) ⟨by omega, by omega⟩ hk4 (hs.arr (i := 0) ⟨by omega, by omega⟩) (hs.arr (i := 1) ⟨by omega, by omega⟩) ⟨⟨by omega, by omega⟩, by omega, by omega⟩ ⟨⟨hn00, hn01⟩, hn10, hn11⟩ (fun j j1 j2 => ⟨hs.at (i := 0) ⟨by omega, by omega⟩ ⟨j1, j2⟩, hv0 j j1 j2⟩) (fun j j1 j2 => ⟨hs.at (i := 1) ⟨by omega, by omega⟩ ⟨j1, j2⟩, hv1 j j1 j2⟩)) (cwI 2 S.2.2.2.2 gX4_isSame_X3_init rfl rfl rfl (S.2.2.2.2 _ (List.mem_cons_of_mem _ (List.mem_append_left _ (List.mem_append_left _ (List.mem_append_left _ (List.mem_append_left _ (List.mem_append_left _ (List.mem_append_left _ (List.mem_append_left _ (List.mem_of_getElem? (i := 2) rfl)))))))))) (S.2.2.2.2 _ (List.mem_cons_of_mem _ (List.mem_append_left _ (List.mem_append_left _ (List.mem_append_left _ (List.mem_append_left _ (List.mem_append_left _ (List.mem_append_left _ (List.mem_append_left _ (List.mem_of_getElem? (i := 8) rfl)))))))))) (S.2.2.2.2 _ (List.mem_cons_of_mem _ (List.mem_append_left _ (List.mem_append_left _ (List.mem_append_left _ (List.mem_append_left _ (List.mem_append_left _ (List.mem_append_left _ (List.mem_append_left _ (List.mem_of_getElem? (i := 9) rfl)))))))))) rfl (by decide +kernel) ⟨Nat.le_of_ble_eq_true rfl, Nat.le_of_ble_eq_true rfl⟩) rfl hl.1 rfl (Nat.le_of_ble_eq_true rfl) dX4_isSame_16 ⟨by show _ ≤ (28 : Nat); omega, by show _ ≤ (29287 : Nat); omega⟩ (fun E16 M16 H locs hX16 hK hG h_16 hP hS => ?_)
  have hM16 : ∀ k i : Int, k < q0 → M16 k i = Ma k i := h_16.2
  have hL16 := h_16.1.1.1
  have hl : lv_has ls 11 [(0, .ref (E16.2.2 g)), (1, .ref (E16.2.2 10))] := by rw [hX16.ad (c := g) (by omega), hX16.ad (c := 10) (by omega)]; exact hl
  rw [← hX16.ad (c := q0) (by omega)]
  have hVs := hVs.ext0 hX16 (fun k i hk => hM16 k i (by have := hVs.1.2.2.1; omega))
  have hs := hVs.sm
  have hX := hX.tr hX16
  have hR : kRs E16 M16 q0 (fun i => M i 1) (fun i => M (i + 3)) := h_16.1
  have hL := hR.1
  obtain ⟨-, wd, hw9⟩ := id hR
  obtain ⟨hT0, hFO0, -, -⟩ := hw9 0 (by omega) (by omega)
  obtain ⟨hT1, -, -, -⟩ := hw9 1 (by omega) (by omega)
  refine lv_astore_n (lv' := [(2, .ref (E16.2.2 q0)), (0, .ref (E16.2.2 g)), (1, .ref (E16.2.2 10))]) hx hb dX4_isSame_19 rfl hl (by decide) rfl (fun ls hl => ?_)
  refine lv_aload_n hx hb dX4_isSame_20 rfl (lv_at hl 0 rfl) ?_
  refine k_callVNR (As := []) (rest := []) S hK hG hP hS (c_X3_seam l E16 hG.1 M16 q0 (M16 q0 5) (M16 (q0 + 15) 0) (M16 (q0 + 1)) (M16 (q0 + 2)) (M16 (q0 + 4 + 0)) (M16 (q0 + 7 + 0)) (M16 (q0 + 10 + 0)) (M16 (q0 + 4 + 1)) (M16 (q0 + 7 + 1)) (M16 (q0 + 10 + 1)) wd (M 3) (M 0 1) (M 4) (M 1 1) (M16 (q0 + 13 + 0)) hL hT0 hT1 ⟨rfl, by rw [Int.add_zero], by rw [Int.add_zero], by rw [show q0 + 4 + 1 = q0 + 5 by omega], by rw [show q0 + 7 + 1 = q0 + 8 by omega], by rw [Int.add_zero], rfl⟩ hFO0) (cwV 0 S.2.2.2.2 gX4_isSame_X3_seam rfl rfl rfl (by decide +kernel) ⟨Nat.le_of_ble_eq_true rfl, Nat.le_of_ble_eq_true rfl⟩) (k_rRows hK hP ⟨hL.1.1, by have := hL.1.2.1; omega, hL.1.2.2⟩) rfl hl.1 rfl (Nat.le_of_ble_eq_true rfl) dX4_isSame_21 ⟨by show _ ≤ (28 : Nat); omega, by show _ ≤ (29287 : Nat); omega⟩ (fun E21 M21 z_21 H locs hX21 hK hG h_21 hP hS => ?_)
  obtain ⟨sa, sb, sc, md, ⟨ks0, ks1, ks2⟩, rs0, rs1, rs2⟩ := h_21
  have hM21 := md.2.1
  have mz := md.1
  have hl : lv_has ls 11 [(2, .ref (E21.2.2 q0)), (0, .ref (E21.2.2 g)), (1, .ref (E21.2.2 10))] := by rw [hX21.ad (c := q0) (by omega), hX21.ad (c := g) (by omega), hX21.ad (c := 10) (by omega)]; exact hl
  have hVs := hVs.ext0 hX21 (fun k i hk => hM21 k i (by have := hVs.1.2.2.1; omega))
  have hs := hVs.sm
  replace hR := hR.ext hX21 (fun k i _ hk => hM21 k i hk)
  have hL := hR.1
  have hX := hX.tr hX21
  have ar21 : kArr E21 M21 z_21 3 := Or.inr (Or.inr ⟨by omega, by omega, md.2.2.1, md.2.2.2.1, by omega, by omega⟩)
  have t0 : M21 z_21 0 = sa := md.2.2.2.2 0 (by omega) (by omega)
  have t1 : M21 z_21 1 = sb := md.2.2.2.2 1 (by omega) (by omega)
  have t2 : M21 z_21 2 = sc := md.2.2.2.2 2 (by omega) (by omega)
  refine lv_astore_n (lv' := [(3, .ref (E21.2.2 z_21)), (2, .ref (E21.2.2 q0)), (0, .ref (E21.2.2 g)), (1, .ref (E21.2.2 10))]) hx hb dX4_isSame_24 rfl hl (by decide) rfl (fun ls hl => ?_)
  refine k_bpush hx hb dX4_isSame_25 (by decide) ?_
  refine k_newA (len := 6) S hK hG hP hS (S.2.2.2.2 _ (List.mem_cons_of_mem _ (List.mem_append_left _ (List.mem_append_left _ (List.mem_append_left _ (List.mem_append_left _ (List.mem_append_left _ (List.mem_append_left _ (List.mem_append_left _ (List.mem_of_getElem? (i := 4) rfl)))))))))) (by omega) (by show _ ≤ (28 : Nat); omega) (by show _ ≤ (29287 : Nat); omega) dX4_isSame_27 (fun E27 H hX27 hn27 hK hG hP hS => ?_)
  obtain ⟨M27, eM27⟩ : ∃ N9 : kM, N9 = kNw M21 (kn E21) (kIa 6) := ⟨_, rfl⟩
  rw [← eM27] at hP
  have hM27 : ∀ k i : Int, k < kn E21 → M27 k i = M21 k i := fun k i hk => by rw [eM27]; exact kNw_ne (by omega)
  obtain ⟨q27, eq27⟩ : ∃ q : Int, q = kn E21 := ⟨_, rfl⟩
  rw [← eq27] at eM27 ⊢
  have hl : lv_has ls 11 [(3, .ref (E27.2.2 z_21)), (2, .ref (E27.2.2 q0)), (0, .ref (E27.2.2 g)), (1, .ref (E27.2.2 10))] := by rw [hX27.ad (c := z_21) (by omega), hX27.ad (c := q0) (by omega), hX27.ad (c := g) (by omega), hX27.ad (c := 10) (by omega)]; exact hl
  have hVs := hVs.ext0 hX27 (fun k i hk => hM27 k i (by have := hVs.1.2.2.1; omega))
  have hs := hVs.sm
  replace hR := hR.ext hX27 (fun k i _ hk => hM27 k i hk)
  have hL := hR.1
  replace ar21 : kArr E27 M27 z_21 3 := kArr_ext hX27 hM27 ar21
  replace t0 : M27 z_21 0 = sa := by rw [hM27 _ _ (by omega)]; exact t0
  replace t1 : M27 z_21 1 = sb := by rw [hM27 _ _ (by omega)]; exact t1
  replace t2 : M27 z_21 2 = sc := by rw [hM27 _ _ (by omega)]; exact t2
  have hX := hX.tr hX27
  have ar27 : kArr E27 M27 q27 6 := Or.inr (Or.inr ⟨by omega, by omega, by rw [eM27, kNw_hit]; rfl, by rw [eM27, kNw_hit]; rfl, by omega, by omega⟩)
  refine lv_dup hx hb dX4_isSame_29 rfl ?_
  refine k_push hx hb dX4_isSame_30 ?_
  refine lv_aload_n hx hb dX4_isSame_31 rfl (lv_at hl 2 rfl) ?_
  refine k_sim S hK hP hinX40 0 (by decide) (S.2.2.2.2 _ (List.mem_cons_of_mem _ (List.mem_append_left _ (List.mem_append_left _ (List.mem_append_left _ (List.mem_append_left _ (List.mem_append_left _ (List.mem_append_left _ (List.mem_append_left _ (List.mem_of_getElem? (i := 3) rfl)))))))))) dX4_isSame_32 ⟨hs.1.1, by have := hs.1.2.1; omega, hs.1.2.2.1⟩ (a := E27.2.2 (g + 1)) hs.1.2.2.2.1 rfl ?_
  refine k_push hx hb dX4_isSame_35 ?_
  refine k_aald S hK hP 2 ⟨by have := hs.1.1; omega, hs.1.2.1, hs.2.1.1, hs.2.1.2.1, by omega, by omega⟩ (by omega) (a := E27.2.2 (y 0)) (hs.2.1.2.2 _ (by omega) (by omega)) dX4_isSame_36 ?_
  refine k_alen S hK hP (M 0 1) (hs.arr (i := 0) ⟨by omega, by omega⟩) dX4_isSame_37 ?_
  refine k_astG S hK hG hP hS (6) (ar27) (by omega) dX4_isSame_38 (fun H locs hP hS => ?_)
  obtain ⟨M38, eM38⟩ : ∃ N9 : kM, N9 = kU M27 q27 0 (M 0 1) := ⟨_, rfl⟩
  rw [← eM38] at hP
  have hVs : kVs E0 E27 M M38 g y := hVs.st (fun k i hk => by rw [eM38, kU_cell (by omega)])
  have hs := hVs.sm
  replace hR : kRs E27 M38 q0 (fun i => M i 1) (fun i => M (i + 3)) := hR.keep (fun k i k1 k2 => by rw [eM38, kU_cell (by omega)])
  have hL := hR.1
  replace ar21 : kArr E27 M38 z_21 3 := kArr_fr ar21 (fun i => by rw [eM38, kU_cell (by omega)])
  replace t0 : M38 z_21 0 = sa := by rw [eM38, kU_cell (by omega)]; exact t0
  replace t1 : M38 z_21 1 = sb := by rw [eM38, kU_cell (by omega)]; exact t1
  replace t2 : M38 z_21 2 = sc := by rw [eM38, kU_cell (by omega)]; exact t2
  replace ar27 : kArr E27 M38 q27 6 := kArr_st ar27 eM38 (by omega)
  have c0 : M38 q27 0 = M 0 1 := by rw [eM38, kU_same]
  refine lv_dup hx hb dX4_isSame_39 rfl ?_
  refine k_push hx hb dX4_isSame_40 ?_
  refine lv_aload_n hx hb dX4_isSame_41 rfl (lv_at hl 2 rfl) ?_
  refine k_sim S hK hP hinX40 0 (by decide) (S.2.2.2.2 _ (List.mem_cons_of_mem _ (List.mem_append_left _ (List.mem_append_left _ (List.mem_append_left _ (List.mem_append_left _ (List.mem_append_left _ (List.mem_append_left _ (List.mem_append_left _ (List.mem_of_getElem? (i := 3) rfl)))))))))) dX4_isSame_42 ⟨hs.1.1, by have := hs.1.2.1; omega, hs.1.2.2.1⟩ (a := E27.2.2 (g + 1)) hs.1.2.2.2.1 rfl ?_
  refine k_push hx hb dX4_isSame_45 ?_
  refine k_aald S hK hP 2 ⟨by have := hs.1.1; omega, hs.1.2.1, hs.2.1.1, hs.2.1.2.1, by omega, by omega⟩ (by omega) (a := E27.2.2 (y 1)) (hs.2.1.2.2 _ (by omega) (by omega)) dX4_isSame_46 ?_
  refine k_alen S hK hP (M 1 1) (hs.arr (i := 1) ⟨by omega, by omega⟩) dX4_isSame_47 ?_
  refine k_astG S hK hG hP hS (6) (ar27) (by omega) dX4_isSame_48 (fun H locs hP hS => ?_)
  obtain ⟨M48, eM48⟩ : ∃ N9 : kM, N9 = kU M38 q27 1 (M 1 1) := ⟨_, rfl⟩
  rw [← eM48] at hP
  have hVs : kVs E0 E27 M M48 g y := hVs.st (fun k i hk => by rw [eM48, kU_cell (by omega)])
  have hs := hVs.sm
  replace hR : kRs E27 M48 q0 (fun i => M i 1) (fun i => M (i + 3)) := hR.keep (fun k i k1 k2 => by rw [eM48, kU_cell (by omega)])
  have hL := hR.1
  replace ar21 : kArr E27 M48 z_21 3 := kArr_fr ar21 (fun i => by rw [eM48, kU_cell (by omega)])
  replace t0 : M48 z_21 0 = sa := by rw [eM48, kU_cell (by omega)]; exact t0
  replace t1 : M48 z_21 1 = sb := by rw [eM48, kU_cell (by omega)]; exact t1
  replace t2 : M48 z_21 2 = sc := by rw [eM48, kU_cell (by omega)]; exact t2
  replace ar27 : kArr E27 M48 q27 6 := kArr_st ar27 eM48 (by omega)
  replace c0 : M48 q27 0 = M 0 1 := by rw [eM48, kU_place (by omega)]; exact c0
  have c1 : M48 q27 1 = M 1 1 := by rw [eM48, kU_same]
  refine lv_dup hx hb dX4_isSame_49 rfl ?_
  refine k_push hx hb dX4_isSame_50 ?_
  refine lv_aload_n hx hb dX4_isSame_51 rfl (lv_at hl 2 rfl) ?_
  refine k_sim S hK hP hinX40 1 (by decide) (S.2.2.2.2 _ (List.mem_cons_of_mem _ (List.mem_append_left _ (List.mem_append_left _ (List.mem_append_left _ (List.mem_append_left _ (List.mem_append_left _ (List.mem_append_left _ (List.mem_append_left _ (List.mem_of_getElem? (i := 5) rfl)))))))))) dX4_isSame_52 ⟨hs.1.1, by have := hs.1.2.1; omega, hs.1.2.2.1⟩ (a := E27.2.2 (y 2)) hs.1.2.2.2.2 rfl ?_
  refine k_alen S hK hP (M 2 1) (hs.arr (i := 2) ⟨by omega, by omega⟩) dX4_isSame_55 ?_
  refine k_astG S hK hG hP hS (6) (ar27) (by omega) dX4_isSame_56 (fun H locs hP hS => ?_)
  obtain ⟨M56, eM56⟩ : ∃ N9 : kM, N9 = kU M48 q27 2 (M 2 1) := ⟨_, rfl⟩
  rw [← eM56] at hP
  have hVs : kVs E0 E27 M M56 g y := hVs.st (fun k i hk => by rw [eM56, kU_cell (by omega)])
  have hs := hVs.sm
  replace hR : kRs E27 M56 q0 (fun i => M i 1) (fun i => M (i + 3)) := hR.keep (fun k i k1 k2 => by rw [eM56, kU_cell (by omega)])
  have hL := hR.1
  replace ar21 : kArr E27 M56 z_21 3 := kArr_fr ar21 (fun i => by rw [eM56, kU_cell (by omega)])
  replace t0 : M56 z_21 0 = sa := by rw [eM56, kU_cell (by omega)]; exact t0
  replace t1 : M56 z_21 1 = sb := by rw [eM56, kU_cell (by omega)]; exact t1
  replace t2 : M56 z_21 2 = sc := by rw [eM56, kU_cell (by omega)]; exact t2
  replace ar27 : kArr E27 M56 q27 6 := kArr_st ar27 eM56 (by omega)
  replace c0 : M56 q27 0 = M 0 1 := by rw [eM56, kU_place (by omega)]; exact c0
  replace c1 : M56 q27 1 = M 1 1 := by rw [eM56, kU_place (by omega)]; exact c1
  have c2 : M56 q27 2 = M 2 1 := by rw [eM56, kU_same]
  refine lv_dup hx hb dX4_isSame_57 rfl ?_
  refine k_push hx hb dX4_isSame_58 ?_
  refine lv_aload_n hx hb dX4_isSame_59 rfl (lv_at hl 1 rfl) ?_
  refine k_rowsR S hK hP hinX30 7 (by decide) (by decide) (S.2.2.2.2 _ (List.mem_cons_of_mem _ (List.mem_append_left _ (List.mem_append_left _ (List.mem_append_left _ (List.mem_append_left _ (List.mem_append_left _ (List.mem_append_left _ (List.mem_append_left _ (List.mem_of_getElem? (i := 6) rfl)))))))))) dX4_isSame_60 ⟨hL.1.1, by have := hL.1.2.1; omega, hL.1.2.2⟩ (a := E27.2.2 (q0 + 15)) (hL.fld 15 (by unfold kRfd; omega) (by omega)) rfl ?_
  refine k_push hx hb dX4_isSame_63 ?_
  have t64 : M56 (q0 + 15) 0 = kTot (M 3) (M 0 1) := (hR.2.choose_spec 0 (by omega) (by omega)).2.2.2
  refine k_ald S hK hP (2) (hL.arr (15) 2 (by unfold kRof; omega) (by omega)) (by omega) dX4_isSame_64 ?_
  have t65 : M56 (q0 + 15) 0 = kTot (M 3) (M 0 1) := (hR.2.choose_spec 0 (by omega) (by omega)).2.2.2
  refine k_astG S hK hG hP hS (6) (ar27) (by omega) dX4_isSame_65 (fun H locs hP hS => ?_)
  obtain ⟨M65, eM65⟩ : ∃ N9 : kM, N9 = kU M56 q27 3 (M56 (q0 + 15) 0) := ⟨_, rfl⟩
  rw [← eM65] at hP
  have hVs : kVs E0 E27 M M65 g y := hVs.st (fun k i hk => by rw [eM65, kU_cell (by omega)])
  have hs := hVs.sm
  replace hR : kRs E27 M65 q0 (fun i => M i 1) (fun i => M (i + 3)) := hR.keep (fun k i k1 k2 => by rw [eM65, kU_cell (by omega)])
  have hL := hR.1
  replace ar21 : kArr E27 M65 z_21 3 := kArr_fr ar21 (fun i => by rw [eM65, kU_cell (by omega)])
  replace t0 : M65 z_21 0 = sa := by rw [eM65, kU_cell (by omega)]; exact t0
  replace t1 : M65 z_21 1 = sb := by rw [eM65, kU_cell (by omega)]; exact t1
  replace t2 : M65 z_21 2 = sc := by rw [eM65, kU_cell (by omega)]; exact t2
  replace ar27 : kArr E27 M65 q27 6 := kArr_st ar27 eM65 (by omega)
  replace c0 : M65 q27 0 = M 0 1 := by rw [eM65, kU_place (by omega)]; exact c0
  replace c1 : M65 q27 1 = M 1 1 := by rw [eM65, kU_place (by omega)]; exact c1
  replace c2 : M65 q27 2 = M 2 1 := by rw [eM65, kU_place (by omega)]; exact c2
  have c3 : M65 q27 3 = kTot (M 3) (M 0 1) := by rw [eM65, kU_same]; exact t65
  refine lv_dup hx hb dX4_isSame_66 rfl ?_
  refine k_push hx hb dX4_isSame_67 ?_
  refine lv_aload_n hx hb dX4_isSame_68 rfl (lv_at hl 1 rfl) ?_
  refine k_rowsR S hK hP hinX30 7 (by decide) (by decide) (S.2.2.2.2 _ (List.mem_cons_of_mem _ (List.mem_append_left _ (List.mem_append_left _ (List.mem_append_left _ (List.mem_append_left _ (List.mem_append_left _ (List.mem_append_left _ (List.mem_append_left _ (List.mem_of_getElem? (i := 6) rfl)))))))))) dX4_isSame_69 ⟨hL.1.1, by have := hL.1.2.1; omega, hL.1.2.2⟩ (a := E27.2.2 (q0 + 15)) (hL.fld 15 (by unfold kRfd; omega) (by omega)) rfl ?_
  refine k_push hx hb dX4_isSame_72 ?_
  refine k_ald S hK hP (2) (hL.arr (15) 2 (by unfold kRof; omega) (by omega)) (by omega) dX4_isSame_73 ?_
  have t75 : M65 (q0 + 15) 1 = kTot (M 4) (M 1 1) := (hR.2.choose_spec 1 (by omega) (by omega)).2.2.2
  refine k_astG S hK hG hP hS (6) (ar27) (by omega) dX4_isSame_74 (fun H locs hP hS => ?_)
  obtain ⟨M74, eM74⟩ : ∃ N9 : kM, N9 = kU M65 q27 4 (M65 (q0 + 15) 1) := ⟨_, rfl⟩
  rw [← eM74] at hP
  have hVs : kVs E0 E27 M M74 g y := hVs.st (fun k i hk => by rw [eM74, kU_cell (by omega)])
  have hs := hVs.sm
  replace hR : kRs E27 M74 q0 (fun i => M i 1) (fun i => M (i + 3)) := hR.keep (fun k i k1 k2 => by rw [eM74, kU_cell (by omega)])
  have hL := hR.1
  replace ar21 : kArr E27 M74 z_21 3 := kArr_fr ar21 (fun i => by rw [eM74, kU_cell (by omega)])
  replace t0 : M74 z_21 0 = sa := by rw [eM74, kU_cell (by omega)]; exact t0
  replace t1 : M74 z_21 1 = sb := by rw [eM74, kU_cell (by omega)]; exact t1
  replace t2 : M74 z_21 2 = sc := by rw [eM74, kU_cell (by omega)]; exact t2
  replace ar27 : kArr E27 M74 q27 6 := kArr_st ar27 eM74 (by omega)
  replace c0 : M74 q27 0 = M 0 1 := by rw [eM74, kU_place (by omega)]; exact c0
  replace c1 : M74 q27 1 = M 1 1 := by rw [eM74, kU_place (by omega)]; exact c1
  replace c2 : M74 q27 2 = M 2 1 := by rw [eM74, kU_place (by omega)]; exact c2
  replace c3 : M74 q27 3 = kTot (M 3) (M 0 1) := by rw [eM74, kU_place (by omega)]; exact c3
  have c4 : M74 q27 4 = kTot (M 4) (M 1 1) := by rw [eM74, kU_same]; exact t75
  refine lv_dup hx hb dX4_isSame_75 rfl ?_
  refine k_push hx hb dX4_isSame_76 ?_
  refine lv_aload_n hx hb dX4_isSame_77 rfl (lv_at hl 0 rfl) ?_
  refine k_push hx hb dX4_isSame_78 ?_
  refine k_ald S hK hP (3) (ar21) (by omega) dX4_isSame_79 ?_
  have t80 := t0
  refine k_astG S hK hG hP hS (6) (ar27) (by omega) dX4_isSame_80 (fun H locs hP hS => ?_)
  obtain ⟨M80, eM80⟩ : ∃ N9 : kM, N9 = kU M74 q27 5 (M74 z_21 0) := ⟨_, rfl⟩
  rw [← eM80] at hP
  have hVs : kVs E0 E27 M M80 g y := hVs.st (fun k i hk => by rw [eM80, kU_cell (by omega)])
  have hs := hVs.sm
  replace hR : kRs E27 M80 q0 (fun i => M i 1) (fun i => M (i + 3)) := hR.keep (fun k i k1 k2 => by rw [eM80, kU_cell (by omega)])
  have hL := hR.1
  replace ar21 : kArr E27 M80 z_21 3 := kArr_fr ar21 (fun i => by rw [eM80, kU_cell (by omega)])
  replace t0 : M80 z_21 0 = sa := by rw [eM80, kU_cell (by omega)]; exact t0
  replace t1 : M80 z_21 1 = sb := by rw [eM80, kU_cell (by omega)]; exact t1
  replace t2 : M80 z_21 2 = sc := by rw [eM80, kU_cell (by omega)]; exact t2
  replace ar27 : kArr E27 M80 q27 6 := kArr_st ar27 eM80 (by omega)
  replace c0 : M80 q27 0 = M 0 1 := by rw [eM80, kU_place (by omega)]; exact c0
  replace c1 : M80 q27 1 = M 1 1 := by rw [eM80, kU_place (by omega)]; exact c1
  replace c2 : M80 q27 2 = M 2 1 := by rw [eM80, kU_place (by omega)]; exact c2
  replace c3 : M80 q27 3 = kTot (M 3) (M 0 1) := by rw [eM80, kU_place (by omega)]; exact c3
  replace c4 : M80 q27 4 = kTot (M 4) (M 1 1) := by rw [eM80, kU_place (by omega)]; exact c4
  have c5 : M80 q27 5 = sa := by rw [eM80, kU_same]; exact t80
  have hIN := hVs.I0 hI
  have hWN := hIN.1
  have hO2 := hIN.2.1
  have f0 := hVs.fn (c := 0) (by omega)
  have f1 := hVs.fn (c := 1) (by omega)
  have f2 := hVs.fn (c := 2) (by omega)
  have f3 := hVs.fn (c := 3) (by omega)
  have f4 := hVs.fn (c := 4) (by omega)
  refine W.widen (k := 22) (n := 29117) (by omega) (by omega) ?_
  refine lv_astore (lv' := [(4, .ref (E27.2.2 q27)), (3, .ref (E27.2.2 z_21)), (2, .ref (E27.2.2 q0)), (0, .ref (E27.2.2 g)), (1, .ref (E27.2.2 10))]) hx hb dX4_isSame_81 hl (by decide) rfl (fun ls hl => ?_)
  refine k_push hx hb dX4_isSame_83 ?_
  refine lv_istore (lv' := [(5, .int (zI 0)), (4, .ref (E27.2.2 q27)), (3, .ref (E27.2.2 z_21)), (2, .ref (E27.2.2 q0)), (0, .ref (E27.2.2 g)), (1, .ref (E27.2.2 10))]) hx hb dX4_isSame_84 hl (by decide) rfl (fun ls hl => ?_)
  have lp_86 : ∀ (n_86 : Nat) (w9 : Int), (0 ≤ w9 ∧ w9 ≤ 6) → (6 - w9 < (n_86 : Int)) → ∀ ls : Array Slot, lv_has ls 11 [(0, .ref (E27.2.2 g)), (1, .ref (E27.2.2 10)), (2, .ref (E27.2.2 q0)), (3, .ref (E27.2.2 z_21)), (4, .ref (E27.2.2 q27)), (5, .int (zI w9))] → W pg l en rX4_isSame s0 mi ar bl me co H locs 22 29117 Q (F0 mi 86 ls []) := by
    intro n_86
    induction n_86 with
    | zero => intro w9 h1 hm_86; exfalso; omega
    | succ n_86 ih_86 =>
      intro w9 h1 hm_86 ls hl
      refine lv_iload hx hb dX4_isSame_86 (lv_at hl 5 rfl) ?_
      refine k_bpush hx hb dX4_isSame_88 (by decide) ?_
      refine k_ge (tgt := 115) hx hb dX4_isSame_90 (by decide) (by omega) (fun c_90 => ?_) (fun c_90 => ?_)
      · skip
        refine k_push hx hb dX4_isSame_115 ?_
        refine lv_istore (lv' := [(5, .int (zI 0)), (0, .ref (E27.2.2 g)), (1, .ref (E27.2.2 10)), (2, .ref (E27.2.2 q0)), (3, .ref (E27.2.2 z_21)), (4, .ref (E27.2.2 q27))]) hx hb dX4_isSame_116 hl (by decide) rfl (fun ls hl => ?_)
        have lp_118 : ∀ (n_118 : Nat) (w9 : Int), (0 ≤ w9 ∧ w9 ≤ 3) → (3 - w9 < (n_118 : Int)) → ∀ ls : Array Slot, lv_has ls 11 [(0, .ref (E27.2.2 g)), (1, .ref (E27.2.2 10)), (2, .ref (E27.2.2 q0)), (3, .ref (E27.2.2 z_21)), (4, .ref (E27.2.2 q27)), (5, .int (zI w9))] → W pg l en rX4_isSame s0 mi ar bl me co H locs 22 29117 Q (F0 mi 118 ls []) := by
          intro n_118
          induction n_118 with
          | zero => intro w9 h1 hm_118; exfalso; omega
          | succ n_118 ih_118 =>
            intro w9 h1 hm_118 ls hl
            refine lv_iload hx hb dX4_isSame_118 (lv_at hl 5 rfl) ?_
            refine k_push hx hb dX4_isSame_120 ?_
            refine k_ge (tgt := 145) hx hb dX4_isSame_121 (by decide) (by omega) (fun c_121 => ?_) (fun c_121 => ?_)
            · skip
              exact s_same_out hI ⟨hVs, by omega, hR⟩ S hP hK hX hS hG ends (lv_sub hl [0, 1, 2] rfl)
            · skip
              refine lv_aload_n hx hb dX4_isSame_124 rfl (lv_at hl 1 rfl) ?_
              refine lv_iload hx hb dX4_isSame_125 (lv_at hl 5 rfl) ?_
              refine k_callV (As := [.int (zI w9)]) (rest := []) S hK hP (c_X2_seam l E27 M80 w9 (by assumption) (by assumption) (by omega)) (cwV 1 S.2.2.2.2 gX4_isSame_X2_seam rfl rfl rfl (by decide +kernel) ⟨Nat.le_of_ble_eq_true rfl, Nat.le_of_ble_eq_true rfl⟩) (k_rX hK hP rfl) rfl hl.1 rfl (Nat.le_of_ble_eq_true rfl) dX4_isSame_127 ⟨by show _ ≤ (28 : Nat); omega, by show _ ≤ (29287 : Nat); omega⟩ (fun z_127 h_127 => ?_)
              have e134 : z_127 = M80 z_21 w9 := by
                have q := h_127.1
                rw [f3, f4, f0, f1] at q
                rcases (show w9 = 0 ∨ w9 = 1 ∨ w9 = 2 by omega) with rfl | rfl | rfl
                · rw [t0]; exact kIsSeam_one q ks0
                · rw [t1]; exact kIsSeam_one q ks1
                · rw [t2]; exact kIsSeam_one q ks2
              refine lv_aload_n hx hb dX4_isSame_130 rfl (lv_at hl 3 rfl) ?_
              refine lv_iload hx hb dX4_isSame_131 (lv_at hl 5 rfl) ?_
              refine k_ald S hK hP (3) (ar21) (by omega) dX4_isSame_133 ?_
              refine k_eq (tgt := 139) hx hb dX4_isSame_134 (by decide) (by omega) (fun c_134 => ?_) (fun c_134 => ?_)
              · skip
                obtain ⟨v5_139, ev5_139⟩ : ∃ v : Int, v = w9 + 1 := ⟨_, rfl⟩
                refine k_incN (v := v5_139) (lv' := [(5, .int (zI v5_139)), (0, .ref (E27.2.2 g)), (1, .ref (E27.2.2 10)), (2, .ref (E27.2.2 q0)), (3, .ref (E27.2.2 z_21)), (4, .ref (E27.2.2 q27))]) hx hb dX4_isSame_139 hl (k := 5) rfl ev5_139 (by decide) rfl (fun ls hl => ?_)
                refine lv_goto (tgt := 118) hx hb dX4_isSame_142 (by decide) ?_
                refine ih_118 v5_139 (by omega) (by omega) _ (lv_sub hl [1, 2, 3, 4, 5, 0] rfl)
              · exact absurd c_134 (by omega)
        refine lp_118 (((3 - 0 : Int)).toNat + 1) 0 (by omega) (by omega) _ (lv_sub hl [1, 2, 3, 4, 5, 0] rfl)
      · skip
        refine lv_aload_n hx hb dX4_isSame_93 rfl (lv_at hl 1 rfl) ?_
        refine lv_iload hx hb dX4_isSame_94 (lv_at hl 5 rfl) ?_
        refine k_callV (As := [.int (zI w9)]) (rest := []) S hK hP (c_X2_count l E27 M80 w9 (by assumption) (by assumption) (by omega)) (cwV 1 S.2.2.2.2 gX4_isSame_X2_count rfl rfl rfl (by decide +kernel) ⟨Nat.le_of_ble_eq_true rfl, Nat.le_of_ble_eq_true rfl⟩) (k_rX hK hP rfl) rfl hl.1 rfl (Nat.le_of_ble_eq_true rfl) dX4_isSame_96 ⟨by show _ ≤ (28 : Nat); omega, by show _ ≤ (29287 : Nat); omega⟩ (fun z_96 h_96 => ?_)
        have e104 : z_96 = M80 q27 w9 := by
          have q := h_96.1
          rw [f3, f4, f0, f1, f2] at q
          refine kIsCount_one q ?_
          rcases (show w9 = 0 ∨ w9 = 1 ∨ w9 = 2 ∨ w9 = 3 ∨ w9 = 4 ∨ w9 = 5 by omega) with rfl | rfl | rfl | rfl | rfl | rfl
          · exact Or.inl ⟨rfl, c0⟩
          · exact Or.inr (Or.inl ⟨rfl, c1⟩)
          · exact Or.inr (Or.inr (Or.inl ⟨rfl, c2⟩))
          · exact Or.inr (Or.inr (Or.inr (Or.inl ⟨rfl, c3⟩)))
          · exact Or.inr (Or.inr (Or.inr (Or.inr (Or.inl ⟨rfl, c4⟩))))
          · exact Or.inr (Or.inr (Or.inr (Or.inr (Or.inr ⟨rfl, by rw [c5]; exact ks0⟩))))
        refine lv_aload hx hb dX4_isSame_99 (lv_at hl 4 rfl) ?_
        refine lv_iload hx hb dX4_isSame_101 (lv_at hl 5 rfl) ?_
        refine k_ald S hK hP (6) (ar27) (by omega) dX4_isSame_103 ?_
        refine k_eq (tgt := 109) hx hb dX4_isSame_104 (by decide) (by omega) (fun c_104 => ?_) (fun c_104 => ?_)
        · skip
          obtain ⟨v5_109, ev5_109⟩ : ∃ v : Int, v = w9 + 1 := ⟨_, rfl⟩
          refine k_incN (v := v5_109) (lv' := [(5, .int (zI v5_109)), (0, .ref (E27.2.2 g)), (1, .ref (E27.2.2 10)), (2, .ref (E27.2.2 q0)), (3, .ref (E27.2.2 z_21)), (4, .ref (E27.2.2 q27))]) hx hb dX4_isSame_109 hl (k := 5) rfl ev5_109 (by decide) rfl (fun ls hl => ?_)
          refine lv_goto (tgt := 86) hx hb dX4_isSame_112 (by decide) ?_
          refine ih_86 v5_109 (by omega) (by omega) _ (lv_sub hl [1, 2, 3, 4, 5, 0] rfl)
        · exact absurd c_104 (by omega)
  refine lp_86 (((6 - 0 : Int)).toNat + 1) 0 (by omega) (by omega) _ (lv_sub hl [4, 5, 3, 2, 1, 0] rfl)
