abbrev rX3_grow : Room := { frames := 0, cells := 0, slots := 0, locals := 0 }
set_option maxHeartbeats 4000000 in
set_option maxRecDepth 100000 in
/-- grow: all rows of one hem more -/
theorem c_X3_grow (l : Launch) (E : kE) (hE : kInj E) (M : kM) (r g c n : Int) (N : Int → Int) (X : Int → Int → Int) (hL : kLy E M r) (hg : 0 ≤ g ∧ g < 2) (hc : kArr E M c n) (hcr : 11 ≤ c ∧ c < r) (hn2 : 0 ≤ n ∧ n ≤ 40 ∧ N g = n) (hcv : ∀ j : Int, 0 ≤ j → j < n → M c j = X g j ∧ 0 ≤ X g j ∧ X g j ≤ 8) (hT : ∃ wd : Int → Int → Int, kTw X N M r wd g 0 0) (hK0 : M r 5 ≤ 1 + 820 * g) : kRV l yX3_grow wsX3_grow rX3_grow E M [.ref (E.2.2 r), .int (zI g), .ref (E.2.2 c)] (fun M1 => (∃ wd : Int → Int → Int, kTw X N M1 r wd (g + 1) 0 0) ∧ kLy E M1 r ∧ M1 r 5 ≤ 1 + 820 * (g + 1) ∧ ∀ k i : Int, k < r ∨ r + 11 < k → M1 k i = M k i) := by
  refine kRV_of (cc := cX3_grow) (maxL := 7) RX3 (by decide) rfl rfl (Nat.le_of_ble_eq_true rfl) ?_
  intro pg en s0 mi ar bl me co ls Q S hP hS hK ends hl
  have hx := S.1
  have hb := S.2.1
  have hn := hK.2.2.2
  have hinX30 : ∀ w ∈ wsX30, w ∈ wsX3_grow := fun w h => List.mem_cons_of_mem _ (List.mem_append_right _ (h))
  have hl : lv_has ls 7 [(0, .ref (E.2.2 r)), (1, .int (zI g)), (2, .ref (E.2.2 c))] := hl
  obtain ⟨wd0, hT⟩ := hT
  have hF : ∀ k i : Int, k < r ∨ r + 11 < k → M k i = M k i := fun k i _ => rfl
  obtain ⟨r1, r2, r3⟩ := hL.1
  refine k_push hx hb dX3_grow_0 ?_
  refine lv_istore_n (lv' := [(3, .int (zI 0)), (0, .ref (E.2.2 r)), (1, .int (zI g)), (2, .ref (E.2.2 c))]) hx hb dX3_grow_1 rfl hl (by decide) rfl (fun ls hl => ?_)
  have lp_2 : ∀ (n_2 : Nat) (p : Int) (wd : Int → Int → Int) (M_2 : kM) (H : Heap) (locs : List Loc), (0 ≤ p ∧ p ≤ n) → (kLy E M_2 r) → (kTw X N M_2 r wd g p 0) → (M_2 r 5 ≤ 1 + 820 * g + kSum (fun q => n - q) p.toNat) → (∀ k i : Int, k < r ∨ r + 11 < k → M_2 k i = M k i) → (n - p < (n_2 : Int)) → va_P E.1 vwCl (kW E M_2) H → va_S (kA E s0.heap.size) s0.heap H locs → ∀ ls : Array Slot, lv_has ls 7 [(0, .ref (E.2.2 r)), (1, .int (zI g)), (2, .ref (E.2.2 c)), (3, .int (zI p))] → W pg l en rX3_grow s0 mi ar bl me co H locs 0 0 Q (F0 mi 2 ls []) := by
    intro n_2
    induction n_2 with
    | zero => intro p wd M_2 H locs h1 hL hT hB hF hm_2; exfalso; omega
    | succ n_2 ih_2 =>
      intro p wd M_2 H locs h1 hL hT hB hF hm_2 hP hS ls hl
      refine lv_iload_n hx hb dX3_grow_2 rfl (lv_at hl 3 rfl) ?_
      refine lv_aload_n hx hb dX3_grow_3 rfl (lv_at hl 2 rfl) ?_
      refine k_alen S hK hP (n) (by exact kArr_fr hc (fun i => hF c i (Or.inl (by omega)))) dX3_grow_4 ?_
      refine k_ge (tgt := 150) hx hb dX3_grow_5 (by decide) (by omega) (fun c_5 => ?_) (fun c_5 => ?_)
      · skip
        refine ends _ _ M_2 _ _ dX3_grow_150 hP hS ?_
        exact ⟨⟨wd, kTw_hem (by rw [hn2.2.2, ← show p = n by omega]; exact hT)⟩, hL, by have ks := (kTri (n := n) (by omega) p.toNat (by omega)).1; omega, hF⟩
      · skip
        refine k_push hx hb dX3_grow_8 ?_
        refine lv_istore (lv' := [(4, .int (zI 0)), (0, .ref (E.2.2 r)), (1, .int (zI g)), (2, .ref (E.2.2 c)), (3, .int (zI p))]) hx hb dX3_grow_9 hl (by decide) rfl (fun ls hl => ?_)
        refine lv_iload_n hx hb dX3_grow_11 rfl (lv_at hl 4 rfl) ?_
        refine lv_istore (lv' := [(5, .int (zI p)), (4, .int (zI 0)), (0, .ref (E.2.2 r)), (1, .int (zI g)), (2, .ref (E.2.2 c)), (3, .int (zI p))]) hx hb dX3_grow_12 hl (by decide) rfl (fun ls hl => ?_)
        have lp_14 : ∀ (n_14 : Nat) (v : Int) (k : Int) (wd : Int → Int → Int) (M_14 : kM) (H : Heap) (locs : List Loc), (p ≤ k ∧ k ≤ n) → (kLy E M_14 r) → (kTw X N M_14 r wd g p (k - p)) → (M_14 r 5 ≤ 1 + 820 * g + kSum (fun q => n - q) p.toNat + (k - p)) → (∀ k i : Int, k < r ∨ r + 11 < k → M_14 k i = M k i) → (0 ≤ v) → (v < M_14 r 5) → (M_14 (r + 2) v = k - p) → (kEq (X g) p (wd v) 0 (k - p)) → (n - k < (n_14 : Int)) → va_P E.1 vwCl (kW E M_14) H → va_S (kA E s0.heap.size) s0.heap H locs → ∀ ls : Array Slot, lv_has ls 7 [(0, .ref (E.2.2 r)), (1, .int (zI g)), (2, .ref (E.2.2 c)), (3, .int (zI p)), (4, .int (zI v)), (5, .int (zI k))] → W pg l en rX3_grow s0 mi ar bl me co H locs 0 0 Q (F0 mi 14 ls []) := by
          intro n_14
          induction n_14 with
          | zero => intro v k wd M_14 H locs h2 hL hT hB hF hv1 hv2 hv3 hv4 hm_14; exfalso; omega
          | succ n_14 ih_14 =>
            intro v k wd M_14 H locs h2 hL hT hB hF hv1 hv2 hv3 hv4 hm_14 hP hS ls hl
            have hT2 := kTw_K hT
            have ks := kTri (n := n) (by omega) (p + 1).toNat (by omega)
            rw [kSum_step _ h1.1] at ks
            have ks2 : kSum (fun q => n - q) p.toNat + (n - p) ≤ 820 := ks.1
            refine lv_iload hx hb dX3_grow_14 (lv_at hl 5 rfl) ?_
            refine lv_aload_n hx hb dX3_grow_16 rfl (lv_at hl 2 rfl) ?_
            refine k_alen S hK hP (n) (by exact kArr_fr hc (fun i => hF c i (Or.inl (by omega)))) dX3_grow_17 ?_
            refine k_ge (tgt := 132) hx hb dX3_grow_18 (by decide) (by omega) (fun c_18 => ?_) (fun c_18 => ?_)
            · skip
              refine lv_aload_n hx hb dX3_grow_132 rfl (lv_at hl 0 rfl) ?_
              refine k_rowsR S hK hP hinX30 4 (by decide) (by decide) (S.2.2.2.2 _ (List.mem_cons_of_mem _ (List.mem_append_left _ (List.mem_of_getElem? (i := 5) rfl)))) dX3_grow_133 ⟨hL.1.1, by have := hL.1.2.1; omega, hL.1.2.2⟩ (a := E.2.2 (r + 9)) (hL.fld 9 (by unfold kRfd; omega) (by omega)) rfl ?_
              refine lv_iload_n hx hb dX3_grow_136 rfl (lv_at hl 1 rfl) ?_
              refine k_aald S hK hP 2 (hL.grp 9 (by unfold kRgp; omega) (by omega)) (by omega) (a := E.2.2 (r + 10 + g)) (hL.row 9 (by unfold kRgp; omega) (by omega) (by omega) (by omega)) dX3_grow_137 ?_
              refine lv_iload hx hb dX3_grow_138 (lv_at hl 4 rfl) ?_
              refine lv_iload_n hx hb dX3_grow_140 rfl (lv_at hl 3 rfl) ?_
              refine k_push hx hb dX3_grow_141 ?_
              refine k_add hx hb dX3_grow_142 ?_
              refine k_ast S hK hE hP hS (1700) (hL.arr (10 + g) 1700 (by unfold kRof; omega) (by omega)) (by omega) dX3_grow_143 (fun H locs hP hS => ?_)
              obtain ⟨M143, eM143⟩ : ∃ N9 : kM, N9 = kU M_14 (r + 10 + g) v (p + 1) := ⟨_, rfl⟩
              rw [← eM143] at hP
              have hL := hL.put eM143 (by omega) (10 + g) 1700 (by unfold kRof; omega) (by omega)
              obtain ⟨v3_144, ev3_144⟩ : ∃ v : Int, v = p + 1 := ⟨_, rfl⟩
              refine k_incN (v := v3_144) (lv' := [(3, .int (zI v3_144)), (0, .ref (E.2.2 r)), (1, .int (zI g)), (2, .ref (E.2.2 c)), (4, .int (zI v)), (5, .int (zI k))]) hx hb dX3_grow_144 hl (k := 3) rfl ev3_144 (by decide) rfl (fun ls hl => ?_)
              refine lv_goto (tgt := 2) hx hb dX3_grow_147 (by decide) ?_
              refine ih_2 v3_144 wd M143 _ _ (by omega) (by exact hL) ?_ ?_ ?_ (by omega) hP hS _ (lv_sub hl [1, 2, 3, 0] rfl)
              · rw [ev3_144]
                exact kTw_end (by rw [hn2.2.2, ← show k - p = n - p by omega]; exact hT) hg ⟨hv1, hv2⟩ h1.1 (by omega) (by rw [hn2.2.2, ← show k - p = n - p by omega]; exact hv4) eM143
              · rw [ev3_144, kSum_step _ h1.1, eM143, kU_cell (by omega)]
                show _ ≤ 1 + 820 * g + (kSum (fun q => n - q) p.toNat + (n - p))
                omega
              · intro k2 i hk
                rw [eM143, kU_cell (by omega)]
                exact hF k2 i hk
            · skip
              refine k_bpush hx hb dX3_grow_21 (by decide) ?_
              refine lv_iload hx hb dX3_grow_23 (lv_at hl 4 rfl) ?_
              refine k_mul hx hb dX3_grow_25 ?_
              refine lv_aload_n hx hb dX3_grow_26 rfl (lv_at hl 2 rfl) ?_
              refine lv_iload hx hb dX3_grow_27 (lv_at hl 5 rfl) ?_
              refine k_ald S hK hP (n) (by exact kArr_fr hc (fun i => hF c i (Or.inl (by omega)))) (by omega) dX3_grow_29 ?_
              have hs31 := hcv k (by omega) (by omega)
              have hf31 := hF c k (Or.inl (by omega))
              refine k_add hx hb dX3_grow_30 ?_
              refine k_nm (fun v6_31 ev6_31 => ?_)
              refine lv_istore (lv' := [(6, .int (zI v6_31)), (0, .ref (E.2.2 r)), (1, .int (zI g)), (2, .ref (E.2.2 c)), (3, .int (zI p)), (4, .int (zI v)), (5, .int (zI k))]) hx hb dX3_grow_31 hl (by decide) rfl (fun ls hl => ?_)
              have jn_82 : ∀  (wd : Int → Int → Int) (M_82 : kM) (H : Heap) (locs : List Loc), (kLy E M_82 r) → (kTw X N M_82 r wd g p (k - p)) → (M_82 r 5 ≤ 1 + 820 * g + kSum (fun q => n - q) p.toNat + (k - p) + 1) → (∀ k i : Int, k < r ∨ r + 11 < k → M_82 k i = M k i) → (1 ≤ M_82 (r + 1) v6_31) → (M_82 (r + 1) v6_31 < M_82 r 5) → (M_82 (r + 2) (M_82 (r + 1) v6_31) = k - p + 1) → (kEq (X g) p (wd (M_82 (r + 1) v6_31)) 0 (k - p + 1)) → va_P E.1 vwCl (kW E M_82) H → va_S (kA E s0.heap.size) s0.heap H locs → ∀ ls : Array Slot, lv_has ls 7 [(0, .ref (E.2.2 r)), (1, .int (zI g)), (2, .ref (E.2.2 c)), (3, .int (zI p)), (4, .int (zI v)), (5, .int (zI k)), (6, .int (zI v6_31))] → W pg l en rX3_grow s0 mi ar bl me co H locs 0 0 Q (F0 mi 82 ls []) := by
                intro wd M_82 H locs hL hT hB hF hq1 hq2 hq3 hq4 hP hS ls hl
                refine lv_aload_n hx hb dX3_grow_82 rfl (lv_at hl 0 rfl) ?_
                refine k_rowsR S hK hP hinX30 0 (by decide) (by decide) (S.2.2.2.2 _ (List.mem_cons_of_mem _ (List.mem_append_left _ (List.mem_of_getElem? (i := 0) rfl)))) dX3_grow_83 ⟨hL.1.1, by have := hL.1.2.1; omega, hL.1.2.2⟩ (a := E.2.2 (r + 1)) (hL.fld 1 (by unfold kRfd; omega) (by omega)) rfl ?_
                refine lv_iload hx hb dX3_grow_86 (lv_at hl 6 rfl) ?_
                refine k_ald S hK hP (15300) (hL.arr (1) 15300 (by unfold kRof; omega) (by omega)) (by omega) dX3_grow_88 ?_
                refine k_nm (fun v4_89 ev4_89 => ?_)
                refine lv_istore (lv' := [(4, .int (zI v4_89)), (0, .ref (E.2.2 r)), (1, .int (zI g)), (2, .ref (E.2.2 c)), (3, .int (zI p)), (5, .int (zI k)), (6, .int (zI v6_31))]) hx hb dX3_grow_89 hl (by decide) rfl (fun ls hl => ?_)
                rw [← ev4_89] at hq1 hq2 hq3 hq4
                have jn_113 : ∀  (M_113 : kM) (H : Heap) (locs : List Loc), (kLy E M_113 r) → (∀ k i : Int, k ≠ r + 7 + g → M_113 k i = M_82 k i) → (∀ i : Int, M_113 (r + 7 + g) i = if i = v4_89 ∧ M_82 (r + 4 + g) v4_89 = 0 then p else M_82 (r + 7 + g) i) → va_P E.1 vwCl (kW E M_113) H → va_S (kA E s0.heap.size) s0.heap H locs → ∀ ls : Array Slot, lv_has ls 7 [(0, .ref (E.2.2 r)), (1, .int (zI g)), (2, .ref (E.2.2 c)), (3, .int (zI p)), (4, .int (zI v4_89)), (5, .int (zI k)), (6, .int (zI v6_31))] → W pg l en rX3_grow s0 mi ar bl me co H locs 0 0 Q (F0 mi 113 ls []) := by
                  intro M_113 H locs hL hJ hJ2 hP hS ls hl
                  refine lv_aload_n hx hb dX3_grow_113 rfl (lv_at hl 0 rfl) ?_
                  refine k_rowsR S hK hP hinX30 2 (by decide) (by decide) (S.2.2.2.2 _ (List.mem_cons_of_mem _ (List.mem_append_left _ (List.mem_of_getElem? (i := 3) rfl)))) dX3_grow_114 ⟨hL.1.1, by have := hL.1.2.1; omega, hL.1.2.2⟩ (a := E.2.2 (r + 3)) (hL.fld 3 (by unfold kRfd; omega) (by omega)) rfl ?_
                  refine lv_iload_n hx hb dX3_grow_117 rfl (lv_at hl 1 rfl) ?_
                  refine k_aald S hK hP 2 (hL.grp 3 (by unfold kRgp; omega) (by omega)) (by omega) (a := E.2.2 (r + 4 + g)) (hL.row 3 (by unfold kRgp; omega) (by omega) (by omega) (by omega)) dX3_grow_118 ?_
                  refine lv_iload hx hb dX3_grow_119 (lv_at hl 4 rfl) ?_
                  refine lv_dup2_11 hx hb dX3_grow_121 rfl rfl ?_
                  refine k_ald S hK hP (1700) (hL.arr (4 + g) 1700 (by unfold kRof; omega) (by omega)) (by omega) dX3_grow_122 ?_
                  refine k_push hx hb dX3_grow_123 ?_
                  refine k_add hx hb dX3_grow_124 ?_
                  refine k_ast S hK hE hP hS (1700) (hL.arr (4 + g) 1700 (by unfold kRof; omega) (by omega)) (by omega) dX3_grow_125 (fun H locs hP hS => ?_)
                  obtain ⟨M125, eM125⟩ : ∃ N9 : kM, N9 = kU M_113 (r + 4 + g) v4_89 ((M_113 (r + 4 + g) v4_89) + 1) := ⟨_, rfl⟩
                  rw [← eM125] at hP
                  have hL := hL.put eM125 (by omega) (4 + g) 1700 (by unfold kRof; omega) (by omega)
                  have vis : kTw X N M125 r wd g p (k - p + 1) := by
                    refine kTw_visit hT hg ⟨hq1, hq2⟩ (by omega) (by omega) hq3 hq4 (fun k2 i hk => ?_) (fun q v q1 q2 => ?_) (fun q v q1 q2 => ?_)
                    · rw [eM125, kU_cell (by omega), hJ k2 i (by omega)]
                    · rw [eM125]
                      by_cases e : q = g ∧ v = v4_89
                      · rw [if_pos e, e.1, e.2, kU_same, hJ _ _ (by omega)]
                      · rw [if_neg e, kU_at, if_neg (by omega), hJ _ _ (by omega)]
                    · rw [eM125, kU_cell (by omega)]
                      by_cases e : q = g
                      · rw [e, hJ2 v]
                        by_cases e2 : v = v4_89 ∧ M_82 (r + 4 + g) v4_89 = 0
                        · rw [if_pos e2, if_pos ⟨rfl, e2⟩]
                        · rw [if_neg e2, if_neg (fun z => e2 z.2)]
                      · rw [hJ _ _ (by omega), if_neg (fun z => e z.1)]
                  obtain ⟨v5_126, ev5_126⟩ : ∃ v : Int, v = k + 1 := ⟨_, rfl⟩
                  refine k_incN (v := v5_126) (lv' := [(5, .int (zI v5_126)), (0, .ref (E.2.2 r)), (1, .int (zI g)), (2, .ref (E.2.2 c)), (3, .int (zI p)), (4, .int (zI v4_89)), (6, .int (zI v6_31))]) hx hb dX3_grow_126 hl (k := 5) rfl ev5_126 (by decide) rfl (fun ls hl => ?_)
                  refine lv_goto (tgt := 14) hx hb dX3_grow_129 (by decide) ?_
                  refine ih_14 v4_89 v5_126 wd M125 _ _ (by omega) (by exact hL) ?_ ?_ ?_ (by omega) (by rw [eM125, kU_cell (by omega), hJ r 5 (by omega)]; omega) ?_ ?_ (by omega) hP hS _ (lv_sub hl [1, 2, 3, 4, 5, 0] rfl)
                  · rw [show v5_126 - p = k - p + 1 by omega]
                    exact vis
                  · rw [eM125, kU_cell (by omega), hJ r 5 (by omega)]
                    omega
                  · intro k2 i hk
                    rw [eM125, kU_cell (by omega), hJ k2 i (by omega)]
                    exact hF k2 i hk
                  · rw [eM125, kU_cell (by omega), hJ (r + 2) _ (by omega)]
                    omega
                  · rw [show v5_126 - p = k - p + 1 by omega]
                    exact hq4
                refine lv_aload_n hx hb dX3_grow_91 rfl (lv_at hl 1 rfl) ?_
                refine k_rowsR S hK hP hinX30 2 (by decide) (by decide) (S.2.2.2.2 _ (List.mem_cons_of_mem _ (List.mem_append_left _ (List.mem_of_getElem? (i := 3) rfl)))) dX3_grow_92 ⟨hL.1.1, by have := hL.1.2.1; omega, hL.1.2.2⟩ (a := E.2.2 (r + 3)) (hL.fld 3 (by unfold kRfd; omega) (by omega)) rfl ?_
                refine lv_iload_n hx hb dX3_grow_95 rfl (lv_at hl 2 rfl) ?_
                refine k_aald S hK hP 2 (hL.grp 3 (by unfold kRgp; omega) (by omega)) (by omega) (a := E.2.2 (r + 4 + g)) (hL.row 3 (by unfold kRgp; omega) (by omega) (by omega) (by omega)) dX3_grow_96 ?_
                refine lv_iload hx hb dX3_grow_97 (lv_at hl 0 rfl) ?_
                refine k_ald S hK hP (1700) (hL.arr (4 + g) 1700 (by unfold kRof; omega) (by omega)) (by omega) dX3_grow_99 ?_
                have hmr := kTw_mn hT hg (v := v4_89) (by omega)
                refine k_ne0 (tgt := 113) hx hb dX3_grow_100 (by decide) (by omega) (fun c_100 => ?_) (fun c_100 => ?_)
                · skip
                  refine jn_113 M_82 _ _ (by exact hL) ?_ ?_ hP hS _ (lv_sub hl [1, 2, 3, 4, 0, 5, 6] rfl)
                  · first | exact fun _ _ _ => rfl | (intro k2 i hk; rw [eM112, kU_cell hk])
                  · intro i
                    first | (rw [if_neg (by omega)]) | (rw [eM112]; by_cases e : i = v4_89; rw [e, kU_same, if_pos ⟨rfl, by omega⟩]; rw [kU_place e, if_neg (fun z => e z.1)])
                · skip
                  refine lv_aload_n hx hb dX3_grow_103 rfl (lv_at hl 1 rfl) ?_
                  refine k_rowsR S hK hP hinX30 3 (by decide) (by decide) (S.2.2.2.2 _ (List.mem_cons_of_mem _ (List.mem_append_left _ (List.mem_of_getElem? (i := 4) rfl)))) dX3_grow_104 ⟨hL.1.1, by have := hL.1.2.1; omega, hL.1.2.2⟩ (a := E.2.2 (r + 6)) (hL.fld 6 (by unfold kRfd; omega) (by omega)) rfl ?_
                  refine lv_iload_n hx hb dX3_grow_107 rfl (lv_at hl 2 rfl) ?_
                  refine k_aald S hK hP 2 (hL.grp 6 (by unfold kRgp; omega) (by omega)) (by omega) (a := E.2.2 (r + 7 + g)) (hL.row 6 (by unfold kRgp; omega) (by omega) (by omega) (by omega)) dX3_grow_108 ?_
                  refine lv_iload hx hb dX3_grow_109 (lv_at hl 0 rfl) ?_
                  refine lv_iload_n hx hb dX3_grow_111 rfl (lv_at hl 4 rfl) ?_
                  refine k_ast S hK hE hP hS (1700) (hL.arr (7 + g) 1700 (by unfold kRof; omega) (by omega)) (by omega) dX3_grow_112 (fun H locs hP hS => ?_)
                  obtain ⟨M112, eM112⟩ : ∃ N9 : kM, N9 = kU M_82 (r + 7 + g) v4_89 p := ⟨_, rfl⟩
                  rw [← eM112] at hP
                  have hL := hL.put eM112 (by omega) (7 + g) 1700 (by unfold kRof; omega) (by omega)
                  refine jn_113 M112 _ _ (by exact hL) ?_ ?_ hP hS _ (lv_sub hl [1, 2, 3, 4, 0, 5, 6] rfl)
                  · first | exact fun _ _ _ => rfl | (intro k2 i hk; rw [eM112, kU_cell hk])
                  · intro i
                    first | (rw [if_neg (by omega)]) | (rw [eM112]; by_cases e : i = v4_89; rw [e, kU_same, if_pos ⟨rfl, by omega⟩]; rw [kU_place e, if_neg (fun z => e z.1)])
              refine lv_aload_n hx hb dX3_grow_33 rfl (lv_at hl 1 rfl) ?_
              refine k_rowsR S hK hP hinX30 0 (by decide) (by decide) (S.2.2.2.2 _ (List.mem_cons_of_mem _ (List.mem_append_left _ (List.mem_of_getElem? (i := 0) rfl)))) dX3_grow_34 ⟨hL.1.1, by have := hL.1.2.1; omega, hL.1.2.2⟩ (a := E.2.2 (r + 1)) (hL.fld 1 (by unfold kRfd; omega) (by omega)) rfl ?_
              have hkid := kTw_kid hT (v := v) (s := X g k) ⟨hv1, hv2⟩ hs31.2
              rw [show 9 * v + X g k = v6_31 by omega] at hkid
              refine lv_iload hx hb dX3_grow_37 (lv_at hl 0 rfl) ?_
              refine k_ald S hK hP (15300) (hL.arr (1) 15300 (by unfold kRof; omega) (by omega)) (by omega) dX3_grow_39 ?_
              have hkr : 0 ≤ M_14 (r + 1) v6_31 ∧ M_14 (r + 1) v6_31 < 2000 := by rcases hkid with q | ⟨q1, q2, -⟩ <;> omega
              refine k_ne0 (tgt := 82) hx hb dX3_grow_40 (by decide) (by omega) (fun c_40 => ?_) (fun c_40 => ?_)
              · skip
                obtain ⟨q1, q2, kid⟩ := hkid.resolve_left c_40
                have hq1 := q1
                have hq2 := q2
                have hq3 : M_14 (r + 2) (M_14 (r + 1) v6_31) = k - p + 1 := by rw [kid.1]; omega
                have hq4 : kEq (X g) p (wd (M_14 (r + 1) v6_31)) 0 (k - p + 1) := kEq_succ (kEq_tr hv4 (kEq_symm (by rw [← hv3]; exact kid.2.1))) (by rw [show p + (k - p) = k by omega, Int.zero_add, ← hv3]; exact kid.2.2.symm)
                obtain ⟨wq, hwq⟩ : ∃ w : Int → Int → Int, w = wd := ⟨wd, rfl⟩
                rw [← hwq] at hT hq4
                refine jn_82 wq M_14 _ _ (by exact hL) (by exact hT) (by omega) (by exact hF) (by omega) (by omega) (by omega) (by exact hq4) hP hS _ (lv_sub hl [1, 2, 3, 4, 5, 6, 0] rfl)
              · skip
                refine lv_aload_n hx hb dX3_grow_43 rfl (lv_at hl 1 rfl) ?_
                refine k_rowsR S hK hP hinX30 1 (by decide) (by decide) (S.2.2.2.2 _ (List.mem_cons_of_mem _ (List.mem_append_left _ (List.mem_of_getElem? (i := 1) rfl)))) dX3_grow_44 ⟨hL.1.1, by have := hL.1.2.1; omega, hL.1.2.2⟩ (a := E.2.2 (r + 2)) (hL.fld 2 (by unfold kRfd; omega) (by omega)) rfl ?_
                refine lv_aload_n hx hb dX3_grow_47 rfl (lv_at hl 1 rfl) ?_
                refine k_nodes S hK hP hinX30 (S.2.2.2.2 _ (List.mem_cons_of_mem _ (List.mem_append_left _ (List.mem_of_getElem? (i := 2) rfl)))) dX3_grow_48 ⟨hL.1.1, by have := hL.1.2.1; omega, hL.1.2.2⟩ ?_
                refine lv_aload_n hx hb dX3_grow_51 rfl (lv_at hl 1 rfl) ?_
                refine k_rowsR S hK hP hinX30 1 (by decide) (by decide) (S.2.2.2.2 _ (List.mem_cons_of_mem _ (List.mem_append_left _ (List.mem_of_getElem? (i := 1) rfl)))) dX3_grow_52 ⟨hL.1.1, by have := hL.1.2.1; omega, hL.1.2.2⟩ (a := E.2.2 (r + 2)) (hL.fld 2 (by unfold kRfd; omega) (by omega)) rfl ?_
                refine lv_iload hx hb dX3_grow_55 (lv_at hl 5 rfl) ?_
                refine k_ald S hK hP (1700) (hL.arr (2) 1700 (by unfold kRof; omega) (by omega)) (by omega) dX3_grow_57 ?_
                refine k_push hx hb dX3_grow_58 ?_
                refine k_add hx hb dX3_grow_59 ?_
                refine k_ast S hK hE hP hS (1700) (hL.arr (2) 1700 (by unfold kRof; omega) (by omega)) (by omega) dX3_grow_60 (fun H locs hP hS => ?_)
                obtain ⟨M60, eM60⟩ : ∃ N9 : kM, N9 = kU M_14 (r + 2) (M_14 r 5) ((M_14 (r + 2) v) + 1) := ⟨_, rfl⟩
                rw [← eM60] at hP
                have hL := hL.put eM60 (by omega) (2) 1700 (by unfold kRof; omega) (by omega)
                refine lv_aload_n hx hb dX3_grow_61 rfl (lv_at hl 1 rfl) ?_
                refine k_rowsR S hK hP hinX30 0 (by decide) (by decide) (S.2.2.2.2 _ (List.mem_cons_of_mem _ (List.mem_append_left _ (List.mem_of_getElem? (i := 0) rfl)))) dX3_grow_62 ⟨hL.1.1, by have := hL.1.2.1; omega, hL.1.2.2⟩ (a := E.2.2 (r + 1)) (hL.fld 1 (by unfold kRfd; omega) (by omega)) rfl ?_
                refine lv_iload hx hb dX3_grow_65 (lv_at hl 0 rfl) ?_
                refine lv_aload_n hx hb dX3_grow_67 rfl (lv_at hl 1 rfl) ?_
                refine k_nodes S hK hP hinX30 (S.2.2.2.2 _ (List.mem_cons_of_mem _ (List.mem_append_left _ (List.mem_of_getElem? (i := 2) rfl)))) dX3_grow_68 ⟨hL.1.1, by have := hL.1.2.1; omega, hL.1.2.2⟩ ?_
                refine k_ast S hK hE hP hS (15300) (hL.arr (1) 15300 (by unfold kRof; omega) (by omega)) (by omega) dX3_grow_71 (fun H locs hP hS => ?_)
                obtain ⟨M71, eM71⟩ : ∃ N9 : kM, N9 = kU M60 (r + 1) v6_31 (M60 r 5) := ⟨_, rfl⟩
                rw [← eM71] at hP
                have hL := hL.put eM71 (by omega) (1) 15300 (by unfold kRof; omega) (by omega)
                refine lv_aload_n hx hb dX3_grow_72 rfl (lv_at hl 1 rfl) ?_
                refine lv_dup hx hb dX3_grow_73 rfl ?_
                refine k_nodes S hK hP hinX30 (S.2.2.2.2 _ (List.mem_cons_of_mem _ (List.mem_append_left _ (List.mem_of_getElem? (i := 2) rfl)))) dX3_grow_74 ⟨hL.1.1, by have := hL.1.2.1; omega, hL.1.2.2⟩ ?_
                refine k_push hx hb dX3_grow_77 ?_
                refine k_add hx hb dX3_grow_78 ?_
                refine k_putnodes S hK (kG.rf hE s0.heap.size) hP hS hinX30 (S.2.2.2.2 _ (List.mem_cons_of_mem _ (List.mem_append_left _ (List.mem_of_getElem? (i := 2) rfl)))) dX3_grow_79 ⟨hL.1.1, by have := hL.1.2.1; omega, hL.1.2.2⟩ (fun H locs hP hS => ?_)
                obtain ⟨M79, eM79⟩ : ∃ N9 : kM, N9 = kU M71 r 5 ((M71 r 5) + 1) := ⟨_, rfl⟩
                rw [← eM79] at hP
                have hL := hL.nod eM79
                have e5 : M79 r 5 = M_14 r 5 + 1 := by rw [eM79, kU_same, eM71, kU_cell (by omega), eM60, kU_cell (by omega)]
                have e3 : ∀ k i : Int, r + 3 ≤ k → M79 k i = M_14 k i := fun k i hk => by rw [eM79, kU_cell (by omega), eM71, kU_cell (by omega), eM60, kU_cell (by omega)]
                have e1 : ∀ i : Int, M79 (r + 1) i = if i = 9 * v + X g k then M_14 r 5 else M_14 (r + 1) i := fun i => by
                  rw [eM79, kU_cell (by omega), eM71]
                  by_cases e : i = v6_31
                  · rw [e, kU_same, if_pos (by omega), eM60, kU_cell (by omega)]
                  · rw [kU_place e, if_neg (by omega), eM60, kU_cell (by omega)]
                have e2 : ∀ i : Int, M79 (r + 2) i = if i = M_14 r 5 then M_14 (r + 2) v + 1 else M_14 (r + 2) i := fun i => by
                  rw [eM79, kU_cell (by omega), eM71, kU_cell (by omega), eM60]
                  by_cases e : i = M_14 r 5
                  · rw [e, kU_same, if_pos rfl]
                  · rw [kU_place e, if_neg e]
                obtain ⟨wq, hT, w1, w2⟩ := kTw_new hT (s := X g k) (by omega) ⟨hv1, hv2⟩ hs31.2 (by omega) (by rw [show 9 * v + X g k = v6_31 by omega]; exact c_40) e5 e1 e2 e3
                have n1 : M79 (r + 1) v6_31 = M_14 r 5 := by rw [e1, if_pos (by omega)]
                have hq1 : 1 ≤ M79 (r + 1) v6_31 := by omega
                have hq2 : M79 (r + 1) v6_31 < M79 r 5 := by omega
                have hq3 : M79 (r + 2) (M79 (r + 1) v6_31) = k - p + 1 := by rw [n1, e2, if_pos rfl]; omega
                have hq4 : kEq (X g) p (wq (M79 (r + 1) v6_31)) 0 (k - p + 1) := by
                  rw [n1]
                  refine kEq_succ (fun t t1 t2 => (hv4 t t1 t2).trans ?_) ?_
                  · rw [Int.zero_add]; exact (w1 t t1 (by omega)).symm
                  · rw [show p + (k - p) = k by omega, Int.zero_add, ← hv3]; exact w2.symm
                have hF : ∀ k i : Int, k < r ∨ r + 11 < k → M79 k i = M k i := fun k2 i hk => by rw [eM79, kU_cell (by omega), eM71, kU_cell (by omega), eM60, kU_cell (by omega)]; exact hF k2 i hk
                refine jn_82 wq M79 _ _ (by exact hL) (by exact hT) (by omega) (by exact hF) (by omega) (by omega) (by omega) (by exact hq4) hP hS _ (lv_sub hl [1, 2, 3, 4, 5, 6, 0] rfl)
        refine lp_14 (((n - p : Int)).toNat + 1) 0 p wd M_2 _ _ (by omega) (by exact hL) (by rw [show p - p = 0 by omega]; exact hT) (by omega) (by exact hF) (by omega) (by have := kTw_K hT; omega) (by rw [hT.1.1.2]; omega) (by rw [show p - p = 0 by omega]; exact kEq_0 _ _ _ _) (by omega) hP hS _ (lv_sub hl [2, 3, 4, 5, 1, 0] rfl)
  refine lp_2 (((n - 0 : Int)).toNat + 1) 0 wd0 M _ _ (by omega) (by exact hL) (by exact hT) (by rw [kSum_0]; omega) (by exact hF) (by omega) hP hS _ (lv_sub hl [1, 2, 3, 0] rfl)
