theorem kMx_fin {x : Int → Int} {n : Int} {P : Int → Int} {k : Int} (hn : 0 ≤ n) (hk : k = n) : kMaxF (kNx x n P) (k - 1).toNat = kMaxF (kNx x n P) n.toNat := by
  by_cases e : n = 0
  · rw [hk, e]; rfl
  · have e2 := kMaxF_step (kNx x n P) (k := n - 1) (by omega)
    have e3 := (kMaxF_rng (kNx x n P) (n - 1).toNat).1
    rw [kNx_out (by omega), show n - 1 + 1 = n by omega, if_neg (by omega)] at e2
    rw [hk, e2]
theorem kMx_add {x : Int → Int} {n : Int} {P : Int → Int} {mo z k v : Int} (hk : 1 ≤ k ∧ k < n) (hmo : mo = kMaxF (kNx x n P) (k - 1).toNat) (hz : z = kL x n (P (k - 1)) x n (P k)) (hv : (mo < z ∧ v = z) ∨ (z ≤ mo ∧ v = mo)) : v = kMaxF (kNx x n P) (k + 1 - 1).toNat := by
  have e := kMaxF_step (kNx x n P) (k := k - 1) (by omega)
  rw [kNx_in (by omega), show k - 1 + 1 = k by omega, ← hz, ← hmo] at e
  rw [show k + 1 - 1 = k by omega, e]
  split <;> omega
theorem kSee_step {x : Int → Int} {n k z q9 : Int} {P : Int → Int} {A B : kM} (hO : kOrd x n P) (hk : 0 ≤ k ∧ k < n) (hz : z = P k) (hB : B = kU A q9 z 1) (h : ∀ q : Int, 0 ≤ q → q < n → ((∃ j : Int, 0 ≤ j ∧ j < k ∧ P j = q) ∧ A q9 q = 1) ∨ ((∀ j : Int, 0 ≤ j → j < k → P j ≠ q) ∧ A q9 q = 0)) : ∀ q : Int, 0 ≤ q → q < n → ((∃ j : Int, 0 ≤ j ∧ j < k + 1 ∧ P j = q) ∧ B q9 q = 1) ∨ ((∀ j : Int, 0 ≤ j → j < k + 1 → P j ≠ q) ∧ B q9 q = 0) := by
  intro q q1 q2
  by_cases e : q = z
  · exact Or.inl ⟨⟨k, hk.1, by omega, by rw [e, hz]⟩, by rw [hB, e, kU_same]⟩
  · rcases h q q1 q2 with ⟨⟨j, j1, j2, j3⟩, w⟩ | ⟨a, w⟩
    · exact Or.inl ⟨⟨j, j1, by omega, j3⟩, by rw [hB, kU_place e]; exact w⟩
    · refine Or.inr ⟨fun j j1 j2 w2 => ?_, by rw [hB, kU_place e]; exact w⟩
      by_cases f : j = k
      · rw [f, ← hz] at w2; exact e w2.symm
      · exact a j j1 (by omega) w2
set_option maxHeartbeats 4000000 in
set_option maxRecDepth 100000 in
theorem s_law_own {pg : Program} {l : Launch} {en : Env} {s0 : State} {mi : MethodId} {ar : Array Value} {bl : List Frame} {me : Method} {co : Code} {ls : Array Slot} {Q : State → Prop} {H : Heap} {locs : List Loc} {E0 E1 E : kE} {M N : kM} {g h x sum pairs time dg : Int} {y : Int → Int} {bs cells slots : Nat} (hI : kI0 M) (hV : kVs E1 E M N g y) (hh : 0 ≤ h ∧ h < 2) (S : CallFix pg mi co cL_law 23 s0 ar wsL_law RL) (hP : va_P E.1 vwCl (kW E N) H) (hK : kK E s0) (hX : kExt E0 E) (hS : va_S (kA E0 s0.heap.size) s0.heap H locs) (hG : kG (kA E0 s0.heap.size) s0.heap.size E) (hcs0 : cells + 1 ≤ 600130 ∧ slots + 40 ≤ 7301080)
    (jn_172 : ∀  (n : Int) (c : Int) (E_172 : kE) (M_172 : kM) (H : Heap) (locs : List Loc), (n = M h 1) → (11 ≤ c ∧ c < kn E_172) → (kArr E_172 M_172 c n) → (∀ j : Int, 0 ≤ j → j < n → M_172 c j = M (h + 3) j) → (kVs E1 E_172 M M_172 g y) → kExt E0 E_172 → kK E_172 s0 → kG (kA E0 s0.heap.size) s0.heap.size E_172 → va_P E_172.1 vwCl (kW E_172 M_172) H → va_S (kA E0 s0.heap.size) s0.heap H locs → ∀ ls : Array Slot, lv_has ls 23 [(0, .ref bs), (1, .ref (E_172.2.2 10)), (2, .ref (E_172.2.2 g)), (3, .int (zI time)), (4, .int (zI x)), (5, .long (lI dg)), (7, .int (zI sum)), (8, .int (zI pairs)), (9, .int (zI h)), (10, .int (zI n)), (11, .ref (E_172.2.2 c))] → W pg l en room_1 s0 mi ar bl me co H locs (cells + 1) (slots + 40) Q (F0 mi 172 ls []))
    (hl : lv_has ls 23 [(0, .ref bs), (1, .ref (E.2.2 10)), (2, .ref (E.2.2 g)), (3, .int (zI time)), (4, .int (zI x)), (5, .long (lI dg)), (7, .int (zI sum)), (8, .int (zI pairs)), (9, .int (zI h))]) : W pg l en room_1 s0 mi ar bl me co H locs cells slots Q (F0 mi 109 ls []) := by
  have hx := S.1
  have hb := S.2.1
  have hn := hK.2.2.2
  have hinX00 : ∀ w ∈ wsX00, w ∈ wsL_law := inlX0
  have hinX10 : ∀ w ∈ wsX10, w ∈ wsL_law := inlX1
  have hinX20 : ∀ w ∈ wsX20, w ∈ wsL_law := inlX2
  have hinX30 : ∀ w ∈ wsX30, w ∈ wsL_law := inlX3
  have hinX40 : ∀ w ∈ wsX40, w ∈ wsL_law := inlX4
  have hl : lv_has ls 23 [(0, .ref bs), (1, .ref (E.2.2 10)), (2, .ref (E.2.2 g)), (3, .int (zI time)), (4, .int (zI x)), (5, .long (lI dg)), (7, .int (zI sum)), (8, .int (zI pairs)), (9, .int (zI h))] := hl
  have hIN := hV.I0 hI
  have hWN := hIN.1
  have hO2 := hIN.2.1
  obtain ⟨hn0, hn1, hv⟩ := hI.1 h ⟨hh.1, by omega⟩
  have hg := hV.2.2.1.1
  have hx1 := hV.1.2.2.1
  refine lv_aload_n hx hb dL_law_109 rfl (lv_at hl 1 rfl) ?_
  refine lv_iload hx hb dL_law_110 (lv_at hl 8 rfl) ?_
  refine k_callV (As := [.int (zI h)]) (rest := []) S hK hP (c_X2_count l E N h (by assumption) (by assumption) (by omega)) (cwV 1 S.2.2.2.2 gL_law_X2_count rfl rfl rfl (by decide +kernel) ⟨Nat.le_of_ble_eq_true rfl, Nat.le_of_ble_eq_true rfl⟩) (k_rX hK hP rfl) rfl hl.1 rfl (Nat.le_of_ble_eq_true rfl) dL_law_112 ⟨by show _ ≤ (600130 : Nat); omega, by show _ ≤ (7301080 : Nat); omega⟩ (fun z_112 h_112 => ?_)
  have eC : z_112 = M h 1 := by
    have q := h_112.1
    rw [hV.fn (c := 3) (by omega), hV.fn (c := 4) (by omega), hV.fn (c := 0) (by omega), hV.fn (c := 1) (by omega), hV.fn (c := 2) (by omega)] at q
    rcases (show h = 0 ∨ h = 1 by omega) with e | e
    · subst e; exact kIsCount_one q (Or.inl ⟨rfl, rfl⟩)
    · subst e; exact kIsCount_one q (Or.inr (Or.inl ⟨rfl, rfl⟩))
  refine lv_istore (lv' := [(10, .int (zI z_112)), (0, .ref bs), (1, .ref (E.2.2 10)), (2, .ref (E.2.2 g)), (3, .int (zI time)), (4, .int (zI x)), (5, .long (lI dg)), (7, .int (zI sum)), (8, .int (zI pairs)), (9, .int (zI h))]) hx hb dL_law_115 hl (by decide) rfl (fun ls hl => ?_)
  refine lv_iload hx hb dL_law_117 (lv_at hl 0 rfl) ?_
  refine k_newA (len := z_112) S hK hG hP hS (S.2.2.2.2 _ (List.mem_append_left _ (List.mem_append_left _ (List.mem_append_left _ (List.mem_append_left _ (List.mem_append_left _ (List.mem_append_left _ (List.mem_append_left _ (List.mem_append_left _ (List.mem_append_left _ (List.mem_append_left _ (List.mem_of_getElem? (i := 3) rfl)))))))))))) (by omega) (by show _ ≤ (600130 : Nat); omega) (by show _ ≤ (7301080 : Nat); omega) dL_law_119 (fun E119 H hX119 hn119 hK hG hP hS => ?_)
  obtain ⟨M119, eM119⟩ : ∃ N9 : kM, N9 = kNw N (kn E) (kIa z_112) := ⟨_, rfl⟩
  rw [← eM119] at hP
  have hM119 : ∀ k i : Int, k < kn E → M119 k i = N k i := fun k i hk => by rw [eM119]; exact kNw_ne (by omega)
  obtain ⟨q119, eq119⟩ : ∃ q : Int, q = kn E := ⟨_, rfl⟩
  rw [← eq119] at eM119 ⊢
  have hl : lv_has ls 23 [(10, .int (zI z_112)), (0, .ref bs), (1, .ref (E119.2.2 10)), (2, .ref (E119.2.2 g)), (3, .int (zI time)), (4, .int (zI x)), (5, .long (lI dg)), (7, .int (zI sum)), (8, .int (zI pairs)), (9, .int (zI h))] := by rw [hX119.ad (c := 10) (by omega), hX119.ad (c := g) (by omega)]; exact hl
  have hX := hX.tr hX119
  refine W.widen (k := cells + 1) (n := slots + 40) (by omega) (by omega) ?_
  refine lv_astore (lv' := [(11, .ref (E119.2.2 q119)), (10, .int (zI z_112)), (0, .ref bs), (1, .ref (E119.2.2 10)), (2, .ref (E119.2.2 g)), (3, .int (zI time)), (4, .int (zI x)), (5, .long (lI dg)), (7, .int (zI sum)), (8, .int (zI pairs)), (9, .int (zI h))]) hx hb dL_law_121 hl (by decide) rfl (fun ls hl => ?_)
  refine k_push hx hb dL_law_123 ?_
  refine lv_istore (lv' := [(12, .int (zI 0)), (11, .ref (E119.2.2 q119)), (10, .int (zI z_112)), (0, .ref bs), (1, .ref (E119.2.2 10)), (2, .ref (E119.2.2 g)), (3, .int (zI time)), (4, .int (zI x)), (5, .long (lI dg)), (7, .int (zI sum)), (8, .int (zI pairs)), (9, .int (zI h))]) hx hb dL_law_124 hl (by decide) rfl (fun ls hl => ?_)
  have lp_126 : ∀ (n_126 : Nat) (i : Int) (M_126 : kM) (H : Heap) (locs : List Loc), (0 ≤ i ∧ i ≤ z_112) → (∀ k j : Int, k < q119 → M_126 k j = N k j) → (M_126 q119 (-2) = 0 ∧ M_126 q119 (-1) = z_112) → (∀ j : Int, 0 ≤ j → j < i → M_126 q119 j = M (h + 3) j) → (z_112 - i < (n_126 : Int)) → va_P E119.1 vwCl (kW E119 M_126) H → va_S (kA E0 s0.heap.size) s0.heap H locs → ∀ ls : Array Slot, lv_has ls 23 [(0, .ref bs), (1, .ref (E119.2.2 10)), (2, .ref (E119.2.2 g)), (3, .int (zI time)), (4, .int (zI x)), (5, .long (lI dg)), (7, .int (zI sum)), (8, .int (zI pairs)), (9, .int (zI h)), (10, .int (zI z_112)), (11, .ref (E119.2.2 q119)), (12, .int (zI i))] → W pg l en room_1 s0 mi ar bl me co H locs (cells + 1) (slots + 40) Q (F0 mi 126 ls []) := by
    intro n_126
    induction n_126 with
    | zero => intro i M_126 H locs h1 hM hA hav hm_126; exfalso; omega
    | succ n_126 ih_126 =>
      intro i M_126 H locs h1 hM hA hav hm_126 hP hS ls hl
      have hVx : kVs E1 E119 M M_126 g y := hV.ext hX119 (fun k j hk => hM k j (by omega))
      have ar : kArr E119 M_126 q119 z_112 := Or.inr (Or.inr ⟨by omega, by omega, hA.1, hA.2, by omega, by omega⟩)
      have hIN := hVx.I0 hI
      have hWN := hIN.1
      have hO2 := hIN.2.1
      have e3 : M_126 (h + 3) = M (h + 3) := hVx.fn (by omega)
      have e11 : M_126 h 1 = M h 1 := by rw [hVx.fn (c := h) (by omega)]
      refine lv_iload hx hb dL_law_126 (lv_at hl 11 rfl) ?_
      refine lv_iload hx hb dL_law_128 (lv_at hl 9 rfl) ?_
      refine k_ge (tgt := 172) hx hb dL_law_130 (by decide) (by omega) (fun c_130 => ?_) (fun c_130 => ?_)
      · skip
        refine jn_172 z_112 q119 E119 M_126 _ _ (by exact eC) (by omega) (by exact ar) (by exact fun j j1 j2 => hav j j1 (by omega)) (by exact hVx) hX hK hG hP hS _ (lv_sub hl [0, 1, 2, 3, 4, 5, 6, 7, 8, 9, 10] rfl)
      · skip
        refine lv_aload hx hb dL_law_133 (lv_at hl 10 rfl) ?_
        refine lv_iload hx hb dL_law_135 (lv_at hl 11 rfl) ?_
        refine lv_aload_n hx hb dL_law_137 rfl (lv_at hl 1 rfl) ?_
        refine lv_iload hx hb dL_law_138 (lv_at hl 8 rfl) ?_
        refine lv_iload hx hb dL_law_140 (lv_at hl 11 rfl) ?_
        refine k_callV (As := [.int (zI h), .int (zI i)]) (rest := [.int (zI i), .ref (E119.2.2 q119)]) S hK hP (c_X2_stitch l E119 M_126 h i (by omega) (by assumption) (by omega)) (cwV 2 S.2.2.2.2 gL_law_X2_stitch rfl rfl rfl (by decide +kernel) ⟨Nat.le_of_ble_eq_true rfl, Nat.le_of_ble_eq_true rfl⟩) (k_rX hK hP rfl) rfl hl.1 rfl (Nat.le_of_ble_eq_true rfl) dL_law_142 ⟨by show _ ≤ (600130 : Nat); omega, by show _ ≤ (7301080 : Nat); omega⟩ (fun z_142 h_142 => ?_)
        refine k_astG S hK hG hP hS (z_112) (ar) (by omega) dL_law_145 (fun H locs hP hS => ?_)
        obtain ⟨M145, eM145⟩ : ∃ N9 : kM, N9 = kU M_126 q119 i z_142 := ⟨_, rfl⟩
        rw [← eM145] at hP
        replace ar : kArr E119 M145 q119 z_112 := kArr_st ar eM145 h1.1
        have e145 : M145 q119 i = z_142 := by rw [eM145, kU_same]
        refine lv_aload hx hb dL_law_146 (lv_at hl 10 rfl) ?_
        refine lv_iload hx hb dL_law_148 (lv_at hl 11 rfl) ?_
        refine k_ald S hK hP (z_112) (ar) (by omega) dL_law_150 ?_
        refine k_lt0 (tgt := 164) hx hb dL_law_151 (by decide) (by omega) (fun c_151 => ?_) (fun c_151 => ?_)
        · exact absurd c_151 (by omega)
        · skip
          refine lv_aload hx hb dL_law_154 (lv_at hl 10 rfl) ?_
          refine lv_iload hx hb dL_law_156 (lv_at hl 11 rfl) ?_
          refine k_ald S hK hP (z_112) (ar) (by omega) dL_law_158 ?_
          refine k_bpush hx hb dL_law_159 (by decide) ?_
          refine k_le (tgt := 166) hx hb dL_law_161 (by decide) (by omega) (fun c_161 => ?_) (fun c_161 => ?_)
          · skip
            obtain ⟨v12_166, ev12_166⟩ : ∃ v : Int, v = i + 1 := ⟨_, rfl⟩
            refine k_incN (v := v12_166) (lv' := [(12, .int (zI v12_166)), (0, .ref bs), (1, .ref (E119.2.2 10)), (2, .ref (E119.2.2 g)), (3, .int (zI time)), (4, .int (zI x)), (5, .long (lI dg)), (7, .int (zI sum)), (8, .int (zI pairs)), (9, .int (zI h)), (10, .int (zI z_112)), (11, .ref (E119.2.2 q119))]) hx hb dL_law_166 hl (k := 11) rfl ev12_166 (by decide) rfl (fun ls hl => ?_)
            refine lv_goto (tgt := 126) hx hb dL_law_169 (by decide) ?_
            refine ih_126 v12_166 M145 _ _ (by omega) (by exact fun k j hk => by rw [eM145, kU_cell (by omega)]; exact hM k j hk) (by rw [eM145, kU_place (by omega), kU_place (by omega)]; exact hA) ?_ (by omega) hP hS _ (lv_sub hl [1, 2, 3, 4, 5, 6, 7, 8, 9, 10, 11, 0] rfl)
            · intro j j1 j2
              by_cases e : j = i
              · rw [e, e145, h_142.1, e3]
              · rw [eM145, kU_place e]; exact hav j j1 (by omega)
          · exact absurd c_161 (by omega)
  refine lp_126 (((z_112 - 0 : Int)).toNat + 1) 0 M119 _ _ (by omega) (by exact fun k j hk => by rw [eM119]; exact kNw_ne (by omega)) (by rw [eM119, kNw_hit]; exact ⟨rfl, rfl⟩) (by intro j j1 j2; omega) (by omega) hP hS _ (lv_sub hl [3, 4, 5, 6, 7, 8, 9, 10, 11, 2, 1, 0] rfl)
set_option maxHeartbeats 4000000 in
set_option maxRecDepth 100000 in
theorem s_law_ends {pg : Program} {l : Launch} {en : Env} {s0 : State} {mi : MethodId} {ar : Array Value} {bl : List Frame} {me : Method} {co : Code} {ls : Array Slot} {Q : State → Prop} {H : Heap} {locs : List Loc} {E0 E1 E : kE} {M N : kM} {g h n c x sum pairs time dg most shared rows : Int} {y : Int → Int} {bs cells slots : Nat} (hI : kI0 M) (hV : kVs E1 E M N g y) (hh : 0 ≤ h ∧ h < 2) (hnn : n = M h 1) (har : kArr E N c n) (hav : ∀ j : Int, 0 ≤ j → j < n → N c j = M (h + 3) j) (S : CallFix pg mi co cL_law 23 s0 ar wsL_law RL) (hP : va_P E.1 vwCl (kW E N) H) (hK : kK E s0) (hcr : 11 ≤ c ∧ c < kn E) (hX : kExt E0 E) (hS : va_S (kA E0 s0.heap.size) s0.heap H locs) (hG : kG (kA E0 s0.heap.size) s0.heap.size E) (hcs0 : cells + 1 ≤ 600130 ∧ slots + 40 ≤ 7301080)
    (jn_359 : ∀  (pr : Int) (mo : Int) (sh : Int) (E_359 : kE) (M_359 : kM) (H : Heap) (locs : List Loc), (11 ≤ c ∧ c < kn E_359) → (kArr E_359 M_359 c n) → (∀ j : Int, 0 ≤ j → j < n → M_359 c j = M (h + 3) j) → (kVs E1 E_359 M M_359 g y) → (mo = kMaxF (kNx (M (h + 3)) (M h 1) (M (8 + h))) (M h 1).toNat) → (sh = kSS M h) → (pr = pairs + kPr (M h 1)) → kExt E0 E_359 → kK E_359 s0 → kG (kA E0 s0.heap.size) s0.heap.size E_359 → va_P E_359.1 vwCl (kW E_359 M_359) H → va_S (kA E0 s0.heap.size) s0.heap H locs → ∀ ls : Array Slot, lv_has ls 23 [(0, .ref bs), (1, .ref (E_359.2.2 10)), (2, .ref (E_359.2.2 g)), (3, .int (zI time)), (4, .int (zI x)), (5, .long (lI dg)), (7, .int (zI sum)), (8, .int (zI pr)), (9, .int (zI h)), (10, .int (zI n)), (11, .ref (E_359.2.2 c)), (13, .int (zI mo)), (14, .int (zI sh))] → W pg l en room_1 s0 mi ar bl me co H locs (cells + 1) (slots + 40) Q (F0 mi 359 ls []))
    (hl : lv_has ls 23 [(0, .ref bs), (1, .ref (E.2.2 10)), (2, .ref (E.2.2 g)), (3, .int (zI time)), (4, .int (zI x)), (5, .long (lI dg)), (7, .int (zI sum)), (8, .int (zI pairs)), (9, .int (zI h)), (10, .int (zI n)), (11, .ref (E.2.2 c))]) : W pg l en room_1 s0 mi ar bl me co H locs cells slots Q (F0 mi 172 ls []) := by
  have hx := S.1
  have hb := S.2.1
  have hn := hK.2.2.2
  have hinX00 : ∀ w ∈ wsX00, w ∈ wsL_law := inlX0
  have hinX10 : ∀ w ∈ wsX10, w ∈ wsL_law := inlX1
  have hinX20 : ∀ w ∈ wsX20, w ∈ wsL_law := inlX2
  have hinX30 : ∀ w ∈ wsX30, w ∈ wsL_law := inlX3
  have hinX40 : ∀ w ∈ wsX40, w ∈ wsL_law := inlX4
  have hl : lv_has ls 23 [(0, .ref bs), (1, .ref (E.2.2 10)), (2, .ref (E.2.2 g)), (3, .int (zI time)), (4, .int (zI x)), (5, .long (lI dg)), (7, .int (zI sum)), (8, .int (zI pairs)), (9, .int (zI h)), (10, .int (zI n)), (11, .ref (E.2.2 c))] := hl
  have hs := hV.sm
  have hIN := hV.I0 hI
  have hWN := hIN.1
  have hO2 := hIN.2.1
  obtain ⟨hn0, hn1, hv⟩ := hI.1 h ⟨hh.1, by omega⟩
  rw [← hnn] at hn0 hn1 hv
  have e3 : N (h + 3) = M (h + 3) := hV.fn (by omega)
  have e11 : N h 1 = n := by rw [hV.fn (c := h) (by omega), hnn]
  have hO : kOrd (M (h + 3)) n (M (8 + h)) := by
    have q := hI.2.1 h hh
    unfold kO at q
    rw [← hnn] at q
    exact q
  have hvN : ∀ j : Int, 0 ≤ j → j < n → 0 ≤ N c j ∧ N c j ≤ 8 := fun j j1 j2 => by rw [hav j j1 j2]; exact hv j j1 j2
  have lcx : ∀ a b z : Int, 0 ≤ a → 0 ≤ b → kLC (N c) n a (N c) n b z → kLC (M (h + 3)) n a (M (h + 3)) n b z := fun a b z a1 b1 q => kLC_congr q a1 b1 (fun j j1 j2 => (hav j j1 j2).symm) (fun j j1 j2 => (hav j j1 j2).symm)
  have hg := hV.2.2.1.1
  have hx1 := hV.1.2.2.1
  refine lv_iload hx hb dL_law_172 (lv_at hl 9 rfl) ?_
  refine k_newZ (len := n) S hK hG hP hS (S.2.2.2.2 _ (List.mem_append_left _ (List.mem_append_left _ (List.mem_append_left _ (List.mem_append_left _ (List.mem_append_left _ (List.mem_append_left _ (List.mem_append_left _ (List.mem_append_left _ (List.mem_append_left _ (List.mem_append_left _ (List.mem_of_getElem? (i := 4) rfl)))))))))))) (by omega) (by show _ ≤ (600130 : Nat); omega) (by show _ ≤ (7301080 : Nat); omega) dL_law_174 (fun E174 H hX174 hn174 hK hG hP hS => ?_)
  obtain ⟨M174, eM174⟩ : ∃ N9 : kM, N9 = kNw N (kn E) (kZa n) := ⟨_, rfl⟩
  rw [← eM174] at hP
  have hM174 : ∀ k i : Int, k < kn E → M174 k i = N k i := fun k i hk => by rw [eM174]; exact kNw_ne (by omega)
  obtain ⟨q174, eq174⟩ : ∃ q : Int, q = kn E := ⟨_, rfl⟩
  rw [← eq174] at eM174 ⊢
  have hl : lv_has ls 23 [(0, .ref bs), (1, .ref (E174.2.2 10)), (2, .ref (E174.2.2 g)), (3, .int (zI time)), (4, .int (zI x)), (5, .long (lI dg)), (7, .int (zI sum)), (8, .int (zI pairs)), (9, .int (zI h)), (10, .int (zI n)), (11, .ref (E174.2.2 c))] := by rw [hX174.ad (c := 10) (by omega), hX174.ad (c := g) (by omega), hX174.ad (c := c) (by omega)]; exact hl
  have hX := hX.tr hX174
  refine W.widen (k := cells + 1) (n := slots + 40) (by omega) (by omega) ?_
  refine lv_astore (lv' := [(12, .ref (E174.2.2 q174)), (0, .ref bs), (1, .ref (E174.2.2 10)), (2, .ref (E174.2.2 g)), (3, .int (zI time)), (4, .int (zI x)), (5, .long (lI dg)), (7, .int (zI sum)), (8, .int (zI pairs)), (9, .int (zI h)), (10, .int (zI n)), (11, .ref (E174.2.2 c))]) hx hb dL_law_176 hl (by decide) rfl (fun ls hl => ?_)
  refine k_push hx hb dL_law_178 ?_
  refine lv_istore (lv' := [(13, .int (zI 0)), (12, .ref (E174.2.2 q174)), (0, .ref bs), (1, .ref (E174.2.2 10)), (2, .ref (E174.2.2 g)), (3, .int (zI time)), (4, .int (zI x)), (5, .long (lI dg)), (7, .int (zI sum)), (8, .int (zI pairs)), (9, .int (zI h)), (10, .int (zI n)), (11, .ref (E174.2.2 c))]) hx hb dL_law_179 hl (by decide) rfl (fun ls hl => ?_)
  refine k_push hx hb dL_law_181 ?_
  refine lv_istore (lv' := [(14, .int (zI 0)), (13, .int (zI 0)), (12, .ref (E174.2.2 q174)), (0, .ref bs), (1, .ref (E174.2.2 10)), (2, .ref (E174.2.2 g)), (3, .int (zI time)), (4, .int (zI x)), (5, .long (lI dg)), (7, .int (zI sum)), (8, .int (zI pairs)), (9, .int (zI h)), (10, .int (zI n)), (11, .ref (E174.2.2 c))]) hx hb dL_law_182 hl (by decide) rfl (fun ls hl => ?_)
  refine k_push hx hb dL_law_184 ?_
  refine lv_istore (lv' := [(15, .int (zI 0)), (14, .int (zI 0)), (13, .int (zI 0)), (12, .ref (E174.2.2 q174)), (0, .ref bs), (1, .ref (E174.2.2 10)), (2, .ref (E174.2.2 g)), (3, .int (zI time)), (4, .int (zI x)), (5, .long (lI dg)), (7, .int (zI sum)), (8, .int (zI pairs)), (9, .int (zI h)), (10, .int (zI n)), (11, .ref (E174.2.2 c))]) hx hb dL_law_185 hl (by decide) rfl (fun ls hl => ?_)
  have lp_187 : ∀ (n_187 : Nat) (pr : Int) (mo : Int) (sh : Int) (k : Int) (M_187 : kM) (H : Heap) (locs : List Loc), (0 ≤ k ∧ k ≤ n) → (0 ≤ mo ∧ mo ≤ 40) → (∀ k2 j : Int, k2 < q174 → M_187 k2 j = N k2 j) → (M_187 q174 (-2) = 1 ∧ M_187 q174 (-1) = n) → (∀ q : Int, 0 ≤ q → q < n → ((∃ j : Int, 0 ≤ j ∧ j < k ∧ M (8 + h) j = q) ∧ M_187 q174 q = 1) ∨ ((∀ j : Int, 0 ≤ j → j < k → M (8 + h) j ≠ q) ∧ M_187 q174 q = 0)) → (mo = kMaxF (kNx (M (h + 3)) n (M (8 + h))) (k - 1).toNat) → (sh = 0 + kSum (kNx (M (h + 3)) n (M (8 + h))) (k - 1).toNat) → (pr = pairs + kPr k) → (n - k < (n_187 : Int)) → va_P E174.1 vwCl (kW E174 M_187) H → va_S (kA E0 s0.heap.size) s0.heap H locs → ∀ ls : Array Slot, lv_has ls 23 [(0, .ref bs), (1, .ref (E174.2.2 10)), (2, .ref (E174.2.2 g)), (3, .int (zI time)), (4, .int (zI x)), (5, .long (lI dg)), (7, .int (zI sum)), (8, .int (zI pr)), (9, .int (zI h)), (10, .int (zI n)), (11, .ref (E174.2.2 c)), (12, .ref (E174.2.2 q174)), (13, .int (zI mo)), (14, .int (zI sh)), (15, .int (zI k))] → W pg l en room_1 s0 mi ar bl me co H locs (cells + 1) (slots + 40) Q (F0 mi 187 ls []) := by
    intro n_187
    induction n_187 with
    | zero => intro pr mo sh k M_187 H locs h1 hmr hM hA hsee hmo hsh hpr hm_187; exfalso; omega
    | succ n_187 ih_187 =>
      intro pr mo sh k M_187 H locs h1 hmr hM hA hsee hmo hsh hpr hm_187 hP hS ls hl
      have hVx : kVs E1 E174 M M_187 g y := hV.ext hX174 (fun k2 j hk => hM k2 j (by omega))
      have arz : kArZ E174 M_187 q174 n := ⟨by omega, by omega, hA.1, hA.2, by omega, by omega⟩
      have har2 : kArr E174 M_187 c n := kArr_ext hX174 (fun k2 j hk => hM k2 j (by omega)) har
      have hav2 : ∀ j : Int, 0 ≤ j → j < n → M_187 c j = M (h + 3) j := fun j j1 j2 => by rw [hM c j (by omega)]; exact hav j j1 j2
      have hIN := hVx.I0 hI
      have hWN := hIN.1
      have hO2 := hIN.2.1
      have e3 : M_187 (h + 3) = M (h + 3) := hVx.fn (by omega)
      have e11 : M_187 h 1 = M h 1 := by rw [hVx.fn (c := h) (by omega)]
      rw [← hnn] at e11
      refine lv_iload hx hb dL_law_187 (lv_at hl 14 rfl) ?_
      refine lv_iload hx hb dL_law_189 (lv_at hl 9 rfl) ?_
      refine k_ge (tgt := 359) hx hb dL_law_191 (by decide) (by omega) (fun c_191 => ?_) (fun c_191 => ?_)
      · skip
        refine jn_359 pr mo sh E174 M_187 _ _ (by omega) (by exact har2) (by exact hav2) (by exact hVx) ?_ ?_ ?_ hX hK hG hP hS _ (lv_sub hl [0, 1, 2, 3, 4, 5, 6, 7, 8, 9, 10, 12, 13] rfl)
        · rw [hmo, ← hnn]; exact kMx_fin hn0 (by omega)
        · rw [hsh, kNx_fin hn0 (by omega), hnn, Int.zero_add]; rfl
        · rw [hpr, show k = M h 1 by omega]
      · skip
        refine lv_aload_n hx hb dL_law_194 rfl (lv_at hl 1 rfl) ?_
        refine lv_iload hx hb dL_law_195 (lv_at hl 8 rfl) ?_
        refine lv_iload hx hb dL_law_197 (lv_at hl 14 rfl) ?_
        refine k_callV (As := [.int (zI h), .int (zI k)]) (rest := []) S hK hP (c_X2_end l E174 M_187 h k (by omega) (by assumption) (by assumption) (by omega)) (cwV 2 S.2.2.2.2 gL_law_X2_end rfl rfl rfl (by decide +kernel) ⟨Nat.le_of_ble_eq_true rfl, Nat.le_of_ble_eq_true rfl⟩) (k_rX hK hP rfl) rfl hl.1 rfl (Nat.le_of_ble_eq_true rfl) dL_law_199 ⟨by show _ ≤ (600130 : Nat); omega, by show _ ≤ (7301080 : Nat); omega⟩ (fun z_199 h_199 => ?_)
        have e199 : z_199 = M (8 + h) k := by
          have q := h_199.1
          rw [e3, e11] at q
          have p := hO.1 k h1.1 (by omega)
          exact kIsEnd_one q ⟨p.1, p.2, kOrd_at hO ⟨h1.1, by omega⟩⟩
        refine lv_istore (lv' := [(16, .int (zI z_199)), (0, .ref bs), (1, .ref (E174.2.2 10)), (2, .ref (E174.2.2 g)), (3, .int (zI time)), (4, .int (zI x)), (5, .long (lI dg)), (7, .int (zI sum)), (8, .int (zI pr)), (9, .int (zI h)), (10, .int (zI n)), (11, .ref (E174.2.2 c)), (12, .ref (E174.2.2 q174)), (13, .int (zI mo)), (14, .int (zI sh)), (15, .int (zI k))]) hx hb dL_law_202 hl (by decide) rfl (fun ls hl => ?_)
        have p1 := hO.1 k h1.1 (by omega)
        rw [← e199] at p1
        refine lv_iload hx hb dL_law_204 (lv_at hl 0 rfl) ?_
        refine k_lt0 (tgt := 237) hx hb dL_law_206 (by decide) (by omega) (fun c_206 => ?_) (fun c_206 => ?_)
        · exact absurd c_206 (by omega)
        · skip
          refine lv_iload hx hb dL_law_209 (lv_at hl 0 rfl) ?_
          refine lv_iload hx hb dL_law_211 (lv_at hl 10 rfl) ?_
          refine k_ge (tgt := 237) hx hb dL_law_213 (by decide) (by omega) (fun c_213 => ?_) (fun c_213 => ?_)
          · exact absurd c_213 (by omega)
          · skip
            refine lv_aload hx hb dL_law_216 (lv_at hl 12 rfl) ?_
            refine lv_iload hx hb dL_law_218 (lv_at hl 0 rfl) ?_
            have s220 : M_187 q174 z_199 = 0 := by
              rcases hsee z_199 p1.1 p1.2 with ⟨⟨j, j1, j2, j3⟩, -⟩ | ⟨-, q⟩
              · have a1 := kOrd_at hO (r := j) ⟨j1, by omega⟩
                have a2 := kOrd_at hO (r := k) ⟨h1.1, by omega⟩
                rw [j3] at a1
                rw [← e199] at a2
                omega
              · exact q
            refine k_zald S hK hP (n) (arz) (by omega) dL_law_220 ?_
            refine k_ne0 (tgt := 237) hx hb dL_law_221 (by decide) (by omega) (fun c_221 => ?_) (fun c_221 => ?_)
            · exact absurd c_221 (by omega)
            · skip
              refine lv_aload_n hx hb dL_law_224 rfl (lv_at hl 2 rfl) ?_
              refine lv_iload hx hb dL_law_225 (lv_at hl 9 rfl) ?_
              refine lv_iload hx hb dL_law_227 (lv_at hl 0 rfl) ?_
              refine k_callV (As := [.int (zI h), .int (zI z_199)]) (rest := []) S hK hP (c_X2_rank l E174 M_187 h z_199 (by omega) (by assumption) (by assumption) (by omega)) (cwV 2 S.2.2.2.2 gL_law_X2_rank rfl rfl rfl (by decide +kernel) ⟨Nat.le_of_ble_eq_true rfl, Nat.le_of_ble_eq_true rfl⟩) (k_rX hK hP rfl) rfl hl.1 rfl (Nat.le_of_ble_eq_true rfl) dL_law_229 ⟨by show _ ≤ (600130 : Nat); omega, by show _ ≤ (7301080 : Nat); omega⟩ (fun z_229 h_229 => ?_)
              have e229 : z_229 = k := by
                have q := h_229.1
                rw [e3, e11, e199] at q
                rw [q]; exact kOrd_at hO ⟨h1.1, by omega⟩
              refine lv_iload hx hb dL_law_232 (lv_at hl 15 rfl) ?_
              refine k_eq (tgt := 239) hx hb dL_law_234 (by decide) (by omega) (fun c_234 => ?_) (fun c_234 => ?_)
              · skip
                refine lv_aload hx hb dL_law_239 (lv_at hl 12 rfl) ?_
                refine lv_iload hx hb dL_law_241 (lv_at hl 0 rfl) ?_
                refine k_push hx hb dL_law_243 ?_
                refine k_zast S hK hG hP hS (n) (arz) (by omega) (by omega) dL_law_244 (fun H locs hP hS => ?_)
                obtain ⟨M244, eM244⟩ : ∃ N9 : kM, N9 = kU M_187 q174 z_199 1 := ⟨_, rfl⟩
                rw [← eM244] at hP
                have hVx : kVs E1 E174 M M244 g y := hVx.st (fun k2 j hk => by rw [eM244, kU_cell (by omega)])
                have har2 : kArr E174 M244 c n := kArr_fr har2 (fun j => by rw [eM244, kU_cell (by omega)])
                have hav2 : ∀ j : Int, 0 ≤ j → j < n → M244 c j = M (h + 3) j := fun j j1 j2 => by rw [eM244, kU_cell (by omega)]; exact hav2 j j1 j2
                have hvN2 : ∀ j : Int, 0 ≤ j → j < n → 0 ≤ M244 c j ∧ M244 c j ≤ 8 := fun j j1 j2 => by rw [hav2 j j1 j2]; exact hv j j1 j2
                have hIN := hVx.I0 hI
                have hWN := hIN.1
                have hO2 := hIN.2.1
                have e3 : M244 (h + 3) = M (h + 3) := hVx.fn (by omega)
                have e11 : M244 h 1 = M h 1 := by rw [hVx.fn (c := h) (by omega)]
                rw [← hnn] at e11
                refine lv_iload hx hb dL_law_245 (lv_at hl 15 rfl) ?_
                refine k_ne0 (tgt := 253) hx hb dL_law_247 (by decide) (by omega) (fun c_247 => ?_) (fun c_247 => ?_)
                · skip
                  refine lv_aload_n hx hb dL_law_253 rfl (lv_at hl 2 rfl) ?_
                  refine lv_iload hx hb dL_law_254 (lv_at hl 9 rfl) ?_
                  refine lv_iload hx hb dL_law_256 (lv_at hl 15 rfl) ?_
                  refine k_push hx hb dL_law_258 ?_
                  refine k_sub hx hb dL_law_259 ?_
                  refine k_callV (As := [.int (zI h), .int (zI (k - 1))]) (rest := []) S hK hP (c_X2_end l E174 M244 h (k - 1) (by omega) (by assumption) (by assumption) (by omega)) (cwV 2 S.2.2.2.2 gL_law_X2_end rfl rfl rfl (by decide +kernel) ⟨Nat.le_of_ble_eq_true rfl, Nat.le_of_ble_eq_true rfl⟩) (k_rX hK hP rfl) rfl hl.1 rfl (Nat.le_of_ble_eq_true rfl) dL_law_260 ⟨by show _ ≤ (600130 : Nat); omega, by show _ ≤ (7301080 : Nat); omega⟩ (fun z_260 h_260 => ?_)
                  have e260 : z_260 = M (8 + h) (k - 1) := by
                    have q := h_260.1
                    rw [e3, e11] at q
                    have p := hO.1 (k - 1) (by omega) (by omega)
                    exact kIsEnd_one q ⟨p.1, p.2, kOrd_at hO ⟨by omega, by omega⟩⟩
                  have p0 := hO.1 (k - 1) (by omega) (by omega)
                  rw [← e260] at p0
                  refine lv_istore (lv' := [(17, .int (zI z_260)), (16, .int (zI z_199)), (0, .ref bs), (1, .ref (E174.2.2 10)), (2, .ref (E174.2.2 g)), (3, .int (zI time)), (4, .int (zI x)), (5, .long (lI dg)), (7, .int (zI sum)), (8, .int (zI pr)), (9, .int (zI h)), (10, .int (zI n)), (11, .ref (E174.2.2 c)), (12, .ref (E174.2.2 q174)), (13, .int (zI mo)), (14, .int (zI sh)), (15, .int (zI k))]) hx hb dL_law_263 hl (by decide) rfl (fun ls hl => ?_)
                  refine lv_aload_n hx hb dL_law_265 rfl (lv_at hl 3 rfl) ?_
                  refine lv_iload hx hb dL_law_266 (lv_at hl 10 rfl) ?_
                  refine lv_iload hx hb dL_law_268 (lv_at hl 0 rfl) ?_
                  refine lv_iload hx hb dL_law_270 (lv_at hl 1 rfl) ?_
                  refine k_callV (As := [.int (zI h), .int (zI z_260), .int (zI z_199)]) (rest := []) S hK hP (c_X2_common l E174 M244 h z_260 z_199 (by omega) (by assumption) (by omega)) (cwV 3 S.2.2.2.2 gL_law_X2_common rfl rfl rfl (by decide +kernel) ⟨Nat.le_of_ble_eq_true rfl, Nat.le_of_ble_eq_true rfl⟩) (k_rX hK hP rfl) rfl hl.1 rfl (Nat.le_of_ble_eq_true rfl) dL_law_272 ⟨by show _ ≤ (600130 : Nat); omega, by show _ ≤ (7301080 : Nat); omega⟩ (fun z_272 h_272 => ?_)
                  have hz : z_272 = kL (M (h + 3)) n (M (8 + h) (k - 1)) (M (h + 3)) n (M (8 + h) k) := by
                    have q := h_272.1
                    rw [e3, e11, e260, e199] at q
                    exact q
                  refine lv_istore (lv' := [(18, .int (zI z_272)), (17, .int (zI z_260)), (16, .int (zI z_199)), (0, .ref bs), (1, .ref (E174.2.2 10)), (2, .ref (E174.2.2 g)), (3, .int (zI time)), (4, .int (zI x)), (5, .long (lI dg)), (7, .int (zI sum)), (8, .int (zI pr)), (9, .int (zI h)), (10, .int (zI n)), (11, .ref (E174.2.2 c)), (12, .ref (E174.2.2 q174)), (13, .int (zI mo)), (14, .int (zI sh)), (15, .int (zI k))]) hx hb dL_law_275 hl (by decide) rfl (fun ls hl => ?_)
                  refine lv_iload hx hb dL_law_277 (lv_at hl 0 rfl) ?_
                  refine lv_aload hx hb dL_law_279 (lv_at hl 13 rfl) ?_
                  refine lv_iload hx hb dL_law_281 (lv_at hl 1 rfl) ?_
                  refine lv_aload hx hb dL_law_283 (lv_at hl 13 rfl) ?_
                  refine lv_iload hx hb dL_law_285 (lv_at hl 2 rfl) ?_
                  refine k_callS (As := [.ref (E174.2.2 c), .int (zI z_260), .ref (E174.2.2 c), .int (zI z_199)]) (rest := [.int (zI z_272)]) S hK hP (c_L_common l E174 M244 c z_260 c z_199 n n har2 har2 hvN2 hvN2 (by omega) (by omega)) (va_cwS 4 S.2.2.2.2 gL_law_L_common rfl rfl rfl (by decide +kernel) ⟨Nat.le_of_ble_eq_true rfl, Nat.le_of_ble_eq_true rfl⟩) rfl hl.1 rfl (Nat.le_of_ble_eq_true rfl) dL_law_287 ⟨by show _ ≤ (600130 : Nat); omega, by show _ ≤ (7301080 : Nat); omega⟩ (fun z_287 h_287 => ?_)
                  have e287 : z_287 = z_272 := by
                    have q := kL_of (kLC_congr h_287 (by omega) (by omega) (fun j j1 j2 => (hav2 j j1 j2).symm) (fun j j1 j2 => (hav2 j j1 j2).symm))
                    rw [hz, q, e260, e199]
                  have zr := h_287.1
                  have zr2 := h_287.2.1
                  have zr3 := h_287.2.2.1
                  obtain ⟨t, t1, t2⟩ := hO.2 (k - 1) k (by omega) (by omega) (by omega)
                  have t3 := kL_of t1
                  rw [← hz] at t3
                  rw [t3, ← e260, ← e199] at t2
                  have t2 : (z_260 + z_272 = n ∧ z_199 + z_272 < n) ∨ (z_260 + z_272 < n ∧ z_199 + z_272 < n ∧ M (h + 3) (z_260 + z_272) < M (h + 3) (z_199 + z_272)) := t2
                  have jn_334 :  ∀ ls : Array Slot, lv_has ls 23 [(0, .ref bs), (1, .ref (E174.2.2 10)), (2, .ref (E174.2.2 g)), (3, .int (zI time)), (4, .int (zI x)), (5, .long (lI dg)), (7, .int (zI sum)), (8, .int (zI pr)), (9, .int (zI h)), (10, .int (zI n)), (11, .ref (E174.2.2 c)), (12, .ref (E174.2.2 q174)), (13, .int (zI mo)), (14, .int (zI sh)), (15, .int (zI k)), (16, .int (zI z_199)), (17, .int (zI z_260)), (18, .int (zI z_272))] → W pg l en room_1 s0 mi ar bl me co H locs (cells + 1) (slots + 40) Q (F0 mi 334 ls []) := by
                    intro   ls hl
                    refine lv_iload hx hb dL_law_334 (lv_at hl 12 rfl) ?_
                    refine lv_iload hx hb dL_law_336 (lv_at hl 17 rfl) ?_
                    refine k_max S hl.1 (S.2.2.2.2 _ (List.mem_append_left _ (List.mem_append_left _ (List.mem_append_left _ (List.mem_append_left _ (List.mem_append_left _ (List.mem_append_left _ (List.mem_append_left _ (List.mem_append_left _ (List.mem_append_left _ (List.mem_append_left _ (List.mem_of_getElem? (i := 5) rfl)))))))))))) (S.2.2.2.2 _ (List.mem_append_left _ (List.mem_append_left _ (List.mem_append_left _ (List.mem_append_left _ (List.mem_append_left _ (List.mem_append_left _ (List.mem_append_left _ (List.mem_append_left _ (List.mem_append_left _ (List.mem_append_left _ (List.mem_of_getElem? (i := 6) rfl)))))))))))) (S.2.2.2.2 _ (List.mem_append_left _ (List.mem_append_left _ (List.mem_append_left _ (List.mem_append_left _ (List.mem_append_left _ (List.mem_append_left _ (List.mem_append_left _ (List.mem_append_left _ (List.mem_append_left _ (List.mem_append_left _ (List.mem_of_getElem? (i := 7) rfl)))))))))))) (S.2.2.2.2 _ (List.mem_append_left _ (List.mem_append_left _ (List.mem_append_left _ (List.mem_append_left _ (List.mem_append_left _ (List.mem_append_left _ (List.mem_append_left _ (List.mem_append_left _ (List.mem_append_left _ (List.mem_append_left _ (List.mem_of_getElem? (i := 8) rfl)))))))))))) ⟨Nat.le_of_ble_eq_true rfl, Nat.le_of_ble_eq_true rfl⟩ ⟨by show _ ≤ (600130 : Nat); omega, by show _ ≤ (7301080 : Nat); omega⟩ (by omega) dL_law_338 (fun z_338 h_338 => ?_)
                    refine lv_istore (lv' := [(13, .int (zI z_338)), (0, .ref bs), (1, .ref (E174.2.2 10)), (2, .ref (E174.2.2 g)), (3, .int (zI time)), (4, .int (zI x)), (5, .long (lI dg)), (7, .int (zI sum)), (8, .int (zI pr)), (9, .int (zI h)), (10, .int (zI n)), (11, .ref (E174.2.2 c)), (12, .ref (E174.2.2 q174)), (14, .int (zI sh)), (15, .int (zI k)), (16, .int (zI z_199)), (17, .int (zI z_260)), (18, .int (zI z_272))]) hx hb dL_law_341 hl (by decide) rfl (fun ls hl => ?_)
                    refine lv_iload hx hb dL_law_343 (lv_at hl 13 rfl) ?_
                    refine lv_iload hx hb dL_law_345 (lv_at hl 17 rfl) ?_
                    refine k_add hx hb dL_law_347 ?_
                    refine k_nm (fun v14_348 ev14_348 => ?_)
                    refine lv_istore (lv' := [(14, .int (zI v14_348)), (13, .int (zI z_338)), (0, .ref bs), (1, .ref (E174.2.2 10)), (2, .ref (E174.2.2 g)), (3, .int (zI time)), (4, .int (zI x)), (5, .long (lI dg)), (7, .int (zI sum)), (8, .int (zI pr)), (9, .int (zI h)), (10, .int (zI n)), (11, .ref (E174.2.2 c)), (12, .ref (E174.2.2 q174)), (15, .int (zI k)), (16, .int (zI z_199)), (17, .int (zI z_260)), (18, .int (zI z_272))]) hx hb dL_law_348 hl (by decide) rfl (fun ls hl => ?_)
                    obtain ⟨v8_350, ev8_350⟩ : ∃ v : Int, v = pr + 1 := ⟨_, rfl⟩
                    refine k_incN (v := v8_350) (lv' := [(8, .int (zI v8_350)), (14, .int (zI v14_348)), (13, .int (zI z_338)), (0, .ref bs), (1, .ref (E174.2.2 10)), (2, .ref (E174.2.2 g)), (3, .int (zI time)), (4, .int (zI x)), (5, .long (lI dg)), (7, .int (zI sum)), (9, .int (zI h)), (10, .int (zI n)), (11, .ref (E174.2.2 c)), (12, .ref (E174.2.2 q174)), (15, .int (zI k)), (16, .int (zI z_199)), (17, .int (zI z_260)), (18, .int (zI z_272))]) hx hb dL_law_350 hl (k := 9) rfl ev8_350 (by decide) rfl (fun ls hl => ?_)
                    obtain ⟨v15_353, ev15_353⟩ : ∃ v : Int, v = k + 1 := ⟨_, rfl⟩
                    refine k_incN (v := v15_353) (lv' := [(15, .int (zI v15_353)), (8, .int (zI v8_350)), (14, .int (zI v14_348)), (13, .int (zI z_338)), (0, .ref bs), (1, .ref (E174.2.2 10)), (2, .ref (E174.2.2 g)), (3, .int (zI time)), (4, .int (zI x)), (5, .long (lI dg)), (7, .int (zI sum)), (9, .int (zI h)), (10, .int (zI n)), (11, .ref (E174.2.2 c)), (12, .ref (E174.2.2 q174)), (16, .int (zI z_199)), (17, .int (zI z_260)), (18, .int (zI z_272))]) hx hb dL_law_353 hl (k := 14) rfl ev15_353 (by decide) rfl (fun ls hl => ?_)
                    refine lv_goto (tgt := 187) hx hb dL_law_356 (by decide) ?_
                    refine ih_187 v8_350 z_338 v14_348 v15_353 M244 _ _ (by omega) (by omega) (by exact fun k2 j hk => by rw [eM244, kU_cell (by omega)]; exact hM k2 j hk) (by rw [eM244, kU_place (by omega), kU_place (by omega)]; exact hA) ?_ ?_ ?_ ?_ (by omega) hP hS _ (lv_sub hl [4, 5, 6, 7, 8, 9, 10, 1, 11, 12, 13, 14, 3, 2, 0] rfl)
                    · rw [ev15_353]
                      exact kSee_step hO ⟨h1.1, by omega⟩ e199 eM244 hsee
                    · rw [ev15_353]
                      first | exact kMx_add ⟨by omega, by omega⟩ hmo hz h_338 | exact hmo.trans (by rw [show (k - 1).toNat = 0 by omega, show (k + 1 - 1).toNat = 0 by omega])
                    · rw [ev15_353]
                      first | (rw [ev14_348]; exact kNx_add ⟨by omega, by omega⟩ hsh hz) | exact hsh.trans (by rw [show (k - 1).toNat = 0 by omega, show (k + 1 - 1).toNat = 0 by omega])
                    · rw [ev15_353]
                      unfold kPr at hpr ⊢
                      split at hpr <;> split <;> omega
                  refine k_ne (tgt := 332) hx hb dL_law_290 (by decide) (by omega) (fun c_290 => ?_) (fun c_290 => ?_)
                  · exact absurd c_290 (by omega)
                  · skip
                    refine lv_iload hx hb dL_law_293 (lv_at hl 1 rfl) ?_
                    refine lv_iload hx hb dL_law_295 (lv_at hl 0 rfl) ?_
                    refine k_add hx hb dL_law_297 ?_
                    refine lv_iload hx hb dL_law_298 (lv_at hl 12 rfl) ?_
                    refine k_ge (tgt := 334) hx hb dL_law_300 (by decide) (by omega) (fun c_300 => ?_) (fun c_300 => ?_)
                    · skip
                      refine jn_334   _ (lv_sub hl [3, 4, 5, 6, 7, 8, 9, 10, 11, 12, 13, 14, 15, 16, 17, 2, 1, 0] rfl)
                    · skip
                      refine lv_iload hx hb dL_law_303 (lv_at hl 2 rfl) ?_
                      refine lv_iload hx hb dL_law_305 (lv_at hl 0 rfl) ?_
                      refine k_add hx hb dL_law_307 ?_
                      refine lv_iload hx hb dL_law_308 (lv_at hl 12 rfl) ?_
                      refine k_eq (tgt := 332) hx hb dL_law_310 (by decide) (by omega) (fun c_310 => ?_) (fun c_310 => ?_)
                      · exact absurd c_310 (by omega)
                      · skip
                        have v1 := hav2 (z_260 + z_272) (by omega) (by omega)
                        have v2 := hav2 (z_199 + z_272) (by omega) (by omega)
                        have v3 := hvN2 (z_260 + z_272) (by omega) (by omega)
                        have v4 := hvN2 (z_199 + z_272) (by omega) (by omega)
                        refine lv_aload hx hb dL_law_313 (lv_at hl 13 rfl) ?_
                        refine lv_iload hx hb dL_law_315 (lv_at hl 1 rfl) ?_
                        refine lv_iload hx hb dL_law_317 (lv_at hl 0 rfl) ?_
                        refine k_add hx hb dL_law_319 ?_
                        refine k_ald S hK hP (n) (har2) (by omega) dL_law_320 ?_
                        refine lv_aload hx hb dL_law_321 (lv_at hl 13 rfl) ?_
                        refine lv_iload hx hb dL_law_323 (lv_at hl 2 rfl) ?_
                        refine lv_iload hx hb dL_law_325 (lv_at hl 0 rfl) ?_
                        refine k_add hx hb dL_law_327 ?_
                        refine k_ald S hK hP (n) (har2) (by omega) dL_law_328 ?_
                        refine k_lt (tgt := 334) hx hb dL_law_329 (by decide) (by omega) (fun c_329 => ?_) (fun c_329 => ?_)
                        · skip
                          refine jn_334   _ (lv_sub hl [3, 4, 5, 6, 7, 8, 9, 10, 11, 12, 13, 14, 15, 16, 17, 2, 1, 0] rfl)
                        · exact absurd c_329 (by omega)
                · skip
                  refine lv_goto (tgt := 353) hx hb dL_law_250 (by decide) ?_
                  obtain ⟨v15_353, ev15_353⟩ : ∃ v : Int, v = k + 1 := ⟨_, rfl⟩
                  refine k_incN (v := v15_353) (lv' := [(15, .int (zI v15_353)), (16, .int (zI z_199)), (0, .ref bs), (1, .ref (E174.2.2 10)), (2, .ref (E174.2.2 g)), (3, .int (zI time)), (4, .int (zI x)), (5, .long (lI dg)), (7, .int (zI sum)), (8, .int (zI pr)), (9, .int (zI h)), (10, .int (zI n)), (11, .ref (E174.2.2 c)), (12, .ref (E174.2.2 q174)), (13, .int (zI mo)), (14, .int (zI sh))]) hx hb dL_law_353 hl (k := 15) rfl ev15_353 (by decide) rfl (fun ls hl => ?_)
                  refine lv_goto (tgt := 187) hx hb dL_law_356 (by decide) ?_
                  refine ih_187 pr mo sh v15_353 M244 _ _ (by omega) (by omega) (by exact fun k2 j hk => by rw [eM244, kU_cell (by omega)]; exact hM k2 j hk) (by rw [eM244, kU_place (by omega), kU_place (by omega)]; exact hA) ?_ ?_ ?_ ?_ (by omega) hP hS _ (lv_sub hl [2, 3, 4, 5, 6, 7, 8, 9, 10, 11, 12, 13, 14, 15, 0] rfl)
                  · rw [ev15_353]
                    exact kSee_step hO ⟨h1.1, by omega⟩ e199 eM244 hsee
                  · rw [ev15_353]
                    first | exact kMx_add ⟨by omega, by omega⟩ hmo hz h_338 | exact hmo.trans (by rw [show (k - 1).toNat = 0 by omega, show (k + 1 - 1).toNat = 0 by omega])
                  · rw [ev15_353]
                    first | (rw [ev14_348]; exact kNx_add ⟨by omega, by omega⟩ hsh hz) | exact hsh.trans (by rw [show (k - 1).toNat = 0 by omega, show (k + 1 - 1).toNat = 0 by omega])
                  · rw [ev15_353]
                    unfold kPr at hpr ⊢
                    split at hpr <;> split <;> omega
              · exact absurd c_234 (by omega)
  refine lp_187 (((n - 0 : Int)).toNat + 1) pairs 0 0 0 M174 _ _ (by omega) (by omega) (by exact fun k2 j hk => by rw [eM174]; exact kNw_ne (by omega)) (by rw [eM174, kNw_hit]; exact ⟨rfl, rfl⟩) ?_ (by rfl) (by rfl) ?_ (by omega) hP hS _ (lv_sub hl [4, 5, 6, 7, 8, 9, 10, 11, 12, 13, 14, 3, 2, 1, 0] rfl)
  · intro q q1 q2
    refine Or.inr ⟨fun j j1 j2 => by omega, ?_⟩
    rw [eM174, kNw_hit]; exact (by show (if q = -1 then n else if q = -2 then 1 else 0) = 0; rw [if_neg (by omega), if_neg (by omega)])
  · show pairs = pairs + 0
    omega
