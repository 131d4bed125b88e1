abbrev rX3_repeat : Room := { frames := 0, cells := 1, slots := 3, locals := 0 }
set_option maxHeartbeats 4000000 in
set_option maxRecDepth 100000 in
/-- the longest repeat, as the law finds it -/
theorem c_X3_repeat (l : Launch) (E0 : kE) (hE : kInj E0) (M : kM) (r h K R : Int) (nx dp mnh fsh enh : Int → Int) (wd : Int → Int → Int) (x : Int → Int) (n : Int) (o : Int → Int) (hL : kLy E0 M r) (hh : 0 ≤ h ∧ h < 2) (T : kTree nx dp mnh fsh enh K wd x n) (hD : M (r + 2) = dp ∧ M (r + 4 + h) = mnh ∧ M (r + 7 + h) = fsh ∧ M (r + 13 + h) = o ∧ M (r + 15) h = R) (hO : kFO mnh dp K wd o R) : kNR l yX3_repeat wsX3_repeat rX3_repeat 1 3 E0 M [.ref (E0.2.2 r), .int (zI h)] (fun E1 M1 q => ∃ a b c : Int, kMade E0 M E1 M1 q 3 (fun j => if j = 0 then a else if j = 1 then b else c) ∧ (kIsRep x n 0 a ∧ kIsRep x n 1 b ∧ kIsRep x n 2 c) ∧ (-1 ≤ a ∧ a ≤ 41) ∧ (-1 ≤ b ∧ b ≤ 41) ∧ -1 ≤ c ∧ c ≤ 41) := by
  refine kNR_of (cc := cX3_repeat) (maxL := 5) (rt := (.array .int)) RX3 hE (by decide) rfl rfl (Nat.le_of_ble_eq_true rfl) (Or.inr ⟨_, rfl⟩) ?_
  intro pg en s0 mi ar bl me co ls Q S hP hS hK hG ends hl
  have hx := S.1
  have hb := S.2.1
  have hn := hK.2.2.2
  have hinX30 : ∀ w ∈ wsX30, w ∈ wsX3_repeat := fun w h => List.mem_cons_of_mem _ (List.mem_append_right _ (h))
  have hX : kExt E0 E0 := kExt.rf E0
  have hl : lv_has ls 5 [(0, .ref (E0.2.2 r)), (1, .int (zI h))] := hl
  obtain ⟨r1, r2, r3⟩ := hL.1
  obtain ⟨hD2, hD4, hD7, hD13, hD15⟩ := hD
  have hR := kSt_cap hO.1 (fun a => kLtI_irr a) (n := K.toNat) (fun a ha => ⟨by have := ha.1; omega, by have := ha.2.1; omega⟩) (fun _ => True) (fun _ _ _ => trivial)
  have hR2 := T.cap
  have hR3 : kCnt (fun a => kOkO mnh K a ∧ True) K.toNat = kCnt (kOkO mnh K) K.toNat := kCnt_congr _ (fun a _ _ => ⟨fun z => z.1, fun z => ⟨z, trivial⟩⟩)
  have hR0 := hO.1.1
  have hKb := T.1.1
  have hnb := T.1.2.2.1
  have h00 := T.1.2.1
  refine k_push hx hb dX3_repeat_0 ?_
  refine lv_istore_n (lv' := [(2, .int (zI 0)), (0, .ref (E0.2.2 r)), (1, .int (zI h))]) hx hb dX3_repeat_1 rfl hl (by decide) rfl (fun ls hl => ?_)
  refine k_push hx hb dX3_repeat_2 ?_
  refine lv_istore_n (lv' := [(3, .int (zI 0)), (2, .int (zI 0)), (0, .ref (E0.2.2 r)), (1, .int (zI h))]) hx hb dX3_repeat_3 rfl hl (by decide) rfl (fun ls hl => ?_)
  have lp_4 : ∀ (n_4 : Nat) (b : Int) (k : Int), (0 ≤ k ∧ k ≤ R) → (kPick (fun v => 1 < mnh v) dp o k b) → (0 ≤ b ∧ b < K) → (R - k < (n_4 : Int)) → ∀ ls : Array Slot, lv_has ls 5 [(0, .ref (E0.2.2 r)), (1, .int (zI h)), (2, .int (zI b)), (3, .int (zI k))] → W pg l en rX3_repeat s0 mi ar bl me co s0.heap [] 0 0 Q (F0 mi 4 ls []) := by
    intro n_4
    induction n_4 with
    | zero => intro b k h1 hp h2 hm_4; exfalso; omega
    | succ n_4 ih_4 =>
      intro b k h1 hp h2 hm_4 ls hl
      refine lv_iload_n hx hb dX3_repeat_4 rfl (lv_at hl 3 rfl) ?_
      refine lv_aload_n hx hb dX3_repeat_5 rfl (lv_at hl 0 rfl) ?_
      refine k_rowsR S hK hP hinX30 7 (by decide) (by decide) (S.2.2.2.2 _ (List.mem_cons_of_mem _ (List.mem_append_left _ (List.mem_of_getElem? (i := 0) rfl)))) dX3_repeat_6 ⟨hL.1.1, by have := hL.1.2.1; omega, hL.1.2.2⟩ (a := E0.2.2 (r + 15)) (hL.fld 15 (by unfold kRfd; omega) (by omega)) rfl ?_
      refine lv_iload_n hx hb dX3_repeat_9 rfl (lv_at hl 1 rfl) ?_
      refine k_ald S hK hP (2) (hL.arr (15) 2 (by unfold kRof; omega) (by omega)) (by omega) dX3_repeat_10 ?_
      refine k_ge (tgt := 62) hx hb dX3_repeat_11 (by decide) (by omega) (fun c_11 => ?_) (fun c_11 => ?_)
      · skip
        refine lv_iload_n hx hb dX3_repeat_62 rfl (lv_at hl 2 rfl) ?_
        refine k_ne0 (tgt := 84) hx hb dX3_repeat_63 (by decide) (by omega) (fun c_63 => ?_) (fun c_63 => ?_)
        · skip
          refine k_push hx hb dX3_repeat_84 ?_
          refine k_newA (len := 3) S hK hG hP hS (S.2.2.2.2 _ (List.mem_cons_of_mem _ (List.mem_append_left _ (List.mem_of_getElem? (i := 4) rfl)))) (by omega) (by show _ ≤ (1 : Nat); omega) (by show _ ≤ (3 : Nat); omega) dX3_repeat_85 (fun E85 H hX85 hn85 hK hG hP hS => ?_)
          obtain ⟨M85, eM85⟩ : ∃ N9 : kM, N9 = kNw M (kn E0) (kIa 3) := ⟨_, rfl⟩
          rw [← eM85] at hP
          have hM85 : ∀ k i : Int, k < kn E0 → M85 k i = M k i := fun k i hk => by rw [eM85]; exact kNw_ne (by omega)
          obtain ⟨q85, eq85⟩ : ∃ q : Int, q = kn E0 := ⟨_, rfl⟩
          rw [← eq85] at eM85 ⊢
          have hl : lv_has ls 5 [(0, .ref (E85.2.2 r)), (1, .int (zI h)), (2, .int (zI b)), (3, .int (zI k))] := by rw [hX85.ad (c := r) (by omega)]; exact hl
          have hL := hL.ext hX85 (fun k i _ hk => hM85 k i hk)
          have hX := hX.tr hX85
          have hq85 : M85 q85 (-2) = 0 ∧ M85 q85 (-1) = 3 := by rw [eM85, kNw_hit]; exact ⟨rfl, rfl⟩
          refine W.widen (k := 1) (n := 3) (by omega) (by omega) ?_
          refine lv_dup hx hb dX3_repeat_87 rfl ?_
          refine k_push hx hb dX3_repeat_88 ?_
          refine lv_aload_n hx hb dX3_repeat_89 rfl (lv_at hl 0 rfl) ?_
          refine k_rowsR S hK hP hinX30 1 (by decide) (by decide) (S.2.2.2.2 _ (List.mem_cons_of_mem _ (List.mem_append_left _ (List.mem_of_getElem? (i := 3) rfl)))) dX3_repeat_90 ⟨hL.1.1, by have := hL.1.2.1; omega, hL.1.2.2⟩ (a := E85.2.2 (r + 2)) (hL.fld 2 (by unfold kRfd; omega) (by omega)) rfl ?_
          refine lv_iload_n hx hb dX3_repeat_93 rfl (lv_at hl 2 rfl) ?_
          refine k_ald S hK hP (1700) (hL.arr (2) 1700 (by unfold kRof; omega) (by omega)) (by omega) dX3_repeat_94 ?_
          refine k_astG S hK hG hP hS (3) (by unfold kArr; exact Or.inr (Or.inr ⟨by omega, by omega, hq85.1, hq85.2, by omega, by omega⟩)) (by omega) dX3_repeat_95 (fun H locs hP hS => ?_)
          obtain ⟨M95, eM95⟩ : ∃ N9 : kM, N9 = kU M85 q85 0 (M85 (r + 2) b) := ⟨_, rfl⟩
          rw [← eM95] at hP
          have hL : kLy E85 M95 r := hL.of (fun k i k1 k2 _ => by rw [eM95, kU_cell (by omega)])
          have hq85 : M95 q85 (-2) = 0 ∧ M95 q85 (-1) = 3 := by rw [eM95, kU_place (by omega), kU_place (by omega)]; exact hq85
          refine lv_dup hx hb dX3_repeat_96 rfl ?_
          refine k_push hx hb dX3_repeat_97 ?_
          refine lv_aload_n hx hb dX3_repeat_98 rfl (lv_at hl 0 rfl) ?_
          refine k_rowsR S hK hP hinX30 3 (by decide) (by decide) (S.2.2.2.2 _ (List.mem_cons_of_mem _ (List.mem_append_left _ (List.mem_of_getElem? (i := 5) rfl)))) dX3_repeat_99 ⟨hL.1.1, by have := hL.1.2.1; omega, hL.1.2.2⟩ (a := E85.2.2 (r + 6)) (hL.fld 6 (by unfold kRfd; omega) (by omega)) rfl ?_
          refine lv_iload_n hx hb dX3_repeat_102 rfl (lv_at hl 1 rfl) ?_
          refine k_aald S hK hP 2 (hL.grp 6 (by unfold kRgp; omega) (by omega)) (by omega) (a := E85.2.2 (r + 7 + h)) (hL.row 6 (by unfold kRgp; omega) (by omega) (by omega) (by omega)) dX3_repeat_103 ?_
          refine lv_iload_n hx hb dX3_repeat_104 rfl (lv_at hl 2 rfl) ?_
          refine k_ald S hK hP (1700) (hL.arr (7 + h) 1700 (by unfold kRof; omega) (by omega)) (by omega) dX3_repeat_105 ?_
          refine k_astG S hK hG hP hS (3) (by unfold kArr; exact Or.inr (Or.inr ⟨by omega, by omega, hq85.1, hq85.2, by omega, by omega⟩)) (by omega) dX3_repeat_106 (fun H locs hP hS => ?_)
          obtain ⟨M106, eM106⟩ : ∃ N9 : kM, N9 = kU M95 q85 1 (M95 (r + 7 + h) b) := ⟨_, rfl⟩
          rw [← eM106] at hP
          have hL : kLy E85 M106 r := hL.of (fun k i k1 k2 _ => by rw [eM106, kU_cell (by omega)])
          have hq85 : M106 q85 (-2) = 0 ∧ M106 q85 (-1) = 3 := by rw [eM106, kU_place (by omega), kU_place (by omega)]; exact hq85
          refine lv_dup hx hb dX3_repeat_107 rfl ?_
          refine k_push hx hb dX3_repeat_108 ?_
          refine lv_aload_n hx hb dX3_repeat_109 rfl (lv_at hl 0 rfl) ?_
          refine k_rowsR S hK hP hinX30 2 (by decide) (by decide) (S.2.2.2.2 _ (List.mem_cons_of_mem _ (List.mem_append_left _ (List.mem_of_getElem? (i := 2) rfl)))) dX3_repeat_110 ⟨hL.1.1, by have := hL.1.2.1; omega, hL.1.2.2⟩ (a := E85.2.2 (r + 3)) (hL.fld 3 (by unfold kRfd; omega) (by omega)) rfl ?_
          refine lv_iload_n hx hb dX3_repeat_113 rfl (lv_at hl 1 rfl) ?_
          refine k_aald S hK hP 2 (hL.grp 3 (by unfold kRgp; omega) (by omega)) (by omega) (a := E85.2.2 (r + 4 + h)) (hL.row 3 (by unfold kRgp; omega) (by omega) (by omega) (by omega)) dX3_repeat_114 ?_
          refine lv_iload_n hx hb dX3_repeat_115 rfl (lv_at hl 2 rfl) ?_
          refine k_ald S hK hP (1700) (hL.arr (4 + h) 1700 (by unfold kRof; omega) (by omega)) (by omega) dX3_repeat_116 ?_
          refine k_astG S hK hG hP hS (3) (by unfold kArr; exact Or.inr (Or.inr ⟨by omega, by omega, hq85.1, hq85.2, by omega, by omega⟩)) (by omega) dX3_repeat_117 (fun H locs hP hS => ?_)
          obtain ⟨M117, eM117⟩ : ∃ N9 : kM, N9 = kU M106 q85 2 (M106 (r + 4 + h) b) := ⟨_, rfl⟩
          rw [← eM117] at hP
          have hL : kLy E85 M117 r := hL.of (fun k i k1 k2 _ => by rw [eM117, kU_cell (by omega)])
          have hq85 : M117 q85 (-2) = 0 ∧ M117 q85 (-1) = 3 := by rw [eM117, kU_place (by omega), kU_place (by omega)]; exact hq85
          have fin0 := kIsRep_of T hO (by rw [show k = R by omega] at hp; exact hp) (z0 := dp b) (z1 := fsh b) (z2 := mnh b) (fun z => absurd z c_63) (fun _ => ⟨rfl, rfl, rfl⟩)
          have hdb := T.dpr (v := b) h2
          have hmr := T.mnr (v := b) h2.1
          have hfr := T.2.2.2.2.2.2.1.1 b (by omega) h2.2
          have okb : 0 < mnh b := by rcases hp with ⟨z, -⟩ | ⟨j, -, -, -, z, -⟩ <;> omega
          have hfr2 := (hfr.2 okb).1
          have hfr3 := (hfr.2 okb).2.1.1
          have w0 : M85 (r + 2) b = dp b := by rw [hM85 _ _ (by omega), hD2]
          have w1 : M95 (r + 7 + h) b = fsh b := by rw [eM95, kU_cell (by omega), hM85 _ _ (by omega), hD7]
          have w2 : M106 (r + 4 + h) b = mnh b := by rw [eM106, kU_cell (by omega), eM95, kU_cell (by omega), hM85 _ _ (by omega), hD4]
          rw [w0] at eM95
          rw [w1] at eM106
          rw [w2] at eM117
          have fin : ∃ a b c : Int, kMade E0 M E85 M117 q85 3 (fun j => if j = 0 then a else if j = 1 then b else c) ∧ (kIsRep x n 0 a ∧ kIsRep x n 1 b ∧ kIsRep x n 2 c) ∧ (-1 ≤ a ∧ a ≤ 41) ∧ (-1 ≤ b ∧ b ≤ 41) ∧ -1 ≤ c ∧ c ≤ 41 := by
            refine ⟨(dp b), (fsh b), (mnh b), ⟨⟨by omega, by omega⟩, fun k i hk => ?_, ?_, ?_, fun j j1 j2 => ?_⟩, fin0, by omega, by omega, by omega⟩
            · rw [eM117, kU_cell (by omega), eM106, kU_cell (by omega), eM95, kU_cell (by omega)]; exact hM85 k i hk
            · rw [eM117, kU_place (by omega), eM106, kU_place (by omega), eM95, kU_place (by omega), eM85, kNw_hit]; rfl
            · rw [eM117, kU_place (by omega), eM106, kU_place (by omega), eM95, kU_place (by omega), eM85, kNw_hit]; rfl
            · show _ = (if j = 0 then _ else if j = 1 then _ else _)
              rcases (show j = 0 ∨ j = 1 ∨ j = 2 by omega) with rfl | rfl | rfl
              · rw [if_pos rfl, eM117, kU_place (by omega), eM106, kU_place (by omega), eM95, kU_same]
              · rw [if_neg (by decide), if_pos rfl, eM117, kU_place (by omega), eM106, kU_same]
              · rw [if_neg (by decide), if_neg (by decide), eM117, kU_same]
          refine ends _ _ E85 M117 (q85) _ _ dX3_repeat_118 hX hG hP hS ?_
          exact fin
        · skip
          refine k_push hx hb dX3_repeat_66 ?_
          refine k_newA (len := 3) S hK hG hP hS (S.2.2.2.2 _ (List.mem_cons_of_mem _ (List.mem_append_left _ (List.mem_of_getElem? (i := 4) rfl)))) (by omega) (by show _ ≤ (1 : Nat); omega) (by show _ ≤ (3 : Nat); omega) dX3_repeat_67 (fun E67 H hX67 hn67 hK hG hP hS => ?_)
          obtain ⟨M67, eM67⟩ : ∃ N9 : kM, N9 = kNw M (kn E0) (kIa 3) := ⟨_, rfl⟩
          rw [← eM67] at hP
          have hM67 : ∀ k i : Int, k < kn E0 → M67 k i = M k i := fun k i hk => by rw [eM67]; exact kNw_ne (by omega)
          obtain ⟨q67, eq67⟩ : ∃ q : Int, q = kn E0 := ⟨_, rfl⟩
          rw [← eq67] at eM67 ⊢
          have hl : lv_has ls 5 [(0, .ref (E67.2.2 r)), (1, .int (zI h)), (2, .int (zI b)), (3, .int (zI k))] := by rw [hX67.ad (c := r) (by omega)]; exact hl
          have hL := hL.ext hX67 (fun k i _ hk => hM67 k i hk)
          have hX := hX.tr hX67
          have hq67 : M67 q67 (-2) = 0 ∧ M67 q67 (-1) = 3 := by rw [eM67, kNw_hit]; exact ⟨rfl, rfl⟩
          refine W.widen (k := 1) (n := 3) (by omega) (by omega) ?_
          refine lv_dup hx hb dX3_repeat_69 rfl ?_
          refine k_push hx hb dX3_repeat_70 ?_
          refine k_push hx hb dX3_repeat_71 ?_
          refine k_astG S hK hG hP hS (3) (by unfold kArr; exact Or.inr (Or.inr ⟨by omega, by omega, hq67.1, hq67.2, by omega, by omega⟩)) (by omega) dX3_repeat_72 (fun H locs hP hS => ?_)
          obtain ⟨M72, eM72⟩ : ∃ N9 : kM, N9 = kU M67 q67 0 0 := ⟨_, rfl⟩
          rw [← eM72] at hP
          have hL : kLy E67 M72 r := hL.of (fun k i k1 k2 _ => by rw [eM72, kU_cell (by omega)])
          have hq67 : M72 q67 (-2) = 0 ∧ M72 q67 (-1) = 3 := by rw [eM72, kU_place (by omega), kU_place (by omega)]; exact hq67
          refine lv_dup hx hb dX3_repeat_73 rfl ?_
          refine k_push hx hb dX3_repeat_74 ?_
          refine k_push hx hb dX3_repeat_75 ?_
          refine k_astG S hK hG hP hS (3) (by unfold kArr; exact Or.inr (Or.inr ⟨by omega, by omega, hq67.1, hq67.2, by omega, by omega⟩)) (by omega) dX3_repeat_76 (fun H locs hP hS => ?_)
          obtain ⟨M76, eM76⟩ : ∃ N9 : kM, N9 = kU M72 q67 1 (-1) := ⟨_, rfl⟩
          rw [← eM76] at hP
          have hL : kLy E67 M76 r := hL.of (fun k i k1 k2 _ => by rw [eM76, kU_cell (by omega)])
          have hq67 : M76 q67 (-2) = 0 ∧ M76 q67 (-1) = 3 := by rw [eM76, kU_place (by omega), kU_place (by omega)]; exact hq67
          refine lv_dup hx hb dX3_repeat_77 rfl ?_
          refine k_push hx hb dX3_repeat_78 ?_
          refine k_push hx hb dX3_repeat_79 ?_
          refine k_astG S hK hG hP hS (3) (by unfold kArr; exact Or.inr (Or.inr ⟨by omega, by omega, hq67.1, hq67.2, by omega, by omega⟩)) (by omega) dX3_repeat_80 (fun H locs hP hS => ?_)
          obtain ⟨M80, eM80⟩ : ∃ N9 : kM, N9 = kU M76 q67 2 0 := ⟨_, rfl⟩
          rw [← eM80] at hP
          have hL : kLy E67 M80 r := hL.of (fun k i k1 k2 _ => by rw [eM80, kU_cell (by omega)])
          have hq67 : M80 q67 (-2) = 0 ∧ M80 q67 (-1) = 3 := by rw [eM80, kU_place (by omega), kU_place (by omega)]; exact hq67
          have fin0 := kIsRep_of T hO (by rw [show k = R by omega] at hp; exact hp) (z0 := 0) (z1 := -1) (z2 := 0) (fun _ => ⟨rfl, rfl, rfl⟩) (fun z => absurd c_63 z)
          have fin : ∃ a b c : Int, kMade E0 M E67 M80 q67 3 (fun j => if j = 0 then a else if j = 1 then b else c) ∧ (kIsRep x n 0 a ∧ kIsRep x n 1 b ∧ kIsRep x n 2 c) ∧ (-1 ≤ a ∧ a ≤ 41) ∧ (-1 ≤ b ∧ b ≤ 41) ∧ -1 ≤ c ∧ c ≤ 41 := by
            refine ⟨0, -1, 0, ⟨⟨by omega, by omega⟩, fun k i hk => ?_, ?_, ?_, fun j j1 j2 => ?_⟩, fin0, by omega, by omega, by omega⟩
            · rw [eM80, kU_cell (by omega), eM76, kU_cell (by omega), eM72, kU_cell (by omega)]; exact hM67 k i hk
            · rw [eM80, kU_place (by omega), eM76, kU_place (by omega), eM72, kU_place (by omega), eM67, kNw_hit]; rfl
            · rw [eM80, kU_place (by omega), eM76, kU_place (by omega), eM72, kU_place (by omega), eM67, kNw_hit]; rfl
            · show _ = (if j = 0 then _ else if j = 1 then _ else _)
              rcases (show j = 0 ∨ j = 1 ∨ j = 2 by omega) with rfl | rfl | rfl
              · rw [if_pos rfl, eM80, kU_place (by omega), eM76, kU_place (by omega), eM72, kU_same]
              · rw [if_neg (by decide), if_pos rfl, eM80, kU_place (by omega), eM76, kU_same]
              · rw [if_neg (by decide), if_neg (by decide), eM80, kU_same]
          refine lv_goto (tgt := 118) hx hb dX3_repeat_81 (by decide) ?_
          refine ends _ _ E67 M80 (q67) _ _ dX3_repeat_118 hX hG hP hS ?_
          exact fin
      · skip
        refine lv_aload_n hx hb dX3_repeat_14 rfl (lv_at hl 0 rfl) ?_
        refine k_rowsR S hK hP hinX30 6 (by decide) (by decide) (S.2.2.2.2 _ (List.mem_cons_of_mem _ (List.mem_append_left _ (List.mem_of_getElem? (i := 1) rfl)))) dX3_repeat_15 ⟨hL.1.1, by have := hL.1.2.1; omega, hL.1.2.2⟩ (a := E0.2.2 (r + 12)) (hL.fld 12 (by unfold kRfd; omega) (by omega)) rfl ?_
        refine lv_iload_n hx hb dX3_repeat_18 rfl (lv_at hl 1 rfl) ?_
        refine k_aald S hK hP 2 (hL.grp 12 (by unfold kRgp; omega) (by omega)) (by omega) (a := E0.2.2 (r + 13 + h)) (hL.row 12 (by unfold kRgp; omega) (by omega) (by omega) (by omega)) dX3_repeat_19 ?_
        refine lv_iload_n hx hb dX3_repeat_20 rfl (lv_at hl 3 rfl) ?_
        refine k_ald S hK hP (900) (hL.arr (13 + h) 900 (by unfold kRof; omega) (by omega)) (by omega) dX3_repeat_21 ?_
        refine k_nm (fun v4_22 ev4_22 => ?_)
        refine lv_istore (lv' := [(4, .int (zI v4_22)), (0, .ref (E0.2.2 r)), (1, .int (zI h)), (2, .int (zI b)), (3, .int (zI k))]) hx hb dX3_repeat_22 hl (by decide) rfl (fun ls hl => ?_)
        have ho : v4_22 = o k := by rw [ev4_22, hD13]
        have hok := hO.1.2.1 k h1.1 (by omega)
        rw [← ho] at hok
        have hok1 := hok.1
        have hok2 := hok.2.1
        have hmr := T.mnr (v := v4_22) (by omega)
        have hdr := T.2.1 v4_22 hok1 hok2
        have hdb := T.dpr (v := b) h2
        have z1 : M (r + 4 + h) v4_22 = mnh v4_22 := by rw [hD4]
        have z2 : M (r + 2) v4_22 = dp v4_22 := by rw [hD2]
        have z3 : M (r + 2) b = dp b := by rw [hD2]
        refine lv_aload_n hx hb dX3_repeat_24 rfl (lv_at hl 1 rfl) ?_
        refine k_rowsR S hK hP hinX30 2 (by decide) (by decide) (S.2.2.2.2 _ (List.mem_cons_of_mem _ (List.mem_append_left _ (List.mem_of_getElem? (i := 2) rfl)))) dX3_repeat_25 ⟨hL.1.1, by have := hL.1.2.1; omega, hL.1.2.2⟩ (a := E0.2.2 (r + 3)) (hL.fld 3 (by unfold kRfd; omega) (by omega)) rfl ?_
        refine lv_iload_n hx hb dX3_repeat_28 rfl (lv_at hl 2 rfl) ?_
        refine k_aald S hK hP 2 (hL.grp 3 (by unfold kRgp; omega) (by omega)) (by omega) (a := E0.2.2 (r + 4 + h)) (hL.row 3 (by unfold kRgp; omega) (by omega) (by omega) (by omega)) dX3_repeat_29 ?_
        refine lv_iload hx hb dX3_repeat_30 (lv_at hl 0 rfl) ?_
        refine k_ald S hK hP (1700) (hL.arr (4 + h) 1700 (by unfold kRof; omega) (by omega)) (by omega) dX3_repeat_32 ?_
        refine k_push hx hb dX3_repeat_33 ?_
        refine k_le (tgt := 56) hx hb dX3_repeat_34 (by decide) (by omega) (fun c_34 => ?_) (fun c_34 => ?_)
        · skip
          obtain ⟨v3_56, ev3_56⟩ : ∃ v : Int, v = k + 1 := ⟨_, rfl⟩
          refine k_incN (v := v3_56) (lv' := [(3, .int (zI v3_56)), (4, .int (zI v4_22)), (0, .ref (E0.2.2 r)), (1, .int (zI h)), (2, .int (zI b))]) hx hb dX3_repeat_56 hl (k := 4) rfl ev3_56 (by decide) rfl (fun ls hl => ?_)
          refine lv_goto (tgt := 4) hx hb dX3_repeat_59 (by decide) ?_
          refine ih_4 b v3_56 (by omega) ?_ (by omega) (by omega) _ (lv_sub hl [2, 3, 4, 0] rfl)
          · rw [ev3_56]
            first | exact kPick_skip hp h00 (Or.inl (by show ¬ 1 < mnh (o k); rw [← ho]; omega)) | exact kPick_skip hp h00 (Or.inr ⟨by rw [← ho]; omega, by rw [← ho]; omega⟩) | (rw [ho]; exact kPick_new hp h1.1 (by show 1 < mnh (o k); rw [← ho]; omega) (by rw [← ho]; omega))
        · skip
          refine lv_aload_n hx hb dX3_repeat_37 rfl (lv_at hl 1 rfl) ?_
          refine k_rowsR S hK hP hinX30 1 (by decide) (by decide) (S.2.2.2.2 _ (List.mem_cons_of_mem _ (List.mem_append_left _ (List.mem_of_getElem? (i := 3) rfl)))) dX3_repeat_38 ⟨hL.1.1, by have := hL.1.2.1; omega, hL.1.2.2⟩ (a := E0.2.2 (r + 2)) (hL.fld 2 (by unfold kRfd; omega) (by omega)) rfl ?_
          refine lv_iload hx hb dX3_repeat_41 (lv_at hl 0 rfl) ?_
          refine k_ald S hK hP (1700) (hL.arr (2) 1700 (by unfold kRof; omega) (by omega)) (by omega) dX3_repeat_43 ?_
          refine lv_aload_n hx hb dX3_repeat_44 rfl (lv_at hl 1 rfl) ?_
          refine k_rowsR S hK hP hinX30 1 (by decide) (by decide) (S.2.2.2.2 _ (List.mem_cons_of_mem _ (List.mem_append_left _ (List.mem_of_getElem? (i := 3) rfl)))) dX3_repeat_45 ⟨hL.1.1, by have := hL.1.2.1; omega, hL.1.2.2⟩ (a := E0.2.2 (r + 2)) (hL.fld 2 (by unfold kRfd; omega) (by omega)) rfl ?_
          refine lv_iload_n hx hb dX3_repeat_48 rfl (lv_at hl 3 rfl) ?_
          refine k_ald S hK hP (1700) (hL.arr (2) 1700 (by unfold kRof; omega) (by omega)) (by omega) dX3_repeat_49 ?_
          refine k_le (tgt := 56) hx hb dX3_repeat_50 (by decide) (by omega) (fun c_50 => ?_) (fun c_50 => ?_)
          · skip
            obtain ⟨v3_56, ev3_56⟩ : ∃ v : Int, v = k + 1 := ⟨_, rfl⟩
            refine k_incN (v := v3_56) (lv' := [(3, .int (zI v3_56)), (4, .int (zI v4_22)), (0, .ref (E0.2.2 r)), (1, .int (zI h)), (2, .int (zI b))]) hx hb dX3_repeat_56 hl (k := 4) rfl ev3_56 (by decide) rfl (fun ls hl => ?_)
            refine lv_goto (tgt := 4) hx hb dX3_repeat_59 (by decide) ?_
            refine ih_4 b v3_56 (by omega) ?_ (by omega) (by omega) _ (lv_sub hl [2, 3, 4, 0] rfl)
            · rw [ev3_56]
              first | exact kPick_skip hp h00 (Or.inl (by show ¬ 1 < mnh (o k); rw [← ho]; omega)) | exact kPick_skip hp h00 (Or.inr ⟨by rw [← ho]; omega, by rw [← ho]; omega⟩) | (rw [ho]; exact kPick_new hp h1.1 (by show 1 < mnh (o k); rw [← ho]; omega) (by rw [← ho]; omega))
          · skip
            refine lv_iload hx hb dX3_repeat_53 (lv_at hl 0 rfl) ?_
            refine lv_istore_n (lv' := [(2, .int (zI v4_22)), (4, .int (zI v4_22)), (0, .ref (E0.2.2 r)), (1, .int (zI h)), (3, .int (zI k))]) hx hb dX3_repeat_55 rfl hl (by decide) rfl (fun ls hl => ?_)
            obtain ⟨v3_56, ev3_56⟩ : ∃ v : Int, v = k + 1 := ⟨_, rfl⟩
            refine k_incN (v := v3_56) (lv' := [(3, .int (zI v3_56)), (2, .int (zI v4_22)), (4, .int (zI v4_22)), (0, .ref (E0.2.2 r)), (1, .int (zI h))]) hx hb dX3_repeat_56 hl (k := 4) rfl ev3_56 (by decide) rfl (fun ls hl => ?_)
            refine lv_goto (tgt := 4) hx hb dX3_repeat_59 (by decide) ?_
            refine ih_4 v4_22 v3_56 (by omega) ?_ (by omega) (by omega) _ (lv_sub hl [3, 4, 1, 0] rfl)
            · rw [ev3_56]
              first | exact kPick_skip hp h00 (Or.inl (by show ¬ 1 < mnh (o k); rw [← ho]; omega)) | exact kPick_skip hp h00 (Or.inr ⟨by rw [← ho]; omega, by rw [← ho]; omega⟩) | (rw [ho]; exact kPick_new hp h1.1 (by show 1 < mnh (o k); rw [← ho]; omega) (by rw [← ho]; omega))
  refine lp_4 (((R - 0 : Int)).toNat + 1) 0 0 (by omega) (by exact kPick_0 _ _ _) (by omega) (by omega) _ (lv_sub hl [2, 3, 1, 0] rfl)
