abbrev rX3_seam : Room := { frames := 0, cells := 1, slots := 3, locals := 0 }
set_option maxHeartbeats 4000000 in
set_option maxRecDepth 100000 in
/-- the seam, as the law finds it -/
theorem c_X3_seam (l : Launch) (E0 : kE) (hE : kInj E0) (M : kM) (r K R : Int) (nx dp mn0 fs0 en0 mn1 fs1 en1 : Int → Int) (wd : Int → Int → Int) (x : Int → Int) (n : Int) (y : Int → Int) (ny : Int) (o : Int → Int) (hL : kLy E0 M r) (T : kTree nx dp mn0 fs0 en0 K wd x n) (U : kTree nx dp mn1 fs1 en1 K wd y ny) (hD : M (r + 2) = dp ∧ M (r + 4) = mn0 ∧ M (r + 7) = fs0 ∧ M (r + 5) = mn1 ∧ M (r + 8) = fs1 ∧ M (r + 13) = o ∧ M (r + 15) 0 = R) (hO : kFO mn0 dp K wd o R) : kNR l yX3_seam wsX3_seam rX3_seam 1 3 E0 M [.ref (E0.2.2 r)] (fun E1 M1 q => ∃ a b c : Int, kMade E0 M E1 M1 q 3 (fun j => if j = 0 then a else if j = 1 then b else c) ∧ (kIsSeam x n y ny 0 a ∧ kIsSeam x n y ny 1 b ∧ kIsSeam x n y ny 2 c) ∧ (0 ≤ a ∧ a ≤ 40) ∧ (-1 ≤ b ∧ b < 41) ∧ -1 ≤ c ∧ c < 41) := by
  refine kNR_of (cc := cX3_seam) (maxL := 4) (rt := (.array .int)) RX3 hE (by decide) rfl rfl (Nat.le_of_ble_eq_true rfl) (Or.inr ⟨_, rfl⟩) ?_
  intro pg en s0 mi ar bl me co ls Q S hP hS hK hG ends hl
  have hx := S.1
  have hb := S.2.1
  have hn := hK.2.2.2
  have hinX30 : ∀ w ∈ wsX30, w ∈ wsX3_seam := fun w h => List.mem_cons_of_mem _ (List.mem_append_right _ (h))
  have hX : kExt E0 E0 := kExt.rf E0
  have hl : lv_has ls 4 [(0, .ref (E0.2.2 r))] := hl
  obtain ⟨r1, r2, r3⟩ := hL.1
  obtain ⟨hD2, hD4, hD7, hE4, hE7, hD13, hD15⟩ := hD
  have hR0 := hO.1.1
  have hR := kSt_cap hO.1 (fun a => kLtI_irr a) (n := K.toNat) (fun a ha => ⟨by have := ha.1; omega, by have := ha.2.1; omega⟩) (fun _ => True) (fun _ _ _ => trivial)
  have hR2 := T.cap
  have hR3 : kCnt (fun a => kOkO mn0 K a ∧ True) K.toNat = kCnt (kOkO mn0 K) K.toNat := kCnt_congr _ (fun a _ _ => ⟨fun z => z.1, fun z => ⟨z, trivial⟩⟩)
  have hKb := T.1.1
  have hnb := T.1.2.2.1
  have hnc := U.1.2.2.1
  have h00 := T.1.2.1
  refine k_push hx hb dX3_seam_0 ?_
  refine lv_istore_n (lv' := [(1, .int (zI 0)), (0, .ref (E0.2.2 r))]) hx hb dX3_seam_1 rfl hl (by decide) rfl (fun ls hl => ?_)
  refine k_push hx hb dX3_seam_2 ?_
  refine lv_istore_n (lv' := [(2, .int (zI 0)), (1, .int (zI 0)), (0, .ref (E0.2.2 r))]) hx hb dX3_seam_3 rfl hl (by decide) rfl (fun ls hl => ?_)
  have lp_4 : ∀ (n_4 : Nat) (b : Int) (k : Int), (0 ≤ k ∧ k ≤ R) → (kPick (fun v => 0 < mn1 v) dp o k b) → (0 ≤ b ∧ b < K) → (R - k < (n_4 : Int)) → ∀ ls : Array Slot, lv_has ls 4 [(0, .ref (E0.2.2 r)), (1, .int (zI b)), (2, .int (zI k))] → W pg l en rX3_seam s0 mi ar bl me co s0.heap [] 0 0 Q (F0 mi 4 ls []) := by
    intro n_4
    induction n_4 with
    | zero => intro b k h1 hp h2 hm_4; exfalso; omega
    | succ n_4 ih_4 =>
      intro b k h1 hp h2 hm_4 ls hl
      refine lv_iload_n hx hb dX3_seam_4 rfl (lv_at hl 2 rfl) ?_
      refine lv_aload_n hx hb dX3_seam_5 rfl (lv_at hl 0 rfl) ?_
      refine k_rowsR S hK hP hinX30 7 (by decide) (by decide) (S.2.2.2.2 _ (List.mem_cons_of_mem _ (List.mem_append_left _ (List.mem_of_getElem? (i := 0) rfl)))) dX3_seam_6 ⟨hL.1.1, by have := hL.1.2.1; omega, hL.1.2.2⟩ (a := E0.2.2 (r + 15)) (hL.fld 15 (by unfold kRfd; omega) (by omega)) rfl ?_
      refine k_push hx hb dX3_seam_9 ?_
      refine k_ald S hK hP (2) (hL.arr (15) 2 (by unfold kRof; omega) (by omega)) (by omega) dX3_seam_10 ?_
      refine k_ge (tgt := 57) hx hb dX3_seam_11 (by decide) (by omega) (fun c_11 => ?_) (fun c_11 => ?_)
      · skip
        refine lv_iload_n hx hb dX3_seam_57 rfl (lv_at hl 1 rfl) ?_
        refine k_ne0 (tgt := 79) hx hb dX3_seam_58 (by decide) (by omega) (fun c_58 => ?_) (fun c_58 => ?_)
        · skip
          refine k_push hx hb dX3_seam_79 ?_
          refine k_newA (len := 3) S hK hG hP hS (S.2.2.2.2 _ (List.mem_cons_of_mem _ (List.mem_append_left _ (List.mem_of_getElem? (i := 4) rfl)))) (by omega) (by show _ ≤ (1 : Nat); omega) (by show _ ≤ (3 : Nat); omega) dX3_seam_80 (fun E80 H hX80 hn80 hK hG hP hS => ?_)
          obtain ⟨M80, eM80⟩ : ∃ N9 : kM, N9 = kNw M (kn E0) (kIa 3) := ⟨_, rfl⟩
          rw [← eM80] at hP
          have hM80 : ∀ k i : Int, k < kn E0 → M80 k i = M k i := fun k i hk => by rw [eM80]; exact kNw_ne (by omega)
          obtain ⟨q80, eq80⟩ : ∃ q : Int, q = kn E0 := ⟨_, rfl⟩
          rw [← eq80] at eM80 ⊢
          have hl : lv_has ls 4 [(0, .ref (E80.2.2 r)), (1, .int (zI b)), (2, .int (zI k))] := by rw [hX80.ad (c := r) (by omega)]; exact hl
          have hL := hL.ext hX80 (fun k i _ hk => hM80 k i hk)
          have hX := hX.tr hX80
          have hq80 : M80 q80 (-2) = 0 ∧ M80 q80 (-1) = 3 := by rw [eM80, kNw_hit]; exact ⟨rfl, rfl⟩
          refine W.widen (k := 1) (n := 3) (by omega) (by omega) ?_
          refine lv_dup hx hb dX3_seam_82 rfl ?_
          refine k_push hx hb dX3_seam_83 ?_
          refine lv_aload_n hx hb dX3_seam_84 rfl (lv_at hl 0 rfl) ?_
          refine k_rowsR S hK hP hinX30 1 (by decide) (by decide) (S.2.2.2.2 _ (List.mem_cons_of_mem _ (List.mem_append_left _ (List.mem_of_getElem? (i := 3) rfl)))) dX3_seam_85 ⟨hL.1.1, by have := hL.1.2.1; omega, hL.1.2.2⟩ (a := E80.2.2 (r + 2)) (hL.fld 2 (by unfold kRfd; omega) (by omega)) rfl ?_
          refine lv_iload_n hx hb dX3_seam_88 rfl (lv_at hl 1 rfl) ?_
          refine k_ald S hK hP (1700) (hL.arr (2) 1700 (by unfold kRof; omega) (by omega)) (by omega) dX3_seam_89 ?_
          refine k_astG S hK hG hP hS (3) (by unfold kArr; exact Or.inr (Or.inr ⟨by omega, by omega, hq80.1, hq80.2, by omega, by omega⟩)) (by omega) dX3_seam_90 (fun H locs hP hS => ?_)
          obtain ⟨M90, eM90⟩ : ∃ N9 : kM, N9 = kU M80 q80 0 (M80 (r + 2) b) := ⟨_, rfl⟩
          rw [← eM90] at hP
          have hL : kLy E80 M90 r := hL.of (fun k i k1 k2 _ => by rw [eM90, kU_cell (by omega)])
          have hq80 : M90 q80 (-2) = 0 ∧ M90 q80 (-1) = 3 := by rw [eM90, kU_place (by omega), kU_place (by omega)]; exact hq80
          refine lv_dup hx hb dX3_seam_91 rfl ?_
          refine k_push hx hb dX3_seam_92 ?_
          refine lv_aload_n hx hb dX3_seam_93 rfl (lv_at hl 0 rfl) ?_
          refine k_rowsR S hK hP hinX30 3 (by decide) (by decide) (S.2.2.2.2 _ (List.mem_cons_of_mem _ (List.mem_append_left _ (List.mem_of_getElem? (i := 5) rfl)))) dX3_seam_94 ⟨hL.1.1, by have := hL.1.2.1; omega, hL.1.2.2⟩ (a := E80.2.2 (r + 6)) (hL.fld 6 (by unfold kRfd; omega) (by omega)) rfl ?_
          refine k_push hx hb dX3_seam_97 ?_
          refine k_aald S hK hP 2 (hL.grp 6 (by unfold kRgp; omega) (by omega)) (by omega) (a := E80.2.2 (r + 7 + 0)) (hL.row 6 (by unfold kRgp; omega) (by omega) (by omega) (by omega)) dX3_seam_98 ?_
          refine lv_iload_n hx hb dX3_seam_99 rfl (lv_at hl 1 rfl) ?_
          refine k_ald S hK hP (1700) (hL.arr (7 + 0) 1700 (by unfold kRof; omega) (by omega)) (by omega) dX3_seam_100 ?_
          refine k_astG S hK hG hP hS (3) (by unfold kArr; exact Or.inr (Or.inr ⟨by omega, by omega, hq80.1, hq80.2, by omega, by omega⟩)) (by omega) dX3_seam_101 (fun H locs hP hS => ?_)
          obtain ⟨M101, eM101⟩ : ∃ N9 : kM, N9 = kU M90 q80 1 (M90 (r + 7 + 0) b) := ⟨_, rfl⟩
          rw [← eM101] at hP
          have hL : kLy E80 M101 r := hL.of (fun k i k1 k2 _ => by rw [eM101, kU_cell (by omega)])
          have hq80 : M101 q80 (-2) = 0 ∧ M101 q80 (-1) = 3 := by rw [eM101, kU_place (by omega), kU_place (by omega)]; exact hq80
          refine lv_dup hx hb dX3_seam_102 rfl ?_
          refine k_push hx hb dX3_seam_103 ?_
          refine lv_aload_n hx hb dX3_seam_104 rfl (lv_at hl 0 rfl) ?_
          refine k_rowsR S hK hP hinX30 3 (by decide) (by decide) (S.2.2.2.2 _ (List.mem_cons_of_mem _ (List.mem_append_left _ (List.mem_of_getElem? (i := 5) rfl)))) dX3_seam_105 ⟨hL.1.1, by have := hL.1.2.1; omega, hL.1.2.2⟩ (a := E80.2.2 (r + 6)) (hL.fld 6 (by unfold kRfd; omega) (by omega)) rfl ?_
          refine k_push hx hb dX3_seam_108 ?_
          refine k_aald S hK hP 2 (hL.grp 6 (by unfold kRgp; omega) (by omega)) (by omega) (a := E80.2.2 (r + 7 + 1)) (hL.row 6 (by unfold kRgp; omega) (by omega) (by omega) (by omega)) dX3_seam_109 ?_
          refine lv_iload_n hx hb dX3_seam_110 rfl (lv_at hl 1 rfl) ?_
          refine k_ald S hK hP (1700) (hL.arr (7 + 1) 1700 (by unfold kRof; omega) (by omega)) (by omega) dX3_seam_111 ?_
          refine k_astG S hK hG hP hS (3) (by unfold kArr; exact Or.inr (Or.inr ⟨by omega, by omega, hq80.1, hq80.2, by omega, by omega⟩)) (by omega) dX3_seam_112 (fun H locs hP hS => ?_)
          obtain ⟨M112, eM112⟩ : ∃ N9 : kM, N9 = kU M101 q80 2 (M101 (r + 7 + 1) b) := ⟨_, rfl⟩
          rw [← eM112] at hP
          have hL : kLy E80 M112 r := hL.of (fun k i k1 k2 _ => by rw [eM112, kU_cell (by omega)])
          have hq80 : M112 q80 (-2) = 0 ∧ M112 q80 (-1) = 3 := by rw [eM112, kU_place (by omega), kU_place (by omega)]; exact hq80
          have fin0 := kIsSeam_of T U hO (by rw [show k = R by omega] at hp; exact hp) (z0 := dp b) (z1 := fs0 b) (z2 := fs1 b) (fun z => absurd z c_58) (fun _ => ⟨rfl, rfl, rfl⟩)
          have hdb := T.dpr (v := b) h2
          have hfr := T.2.2.2.2.2.2.1.1 b (by omega) h2.2
          have hgr := U.2.2.2.2.2.2.1.1 b (by omega) h2.2
          obtain ⟨ok0, ok1⟩ : 0 < mn0 b ∧ 0 < mn1 b := by
            rcases hp with ⟨z, -⟩ | ⟨j, j1, j2, j3, z, -⟩
            · omega
            · have q := hO.1.2.1 j j1 (by omega)
              rw [← j3] at q
              exact ⟨q.2.2, z⟩
          have hfr3 := (hfr.2 ok0).2.1.1
          have hfr2 := (hfr.2 ok0).1
          have hgr3 := (hgr.2 ok1).2.1.1
          have hgr2 := (hgr.2 ok1).1
          have w0 : M80 (r + 2) b = dp b := by rw [hM80 _ _ (by omega), hD2]
          have w1 : M90 (r + 7 + 0) b = fs0 b := by rw [eM90, kU_cell (by omega), hM80 _ _ (by omega), Int.add_zero, hD7]
          have w2 : M101 (r + 7 + 1) b = fs1 b := by rw [eM101, kU_cell (by omega), eM90, kU_cell (by omega), hM80 _ _ (by omega), show r + 7 + 1 = r + 8 by omega, hE7]
          rw [w0] at eM90
          rw [w1] at eM101
          rw [w2] at eM112
          have fin : ∃ a b c : Int, kMade E0 M E80 M112 q80 3 (fun j => if j = 0 then a else if j = 1 then b else c) ∧ (kIsSeam x n y ny 0 a ∧ kIsSeam x n y ny 1 b ∧ kIsSeam x n y ny 2 c) ∧ (0 ≤ a ∧ a ≤ 40) ∧ (-1 ≤ b ∧ b < 41) ∧ -1 ≤ c ∧ c < 41 := by
            refine ⟨(dp b), (fs0 b), (fs1 b), ⟨⟨by omega, by omega⟩, fun k i hk => ?_, ?_, ?_, fun j j1 j2 => ?_⟩, fin0, by omega, by omega, by omega⟩
            · rw [eM112, kU_cell (by omega), eM101, kU_cell (by omega), eM90, kU_cell (by omega)]; exact hM80 k i hk
            · rw [eM112, kU_place (by omega), eM101, kU_place (by omega), eM90, kU_place (by omega), eM80, kNw_hit]; rfl
            · rw [eM112, kU_place (by omega), eM101, kU_place (by omega), eM90, kU_place (by omega), eM80, kNw_hit]; rfl
            · show _ = (if j = 0 then _ else if j = 1 then _ else _)
              rcases (show j = 0 ∨ j = 1 ∨ j = 2 by omega) with rfl | rfl | rfl
              · rw [if_pos rfl, eM112, kU_place (by omega), eM101, kU_place (by omega), eM90, kU_same]
              · rw [if_neg (by decide), if_pos rfl, eM112, kU_place (by omega), eM101, kU_same]
              · rw [if_neg (by decide), if_neg (by decide), eM112, kU_same]
          refine ends _ _ E80 M112 (q80) _ _ dX3_seam_113 hX hG hP hS ?_
          exact fin
        · skip
          refine k_push hx hb dX3_seam_61 ?_
          refine k_newA (len := 3) S hK hG hP hS (S.2.2.2.2 _ (List.mem_cons_of_mem _ (List.mem_append_left _ (List.mem_of_getElem? (i := 4) rfl)))) (by omega) (by show _ ≤ (1 : Nat); omega) (by show _ ≤ (3 : Nat); omega) dX3_seam_62 (fun E62 H hX62 hn62 hK hG hP hS => ?_)
          obtain ⟨M62, eM62⟩ : ∃ N9 : kM, N9 = kNw M (kn E0) (kIa 3) := ⟨_, rfl⟩
          rw [← eM62] at hP
          have hM62 : ∀ k i : Int, k < kn E0 → M62 k i = M k i := fun k i hk => by rw [eM62]; exact kNw_ne (by omega)
          obtain ⟨q62, eq62⟩ : ∃ q : Int, q = kn E0 := ⟨_, rfl⟩
          rw [← eq62] at eM62 ⊢
          have hl : lv_has ls 4 [(0, .ref (E62.2.2 r)), (1, .int (zI b)), (2, .int (zI k))] := by rw [hX62.ad (c := r) (by omega)]; exact hl
          have hL := hL.ext hX62 (fun k i _ hk => hM62 k i hk)
          have hX := hX.tr hX62
          have hq62 : M62 q62 (-2) = 0 ∧ M62 q62 (-1) = 3 := by rw [eM62, kNw_hit]; exact ⟨rfl, rfl⟩
          refine W.widen (k := 1) (n := 3) (by omega) (by omega) ?_
          refine lv_dup hx hb dX3_seam_64 rfl ?_
          refine k_push hx hb dX3_seam_65 ?_
          refine k_push hx hb dX3_seam_66 ?_
          refine k_astG S hK hG hP hS (3) (by unfold kArr; exact Or.inr (Or.inr ⟨by omega, by omega, hq62.1, hq62.2, by omega, by omega⟩)) (by omega) dX3_seam_67 (fun H locs hP hS => ?_)
          obtain ⟨M67, eM67⟩ : ∃ N9 : kM, N9 = kU M62 q62 0 0 := ⟨_, rfl⟩
          rw [← eM67] at hP
          have hL : kLy E62 M67 r := hL.of (fun k i k1 k2 _ => by rw [eM67, kU_cell (by omega)])
          have hq62 : M67 q62 (-2) = 0 ∧ M67 q62 (-1) = 3 := by rw [eM67, kU_place (by omega), kU_place (by omega)]; exact hq62
          refine lv_dup hx hb dX3_seam_68 rfl ?_
          refine k_push hx hb dX3_seam_69 ?_
          refine k_push hx hb dX3_seam_70 ?_
          refine k_astG S hK hG hP hS (3) (by unfold kArr; exact Or.inr (Or.inr ⟨by omega, by omega, hq62.1, hq62.2, by omega, by omega⟩)) (by omega) dX3_seam_71 (fun H locs hP hS => ?_)
          obtain ⟨M71, eM71⟩ : ∃ N9 : kM, N9 = kU M67 q62 1 (-1) := ⟨_, rfl⟩
          rw [← eM71] at hP
          have hL : kLy E62 M71 r := hL.of (fun k i k1 k2 _ => by rw [eM71, kU_cell (by omega)])
          have hq62 : M71 q62 (-2) = 0 ∧ M71 q62 (-1) = 3 := by rw [eM71, kU_place (by omega), kU_place (by omega)]; exact hq62
          refine lv_dup hx hb dX3_seam_72 rfl ?_
          refine k_push hx hb dX3_seam_73 ?_
          refine k_push hx hb dX3_seam_74 ?_
          refine k_astG S hK hG hP hS (3) (by unfold kArr; exact Or.inr (Or.inr ⟨by omega, by omega, hq62.1, hq62.2, by omega, by omega⟩)) (by omega) dX3_seam_75 (fun H locs hP hS => ?_)
          obtain ⟨M75, eM75⟩ : ∃ N9 : kM, N9 = kU M71 q62 2 (-1) := ⟨_, rfl⟩
          rw [← eM75] at hP
          have hL : kLy E62 M75 r := hL.of (fun k i k1 k2 _ => by rw [eM75, kU_cell (by omega)])
          have hq62 : M75 q62 (-2) = 0 ∧ M75 q62 (-1) = 3 := by rw [eM75, kU_place (by omega), kU_place (by omega)]; exact hq62
          have fin0 := kIsSeam_of T U hO (by rw [show k = R by omega] at hp; exact hp) (z0 := 0) (z1 := -1) (z2 := -1) (fun _ => ⟨rfl, rfl, rfl⟩) (fun z => absurd c_58 z)
          have fin : ∃ a b c : Int, kMade E0 M E62 M75 q62 3 (fun j => if j = 0 then a else if j = 1 then b else c) ∧ (kIsSeam x n y ny 0 a ∧ kIsSeam x n y ny 1 b ∧ kIsSeam x n y ny 2 c) ∧ (0 ≤ a ∧ a ≤ 40) ∧ (-1 ≤ b ∧ b < 41) ∧ -1 ≤ c ∧ c < 41 := by
            refine ⟨0, -1, -1, ⟨⟨by omega, by omega⟩, fun k i hk => ?_, ?_, ?_, fun j j1 j2 => ?_⟩, fin0, by omega, by omega, by omega⟩
            · rw [eM75, kU_cell (by omega), eM71, kU_cell (by omega), eM67, kU_cell (by omega)]; exact hM62 k i hk
            · rw [eM75, kU_place (by omega), eM71, kU_place (by omega), eM67, kU_place (by omega), eM62, kNw_hit]; rfl
            · rw [eM75, kU_place (by omega), eM71, kU_place (by omega), eM67, kU_place (by omega), eM62, kNw_hit]; rfl
            · show _ = (if j = 0 then _ else if j = 1 then _ else _)
              rcases (show j = 0 ∨ j = 1 ∨ j = 2 by omega) with rfl | rfl | rfl
              · rw [if_pos rfl, eM75, kU_place (by omega), eM71, kU_place (by omega), eM67, kU_same]
              · rw [if_neg (by decide), if_pos rfl, eM75, kU_place (by omega), eM71, kU_same]
              · rw [if_neg (by decide), if_neg (by decide), eM75, kU_same]
          refine lv_goto (tgt := 113) hx hb dX3_seam_76 (by decide) ?_
          refine ends _ _ E62 M75 (q62) _ _ dX3_seam_113 hX hG hP hS ?_
          exact fin
      · skip
        refine lv_aload_n hx hb dX3_seam_14 rfl (lv_at hl 0 rfl) ?_
        refine k_rowsR S hK hP hinX30 6 (by decide) (by decide) (S.2.2.2.2 _ (List.mem_cons_of_mem _ (List.mem_append_left _ (List.mem_of_getElem? (i := 1) rfl)))) dX3_seam_15 ⟨hL.1.1, by have := hL.1.2.1; omega, hL.1.2.2⟩ (a := E0.2.2 (r + 12)) (hL.fld 12 (by unfold kRfd; omega) (by omega)) rfl ?_
        refine k_push hx hb dX3_seam_18 ?_
        refine k_aald S hK hP 2 (hL.grp 12 (by unfold kRgp; omega) (by omega)) (by omega) (a := E0.2.2 (r + 13 + 0)) (hL.row 12 (by unfold kRgp; omega) (by omega) (by omega) (by omega)) dX3_seam_19 ?_
        refine lv_iload_n hx hb dX3_seam_20 rfl (lv_at hl 2 rfl) ?_
        refine k_ald S hK hP (900) (hL.arr (13 + 0) 900 (by unfold kRof; omega) (by omega)) (by omega) dX3_seam_21 ?_
        refine k_nm (fun v3_22 ev3_22 => ?_)
        refine lv_istore_n (lv' := [(3, .int (zI v3_22)), (0, .ref (E0.2.2 r)), (1, .int (zI b)), (2, .int (zI k))]) hx hb dX3_seam_22 rfl hl (by decide) rfl (fun ls hl => ?_)
        refine lv_aload_n hx hb dX3_seam_23 rfl (lv_at hl 1 rfl) ?_
        have ho : v3_22 = o k := by rw [ev3_22, Int.add_zero, hD13]
        have hok := hO.1.2.1 k h1.1 (by omega)
        rw [← ho] at hok
        have hok1 := hok.1
        have hok2 := hok.2.1
        have hmr := U.mnr (v := v3_22) (by omega)
        have hdr := T.2.1 v3_22 hok1 hok2
        have hdb := T.dpr (v := b) h2
        have z1 : M (r + 4 + 1) v3_22 = mn1 v3_22 := by rw [show r + 4 + 1 = r + 5 by omega, hE4]
        have z2 : M (r + 2) v3_22 = dp v3_22 := by rw [hD2]
        have z3 : M (r + 2) b = dp b := by rw [hD2]
        refine k_rowsR S hK hP hinX30 2 (by decide) (by decide) (S.2.2.2.2 _ (List.mem_cons_of_mem _ (List.mem_append_left _ (List.mem_of_getElem? (i := 2) rfl)))) dX3_seam_24 ⟨hL.1.1, by have := hL.1.2.1; omega, hL.1.2.2⟩ (a := E0.2.2 (r + 3)) (hL.fld 3 (by unfold kRfd; omega) (by omega)) rfl ?_
        refine k_push hx hb dX3_seam_27 ?_
        refine k_aald S hK hP 2 (hL.grp 3 (by unfold kRgp; omega) (by omega)) (by omega) (a := E0.2.2 (r + 4 + 1)) (hL.row 3 (by unfold kRgp; omega) (by omega) (by omega) (by omega)) dX3_seam_28 ?_
        refine lv_iload_n hx hb dX3_seam_29 rfl (lv_at hl 0 rfl) ?_
        refine k_ald S hK hP (1700) (hL.arr (4 + 1) 1700 (by unfold kRof; omega) (by omega)) (by omega) dX3_seam_30 ?_
        refine k_le0 (tgt := 51) hx hb dX3_seam_31 (by decide) (by omega) (fun c_31 => ?_) (fun c_31 => ?_)
        · skip
          obtain ⟨v2_51, ev2_51⟩ : ∃ v : Int, v = k + 1 := ⟨_, rfl⟩
          refine k_incN (v := v2_51) (lv' := [(2, .int (zI v2_51)), (3, .int (zI v3_22)), (0, .ref (E0.2.2 r)), (1, .int (zI b))]) hx hb dX3_seam_51 hl (k := 3) rfl ev2_51 (by decide) rfl (fun ls hl => ?_)
          refine lv_goto (tgt := 4) hx hb dX3_seam_54 (by decide) ?_
          refine ih_4 b v2_51 (by omega) ?_ (by omega) (by omega) _ (lv_sub hl [2, 3, 0] rfl)
          · rw [ev2_51]
            first | exact kPick_skip hp h00 (Or.inl (by show ¬ 0 < mn1 (o k); rw [← ho]; omega)) | exact kPick_skip hp h00 (Or.inr ⟨by rw [← ho]; omega, by rw [← ho]; omega⟩) | (rw [ho]; exact kPick_new hp h1.1 (by show 0 < mn1 (o k); rw [← ho]; omega) (by rw [← ho]; omega))
        · skip
          refine lv_aload_n hx hb dX3_seam_34 rfl (lv_at hl 1 rfl) ?_
          refine k_rowsR S hK hP hinX30 1 (by decide) (by decide) (S.2.2.2.2 _ (List.mem_cons_of_mem _ (List.mem_append_left _ (List.mem_of_getElem? (i := 3) rfl)))) dX3_seam_35 ⟨hL.1.1, by have := hL.1.2.1; omega, hL.1.2.2⟩ (a := E0.2.2 (r + 2)) (hL.fld 2 (by unfold kRfd; omega) (by omega)) rfl ?_
          refine lv_iload_n hx hb dX3_seam_38 rfl (lv_at hl 0 rfl) ?_
          refine k_ald S hK hP (1700) (hL.arr (2) 1700 (by unfold kRof; omega) (by omega)) (by omega) dX3_seam_39 ?_
          refine lv_aload_n hx hb dX3_seam_40 rfl (lv_at hl 1 rfl) ?_
          refine k_rowsR S hK hP hinX30 1 (by decide) (by decide) (S.2.2.2.2 _ (List.mem_cons_of_mem _ (List.mem_append_left _ (List.mem_of_getElem? (i := 3) rfl)))) dX3_seam_41 ⟨hL.1.1, by have := hL.1.2.1; omega, hL.1.2.2⟩ (a := E0.2.2 (r + 2)) (hL.fld 2 (by unfold kRfd; omega) (by omega)) rfl ?_
          refine lv_iload_n hx hb dX3_seam_44 rfl (lv_at hl 2 rfl) ?_
          refine k_ald S hK hP (1700) (hL.arr (2) 1700 (by unfold kRof; omega) (by omega)) (by omega) dX3_seam_45 ?_
          refine k_le (tgt := 51) hx hb dX3_seam_46 (by decide) (by omega) (fun c_46 => ?_) (fun c_46 => ?_)
          · skip
            obtain ⟨v2_51, ev2_51⟩ : ∃ v : Int, v = k + 1 := ⟨_, rfl⟩
            refine k_incN (v := v2_51) (lv' := [(2, .int (zI v2_51)), (3, .int (zI v3_22)), (0, .ref (E0.2.2 r)), (1, .int (zI b))]) hx hb dX3_seam_51 hl (k := 3) rfl ev2_51 (by decide) rfl (fun ls hl => ?_)
            refine lv_goto (tgt := 4) hx hb dX3_seam_54 (by decide) ?_
            refine ih_4 b v2_51 (by omega) ?_ (by omega) (by omega) _ (lv_sub hl [2, 3, 0] rfl)
            · rw [ev2_51]
              first | exact kPick_skip hp h00 (Or.inl (by show ¬ 0 < mn1 (o k); rw [← ho]; omega)) | exact kPick_skip hp h00 (Or.inr ⟨by rw [← ho]; omega, by rw [← ho]; omega⟩) | (rw [ho]; exact kPick_new hp h1.1 (by show 0 < mn1 (o k); rw [← ho]; omega) (by rw [← ho]; omega))
          · skip
            refine lv_iload_n hx hb dX3_seam_49 rfl (lv_at hl 0 rfl) ?_
            refine lv_istore_n (lv' := [(1, .int (zI v3_22)), (3, .int (zI v3_22)), (0, .ref (E0.2.2 r)), (2, .int (zI k))]) hx hb dX3_seam_50 rfl hl (by decide) rfl (fun ls hl => ?_)
            obtain ⟨v2_51, ev2_51⟩ : ∃ v : Int, v = k + 1 := ⟨_, rfl⟩
            refine k_incN (v := v2_51) (lv' := [(2, .int (zI v2_51)), (1, .int (zI v3_22)), (3, .int (zI v3_22)), (0, .ref (E0.2.2 r))]) hx hb dX3_seam_51 hl (k := 3) rfl ev2_51 (by decide) rfl (fun ls hl => ?_)
            refine lv_goto (tgt := 4) hx hb dX3_seam_54 (by decide) ?_
            refine ih_4 v3_22 v2_51 (by omega) ?_ (by omega) (by omega) _ (lv_sub hl [3, 1, 0] rfl)
            · rw [ev2_51]
              first | exact kPick_skip hp h00 (Or.inl (by show ¬ 0 < mn1 (o k); rw [← ho]; omega)) | exact kPick_skip hp h00 (Or.inr ⟨by rw [← ho]; omega, by rw [← ho]; omega⟩) | (rw [ho]; exact kPick_new hp h1.1 (by show 0 < mn1 (o k); rw [← ho]; omega) (by rw [← ho]; omega))
  refine lp_4 (((R - 0 : Int)).toNat + 1) 0 0 (by omega) (by exact kPick_0 _ _ _) (by omega) (by omega) _ (lv_sub hl [2, 1, 0] rfl)
