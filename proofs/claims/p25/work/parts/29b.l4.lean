def rX3_walk (f : Nat) : Room := { frames := f, cells := 0, slots := 0, locals := 24 * f }
set_option maxHeartbeats 4000000 in
set_option maxRecDepth 100000 in
/-- walk: all that is below a node, in order -/
theorem c_X3_walk (l : Launch) (E : kE) (hE : kInj E) (r h K : Int) (nx dp mnh fsh enh : Int → Int) (wd : Int → Int → Int) (x : Int → Int) (n : Int) (hh : 0 ≤ h ∧ h < 2) (T : kTree nx dp mnh fsh enh K wd x n) : ∀ (f : Nat) (M : kM) (v : Int), kLy E M r → (M (r + 1) = nx ∧ M (r + 4 + h) = mnh ∧ M (r + 10 + h) = enh) → (0 ≤ v ∧ v < K) → (v = 0 ∨ 0 < mnh v) → dp v + (f : Int) = 41 → kSt (kOkO mnh K) (kLtO wd dp) (M (r + 13 + h)) (M (r + 15) h) → (∀ i : Int, 0 ≤ i → i < M (r + 15) h → kBeO dp wd (M (r + 13 + h) i) v) → kSt (kOkP n) (kLtP x n) (M (r + 17 + h)) (M (r + 19) h) → (∀ i : Int, 0 ≤ i → i < M (r + 19) h → kBeP dp wd x n (M (r + 17 + h) i) v) → kRV l yX3_walk wsX3_walk (rX3_walk f) E M [.ref (E.2.2 r), .int (zI h), .int (zI v)] (fun M1 => (∀ k i : Int, k ≠ r + 13 + h → (k ≠ r + 15 ∨ i ≠ h) → k ≠ r + 17 + h → (k ≠ r + 19 ∨ i ≠ h) → M1 k i = M k i) ∧ kLy E M1 r ∧ kQ (kOkO mnh K) (kLtO wd dp) (M (r + 13 + h)) (M (r + 15) h) (M1 (r + 13 + h)) (M1 (r + 15) h) (kPrO dp wd v) ∧ kQ (kOkP n) (kLtP x n) (M (r + 17 + h)) (M (r + 19) h) (M1 (r + 17 + h)) (M1 (r + 19) h) (kPrP dp wd x n v)) := by
  intro f
  induction f with
  | zero =>
    intro M v hL hD hv hvm hf
    exfalso
    have := T.dpr hv
    omega
  | succ f ih =>
    intro M v hL hD hv hvm hf hO hOb hQ hQb
    refine kRV_of (cc := cX3_walk) (maxL := 5) RX3 (by decide) rfl rfl (Nat.le_of_ble_eq_true rfl) ?_
    intro pg en s0 mi ar bl me co ls Q S hP hS hK ends hl
    have hx := S.1
    have hb := S.2.1
    have hn := hK.2.2.2
    have hinX30 : ∀ w ∈ wsX30, w ∈ wsX3_walk := fun w h => List.mem_cons_of_mem _ (List.mem_append_right _ (h))
    have hl : lv_has ls 5 [(0, .ref (E.2.2 r)), (1, .int (zI h)), (2, .int (zI v))] := hl
    obtain ⟨hD1, hD4, hD10⟩ := hD
    obtain ⟨r1, r2, r3⟩ := hL.1
    have hdv := T.dpr hv
    have hen : M (r + 10 + h) v = enh v := by rw [hD10]
    have hen2 := T.2.2.2.2.2.1 v hv.1 hv.2
    have hKb := T.1.1
    have hnb := T.1.2.2.1
    have chO := T.chO hv
    have chP := T.chP hv
    have henr : 0 ≤ enh v ∧ enh v ≤ 40 := by rcases hen2 with q | q <;> omega
    have hrP := T.roomP hQ
    have hOr := hO.1
    have jn_28 : ∀  (M_28 : kM) (H : Heap) (locs : List Loc), (kLy E M_28 r) → (∀ k i : Int, k ≠ r + 13 + h → (k ≠ r + 15 ∨ i ≠ h) → M_28 k i = M k i) → (kQ (kOkO mnh K) (kLtO wd dp) (M (r + 13 + h)) (M (r + 15) h) (M_28 (r + 13 + h)) (M_28 (r + 15) h) (kDnO dp wd v 0)) → va_P E.1 vwCl (kW E M_28) H → va_S (kA E s0.heap.size) s0.heap H locs → ∀ ls : Array Slot, lv_has ls 5 [(0, .ref (E.2.2 r)), (1, .int (zI h)), (2, .int (zI v))] → W pg l en (rX3_walk (f + 1)) s0 mi ar bl me co H locs 0 0 Q (F0 mi 28 ls []) := by
      intro M_28 H locs hL hF1 jO hP hS ls hl
      have hen28 : M_28 (r + 10 + h) v = enh v := by rw [hF1 _ _ (by omega) (by omega), hen]
      have hrP28 : M_28 (r + 19) h = M (r + 19) h := hF1 _ _ (by omega) (by omega)
      have jn_72 : ∀  (M_72 : kM) (H : Heap) (locs : List Loc), (kLy E M_72 r) → (∀ k i : Int, k ≠ r + 13 + h → (k ≠ r + 15 ∨ i ≠ h) → k ≠ r + 17 + h → (k ≠ r + 19 ∨ i ≠ h) → M_72 k i = M k i) → (kQ (kOkO mnh K) (kLtO wd dp) (M (r + 13 + h)) (M (r + 15) h) (M_72 (r + 13 + h)) (M_72 (r + 15) h) (kDnO dp wd v 0)) → (kQ (kOkP n) (kLtP x n) (M (r + 17 + h)) (M (r + 19) h) (M_72 (r + 17 + h)) (M_72 (r + 19) h) (kDnP dp wd x n v 0)) → va_P E.1 vwCl (kW E M_72) H → va_S (kA E s0.heap.size) s0.heap H locs → ∀ ls : Array Slot, lv_has ls 5 [(0, .ref (E.2.2 r)), (1, .int (zI h)), (2, .int (zI v))] → W pg l en (rX3_walk (f + 1)) s0 mi ar bl me co H locs 0 0 Q (F0 mi 72 ls []) := by
        intro M_72 H locs hL hF jO jP hP hS ls hl
        refine k_push hx hb dX3_walk_72 ?_
        refine lv_istore_n (lv' := [(3, .int (zI 0)), (0, .ref (E.2.2 r)), (1, .int (zI h)), (2, .int (zI v))]) hx hb dX3_walk_73 rfl hl (by decide) rfl (fun ls hl => ?_)
        have lp_74 : ∀ (n_74 : Nat) (q : Int) (M_74 : kM) (H : Heap) (locs : List Loc), (0 ≤ q ∧ q ≤ 9) → (kLy E M_74 r) → (∀ k i : Int, k ≠ r + 13 + h → (k ≠ r + 15 ∨ i ≠ h) → k ≠ r + 17 + h → (k ≠ r + 19 ∨ i ≠ h) → M_74 k i = M k i) → (kQ (kOkO mnh K) (kLtO wd dp) (M (r + 13 + h)) (M (r + 15) h) (M_74 (r + 13 + h)) (M_74 (r + 15) h) (kDnO dp wd v q)) → (kQ (kOkP n) (kLtP x n) (M (r + 17 + h)) (M (r + 19) h) (M_74 (r + 17 + h)) (M_74 (r + 19) h) (kDnP dp wd x n v q)) → (9 - q < (n_74 : Int)) → va_P E.1 vwCl (kW E M_74) H → va_S (kA E s0.heap.size) s0.heap H locs → ∀ ls : Array Slot, lv_has ls 5 [(0, .ref (E.2.2 r)), (1, .int (zI h)), (2, .int (zI v)), (3, .int (zI q))] → W pg l en (rX3_walk (f + 1)) s0 mi ar bl me co H locs 0 0 Q (F0 mi 74 ls []) := by
          intro n_74
          induction n_74 with
          | zero => intro q M_74 H locs h1 hL hF jO jP hm_74; exfalso; omega
          | succ n_74 ih_74 =>
            intro q M_74 H locs h1 hL hF jO jP hm_74 hP hS ls hl
            refine lv_iload_n hx hb dX3_walk_74 rfl (lv_at hl 3 rfl) ?_
            refine k_bpush hx hb dX3_walk_75 (by decide) ?_
            refine k_ge (tgt := 123) hx hb dX3_walk_77 (by decide) (by omega) (fun c_77 => ?_) (fun c_77 => ?_)
            · skip
              refine ends _ _ M_74 _ _ dX3_walk_123 hP hS ?_
              exact ⟨hF, hL, kWk_end chO (by rw [show q = 9 by omega] at jO; exact jO), kWk_end chP (by rw [show q = 9 by omega] at jP; exact jP)⟩
            · skip
              refine lv_aload_n hx hb dX3_walk_80 rfl (lv_at hl 0 rfl) ?_
              refine k_rowsR S hK hP hinX30 0 (by decide) (by decide) (S.2.2.2.2 _ (List.mem_cons_of_mem _ (List.mem_append_left _ (List.mem_of_getElem? (i := 5) rfl)))) dX3_walk_81 ⟨hL.1.1, by have := hL.1.2.1; omega, hL.1.2.2⟩ (a := E.2.2 (r + 1)) (hL.fld 1 (by unfold kRfd; omega) (by omega)) rfl ?_
              refine k_bpush hx hb dX3_walk_84 (by decide) ?_
              refine lv_iload_n hx hb dX3_walk_86 rfl (lv_at hl 2 rfl) ?_
              refine k_mul hx hb dX3_walk_87 ?_
              refine lv_iload_n hx hb dX3_walk_88 rfl (lv_at hl 3 rfl) ?_
              refine k_add hx hb dX3_walk_89 ?_
              refine k_ald S hK hP (15300) (hL.arr (1) 15300 (by unfold kRof; omega) (by omega)) (by omega) dX3_walk_90 ?_
              refine k_nm (fun v4_91 ev4_91 => ?_)
              refine lv_istore (lv' := [(4, .int (zI v4_91)), (0, .ref (E.2.2 r)), (1, .int (zI h)), (2, .int (zI v)), (3, .int (zI q))]) hx hb dX3_walk_91 hl (by decide) rfl (fun ls hl => ?_)
              have hto : v4_91 = nx (9 * v + q) := by rw [ev4_91, hF _ _ (by omega) (by omega) (by omega) (by omega), hD1]
              have hkid := T.2.2.2.1 v q hv.1 hv.2 h1.1 (by omega)
              rw [← hto] at hkid
              have hvr : 0 ≤ v4_91 ∧ v4_91 < 2000 := by rcases hkid with z | ⟨z1, z2, -⟩ <;> omega
              have hmv : M_74 (r + 4 + h) v4_91 = mnh v4_91 := by rw [hF _ _ (by omega) (by omega) (by omega) (by omega), hD4]
              have hmr := T.mnr hvr.1
              refine lv_iload hx hb dX3_walk_93 (lv_at hl 0 rfl) ?_
              refine k_le0 (tgt := 117) hx hb dX3_walk_95 (by decide) (by omega) (fun c_95 => ?_) (fun c_95 => ?_)
              · skip
                obtain ⟨v3_117, ev3_117⟩ : ∃ v : Int, v = q + 1 := ⟨_, rfl⟩
                refine k_incN (v := v3_117) (lv' := [(3, .int (zI v3_117)), (4, .int (zI v4_91)), (0, .ref (E.2.2 r)), (1, .int (zI h)), (2, .int (zI v))]) hx hb dX3_walk_117 hl (k := 4) rfl ev3_117 (by decide) rfl (fun ls hl => ?_)
                refine lv_goto (tgt := 74) hx hb dX3_walk_120 (by decide) ?_
                refine ih_74 v3_117 M_74 _ _ (by omega) (by exact hL) (by exact hF) ?_ ?_ (by omega) hP hS _ (lv_sub hl [2, 3, 4, 0] rfl)
                · rw [ev3_117]
                  first | exact kWk_none chO (by rw [← hto]; exact Or.inl (by omega)) jO | exact kWk_none chO (by rw [← hto]; exact Or.inr (by omega)) jO | exact jO2
                · rw [ev3_117]
                  first | exact kWk_none chP (by rw [← hto]; exact Or.inl (by omega)) jP | exact kWk_none chP (by rw [← hto]; exact Or.inr (by omega)) jP | exact jP2
              · skip
                refine lv_aload_n hx hb dX3_walk_98 rfl (lv_at hl 1 rfl) ?_
                refine k_rowsR S hK hP hinX30 2 (by decide) (by decide) (S.2.2.2.2 _ (List.mem_cons_of_mem _ (List.mem_append_left _ (List.mem_of_getElem? (i := 6) rfl)))) dX3_walk_99 ⟨hL.1.1, by have := hL.1.2.1; omega, hL.1.2.2⟩ (a := E.2.2 (r + 3)) (hL.fld 3 (by unfold kRfd; omega) (by omega)) rfl ?_
                refine lv_iload_n hx hb dX3_walk_102 rfl (lv_at hl 2 rfl) ?_
                refine k_aald S hK hP 2 (hL.grp 3 (by unfold kRgp; omega) (by omega)) (by omega) (a := E.2.2 (r + 4 + h)) (hL.row 3 (by unfold kRgp; omega) (by omega) (by omega) (by omega)) dX3_walk_103 ?_
                refine lv_iload hx hb dX3_walk_104 (lv_at hl 0 rfl) ?_
                refine k_ald S hK hP (1700) (hL.arr (4 + h) 1700 (by unfold kRof; omega) (by omega)) (by omega) dX3_walk_106 ?_
                refine k_le0 (tgt := 117) hx hb dX3_walk_107 (by decide) (by omega) (fun c_107 => ?_) (fun c_107 => ?_)
                · skip
                  obtain ⟨v3_117, ev3_117⟩ : ∃ v : Int, v = q + 1 := ⟨_, rfl⟩
                  refine k_incN (v := v3_117) (lv' := [(3, .int (zI v3_117)), (4, .int (zI v4_91)), (0, .ref (E.2.2 r)), (1, .int (zI h)), (2, .int (zI v))]) hx hb dX3_walk_117 hl (k := 4) rfl ev3_117 (by decide) rfl (fun ls hl => ?_)
                  refine lv_goto (tgt := 74) hx hb dX3_walk_120 (by decide) ?_
                  refine ih_74 v3_117 M_74 _ _ (by omega) (by exact hL) (by exact hF) ?_ ?_ (by omega) hP hS _ (lv_sub hl [2, 3, 4, 0] rfl)
                  · rw [ev3_117]
                    first | exact kWk_none chO (by rw [← hto]; exact Or.inl (by omega)) jO | exact kWk_none chO (by rw [← hto]; exact Or.inr (by omega)) jO | exact jO2
                  · rw [ev3_117]
                    first | exact kWk_none chP (by rw [← hto]; exact Or.inl (by omega)) jP | exact kWk_none chP (by rw [← hto]; exact Or.inr (by omega)) jP | exact jP2
                · skip
                  have hmk : 0 < mnh v4_91 := by rw [← hmv]; exact c_107
                  have kid := (hkid.resolve_left (by omega)).2.2
                  refine lv_aload_n hx hb dX3_walk_110 rfl (lv_at hl 1 rfl) ?_
                  refine lv_iload_n hx hb dX3_walk_111 rfl (lv_at hl 2 rfl) ?_
                  refine lv_iload hx hb dX3_walk_112 (lv_at hl 0 rfl) ?_
                  refine k_callVV (As := [.int (zI h), .int (zI v4_91)]) (rest := []) S hK hP hS (ih M_74 v4_91 hL ⟨(funext (fun i => hF _ i (by omega) (by omega) (by omega) (by omega))).trans hD1, (funext (fun i => hF _ i (by omega) (by omega) (by omega) (by omega))).trans hD4, (funext (fun i => hF _ i (by omega) (by omega) (by omega) (by omega))).trans hD10⟩ (by omega) (Or.inr hmk) (by rw [kid.1]; omega) jO.st (kWk_bel hdv.1 kid jO hOb) jP.st (kWk_bel hdv.1 kid jP hQb)) (cwV 2 S.2.2.2.2 gX3_walk_X3_walk rfl rfl rfl (by decide +kernel) ⟨by show f + 1 ≤ f + 1; omega, by show 8 + (5 + 11) + 24 * f ≤ 24 * (f + 1); omega⟩) (k_rRows hK hP ⟨hL.1.1, by have := hL.1.2.1; omega, hL.1.2.2⟩) rfl hl.1 rfl (Nat.le_of_ble_eq_true rfl) dX3_walk_114 ⟨Nat.le_of_ble_eq_true rfl, Nat.le_of_ble_eq_true rfl⟩ (fun M_114 H locs h_114 hP hS => ?_)
                  obtain ⟨pF, pL, pO, pP⟩ := h_114
                  have hL := pL
                  have hF : ∀ k i : Int, k ≠ r + 13 + h → (k ≠ r + 15 ∨ i ≠ h) → k ≠ r + 17 + h → (k ≠ r + 19 ∨ i ≠ h) → M_114 k i = M k i := fun k2 i a1 a2 a3 a4 => (pF k2 i a1 a2 a3 a4).trans (hF k2 i a1 a2 a3 a4)
                  have jO2 : kQ (kOkO mnh K) (kLtO wd dp) (M (r + 13 + h)) (M (r + 15) h) (M_114 (r + 13 + h)) (M_114 (r + 15) h) (kDnO dp wd v (q + 1)) := kWk_kid hdv.1 hto kid chO jO pO
                  have jP2 : kQ (kOkP n) (kLtP x n) (M (r + 17 + h)) (M (r + 19) h) (M_114 (r + 17 + h)) (M_114 (r + 19) h) (kDnP dp wd x n v (q + 1)) := kWk_kid hdv.1 hto kid chP jP pP
                  obtain ⟨v3_117, ev3_117⟩ : ∃ v : Int, v = q + 1 := ⟨_, rfl⟩
                  refine k_incN (v := v3_117) (lv' := [(3, .int (zI v3_117)), (4, .int (zI v4_91)), (0, .ref (E.2.2 r)), (1, .int (zI h)), (2, .int (zI v))]) hx hb dX3_walk_117 hl (k := 4) rfl ev3_117 (by decide) rfl (fun ls hl => ?_)
                  refine lv_goto (tgt := 74) hx hb dX3_walk_120 (by decide) ?_
                  refine ih_74 v3_117 M_114 _ _ (by omega) (by exact hL) (by exact hF) ?_ ?_ (by omega) hP hS _ (lv_sub hl [2, 3, 4, 0] rfl)
                  · rw [ev3_117]
                    first | exact kWk_none chO (by rw [← hto]; exact Or.inl (by omega)) jO | exact kWk_none chO (by rw [← hto]; exact Or.inr (by omega)) jO | exact jO2
                  · rw [ev3_117]
                    first | exact kWk_none chP (by rw [← hto]; exact Or.inl (by omega)) jP | exact kWk_none chP (by rw [← hto]; exact Or.inr (by omega)) jP | exact jP2
        refine lp_74 (((9 - 0 : Int)).toNat + 1) 0 M_72 _ _ (by omega) (by exact hL) (by exact hF) (by exact jO) (by exact jP) (by omega) hP hS _ (lv_sub hl [1, 2, 3, 0] rfl)
      refine lv_aload_n hx hb dX3_walk_28 rfl (lv_at hl 0 rfl) ?_
      refine k_rowsR S hK hP hinX30 4 (by decide) (by decide) (S.2.2.2.2 _ (List.mem_cons_of_mem _ (List.mem_append_left _ (List.mem_of_getElem? (i := 2) rfl)))) dX3_walk_29 ⟨hL.1.1, by have := hL.1.2.1; omega, hL.1.2.2⟩ (a := E.2.2 (r + 9)) (hL.fld 9 (by unfold kRfd; omega) (by omega)) rfl ?_
      refine lv_iload_n hx hb dX3_walk_32 rfl (lv_at hl 1 rfl) ?_
      refine k_aald S hK hP 2 (hL.grp 9 (by unfold kRgp; omega) (by omega)) (by omega) (a := E.2.2 (r + 10 + h)) (hL.row 9 (by unfold kRgp; omega) (by omega) (by omega) (by omega)) dX3_walk_33 ?_
      refine lv_iload_n hx hb dX3_walk_34 rfl (lv_at hl 2 rfl) ?_
      refine k_ald S hK hP (1700) (hL.arr (10 + h) 1700 (by unfold kRof; omega) (by omega)) (by omega) dX3_walk_35 ?_
      refine k_le0 (tgt := 72) hx hb dX3_walk_36 (by decide) (by omega) (fun c_36 => ?_) (fun c_36 => ?_)
      · skip
        have jP : kQ (kOkP n) (kLtP x n) (M (r + 17 + h)) (M (r + 19) h) (M_28 (r + 17 + h)) (M_28 (r + 19) h) (kDnP dp wd x n v 0) := by
          have e1 : M_28 (r + 17 + h) = M (r + 17 + h) := funext (fun i => hF1 _ i (by omega) (by omega))
          rw [e1, hrP28]
          refine kWk_0 chP hQ (fun a ha z e => ?_)
          have e2 : a + dp v = n := e
          exact (hen2.resolve_right (fun y => by omega)).2 a ha.1 ha.2 ⟨by omega, kEq_symm z.2⟩
        have hF : ∀ k i : Int, k ≠ r + 13 + h → (k ≠ r + 15 ∨ i ≠ h) → k ≠ r + 17 + h → (k ≠ r + 19 ∨ i ≠ h) → M_28 k i = M k i := fun k2 i a1 a2 a3 a4 => hF1 k2 i a1 a2
        refine jn_72 M_28 _ _ (by exact hL) (by exact hF) (by exact jO) (by exact jP) hP hS _ (lv_sub hl [0, 1, 2] rfl)
      · skip
        have hen3 := hen2.resolve_left (fun y => by omega)
        refine lv_aload_n hx hb dX3_walk_39 rfl (lv_at hl 0 rfl) ?_
        refine k_rowsR S hK hP hinX30 8 (by decide) (by decide) (S.2.2.2.2 _ (List.mem_cons_of_mem _ (List.mem_append_left _ (List.mem_of_getElem? (i := 3) rfl)))) dX3_walk_40 ⟨hL.1.1, by have := hL.1.2.1; omega, hL.1.2.2⟩ (a := E.2.2 (r + 16)) (hL.fld 16 (by unfold kRfd; omega) (by omega)) rfl ?_
        refine lv_iload_n hx hb dX3_walk_43 rfl (lv_at hl 1 rfl) ?_
        refine k_aald S hK hP 2 (hL.grp 16 (by unfold kRgp; omega) (by omega)) (by omega) (a := E.2.2 (r + 17 + h)) (hL.row 16 (by unfold kRgp; omega) (by omega) (by omega) (by omega)) dX3_walk_44 ?_
        refine lv_aload_n hx hb dX3_walk_45 rfl (lv_at hl 0 rfl) ?_
        refine k_rowsR S hK hP hinX30 9 (by decide) (by decide) (S.2.2.2.2 _ (List.mem_cons_of_mem _ (List.mem_append_left _ (List.mem_of_getElem? (i := 4) rfl)))) dX3_walk_46 ⟨hL.1.1, by have := hL.1.2.1; omega, hL.1.2.2⟩ (a := E.2.2 (r + 19)) (hL.fld 19 (by unfold kRfd; omega) (by omega)) rfl ?_
        refine lv_iload_n hx hb dX3_walk_49 rfl (lv_at hl 1 rfl) ?_
        refine k_ald S hK hP (2) (hL.arr (19) 2 (by unfold kRof; omega) (by omega)) (by omega) dX3_walk_50 ?_
        refine lv_aload_n hx hb dX3_walk_51 rfl (lv_at hl 0 rfl) ?_
        refine k_rowsR S hK hP hinX30 4 (by decide) (by decide) (S.2.2.2.2 _ (List.mem_cons_of_mem _ (List.mem_append_left _ (List.mem_of_getElem? (i := 2) rfl)))) dX3_walk_52 ⟨hL.1.1, by have := hL.1.2.1; omega, hL.1.2.2⟩ (a := E.2.2 (r + 9)) (hL.fld 9 (by unfold kRfd; omega) (by omega)) rfl ?_
        refine lv_iload_n hx hb dX3_walk_55 rfl (lv_at hl 1 rfl) ?_
        refine k_aald S hK hP 2 (hL.grp 9 (by unfold kRgp; omega) (by omega)) (by omega) (a := E.2.2 (r + 10 + h)) (hL.row 9 (by unfold kRgp; omega) (by omega) (by omega) (by omega)) dX3_walk_56 ?_
        refine lv_iload_n hx hb dX3_walk_57 rfl (lv_at hl 2 rfl) ?_
        refine k_ald S hK hP (1700) (hL.arr (10 + h) 1700 (by unfold kRof; omega) (by omega)) (by omega) dX3_walk_58 ?_
        refine k_push hx hb dX3_walk_59 ?_
        refine k_sub hx hb dX3_walk_60 ?_
        refine k_ast S hK hE hP hS (42) (hL.arr (17 + h) 42 (by unfold kRof; omega) (by omega)) (by omega) dX3_walk_61 (fun H locs hP hS => ?_)
        obtain ⟨M61, eM61⟩ : ∃ N9 : kM, N9 = kU M_28 (r + 17 + h) (M_28 (r + 19) h) ((M_28 (r + 10 + h) v) - 1) := ⟨_, rfl⟩
        rw [← eM61] at hP
        have hL := hL.put eM61 (by omega) (17 + h) 42 (by unfold kRof; omega) (by omega)
        refine lv_aload_n hx hb dX3_walk_62 rfl (lv_at hl 0 rfl) ?_
        refine k_rowsR S hK hP hinX30 9 (by decide) (by decide) (S.2.2.2.2 _ (List.mem_cons_of_mem _ (List.mem_append_left _ (List.mem_of_getElem? (i := 4) rfl)))) dX3_walk_63 ⟨hL.1.1, by have := hL.1.2.1; omega, hL.1.2.2⟩ (a := E.2.2 (r + 19)) (hL.fld 19 (by unfold kRfd; omega) (by omega)) rfl ?_
        refine lv_iload_n hx hb dX3_walk_66 rfl (lv_at hl 1 rfl) ?_
        refine lv_dup2_11 hx hb dX3_walk_67 rfl rfl ?_
        refine k_ald S hK hP (2) (hL.arr (19) 2 (by unfold kRof; omega) (by omega)) (by omega) dX3_walk_68 ?_
        refine k_push hx hb dX3_walk_69 ?_
        refine k_add hx hb dX3_walk_70 ?_
        refine k_ast S hK hE hP hS (2) (hL.arr (19) 2 (by unfold kRof; omega) (by omega)) (by omega) dX3_walk_71 (fun H locs hP hS => ?_)
        obtain ⟨M71, eM71⟩ : ∃ N9 : kM, N9 = kU M61 (r + 19) h ((M61 (r + 19) h) + 1) := ⟨_, rfl⟩
        rw [← eM71] at hP
        have hL := hL.put eM71 (by omega) (19) 2 (by unfold kRof; omega) (by omega)
        have hF : ∀ k i : Int, k ≠ r + 13 + h → (k ≠ r + 15 ∨ i ≠ h) → k ≠ r + 17 + h → (k ≠ r + 19 ∨ i ≠ h) → M71 k i = M k i := fun k2 i a1 a2 a3 a4 => by
          by_cases e : k2 = r + 19
          · rw [eM71, e, kU_place (by omega), eM61, kU_cell (by omega), hF1 _ _ (by omega) (by omega)]
          · rw [eM71, kU_cell e, eM61, kU_cell a3, hF1 k2 i a1 a2]
        have jO : kQ (kOkO mnh K) (kLtO wd dp) (M (r + 13 + h)) (M (r + 15) h) (M71 (r + 13 + h)) (M71 (r + 15) h) (kDnO dp wd v 0) := by
          have e1 : M71 (r + 13 + h) = M_28 (r + 13 + h) := by rw [eM71, kU_fn (by omega), eM61, kU_fn (by omega)]
          have e2 : M71 (r + 15) h = M_28 (r + 15) h := by rw [eM71, kU_cell (by omega), eM61, kU_cell (by omega)]
          rw [e1, e2]; exact jO
        have jP : kQ (kOkP n) (kLtP x n) (M (r + 17 + h)) (M (r + 19) h) (M71 (r + 17 + h)) (M71 (r + 19) h) (kDnP dp wd x n v 0) := by
          have e1 : M71 (r + 19) h = M (r + 19) h + 1 := by rw [eM71, kU_same, eM61, kU_cell (by omega), hrP28]
          rw [e1]
          refine kWk_1 (b := enh v - 1) chP hQ ⟨by omega, by omega⟩ ⟨by show enh v - 1 + dp v ≤ n; omega, kEq_symm hen3.2.2.2⟩ (by show enh v - 1 + dp v = n; omega) (fun a ha z e => ?_) hQb ?_ (fun i i1 i2 => ?_)
          · have e2 : a + dp v = n := e
            omega
          · rw [eM71, kU_cell (by omega), eM61, ← hrP28, kU_same, hen28]
          · rw [eM71, kU_cell (by omega), eM61, kU_place (by omega), hF1 _ _ (by omega) (by omega)]
        refine jn_72 M71 _ _ (by exact hL) (by exact hF) (by exact jO) (by exact jP) hP hS _ (lv_sub hl [0, 1, 2] rfl)
    refine lv_iload_n hx hb dX3_walk_0 rfl (lv_at hl 2 rfl) ?_
    refine k_le0 (tgt := 28) hx hb dX3_walk_1 (by decide) (by omega) (fun c_1 => ?_) (fun c_1 => ?_)
    · skip
      have jO : kQ (kOkO mnh K) (kLtO wd dp) (M (r + 13 + h)) (M (r + 15) h) (M (r + 13 + h)) (M (r + 15) h) (kDnO dp wd v 0) := kWk_0 chO hO (fun a ha z e => by
        have v0 : v = 0 := by omega
        have e1 : 0 + dp v = dp a := e
        have := T.2.1 a ha.1 ha.2.1
        rw [v0, T.1.2.1] at e1
        omega)
      refine jn_28 M _ _ (by exact hL) ?_ (by exact jO) hP hS _ (lv_sub hl [0, 1, 2] rfl)
      · first | exact fun _ _ _ _ => rfl | exact hF1
    · skip
      have okv : kOkO mnh K v := ⟨by omega, hv.2, hvm.resolve_left (by omega)⟩
      have hr9 := T.roomO hO okv hOb
      refine lv_aload_n hx hb dX3_walk_4 rfl (lv_at hl 0 rfl) ?_
      refine k_rowsR S hK hP hinX30 6 (by decide) (by decide) (S.2.2.2.2 _ (List.mem_cons_of_mem _ (List.mem_append_left _ (List.mem_of_getElem? (i := 0) rfl)))) dX3_walk_5 ⟨hL.1.1, by have := hL.1.2.1; omega, hL.1.2.2⟩ (a := E.2.2 (r + 12)) (hL.fld 12 (by unfold kRfd; omega) (by omega)) rfl ?_
      refine lv_iload_n hx hb dX3_walk_8 rfl (lv_at hl 1 rfl) ?_
      refine k_aald S hK hP 2 (hL.grp 12 (by unfold kRgp; omega) (by omega)) (by omega) (a := E.2.2 (r + 13 + h)) (hL.row 12 (by unfold kRgp; omega) (by omega) (by omega) (by omega)) dX3_walk_9 ?_
      refine lv_aload_n hx hb dX3_walk_10 rfl (lv_at hl 0 rfl) ?_
      refine k_rowsR S hK hP hinX30 7 (by decide) (by decide) (S.2.2.2.2 _ (List.mem_cons_of_mem _ (List.mem_append_left _ (List.mem_of_getElem? (i := 1) rfl)))) dX3_walk_11 ⟨hL.1.1, by have := hL.1.2.1; omega, hL.1.2.2⟩ (a := E.2.2 (r + 15)) (hL.fld 15 (by unfold kRfd; omega) (by omega)) rfl ?_
      refine lv_iload_n hx hb dX3_walk_14 rfl (lv_at hl 1 rfl) ?_
      refine k_ald S hK hP (2) (hL.arr (15) 2 (by unfold kRof; omega) (by omega)) (by omega) dX3_walk_15 ?_
      refine lv_iload_n hx hb dX3_walk_16 rfl (lv_at hl 2 rfl) ?_
      refine k_ast S hK hE hP hS (900) (hL.arr (13 + h) 900 (by unfold kRof; omega) (by omega)) (by omega) dX3_walk_17 (fun H locs hP hS => ?_)
      obtain ⟨M17, eM17⟩ : ∃ N9 : kM, N9 = kU M (r + 13 + h) (M (r + 15) h) v := ⟨_, rfl⟩
      rw [← eM17] at hP
      have hL := hL.put eM17 (by omega) (13 + h) 900 (by unfold kRof; omega) (by omega)
      refine lv_aload_n hx hb dX3_walk_18 rfl (lv_at hl 0 rfl) ?_
      refine k_rowsR S hK hP hinX30 7 (by decide) (by decide) (S.2.2.2.2 _ (List.mem_cons_of_mem _ (List.mem_append_left _ (List.mem_of_getElem? (i := 1) rfl)))) dX3_walk_19 ⟨hL.1.1, by have := hL.1.2.1; omega, hL.1.2.2⟩ (a := E.2.2 (r + 15)) (hL.fld 15 (by unfold kRfd; omega) (by omega)) rfl ?_
      refine lv_iload_n hx hb dX3_walk_22 rfl (lv_at hl 1 rfl) ?_
      refine lv_dup2_11 hx hb dX3_walk_23 rfl rfl ?_
      refine k_ald S hK hP (2) (hL.arr (15) 2 (by unfold kRof; omega) (by omega)) (by omega) dX3_walk_24 ?_
      refine k_push hx hb dX3_walk_25 ?_
      refine k_add hx hb dX3_walk_26 ?_
      refine k_ast S hK hE hP hS (2) (hL.arr (15) 2 (by unfold kRof; omega) (by omega)) (by omega) dX3_walk_27 (fun H locs hP hS => ?_)
      obtain ⟨M27, eM27⟩ : ∃ N9 : kM, N9 = kU M17 (r + 15) h ((M17 (r + 15) h) + 1) := ⟨_, rfl⟩
      rw [← eM27] at hP
      have hL := hL.put eM27 (by omega) (15) 2 (by unfold kRof; omega) (by omega)
      have hF1 : ∀ k i : Int, k ≠ r + 13 + h → (k ≠ r + 15 ∨ i ≠ h) → M27 k i = M k i := fun k2 i a1 a2 => by
        by_cases e : k2 = r + 15
        · rw [eM27, e, kU_place (by omega), eM17, kU_cell (by omega)]
        · rw [eM27, kU_cell e, eM17, kU_cell a1]
      have jO : kQ (kOkO mnh K) (kLtO wd dp) (M (r + 13 + h)) (M (r + 15) h) (M27 (r + 13 + h)) (M27 (r + 15) h) (kDnO dp wd v 0) := by
        have e1 : M27 (r + 15) h = M (r + 15) h + 1 := by rw [eM27, kU_same, eM17, kU_cell (by omega)]
        rw [e1]
        refine kWk_1 chO hO okv ⟨by show 0 + dp v ≤ dp v; omega, fun _ _ _ => rfl⟩ (by show 0 + dp v = dp v; omega) (fun a ha z e => ?_) hOb ?_ (fun i i1 i2 => ?_)
        · have e2 : 0 + dp v = dp a := e
          exact (T.2.2.1 v a hv.1 hv.2 (by have := ha.1; omega) ha.2.1 (by omega) z.2).symm
        · rw [eM27, kU_cell (by omega), eM17, kU_same]
        · rw [eM27, kU_cell (by omega), eM17, kU_place (by omega)]
      refine jn_28 M27 _ _ (by exact hL) ?_ (by exact jO) hP hS _ (lv_sub hl [0, 1, 2] rfl)
      · first | exact fun _ _ _ _ => rfl | exact hF1
