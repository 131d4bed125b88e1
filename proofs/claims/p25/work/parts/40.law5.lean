/-! the period, as the law looks at it -/
def kPs (x : Int → Int) (p k is : Int) : Prop := (is = 1 ∧ ∀ j : Int, p ≤ j → j < k → x j = x (j - p)) ∨ (is = 0 ∧ ∃ j : Int, p ≤ j ∧ j < k ∧ x j ≠ x (j - p))
theorem kPs_step {x : Int → Int} {p k is d z : Int} (hpk : p ≤ k) (hi : kPs x p k is) (hz : (z = 1 ∧ is = 1 ∧ d = 1) ∨ (z = 0 ∧ (is = 0 ∨ d = 0))) (hd : (d = 1 ∧ x k = x (k - p)) ∨ (d = 0 ∧ x k ≠ x (k - p))) : kPs x p (k + 1) z := by
  rcases hz with ⟨z1, i1, d1⟩ | ⟨z0, w⟩
  · rcases hi with ⟨-, a⟩ | ⟨a, -⟩
    · refine Or.inl ⟨z1, fun j j1 j2 => ?_⟩
      by_cases e : j = k
      · rw [e]; rcases hd with ⟨-, q⟩ | ⟨q, -⟩
        · exact q
        · omega
      · exact a j j1 (by omega)
    · omega
  · refine Or.inr ⟨z0, ?_⟩
    rcases w with w | w
    · rcases hi with ⟨a, -⟩ | ⟨-, j, j1, j2, j3⟩
      · omega
      · exact ⟨j, j1, by omega, j3⟩
    · rcases hd with ⟨q, -⟩ | ⟨-, q⟩
      · omega
      · exact ⟨k, hpk, by omega, q⟩
theorem kPs_fin {x : Int → Int} {n z p k is : Int} (hz : kIsPer x n z) (hp : 1 ≤ p ∧ p ≤ z) (hi : kPs x p k is) (hk : k = n) : (p = z ∧ is = 1) ∨ (p ≠ z ∧ is = 0) := by
  have key : kPer x n p ↔ is = 1 := by
    constructor
    · intro q
      rcases hi with ⟨a, -⟩ | ⟨-, j, j1, j2, j3⟩
      · exact a
      · have := q (j - p) (by omega) (by omega)
        rw [show 0 + (j - p) = j - p by omega, show p + (j - p) = j by omega] at this
        exact absurd this.symm j3
    · intro q
      rcases hi with ⟨-, a⟩ | ⟨a, -⟩
      · intro t t1 t2
        have := a (p + t) (by omega) (by omega)
        rw [show p + t - p = t by omega] at this
        rw [Int.zero_add]
        exact this.symm
      · omega
  rcases hz with ⟨q, r⟩ | ⟨q1, q2, q3, q4⟩
  · omega
  · by_cases e : p = z
    · exact Or.inl ⟨e, key.mp (by rw [e]; exact q3)⟩
    · refine Or.inr ⟨e, ?_⟩
      have no := q4 p hp.1 (by omega)
      rcases hi with ⟨a, -⟩ | ⟨a, -⟩
      · exact absurd (key.mpr a) no
      · exact a
theorem kFst_cnt {x : Int → Int} {n : Int} {s : Int → Int} {m z c : Int} (hf : kIsFirst x n s m z) (hc : c = kCnt (kSmp x n s m) n.toNat) : (z = -1 ∧ c = 0) ∨ (0 ≤ z ∧ z < n ∧ 1 ≤ c ∧ 0 < m) := by
  rcases hf with ⟨a, b⟩ | ⟨a, b, d, -⟩
  · exact Or.inl ⟨a, by rw [hc]; exact kCnt_no _ (fun k k1 k2 => b k k1 (by omega))⟩
  · refine Or.inr ⟨a, b, ?_, d.1⟩
    have := kCnt_has (P := kSmp x n s m) n.toNat a (by omega) d
    omega
theorem kFst_chk {x : Int → Int} {n : Int} {s : Int → Int} {m z k v : Int} (hf : kIsFirst x n s m z) (hk : 0 ≤ k ∧ k ≤ z) (hv : kLC x n k s m 0 v) : (v = m ∧ k = z) ∨ (v ≠ m ∧ k ≠ z) := by
  rcases hf with ⟨a, b⟩ | ⟨a, b, d, e⟩
  · omega
  · have key := kSmp_lc hv d.1
    by_cases q : k = z
    · exact Or.inl ⟨key.mp (by rw [q]; exact d), q⟩
    · exact Or.inr ⟨fun w => e k hk.1 (by omega) (key.mpr w), q⟩
set_option maxHeartbeats 4000000 in
set_option maxRecDepth 100000 in
theorem s_law_per {pg : Program} {l : Launch} {en : Env} {s0 : State} {mi : MethodId} {ar : Array Value} {bl : List Frame} {me : Method} {co : Code} {ls : Array Slot} {Q : State → Prop} {H : Heap} {locs : List Loc} {E0 E : kE} {M N : kM} {g h n c x sum pairs time dg most shared rows : Int} {y : Int → Int} {bs cells slots : Nat} (hI : kI0 M) (hV : kVs E0 E M N g y) (hh : 0 ≤ h ∧ h < 2) (hnn : n = M h 1) (har : kArr E N c n) (hav : ∀ j : Int, 0 ≤ j → j < n → N c j = M (h + 3) j) (S : CallFix pg mi co cL_law 23 s0 ar wsL_law RL) (hP : va_P E.1 vwCl (kW E N) H) (hK : kK E s0) (hcs0 : cells ≤ 600130 ∧ slots ≤ 7301080)
    (jn_829 :  ∀ ls : Array Slot, lv_has ls 23 [(0, .ref bs), (1, .ref (E.2.2 10)), (2, .ref (E.2.2 g)), (3, .int (zI time)), (4, .int (zI x)), (5, .long (lI dg)), (7, .int (zI sum)), (8, .int (zI pairs)), (9, .int (zI h)), (10, .int (zI n)), (11, .ref (E.2.2 c))] → W pg l en room_1 s0 mi ar bl me co H locs cells slots Q (F0 mi 829 ls []))
    (hl : lv_has ls 23 [(0, .ref bs), (1, .ref (E.2.2 10)), (2, .ref (E.2.2 g)), (3, .int (zI time)), (4, .int (zI x)), (5, .long (lI dg)), (7, .int (zI sum)), (8, .int (zI pairs)), (9, .int (zI h)), (10, .int (zI n)), (11, .ref (E.2.2 c))]) : W pg l en room_1 s0 mi ar bl me co H locs cells slots Q (F0 mi 712 ls []) := by
  have hx := S.1
  have hb := S.2.1
  have hn := hK.2.2.2
  have hinX00 : ∀ w ∈ wsX00, w ∈ wsL_law := inlX0
  have hinX10 : ∀ w ∈ wsX10, w ∈ wsL_law := inlX1
  have hinX20 : ∀ w ∈ wsX20, w ∈ wsL_law := inlX2
  have hinX30 : ∀ w ∈ wsX30, w ∈ wsL_law := inlX3
  have hinX40 : ∀ w ∈ wsX40, w ∈ wsL_law := inlX4
  have hl : lv_has ls 23 [(0, .ref bs), (1, .ref (E.2.2 10)), (2, .ref (E.2.2 g)), (3, .int (zI time)), (4, .int (zI x)), (5, .long (lI dg)), (7, .int (zI sum)), (8, .int (zI pairs)), (9, .int (zI h)), (10, .int (zI n)), (11, .ref (E.2.2 c))] := hl
  have hs := hV.sm
  have hIN := hV.I0 hI
  have hWN := hIN.1
  have hO2 := hIN.2.1
  obtain ⟨hn0, hn1, hv⟩ := hI.1 h ⟨hh.1, by omega⟩
  rw [← hnn] at hn0 hn1 hv
  have e3 : N (h + 3) = M (h + 3) := hV.fn (by omega)
  have e11 : N h 1 = n := by rw [hV.fn (c := h) (by omega), hnn]
  have hO : kOrd (M (h + 3)) n (M (8 + h)) := by
    have q := hI.2.1 h hh
    unfold kO at q
    rw [← hnn] at q
    exact q
  have hvN : ∀ j : Int, 0 ≤ j → j < n → 0 ≤ N c j ∧ N c j ≤ 8 := fun j j1 j2 => by rw [hav j j1 j2]; exact hv j j1 j2
  have lcx : ∀ a b z : Int, 0 ≤ a → 0 ≤ b → kLC (N c) n a (N c) n b z → kLC (M (h + 3)) n a (M (h + 3)) n b z := fun a b z a1 b1 q => kLC_congr q a1 b1 (fun j j1 j2 => (hav j j1 j2).symm) (fun j j1 j2 => (hav j j1 j2).symm)
  refine lv_aload_n hx hb dL_law_712 rfl (lv_at hl 1 rfl) ?_
  refine lv_iload hx hb dL_law_713 (lv_at hl 8 rfl) ?_
  refine k_callV (As := [.int (zI h)]) (rest := []) S hK hP (c_X2_period l E N h (by omega) (by assumption)) (cwV 1 S.2.2.2.2 gL_law_X2_period rfl rfl rfl (by decide +kernel) ⟨Nat.le_of_ble_eq_true rfl, Nat.le_of_ble_eq_true rfl⟩) (k_rX hK hP rfl) rfl hl.1 rfl (Nat.le_of_ble_eq_true rfl) dL_law_715 ⟨by show _ ≤ (600130 : Nat); omega, by show _ ≤ (7301080 : Nat); omega⟩ (fun z_715 h_715 => ?_)
  have pr : kIsPer (M (h + 3)) n z_715 := by have q := h_715.1; rw [e3, e11] at q; exact q
  have prz : (n = 0 ∧ z_715 = 0) ∨ (1 ≤ z_715 ∧ z_715 ≤ n) := by
    rcases pr with q | q
    · exact Or.inl q
    · exact Or.inr ⟨q.1, q.2.1⟩
  refine lv_istore (lv' := [(18, .int (zI z_715)), (0, .ref bs), (1, .ref (E.2.2 10)), (2, .ref (E.2.2 g)), (3, .int (zI time)), (4, .int (zI x)), (5, .long (lI dg)), (7, .int (zI sum)), (8, .int (zI pairs)), (9, .int (zI h)), (10, .int (zI n)), (11, .ref (E.2.2 c))]) hx hb dL_law_718 hl (by decide) rfl (fun ls hl => ?_)
  have jn_748 :  ∀ ls : Array Slot, lv_has ls 23 [(0, .ref bs), (1, .ref (E.2.2 10)), (2, .ref (E.2.2 g)), (3, .int (zI time)), (4, .int (zI x)), (5, .long (lI dg)), (7, .int (zI sum)), (8, .int (zI pairs)), (9, .int (zI h)), (10, .int (zI n)), (11, .ref (E.2.2 c)), (18, .int (zI z_715))] → W pg l en room_1 s0 mi ar bl me co H locs cells slots Q (F0 mi 748 ls []) := by
    intro   ls hl
    refine k_push hx hb dL_law_748 ?_
    refine lv_istore (lv' := [(19, .int (zI 1)), (0, .ref bs), (1, .ref (E.2.2 10)), (2, .ref (E.2.2 g)), (3, .int (zI time)), (4, .int (zI x)), (5, .long (lI dg)), (7, .int (zI sum)), (8, .int (zI pairs)), (9, .int (zI h)), (10, .int (zI n)), (11, .ref (E.2.2 c)), (18, .int (zI z_715))]) hx hb dL_law_749 hl (by decide) rfl (fun ls hl => ?_)
    have lp_751 : ∀ (n_751 : Nat) (p : Int), (1 ≤ p ∧ p ≤ z_715 + 1) → (z_715 + 1 - p < (n_751 : Int)) → ∀ ls : Array Slot, lv_has ls 23 [(0, .ref bs), (1, .ref (E.2.2 10)), (2, .ref (E.2.2 g)), (3, .int (zI time)), (4, .int (zI x)), (5, .long (lI dg)), (7, .int (zI sum)), (8, .int (zI pairs)), (9, .int (zI h)), (10, .int (zI n)), (11, .ref (E.2.2 c)), (18, .int (zI z_715)), (19, .int (zI p))] → W pg l en room_1 s0 mi ar bl me co H locs cells slots Q (F0 mi 751 ls []) := by
      intro n_751
      induction n_751 with
      | zero => intro p h1 hm_751; exfalso; omega
      | succ n_751 ih_751 =>
        intro p h1 hm_751 ls hl
        refine lv_iload hx hb dL_law_751 (lv_at hl 12 rfl) ?_
        refine lv_iload hx hb dL_law_753 (lv_at hl 11 rfl) ?_
        refine k_gt (tgt := 829) hx hb dL_law_755 (by decide) (by omega) (fun c_755 => ?_) (fun c_755 => ?_)
        · skip
          refine jn_829   _ (lv_sub hl [0, 1, 2, 3, 4, 5, 6, 7, 8, 9, 10] rfl)
        · skip
          refine k_push hx hb dL_law_758 ?_
          refine lv_istore (lv' := [(20, .int (zI 1)), (0, .ref bs), (1, .ref (E.2.2 10)), (2, .ref (E.2.2 g)), (3, .int (zI time)), (4, .int (zI x)), (5, .long (lI dg)), (7, .int (zI sum)), (8, .int (zI pairs)), (9, .int (zI h)), (10, .int (zI n)), (11, .ref (E.2.2 c)), (18, .int (zI z_715)), (19, .int (zI p))]) hx hb dL_law_759 hl (by decide) rfl (fun ls hl => ?_)
          refine lv_iload hx hb dL_law_761 (lv_at hl 13 rfl) ?_
          refine lv_istore (lv' := [(21, .int (zI p)), (20, .int (zI 1)), (0, .ref bs), (1, .ref (E.2.2 10)), (2, .ref (E.2.2 g)), (3, .int (zI time)), (4, .int (zI x)), (5, .long (lI dg)), (7, .int (zI sum)), (8, .int (zI pairs)), (9, .int (zI h)), (10, .int (zI n)), (11, .ref (E.2.2 c)), (18, .int (zI z_715)), (19, .int (zI p))]) hx hb dL_law_763 hl (by decide) rfl (fun ls hl => ?_)
          have lp_765 : ∀ (n_765 : Nat) (is : Int) (k : Int), (p ≤ k ∧ k ≤ n) → (kPs (M (h + 3)) p k is) → (n - k < (n_765 : Int)) → ∀ ls : Array Slot, lv_has ls 23 [(0, .ref bs), (1, .ref (E.2.2 10)), (2, .ref (E.2.2 g)), (3, .int (zI time)), (4, .int (zI x)), (5, .long (lI dg)), (7, .int (zI sum)), (8, .int (zI pairs)), (9, .int (zI h)), (10, .int (zI n)), (11, .ref (E.2.2 c)), (18, .int (zI z_715)), (19, .int (zI p)), (20, .int (zI is)), (21, .int (zI k))] → W pg l en room_1 s0 mi ar bl me co H locs cells slots Q (F0 mi 765 ls []) := by
            intro n_765
            induction n_765 with
            | zero => intro is k h2 hi hm_765; exfalso; omega
            | succ n_765 ih_765 =>
              intro is k h2 hi hm_765 ls hl
              have hi01 : is = 0 ∨ is = 1 := by
                rcases hi with q | q
                · exact Or.inr q.1
                · exact Or.inl q.1
              refine lv_iload hx hb dL_law_765 (lv_at hl 14 rfl) ?_
              refine lv_iload hx hb dL_law_767 (lv_at hl 9 rfl) ?_
              refine k_ge (tgt := 804) hx hb dL_law_769 (by decide) (by omega) (fun c_769 => ?_) (fun c_769 => ?_)
              · skip
                have pf := kPs_fin pr ⟨h1.1, by omega⟩ hi (by omega)
                refine lv_iload hx hb dL_law_804 (lv_at hl 13 rfl) ?_
                refine lv_iload hx hb dL_law_806 (lv_at hl 12 rfl) ?_
                refine lv_iload hx hb dL_law_808 (lv_at hl 11 rfl) ?_
                refine k_ne (tgt := 817) hx hb dL_law_810 (by decide) (by omega) (fun c_810 => ?_) (fun c_810 => ?_)
                · skip
                  refine k_push hx hb dL_law_817 ?_
                  refine k_eq (tgt := 823) hx hb dL_law_818 (by decide) (by omega) (fun c_818 => ?_) (fun c_818 => ?_)
                  · skip
                    obtain ⟨v19_823, ev19_823⟩ : ∃ v : Int, v = p + 1 := ⟨_, rfl⟩
                    refine k_incN (v := v19_823) (lv' := [(19, .int (zI v19_823)), (0, .ref bs), (1, .ref (E.2.2 10)), (2, .ref (E.2.2 g)), (3, .int (zI time)), (4, .int (zI x)), (5, .long (lI dg)), (7, .int (zI sum)), (8, .int (zI pairs)), (9, .int (zI h)), (10, .int (zI n)), (11, .ref (E.2.2 c)), (18, .int (zI z_715)), (20, .int (zI is)), (21, .int (zI k))]) hx hb dL_law_823 hl (k := 12) rfl ev19_823 (by decide) rfl (fun ls hl => ?_)
                    refine lv_goto (tgt := 751) hx hb dL_law_826 (by decide) ?_
                    refine ih_751 v19_823 (by omega) (by omega) _ (lv_sub hl [1, 2, 3, 4, 5, 6, 7, 8, 9, 10, 11, 12, 0] rfl)
                  · exact absurd c_818 (by omega)
                · skip
                  refine k_push hx hb dL_law_813 ?_
                  refine lv_goto (tgt := 818) hx hb dL_law_814 (by decide) ?_
                  refine k_eq (tgt := 823) hx hb dL_law_818 (by decide) (by omega) (fun c_818 => ?_) (fun c_818 => ?_)
                  · skip
                    obtain ⟨v19_823, ev19_823⟩ : ∃ v : Int, v = p + 1 := ⟨_, rfl⟩
                    refine k_incN (v := v19_823) (lv' := [(19, .int (zI v19_823)), (0, .ref bs), (1, .ref (E.2.2 10)), (2, .ref (E.2.2 g)), (3, .int (zI time)), (4, .int (zI x)), (5, .long (lI dg)), (7, .int (zI sum)), (8, .int (zI pairs)), (9, .int (zI h)), (10, .int (zI n)), (11, .ref (E.2.2 c)), (18, .int (zI z_715)), (20, .int (zI is)), (21, .int (zI k))]) hx hb dL_law_823 hl (k := 12) rfl ev19_823 (by decide) rfl (fun ls hl => ?_)
                    refine lv_goto (tgt := 751) hx hb dL_law_826 (by decide) ?_
                    refine ih_751 v19_823 (by omega) (by omega) _ (lv_sub hl [1, 2, 3, 4, 5, 6, 7, 8, 9, 10, 11, 12, 0] rfl)
                  · exact absurd c_818 (by omega)
              · skip
                have a1 := hav k (by omega) (by omega)
                have a2 := hav (k - p) (by omega) (by omega)
                have v1 := hvN k (by omega) (by omega)
                have v2 := hvN (k - p) (by omega) (by omega)
                refine lv_iload hx hb dL_law_772 (lv_at hl 13 rfl) ?_
                refine lv_aload hx hb dL_law_774 (lv_at hl 10 rfl) ?_
                refine lv_iload hx hb dL_law_776 (lv_at hl 14 rfl) ?_
                refine k_ald S hK hP (n) (har) (by omega) dL_law_778 ?_
                refine lv_aload hx hb dL_law_779 (lv_at hl 10 rfl) ?_
                refine lv_iload hx hb dL_law_781 (lv_at hl 14 rfl) ?_
                refine lv_iload hx hb dL_law_783 (lv_at hl 12 rfl) ?_
                refine k_sub hx hb dL_law_785 ?_
                refine k_ald S hK hP (n) (har) (by omega) dL_law_786 ?_
                refine k_ne (tgt := 794) hx hb dL_law_787 (by decide) (by omega) (fun c_787 => ?_) (fun c_787 => ?_)
                · skip
                  refine k_push hx hb dL_law_794 ?_
                  refine k_and01 hx hb (by omega) (by omega) dL_law_795 (fun z_795 h_795 => ?_)
                  refine lv_istore (lv' := [(20, .int (zI z_795)), (0, .ref bs), (1, .ref (E.2.2 10)), (2, .ref (E.2.2 g)), (3, .int (zI time)), (4, .int (zI x)), (5, .long (lI dg)), (7, .int (zI sum)), (8, .int (zI pairs)), (9, .int (zI h)), (10, .int (zI n)), (11, .ref (E.2.2 c)), (18, .int (zI z_715)), (19, .int (zI p)), (21, .int (zI k))]) hx hb dL_law_796 hl (by decide) rfl (fun ls hl => ?_)
                  obtain ⟨v21_798, ev21_798⟩ : ∃ v : Int, v = k + 1 := ⟨_, rfl⟩
                  refine k_incN (v := v21_798) (lv' := [(21, .int (zI v21_798)), (20, .int (zI z_795)), (0, .ref bs), (1, .ref (E.2.2 10)), (2, .ref (E.2.2 g)), (3, .int (zI time)), (4, .int (zI x)), (5, .long (lI dg)), (7, .int (zI sum)), (8, .int (zI pairs)), (9, .int (zI h)), (10, .int (zI n)), (11, .ref (E.2.2 c)), (18, .int (zI z_715)), (19, .int (zI p))]) hx hb dL_law_798 hl (k := 14) rfl ev21_798 (by decide) rfl (fun ls hl => ?_)
                  refine lv_goto (tgt := 765) hx hb dL_law_801 (by decide) ?_
                  refine ih_765 z_795 v21_798 (by omega) ?_ (by omega) _ (lv_sub hl [2, 3, 4, 5, 6, 7, 8, 9, 10, 11, 12, 13, 14, 1, 0] rfl)
                  · rw [ev21_798]
                    first | exact kPs_step h2.1 hi h_795 (Or.inl ⟨rfl, by omega⟩) | exact kPs_step h2.1 hi h_795 (Or.inr ⟨rfl, by omega⟩)
                · skip
                  refine k_push hx hb dL_law_790 ?_
                  refine lv_goto (tgt := 795) hx hb dL_law_791 (by decide) ?_
                  refine k_and01 hx hb (by omega) (by omega) dL_law_795 (fun z_795 h_795 => ?_)
                  refine lv_istore (lv' := [(20, .int (zI z_795)), (0, .ref bs), (1, .ref (E.2.2 10)), (2, .ref (E.2.2 g)), (3, .int (zI time)), (4, .int (zI x)), (5, .long (lI dg)), (7, .int (zI sum)), (8, .int (zI pairs)), (9, .int (zI h)), (10, .int (zI n)), (11, .ref (E.2.2 c)), (18, .int (zI z_715)), (19, .int (zI p)), (21, .int (zI k))]) hx hb dL_law_796 hl (by decide) rfl (fun ls hl => ?_)
                  obtain ⟨v21_798, ev21_798⟩ : ∃ v : Int, v = k + 1 := ⟨_, rfl⟩
                  refine k_incN (v := v21_798) (lv' := [(21, .int (zI v21_798)), (20, .int (zI z_795)), (0, .ref bs), (1, .ref (E.2.2 10)), (2, .ref (E.2.2 g)), (3, .int (zI time)), (4, .int (zI x)), (5, .long (lI dg)), (7, .int (zI sum)), (8, .int (zI pairs)), (9, .int (zI h)), (10, .int (zI n)), (11, .ref (E.2.2 c)), (18, .int (zI z_715)), (19, .int (zI p))]) hx hb dL_law_798 hl (k := 14) rfl ev21_798 (by decide) rfl (fun ls hl => ?_)
                  refine lv_goto (tgt := 765) hx hb dL_law_801 (by decide) ?_
                  refine ih_765 z_795 v21_798 (by omega) ?_ (by omega) _ (lv_sub hl [2, 3, 4, 5, 6, 7, 8, 9, 10, 11, 12, 13, 14, 1, 0] rfl)
                  · rw [ev21_798]
                    first | exact kPs_step h2.1 hi h_795 (Or.inl ⟨rfl, by omega⟩) | exact kPs_step h2.1 hi h_795 (Or.inr ⟨rfl, by omega⟩)
          refine lp_765 (((n - p : Int)).toNat + 1) 1 p (by omega) (by exact Or.inl ⟨rfl, fun j j1 j2 => by omega⟩) (by omega) _ (lv_sub hl [2, 3, 4, 5, 6, 7, 8, 9, 10, 11, 12, 13, 14, 1, 0] rfl)
    refine lp_751 (((z_715 + 1 - 1 : Int)).toNat + 1) 1 (by omega) (by omega) _ (lv_sub hl [1, 2, 3, 4, 5, 6, 7, 8, 9, 10, 11, 12, 0] rfl)
  refine lv_iload hx hb dL_law_720 (lv_at hl 10 rfl) ?_
  refine k_ne0 (tgt := 733) hx hb dL_law_722 (by decide) (by omega) (fun c_722 => ?_) (fun c_722 => ?_)
  · skip
    refine lv_iload hx hb dL_law_733 (lv_at hl 0 rfl) ?_
    refine k_push hx hb dL_law_735 ?_
    refine k_lt (tgt := 746) hx hb dL_law_736 (by decide) (by omega) (fun c_736 => ?_) (fun c_736 => ?_)
    · exact absurd c_736 (by omega)
    · skip
      refine lv_iload hx hb dL_law_739 (lv_at hl 0 rfl) ?_
      refine lv_iload hx hb dL_law_741 (lv_at hl 10 rfl) ?_
      refine k_le (tgt := 748) hx hb dL_law_743 (by decide) (by omega) (fun c_743 => ?_) (fun c_743 => ?_)
      · skip
        refine jn_748   _ (lv_sub hl [1, 2, 3, 4, 5, 6, 7, 8, 9, 10, 11, 0] rfl)
      · exact absurd c_743 (by omega)
  · skip
    refine lv_iload hx hb dL_law_725 (lv_at hl 0 rfl) ?_
    refine k_eq0 (tgt := 748) hx hb dL_law_727 (by decide) (by omega) (fun c_727 => ?_) (fun c_727 => ?_)
    · skip
      refine jn_748   _ (lv_sub hl [1, 2, 3, 4, 5, 6, 7, 8, 9, 10, 11, 0] rfl)
    · exact absurd c_727 (by omega)
set_option maxHeartbeats 4000000 in
set_option maxRecDepth 100000 in
theorem s_law_turn {pg : Program} {l : Launch} {en : Env} {s0 : State} {mi : MethodId} {ar : Array Value} {bl : List Frame} {me : Method} {co : Code} {ls : Array Slot} {Q : State → Prop} {H : Heap} {locs : List Loc} {E0 E : kE} {M N : kM} {g h n c x sum pairs time dg most shared rows : Int} {y : Int → Int} {bs cells slots : Nat} (hI : kI0 M) (hV : kVs E0 E M N g y) (hh : 0 ≤ h ∧ h < 2) (hnn : n = M h 1) (har : kArr E N c n) (hav : ∀ j : Int, 0 ≤ j → j < n → N c j = M (h + 3) j) (S : CallFix pg mi co cL_law 23 s0 ar wsL_law RL) (hP : va_P E.1 vwCl (kW E N) H) (hK : kK E s0) (hcs0 : cells ≤ 600130 ∧ slots ≤ 7301080)
    (jn_966 :  ∀ ls : Array Slot, lv_has ls 23 [(0, .ref bs), (1, .ref (E.2.2 10)), (2, .ref (E.2.2 g)), (3, .int (zI time)), (4, .int (zI x)), (5, .long (lI dg)), (7, .int (zI sum)), (8, .int (zI pairs)), (9, .int (zI h)), (10, .int (zI n)), (11, .ref (E.2.2 c))] → W pg l en room_1 s0 mi ar bl me co H locs cells slots Q (F0 mi 966 ls []))
    (hl : lv_has ls 23 [(0, .ref bs), (1, .ref (E.2.2 10)), (2, .ref (E.2.2 g)), (3, .int (zI time)), (4, .int (zI x)), (5, .long (lI dg)), (7, .int (zI sum)), (8, .int (zI pairs)), (9, .int (zI h)), (10, .int (zI n)), (11, .ref (E.2.2 c))]) : W pg l en room_1 s0 mi ar bl me co H locs cells slots Q (F0 mi 829 ls []) := by
  have hx := S.1
  have hb := S.2.1
  have hn := hK.2.2.2
  have hinX00 : ∀ w ∈ wsX00, w ∈ wsL_law := inlX0
  have hinX10 : ∀ w ∈ wsX10, w ∈ wsL_law := inlX1
  have hinX20 : ∀ w ∈ wsX20, w ∈ wsL_law := inlX2
  have hinX30 : ∀ w ∈ wsX30, w ∈ wsL_law := inlX3
  have hinX40 : ∀ w ∈ wsX40, w ∈ wsL_law := inlX4
  have hl : lv_has ls 23 [(0, .ref bs), (1, .ref (E.2.2 10)), (2, .ref (E.2.2 g)), (3, .int (zI time)), (4, .int (zI x)), (5, .long (lI dg)), (7, .int (zI sum)), (8, .int (zI pairs)), (9, .int (zI h)), (10, .int (zI n)), (11, .ref (E.2.2 c))] := hl
  have hs := hV.sm
  have hIN := hV.I0 hI
  have hWN := hIN.1
  have hO2 := hIN.2.1
  obtain ⟨hn0, hn1, hv⟩ := hI.1 h ⟨hh.1, by omega⟩
  rw [← hnn] at hn0 hn1 hv
  have e3 : N (h + 3) = M (h + 3) := hV.fn (by omega)
  have e11 : N h 1 = n := by rw [hV.fn (c := h) (by omega), hnn]
  have hO : kOrd (M (h + 3)) n (M (8 + h)) := by
    have q := hI.2.1 h hh
    unfold kO at q
    rw [← hnn] at q
    exact q
  have hvN : ∀ j : Int, 0 ≤ j → j < n → 0 ≤ N c j ∧ N c j ≤ 8 := fun j j1 j2 => by rw [hav j j1 j2]; exact hv j j1 j2
  have lcx : ∀ a b z : Int, 0 ≤ a → 0 ≤ b → kLC (N c) n a (N c) n b z → kLC (M (h + 3)) n a (M (h + 3)) n b z := fun a b z a1 b1 q => kLC_congr q a1 b1 (fun j j1 j2 => (hav j j1 j2).symm) (fun j j1 j2 => (hav j j1 j2).symm)
  refine lv_aload_n hx hb dL_law_829 rfl (lv_at hl 1 rfl) ?_
  refine lv_iload hx hb dL_law_830 (lv_at hl 8 rfl) ?_
  refine k_callV (As := [.int (zI h)]) (rest := []) S hK hP (c_X2_turned l E N h (by omega) (by assumption)) (cwV 1 S.2.2.2.2 gL_law_X2_turned rfl rfl rfl (by decide +kernel) ⟨Nat.le_of_ble_eq_true rfl, Nat.le_of_ble_eq_true rfl⟩) (k_rX hK hP rfl) rfl hl.1 rfl (Nat.le_of_ble_eq_true rfl) dL_law_832 ⟨by show _ ≤ (600130 : Nat); omega, by show _ ≤ (7301080 : Nat); omega⟩ (fun z_832 h_832 => ?_)
  have tu : kIsTurn (M (h + 3)) n z_832 := by have q := h_832.1; rw [e3, e11] at q; exact q
  have tz : (n = 0 ∧ z_832 = -1) ∨ (0 < n ∧ 0 ≤ z_832 ∧ z_832 < n) := by
    by_cases q : 0 < n
    · exact Or.inr ⟨q, (kTurn_best q tu).1⟩
    · rcases tu with w | w
      · exact Or.inl w
      · omega
  refine lv_istore (lv' := [(19, .int (zI z_832)), (0, .ref bs), (1, .ref (E.2.2 10)), (2, .ref (E.2.2 g)), (3, .int (zI time)), (4, .int (zI x)), (5, .long (lI dg)), (7, .int (zI sum)), (8, .int (zI pairs)), (9, .int (zI h)), (10, .int (zI n)), (11, .ref (E.2.2 c))]) hx hb dL_law_835 hl (by decide) rfl (fun ls hl => ?_)
  have jn_865 :  ∀ ls : Array Slot, lv_has ls 23 [(0, .ref bs), (1, .ref (E.2.2 10)), (2, .ref (E.2.2 g)), (3, .int (zI time)), (4, .int (zI x)), (5, .long (lI dg)), (7, .int (zI sum)), (8, .int (zI pairs)), (9, .int (zI h)), (10, .int (zI n)), (11, .ref (E.2.2 c)), (19, .int (zI z_832))] → W pg l en room_1 s0 mi ar bl me co H locs cells slots Q (F0 mi 865 ls []) := by
    intro   ls hl
    refine k_push hx hb dL_law_865 ?_
    refine lv_istore (lv' := [(20, .int (zI 0)), (0, .ref bs), (1, .ref (E.2.2 10)), (2, .ref (E.2.2 g)), (3, .int (zI time)), (4, .int (zI x)), (5, .long (lI dg)), (7, .int (zI sum)), (8, .int (zI pairs)), (9, .int (zI h)), (10, .int (zI n)), (11, .ref (E.2.2 c)), (19, .int (zI z_832))]) hx hb dL_law_866 hl (by decide) rfl (fun ls hl => ?_)
    have lp_868 : ∀ (n_868 : Nat) (a : Int), (0 ≤ a ∧ a ≤ n) → (n - a < (n_868 : Int)) → ∀ ls : Array Slot, lv_has ls 23 [(0, .ref bs), (1, .ref (E.2.2 10)), (2, .ref (E.2.2 g)), (3, .int (zI time)), (4, .int (zI x)), (5, .long (lI dg)), (7, .int (zI sum)), (8, .int (zI pairs)), (9, .int (zI h)), (10, .int (zI n)), (11, .ref (E.2.2 c)), (19, .int (zI z_832)), (20, .int (zI a))] → W pg l en room_1 s0 mi ar bl me co H locs cells slots Q (F0 mi 868 ls []) := by
      intro n_868
      induction n_868 with
      | zero => intro a h1 hm_868; exfalso; omega
      | succ n_868 ih_868 =>
        intro a h1 hm_868 ls hl
        refine lv_iload hx hb dL_law_868 (lv_at hl 12 rfl) ?_
        refine lv_iload hx hb dL_law_870 (lv_at hl 9 rfl) ?_
        refine k_ge (tgt := 966) hx hb dL_law_872 (by decide) (by omega) (fun c_872 => ?_) (fun c_872 => ?_)
        · skip
          refine jn_966   _ (lv_sub hl [0, 1, 2, 3, 4, 5, 6, 7, 8, 9, 10] rfl)
        · skip
          have tb := kTurn_best (show 0 < n by omega) tu
          refine k_push hx hb dL_law_875 ?_
          refine lv_istore (lv' := [(21, .int (zI 0)), (0, .ref bs), (1, .ref (E.2.2 10)), (2, .ref (E.2.2 g)), (3, .int (zI time)), (4, .int (zI x)), (5, .long (lI dg)), (7, .int (zI sum)), (8, .int (zI pairs)), (9, .int (zI h)), (10, .int (zI n)), (11, .ref (E.2.2 c)), (19, .int (zI z_832)), (20, .int (zI a))]) hx hb dL_law_876 hl (by decide) rfl (fun ls hl => ?_)
          have lp_878 : ∀ (n_878 : Nat) (k : Int), (0 ≤ k ∧ k ≤ n) → (∀ u : Int, 0 ≤ u → u < k → M (h + 3) ((z_832 + u) % n) = M (h + 3) ((a + u) % n)) → (n - k < (n_878 : Int)) → ∀ ls : Array Slot, lv_has ls 23 [(0, .ref bs), (1, .ref (E.2.2 10)), (2, .ref (E.2.2 g)), (3, .int (zI time)), (4, .int (zI x)), (5, .long (lI dg)), (7, .int (zI sum)), (8, .int (zI pairs)), (9, .int (zI h)), (10, .int (zI n)), (11, .ref (E.2.2 c)), (19, .int (zI z_832)), (20, .int (zI a)), (21, .int (zI k))] → W pg l en room_1 s0 mi ar bl me co H locs cells slots Q (F0 mi 878 ls []) := by
            intro n_878
            induction n_878 with
            | zero => intro k h2 he hm_878; exfalso; omega
            | succ n_878 ih_878 =>
              intro k h2 he hm_878 ls hl
              refine lv_iload hx hb dL_law_878 (lv_at hl 13 rfl) ?_
              refine lv_iload hx hb dL_law_880 (lv_at hl 9 rfl) ?_
              refine k_ge (tgt := 916) hx hb dL_law_882 (by decide) (by omega) (fun c_882 => ?_) (fun c_882 => ?_)
              · skip
                have tcz := (kTurn_chk tb ⟨h1.1, by omega⟩ h2.1 he).1 (by omega)
                refine lv_iload hx hb dL_law_916 (lv_at hl 13 rfl) ?_
                refine lv_iload hx hb dL_law_918 (lv_at hl 9 rfl) ?_
                refine k_ne (tgt := 933) hx hb dL_law_920 (by decide) (by omega) (fun c_920 => ?_) (fun c_920 => ?_)
                · exact absurd c_920 (by omega)
                · skip
                  refine lv_iload hx hb dL_law_923 (lv_at hl 12 rfl) ?_
                  refine lv_iload hx hb dL_law_925 (lv_at hl 11 rfl) ?_
                  refine k_ge (tgt := 960) hx hb dL_law_927 (by decide) (by omega) (fun c_927 => ?_) (fun c_927 => ?_)
                  · skip
                    obtain ⟨v20_960, ev20_960⟩ : ∃ v : Int, v = a + 1 := ⟨_, rfl⟩
                    refine k_incN (v := v20_960) (lv' := [(20, .int (zI v20_960)), (0, .ref bs), (1, .ref (E.2.2 10)), (2, .ref (E.2.2 g)), (3, .int (zI time)), (4, .int (zI x)), (5, .long (lI dg)), (7, .int (zI sum)), (8, .int (zI pairs)), (9, .int (zI h)), (10, .int (zI n)), (11, .ref (E.2.2 c)), (19, .int (zI z_832)), (21, .int (zI k))]) hx hb dL_law_960 hl (k := 12) rfl ev20_960 (by decide) rfl (fun ls hl => ?_)
                    refine lv_goto (tgt := 868) hx hb dL_law_963 (by decide) ?_
                    refine ih_868 v20_960 (by omega) (by omega) _ (lv_sub hl [1, 2, 3, 4, 5, 6, 7, 8, 9, 10, 11, 12, 0] rfl)
                  · exact absurd c_927 (by omega)
              · skip
                have m1 := Int.emod_nonneg (z_832 + k) (show n ≠ 0 by omega)
                have m2 := Int.emod_lt_of_pos (z_832 + k) (show 0 < n by omega)
                have m3 := Int.emod_nonneg (a + k) (show n ≠ 0 by omega)
                have m4 := Int.emod_lt_of_pos (a + k) (show 0 < n by omega)
                have v1 := hvN _ m1 m2
                have v2 := hvN _ m3 m4
                have x1 := hav _ m1 m2
                have x2 := hav _ m3 m4
                refine lv_aload hx hb dL_law_885 (lv_at hl 10 rfl) ?_
                refine lv_iload hx hb dL_law_887 (lv_at hl 11 rfl) ?_
                refine lv_iload hx hb dL_law_889 (lv_at hl 13 rfl) ?_
                refine k_add hx hb dL_law_891 ?_
                refine lv_iload hx hb dL_law_892 (lv_at hl 9 rfl) ?_
                refine k_rem hx hb dL_law_894 (by omega) ?_
                refine k_ald S hK hP (n) (har) (by omega) dL_law_895 ?_
                refine lv_aload hx hb dL_law_896 (lv_at hl 10 rfl) ?_
                refine lv_iload hx hb dL_law_898 (lv_at hl 12 rfl) ?_
                refine lv_iload hx hb dL_law_900 (lv_at hl 13 rfl) ?_
                refine k_add hx hb dL_law_902 ?_
                refine lv_iload hx hb dL_law_903 (lv_at hl 9 rfl) ?_
                refine k_rem hx hb dL_law_905 (by omega) ?_
                refine k_ald S hK hP (n) (har) (by omega) dL_law_906 ?_
                refine k_ne (tgt := 916) hx hb dL_law_907 (by decide) (by omega) (fun c_907 => ?_) (fun c_907 => ?_)
                · skip
                  have tcx := (kTurn_chk tb ⟨h1.1, by omega⟩ h2.1 he).2 (by omega)
                  refine lv_iload hx hb dL_law_916 (lv_at hl 13 rfl) ?_
                  refine lv_iload hx hb dL_law_918 (lv_at hl 9 rfl) ?_
                  refine k_ne (tgt := 933) hx hb dL_law_920 (by decide) (by omega) (fun c_920 => ?_) (fun c_920 => ?_)
                  · skip
                    refine lv_aload hx hb dL_law_933 (lv_at hl 10 rfl) ?_
                    refine lv_iload hx hb dL_law_935 (lv_at hl 11 rfl) ?_
                    refine lv_iload hx hb dL_law_937 (lv_at hl 13 rfl) ?_
                    refine k_add hx hb dL_law_939 ?_
                    refine lv_iload hx hb dL_law_940 (lv_at hl 9 rfl) ?_
                    refine k_rem hx hb dL_law_942 (by omega) ?_
                    refine k_ald S hK hP (n) (har) (by omega) dL_law_943 ?_
                    refine lv_aload hx hb dL_law_944 (lv_at hl 10 rfl) ?_
                    refine lv_iload hx hb dL_law_946 (lv_at hl 12 rfl) ?_
                    refine lv_iload hx hb dL_law_948 (lv_at hl 13 rfl) ?_
                    refine k_add hx hb dL_law_950 ?_
                    refine lv_iload hx hb dL_law_951 (lv_at hl 9 rfl) ?_
                    refine k_rem hx hb dL_law_953 (by omega) ?_
                    refine k_ald S hK hP (n) (har) (by omega) dL_law_954 ?_
                    refine k_le (tgt := 960) hx hb dL_law_955 (by decide) (by omega) (fun c_955 => ?_) (fun c_955 => ?_)
                    · skip
                      obtain ⟨v20_960, ev20_960⟩ : ∃ v : Int, v = a + 1 := ⟨_, rfl⟩
                      refine k_incN (v := v20_960) (lv' := [(20, .int (zI v20_960)), (0, .ref bs), (1, .ref (E.2.2 10)), (2, .ref (E.2.2 g)), (3, .int (zI time)), (4, .int (zI x)), (5, .long (lI dg)), (7, .int (zI sum)), (8, .int (zI pairs)), (9, .int (zI h)), (10, .int (zI n)), (11, .ref (E.2.2 c)), (19, .int (zI z_832)), (21, .int (zI k))]) hx hb dL_law_960 hl (k := 12) rfl ev20_960 (by decide) rfl (fun ls hl => ?_)
                      refine lv_goto (tgt := 868) hx hb dL_law_963 (by decide) ?_
                      refine ih_868 v20_960 (by omega) (by omega) _ (lv_sub hl [1, 2, 3, 4, 5, 6, 7, 8, 9, 10, 11, 12, 0] rfl)
                    · exact absurd c_955 (by omega)
                  · exact absurd c_920 (by omega)
                · skip
                  obtain ⟨v21_910, ev21_910⟩ : ∃ v : Int, v = k + 1 := ⟨_, rfl⟩
                  refine k_incN (v := v21_910) (lv' := [(21, .int (zI v21_910)), (0, .ref bs), (1, .ref (E.2.2 10)), (2, .ref (E.2.2 g)), (3, .int (zI time)), (4, .int (zI x)), (5, .long (lI dg)), (7, .int (zI sum)), (8, .int (zI pairs)), (9, .int (zI h)), (10, .int (zI n)), (11, .ref (E.2.2 c)), (19, .int (zI z_832)), (20, .int (zI a))]) hx hb dL_law_910 hl (k := 13) rfl ev21_910 (by decide) rfl (fun ls hl => ?_)
                  refine lv_goto (tgt := 878) hx hb dL_law_913 (by decide) ?_
                  refine ih_878 v21_910 (by omega) ?_ (by omega) _ (lv_sub hl [1, 2, 3, 4, 5, 6, 7, 8, 9, 10, 11, 12, 13, 0] rfl)
                  · rw [ev21_910]
                    intro u u1 u2
                    by_cases e : u = k
                    · rw [e, ← x1, ← x2]; omega
                    · exact he u u1 (by omega)
          refine lp_878 (((n - 0 : Int)).toNat + 1) 0 (by omega) (by intro u u1 u2; omega) (by omega) _ (lv_sub hl [1, 2, 3, 4, 5, 6, 7, 8, 9, 10, 11, 12, 13, 0] rfl)
    refine lp_868 (((n - 0 : Int)).toNat + 1) 0 (by omega) (by omega) _ (lv_sub hl [1, 2, 3, 4, 5, 6, 7, 8, 9, 10, 11, 12, 0] rfl)
  refine lv_iload hx hb dL_law_837 (lv_at hl 10 rfl) ?_
  refine k_ne0 (tgt := 851) hx hb dL_law_839 (by decide) (by omega) (fun c_839 => ?_) (fun c_839 => ?_)
  · skip
    refine lv_iload hx hb dL_law_851 (lv_at hl 0 rfl) ?_
    refine k_lt0 (tgt := 863) hx hb dL_law_853 (by decide) (by omega) (fun c_853 => ?_) (fun c_853 => ?_)
    · exact absurd c_853 (by omega)
    · skip
      refine lv_iload hx hb dL_law_856 (lv_at hl 0 rfl) ?_
      refine lv_iload hx hb dL_law_858 (lv_at hl 10 rfl) ?_
      refine k_lt (tgt := 865) hx hb dL_law_860 (by decide) (by omega) (fun c_860 => ?_) (fun c_860 => ?_)
      · skip
        refine jn_865   _ (lv_sub hl [1, 2, 3, 4, 5, 6, 7, 8, 9, 10, 11, 0] rfl)
      · exact absurd c_860 (by omega)
  · skip
    refine lv_iload hx hb dL_law_842 (lv_at hl 0 rfl) ?_
    refine k_push hx hb dL_law_844 ?_
    refine k_eq (tgt := 865) hx hb dL_law_845 (by decide) (by omega) (fun c_845 => ?_) (fun c_845 => ?_)
    · skip
      refine jn_865   _ (lv_sub hl [1, 2, 3, 4, 5, 6, 7, 8, 9, 10, 11, 0] rfl)
    · exact absurd c_845 (by omega)
set_option maxHeartbeats 4000000 in
set_option maxRecDepth 100000 in
theorem s_law_fst {pg : Program} {l : Launch} {en : Env} {s0 : State} {mi : MethodId} {ar : Array Value} {bl : List Frame} {me : Method} {co : Code} {ls : Array Slot} {Q : State → Prop} {H : Heap} {locs : List Loc} {E0 E : kE} {M N : kM} {g h n c x sum pairs time dg most shared rows : Int} {y : Int → Int} {bs cells slots : Nat} (hI : kI0 M) (hV : kVs E0 E M N g y) (hh : 0 ≤ h ∧ h < 2) (hnn : n = M h 1) (har : kArr E N c n) (hav : ∀ j : Int, 0 ≤ j → j < n → N c j = M (h + 3) j) (S : CallFix pg mi co cL_law 23 s0 ar wsL_law RL) (hP : va_P E.1 vwCl (kW E N) H) (hK : kK E s0) (hcs0 : cells ≤ 600130 ∧ slots ≤ 7301080)
    (jn_1078 :  ∀ ls : Array Slot, lv_has ls 23 [(0, .ref bs), (1, .ref (E.2.2 10)), (2, .ref (E.2.2 g)), (3, .int (zI time)), (4, .int (zI x)), (5, .long (lI dg)), (7, .int (zI sum)), (8, .int (zI pairs)), (9, .int (zI h)), (10, .int (zI n)), (11, .ref (E.2.2 c))] → W pg l en room_1 s0 mi ar bl me co H locs cells slots Q (F0 mi 1078 ls []))
    (hl : lv_has ls 23 [(0, .ref bs), (1, .ref (E.2.2 10)), (2, .ref (E.2.2 g)), (3, .int (zI time)), (4, .int (zI x)), (5, .long (lI dg)), (7, .int (zI sum)), (8, .int (zI pairs)), (9, .int (zI h)), (10, .int (zI n)), (11, .ref (E.2.2 c))]) : W pg l en room_1 s0 mi ar bl me co H locs cells slots Q (F0 mi 966 ls []) := by
  have hx := S.1
  have hb := S.2.1
  have hn := hK.2.2.2
  have hinX00 : ∀ w ∈ wsX00, w ∈ wsL_law := inlX0
  have hinX10 : ∀ w ∈ wsX10, w ∈ wsL_law := inlX1
  have hinX20 : ∀ w ∈ wsX20, w ∈ wsL_law := inlX2
  have hinX30 : ∀ w ∈ wsX30, w ∈ wsL_law := inlX3
  have hinX40 : ∀ w ∈ wsX40, w ∈ wsL_law := inlX4
  have hl : lv_has ls 23 [(0, .ref bs), (1, .ref (E.2.2 10)), (2, .ref (E.2.2 g)), (3, .int (zI time)), (4, .int (zI x)), (5, .long (lI dg)), (7, .int (zI sum)), (8, .int (zI pairs)), (9, .int (zI h)), (10, .int (zI n)), (11, .ref (E.2.2 c))] := hl
  have hs := hV.sm
  have hIN := hV.I0 hI
  have hWN := hIN.1
  have hO2 := hIN.2.1
  obtain ⟨hn0, hn1, hv⟩ := hI.1 h ⟨hh.1, by omega⟩
  rw [← hnn] at hn0 hn1 hv
  have e3 : N (h + 3) = M (h + 3) := hV.fn (by omega)
  have e11 : N h 1 = n := by rw [hV.fn (c := h) (by omega), hnn]
  have hO : kOrd (M (h + 3)) n (M (8 + h)) := by
    have q := hI.2.1 h hh
    unfold kO at q
    rw [← hnn] at q
    exact q
  have hvN : ∀ j : Int, 0 ≤ j → j < n → 0 ≤ N c j ∧ N c j ≤ 8 := fun j j1 j2 => by rw [hav j j1 j2]; exact hv j j1 j2
  have lcx : ∀ a b z : Int, 0 ≤ a → 0 ≤ b → kLC (N c) n a (N c) n b z → kLC (M (h + 3)) n a (M (h + 3)) n b z := fun a b z a1 b1 q => kLC_congr q a1 b1 (fun j j1 j2 => (hav j j1 j2).symm) (fun j j1 j2 => (hav j j1 j2).symm)
  have e5 : N 5 = M 5 := hV.fn (by omega)
  have e21 : N 2 1 = M 2 1 := by rw [hV.fn (c := 2) (by omega)]
  obtain ⟨hp0, hp1, hpv⟩ := hI.1 2 (by omega)
  have hys : kArr E N (y 2) (M 2 1) := hs.arr (i := 2) ⟨by omega, by omega⟩
  have ays : ∀ j : Int, 0 ≤ j → j < M 2 1 → N (y 2) j = M 5 j := fun j j1 j2 => hs.at (i := 2) (j := j) ⟨by omega, by omega⟩ ⟨j1, j2⟩
  have hvS : ∀ j : Int, 0 ≤ j → j < M 2 1 → 0 ≤ N (y 2) j ∧ N (y 2) j ≤ 8 := fun j j1 j2 => by rw [ays j j1 j2]; exact hpv j j1 j2
  refine lv_aload_n hx hb dL_law_966 rfl (lv_at hl 1 rfl) ?_
  refine lv_iload hx hb dL_law_967 (lv_at hl 8 rfl) ?_
  refine k_callV (As := [.int (zI h)]) (rest := []) S hK hP (c_X2_first l E N h (by omega) (by assumption)) (cwV 1 S.2.2.2.2 gL_law_X2_first rfl rfl rfl (by decide +kernel) ⟨Nat.le_of_ble_eq_true rfl, Nat.le_of_ble_eq_true rfl⟩) (k_rX hK hP rfl) rfl hl.1 rfl (Nat.le_of_ble_eq_true rfl) dL_law_969 ⟨by show _ ≤ (600130 : Nat); omega, by show _ ≤ (7301080 : Nat); omega⟩ (fun z_969 h_969 => ?_)
  have hf : kIsFirst (M (h + 3)) n (M 5) (M 2 1) z_969 := by have q := h_969.1; rw [e3, e11, e5, e21] at q; exact q
  refine lv_istore (lv' := [(20, .int (zI z_969)), (0, .ref bs), (1, .ref (E.2.2 10)), (2, .ref (E.2.2 g)), (3, .int (zI time)), (4, .int (zI x)), (5, .long (lI dg)), (7, .int (zI sum)), (8, .int (zI pairs)), (9, .int (zI h)), (10, .int (zI n)), (11, .ref (E.2.2 c))]) hx hb dL_law_972 hl (by decide) rfl (fun ls hl => ?_)
  refine lv_aload_n hx hb dL_law_974 rfl (lv_at hl 2 rfl) ?_
  refine lv_iload hx hb dL_law_975 (lv_at hl 9 rfl) ?_
  refine k_callV (As := [.int (zI h)]) (rest := []) S hK hP (c_X2_found l E N h (by omega) (by assumption)) (cwV 1 S.2.2.2.2 gL_law_X2_found rfl rfl rfl (by decide +kernel) ⟨Nat.le_of_ble_eq_true rfl, Nat.le_of_ble_eq_true rfl⟩) (k_rX hK hP rfl) rfl hl.1 rfl (Nat.le_of_ble_eq_true rfl) dL_law_977 ⟨by show _ ≤ (600130 : Nat); omega, by show _ ≤ (7301080 : Nat); omega⟩ (fun z_977 h_977 => ?_)
  have hc : z_977 = kCnt (kSmp (M (h + 3)) n (M 5) (M 2 1)) n.toNat := by have q := h_977.1; rw [e3, e11, e5, e21] at q; exact q
  have hfc := kFst_cnt hf hc
  refine lv_istore (lv' := [(21, .int (zI z_977)), (20, .int (zI z_969)), (0, .ref bs), (1, .ref (E.2.2 10)), (2, .ref (E.2.2 g)), (3, .int (zI time)), (4, .int (zI x)), (5, .long (lI dg)), (7, .int (zI sum)), (8, .int (zI pairs)), (9, .int (zI h)), (10, .int (zI n)), (11, .ref (E.2.2 c))]) hx hb dL_law_980 hl (by decide) rfl (fun ls hl => ?_)
  have jn_1020 :  ∀ ls : Array Slot, lv_has ls 23 [(0, .ref bs), (1, .ref (E.2.2 10)), (2, .ref (E.2.2 g)), (3, .int (zI time)), (4, .int (zI x)), (5, .long (lI dg)), (7, .int (zI sum)), (8, .int (zI pairs)), (9, .int (zI h)), (10, .int (zI n)), (11, .ref (E.2.2 c)), (20, .int (zI z_969)), (21, .int (zI z_977))] → W pg l en room_1 s0 mi ar bl me co H locs cells slots Q (F0 mi 1020 ls []) := by
    intro   ls hl
    refine k_push hx hb dL_law_1020 ?_
    refine lv_istore (lv' := [(22, .int (zI 0)), (0, .ref bs), (1, .ref (E.2.2 10)), (2, .ref (E.2.2 g)), (3, .int (zI time)), (4, .int (zI x)), (5, .long (lI dg)), (7, .int (zI sum)), (8, .int (zI pairs)), (9, .int (zI h)), (10, .int (zI n)), (11, .ref (E.2.2 c)), (20, .int (zI z_969)), (21, .int (zI z_977))]) hx hb dL_law_1021 hl (by decide) rfl (fun ls hl => ?_)
    have lp_1023 : ∀ (n_1023 : Nat) (k : Int), (0 ≤ k ∧ (k ≤ z_969 + 1 ∨ k = 0)) → (z_969 + 1 - k < (n_1023 : Int)) → ∀ ls : Array Slot, lv_has ls 23 [(0, .ref bs), (1, .ref (E.2.2 10)), (2, .ref (E.2.2 g)), (3, .int (zI time)), (4, .int (zI x)), (5, .long (lI dg)), (7, .int (zI sum)), (8, .int (zI pairs)), (9, .int (zI h)), (10, .int (zI n)), (11, .ref (E.2.2 c)), (20, .int (zI z_969)), (21, .int (zI z_977)), (22, .int (zI k))] → W pg l en room_1 s0 mi ar bl me co H locs cells slots Q (F0 mi 1023 ls []) := by
      intro n_1023
      induction n_1023 with
      | zero => intro k h1 hm_1023; exfalso; omega
      | succ n_1023 ih_1023 =>
        intro k h1 hm_1023 ls hl
        refine lv_iload hx hb dL_law_1023 (lv_at hl 13 rfl) ?_
        refine lv_iload hx hb dL_law_1025 (lv_at hl 11 rfl) ?_
        refine k_gt (tgt := 1078) hx hb dL_law_1027 (by decide) (by omega) (fun c_1027 => ?_) (fun c_1027 => ?_)
        · skip
          refine jn_1078   _ (lv_sub hl [0, 1, 2, 3, 4, 5, 6, 7, 8, 9, 10] rfl)
        · skip
          refine lv_aload hx hb dL_law_1030 (lv_at hl 10 rfl) ?_
          refine lv_iload hx hb dL_law_1032 (lv_at hl 13 rfl) ?_
          refine lv_aload_n hx hb dL_law_1034 rfl (lv_at hl 2 rfl) ?_
          refine k_sim S hK hP hinX40 1 (by decide) (S.2.2.2.2 _ (List.mem_append_left _ (List.mem_append_left _ (List.mem_append_left _ (List.mem_append_left _ (List.mem_append_left _ (List.mem_append_left _ (List.mem_append_left _ (List.mem_append_left _ (List.mem_append_left _ (List.mem_append_left _ (List.mem_of_getElem? (i := 9) rfl)))))))))))) dL_law_1035 ⟨hs.1.1, by have := hs.1.2.1; omega, hs.1.2.2.1⟩ (a := E.2.2 (y 2)) hs.1.2.2.2.2 rfl ?_
          refine k_push hx hb dL_law_1038 ?_
          refine k_callS (As := [.ref (E.2.2 c), .int (zI k), .ref (E.2.2 (y 2)), .int (zI 0)]) (rest := []) S hK hP (c_L_common l E N c k (y 2) 0 n (M 2 1) har hys hvN hvS (by omega) (by omega)) (va_cwS 4 S.2.2.2.2 gL_law_L_common rfl rfl rfl (by decide +kernel) ⟨Nat.le_of_ble_eq_true rfl, Nat.le_of_ble_eq_true rfl⟩) rfl hl.1 rfl (Nat.le_of_ble_eq_true rfl) dL_law_1039 ⟨by show _ ≤ (600130 : Nat); omega, by show _ ≤ (7301080 : Nat); omega⟩ (fun z_1039 h_1039 => ?_)
          have zr := h_1039.1
          have zr2 := h_1039.2.1
          have hk2 := kFst_chk hf ⟨h1.1, by omega⟩ (kLC_congr h_1039 h1.1 (by omega) (fun j j1 j2 => (hav j j1 j2).symm) (fun j j1 j2 => (ays j j1 j2).symm))
          refine lv_aload_n hx hb dL_law_1042 rfl (lv_at hl 2 rfl) ?_
          refine k_sim S hK hP hinX40 1 (by decide) (S.2.2.2.2 _ (List.mem_append_left _ (List.mem_append_left _ (List.mem_append_left _ (List.mem_append_left _ (List.mem_append_left _ (List.mem_append_left _ (List.mem_append_left _ (List.mem_append_left _ (List.mem_append_left _ (List.mem_append_left _ (List.mem_of_getElem? (i := 9) rfl)))))))))))) dL_law_1043 ⟨hs.1.1, by have := hs.1.2.1; omega, hs.1.2.2.1⟩ (a := E.2.2 (y 2)) hs.1.2.2.2.2 rfl ?_
          refine k_alen S hK hP (M 2 1) (hys) dL_law_1046 ?_
          refine k_ne (tgt := 1054) hx hb dL_law_1047 (by decide) (by omega) (fun c_1047 => ?_) (fun c_1047 => ?_)
          · skip
            refine k_push hx hb dL_law_1054 ?_
            refine lv_iload hx hb dL_law_1055 (lv_at hl 13 rfl) ?_
            refine lv_iload hx hb dL_law_1057 (lv_at hl 11 rfl) ?_
            refine k_ne (tgt := 1066) hx hb dL_law_1059 (by decide) (by omega) (fun c_1059 => ?_) (fun c_1059 => ?_)
            · skip
              refine k_push hx hb dL_law_1066 ?_
              refine k_eq (tgt := 1072) hx hb dL_law_1067 (by decide) (by omega) (fun c_1067 => ?_) (fun c_1067 => ?_)
              · skip
                obtain ⟨v22_1072, ev22_1072⟩ : ∃ v : Int, v = k + 1 := ⟨_, rfl⟩
                refine k_incN (v := v22_1072) (lv' := [(22, .int (zI v22_1072)), (0, .ref bs), (1, .ref (E.2.2 10)), (2, .ref (E.2.2 g)), (3, .int (zI time)), (4, .int (zI x)), (5, .long (lI dg)), (7, .int (zI sum)), (8, .int (zI pairs)), (9, .int (zI h)), (10, .int (zI n)), (11, .ref (E.2.2 c)), (20, .int (zI z_969)), (21, .int (zI z_977))]) hx hb dL_law_1072 hl (k := 13) rfl ev22_1072 (by decide) rfl (fun ls hl => ?_)
                refine lv_goto (tgt := 1023) hx hb dL_law_1075 (by decide) ?_
                refine ih_1023 v22_1072 (by omega) (by omega) _ (lv_sub hl [1, 2, 3, 4, 5, 6, 7, 8, 9, 10, 11, 12, 13, 0] rfl)
              · exact absurd c_1067 (by omega)
            · skip
              refine k_push hx hb dL_law_1062 ?_
              refine lv_goto (tgt := 1067) hx hb dL_law_1063 (by decide) ?_
              refine k_eq (tgt := 1072) hx hb dL_law_1067 (by decide) (by omega) (fun c_1067 => ?_) (fun c_1067 => ?_)
              · skip
                obtain ⟨v22_1072, ev22_1072⟩ : ∃ v : Int, v = k + 1 := ⟨_, rfl⟩
                refine k_incN (v := v22_1072) (lv' := [(22, .int (zI v22_1072)), (0, .ref bs), (1, .ref (E.2.2 10)), (2, .ref (E.2.2 g)), (3, .int (zI time)), (4, .int (zI x)), (5, .long (lI dg)), (7, .int (zI sum)), (8, .int (zI pairs)), (9, .int (zI h)), (10, .int (zI n)), (11, .ref (E.2.2 c)), (20, .int (zI z_969)), (21, .int (zI z_977))]) hx hb dL_law_1072 hl (k := 13) rfl ev22_1072 (by decide) rfl (fun ls hl => ?_)
                refine lv_goto (tgt := 1023) hx hb dL_law_1075 (by decide) ?_
                refine ih_1023 v22_1072 (by omega) (by omega) _ (lv_sub hl [1, 2, 3, 4, 5, 6, 7, 8, 9, 10, 11, 12, 13, 0] rfl)
              · exact absurd c_1067 (by omega)
          · skip
            refine k_push hx hb dL_law_1050 ?_
            refine lv_goto (tgt := 1055) hx hb dL_law_1051 (by decide) ?_
            refine lv_iload hx hb dL_law_1055 (lv_at hl 13 rfl) ?_
            refine lv_iload hx hb dL_law_1057 (lv_at hl 11 rfl) ?_
            refine k_ne (tgt := 1066) hx hb dL_law_1059 (by decide) (by omega) (fun c_1059 => ?_) (fun c_1059 => ?_)
            · skip
              refine k_push hx hb dL_law_1066 ?_
              refine k_eq (tgt := 1072) hx hb dL_law_1067 (by decide) (by omega) (fun c_1067 => ?_) (fun c_1067 => ?_)
              · skip
                obtain ⟨v22_1072, ev22_1072⟩ : ∃ v : Int, v = k + 1 := ⟨_, rfl⟩
                refine k_incN (v := v22_1072) (lv' := [(22, .int (zI v22_1072)), (0, .ref bs), (1, .ref (E.2.2 10)), (2, .ref (E.2.2 g)), (3, .int (zI time)), (4, .int (zI x)), (5, .long (lI dg)), (7, .int (zI sum)), (8, .int (zI pairs)), (9, .int (zI h)), (10, .int (zI n)), (11, .ref (E.2.2 c)), (20, .int (zI z_969)), (21, .int (zI z_977))]) hx hb dL_law_1072 hl (k := 13) rfl ev22_1072 (by decide) rfl (fun ls hl => ?_)
                refine lv_goto (tgt := 1023) hx hb dL_law_1075 (by decide) ?_
                refine ih_1023 v22_1072 (by omega) (by omega) _ (lv_sub hl [1, 2, 3, 4, 5, 6, 7, 8, 9, 10, 11, 12, 13, 0] rfl)
              · exact absurd c_1067 (by omega)
            · skip
              refine k_push hx hb dL_law_1062 ?_
              refine lv_goto (tgt := 1067) hx hb dL_law_1063 (by decide) ?_
              refine k_eq (tgt := 1072) hx hb dL_law_1067 (by decide) (by omega) (fun c_1067 => ?_) (fun c_1067 => ?_)
              · skip
                obtain ⟨v22_1072, ev22_1072⟩ : ∃ v : Int, v = k + 1 := ⟨_, rfl⟩
                refine k_incN (v := v22_1072) (lv' := [(22, .int (zI v22_1072)), (0, .ref bs), (1, .ref (E.2.2 10)), (2, .ref (E.2.2 g)), (3, .int (zI time)), (4, .int (zI x)), (5, .long (lI dg)), (7, .int (zI sum)), (8, .int (zI pairs)), (9, .int (zI h)), (10, .int (zI n)), (11, .ref (E.2.2 c)), (20, .int (zI z_969)), (21, .int (zI z_977))]) hx hb dL_law_1072 hl (k := 13) rfl ev22_1072 (by decide) rfl (fun ls hl => ?_)
                refine lv_goto (tgt := 1023) hx hb dL_law_1075 (by decide) ?_
                refine ih_1023 v22_1072 (by omega) (by omega) _ (lv_sub hl [1, 2, 3, 4, 5, 6, 7, 8, 9, 10, 11, 12, 13, 0] rfl)
              · exact absurd c_1067 (by omega)
    refine lp_1023 (((z_969 + 1 - 0 : Int)).toNat + 1) 0 (by omega) (by omega) _ (lv_sub hl [1, 2, 3, 4, 5, 6, 7, 8, 9, 10, 11, 12, 13, 0] rfl)
  refine lv_iload hx hb dL_law_982 (lv_at hl 1 rfl) ?_
  refine k_ge0 (tgt := 991) hx hb dL_law_984 (by decide) (by omega) (fun c_984 => ?_) (fun c_984 => ?_)
  · skip
    refine k_push hx hb dL_law_991 ?_
    refine lv_iload hx hb dL_law_992 (lv_at hl 0 rfl) ?_
    refine k_ne0 (tgt := 1001) hx hb dL_law_994 (by decide) (by omega) (fun c_994 => ?_) (fun c_994 => ?_)
    · skip
      refine k_push hx hb dL_law_1001 ?_
      refine k_ne (tgt := 1018) hx hb dL_law_1002 (by decide) (by omega) (fun c_1002 => ?_) (fun c_1002 => ?_)
      · exact absurd c_1002 (by omega)
      · skip
        refine lv_aload_n hx hb dL_law_1005 rfl (lv_at hl 4 rfl) ?_
        refine k_sim S hK hP hinX40 1 (by decide) (S.2.2.2.2 _ (List.mem_append_left _ (List.mem_append_left _ (List.mem_append_left _ (List.mem_append_left _ (List.mem_append_left _ (List.mem_append_left _ (List.mem_append_left _ (List.mem_append_left _ (List.mem_append_left _ (List.mem_append_left _ (List.mem_of_getElem? (i := 9) rfl)))))))))))) dL_law_1006 ⟨hs.1.1, by have := hs.1.2.1; omega, hs.1.2.2.1⟩ (a := E.2.2 (y 2)) hs.1.2.2.2.2 rfl ?_
        refine k_alen S hK hP (M 2 1) (hys) dL_law_1009 ?_
        refine k_ne0 (tgt := 1020) hx hb dL_law_1010 (by decide) (by omega) (fun c_1010 => ?_) (fun c_1010 => ?_)
        · skip
          refine jn_1020   _ (lv_sub hl [2, 3, 4, 5, 6, 7, 8, 9, 10, 11, 12, 1, 0] rfl)
        · skip
          refine lv_iload hx hb dL_law_1013 (lv_at hl 0 rfl) ?_
          refine k_eq0 (tgt := 1020) hx hb dL_law_1015 (by decide) (by omega) (fun c_1015 => ?_) (fun c_1015 => ?_)
          · skip
            refine jn_1020   _ (lv_sub hl [2, 3, 4, 5, 6, 7, 8, 9, 10, 11, 12, 1, 0] rfl)
          · exact absurd c_1015 (by omega)
    · exact absurd c_994 (by omega)
  · skip
    refine k_push hx hb dL_law_987 ?_
    refine lv_goto (tgt := 992) hx hb dL_law_988 (by decide) ?_
    refine lv_iload hx hb dL_law_992 (lv_at hl 0 rfl) ?_
    refine k_ne0 (tgt := 1001) hx hb dL_law_994 (by decide) (by omega) (fun c_994 => ?_) (fun c_994 => ?_)
    · exact absurd c_994 (by omega)
    · skip
      refine k_push hx hb dL_law_997 ?_
      refine lv_goto (tgt := 1002) hx hb dL_law_998 (by decide) ?_
      refine k_ne (tgt := 1018) hx hb dL_law_1002 (by decide) (by omega) (fun c_1002 => ?_) (fun c_1002 => ?_)
      · exact absurd c_1002 (by omega)
      · skip
        refine lv_aload_n hx hb dL_law_1005 rfl (lv_at hl 4 rfl) ?_
        refine k_sim S hK hP hinX40 1 (by decide) (S.2.2.2.2 _ (List.mem_append_left _ (List.mem_append_left _ (List.mem_append_left _ (List.mem_append_left _ (List.mem_append_left _ (List.mem_append_left _ (List.mem_append_left _ (List.mem_append_left _ (List.mem_append_left _ (List.mem_append_left _ (List.mem_of_getElem? (i := 9) rfl)))))))))))) dL_law_1006 ⟨hs.1.1, by have := hs.1.2.1; omega, hs.1.2.2.1⟩ (a := E.2.2 (y 2)) hs.1.2.2.2.2 rfl ?_
        refine k_alen S hK hP (M 2 1) (hys) dL_law_1009 ?_
        refine k_ne0 (tgt := 1020) hx hb dL_law_1010 (by decide) (by omega) (fun c_1010 => ?_) (fun c_1010 => ?_)
        · skip
          refine jn_1020   _ (lv_sub hl [2, 3, 4, 5, 6, 7, 8, 9, 10, 11, 12, 1, 0] rfl)
        · skip
          refine lv_iload hx hb dL_law_1013 (lv_at hl 0 rfl) ?_
          refine k_eq0 (tgt := 1020) hx hb dL_law_1015 (by decide) (by omega) (fun c_1015 => ?_) (fun c_1015 => ?_)
          · skip
            refine jn_1020   _ (lv_sub hl [2, 3, 4, 5, 6, 7, 8, 9, 10, 11, 12, 1, 0] rfl)
          · exact absurd c_1015 (by omega)
