/-! ===== the mean is a number: nothing of it is drawn ===== -/
theorem kNum {a b : Int} (hb : b ≠ 0 ∧ -2147483648 ≤ b ∧ b ≤ 2147483647) : FP.Core.val64 (FP.ddiv (FP.i2d (zI a)) (FP.i2d (zI b))) ≠ .nan := by
  rw [FP.ddiv_core, FP.i2d_core]
  refine (FP.Core.notNaN_iff _).mp (FP.Core.ddiv_out (FP.Core.DFin.notNaN (FP.Core.i2d_fin _)) (FP.Core.i2d_fin _) ?_)
  rw [FP.Core.zero_bits2]
  refine FP.Core.i2d_ne_zero (fun q => hb.1 ?_)
  rw [zI_0] at q
  exact (zI_eq ⟨hb.2.1, hb.2.2, by omega, by omega⟩).mp q
theorem kMean_num {a b : Int} (hb : -2147483648 ≤ b ∧ b ≤ 2147483647) : FP.Core.val64 (kMean a b) ≠ .nan := by
  unfold kMean
  by_cases e : b = 0
  · rw [if_pos e]
    refine (FP.Core.notNaN_iff _).mp ?_
    decide
  · rw [if_neg e]; exact kNum ⟨e, hb⟩
theorem kNaN_val {v : UInt64} (h : isNaN64 v = true) : FP.Core.val64 v = .nan := by
  have h1 := isNaN64_iff.mp h
  refine (FP.Core.dIsNaN_iff v).mp ((FP.Core.isNaN_bits v).mpr ?_)
  rw [show (0x7fffffffffffffff : Nat) = 2 ^ 63 - 1 from rfl, Nat.and_two_pow_sub_one_eq_mod] at h1
  exact h1
theorem kAlike_num {r v : UInt64} (h : alike64 r v = true) (hv : FP.Core.val64 v ≠ .nan) : r = v := by
  unfold alike64 at h
  simp only [Bool.or_eq_true, decide_eq_true_eq, Bool.and_eq_true] at h
  exact h.resolve_right (fun q => hv (kNaN_val q.2))
theorem kN64 {v : UInt64} (hv : FP.Core.val64 v ≠ .nan) : vf_n64 v := by
  unfold vf_n64
  refine UInt64.not_lt.mp (fun q => hv (kNaN_val ?_))
  unfold isNaN64
  exact decide_eq_true q
theorem kDcmp_self {v : UInt64} (hv : FP.Core.val64 v ≠ .nan) : Op.cmpValue (FP.dcmp v v) CmpOp.l = zI 0 := by
  rw [FP.dcmp_core, FP.Core.dcmp_self hv]
  rfl
theorem kIsMean_num {x : Int → Int} {nx : Int} {y : Int → Int} {ny : Int} {r : UInt64} (h : kIsMean x nx y ny r) (hn : nx ≤ 1000 ∧ ny ≤ 1000) {P Q : Int → Int} (hP : kOrd x nx P) (hQ : kOrd y ny Q) : r = kMean (kSum (kNx x nx P) nx.toNat + kSum (kNx y ny Q) ny.toNat) (kPr nx + kPr ny) ∧ FP.Core.val64 r ≠ .nan := by
  obtain ⟨P', Q', b1, b2, b3⟩ := h
  have e1 : kSum (kNx x nx P') nx.toNat = kSum (kNx x nx P) nx.toNat := kSum_congr _ (fun k _ _ => kNx_congr b1 hP k)
  have e2 : kSum (kNx y ny Q') ny.toNat = kSum (kNx y ny Q) ny.toNat := kSum_congr _ (fun k _ _ => kNx_congr b2 hQ k)
  rw [e1, e2] at b3
  have hv : FP.Core.val64 (kMean (kSum (kNx x nx P) nx.toNat + kSum (kNx y ny Q) ny.toNat) (kPr nx + kPr ny)) ≠ .nan := kMean_num (by unfold kPr; split <;> split <;> omega)
  have e := kAlike_num b3 hv
  rw [e]
  exact ⟨rfl, hv⟩
