/-! ===== what the mean is: one number for both sides, or a NaN ===== -/
def kPr (n : Int) : Int := if 0 < n then n - 1 else 0
def kMean (a b : Int) : UInt64 := if b = 0 then FP.dconst0 else FP.ddiv (FP.i2d (zI a)) (FP.i2d (zI b))
def kIsMean (x : Int → Int) (nx : Int) (y : Int → Int) (ny : Int) (r : UInt64) : Prop := ∃ P Q : Int → Int, kOrd x nx P ∧ kOrd y ny Q ∧ alike64 r (kMean (kSum (kNx x nx P) nx.toNat + kSum (kNx y ny Q) ny.toNat) (kPr nx + kPr ny)) = true
theorem kIsMean_two {x : Int → Int} {nx : Int} {y : Int → Int} {ny : Int} {r r' : UInt64} (h : kIsMean x nx y ny r) (h' : kIsMean x nx y ny r') : ∃ v : UInt64, alike64 r v = true ∧ alike64 r' v = true := by
  obtain ⟨P, Q, a1, a2, a3⟩ := h
  obtain ⟨P', Q', b1, b2, b3⟩ := h'
  have e1 : kSum (kNx x nx P') nx.toNat = kSum (kNx x nx P) nx.toNat := kSum_congr _ (fun k _ _ => kNx_congr b1 a1 k)
  have e2 : kSum (kNx y ny Q') ny.toNat = kSum (kNx y ny Q) ny.toNat := kSum_congr _ (fun k _ _ => kNx_congr b2 a2 k)
  rw [e1, e2] at b3
  exact ⟨_, a3, b3⟩
/-- the same number, or both a NaN -/
theorem kAlike {a b v : UInt64} (h : alike64 a v = true) (h' : alike64 b v = true) : a = b ∨ (isNaN64 a = true ∧ isNaN64 b = true) := by
  unfold alike64 at h h'
  simp only [Bool.or_eq_true, decide_eq_true_eq, Bool.and_eq_true] at h h'
  rcases h with h | h <;> rcases h' with h' | h'
  · exact Or.inl (h.trans h'.symm)
  · exact Or.inr ⟨by rw [h]; exact h'.2, h'.1⟩
  · exact Or.inr ⟨h.1, by rw [h']; exact h.2⟩
  · exact Or.inr ⟨h.1, h'.1⟩
/-! a method that may draw which NaN it answers, over the world -/
def kMD (l : Launch) (y : MethodName) (ws : List Cond) (rm : Room) (E : kE) (M : kM) (av : List Value) (post : UInt64 → kM → Prop) : Prop := ∀ sz : Nat, MetD lw_cs l y ws rm (kPreW E M sz av) (va_Qd (fun r (u : kM) => post r u) (fun u t => va_P E.1 vwCl (kW E u) t.heap) (kA E sz)) 0 0 (kA E sz)
theorem kMD_of {l : Launch} {y : MethodName} {ws ws' : List Cond} {rm : Room} {E : kE} {M : kM} {av : List Value} {post : UInt64 → kM → Prop} {cc : ByteArray} {maxL : Nat} (own : String) (hy : plainName y.cls = true) (hw : ws = Cond.code y cc maxL (some .double) :: ws') (ho : y.cls = own) (hlen : (lg_sl av).length ≤ maxL)
    (body : ∀ (p : Program) (e : Env) (s : State) (m : MethodId) (args : Array Value) (below : List Frame) (meth : Method) (c : Code) (ls : Array Slot) (Q : State → Prop), CallFix p m c cc maxL s args ws own → va_P E.1 vwCl (kW E M) s.heap → va_S (kA E s.heap.size) s.heap s.heap [] → kK E s →
      (∀ (pc : Nat) (ls : Array Slot) (M1 : kM) (H : Heap) (locs : List Loc), decode cc pc = .ok (.dreturn, 1) → va_P E.1 vwCl (kW E M1) H → va_S (kA E s.heap.size) s.heap H locs → post FP.dconst0 M1 → W p l e rm s m args below meth c H locs 0 0 Q (F0 m pc ls [.double FP.dconst0])) →
      (∀ (pc : Nat) (ls : Array Slot) (a b : Int) (M1 : kM) (H : Heap) (locs : List Loc), decode cc pc = .ok (.ddiv, 1) → decode cc (pc + 1) = .ok (.dreturn, 1) → va_P E.1 vwCl (kW E M1) H → va_S (kA E s.heap.size) s.heap H locs → (∀ r : UInt64, alike64 r (FP.ddiv (FP.i2d (zI a)) (FP.i2d (zI b))) = true → post r M1) → W p l e rm s m args below meth c H locs 0 0 Q (F0 m pc ls [.double (FP.i2d (zI b)), .double (FP.i2d (zI a))])) →
      lv_has ls maxL (lv_args 0 av) → W p l e rm s m args below meth c s.heap [] 0 0 Q (F0 m 0 ls [])) : kMD l y ws rm E M av post := by
  intro sz
  refine MetD.ofW (cc := cc) (maxL := maxL) (ret := some .double) hy hw ?_
  intro p e s m args below meth c s₁ B hml hv hd0
  obtain ⟨rfl, rfl, hP, hK⟩ := hv
  have hx := B.exec
  have hb := B.bytes
  have hr := B.returns
  have hlocks := B.notSynchronized
  have hl := lv_entry av (n := maxL) hlen
  rw [lg_entry_eq]
  generalize (lg_sl av ++ List.replicate (maxL - (lg_sl av).length) Slot.unset).toArray = ls at hl ⊢
  refine body p e (s.setDrawn s.drawn) m _ below meth c ls _ ⟨hx, hb, hml, by rw [← ho]; exact findClass_of_methodNamed B.named, dr_words (atoms_spec (ws := ws) B.pre) _⟩ hP va_S.rf hK (fun pc ls M1 H locs hdg hP1 hS hp => ?_) (fun pc ls a b M1 H locs hdg hdg1 hP1 hS hp => ?_) hl
  · refine W.endD hd0 ?_
    exact W.dret hx hb hr (fun t ht hW => ⟨⟨FP.dconst0, M1, rfl, hp, by subst ht; exact hP1⟩, hS.F ht⟩) hS.2.2 hdg hlocks
  · refine lv_ddiv_any hd0 lw_bits hx hb hdg (fun r d1 hal hd1 => ?_)
    refine W.endD hd1 ?_
    exact W.dret hx hb hr (fun t ht hW => ⟨⟨r, M1, rfl, hp r hal, by subst ht; exact hP1⟩, hS.F ht⟩) hS.2.2 hdg1 hlocks
section KMD
variable {p : Program} {l : Launch} {e : Env} {R : Room} {s : State} {m : MethodId} {args : Array Value} {below : List Frame} {meth : Method} {c : Code} {H H0 : Heap} {locs : List Loc} {cells slots : Nat} {Q : State → Prop}
variable {cc bytes : ByteArray} {pc : Nat} {ls : Array Slot} {rest st : List Value} {E : kE} {M : kM} {nL maxL index n : Nat} {Ts ws : List Cond} {own C : String} {y : MethodName} {ret : Option FieldType} {rm : Room} {As : List Value} {b : Nat}
theorem k_callMD {post : UInt64 → kM → Prop} {d0 : Drawn} (hd0 : s.drawn.sameBut d0 lw_cs) (S : CallFix p m c cc nL (s.setDrawn d0) args Ts own) (hK : kK E s) (hP : va_P E.1 vwCl (kW E M) H) (hS : va_S (kA E H0.size) H0 H locs) (hM : kMD l y ws rm E M (.ref b :: As) post) (cw : CallW R (s.setDrawn d0) args own C index y bytes maxL ret ws rm 0 0 n)
    (hrecv : ∃ cellB : Cell, H[b]? = some cellB ∧ cellB.vm.isStatics = false ∧ s.vm.findClass C = some cellB.cls) (hn : As.length = n) (hsz : ls.size = nL) (hst : st = As.reverse ++ .ref b :: rest) (hw : (rest.map fun v => v.category).sum ≤ 8) (hdg : decode cc pc = .ok (.invokevirtual index, 3)) (hf : cells + 0 ≤ R.cells ∧ slots + 0 ≤ R.slots)
    (kk : ∀ (r : UInt64) (M1 : kM) (H1 : Heap) (locs1 : List Loc) (d1 : Drawn), s.drawn.sameBut d1 lw_cs → post r M1 → va_P E.1 vwCl (kW E M1) H1 → va_S (kA E H0.size) H0 H1 locs1 → W p l e R (s.setDrawn d1) m args below meth c H1 locs1 cells slots Q (F0 m (pc + 3) ls (.double r :: rest))) : W p l e R (s.setDrawn d0) m args below meth c H locs cells slots Q (F0 m pc ls st) := by
  refine va_calldD hd0 (va_runV_D S (hM H.size) cw ⟨kPreW_blind, hrecv, fun U hU hW => ⟨rfl, by rw [hU], by rw [hU]; exact hP, kK.warm hW hK⟩⟩ rfl hn hsz hst (lv_room hw) hdg hf) hS (fun q _ h => kA_le hS.1 q h) (kA_le hS.1) (fun r u t H1 locs1 ht hvm hw hB hz hk hS1 d1 hd1 => ?_)
  rw [ht] at hB
  exact kk r u H1 locs1 d1 hd1 hw hB hS1
end KMD
theorem kNaN {a : UInt64} (h : isNaN64 a = true) (b : UInt64) : Op.cmpValue (FP.dcmp a b) CmpOp.l = -1 ∧ Op.cmpValue (FP.dcmp b a) CmpOp.l = -1 := by
  have h1 := isNaN64_iff.mp h
  have h2 : FP.Core.val64 a = .nan := by
    refine (FP.Core.dIsNaN_iff a).mp ((FP.Core.isNaN_bits a).mpr ?_)
    rw [show (0x7fffffffffffffff : Nat) = 2 ^ 63 - 1 from rfl, Nat.and_two_pow_sub_one_eq_mod] at h1
    exact h1
  have h3 : FP.dcmp a b = none := (FP.Core.dcmp_none a b).mpr (Or.inl h2)
  have h4 : FP.dcmp b a = none := (FP.Core.dcmp_none b a).mpr (Or.inr h2)
  rw [h3, h4]
  exact ⟨rfl, rfl⟩
theorem kSum_two (f : Int → Int) : kSum f (2 : Int).toNat = f 0 + f 1 := by
  have a1 := kSum_step f (k := 1) (by omega)
  have a2 := kSum_step f (k := 0) (by omega)
  rw [kSum_0] at a2
  have a3 : kSum f ((0 : Int) + 1).toNat = kSum f (1 : Int).toNat := rfl
  have a4 : kSum f ((1 : Int) + 1).toNat = kSum f (2 : Int).toNat := rfl
  omega
theorem kNxSum {x : Int → Int} {n : Int} {P : Int → Int} {r : Int} (hn : 0 ≤ n) (h1 : n ≤ r) (h2 : 1 ≤ r) (h3 : r ≤ n ∨ r = 1) : kSum (kNx x n P) n.toNat = kSum (kNx x n P) (r - 1).toNat := by
  by_cases g : n = 0
  · rw [g, show r - 1 = 0 by omega]
  · have e := kSum_step (kNx x n P) (k := n - 1) (by omega)
    rw [kNx_out (by omega), show n - 1 + 1 = n by omega] at e
    rw [e, show r - 1 = n - 1 by omega]
    omega
