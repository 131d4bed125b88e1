/-! ===== the law's view of the object: M, its Sim at g, its Rows at r; N is the world as it is ===== -/
theorem kArr_st {E : kE} {M M1 : kM} {c len j v : Int} (h : kArr E M c len) (e : M1 = kU M c j v) (hj : 0 ≤ j) : kArr E M1 c len := by
  unfold kArr at h ⊢
  rw [e, kU_place (by omega), kU_place (by omega)]
  exact h
theorem kRs.keep {E : kE} {M M1 : kM} {r : Int} {N : Int → Int} {X : Int → Int → Int} (h : kRs E M r N X) (hM : ∀ k i : Int, r ≤ k → k ≤ r + 19 → M1 k i = M k i) : kRs E M1 r N X := by
  obtain ⟨hL, wd, hw⟩ := h
  have e : ∀ k : Int, r ≤ k → k ≤ r + 19 → M1 k = M k := fun k k1 k2 => funext (fun i => hM k i k1 k2)
  refine ⟨hL.of (fun k i k1 k2 _ => hM k i k1 k2), wd, fun h h1 h2 => ?_⟩
  rw [e (r + 1) (by omega) (by omega), e (r + 2) (by omega) (by omega), e (r + 4 + h) (by omega) (by omega), e (r + 7 + h) (by omega) (by omega), e (r + 10 + h) (by omega) (by omega), e r (by omega) (by omega), e (r + 13 + h) (by omega) (by omega), e (r + 15) (by omega) (by omega), e (r + 17 + h) (by omega) (by omega)]
  exact hw h h1 h2
/-- the Sim alone -/
def kVs (E0 E : kE) (M N : kM) (g : Int) (y : Int → Int) : Prop := kExt E0 E ∧ (∀ k i : Int, k < kn E0 → N k i = M k i) ∧ kSm E0 M g y (fun i => M i 1) (fun i => M (i + 3)) ∧ 11 ≤ kn E0
def kVw (E0 E : kE) (M N : kM) (g r : Int) (y : Int → Int) : Prop := kVs E0 E M N g y ∧ kn E0 ≤ r ∧ kRs E N r (fun i => M i 1) (fun i => M (i + 3))
section KVW
variable {E0 E E1 : kE} {M N N1 : kM} {g r : Int} {y : Int → Int}
theorem kVs.ext (h : kVs E0 E M N g y) (hX : kExt E E1) (hN : ∀ k i : Int, k < kn E → N1 k i = N k i) : kVs E0 E1 M N1 g y := by
  have := h.1.2.2.1
  exact ⟨h.1.tr hX, fun k i hk => (hN k i (by omega)).trans (h.2.1 k i hk), h.2.2.1, h.2.2.2⟩
theorem kVs.st (h : kVs E0 E M N g y) (hN : ∀ k i : Int, k < kn E0 → N1 k i = N k i) : kVs E0 E M N1 g y := ⟨h.1, fun k i hk => (hN k i hk).trans (h.2.1 k i hk), h.2.2.1, h.2.2.2⟩
theorem kVs.sm (h : kVs E0 E M N g y) : kSm E N g y (fun i => M i 1) (fun i => M (i + 3)) := h.2.2.1.ext h.1 (fun k i _ hk => h.2.1 k i hk)
theorem kVs.fn (h : kVs E0 E M N g y) {c : Int} (hc : c < 11) : N c = M c := by
  have := h.2.2.2
  exact funext (fun i => h.2.1 c i (by omega))
theorem kVs.I0 (h : kVs E0 E M N g y) (hI : kI0 M) : kI0 N := kI0_congr hI (fun c i hc => congrFun (h.fn hc) i)
theorem kVw.ext (h : kVw E0 E M N g r y) (hX : kExt E E1) (hN : ∀ k i : Int, k < kn E → N1 k i = N k i) : kVw E0 E1 M N1 g r y := ⟨h.1.ext hX hN, h.2.1, h.2.2.ext hX (fun k i _ hk => hN k i hk)⟩
theorem kVw.st (h : kVw E0 E M N g r y) (hN : ∀ k i : Int, k < kn E0 ∨ (r ≤ k ∧ k ≤ r + 19) → N1 k i = N k i) : kVw E0 E M N1 g r y := ⟨h.1.st (fun k i hk => hN k i (Or.inl hk)), h.2.1, h.2.2.keep (fun k i k1 k2 => hN k i (Or.inr ⟨k1, k2⟩))⟩
end KVW
/-! the sums and the pairs of both hems -/
def kSS (M : kM) (q : Int) : Int := kSum (kNx (M (q + 3)) (M q 1) (M (8 + q))) (M q 1).toNat
theorem kSS_any {M : kM} {q : Int} (h : kO M q) {P : Int → Int} (hP : kOrd (M (q + 3)) (M q 1) P) : kSum (kNx (M (q + 3)) (M q 1) P) (M q 1).toNat = kSS M q := kSum_congr _ (fun k _ _ => kNx_congr hP h k)
/-- one pair more -/
theorem kNx_add {x : Int → Int} {n : Int} {P : Int → Int} {u s z k : Int} (hk : 1 ≤ k ∧ k < n) (hu : u = s + kSum (kNx x n P) (k - 1).toNat) (hz : z = kL x n (P (k - 1)) x n (P k)) : u + z = s + kSum (kNx x n P) (k + 1 - 1).toNat := by
  have e := kSum_step (kNx x n P) (k := k - 1) (by omega)
  rw [show k - 1 + 1 = k by omega, kNx_in (by omega), show k - 1 + 1 = k by omega] at e
  rw [show k + 1 - 1 = k by omega, e, hu, hz]
  omega
theorem kNx_fin {x : Int → Int} {n : Int} {P : Int → Int} {k : Int} (hn : 0 ≤ n) (hk : k = n) : kSum (kNx x n P) (k - 1).toNat = kSum (kNx x n P) n.toNat := by
  by_cases e : n = 0
  · rw [hk, e]; rfl
  · have e2 := kSum_step (kNx x n P) (k := n - 1) (by omega)
    rw [kNx_out (by omega), show n - 1 + 1 = n by omega] at e2
    rw [hk, e2]; omega
/-! a method that may draw, and makes cells, and answers 1 -/
def kND (l : Launch) (y : MethodName) (ws : List Cond) (rm : Room) (mc ms : Nat) (E : kE) (M : kM) (av : List Value) : Prop := ∀ sz : Nat, MetD lw_cs l y ws rm (kPreW E M sz av) (va_Qi (fun r (_ : Unit) => r = zI 1) (fun _ _ => True) (kA E sz)) mc ms (kA E sz)
theorem kND_of {l : Launch} {y : MethodName} {ws ws' : List Cond} {rm : Room} {mc ms : Nat} {E : kE} {M : kM} {av : List Value} {cc : ByteArray} {maxL : Nat} (own : String) (hE : kInj E) (hy : plainName y.cls = true) (hw : ws = Cond.code y cc maxL (some .boolean) :: ws') (ho : y.cls = own) (hlen : (lg_sl av).length ≤ maxL)
    (body : ∀ (p : Program) (e : Env) (s : State) (m : MethodId) (args : Array Value) (below : List Frame) (meth : Method) (c : Code) (ls : Array Slot) (Q : State → Prop), CallFix p m c cc maxL s args ws own → va_P E.1 vwCl (kW E M) s.heap → va_S (kA E s.heap.size) s.heap s.heap [] → kK E s → kG (kA E s.heap.size) s.heap.size E →
      (∀ (pc : Nat) (ls : Array Slot) (d1 : Drawn) (H : Heap) (locs : List Loc), decode cc pc = .ok (.ireturn, 1) → s.drawn.sameBut d1 lw_cs → va_S (kA E s.heap.size) s.heap H locs → W p l e rm (s.setDrawn d1) m args below meth c H locs mc ms Q (F0 m pc ls [.int (zI 1)])) → lv_has ls maxL (lv_args 0 av) → W p l e rm s m args below meth c s.heap [] 0 0 Q (F0 m 0 ls [])) : kND l y ws rm mc ms E M av := by
  intro sz
  refine MetD.ofW (cc := cc) (maxL := maxL) (ret := some .boolean) hy hw ?_
  intro p e s m args below meth c s₁ B hml hv hd0
  obtain ⟨rfl, rfl, hP, hK⟩ := hv
  have hx := B.exec
  have hb := B.bytes
  have hr := B.returns
  have hlocks := B.notSynchronized
  have hl := lv_entry av (n := maxL) hlen
  rw [lg_entry_eq]
  generalize (lg_sl av ++ List.replicate (maxL - (lg_sl av).length) Slot.unset).toArray = ls at hl ⊢
  refine body p e (s.setDrawn s.drawn) m _ below meth c ls _ ⟨hx, hb, hml, by rw [← ho]; exact findClass_of_methodNamed B.named, dr_words (atoms_spec (ws := ws) B.pre) _⟩ hP va_S.rf hK (kG.rf hE _) (fun pc ls d1 H locs hdg hd1 hS => ?_) hl
  refine W.endD hd1 ?_
  exact W.zret (v := zI 1) hx hb hr (k_narb (Or.inr rfl)) (fun t ht hW => ⟨⟨zI 1, (), rfl, rfl, trivial⟩, hS.F ht⟩) hS.2.2 hdg hlocks
section KDD
variable {p : Program} {l : Launch} {e : Env} {R : Room} {s : State} {m : MethodId} {args : Array Value} {below : List Frame} {meth : Method} {c : Code} {H H0 : Heap} {locs : List Loc} {cells slots : Nat} {Q : State → Prop}
variable {cc bytes : ByteArray} {pc : Nat} {ls : Array Slot} {rest st : List Value} {E : kE} {M : kM} {nL maxL index n mc ms : Nat} {Ts ws : List Cond} {own C : String} {y : MethodName} {ret : Option FieldType} {rm : Room} {As : List Value} {b : Nat} {A : Nat → Prop}
theorem k_callMDG {post : UInt64 → kM → Prop} {d0 : Drawn} (hd0 : s.drawn.sameBut d0 lw_cs) (S : CallFix p m c cc nL (s.setDrawn d0) args Ts own) (hK : kK E s) (hG : kG A H0.size E) (hP : va_P E.1 vwCl (kW E M) H) (hS : va_S A H0 H locs) (hM : kMD l y ws rm E M (.ref b :: As) post) (cw : CallW R (s.setDrawn d0) args own C index y bytes maxL ret ws rm 0 0 n)
    (hrecv : ∃ cellB : Cell, H[b]? = some cellB ∧ cellB.vm.isStatics = false ∧ s.vm.findClass C = some cellB.cls) (hn : As.length = n) (hsz : ls.size = nL) (hst : st = As.reverse ++ .ref b :: rest) (hw : (rest.map fun v => v.category).sum ≤ 8) (hdg : decode cc pc = .ok (.invokevirtual index, 3)) (hf : cells + 0 ≤ R.cells ∧ slots + 0 ≤ R.slots)
    (kk : ∀ (r : UInt64) (M1 : kM) (H1 : Heap) (locs1 : List Loc) (d1 : Drawn), s.drawn.sameBut d1 lw_cs → post r M1 → va_P E.1 vwCl (kW E M1) H1 → va_S A H0 H1 locs1 → W p l e R (s.setDrawn d1) m args below meth c H1 locs1 cells slots Q (F0 m (pc + 3) ls (.double r :: rest))) : W p l e R (s.setDrawn d0) m args below meth c H locs cells slots Q (F0 m pc ls st) := by
  refine va_calldD hd0 (va_runV_D S (hM H.size) cw ⟨kPreW_blind, hrecv, fun U hU hW => ⟨rfl, by rw [hU], by rw [hU]; exact hP, kK.warm hW hK⟩⟩ rfl hn hsz hst (lv_room hw) hdg hf) hS (fun q _ h => hG.sub hS.1 q h) (hG.sub hS.1) (fun r u t H1 locs1 ht hvm hw hB hz hk hS1 d1 hd1 => ?_)
  rw [ht] at hB
  exact kk r u H1 locs1 d1 hd1 hw hB hS1
theorem k_callNDG {d0 : Drawn} (hd0 : s.drawn.sameBut d0 lw_cs) (S : CallFix p m c cc nL (s.setDrawn d0) args Ts own) (hK : kK E s) (hG : kG A H0.size E) (hP : va_P E.1 vwCl (kW E M) H) (hS : va_S A H0 H locs) (hM : kND l y ws rm mc ms E M (.ref b :: As)) (cw : CallW R (s.setDrawn d0) args own C index y bytes maxL ret ws rm mc ms n)
    (hrecv : ∃ cellB : Cell, H[b]? = some cellB ∧ cellB.vm.isStatics = false ∧ s.vm.findClass C = some cellB.cls) (hn : As.length = n) (hsz : ls.size = nL) (hst : st = As.reverse ++ .ref b :: rest) (hw : (rest.map fun v => v.category).sum ≤ 8) (hdg : decode cc pc = .ok (.invokevirtual index, 3)) (hf : cells + mc ≤ R.cells ∧ slots + ms ≤ R.slots)
    (kk : ∀ (H1 : Heap) (locs1 : List Loc) (d1 : Drawn), s.drawn.sameBut d1 lw_cs → va_S A H0 H1 locs1 → W p l e R (s.setDrawn d1) m args below meth c H1 locs1 (cells + mc) (slots + ms) Q (F0 m (pc + 3) ls (.int (zI 1) :: rest))) : W p l e R (s.setDrawn d0) m args below meth c H locs cells slots Q (F0 m pc ls st) := by
  refine va_calliD hd0 (va_runV_D S (hM H.size) cw ⟨kPreW_blind, hrecv, fun U hU hW => ⟨rfl, by rw [hU], by rw [hU]; exact hP, kK.warm hW hK⟩⟩ rfl hn hsz hst (lv_room hw) hdg hf) hS (fun q _ h => hG.sub hS.1 q h) (hG.sub hS.1) (fun r u t H1 locs1 ht hvm hw hB hz hk hS1 d1 hd1 => ?_)
  subst hw
  exact kk H1 locs1 d1 hd1 hS1
theorem CallFix.drawn (S : CallFix p m c cc nL s args Ts own) (d : Drawn) : CallFix p m c cc nL (s.setDrawn d) args Ts own := ⟨S.1, S.2.1, S.2.2.1, S.2.2.2.1, dr_words S.2.2.2.2 d⟩
end KDD
abbrev rX4_isSame : Room := { frames := 60, cells := 28, slots := 29287, locals := 3000 }
