/-! ===== methods that answer a cell; methods that throw (one exception, nothing else changes) ===== -/
def kROr (l : Launch) (y : MethodName) (ws : List Cond) (rm : Room) (E : kE) (M : kM) (av : List Value) (x : Int) : Prop := Met l y ws rm (kPre E M av) (va_Sq (fun r => r = some (E.2.2 x))) 0 0 (fun _ => False)
theorem kROr_of {l : Launch} {y : MethodName} {ws ws' : List Cond} {rm : Room} {E : kE} {M : kM} {av : List Value} {x : Int} {cc : ByteArray} {maxL : Nat} {nm : String} (own : String) (hy : plainName y.cls = true) (hw : ws = Cond.code y cc maxL (some (.object nm)) :: ws') (ho : y.cls = own) (hlen : (lg_sl av).length ≤ maxL)
    (body : ∀ (p : Program) (e : Env) (s : State) (m : MethodId) (args : Array Value) (below : List Frame) (meth : Method) (c : Code) (ls : Array Slot) (Q : State → Prop), CallFix p m c cc maxL s args ws own → va_P E.1 vwCl (kW E M) s.heap → kK E s →
      (∀ (pc : Nat) (ls : Array Slot), decode cc pc = .ok (.areturn, 1) → W p l e rm s m args below meth c s.heap [] 0 0 Q (F0 m pc ls [.ref (E.2.2 x)])) → lv_has ls maxL (lv_args 0 av) → W p l e rm s m args below meth c s.heap [] 0 0 Q (F0 m 0 ls [])) : kROr l y ws rm E M av x := by
  refine Met.ofW (cc := cc) (maxL := maxL) (ret := some (.object nm)) hy hw ?_
  intro p e s m args below meth c s₁ B hml hv
  obtain ⟨rfl, hP, hK⟩ := hv
  have hx := B.exec
  have hb := B.bytes
  have hr := B.returns
  have hlocks := B.notSynchronized
  have hl := lv_entry av (n := maxL) hlen
  rw [lg_entry_eq]
  generalize (lg_sl av ++ List.replicate (maxL - (lg_sl av).length) Slot.unset).toArray = ls at hl ⊢
  refine body p e s m _ below meth c ls _ ⟨hx, hb, hml, by rw [← ho]; exact findClass_of_methodNamed B.named, atoms_spec (ws := ws) B.pre⟩ hP hK (fun pc ls hdg => ?_) hl
  exact W.aret (v := .ref (E.2.2 x)) hx hb hr (Or.inl ⟨_, rfl⟩) (Or.inr ⟨_, rfl⟩) (fun t ht hW => ⟨some (E.2.2 x), rfl, rfl, ht⟩) (fun q hq => absurd hq List.not_mem_nil) hdg hlocks
abbrev kISE : String := "java/lang/IllegalStateException"
abbrev kIAE : String := "java/lang/IllegalArgumentException"
abbrev kIOB : String := "java/lang/IndexOutOfBoundsException"
abbrev kNms : List String := ["java/lang/RuntimeException", "java/lang/Exception"]
/-- the texts that are thrown, by their places in the class file -/
def kStr : List (Nat × String) := [(43, "the hem is full"), (56, "the hem is empty, or has no room"), (66, "the sample is full")]
abbrev kDc (nm : String) : Cond := .declares ⟨nm, "<init>", "(Ljava/lang/String;)V"⟩
abbrev kBs (X : String) : List Cond := [Cond.castable X X, kDc "java/lang/RuntimeException", kDc "java/lang/Exception", kDc "java/lang/Throwable"]
/-- what the tables say of the exceptions, beside the words -/
def kXs (U : State) : Prop := (va_Nw (kDc "java/lang/RuntimeException") U ∧ va_Nw (kDc "java/lang/Exception") U ∧ va_Nw (kDc "java/lang/Throwable") U) ∧ va_Nw (.castable kISE kISE) U ∧ ∀ q ∈ kStr, ∃ sa : Nat, vk_R RX2 q.1 q.2 sa U
theorem kXs.warm {s U : State} (hW : s.WarmedH U.vm) (h : kXs s) : kXs U :=
  ⟨⟨va_Nw.warmD hW h.1.1, va_Nw.warmD hW h.1.2.1, va_Nw.warmD hW h.1.2.2⟩, va_Nw.warmC hW h.2.1, fun q hq => by
    obtain ⟨sa, h1⟩ := h.2.2 q hq
    exact ⟨sa, vk_R.warm hW h1⟩⟩
theorem kXs.same {u U : State} (hv : u.vm = U.vm) (h : kXs u) : kXs U :=
  ⟨⟨va_Nw.same rfl hv h.1.1, va_Nw.same rfl hv h.1.2.1, va_Nw.same rfl hv h.1.2.2⟩, va_Nw.same rfl hv h.2.1, fun q hq => by
    obtain ⟨sa, h1⟩ := h.2.2 q hq
    exact ⟨sa, vk_R.same hv.symm h1⟩⟩
def kZ (A : Nat → Prop) (U : State) (H : Heap) : Prop := vx_Zq Bundle.tN "UNASSIGNED_STACK" Bundle.steD A U H ∧ vx_Zq Bundle.tN "SUPPRESSED_SENTINEL" Bundle.listD A U H
theorem kZ.moved {A : Nat → Prop} {u U : State} {H : Heap} (hvm : u.vm.Alike U.vm) (h : kZ A u H) : kZ A U H := ⟨vx_Zq.moved hvm h.1, vx_Zq.moved hvm h.2⟩
theorem kZ.call {E : kE} {s U : State} {H0 H : Heap} {locs : List Loc} (hW : s.WarmedH U.vm) (h : kZ (kA E H0.size) s H0) (hS : va_S (kA E H0.size) H0 H locs) : kZ (kA E H.size) U H :=
  ⟨((h.1.kept hS.2.1).narrow (kA_le hS.1)).moved hW.alike, ((h.2.kept hS.2.1).narrow (kA_le hS.1)).moved hW.alike⟩
theorem kZ.callG {A : Nat → Prop} {E : kE} {s U : State} {H0 H : Heap} {locs : List Loc} (hW : s.WarmedH U.vm) (h : kZ A s H0) (hG : kG A H0.size E) (hS : va_S A H0 H locs) : kZ (kA E H.size) U H :=
  ⟨((h.1.kept hS.2.1).narrow (hG.sub hS.1)).moved hW.alike, ((h.2.kept hS.2.1).narrow (hG.sub hS.1)).moved hW.alike⟩
def kPreX (E : kE) (M : kM) (sz : Nat) (av : List Value) : Array Value → State → Prop := va_Pc av (fun U => U.heap.size = sz ∧ va_P E.1 vwCl (kW E M) U.heap ∧ kK E U ∧ kXs U ∧ kZ (kA E sz) U U.heap)
theorem kPreX_blind {E : kE} {M : kM} {sz : Nat} {av : List Value} : FrameBlind (kPreX E M sz av) := fun a U g mk q => ⟨q.1, q.2.1, q.2.2.1, kK.same (u := U) (U := U.calling g mk a) rfl q.2.2.2.1, kXs.same (u := U) (U := U.calling g mk a) rfl q.2.2.2.2.1, kZ.moved (u := U) (U := U.calling g mk a) (Vm.Alike.refl U.vm) q.2.2.2.2.2⟩
def kXC (E : kE) (M : kM) (X : String) (sz : Nat) : String → State → State → Prop := vx_X (fun _ : Unit => True) (fun X' (_ : Unit) t => X' = X ∧ va_P E.1 vwCl (kW E M) t.heap) (kA E sz)
def kTX (l : Launch) (y : MethodName) (ws : List Cond) (rm : Room) (E : kE) (M : kM) (av : List Value) (X : String) : Prop := ∀ sz : Nat, vx_Met l y ws rm (kPreX E M sz av) (fun _ _ _ _ => False) (kXC E M X sz) 1 6 (kA E sz)
abbrev kXQ (E : kE) (M : kM) (X : String) (below : List Frame) (args : Array Value) (s : State) : State → Prop := vx_MQ below (fun _ _ _ _ => False) (kXC E M X s.heap.size) args s 1 6 (kA E s.heap.size)
theorem kTX_of {l : Launch} {y : MethodName} {ws ws' : List Cond} {rm : Room} {E : kE} {M : kM} {av : List Value} {X : String} {cc : ByteArray} {maxL : Nat} {ret : Option FieldType} (own : String) (hy : plainName y.cls = true) (hw : ws = Cond.code y cc maxL ret :: ws') (ho : y.cls = own) (hlen : (lg_sl av).length ≤ maxL)
    (body : ∀ (p : Program) (e : Env) (s : State) (m : MethodId) (args : Array Value) (below : List Frame) (meth : Method) (c : Code) (ls : Array Slot), CallFix p m c cc maxL s args ws own → va_P E.1 vwCl (kW E M) s.heap → kK E s → kXs s → kZ (kA E s.heap.size) s s.heap → meth.locks = false → (∀ x ∈ c.exceptionTable.toList, False) →
      lv_has ls maxL (lv_args 0 av) → W p l e rm s m args below meth c s.heap [] 0 0 (kXQ E M X below args s) (F0 m 0 ls [])) : kTX l y ws rm E M av X := by
  intro sz
  refine vx_ofW (cc := cc) (maxL := maxL) (ret := ret) hy hw ?_
  intro p e s m args below meth c s₁ B hml htab hv
  obtain ⟨rfl, rfl, hP, hK, hX, hZ⟩ := hv
  have hl := lv_entry av (n := maxL) hlen
  rw [lg_entry_eq]
  generalize (lg_sl av ++ List.replicate (maxL - (lg_sl av).length) Slot.unset).toArray = ls at hl ⊢
  exact body p e s m _ below meth c ls ⟨B.exec, B.bytes, hml, by rw [← ho]; exact findClass_of_methodNamed B.named, atoms_spec (ws := ws) B.pre⟩ hP hK hX hZ B.notSynchronized htab hl
/-- ints of a method that ends with a code after a catch: at most one cell of six slots comes -/
def kRT (l : Launch) (y : MethodName) (ws : List Cond) (rm : Room) (E : kE) (M : kM) (av : List Value) (k : Int) : Prop := ∀ sz : Nat, Met l y ws rm (kPreX E M sz av) (va_Qi (fun r (_ : Unit) => r = zI k) (fun _ t => va_P E.1 vwCl (kW E M) t.heap) (kA E sz)) 1 6 (kA E sz)
section KT
variable {p : Program} {l : Launch} {e : Env} {R : Room} {s : State} {m : MethodId} {args : Array Value} {below : List Frame} {meth : Method} {c : Code} {H H0 : Heap} {locs : List Loc} {cells slots : Nat} {Q : State → Prop}
variable {cc bytes : ByteArray} {pc : Nat} {ls : Array Slot} {rest st : List Value} {E : kE} {M : kM} {nL maxL index n : Nat} {Ts ws : List Cond} {own C : String} {y : MethodName} {ret : Option FieldType} {rm : Room} {As : List Value} {b : Nat}
theorem k_callVr {x : Int} (S : CallFix p m c cc nL s args Ts own) (hK : kK E s) (hP : va_P E.1 vwCl (kW E M) H) (hM : kROr l y ws rm E M (.ref b :: As) x) (cw : CallW R s args own C index y bytes maxL ret ws rm 0 0 n)
    (hrecv : ∃ cellB : Cell, H[b]? = some cellB ∧ cellB.vm.isStatics = false ∧ s.vm.findClass C = some cellB.cls) (hn : As.length = n) (hsz : ls.size = nL) (hst : st = As.reverse ++ .ref b :: rest) (hw : (rest.map fun v => v.category).sum ≤ 8) (hdg : decode cc pc = .ok (.invokevirtual index, 3)) (hf : cells + 0 ≤ R.cells ∧ slots + 0 ≤ R.slots)
    (kk : W p l e R s m args below meth c H locs cells slots Q (F0 m (pc + 3) ls (.ref (E.2.2 x) :: rest))) : W p l e R s m args below meth c H locs cells slots Q (F0 m pc ls st) := by
  refine va_csq (W.runV S hM cw ⟨kPre_blind, hrecv, fun U hU hW => ⟨rfl, by rw [hU]; exact hP, kK.warm hW hK⟩⟩ rfl hn hsz hst (lv_room hw) hdg hf) (fun r hr => ?_)
  subst hr
  exact kk
/-- a call that throws -/
theorem k_thr {X : String} {Qa : State → Outcome → State → Prop} (hr : vx_Run p l e R s m args below meth c H locs cells slots 1 6 (F0 m pc ls st) rest Qa (kXC E M X H.size) (kA E H.size)) (hQ : ∀ a o t, ¬ Qa a o t) (hS : va_S (kA E H0.size) H0 H locs)
    (kx : ∀ (ce : Cell) (q9 : Addr) (H1 : Heap) (locs1 : List Loc), va_P E.1 vwCl (kW E M) H1 → va_S (kA E H0.size) H0 H1 locs1 → H1[q9]? = some ce → ce.vm = .none → s.vm.findClass X = some ce.cls → vx_W p l e R s m args below meth c H1 locs1 (cells + 1) (slots + 6) Q (F0 m pc ls rest) q9) : W p l e R s m args below meth c H locs cells slots Q (F0 m pc ls st) := by
  intro T hT Z
  rcases hr T hT Z with ⟨v, st₀, t, T', L, h0, X', hL, e1, e2, hq, st⟩ | ⟨q, st₀, t, T', L, E', ce, h0, X', hL, e1, e2, ⟨u, hp, hb, hF⟩, hce, hcv, hcl, st⟩
  · exact absurd hq (hQ _ _ _)
  · obtain ⟨rfl, hb⟩ := hb
    obtain ⟨k1, k2, k3⟩ := vx_keep h0 e1 hS (fun q _ h => kA_le hS.1 q h) (kA_le hS.1) hL hF
    obtain ⟨t2, a1, b1⟩ := kx ce q T'.heap (locs ++ L) (by rw [e1]; exact hb) k3 (by rw [e1]; exact hce) hcv hcl T' rfl X'
    exact ⟨t2, st.trans a1, b1⟩
theorem k_thrG {A : Nat → Prop} {X : String} {Qa : State → Outcome → State → Prop} (hr : vx_Run p l e R s m args below meth c H locs cells slots 1 6 (F0 m pc ls st) rest Qa (kXC E M X H.size) (kA E H.size)) (hQ : ∀ a o t, ¬ Qa a o t) (hG : kG A H0.size E) (hS : va_S A H0 H locs)
    (kx : ∀ (ce : Cell) (q9 : Addr) (H1 : Heap) (locs1 : List Loc), va_P E.1 vwCl (kW E M) H1 → va_S A H0 H1 locs1 → H1[q9]? = some ce → ce.vm = .none → s.vm.findClass X = some ce.cls → vx_W p l e R s m args below meth c H1 locs1 (cells + 1) (slots + 6) Q (F0 m pc ls rest) q9) : W p l e R s m args below meth c H locs cells slots Q (F0 m pc ls st) := by
  intro T hT Z
  rcases hr T hT Z with ⟨v, st₀, t, T', L, h0, X', hL, e1, e2, hq, st⟩ | ⟨q, st₀, t, T', L, E', ce, h0, X', hL, e1, e2, ⟨u, hp, hb, hF⟩, hce, hcv, hcl, st⟩
  · exact absurd hq (hQ _ _ _)
  · obtain ⟨rfl, hb⟩ := hb
    obtain ⟨k1, k2, k3⟩ := vx_keep h0 e1 hS (fun q _ h => hG.sub hS.1 q h) (hG.sub hS.1) hL hF
    obtain ⟨t2, a1, b1⟩ := kx ce q T'.heap (locs ++ L) (by rw [e1]; exact hb) k3 (by rw [e1]; exact hce) hcv hcl T' rfl X'
    exact ⟨t2, st.trans a1, b1⟩
theorem k_out {X : String} {ce : Cell} {q9 : Addr} (htab : ∀ x ∈ c.exceptionTable.toList, False) (hlocks : meth.locks = false) (hP : va_P E.1 vwCl (kW E M) H) (hS : va_S (kA E s.heap.size) s.heap H locs) (hc : H[q9]? = some ce) (hv : ce.vm = .none) (hcl : s.vm.findClass X = some ce.cls) (h1 : cells ≤ 1 ∧ slots ≤ 6) :
    vx_W p l e R s m args below meth c H locs cells slots (kXQ E M X below args s) (F0 m pc ls rest) q9 :=
  vx_out (fun x hx => (htab x hx).elim) hlocks hc hv hcl (fun t ht _ => ⟨(), trivial, ⟨rfl, by rw [ht]; exact hP⟩, hS.F ht⟩) hS.2.2 h1.1 h1.2
theorem k_runVX {X : String} (S : CallFix p m c cc nL s args Ts own) (hK : kK E s) (hX : kXs s) (hZ : kZ (kA E H0.size) s H0) (hP : va_P E.1 vwCl (kW E M) H) (hS : va_S (kA E H0.size) H0 H locs) (hM : kTX l y ws rm E M (.ref b :: As) X) (cw : CallW R s args own C index y bytes maxL ret ws rm 1 6 n)
    (hrecv : ∃ cellB : Cell, H[b]? = some cellB ∧ cellB.vm.isStatics = false ∧ s.vm.findClass C = some cellB.cls) (hn : As.length = n) (hsz : ls.size = nL) (hst : st = As.reverse ++ .ref b :: rest) (hw : (rest.map fun v => v.category).sum ≤ 8) (hdg : decode cc pc = .ok (.invokevirtual index, 3)) (hf : cells + 1 ≤ R.cells ∧ slots + 6 ≤ R.slots) :
    vx_Run p l e R s m args below meth c H locs cells slots 1 6 (F0 m pc ls st) rest (fun _ _ _ => False) (kXC E M X H.size) (kA E H.size) :=
  vx_runV S (hM H.size) cw ⟨kPreX_blind, hrecv, fun U hU hW => ⟨rfl, by rw [hU], by rw [hU]; exact hP, kK.warm hW hK, kXs.warm hW hX, by rw [hU]; exact kZ.call hW hZ hS⟩⟩ rfl hn hsz hst (lv_room hw) hdg hf
theorem k_runVXG {A : Nat → Prop} {X : String} (S : CallFix p m c cc nL s args Ts own) (hK : kK E s) (hX : kXs s) (hZ : kZ A s H0) (hG : kG A H0.size E) (hP : va_P E.1 vwCl (kW E M) H) (hS : va_S A H0 H locs) (hM : kTX l y ws rm E M (.ref b :: As) X) (cw : CallW R s args own C index y bytes maxL ret ws rm 1 6 n)
    (hrecv : ∃ cellB : Cell, H[b]? = some cellB ∧ cellB.vm.isStatics = false ∧ s.vm.findClass C = some cellB.cls) (hn : As.length = n) (hsz : ls.size = nL) (hst : st = As.reverse ++ .ref b :: rest) (hw : (rest.map fun v => v.category).sum ≤ 8) (hdg : decode cc pc = .ok (.invokevirtual index, 3)) (hf : cells + 1 ≤ R.cells ∧ slots + 6 ≤ R.slots) :
    vx_Run p l e R s m args below meth c H locs cells slots 1 6 (F0 m pc ls st) rest (fun _ _ _ => False) (kXC E M X H.size) (kA E H.size) :=
  vx_runV S (hM H.size) cw ⟨kPreX_blind, hrecv, fun U hU hW => ⟨rfl, by rw [hU], by rw [hU]; exact hP, kK.warm hW hK, kXs.warm hW hX, by rw [hU]; exact kZ.callG hW hZ hG hS⟩⟩ rfl hn hsz hst (lv_room hw) hdg hf
theorem k_runSX {X : String} (S : CallFix p m c cc nL s args Ts own) (hK : kK E s) (hX : kXs s) (hZ : kZ (kA E H0.size) s H0) (hP : va_P E.1 vwCl (kW E M) H) (hS : va_S (kA E H0.size) H0 H locs) (hM : kTX l y ws rm E M As X) (cw : CallB R s args own index y bytes maxL ret ws rm 1 6 n ∧ (Cond.static y).before args s = true)
    (hn : As.length = n) (hsz : ls.size = nL) (hst : st = As.reverse ++ rest) (hw : (rest.map fun v => v.category).sum ≤ 8) (hdg : decode cc pc = .ok (.invokestatic index, 3)) (hf : cells + 1 ≤ R.cells ∧ slots + 6 ≤ R.slots) :
    vx_Run p l e R s m args below meth c H locs cells slots 1 6 (F0 m pc ls st) rest (fun _ _ _ => False) (kXC E M X H.size) (kA E H.size) :=
  vx_runS S (hM H.size) cw ⟨kPreX_blind, fun U hU hW => ⟨rfl, by rw [hU], by rw [hU]; exact hP, kK.warm hW hK, kXs.warm hW hX, by rw [hU]; exact kZ.call hW hZ hS⟩⟩ rfl hn hsz hst (lv_room hw) hdg hf
/-- 'throw new X(text)', as the class's own methods do it -/
theorem k_throw {X text : String} {ik is ic : Nat} (S : CallFix p m c cc nL s args Ts RX2) (hst : l.stackTraces = false) (hX : kXs s) (hZ : kZ (kA E s.heap.size) s s.heap) (hP : va_P E.1 vwCl (kW E M) s.heap) (hlocks : meth.locks = false) (htab : ∀ x ∈ c.exceptionTable.toList, False) (hsz : ls.size = nL)
    (hcls : Bundle.fit X = true) (hk : (Cond.classLink RX2 ik X).before args s = true) (hini : (Cond.initialized X).before args s = true) (hin : ∀ w ∈ (vx_atS RX2 ic X kNms).filter goodWord, w ∈ Ts) (hB : ∀ w ∈ (vx_atS RX2 ic X kNms).filter (fun w => !goodWord w), w ∈ kBs X) (hca : va_Nw (.castable X X) s)
    (hgood : ∀ w ∈ Cond.classLink RX2 ik X :: Cond.initialized X :: vx_atS RX2 ic X kNms, vx_ot w = true) (hstr : (is, text) ∈ kStr)
    (d0 : decode cc pc = .ok (.new ik, 3)) (d3 : decode cc (pc + 3) = .ok (.dup, 1)) (d4 : decode cc (pc + 4) = .ok (.ldc is, 2)) (d6 : decode cc (pc + 6) = .ok (.invokespecial ic, 3)) (d9 : decode cc (pc + 9) = .ok (.athrow, 1))
    (hR : 5 < R.frames ∧ (rest.map fun v => v.category).sum + 82 ≤ R.locals ∧ 1 ≤ R.cells ∧ 6 ≤ R.slots) : W p l e R s m args below meth c s.heap [] 0 0 (kXQ E M X below args s) (F0 m pc ls rest) := by
  obtain ⟨sa, hsa⟩ := hX.2.2 _ hstr
  refine vx_throwS (names := kNms) (A := kA E s.heap.size) S.1 S.2.1 hst S.2.2.2.1 hcls (by decide) hk hini hsa (vx_hat (B := kBs X) (fun w hw => S.2.2.2.2 w (hin w hw)) hB (vx_c (va_Nw.use rfl hca) (vx_c (va_Nw.use rfl hX.1.1) (vx_c (va_Nw.use rfl hX.1.2.1) (vx_c (va_Nw.use rfl hX.1.2.2) vx_n))))) hgood hZ.1 hZ.2 va_S.rf (hsz.trans S.2.2.1.symm) d0 d3 d4 d6 d9
    (fun x hx => (htab x hx).elim) hR.1 hR.2.1 (by omega) (by omega) hlocks (fun t _ h1 h2 => ⟨(), trivial, ⟨rfl, hP.kept (fun k q hk => h2 q.1 (vx_lt hP hk))⟩, ⟨h1, fun q hq _ => h2 q hq⟩⟩) (fun q hq => absurd hq List.not_mem_nil) (by omega) (by omega)
end KT
theorem kg_45 : ∀ w ∈ Cond.classLink RX2 41 kISE :: Cond.initialized kISE :: vx_atS RX2 45 kISE kNms, vx_ot w = true := by decide +kernel
theorem kb_45 : ∀ w ∈ (vx_atS RX2 45 kISE kNms).filter (fun w => !goodWord w), w ∈ kBs kISE := by decide +kernel
