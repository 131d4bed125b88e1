/-! ===== what holds between the law's acts; methods of the law that catch, or call such ===== -/
def kI0 (M : kM) : Prop := kWf M ∧ (∀ h : Int, 0 ≤ h ∧ h < 2 → kO M h) ∧ M 2 1 ≤ 12
def kJ (E : kE) (M : kM) (g : Int) : Prop := kI0 M ∧ ∃ y : Int → Int, kSm E M g y (fun i => M i 1) (fun i => M (i + 3))
theorem kO_congr {M N : kM} {h : Int} (H : kO M h) (e1 : ∀ i : Int, N h i = M h i) (e2 : ∀ i : Int, N (h + 3) i = M (h + 3) i) (e3 : ∀ i : Int, N (8 + h) i = M (8 + h) i) : kO N h :=
  kOrd_congr H (e1 1) (fun j _ _ => e2 j) (fun r _ _ => e3 r)
theorem kI0_congr {M N : kM} (h : kI0 M) (e : ∀ c i : Int, c < 11 → N c i = M c i) : kI0 N :=
  ⟨kWf_congr h.1 (fun c i _ c2 => e c i (by omega)), fun q hq => kO_congr (h.2.1 q hq) (fun i => e _ i (by omega)) (fun i => e _ i (by omega)) (fun i => e _ i (by omega)), by rw [e 2 1 (by omega)]; exact h.2.2⟩
theorem kJ.ext {E E1 : kE} {M M1 : kM} {g : Int} (h : kJ E M g) (hn : 11 ≤ kn E) (hX : kExt E E1) (hM : ∀ c i : Int, c < kn E → M1 c i = M c i) : kJ E1 M1 g := by
  obtain ⟨h0, y, hs⟩ := h
  have e : ∀ c i : Int, c < 11 → M1 c i = M c i := fun c i hc => hM c i (by omega)
  exact ⟨kI0_congr h0 e, y, (hs.ext hX (fun k i _ k2 => hM k i k2)).like (fun i i1 i2 => e i 1 (by omega)) (fun i j i1 i2 _ _ => e (i + 3) j (by omega))⟩
/-- ints of a method that may come upon an exception -/
def kNX (l : Launch) (y : MethodName) (ws : List Cond) (rm : Room) (mc ms : Nat) (E : kE) (M : kM) (av : List Value) (post : kE → kM → Int → Prop) : Prop := ∀ sz : Nat, Met l y ws rm (kPreX E M sz av) (va_Qi (fun r (u : kE × kM × Int) => r = zI u.2.2 ∧ kExt E u.1 ∧ post u.1 u.2.1 u.2.2) (fun u t => kG (kA E sz) sz u.1 ∧ va_P u.1.1 vwCl (kW u.1 u.2.1) t.heap) (kA E sz)) mc ms (kA E sz)
/-- ... that answers a cell -/
def kNXR (l : Launch) (y : MethodName) (ws : List Cond) (rm : Room) (mc ms : Nat) (E : kE) (M : kM) (av : List Value) (post : kE → kM → Int → Prop) : Prop := ∀ sz : Nat, Met l y ws rm (kPreX E M sz av) (va_Qr (fun u : kE × kM × Int => kExt E u.1 ∧ post u.1 u.2.1 u.2.2) (fun u a t => a = u.1.2.2 u.2.2 ∧ kG (kA E sz) sz u.1 ∧ va_P u.1.1 vwCl (kW u.1 u.2.1) t.heap) (kA E sz)) mc ms (kA E sz)
/-- how a body with an int comes to its end -/
abbrev kEndI (p : Program) (l : Launch) (e : Env) (rm : Room) (s : State) (m : MethodId) (args : Array Value) (below : List Frame) (meth : Method) (c : Code) (cc : ByteArray) (mc ms : Nat) (E : kE) (post : kE → kM → Int → Prop) (Q : State → Prop) : Prop :=
  ∀ (pc : Nat) (ls : Array Slot) (E1 : kE) (M1 : kM) (z : Int) (H : Heap) (locs : List Loc), decode cc pc = .ok (.ireturn, 1) → kExt E E1 → kG (kA E s.heap.size) s.heap.size E1 → va_P E1.1 vwCl (kW E1 M1) H → va_S (kA E s.heap.size) s.heap H locs → post E1 M1 z → W p l e rm s m args below meth c H locs mc ms Q (F0 m pc ls [.int (zI z)])
theorem kNXh_of {l : Launch} {y : MethodName} {ws ws' : List Cond} {rm : Room} {mc ms : Nat} {E : kE} {M : kM} {av : List Value} {post : kE → kM → Int → Prop} {cc : ByteArray} {maxL : Nat} {rt : FieldType} {hh : List (Nat × Nat × Nat × Nat)} (own : String) (hE : kInj E) (hy : plainName y.cls = true) (hw : ws = Cond.codeWith y cc maxL (some rt) hh :: ws') (ho : y.cls = own) (hlen : (lg_sl av).length ≤ maxL) (hrt : ∀ (E1 : kE) (M1 : kM) (z : Int), post E1 M1 z → narrow rt (.int (zI z)) = .int (zI z))
    (body : ∀ (p : Program) (e : Env) (s : State) (m : MethodId) (args : Array Value) (below : List Frame) (meth : Method) (c : Code) (ls : Array Slot) (Q : State → Prop), CallFix p m c cc maxL s args ws own → va_P E.1 vwCl (kW E M) s.heap → va_S (kA E s.heap.size) s.heap s.heap [] → kK E s → kG (kA E s.heap.size) s.heap.size E → kXs s → kZ (kA E s.heap.size) s s.heap → c.exceptionTable.toList = tableOf hh →
      kEndI p l e rm s m args below meth c cc mc ms E post Q → lv_has ls maxL (lv_args 0 av) → W p l e rm s m args below meth c s.heap [] 0 0 Q (F0 m 0 ls [])) : kNX l y ws rm mc ms E M av post := by
  intro sz
  refine va_MetW (cc := cc) (maxL := maxL) (ret := some rt) (hh := hh) hy hw ?_
  intro p e s m args below meth c s₁ B hml hv
  obtain ⟨rfl, rfl, hP, hK, hX, hZ⟩ := hv
  have hx := B.exec
  have hb := B.bytes
  have hr := B.returns
  have hlocks := B.notSynchronized
  have hl := lv_entry av (n := maxL) hlen
  have htab := vx_table (x := y) B (atoms_spec (ws := ws) B.pre _ (by rw [hw]; exact List.mem_cons_self))
  rw [lg_entry_eq]
  generalize (lg_sl av ++ List.replicate (maxL - (lg_sl av).length) Slot.unset).toArray = ls at hl ⊢
  refine body p e s m _ below meth c ls _ ⟨hx, hb, hml, by rw [← ho]; exact findClass_of_methodNamed B.named, atoms_spec (ws := ws) B.pre⟩ hP va_S.rf hK (kG.rf hE _) hX hZ htab (fun pc ls E1 M1 z H locs hdg hX1 hG hP1 hS hp => ?_) hl
  exact W.zret (v := zI z) hx hb hr (hrt E1 M1 z hp) (fun t ht hW => ⟨⟨zI z, (E1, M1, z), rfl, ⟨rfl, hX1, hp⟩, hG, by subst ht; exact hP1⟩, hS.F ht⟩) hS.2.2 hdg hlocks
theorem kNXR_of {l : Launch} {y : MethodName} {ws ws' : List Cond} {rm : Room} {mc ms : Nat} {E : kE} {M : kM} {av : List Value} {post : kE → kM → Int → Prop} {cc : ByteArray} {maxL : Nat} {rt : FieldType} (own : String) (hE : kInj E) (hy : plainName y.cls = true) (hw : ws = Cond.code y cc maxL (some rt) :: ws') (ho : y.cls = own) (hlen : (lg_sl av).length ≤ maxL) (hrt : (∃ C, rt = .object C) ∨ ∃ t, rt = .array t)
    (body : ∀ (p : Program) (e : Env) (s : State) (m : MethodId) (args : Array Value) (below : List Frame) (meth : Method) (c : Code) (ls : Array Slot) (Q : State → Prop), CallFix p m c cc maxL s args ws own → va_P E.1 vwCl (kW E M) s.heap → va_S (kA E s.heap.size) s.heap s.heap [] → kK E s → kG (kA E s.heap.size) s.heap.size E → kXs s → kZ (kA E s.heap.size) s s.heap →
      (∀ (pc : Nat) (ls : Array Slot) (E1 : kE) (M1 : kM) (x : Int) (H : Heap) (locs : List Loc), decode cc pc = .ok (.areturn, 1) → kExt E E1 → kG (kA E s.heap.size) s.heap.size E1 → va_P E1.1 vwCl (kW E1 M1) H → va_S (kA E s.heap.size) s.heap H locs → post E1 M1 x → W p l e rm s m args below meth c H locs mc ms Q (F0 m pc ls [.ref (E1.2.2 x)])) → lv_has ls maxL (lv_args 0 av) → W p l e rm s m args below meth c s.heap [] 0 0 Q (F0 m 0 ls [])) : kNXR l y ws rm mc ms E M av post := by
  intro sz
  refine Met.ofW (cc := cc) (maxL := maxL) (ret := (some rt)) hy hw ?_
  intro p e s m args below meth c s₁ B hml hv
  obtain ⟨rfl, rfl, hP, hK, hX, hZ⟩ := hv
  have hx := B.exec
  have hb := B.bytes
  have hr := B.returns
  have hlocks := B.notSynchronized
  have hl := lv_entry av (n := maxL) hlen
  rw [lg_entry_eq]
  generalize (lg_sl av ++ List.replicate (maxL - (lg_sl av).length) Slot.unset).toArray = ls at hl ⊢
  refine body p e s m _ below meth c ls _ ⟨hx, hb, hml, by rw [← ho]; exact findClass_of_methodNamed B.named, atoms_spec (ws := ws) B.pre⟩ hP va_S.rf hK (kG.rf hE _) hX hZ (fun pc ls E1 M1 x H locs hdg hX1 hG hP1 hS hp => ?_) hl
  exact W.aret (v := .ref (E1.2.2 x)) hx hb hr hrt (Or.inr ⟨_, rfl⟩) (fun t ht hW => ⟨⟨(E1, M1, x), E1.2.2 x, rfl, ⟨hX1, hp⟩, rfl, hG, by subst ht; exact hP1⟩, hS.F ht⟩) hS.2.2 hdg hlocks
theorem k_pass0 {P : ExceptionTableEntry → Prop} : ∀ z ∈ ([] : List ExceptionTableEntry), P z := fun _ h => absurd h List.not_mem_nil
theorem k_pass1 {P : ExceptionTableEntry → Prop} {a : ExceptionTableEntry} (h : P a) : ∀ z ∈ [a], P z := fun z hz => by rw [List.mem_singleton.mp hz]; exact h
theorem k_pass2 {P : ExceptionTableEntry → Prop} {a b : ExceptionTableEntry} (h : P a) (h2 : P b) : ∀ z ∈ [a, b], P z := fun z hz => by
  rcases List.mem_cons.mp hz with rfl | hz
  · exact h
  · rw [List.mem_singleton.mp hz]; exact h2
section KH
variable {p : Program} {l : Launch} {e : Env} {R : Room} {s : State} {m : MethodId} {args : Array Value} {below : List Frame} {meth : Method} {c : Code} {H H0 : Heap} {locs : List Loc} {cells slots : Nat} {Q : State → Prop}
variable {cc bytes : ByteArray} {pc : Nat} {ls : Array Slot} {rest st : List Value} {E : kE} {M : kM} {nL maxL index n mc ms : Nat} {Ts ws : List Cond} {own C : String} {y : MethodName} {ret : Option FieldType} {rm : Room} {As : List Value} {b : Nat} {hh : List (Nat × Nat × Nat × Nat)} {A : Nat → Prop}
theorem k_callHX {post : kE → kM → Int → Prop} (S : CallFix p m c cc nL s args Ts own) (hK : kK E s) (hXs : kXs s) (hZ : kZ A s H0) (hG : kG A H0.size E) (hP : va_P E.1 vwCl (kW E M) H) (hS : va_S A H0 H locs) (hM : kNX l y ws rm mc ms E M As post) (cw : vx_CSW R s args own index y bytes maxL ret hh ws rm mc ms n)
    (hn : As.length = n) (hsz : ls.size = nL) (hst : st = As.reverse ++ rest) (hw : (rest.map fun v => v.category).sum ≤ 8) (hdg : decode cc pc = .ok (.invokestatic index, 3)) (hf : cells + mc ≤ R.cells ∧ slots + ms ≤ R.slots)
    (kk : ∀ (E1 : kE) (M1 : kM) (x : Int) (H1 : Heap) (locs1 : List Loc), kExt E E1 → kK E1 s → kG A H0.size E1 → post E1 M1 x → va_P E1.1 vwCl (kW E1 M1) H1 → va_S A H0 H1 locs1 → W p l e R s m args below meth c H1 locs1 (cells + mc) (slots + ms) Q (F0 m (pc + 3) ls (.int (zI x) :: rest))) : W p l e R s m args below meth c H locs cells slots Q (F0 m pc ls st) := by
  refine va_calli (vx_runSW S (hM H.size) cw ⟨kPreX_blind, fun U hU hW => ⟨rfl, by rw [hU], by rw [hU]; exact hP, kK.warm hW hK, kXs.warm hW hXs, by rw [hU]; exact kZ.callG hW hZ hG hS⟩⟩ rfl hn hsz hst (lv_room hw) hdg hf) hS (fun q _ h => hG.sub hS.1 q h) (hG.sub hS.1) (fun r u t H1 locs1 ht hvm hw hB hz hk hS1 => ?_)
  obtain ⟨E1, M1, x⟩ := u
  obtain ⟨hr, hX, hp⟩ := hw
  obtain ⟨hG1, hP1⟩ := hB
  rw [ht] at hP1
  rw [hr]
  exact kk E1 M1 x H1 locs1 hX (hK.ext hX) (hG.tr hS.1 hG1) hp hP1 hS1
theorem k_callXR {post : kE → kM → Int → Prop} (S : CallFix p m c cc nL s args Ts own) (hK : kK E s) (hXs : kXs s) (hZ : kZ A s H0) (hG : kG A H0.size E) (hP : va_P E.1 vwCl (kW E M) H) (hS : va_S A H0 H locs) (hM : kNXR l y ws rm mc ms E M As post) (cw : CallB R s args own index y bytes maxL ret ws rm mc ms n ∧ (Cond.static y).before args s = true)
    (hn : As.length = n) (hsz : ls.size = nL) (hst : st = As.reverse ++ rest) (hw : (rest.map fun v => v.category).sum ≤ 8) (hdg : decode cc pc = .ok (.invokestatic index, 3)) (hf : cells + mc ≤ R.cells ∧ slots + ms ≤ R.slots)
    (kk : ∀ (E1 : kE) (M1 : kM) (x : Int) (H1 : Heap) (locs1 : List Loc), kExt E E1 → kK E1 s → kG A H0.size E1 → post E1 M1 x → va_P E1.1 vwCl (kW E1 M1) H1 → va_S A H0 H1 locs1 → W p l e R s m args below meth c H1 locs1 (cells + mc) (slots + ms) Q (F0 m (pc + 3) ls (.ref (E1.2.2 x) :: rest))) : W p l e R s m args below meth c H locs cells slots Q (F0 m pc ls st) := by
  refine va_callr (va_runS S (hM H.size) cw ⟨kPreX_blind, fun U hU hW => ⟨rfl, by rw [hU], by rw [hU]; exact hP, kK.warm hW hK, kXs.warm hW hXs, by rw [hU]; exact kZ.callG hW hZ hG hS⟩⟩ rfl hn hsz hst (lv_room hw) hdg hf) hS (fun q _ h => hG.sub hS.1 q h) (hG.sub hS.1) (fun u ra t H1 locs1 ht hvm hw hB hz hk hS1 => ?_)
  obtain ⟨E1, M1, x⟩ := u
  obtain ⟨hX, hp⟩ := hw
  obtain ⟨hra, hG1, hP1⟩ := hB
  rw [ht] at hP1
  rw [hra]
  exact kk E1 M1 x H1 locs1 hX (hK.ext hX) (hG.tr hS.1 hG1) hp hP1 hS1
/-! the law's script: an array of ints that the world does not hold -/
def kScr (b L : Nat) (xs : Nat → Int32) (A : Nat → Prop) (s : State) (H0 : Heap) : Prop := va_X b L xs s H0 ∧ b < H0.size ∧ ¬ A b ∧ L ≤ 260
def kPreS (b L : Nat) (xs : Nat → Int32) (av : List Value) : Array Value → State → Prop := va_Pc av (fun U => va_X b L xs U U.heap ∧ b < U.heap.size)
theorem kPreS_blind {b L : Nat} {xs : Nat → Int32} {av : List Value} : FrameBlind (kPreS b L xs av) := fun a U g mk q => ⟨q.1, va_X.moved (u := U) (U := U.calling g mk a) (Vm.Alike.refl U.vm) q.2.1, q.2.2⟩
def kSC (l : Launch) (y : MethodName) (ws : List Cond) (rm : Room) (b L : Nat) (xs : Nat → Int32) (av : List Value) : Prop := Met l y ws rm (kPreS b L xs av) (vp_Si (fun r => ∃ z : Int, r = zI z ∧ -2147483648 ≤ z ∧ z ≤ 2147483647)) 0 0 (fun _ => False)
theorem k_callSC {xs : Nat → Int32} {bs L : Nat} (S : CallFix p m c cc nL s args Ts own) (hScr : kScr bs L xs A s H0) (hS : va_S A H0 H locs) (hM : kSC l y ws rm bs L xs As) (cw : CallB R s args own index y bytes maxL ret ws rm 0 0 n ∧ (Cond.static y).before args s = true)
    (hn : As.length = n) (hsz : ls.size = nL) (hst : st = As.reverse ++ rest) (hw : (rest.map fun v => v.category).sum ≤ 8) (hdg : decode cc pc = .ok (.invokestatic index, 3)) (hf : cells + 0 ≤ R.cells ∧ slots + 0 ≤ R.slots)
    (kk : ∀ z : Int, -2147483648 ≤ z ∧ z ≤ 2147483647 → W p l e R s m args below meth c H locs cells slots Q (F0 m (pc + 3) ls (.int (zI z) :: rest))) : W p l e R s m args below meth c H locs cells slots Q (F0 m pc ls st) := by
  have hsz1 := hS.1
  have hbl := hScr.2.1
  refine vp_callSi (W.runS S hM cw ⟨kPreS_blind, fun U hU hW => ⟨rfl, by rw [hU]; exact va_X.moved hW.alike (hScr.1.kept (hS.2.1 bs hScr.2.1 hScr.2.2.1)), by rw [hU]; omega⟩⟩ rfl hn hsz hst (lv_room hw) hdg hf) (fun r hr => ?_)
  obtain ⟨z, rfl, hz⟩ := hr
  exact kk z hz
end KH
