/-! ===== methods that make cells: the world grows (kExt); kNR answers a cell, kNI an int, kNV nothing; kND an int, and may draw ===== -/
def kNR (l : Launch) (y : MethodName) (ws : List Cond) (rm : Room) (mc ms : Nat) (E : kE) (M : kM) (av : List Value) (post : kE → kM → Int → Prop) : Prop := ∀ sz : Nat, Met l y ws rm (kPreW E M sz av) (va_Qr (fun u : kE × kM × Int => kExt E u.1 ∧ post u.1 u.2.1 u.2.2) (fun u a t => a = u.1.2.2 u.2.2 ∧ kG (kA E sz) sz u.1 ∧ va_P u.1.1 vwCl (kW u.1 u.2.1) t.heap) (kA E sz)) mc ms (kA E sz)
def kNI (l : Launch) (y : MethodName) (ws : List Cond) (rm : Room) (mc ms : Nat) (E : kE) (M : kM) (av : List Value) (post : kE → kM → Int → Prop) : Prop := ∀ sz : Nat, Met l y ws rm (kPreW E M sz av) (va_Qi (fun r (u : kE × kM × Int) => r = zI u.2.2 ∧ kExt E u.1 ∧ post u.1 u.2.1 u.2.2) (fun u t => kG (kA E sz) sz u.1 ∧ va_P u.1.1 vwCl (kW u.1 u.2.1) t.heap) (kA E sz)) mc ms (kA E sz)
def kNV (l : Launch) (y : MethodName) (ws : List Cond) (rm : Room) (mc ms : Nat) (E : kE) (M : kM) (av : List Value) (post : kE → kM → Prop) : Prop := ∀ sz : Nat, Met l y ws rm (kPreW E M sz av) (va_Qv (fun u : kE × kM => kExt E u.1 ∧ post u.1 u.2) (fun u t => kG (kA E sz) sz u.1 ∧ va_P u.1.1 vwCl (kW u.1 u.2) t.heap) (kA E sz)) mc ms (kA E sz)
theorem kNR_of {l : Launch} {y : MethodName} {ws ws' : List Cond} {rm : Room} {mc ms : Nat} {E : kE} {M : kM} {av : List Value} {post : kE → kM → Int → Prop} {cc : ByteArray} {maxL : Nat} {rt : FieldType} (own : String) (hE : kInj E) (hy : plainName y.cls = true) (hw : ws = Cond.code y cc maxL (some rt) :: ws') (ho : y.cls = own) (hlen : (lg_sl av).length ≤ maxL) (hrt : (∃ nm, rt = .object nm) ∨ ∃ t, rt = .array t)
    (body : ∀ (p : Program) (e : Env) (s : State) (m : MethodId) (args : Array Value) (below : List Frame) (meth : Method) (c : Code) (ls : Array Slot) (Q : State → Prop), CallFix p m c cc maxL s args ws own → va_P E.1 vwCl (kW E M) s.heap → va_S (kA E s.heap.size) s.heap s.heap [] → kK E s → kG (kA E s.heap.size) s.heap.size E →
      (∀ (pc : Nat) (ls : Array Slot) (E1 : kE) (M1 : kM) (x : Int) (H : Heap) (locs : List Loc), decode cc pc = .ok (.areturn, 1) → kExt E E1 → kG (kA E s.heap.size) s.heap.size E1 → va_P E1.1 vwCl (kW E1 M1) H → va_S (kA E s.heap.size) s.heap H locs → post E1 M1 x → W p l e rm s m args below meth c H locs mc ms Q (F0 m pc ls [.ref (E1.2.2 x)])) → lv_has ls maxL (lv_args 0 av) → W p l e rm s m args below meth c s.heap [] 0 0 Q (F0 m 0 ls [])) : kNR l y ws rm mc ms E M av post := by
  intro sz
  refine Met.ofW (cc := cc) (maxL := maxL) (ret := (some rt)) hy hw ?_
  intro p e s m args below meth c s₁ B hml hv
  obtain ⟨rfl, rfl, hP, hK⟩ := hv
  have hx := B.exec
  have hb := B.bytes
  have hr := B.returns
  have hlocks := B.notSynchronized
  have hl := lv_entry av (n := maxL) hlen
  rw [lg_entry_eq]
  generalize (lg_sl av ++ List.replicate (maxL - (lg_sl av).length) Slot.unset).toArray = ls at hl ⊢
  refine body p e s m _ below meth c ls _ ⟨hx, hb, hml, by rw [← ho]; exact findClass_of_methodNamed B.named, atoms_spec (ws := ws) B.pre⟩ hP va_S.rf hK (kG.rf hE _) (fun pc ls E1 M1 x H locs hdg hX hG hP1 hS hp => ?_) hl
  exact W.aret (v := .ref (E1.2.2 x)) hx hb hr hrt (Or.inr ⟨_, rfl⟩) (fun t ht hW => ⟨⟨(E1, M1, x), E1.2.2 x, rfl, ⟨hX, hp⟩, rfl, hG, by subst ht; exact hP1⟩, hS.F ht⟩) hS.2.2 hdg hlocks
theorem kNI_of {l : Launch} {y : MethodName} {ws ws' : List Cond} {rm : Room} {mc ms : Nat} {E : kE} {M : kM} {av : List Value} {post : kE → kM → Int → Prop} {cc : ByteArray} {maxL : Nat} {rt : FieldType} (own : String) (hE : kInj E) (hy : plainName y.cls = true) (hw : ws = Cond.code y cc maxL (some rt) :: ws') (ho : y.cls = own) (hlen : (lg_sl av).length ≤ maxL) (hrt : ∀ (E1 : kE) (M1 : kM) (z : Int), post E1 M1 z → narrow rt (.int (zI z)) = .int (zI z))
    (body : ∀ (p : Program) (e : Env) (s : State) (m : MethodId) (args : Array Value) (below : List Frame) (meth : Method) (c : Code) (ls : Array Slot) (Q : State → Prop), CallFix p m c cc maxL s args ws own → va_P E.1 vwCl (kW E M) s.heap → va_S (kA E s.heap.size) s.heap s.heap [] → kK E s → kG (kA E s.heap.size) s.heap.size E →
      (∀ (pc : Nat) (ls : Array Slot) (E1 : kE) (M1 : kM) (z : Int) (H : Heap) (locs : List Loc), decode cc pc = .ok (.ireturn, 1) → kExt E E1 → kG (kA E s.heap.size) s.heap.size E1 → va_P E1.1 vwCl (kW E1 M1) H → va_S (kA E s.heap.size) s.heap H locs → post E1 M1 z → W p l e rm s m args below meth c H locs mc ms Q (F0 m pc ls [.int (zI z)])) → lv_has ls maxL (lv_args 0 av) → W p l e rm s m args below meth c s.heap [] 0 0 Q (F0 m 0 ls [])) : kNI l y ws rm mc ms E M av post := by
  intro sz
  refine Met.ofW (cc := cc) (maxL := maxL) (ret := (some rt)) hy hw ?_
  intro p e s m args below meth c s₁ B hml hv
  obtain ⟨rfl, rfl, hP, hK⟩ := hv
  have hx := B.exec
  have hb := B.bytes
  have hr := B.returns
  have hlocks := B.notSynchronized
  have hl := lv_entry av (n := maxL) hlen
  rw [lg_entry_eq]
  generalize (lg_sl av ++ List.replicate (maxL - (lg_sl av).length) Slot.unset).toArray = ls at hl ⊢
  refine body p e s m _ below meth c ls _ ⟨hx, hb, hml, by rw [← ho]; exact findClass_of_methodNamed B.named, atoms_spec (ws := ws) B.pre⟩ hP va_S.rf hK (kG.rf hE _) (fun pc ls E1 M1 z H locs hdg hX hG hP1 hS hp => ?_) hl
  exact W.zret (v := zI z) hx hb hr (hrt E1 M1 z hp) (fun t ht hW => ⟨⟨zI z, (E1, M1, z), rfl, ⟨rfl, hX, hp⟩, hG, by subst ht; exact hP1⟩, hS.F ht⟩) hS.2.2 hdg hlocks
theorem kNV_of {l : Launch} {y : MethodName} {ws ws' : List Cond} {rm : Room} {mc ms : Nat} {E : kE} {M : kM} {av : List Value} {post : kE → kM → Prop} {cc : ByteArray} {maxL : Nat} (own : String) (hE : kInj E) (hy : plainName y.cls = true) (hw : ws = Cond.code y cc maxL none :: ws') (ho : y.cls = own) (hlen : (lg_sl av).length ≤ maxL) (hnm : y.name = "<init>")
    (body : ∀ (p : Program) (e : Env) (s : State) (m : MethodId) (args : Array Value) (below : List Frame) (meth : Method) (c : Code) (ls : Array Slot) (Q : State → Prop), CallFix p m c cc maxL s args ws own → va_P E.1 vwCl (kW E M) s.heap → va_S (kA E s.heap.size) s.heap s.heap [] → kK E s → kG (kA E s.heap.size) s.heap.size E → meth.name = "<init>" →
      (∀ (pc : Nat) (ls : Array Slot) (E1 : kE) (M1 : kM) (H : Heap) (locs : List Loc), decode cc pc = .ok (.return_, 1) → kExt E E1 → kG (kA E s.heap.size) s.heap.size E1 → va_P E1.1 vwCl (kW E1 M1) H → va_S (kA E s.heap.size) s.heap H locs → post E1 M1 → W p l e rm s m args below meth c H locs mc ms Q (F0 m pc ls [])) → lv_has ls maxL (lv_args 0 av) → W p l e rm s m args below meth c s.heap [] 0 0 Q (F0 m 0 ls [])) : kNV l y ws rm mc ms E M av post := by
  intro sz
  refine Met.ofW (cc := cc) (maxL := maxL) (ret := none) hy hw ?_
  intro p e s m args below meth c s₁ B hml hv
  obtain ⟨rfl, rfl, hP, hK⟩ := hv
  have hx := B.exec
  have hb := B.bytes
  have hr := B.returns
  have hlocks := B.notSynchronized
  have hin : meth.name = "<init>" := (name_of_methodNamed B.named B.method).1.trans hnm
  have hl := lv_entry av (n := maxL) hlen
  rw [lg_entry_eq]
  generalize (lg_sl av ++ List.replicate (maxL - (lg_sl av).length) Slot.unset).toArray = ls at hl ⊢
  refine body p e s m _ below meth c ls _ ⟨hx, hb, hml, by rw [← ho]; exact findClass_of_methodNamed B.named, atoms_spec (ws := ws) B.pre⟩ hP va_S.rf hK (kG.rf hE _) hin (fun pc ls E1 M1 H locs hdg hX hG hP1 hS hp => ?_) hl
  exact W.vret hx hb hr (fun t ht hW => ⟨⟨(E1, M1), rfl, ⟨hX, hp⟩, hG, by subst ht; exact hP1⟩, hS.F ht⟩) hS.2.2 hdg hlocks
section KG
variable {p : Program} {l : Launch} {e : Env} {R : Room} {s : State} {m : MethodId} {args : Array Value} {below : List Frame} {meth : Method} {c : Code} {H H0 : Heap} {locs : List Loc} {cells slots : Nat} {Q : State → Prop}
variable {cc bytes : ByteArray} {pc : Nat} {ls : Array Slot} {rest st : List Value} {E : kE} {M : kM} {nL maxL index n mc ms : Nat} {Ts ws : List Cond} {own C : String} {y : MethodName} {ret : Option FieldType} {rm : Room} {As : List Value} {b : Nat} {A : Nat → Prop}
theorem k_callVWG {post : Int → kM → Prop} (S : CallFix p m c cc nL s args Ts own) (hK : kK E s) (hG : kG A H0.size E) (hP : va_P E.1 vwCl (kW E M) H) (hS : va_S A H0 H locs) (hM : kRW l y ws rm E M (.ref b :: As) post) (cw : CallW R s args own C index y bytes maxL ret ws rm 0 0 n)
    (hrecv : ∃ cellB : Cell, H[b]? = some cellB ∧ cellB.vm.isStatics = false ∧ s.vm.findClass C = some cellB.cls) (hn : As.length = n) (hsz : ls.size = nL) (hst : st = As.reverse ++ .ref b :: rest) (hw : (rest.map fun v => v.category).sum ≤ 8) (hdg : decode cc pc = .ok (.invokevirtual index, 3)) (hf : cells + 0 ≤ R.cells ∧ slots + 0 ≤ R.slots)
    (kk : ∀ (z : Int) (M1 : kM) (H1 : Heap) (locs1 : List Loc), post z M1 → va_P E.1 vwCl (kW E M1) H1 → va_S A H0 H1 locs1 → W p l e R s m args below meth c H1 locs1 cells slots Q (F0 m (pc + 3) ls (.int (zI z) :: rest))) : W p l e R s m args below meth c H locs cells slots Q (F0 m pc ls st) := by
  refine va_calli (va_runV S (hM H.size) cw ⟨kPreW_blind, hrecv, fun U hU hW => ⟨rfl, by rw [hU], by rw [hU]; exact hP, kK.warm hW hK⟩⟩ rfl hn hsz hst (lv_room hw) hdg hf) hS (fun q _ h => hG.sub hS.1 q h) (hG.sub hS.1) (fun r u t H1 locs1 ht hvm hw hB hz hk hS1 => ?_)
  obtain ⟨rfl, hz⟩ := hw
  rw [ht] at hB
  exact kk u.1 u.2 H1 locs1 hz hB hS1
theorem k_callVWlG {post : Int → kM → Prop} (S : CallFix p m c cc nL s args Ts own) (hK : kK E s) (hG : kG A H0.size E) (hP : va_P E.1 vwCl (kW E M) H) (hS : va_S A H0 H locs) (hM : kRWl l y ws rm E M (.ref b :: As) post) (cw : CallW R s args own C index y bytes maxL ret ws rm 0 0 n)
    (hrecv : ∃ cellB : Cell, H[b]? = some cellB ∧ cellB.vm.isStatics = false ∧ s.vm.findClass C = some cellB.cls) (hn : As.length = n) (hsz : ls.size = nL) (hst : st = As.reverse ++ .ref b :: rest) (hw : (rest.map fun v => v.category).sum ≤ 8) (hdg : decode cc pc = .ok (.invokevirtual index, 3)) (hf : cells + 0 ≤ R.cells ∧ slots + 0 ≤ R.slots)
    (kk : ∀ (z : Int) (M1 : kM) (H1 : Heap) (locs1 : List Loc), post z M1 → va_P E.1 vwCl (kW E M1) H1 → va_S A H0 H1 locs1 → W p l e R s m args below meth c H1 locs1 cells slots Q (F0 m (pc + 3) ls (.long (lI z) :: rest))) : W p l e R s m args below meth c H locs cells slots Q (F0 m pc ls st) := by
  refine va_calll (va_runV S (hM H.size) cw ⟨kPreW_blind, hrecv, fun U hU hW => ⟨rfl, by rw [hU], by rw [hU]; exact hP, kK.warm hW hK⟩⟩ rfl hn hsz hst (lv_room hw) hdg hf) hS (fun q _ h => hG.sub hS.1 q h) (hG.sub hS.1) (fun r u t H1 locs1 ht hvm hw hB hz hk hS1 => ?_)
  obtain ⟨rfl, hz⟩ := hw
  rw [ht] at hB
  exact kk u.1 u.2 H1 locs1 hz hB hS1
theorem k_callVVG {post : kM → Prop} (S : CallFix p m c cc nL s args Ts own) (hK : kK E s) (hG : kG A H0.size E) (hP : va_P E.1 vwCl (kW E M) H) (hS : va_S A H0 H locs) (hM : kRV l y ws rm E M (.ref b :: As) post) (cw : CallW R s args own C index y bytes maxL ret ws rm 0 0 n)
    (hrecv : ∃ cellB : Cell, H[b]? = some cellB ∧ cellB.vm.isStatics = false ∧ s.vm.findClass C = some cellB.cls) (hn : As.length = n) (hsz : ls.size = nL) (hst : st = As.reverse ++ .ref b :: rest) (hw : (rest.map fun v => v.category).sum ≤ 8) (hdg : decode cc pc = .ok (.invokevirtual index, 3)) (hf : cells + 0 ≤ R.cells ∧ slots + 0 ≤ R.slots)
    (kk : ∀ (M1 : kM) (H1 : Heap) (locs1 : List Loc), post M1 → va_P E.1 vwCl (kW E M1) H1 → va_S A H0 H1 locs1 → W p l e R s m args below meth c H1 locs1 cells slots Q (F0 m (pc + 3) ls rest)) : W p l e R s m args below meth c H locs cells slots Q (F0 m pc ls st) := by
  refine va_callv (va_runV S (hM H.size) cw ⟨kPreW_blind, hrecv, fun U hU hW => ⟨rfl, by rw [hU], by rw [hU]; exact hP, kK.warm hW hK⟩⟩ rfl hn hsz hst (lv_room hw) hdg hf) hS (fun q _ h => hG.sub hS.1 q h) (hG.sub hS.1) (fun u t H1 locs1 ht hvm hw hB hz hk hS1 => ?_)
  rw [ht] at hB
  exact kk u H1 locs1 hw hB hS1
theorem k_callSNR {post : kE → kM → Int → Prop} (S : CallFix p m c cc nL s args Ts own) (hK : kK E s) (hG : kG A H0.size E) (hP : va_P E.1 vwCl (kW E M) H) (hS : va_S A H0 H locs) (hM : kNR l y ws rm mc ms E M As post) (cw : CallB R s args own index y bytes maxL ret ws rm mc ms n ∧ (Cond.static y).before args s = true)
    (hn : As.length = n) (hsz : ls.size = nL) (hst : st = As.reverse ++ rest) (hw : (rest.map fun v => v.category).sum ≤ 8) (hdg : decode cc pc = .ok (.invokestatic index, 3)) (hf : cells + mc ≤ R.cells ∧ slots + ms ≤ R.slots)
    (kk : ∀ (E1 : kE) (M1 : kM) (x : Int) (H1 : Heap) (locs1 : List Loc), kExt E E1 → kK E1 s → kG A H0.size E1 → post E1 M1 x → va_P E1.1 vwCl (kW E1 M1) H1 → va_S A H0 H1 locs1 → W p l e R s m args below meth c H1 locs1 (cells + mc) (slots + ms) Q (F0 m (pc + 3) ls (.ref (E1.2.2 x) :: rest))) : W p l e R s m args below meth c H locs cells slots Q (F0 m pc ls st) := by
  refine va_callr (va_runS S (hM H.size) cw ⟨kPreW_blind, fun U hU hW => ⟨rfl, by rw [hU], by rw [hU]; exact hP, kK.warm hW hK⟩⟩ rfl hn hsz hst (lv_room hw) hdg hf) hS (fun q _ h => hG.sub hS.1 q h) (hG.sub hS.1) (fun u ra t H1 locs1 ht hvm hw hB hz hk hS1 => ?_)
  obtain ⟨E1, M1, x⟩ := u
  obtain ⟨hX, hp⟩ := hw
  obtain ⟨hra, hG1, hP1⟩ := hB
  rw [ht] at hP1
  rw [hra]
  exact kk E1 M1 x H1 locs1 hX (hK.ext hX) (hG.tr hS.1 hG1) hp hP1 hS1
theorem k_callVNR {post : kE → kM → Int → Prop} (S : CallFix p m c cc nL s args Ts own) (hK : kK E s) (hG : kG A H0.size E) (hP : va_P E.1 vwCl (kW E M) H) (hS : va_S A H0 H locs) (hM : kNR l y ws rm mc ms E M (.ref b :: As) post) (cw : CallW R s args own C index y bytes maxL ret ws rm mc ms n)
    (hrecv : ∃ cellB : Cell, H[b]? = some cellB ∧ cellB.vm.isStatics = false ∧ s.vm.findClass C = some cellB.cls) (hn : As.length = n) (hsz : ls.size = nL) (hst : st = As.reverse ++ .ref b :: rest) (hw : (rest.map fun v => v.category).sum ≤ 8) (hdg : decode cc pc = .ok (.invokevirtual index, 3)) (hf : cells + mc ≤ R.cells ∧ slots + ms ≤ R.slots)
    (kk : ∀ (E1 : kE) (M1 : kM) (x : Int) (H1 : Heap) (locs1 : List Loc), kExt E E1 → kK E1 s → kG A H0.size E1 → post E1 M1 x → va_P E1.1 vwCl (kW E1 M1) H1 → va_S A H0 H1 locs1 → W p l e R s m args below meth c H1 locs1 (cells + mc) (slots + ms) Q (F0 m (pc + 3) ls (.ref (E1.2.2 x) :: rest))) : W p l e R s m args below meth c H locs cells slots Q (F0 m pc ls st) := by
  refine va_callr (va_runV S (hM H.size) cw ⟨kPreW_blind, hrecv, fun U hU hW => ⟨rfl, by rw [hU], by rw [hU]; exact hP, kK.warm hW hK⟩⟩ rfl hn hsz hst (lv_room hw) hdg hf) hS (fun q _ h => hG.sub hS.1 q h) (hG.sub hS.1) (fun u ra t H1 locs1 ht hvm hw hB hz hk hS1 => ?_)
  obtain ⟨E1, M1, x⟩ := u
  obtain ⟨hX, hp⟩ := hw
  obtain ⟨hra, hG1, hP1⟩ := hB
  rw [ht] at hP1
  rw [hra]
  exact kk E1 M1 x H1 locs1 hX (hK.ext hX) (hG.tr hS.1 hG1) hp hP1 hS1
theorem k_callVNI {post : kE → kM → Int → Prop} (S : CallFix p m c cc nL s args Ts own) (hK : kK E s) (hG : kG A H0.size E) (hP : va_P E.1 vwCl (kW E M) H) (hS : va_S A H0 H locs) (hM : kNI l y ws rm mc ms E M (.ref b :: As) post) (cw : CallW R s args own C index y bytes maxL ret ws rm mc ms n)
    (hrecv : ∃ cellB : Cell, H[b]? = some cellB ∧ cellB.vm.isStatics = false ∧ s.vm.findClass C = some cellB.cls) (hn : As.length = n) (hsz : ls.size = nL) (hst : st = As.reverse ++ .ref b :: rest) (hw : (rest.map fun v => v.category).sum ≤ 8) (hdg : decode cc pc = .ok (.invokevirtual index, 3)) (hf : cells + mc ≤ R.cells ∧ slots + ms ≤ R.slots)
    (kk : ∀ (E1 : kE) (M1 : kM) (x : Int) (H1 : Heap) (locs1 : List Loc), kExt E E1 → kK E1 s → kG A H0.size E1 → post E1 M1 x → va_P E1.1 vwCl (kW E1 M1) H1 → va_S A H0 H1 locs1 → W p l e R s m args below meth c H1 locs1 (cells + mc) (slots + ms) Q (F0 m (pc + 3) ls (.int (zI x) :: rest))) : W p l e R s m args below meth c H locs cells slots Q (F0 m pc ls st) := by
  refine va_calli (va_runV S (hM H.size) cw ⟨kPreW_blind, hrecv, fun U hU hW => ⟨rfl, by rw [hU], by rw [hU]; exact hP, kK.warm hW hK⟩⟩ rfl hn hsz hst (lv_room hw) hdg hf) hS (fun q _ h => hG.sub hS.1 q h) (hG.sub hS.1) (fun r u t H1 locs1 ht hvm hw hB hz hk hS1 => ?_)
  obtain ⟨E1, M1, x⟩ := u
  obtain ⟨hr, hX, hp⟩ := hw
  obtain ⟨hG1, hP1⟩ := hB
  rw [ht] at hP1
  rw [hr]
  exact kk E1 M1 x H1 locs1 hX (hK.ext hX) (hG.tr hS.1 hG1) hp hP1 hS1
theorem k_callINV {post : kE → kM → Prop} (S : CallFix p m c cc nL s args Ts own) (hK : kK E s) (hG : kG A H0.size E) (hP : va_P E.1 vwCl (kW E M) H) (hS : va_S A H0 H locs) (hM : kNV l y ws rm mc ms E M (.ref b :: As) post) (cw : CallB R s args own index y bytes maxL none ws rm mc ms n ∧ y.name = "<init>" ∧ (Cond.instanceMethod y).before args s = true)
    (hn : As.length = n) (hsz : ls.size = nL) (hst : st = As.reverse ++ .ref b :: rest) (hw : (rest.map fun v => v.category).sum ≤ 8) (hdg : decode cc pc = .ok (.invokespecial index, 3)) (hf : cells + mc ≤ R.cells ∧ slots + ms ≤ R.slots)
    (kk : ∀ (E1 : kE) (M1 : kM) (H1 : Heap) (locs1 : List Loc), kExt E E1 → kK E1 s → kG A H0.size E1 → post E1 M1 → va_P E1.1 vwCl (kW E1 M1) H1 → va_S A H0 H1 locs1 → W p l e R s m args below meth c H1 locs1 (cells + mc) (slots + ms) Q (F0 m (pc + 3) ls rest)) : W p l e R s m args below meth c H locs cells slots Q (F0 m pc ls st) := by
  refine va_callv (va_runI S (hM H.size) cw ⟨kPreW_blind, fun U hU hW => ⟨rfl, by rw [hU], by rw [hU]; exact hP, kK.warm hW hK⟩⟩ rfl hn hsz hst (lv_room hw) hdg hf) hS (fun q _ h => hG.sub hS.1 q h) (hG.sub hS.1) (fun u t H1 locs1 ht hvm hw hB hz hk hS1 => ?_)
  obtain ⟨E1, M1⟩ := u
  obtain ⟨hX, hp⟩ := hw
  obtain ⟨hG1, hP1⟩ := hB
  rw [ht] at hP1
  exact kk E1 M1 H1 locs1 hX (hK.ext hX) (hG.tr hS.1 hG1) hp hP1 hS1
/-- the array class of ints is one -/
theorem kK_cls {ty : FieldType} {cA cB : ClassId} {k : Nat} (hK : kK E s) (hk : (kT E)[k]? = some (cB, ty)) (hf : s.vm.findClass ("[" ++ ty.toString) = some cB) (h : va_K E.1 vwCl (kT E ++ [(cA, ty)]) s) (hno : ∀ C, ty ≠ .object C) : cA = cB := by
  have h1 : s.vm.findClass ("[" ++ ty.toString) = some cA := by
    have := (h.2 3 (cA, ty) rfl).2
    cases ty <;> first | exact this | exact absurd rfl (hno _)
  exact Option.some.inj (h1.symm.trans hf)
abbrev kArI (E : kE) (N : Nat) : va_E := .inl (kaI E, N, .inl (fun _ => zI 0))
theorem kC_Ia {q : Nat} {len : Int} (hn : 11 ≤ kn E) : kC (kX E q) (kNw M (kn E) (kIa len)) (kn E) = .inl (kaI E, len.toNat, .inl (fun _ => zI 0)) := by
  rw [kC_I hn (by rw [kNw_same]; rfl), kNw_same]
  show (Sum.inl (kaI E, len.toNat, .inl (fun j => zI (kNw M (kn E) (kIa len) (kn E) (j : Int)))) : va_E) = _
  congr 4
  funext j
  rw [kNw_same, kIa, if_neg (by omega)]
theorem kC_Za {q : Nat} {len : Int} (hn : 11 ≤ kn E) : kC (kX E q) (kNw M (kn E) (kZa len)) (kn E) = .inl (kaZ E, len.toNat, .inl (fun _ => zI 0)) := by
  rw [kC_Z hn (by rw [kNw_same]; rfl), kNw_same]
  show (Sum.inl (kaZ E, len.toNat, .inl (fun j => zI (kNw M (kn E) (kZa len) (kn E) (j : Int)))) : va_E) = _
  congr 4
  funext j
  rw [kNw_same, kZa, if_neg (by omega), if_neg (by omega)]
theorem k_newA (S : CallFix p m c cc nL s args Ts own) (hK : kK E s) (hG : kG A H0.size E) (hP : va_P E.1 vwCl (kW E M) H) (hS : va_S A H0 H locs) (harr : (Cond.arrayClass .int).before args s = true) {len : Int} (hlen : 0 ≤ len ∧ len ≤ 20000) (hcells : cells + 1 ≤ R.cells) (hslots : slots + len.toNat ≤ R.slots) (hdg : decode cc pc = .ok (.newarray .int, 2))
    (kk : ∀ (E1 : kE) (H1 : Heap), kExt E E1 → kn E1 = kn E + 1 → kK E1 s → kG A H0.size E1 → va_P E1.1 vwCl (kW E1 (kNw M (kn E) (kIa len))) H1 → va_S A H0 H1 locs → W p l e R s m args below meth c H1 locs (cells + 1) (slots + len.toNat) Q (F0 m (pc + 2) ls (.ref (E1.2.2 (kn E)) :: rest))) : W p l e R s m args below meth c H locs cells slots Q (F0 m pc ls (.int (zI len) :: rest)) := by
  have hn := hK.2.2.2
  refine va_newa (atype := .int) (a0 := (len.toNat, .inl (fun _ => zI 0))) (N' := len.toNat) S.1 S.2.1 harr rfl hK.1 hP (hG.D M) hS hG.2.2 (fun cA => rfl) (fun q => ?_) (by rw [zI_nat (by omega)]) (Nat.le_trans (Nat.mul_le_mul_right _ (show len.toNat ≤ 20000 by omega)) (Nat.le_of_ble_eq_true rfl)) hcells hslots hdg (fun q cA H1 hK1 hP1 hD1 hS1 => ?_)
  · rw [zI_0, zI_lt (by omega)] at q
    omega
  · have e := kK_cls (k := 0) hK rfl (hK.1.2 0 _ rfl).2 hK1 (fun C q => by cases q)
    subst e
    rw [kW_push hn (M1 := kNw M (kn E) (kIa len)) (fun c hc i => kNw_ne (by omega)) (kC_Ia hn)] at hP1 hD1
    have hr : (.ref q : Value) = .ref ((kX E q).2.2 (kn E)) := by rw [kX_at]
    rw [hr]
    exact kk (kX E q) H1 (kX_ext E q) rfl (hK.ext (kX_ext E q)) (kG.of hD1 hG.2.2) hP1 hS1
theorem k_newZ (S : CallFix p m c cc nL s args Ts own) (hK : kK E s) (hG : kG A H0.size E) (hP : va_P E.1 vwCl (kW E M) H) (hS : va_S A H0 H locs) (harr : (Cond.arrayClass .boolean).before args s = true) {len : Int} (hlen : 0 ≤ len ∧ len ≤ 20000) (hcells : cells + 1 ≤ R.cells) (hslots : slots + len.toNat ≤ R.slots) (hdg : decode cc pc = .ok (.newarray .boolean, 2))
    (kk : ∀ (E1 : kE) (H1 : Heap), kExt E E1 → kn E1 = kn E + 1 → kK E1 s → kG A H0.size E1 → va_P E1.1 vwCl (kW E1 (kNw M (kn E) (kZa len))) H1 → va_S A H0 H1 locs → W p l e R s m args below meth c H1 locs (cells + 1) (slots + len.toNat) Q (F0 m (pc + 2) ls (.ref (E1.2.2 (kn E)) :: rest))) : W p l e R s m args below meth c H locs cells slots Q (F0 m pc ls (.int (zI len) :: rest)) := by
  have hn := hK.2.2.2
  refine va_newa (atype := .boolean) (a0 := (len.toNat, .inl (fun _ => zI 0))) (N' := len.toNat) S.1 S.2.1 harr rfl hK.1 hP (hG.D M) hS hG.2.2 (fun cA => rfl) (fun q => ?_) (by rw [zI_nat (by omega)]) (Nat.le_trans (Nat.mul_le_mul_right _ (show len.toNat ≤ 20000 by omega)) (Nat.le_of_ble_eq_true rfl)) hcells hslots hdg (fun q cA H1 hK1 hP1 hD1 hS1 => ?_)
  · rw [zI_0, zI_lt (by omega)] at q
    omega
  · have e := kK_cls (k := 2) hK rfl (hK.1.2 2 _ rfl).2 hK1 (fun C q => by cases q)
    subst e
    rw [kW_push hn (M1 := kNw M (kn E) (kZa len)) (fun c hc i => kNw_ne (by omega)) (kC_Za hn)] at hP1 hD1
    have hr : (.ref q : Value) = .ref ((kX E q).2.2 (kn E)) := by rw [kX_at]
    rw [hr]
    exact kk (kX E q) H1 (kX_ext E q) rfl (hK.ext (kX_ext E q)) (kG.of hD1 hG.2.2) hP1 hS1
/-- new int[k][] -/
theorem k_newG (S : CallFix p m c cc nL s args Ts own) (hK : kK E s) (hG : kG A H0.size E) (hP : va_P E.1 vwCl (kW E M) H) (hS : va_S A H0 H locs) (hcl : (Cond.classLink own index "[I").before args s = true) {len : Int} (hlen : 0 ≤ len ∧ len ≤ 20000) (hcells : cells + 1 ≤ R.cells) (hslots : slots + len.toNat ≤ R.slots) (hdg : decode cc pc = .ok (.anewarray index, 3))
    (kk : ∀ (E1 : kE) (H1 : Heap), kExt E E1 → kn E1 = kn E + 1 → kK E1 s → kG A H0.size E1 → va_P E1.1 vwCl (kW E1 (kNw M (kn E) (kGa len))) H1 → va_S A H0 H1 locs → W p l e R s m args below meth c H1 locs (cells + 1) (slots + len.toNat) Q (F0 m (pc + 3) ls (.ref (E1.2.2 (kn E)) :: rest))) : W p l e R s m args below meth c H locs cells slots Q (F0 m pc ls (.int (zI len) :: rest)) := by
  have hn := hK.2.2.2
  have hN : (zI len).toNatClampNeg = len.toNat := zI_nat (by omega)
  refine W.anewA (t := .int) S.1 S.2.1 S.2.2.2.1 hcl (va_AOA.use hK.2.2.1) (g := F0 m pc ls (.int (zI len) :: rest)) rfl hdg rfl (fun q => ?_) (by rw [hN]; omega) hcells (by rw [hN]; exact hslots) (fun cA kA comp e1 e2 e3 e4 => ?_)
  · rw [zI_0, zI_lt (by omega)] at q
    omega
  · have e : cA = kaG E := Option.some.inj (e1.symm.trans (hK.1.2 1 _ rfl).2)
    subst e
    rw [hN]
    have hkept : ∀ (k : Nat) (x : Nat × va_E), (kW E M)[k]? = some x → (H.push { cls := kaG E, slots := Array.replicate len.toNat .null, vm := .none })[x.1]? = H[x.1]? := fun k x hx => by
      rw [Array.getElem?_push, if_neg (Nat.ne_of_lt ((hP k x hx).lt))]
    have hat : va_at E.1 vwCl (H.size, .inl (kaG E, len.toNat, .inr (.inr (.inr (.inr (fun _ => none)))))) (H.push { cls := kaG E, slots := Array.replicate len.toNat .null, vm := .none }) := by
      show (H.push _)[H.size]? = some (vp_cell (kaG E) _)
      rw [vp_cell_q, show (fun _ : Nat => va_rf (none : Option Nat)) = fun _ => Value.null from rfl, ← arrV_new]
      simp
    have hP1 := (hP.kept hkept).app (w2 := [(H.size, .inl (kaG E, len.toNat, .inr (.inr (.inr (.inr (fun _ => none))))))]) (fun k x hx => by
      have hz : k < 1 := (List.getElem?_eq_some_iff.mp hx).1
      rw [show k = 0 by omega] at hx
      cases hx
      exact hat)
    have hD1 := (hG.D M).push hP rfl (hG.2.2 _ hS.1) (e := .inl (kaG E, len.toNat, .inr (.inr (.inr (.inr (fun _ => none))))))
    have hkc : kC (kX E H.size) (kNw M (kn E) (kGa len)) (kn E) = .inl (kaG E, len.toNat, .inr (.inr (.inr (.inr (fun _ => none))))) := by
      rw [kC_G hn (by rw [kNw_same]; rfl), kNw_same]
      show (Sum.inl (kaG E, len.toNat, .inr (.inr (.inr (.inr (fun j => kOr (kNw M (kn E) (kGa len) (kn E) (j : Int))))))) : va_E) = _
      congr 7
      funext j
      rw [kNw_same, kGa, if_neg (by omega), if_neg (by omega)]
      rfl
    rw [kW_push hn (M1 := kNw M (kn E) (kGa len)) (fun c hc i => kNw_ne (by omega)) hkc] at hP1 hD1
    have hr : (.ref H.size : Value) = .ref ((kX E H.size).2.2 (kn E)) := by rw [kX_at]
    refine W.eq (g2 := F0 m (pc + 3) ls (.ref ((kX E H.size).2.2 (kn E)) :: rest)) (by rw [← hr]) ?_
    exact kk (kX E H.size) _ (kX_ext E H.size) rfl (hK.ext (kX_ext E H.size)) (kG.of hD1 hG.2.2) hP1 ⟨Nat.le_trans hS.1 (by simp), fun x h1 h2 => by rw [Array.getElem?_push, if_neg (Nat.ne_of_lt (Nat.lt_of_lt_of_le h1 hS.1))]; exact hS.2.1 x h1 h2, hS.2.2⟩
end KG
