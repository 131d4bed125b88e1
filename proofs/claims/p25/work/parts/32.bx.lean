/-! ===== build: it reads the script as well ===== -/
def kPreXS (E : kE) (M : kM) (sz bs L : Nat) (xs : Nat → Int32) (av : List Value) : Array Value → State → Prop := va_Pc av (fun U => (U.heap.size = sz ∧ va_P E.1 vwCl (kW E M) U.heap ∧ kK E U ∧ kXs U ∧ kZ (kA E sz) U U.heap) ∧ va_X bs L xs U U.heap ∧ bs < U.heap.size ∧ ¬ kA E sz bs)
theorem kPreXS_blind {E : kE} {M : kM} {sz bs L : Nat} {xs : Nat → Int32} {av : List Value} : FrameBlind (kPreXS E M sz bs L xs av) := fun a U g mk q => ⟨q.1, ⟨q.2.1.1, q.2.1.2.1, kK.same (u := U) (U := U.calling g mk a) rfl q.2.1.2.2.1, kXs.same (u := U) (U := U.calling g mk a) rfl q.2.1.2.2.2.1, kZ.moved (u := U) (U := U.calling g mk a) (Vm.Alike.refl U.vm) q.2.1.2.2.2.2⟩, va_X.moved (u := U) (U := U.calling g mk a) (Vm.Alike.refl U.vm) q.2.2.1, q.2.2.2⟩
def kNXS (l : Launch) (y : MethodName) (ws : List Cond) (rm : Room) (mc ms : Nat) (E : kE) (M : kM) (bs L : Nat) (xs : Nat → Int32) (av : List Value) (post : kE → kM → Int → Prop) : Prop := ∀ sz : Nat, Met l y ws rm (kPreXS E M sz bs L xs av) (va_Qr (fun u : kE × kM × Int => kExt E u.1 ∧ post u.1 u.2.1 u.2.2) (fun u a t => a = u.1.2.2 u.2.2 ∧ kG (kA E sz) sz u.1 ∧ va_P u.1.1 vwCl (kW u.1 u.2.1) t.heap) (kA E sz)) mc ms (kA E sz)
theorem kNXS_of {l : Launch} {y : MethodName} {ws ws' : List Cond} {rm : Room} {mc ms : Nat} {E : kE} {M : kM} {bs L : Nat} {xs : Nat → Int32} {av : List Value} {post : kE → kM → Int → Prop} {cc : ByteArray} {maxL : Nat} {rt : FieldType} (own : String) (hE : kInj E) (hL : L ≤ 260) (hy : plainName y.cls = true) (hw : ws = Cond.code y cc maxL (some rt) :: ws') (ho : y.cls = own) (hlen : (lg_sl av).length ≤ maxL) (hrt : (∃ C, rt = .object C) ∨ ∃ t, rt = .array t)
    (body : ∀ (p : Program) (e : Env) (s : State) (m : MethodId) (args : Array Value) (below : List Frame) (meth : Method) (c : Code) (ls : Array Slot) (Q : State → Prop), CallFix p m c cc maxL s args ws own → va_P E.1 vwCl (kW E M) s.heap → va_S (kA E s.heap.size) s.heap s.heap [] → kK E s → kG (kA E s.heap.size) s.heap.size E → kXs s → kZ (kA E s.heap.size) s s.heap → kScr bs L xs (kA E s.heap.size) s s.heap →
      (∀ (pc : Nat) (ls : Array Slot) (E1 : kE) (M1 : kM) (x : Int) (H : Heap) (locs : List Loc), decode cc pc = .ok (.areturn, 1) → kExt E E1 → kG (kA E s.heap.size) s.heap.size E1 → va_P E1.1 vwCl (kW E1 M1) H → va_S (kA E s.heap.size) s.heap H locs → post E1 M1 x → W p l e rm s m args below meth c H locs mc ms Q (F0 m pc ls [.ref (E1.2.2 x)])) → lv_has ls maxL (lv_args 0 av) → W p l e rm s m args below meth c s.heap [] 0 0 Q (F0 m 0 ls [])) : kNXS l y ws rm mc ms E M bs L xs av post := by
  intro sz
  refine Met.ofW (cc := cc) (maxL := maxL) (ret := (some rt)) hy hw ?_
  intro p e s m args below meth c s₁ B hml hv
  obtain ⟨rfl, ⟨rfl, hP, hK, hX, hZ⟩, hs1, hs2, hs3⟩ := hv
  have hx := B.exec
  have hb := B.bytes
  have hr := B.returns
  have hlocks := B.notSynchronized
  have hl := lv_entry av (n := maxL) hlen
  rw [lg_entry_eq]
  generalize (lg_sl av ++ List.replicate (maxL - (lg_sl av).length) Slot.unset).toArray = ls at hl ⊢
  refine body p e s m _ below meth c ls _ ⟨hx, hb, hml, by rw [← ho]; exact findClass_of_methodNamed B.named, atoms_spec (ws := ws) B.pre⟩ hP va_S.rf hK (kG.rf hE _) hX hZ ⟨hs1, hs2, hs3, hL⟩ (fun pc ls E1 M1 x H locs hdg hX1 hG hP1 hS hp => ?_) hl
  exact W.aret (v := .ref (E1.2.2 x)) hx hb hr hrt (Or.inr ⟨_, rfl⟩) (fun t ht hW => ⟨⟨(E1, M1, x), E1.2.2 x, rfl, ⟨hX1, hp⟩, rfl, hG, by subst ht; exact hP1⟩, hS.F ht⟩) hS.2.2 hdg hlocks
section KB
variable {p : Program} {l : Launch} {e : Env} {R : Room} {s : State} {m : MethodId} {args : Array Value} {below : List Frame} {meth : Method} {c : Code} {H H0 : Heap} {locs : List Loc} {cells slots : Nat} {Q : State → Prop}
variable {cc bytes : ByteArray} {pc : Nat} {ls : Array Slot} {rest st : List Value} {E : kE} {M : kM} {nL maxL index n mc ms : Nat} {Ts ws : List Cond} {own C : String} {y : MethodName} {ret : Option FieldType} {rm : Room} {As : List Value} {b : Nat} {A : Nat → Prop} {bs L : Nat} {xs : Nat → Int32}
theorem k_callXS {post : kE → kM → Int → Prop} (S : CallFix p m c cc nL s args Ts own) (hK : kK E s) (hXs : kXs s) (hZ : kZ A s H0) (hScr : kScr bs L xs A s H0) (hG : kG A H0.size E) (hP : va_P E.1 vwCl (kW E M) H) (hS : va_S A H0 H locs) (hM : kNXS l y ws rm mc ms E M bs L xs As post) (cw : CallB R s args own index y bytes maxL ret ws rm mc ms n ∧ (Cond.static y).before args s = true)
    (hn : As.length = n) (hsz : ls.size = nL) (hst : st = As.reverse ++ rest) (hw : (rest.map fun v => v.category).sum ≤ 8) (hdg : decode cc pc = .ok (.invokestatic index, 3)) (hf : cells + mc ≤ R.cells ∧ slots + ms ≤ R.slots)
    (kk : ∀ (E1 : kE) (M1 : kM) (x : Int) (H1 : Heap) (locs1 : List Loc), kExt E E1 → kK E1 s → kG A H0.size E1 → post E1 M1 x → va_P E1.1 vwCl (kW E1 M1) H1 → va_S A H0 H1 locs1 → W p l e R s m args below meth c H1 locs1 (cells + mc) (slots + ms) Q (F0 m (pc + 3) ls (.ref (E1.2.2 x) :: rest))) : W p l e R s m args below meth c H locs cells slots Q (F0 m pc ls st) := by
  have hsz1 := hS.1
  have hbl := hScr.2.1
  refine va_callr (va_runS S (hM H.size) cw ⟨kPreXS_blind, fun U hU hW => ⟨rfl, ⟨by rw [hU], by rw [hU]; exact hP, kK.warm hW hK, kXs.warm hW hXs, by rw [hU]; exact kZ.callG hW hZ hG hS⟩, by rw [hU]; exact va_X.moved hW.alike (hScr.1.kept (hS.2.1 bs hScr.2.1 hScr.2.2.1)), by rw [hU]; omega, fun q => hScr.2.2.1 (hG.sub hS.1 bs q)⟩⟩ rfl hn hsz hst (lv_room hw) hdg hf) hS (fun q _ h => hG.sub hS.1 q h) (hG.sub hS.1) (fun u ra t H1 locs1 ht hvm hw hB hz hk hS1 => ?_)
  obtain ⟨E1, M1, x⟩ := u
  obtain ⟨hX, hp⟩ := hw
  obtain ⟨hra, hG1, hP1⟩ := hB
  rw [ht] at hP1
  rw [hra]
  exact kk E1 M1 x H1 locs1 hX (hK.ext hX) (hG.tr hS.1 hG1) hp hP1 hS1
theorem k_callINN {host : String} {post : kE → kM → Prop} (S : CallFix p m c cc nL s args Ts own) (hK : kK E s) (hG : kG A H0.size E) (hP : va_P E.1 vwCl (kW E M) H) (hS : va_S A H0 H locs) (hM : kNV l y ws rm mc ms E M (.ref b :: As) post) (cw : va_CN R s args own index y host bytes maxL none ws rm mc ms n ∧ y.name = "<init>" ∧ (Cond.instanceMethod y).before args s = true)
    (hn : As.length = n) (hsz : ls.size = nL) (hst : st = As.reverse ++ .ref b :: rest) (hw : (rest.map fun v => v.category).sum ≤ 8) (hdg : decode cc pc = .ok (.invokespecial index, 3)) (hf : cells + mc ≤ R.cells ∧ slots + ms ≤ R.slots)
    (kk : ∀ (E1 : kE) (M1 : kM) (H1 : Heap) (locs1 : List Loc), kExt E E1 → kK E1 s → kG A H0.size E1 → post E1 M1 → va_P E1.1 vwCl (kW E1 M1) H1 → va_S A H0 H1 locs1 → W p l e R s m args below meth c H1 locs1 (cells + mc) (slots + ms) Q (F0 m (pc + 3) ls rest)) : W p l e R s m args below meth c H locs cells slots Q (F0 m pc ls st) := by
  refine va_callv (va_runIN S (hM H.size) cw ⟨kPreW_blind, fun U hU hW => ⟨rfl, by rw [hU], by rw [hU]; exact hP, kK.warm hW hK⟩⟩ rfl hn hsz hst (lv_room hw) hdg hf) hS (fun q _ h => hG.sub hS.1 q h) (hG.sub hS.1) (fun u t H1 locs1 ht hvm hw hB hz hk hS1 => ?_)
  obtain ⟨E1, M1⟩ := u
  obtain ⟨hX, hp⟩ := hw
  obtain ⟨hG1, hP1⟩ := hB
  rw [ht] at hP1
  exact kk E1 M1 H1 locs1 hX (hK.ext hX) (hG.tr hS.1 hG1) hp hP1 hS1
end KB
