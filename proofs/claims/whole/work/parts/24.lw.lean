/-! ===== methods with a table of handlers; the cell that holds what was answered ===== -/
theorem kRWh_of {l : Launch} {y : MethodName} {ws ws' : List Cond} {rm : Room} {E : kE} {M : kM} {av : List Value} {post : Int → kM → Prop} {cc : ByteArray} {maxL : Nat} {hh : List (Nat × Nat × Nat × Nat)} (own : String) (hy : plainName y.cls = true) (hw : ws = Cond.codeWith y cc maxL (some .int) hh :: ws') (ho : y.cls = own) (hlen : (lg_sl av).length ≤ maxL)
    (body : ∀ (p : Program) (e : Env) (s : State) (m : MethodId) (args : Array Value) (below : List Frame) (meth : Method) (c : Code) (ls : Array Slot) (Q : State → Prop), CallFix p m c cc maxL s args ws own → va_P E.1 vwCl (kW E M) s.heap → va_S (kA E s.heap.size) s.heap s.heap [] → kK E s →
      (∀ (pc : Nat) (ls : Array Slot) (z : Int) (M1 : kM) (H : Heap) (locs : List Loc), decode cc pc = .ok (.ireturn, 1) → va_P E.1 vwCl (kW E M1) H → va_S (kA E s.heap.size) s.heap H locs → post z M1 → W p l e rm s m args below meth c H locs 0 0 Q (F0 m pc ls [.int (zI z)])) → lv_has ls maxL (lv_args 0 av) → W p l e rm s m args below meth c s.heap [] 0 0 Q (F0 m 0 ls [])) : kRW l y ws rm E M av post := by
  intro sz
  refine va_MetW (cc := cc) (maxL := maxL) (ret := some .int) (hh := hh) hy hw ?_
  intro p e s m args below meth c s₁ B hml hv
  obtain ⟨rfl, rfl, hP, hK⟩ := hv
  have hx := B.exec
  have hb := B.bytes
  have hr := B.returns
  have hlocks := B.notSynchronized
  have hl := lv_entry av (n := maxL) hlen
  rw [lg_entry_eq]
  generalize (lg_sl av ++ List.replicate (maxL - (lg_sl av).length) Slot.unset).toArray = ls at hl ⊢
  refine body p e s m _ below meth c ls _ ⟨hx, hb, hml, by rw [← ho]; exact findClass_of_methodNamed B.named, atoms_spec (ws := ws) B.pre⟩ hP va_S.rf hK (fun pc ls z M1 H locs hdg hP1 hS hp => ?_) hl
  exact W.zret (v := zI z) hx hb hr rfl (fun t ht hW => ⟨⟨zI z, (z, M1), rfl, ⟨rfl, hp⟩, by subst ht; exact hP1⟩, hS.F ht⟩) hS.2.2 hdg hlocks
theorem kRTh_of {l : Launch} {y : MethodName} {ws ws' : List Cond} {rm : Room} {E : kE} {M : kM} {av : List Value} {k : Int} {cc : ByteArray} {maxL : Nat} {hh : List (Nat × Nat × Nat × Nat)} (own : String) (hy : plainName y.cls = true) (hw : ws = Cond.codeWith y cc maxL (some .int) hh :: ws') (ho : y.cls = own) (hlen : (lg_sl av).length ≤ maxL)
    (body : ∀ (p : Program) (e : Env) (s : State) (m : MethodId) (args : Array Value) (below : List Frame) (meth : Method) (c : Code) (ls : Array Slot) (Q : State → Prop), CallFix p m c cc maxL s args ws own → va_P E.1 vwCl (kW E M) s.heap → kK E s → kXs s → kZ (kA E s.heap.size) s s.heap → c.exceptionTable.toList = tableOf hh →
      (∀ (pc : Nat) (ls : Array Slot) (H : Heap) (locs : List Loc), decode cc pc = .ok (.ireturn, 1) → va_P E.1 vwCl (kW E M) H → va_S (kA E s.heap.size) s.heap H locs → W p l e rm s m args below meth c H locs 1 6 Q (F0 m pc ls [.int (zI k)])) → lv_has ls maxL (lv_args 0 av) → W p l e rm s m args below meth c s.heap [] 0 0 Q (F0 m 0 ls [])) : kRT l y ws rm E M av k := by
  intro sz
  refine va_MetW (cc := cc) (maxL := maxL) (ret := some .int) (hh := hh) hy hw ?_
  intro p e s m args below meth c s₁ B hml hv
  obtain ⟨rfl, rfl, hP, hK, hX, hZ⟩ := hv
  have hx := B.exec
  have hb := B.bytes
  have hr := B.returns
  have hlocks := B.notSynchronized
  have hl := lv_entry av (n := maxL) hlen
  have htab := vx_table (x := y) B (atoms_spec (ws := ws) B.pre _ (by rw [hw]; exact List.mem_cons_self))
  rw [lg_entry_eq]
  generalize (lg_sl av ++ List.replicate (maxL - (lg_sl av).length) Slot.unset).toArray = ls at hl ⊢
  refine body p e s m _ below meth c ls _ ⟨hx, hb, hml, by rw [← ho]; exact findClass_of_methodNamed B.named, atoms_spec (ws := ws) B.pre⟩ hP hK hX hZ htab (fun pc ls H locs hdg hP1 hS => ?_) hl
  exact W.zret (v := zI k) hx hb hr rfl (fun t ht hW => ⟨⟨zI k, (), rfl, rfl, by subst ht; exact hP1⟩, hS.F ht⟩) hS.2.2 hdg hlocks
theorem k_pass0 {P : ExceptionTableEntry → Prop} : ∀ z ∈ ([] : List ExceptionTableEntry), P z := fun _ h => absurd h List.not_mem_nil
theorem k_pass1 {P : ExceptionTableEntry → Prop} {a : ExceptionTableEntry} (h : P a) : ∀ z ∈ [a], P z := fun z hz => by rw [List.mem_singleton.mp hz]; exact h
theorem k_pass2 {P : ExceptionTableEntry → Prop} {a b : ExceptionTableEntry} (h : P a) (h2 : P b) : ∀ z ∈ [a, b], P z := fun z hz => by
  rcases List.mem_cons.mp hz with rfl | hz
  · exact h
  · rw [List.mem_singleton.mp hz]; exact h2
section KL
variable {p : Program} {l : Launch} {e : Env} {R : Room} {s : State} {m : MethodId} {args : Array Value} {below : List Frame} {meth : Method} {c : Code} {H H0 : Heap} {locs : List Loc} {cells slots : Nat} {Q : State → Prop}
variable {cc bytes : ByteArray} {pc : Nat} {ls : Array Slot} {rest st : List Value} {E : kE} {M : kM} {nL maxL index n : Nat} {Ts ws : List Cond} {own C : String} {y : MethodName} {ret : Option FieldType} {rm : Room} {As : List Value} {b : Nat} {hh : List (Nat × Nat × Nat × Nat)}
theorem k_lald (S : CallFix p m c cc nL s args Ts own) (hK : kK E s) (hP : va_P E.1 vwCl (kW E M) H) (hdg : decode cc pc = .ok (.laload, 1))
    (kk : W p l e R s m args below meth c H locs cells slots Q (F0 m (pc + 1) ls (.long (lI (M 102 0)) :: rest))) : W p l e R s m args below meth c H locs cells slots Q (F0 m pc ls (.int (zI 0) :: .ref (E.2.2 102) :: rest)) := by
  refine va_lald S.1 S.2.1 hK.1 hP (102 : Int).toNat 2 (by rw [kW_get E M (by omega), kC_L]) rfl (zI_in (by omega) (by omega)) hdg ?_
  rw [zI_nat (by omega)]
  exact kk
theorem k_last (S : CallFix p m c cc nL s args Ts own) (hK : kK E s) (hE : kInj E) {sz : Nat} (hP : va_P E.1 vwCl (kW E M) H) (hS : va_S (kA E sz) H0 H locs) {v : Int} (hdg : decode cc pc = .ok (.lastore, 1))
    (kk : ∀ (H1 : Heap) (locs1 : List Loc), va_P E.1 vwCl (kW E (kU M 102 0 v)) H1 → va_S (kA E sz) H0 H1 locs1 → W p l e R s m args below meth c H1 locs1 cells slots Q (F0 m (pc + 1) ls rest)) : W p l e R s m args below meth c H locs cells slots Q (F0 m pc ls (.long (lI v) :: .int (zI 0) :: .ref (E.2.2 102) :: rest)) := by
  refine va_last S.1 S.2.1 hK.1 hP (kW_DA hE M sz) hS (102 : Int).toNat 2 (by rw [kW_get E M (by omega), kC_L]) rfl (zI_in (by omega) (by omega)) hdg (fun H1 locs1 h1 _ h3 => kk H1 locs1 ?_ h3)
  rw [kW_set (M' := kU M 102 0 v) (by omega) ?_ (fun k hk i => kU_cell hk)] at h1
  · exact h1
  · rw [kC_L, zI_nat (by omega)]
    congr 5
    funext j
    unfold vp_updL
    split
    · rename_i h
      rw [h, show (((0 : Int).toNat : Nat) : Int) = 0 by omega, kU_same]
    · rename_i h
      rw [kU_place (by omega)]
/-- the calls of a method with a table of handlers -/
theorem k_callHW {post : Int → kM → Prop} (S : CallFix p m c cc nL s args Ts own) (hK : kK E s) (hP : va_P E.1 vwCl (kW E M) H) (hS : va_S (kA E H0.size) H0 H locs) (hM : kRW l y ws rm E M As post) (cw : vx_CSW R s args own index y bytes maxL ret hh ws rm 0 0 n)
    (hn : As.length = n) (hsz : ls.size = nL) (hst : st = As.reverse ++ rest) (hw : (rest.map fun v => v.category).sum ≤ 8) (hdg : decode cc pc = .ok (.invokestatic index, 3)) (hf : cells + 0 ≤ R.cells ∧ slots + 0 ≤ R.slots)
    (kk : ∀ (z : Int) (M1 : kM) (H1 : Heap) (locs1 : List Loc), post z M1 → va_P E.1 vwCl (kW E M1) H1 → va_S (kA E H0.size) H0 H1 locs1 → W p l e R s m args below meth c H1 locs1 cells slots Q (F0 m (pc + 3) ls (.int (zI z) :: rest))) : W p l e R s m args below meth c H locs cells slots Q (F0 m pc ls st) := by
  refine va_calli (vx_runSW S (hM H.size) cw ⟨kPreW_blind, fun U hU hW => ⟨rfl, by rw [hU], by rw [hU]; exact hP, kK.warm hW hK⟩⟩ rfl hn hsz hst (lv_room hw) hdg hf) hS (fun q _ h => kA_le hS.1 q h) (kA_le hS.1) (fun r u t H1 locs1 ht hvm hw hB hz hk hS1 => ?_)
  obtain ⟨rfl, hz⟩ := hw
  rw [ht] at hB
  exact kk u.1 u.2 H1 locs1 hz hB hS1
theorem k_callHT {k : Int} (S : CallFix p m c cc nL s args Ts own) (hK : kK E s) (hX : kXs s) (hZ : kZ (kA E H0.size) s H0) (hP : va_P E.1 vwCl (kW E M) H) (hS : va_S (kA E H0.size) H0 H locs) (hM : kRT l y ws rm E M As k) (cw : vx_CSW R s args own index y bytes maxL ret hh ws rm 1 6 n)
    (hn : As.length = n) (hsz : ls.size = nL) (hst : st = As.reverse ++ rest) (hw : (rest.map fun v => v.category).sum ≤ 8) (hdg : decode cc pc = .ok (.invokestatic index, 3)) (hf : cells + 1 ≤ R.cells ∧ slots + 6 ≤ R.slots)
    (kk : ∀ (H1 : Heap) (locs1 : List Loc), va_P E.1 vwCl (kW E M) H1 → va_S (kA E H0.size) H0 H1 locs1 → W p l e R s m args below meth c H1 locs1 (cells + 1) (slots + 6) Q (F0 m (pc + 3) ls (.int (zI k) :: rest))) : W p l e R s m args below meth c H locs cells slots Q (F0 m pc ls st) := by
  refine va_calli (vx_runSW S (hM H.size) cw ⟨kPreX_blind, fun U hU hW => ⟨rfl, by rw [hU], by rw [hU]; exact hP, kK.warm hW hK, kXs.warm hW hX, by rw [hU]; exact kZ.call hW hZ hS⟩⟩ rfl hn hsz hst (lv_room hw) hdg hf) hS (fun q _ h => kA_le hS.1 q h) (kA_le hS.1) (fun r u t H1 locs1 ht hvm hw hB hz hk hS1 => ?_)
  subst hw
  rw [ht] at hB
  exact kk H1 locs1 hB hS1
end KL
