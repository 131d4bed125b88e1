theorem va_AOA.moved {ty : FieldType} {u U : State} (hvm : u.vm.Alike U.vm) (h : va_AOA ty u) : va_AOA ty U := arrayOver_alikeB hvm h
/-! the reference's constructor: its words, and that arrays of rows are there -/
def kPreY (E : kE) (h0 : Nat) (obj : va_E) (sz : Nat) : Array Value → State → Prop := va_Pc [.ref h0] (fun U => U.heap.size = sz ∧ va_P E.1 vwCl [(h0, obj)] U.heap ∧ (kK E U ∧ va_AOA .int U) ∧ va_D (fun _ => True) [(h0, obj)])
theorem kPreY_blind {E : kE} {h0 : Nat} {obj : va_E} {sz : Nat} : FrameBlind (kPreY E h0 obj sz) := fun a U g mk q => ⟨q.1, q.2.1, q.2.2.1, ⟨kK.same (u := U) (U := U.calling g mk a) rfl q.2.2.2.1.1, va_AOA.moved (u := U) (U := U.calling g mk a) (Vm.Alike.refl U.vm) q.2.2.2.1.2⟩, q.2.2.2.2⟩
def kINy (l : Launch) (y : MethodName) (ws : List Cond) (rm : Room) (mc ms : Nat) (E : kE) (h0 : Nat) (obj : va_E) (post : va_W → Prop) : Prop := ∀ sz : Nat, Met l y ws rm (kPreY E h0 obj sz) (va_Qv (fun w : va_W => post w) (fun w t => va_P E.1 vwCl w t.heap ∧ va_D (kA1 h0 obj sz) w) (kA1 h0 obj sz)) mc ms (kA1 h0 obj sz)
theorem kINy_of {l : Launch} {y : MethodName} {ws ws' : List Cond} {rm : Room} {mc ms : Nat} {E : kE} {h0 : Nat} {obj : va_E} {post : va_W → Prop} {cc : ByteArray} {maxL : Nat} (own : String) (hy : plainName y.cls = true) (hw : ws = Cond.code y cc maxL none :: ws') (ho : y.cls = own) (hnm : y.name = "<init>") (hlen : 1 ≤ maxL)
    (body : ∀ (p : Program) (e : Env) (s : State) (m : MethodId) (args : Array Value) (below : List Frame) (meth : Method) (c : Code) (ls : Array Slot) (Q : State → Prop) (A : Nat → Prop), CallFix p m c cc maxL s args ws own → va_P E.1 vwCl [(h0, obj)] s.heap → va_D A [(h0, obj)] → va_S A s.heap s.heap [] → kK E s → va_AOA .int s → (∀ q : Nat, s.heap.size ≤ q → A q) → meth.name = "<init>" →
      (∀ (pc : Nat) (ls : Array Slot) (w : va_W) (H : Heap) (locs : List Loc), decode cc pc = .ok (.return_, 1) → va_P E.1 vwCl w H → va_D A w → va_S A s.heap H locs → post w → W p l e rm s m args below meth c H locs mc ms Q (F0 m pc ls [])) → lv_has ls maxL [(0, .ref h0)] → W p l e rm s m args below meth c s.heap [] 0 0 Q (F0 m 0 ls []))   : kINy l y ws rm mc ms E h0 obj post := by
  intro sz
  refine Met.ofW (cc := cc) (maxL := maxL) (ret := none) hy hw ?_
  intro p e s m args below meth c s₁ B hml hv
  obtain ⟨rfl, rfl, hP, ⟨hK, hAO⟩, hD0⟩ := hv
  have hx := B.exec
  have hb := B.bytes
  have hr := B.returns
  have hlocks := B.notSynchronized
  have hin : meth.name = "<init>" := (name_of_methodNamed B.named B.method).1.trans hnm
  have hD := hD0.self (sz := s.heap.size)
  have hl := lv_entry ([.ref h0]) (n := maxL) hlen
  rw [lg_entry_eq]
  generalize (lg_sl ([.ref h0]) ++ List.replicate (maxL - (lg_sl ([.ref h0])).length) Slot.unset).toArray = ls at hl ⊢
  refine body p e s m _ below meth c ls _ (kA1 h0 obj s.heap.size) ⟨hx, hb, hml, by rw [← ho]; exact findClass_of_methodNamed B.named, atoms_spec (ws := ws) B.pre⟩ hP hD va_S.rf hK hAO (fun q h => Or.inr h) hin (fun pc ls w H locs hdg hP1 hD1 hS hp => ?_) hl
  exact W.vret hx hb hr (fun t ht hW => ⟨⟨w, rfl, hp, by rw [ht]; exact hP1, hD1⟩, hS.F ht⟩) hS.2.2 hdg hlocks
section KIN
variable {p : Program} {l : Launch} {e : Env} {R : Room} {s : State} {m : MethodId} {args : Array Value} {below : List Frame} {meth : Method} {c : Code} {H H0 : Heap} {locs : List Loc} {cells slots : Nat} {Q : State → Prop}
variable {cc bytes : ByteArray} {pc : Nat} {ls : Array Slot} {rest st : List Value} {E : kE} {nL maxL index n : Nat} {Ts ws : List Cond} {own C : String} {y : MethodName} {rm : Room} {A : Nat → Prop} {w wr : va_W} {mc ms : Nat}
theorem k_callINy {h0 : Nat} {obj : va_E} {post : va_W → Prop} (S : CallFix p m c cc nL s args Ts own) (hK : kK E s) (hAO : va_AOA .int s) (hP : va_P E.1 vwCl w H) (hD : va_D A w) (hS : va_S A H0 H locs) (hA : ∀ q, H0.size ≤ q → A q) (isC isR : List Nat) (hC : isC.map (fun i => w[i]?) = [(h0, obj)].map some) (hR : isR.map (fun i => w[i]?) = wr.map some) (hnd : va_nd isR = true) (hdis : ∀ i ∈ isR, i ∉ isC)
    (hM : kINy l y ws rm mc ms E h0 obj post) (cw : CallB R s args own index y bytes maxL none ws rm mc ms 0 ∧ y.name = "<init>" ∧ (Cond.instanceMethod y).before args s = true) (hsz : ls.size = nL) (hst : st = .ref h0 :: rest) (hw : (rest.map fun v => v.category).sum ≤ 8) (hdg : decode cc pc = .ok (.invokespecial index, 3)) (hf : cells + mc ≤ R.cells ∧ slots + ms ≤ R.slots)
    (hPc : va_P E.1 vwCl [(h0, obj)] H) (hDc : va_D (fun _ => True) [(h0, obj)])
    (kk : ∀ (w1 : va_W) (H1 : Heap) (locs1 : List Loc), post w1 → va_P E.1 vwCl (wr ++ w1) H1 → va_D A (wr ++ w1) → va_S A H0 H1 locs1 → W p l e R s m args below meth c H1 locs1 (cells + mc) (slots + ms) Q (F0 m (pc + 3) ls rest)) : W p l e R s m args below meth c H locs cells slots Q (F0 m pc ls st) := by
  have hFc := va_free (wc := [(h0, obj)]) hD hS hA isC hC
  refine va_callv (va_runI (As := []) (rest := rest) S (hM H.size) cw ⟨kPreY_blind, fun U hU hW => ⟨rfl, by rw [hU], by rw [hU]; exact hPc, ⟨kK.warm hW hK, va_AOA.moved hW.alike hAO⟩, hDc⟩⟩ rfl rfl hsz hst (lv_room hw) hdg hf) hS (fun q _ h => hFc q h) hFc (fun u t H1 locs1 ht hvm h5 hB hz1 hk1 hS1 => ?_)
  obtain ⟨hP1, hD1⟩ := hB
  rw [ht] at hP1
  obtain ⟨hP2, hD2⟩ := va_join (wr := wr) (w1 := u) hP hD isC isR hC hR hnd hdis hk1 hFc hP1 hD1
  exact kk u H1 locs1 h5 hP2 hD2 hS1
/-- new int[n][k] behind a pool of rows -/
theorem k_newR {X : va_W} {L : List Nat} {f : Nat → va_E} (S : CallFix p m c cc nL s args Ts own) (hK : kK E s) (hAO : va_AOA .int s) (hP : va_P E.1 vwCl (X ++ va_pl L f) H) (hD : va_D A (X ++ va_pl L f)) (hS : va_S A H0 H locs) (hA : ∀ q, H0.size ≤ q → A q) (hcl : (Cond.classLink own index "[[I").before args s = true) (harr : (Cond.arrayClass .int).before args s = true) {N K : Nat} (hN : N ≤ 1000 ∧ K ≤ 1000) (hcells : cells + (1 + N) ≤ R.cells) (hslots : slots + (N + N * K) ≤ R.slots) (hdg : decode cc pc = .ok (.multianewarray index 2, 4))
    (kk : ∀ (q : Nat) (r : Nat → Nat) (H1 : Heap), (∀ i j : Nat, i < N → j < N → r i = r j → i = j) → (∀ i : Nat, i < N → r i ∉ L) → va_P E.1 vwCl ((X ++ [(q, .inl (E.2.1.2.1, N, .inr (.inr (.inr (.inr (fun i => if i < N then some (r i) else none))))))]) ++ va_pl (L ++ (List.range N).map r) (vr_up f ((List.range N).map r) (kArI E K))) H1 →
      va_D A ((X ++ [(q, .inl (E.2.1.2.1, N, .inr (.inr (.inr (.inr (fun i => if i < N then some (r i) else none))))))]) ++ va_pl (L ++ (List.range N).map r) (vr_up f ((List.range N).map r) (kArI E K))) → va_S A H0 H1 locs → W p l e R s m args below meth c H1 locs (cells + 1 + N) (slots + N + N * K) Q (F0 m (pc + 4) ls (.ref q :: rest))) : W p l e R s m args below meth c H locs cells slots Q (F0 m pc ls (.int (zI (K : Int)) :: .int (zI (N : Int)) :: rest)) := by
  have neg : ∀ j : Nat, j ≤ 1000 → ¬ zI (j : Int) < 0 := fun j hj q => by
    rw [zI_0, zI_lt (by omega)] at q
    omega
  refine va_mna (X := X) (L := L) (f := f) (ty := .int) (cy := E.2.1.1) (z := (K, .inl (fun _ => zI 0))) (N' := N) (K' := K) S.1 S.2.1 S.2.2.2.1 hcl hAO harr (hK.1.2 0 _ rfl).2 hK.1 hP hD hS hA (neg N hN.1) (neg K hN.2) (by rw [zI_nat (by omega)]; omega) (by rw [zI_nat (by omega)]; omega) (by omega) (Nat.le_trans (Nat.mul_le_mul_right _ hN.2) (Nat.le_of_ble_eq_true rfl)) (by omega) rfl rfl hcells hslots (fun c => ?_) hdg (fun q r cA H1 h1 h2 hK1 hP1 hD1 hS1 => ?_)
  · show ({ cls := c, slots := Array.replicate K (.int (zI 0)), vm := .none } : Cell) = arrV c K (fun _ => .int (zI 0))
    rw [arrV_new]
  · have e := kK_rows hK hK1
    subst e
    exact kk q r H1 h1 h2 hP1 hD1 hS1
/-- new int[n] behind a pool of rows -/
theorem k_newJ {X : va_W} {L : List Nat} {f : Nat → va_E} (S : CallFix p m c cc nL s args Ts own) (hK : kK E s) (hP : va_P E.1 vwCl (X ++ va_pl L f) H) (hD : va_D A (X ++ va_pl L f)) (hS : va_S A H0 H locs) (hA : ∀ q, H0.size ≤ q → A q) (harr : (Cond.arrayClass .int).before args s = true) {N : Nat} (hN : N ≤ 1000) (hcells : cells + 1 ≤ R.cells) (hslots : slots + N ≤ R.slots) (hdg : decode cc pc = .ok (.newarray .int, 2))
    (kk : ∀ (q : Nat) (H1 : Heap), va_P E.1 vwCl ((X ++ [(q, kArI E N)]) ++ va_pl L f) H1 → va_D A ((X ++ [(q, kArI E N)]) ++ va_pl L f) → va_S A H0 H1 locs → W p l e R s m args below meth c H1 locs (cells + 1) (slots + N) Q (F0 m (pc + 2) ls (.ref q :: rest))) : W p l e R s m args below meth c H locs cells slots Q (F0 m pc ls (.int (zI (N : Int)) :: rest)) :=
  k_newI S hK hP hD hS hA harr hN hcells hslots hdg (fun q H1 hP1 hD1 hS1 => kk q H1 (va_P.swap hP1) (va_D.swap hD1) hS1)
end KIN
