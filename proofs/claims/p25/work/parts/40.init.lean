/-! ===== constructors: the object's cell and what is new beside it ===== -/
def kA1 (h0 : Nat) (obj : va_E) (sz : Nat) : Nat → Prop := va_A [(h0, obj)] sz
def kPreI (E : kE) (h0 : Nat) (obj : va_E) (sz : Nat) : Array Value → State → Prop := va_Pc [.ref h0] (fun U => U.heap.size = sz ∧ va_P E.1 vwCl [(h0, obj)] U.heap ∧ kK E U ∧ va_D (fun _ => True) [(h0, obj)])
theorem kPreI_blind {E : kE} {h0 : Nat} {obj : va_E} {sz : Nat} : FrameBlind (kPreI E h0 obj sz) := fun a U g mk q => ⟨q.1, q.2.1, q.2.2.1, kK.same (u := U) (U := U.calling g mk a) rfl q.2.2.2.1, q.2.2.2.2⟩
def kIN (l : Launch) (y : MethodName) (ws : List Cond) (rm : Room) (mc ms : Nat) (E : kE) (h0 : Nat) (obj : va_E) (post : va_W → Prop) : Prop := ∀ sz : Nat, Met l y ws rm (kPreI E h0 obj sz) (va_Qv (fun w : va_W => post w) (fun w t => va_P E.1 vwCl w t.heap ∧ va_D (kA1 h0 obj sz) w) (kA1 h0 obj sz)) mc ms (kA1 h0 obj sz)
theorem kIN_of {l : Launch} {y : MethodName} {ws ws' : List Cond} {rm : Room} {mc ms : Nat} {E : kE} {h0 : Nat} {obj : va_E} {post : va_W → Prop} {cc : ByteArray} {maxL : Nat} (own : String) (hy : plainName y.cls = true) (hw : ws = Cond.code y cc maxL none :: ws') (ho : y.cls = own) (hnm : y.name = "<init>") (hlen : 1 ≤ maxL)
    (body : ∀ (p : Program) (e : Env) (s : State) (m : MethodId) (args : Array Value) (below : List Frame) (meth : Method) (c : Code) (ls : Array Slot) (Q : State → Prop) (A : Nat → Prop), CallFix p m c cc maxL s args ws own → va_P E.1 vwCl [(h0, obj)] s.heap → va_D A [(h0, obj)] → va_S A s.heap s.heap [] → kK E s → (∀ q : Nat, s.heap.size ≤ q → A q) → meth.name = "<init>" →
      (∀ (pc : Nat) (ls : Array Slot) (w : va_W) (H : Heap) (locs : List Loc), decode cc pc = .ok (.return_, 1) → va_P E.1 vwCl w H → va_D A w → va_S A s.heap H locs → post w → W p l e rm s m args below meth c H locs mc ms Q (F0 m pc ls [])) → lv_has ls maxL [(0, .ref h0)] → W p l e rm s m args below meth c s.heap [] 0 0 Q (F0 m 0 ls [])) : kIN l y ws rm mc ms E h0 obj post := by
  intro sz
  refine Met.ofW (cc := cc) (maxL := maxL) (ret := none) hy hw ?_
  intro p e s m args below meth c s₁ B hml hv
  obtain ⟨rfl, rfl, hP, hK, hD0⟩ := hv
  have hx := B.exec
  have hb := B.bytes
  have hr := B.returns
  have hlocks := B.notSynchronized
  have hin : meth.name = "<init>" := (name_of_methodNamed B.named B.method).1.trans hnm
  have hD := hD0.self (sz := s.heap.size)
  have hl := lv_entry ([.ref h0]) (n := maxL) hlen
  rw [lg_entry_eq]
  generalize (lg_sl ([.ref h0]) ++ List.replicate (maxL - (lg_sl ([.ref h0])).length) Slot.unset).toArray = ls at hl ⊢
  refine body p e s m _ below meth c ls _ (kA1 h0 obj s.heap.size) ⟨hx, hb, hml, by rw [← ho]; exact findClass_of_methodNamed B.named, atoms_spec (ws := ws) B.pre⟩ hP hD va_S.rf hK (fun q h => Or.inr h) hin (fun pc ls w H locs hdg hP1 hD1 hS hp => ?_) hl
  exact W.vret hx hb hr (fun t ht hW => ⟨⟨w, rfl, hp, by rw [ht]; exact hP1, hD1⟩, hS.F ht⟩) hS.2.2 hdg hlocks
section KIN
variable {p : Program} {l : Launch} {e : Env} {R : Room} {s : State} {m : MethodId} {args : Array Value} {below : List Frame} {meth : Method} {c : Code} {H H0 : Heap} {locs : List Loc} {cells slots : Nat} {Q : State → Prop}
variable {cc bytes : ByteArray} {pc : Nat} {ls : Array Slot} {rest st : List Value} {E : kE} {nL maxL index n : Nat} {Ts ws : List Cond} {own C : String} {y : MethodName} {rm : Room} {A : Nat → Prop} {w wr : va_W} {mc ms : Nat}
theorem k_newI (S : CallFix p m c cc nL s args Ts own) (hK : kK E s) (hP : va_P E.1 vwCl w H) (hD : va_D A w) (hS : va_S A H0 H locs) (hA : ∀ q, H0.size ≤ q → A q) (harr : (Cond.arrayClass .int).before args s = true) {N : Nat} (hN : N ≤ 1000) (hcells : cells + 1 ≤ R.cells) (hslots : slots + N ≤ R.slots) (hdg : decode cc pc = .ok (.newarray .int, 2))
    (kk : ∀ (q : Nat) (H1 : Heap), va_P E.1 vwCl (w ++ [(q, kArI E N)]) H1 → va_D A (w ++ [(q, kArI E N)]) → va_S A H0 H1 locs → W p l e R s m args below meth c H1 locs (cells + 1) (slots + N) Q (F0 m (pc + 2) ls (.ref q :: rest))) : W p l e R s m args below meth c H locs cells slots Q (F0 m pc ls (.int (zI (N : Int)) :: rest)) := by
  refine va_newa (atype := .int) (a0 := (N, .inl (fun _ => zI 0))) (N' := N) S.1 S.2.1 harr rfl hK.1 hP hD hS hA (fun cA => rfl) (fun q => ?_) (by rw [zI_nat (by omega)]; omega) (Nat.le_trans (Nat.mul_le_mul_right _ hN) (Nat.le_of_ble_eq_true rfl)) hcells hslots hdg (fun q cA H1 hK1 hP1 hD1 hS1 => ?_)
  · rw [zI_0, zI_lt (by omega)] at q
    omega
  · have e := kK_cls (k := 0) hK rfl (hK.1.2 0 _ rfl).2 hK1 (fun C q => by cases q)
    subst e
    exact kk q H1 hP1 hD1 hS1
theorem k_callIN {h0 : Nat} {obj : va_E} {post : va_W → Prop} (S : CallFix p m c cc nL s args Ts own) (hK : kK E s) (hP : va_P E.1 vwCl w H) (hD : va_D A w) (hS : va_S A H0 H locs) (hA : ∀ q, H0.size ≤ q → A q) (isC isR : List Nat) (hC : isC.map (fun i => w[i]?) = [(h0, obj)].map some) (hR : isR.map (fun i => w[i]?) = wr.map some) (hnd : va_nd isR = true) (hdis : ∀ i ∈ isR, i ∉ isC)
    (hM : kIN l y ws rm mc ms E h0 obj post) (cw : CallB R s args own index y bytes maxL none ws rm mc ms 0 ∧ y.name = "<init>" ∧ (Cond.instanceMethod y).before args s = true) (hsz : ls.size = nL) (hst : st = .ref h0 :: rest) (hw : (rest.map fun v => v.category).sum ≤ 8) (hdg : decode cc pc = .ok (.invokespecial index, 3)) (hf : cells + mc ≤ R.cells ∧ slots + ms ≤ R.slots)
    (hPc : va_P E.1 vwCl [(h0, obj)] H) (hDc : va_D (fun _ => True) [(h0, obj)])
    (kk : ∀ (w1 : va_W) (H1 : Heap) (locs1 : List Loc), post w1 → va_P E.1 vwCl (wr ++ w1) H1 → va_D A (wr ++ w1) → va_S A H0 H1 locs1 → W p l e R s m args below meth c H1 locs1 (cells + mc) (slots + ms) Q (F0 m (pc + 3) ls rest)) : W p l e R s m args below meth c H locs cells slots Q (F0 m pc ls st) := by
  have hFc := va_free (wc := [(h0, obj)]) hD hS hA isC hC
  refine va_callv (va_runI (As := []) (rest := rest) S (hM H.size) cw ⟨kPreI_blind, fun U hU hW => ⟨rfl, by rw [hU], by rw [hU]; exact hPc, kK.warm hW hK, hDc⟩⟩ rfl rfl hsz hst (lv_room hw) hdg hf) hS (fun q _ h => hFc q h) hFc (fun u t H1 locs1 ht hvm h5 hB hz1 hk1 hS1 => ?_)
  obtain ⟨hP1, hD1⟩ := hB
  rw [ht] at hP1
  obtain ⟨hP2, hD2⟩ := va_join (wr := wr) (w1 := u) hP hD isC isR hC hR hnd hdis hk1 hFc hP1 hD1
  exact kk u H1 locs1 h5 hP2 hD2 hS1
end KIN
/-- a world told by numbers out of a world told by places -/
theorem k_pick {D : va_G} {A : Nat → Prop} {W0 : va_W} {H : Heap} {n : Nat} (w : Nat → Nat × va_E) (ix : Nat → Nat) (hi : ∀ a b : Nat, a < n → b < n → ix a = ix b → a = b) (h : ∀ k : Nat, k < n → W0[ix k]? = some (w k)) (hP : va_P D vwCl W0 H) (hD : va_D A W0) : va_P D vwCl ((List.range n).map w) H ∧ va_D A ((List.range n).map w) := by
  have g : ∀ (k : Nat) (q : Nat × va_E), ((List.range n).map w)[k]? = some q → k < n ∧ W0[ix k]? = some q := by
    intro k q hq
    have hk : k < n := by
      have := (List.getElem?_eq_some_iff.mp hq).1
      simpa using this
    refine ⟨hk, ?_⟩
    rw [List.getElem?_map, List.getElem?_range hk] at hq
    rw [h k hk]
    exact hq
  refine ⟨fun k q hq => hP _ q (g k q hq).2, fun i j p q hp hq e => ?_, fun k q hq => hD.2 _ q (g k q hq).2⟩
  exact hi i j (g i p hp).1 (g j q hq).1 (hD.1 _ _ p q (g i p hp).2 (g j q hq).2 e)
