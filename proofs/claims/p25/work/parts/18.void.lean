def kROv (l : Launch) (y : MethodName) (ws : List Cond) (rm : Room) (E : kE) (M : kM) (av : List Value) : Prop := Met l y ws rm (kPre E M av) (va_Sv (fun _ => True)) 0 0 (fun _ => False)
theorem kROv_of {l : Launch} {y : MethodName} {ws ws' : List Cond} {rm : Room} {E : kE} {M : kM} {av : List Value} {cc : ByteArray} {maxL : Nat} (own : String) (hy : plainName y.cls = true) (hw : ws = Cond.code y cc maxL none :: ws') (ho : y.cls = own) (hlen : (lg_sl av).length ≤ maxL)
    (body : ∀ (p : Program) (e : Env) (s : State) (m : MethodId) (args : Array Value) (below : List Frame) (meth : Method) (c : Code) (ls : Array Slot) (Q : State → Prop), CallFix p m c cc maxL s args ws own → va_P E.1 vwCl (kW E M) s.heap → kK E s →
      (∀ (pc : Nat) (ls : Array Slot), decode cc pc = .ok (.return_, 1) → W p l e rm s m args below meth c s.heap [] 0 0 Q (F0 m pc ls [])) → lv_has ls maxL (lv_args 0 av) → W p l e rm s m args below meth c s.heap [] 0 0 Q (F0 m 0 ls [])) : kROv l y ws rm E M av := by
  refine Met.ofW (cc := cc) (maxL := maxL) (ret := none) hy hw ?_
  intro p e s m args below meth c s₁ B hml hv
  obtain ⟨rfl, hP, hK⟩ := hv
  have hx := B.exec
  have hb := B.bytes
  have hr := B.returns
  have hlocks := B.notSynchronized
  have hl := lv_entry av (n := maxL) hlen
  rw [lg_entry_eq]
  generalize (lg_sl av ++ List.replicate (maxL - (lg_sl av).length) Slot.unset).toArray = ls at hl ⊢
  refine body p e s m _ below meth c ls _ ⟨hx, hb, hml, by rw [← ho]; exact findClass_of_methodNamed B.named, atoms_spec (ws := ws) B.pre⟩ hP hK (fun pc ls hdg => ?_) hl
  exact W.vret hx hb hr (fun t ht hW => ⟨rfl, trivial, ht⟩) (fun q hq => absurd hq List.not_mem_nil) hdg hlocks
section KV
variable {p : Program} {l : Launch} {e : Env} {R : Room} {s : State} {m : MethodId} {args : Array Value} {below : List Frame} {meth : Method} {c : Code} {H H0 : Heap} {locs : List Loc} {cells slots : Nat} {Q : State → Prop}
variable {cc bytes : ByteArray} {pc : Nat} {ls : Array Slot} {rest st : List Value} {E : kE} {M : kM} {nL maxL index n : Nat} {Ts ws : List Cond} {own C : String} {y : MethodName} {ret : Option FieldType} {rm : Room} {As : List Value} {b : Nat}
theorem k_callSv (S : CallFix p m c cc nL s args Ts own) (hK : kK E s) (hP : va_P E.1 vwCl (kW E M) H) (hM : kROv l y ws rm E M As) (cw : CallB R s args own index y bytes maxL ret ws rm 0 0 n ∧ (Cond.static y).before args s = true)
    (hn : As.length = n) (hsz : ls.size = nL) (hst : st = As.reverse ++ rest) (hw : (rest.map fun v => v.category).sum ≤ 8) (hdg : decode cc pc = .ok (.invokestatic index, 3)) (hf : cells + 0 ≤ R.cells ∧ slots + 0 ≤ R.slots)
    (kk : W p l e R s m args below meth c H locs cells slots Q (F0 m (pc + 3) ls rest)) : W p l e R s m args below meth c H locs cells slots Q (F0 m pc ls st) :=
  va_csv (W.runS S hM cw ⟨kPre_blind, fun U hU hW => ⟨rfl, by rw [hU]; exact hP, kK.warm hW hK⟩⟩ rfl hn hsz hst (lv_room hw) hdg hf) (fun _ => kk)
end KV
theorem kFst_ex {x : Int → Int} {n p k : Int} (hp : 0 ≤ p) (h : p + k ≤ n) : ∃ b : Int, 0 ≤ b ∧ b ≤ p ∧ kFst x n x p k b := by
  obtain ⟨b, b1, b2, b3, b4⟩ := kLeast (fun b => kEq x b x p k) p.toNat p (by omega) (fun _ _ _ => rfl)
  exact ⟨b, b1, b2, Or.inr ⟨b1, by omega, b3, b4⟩⟩
/-- the first place in the other hem of the row at p, which is that at b too -/
theorem kSeam_at {x : Int → Int} {nx : Int} {y : Int → Int} {ny p b k z : Int} (hp : 0 ≤ p ∧ p + k ≤ nx) (hk : 0 < k) (hb0 : 0 ≤ b) (hb : kFst x nx x p k b) (hkm : k = kMac x nx y ny p) (hz : kFst y ny x p k z) : 0 ≤ z ∧ z < ny ∧ k ≤ kL x nx b y ny z ∧ ∀ c : Int, 0 ≤ c → c < z → kL x nx b y ny c < k := by
  obtain ⟨b1, b2⟩ : b + k ≤ nx ∧ kEq x b x p k := by
    rcases hb with ⟨g, -⟩ | ⟨-, g1, g2, -⟩
    · omega
    · exact ⟨g1, g2⟩
  rcases hz with ⟨z1, z2⟩ | ⟨z1, z2, z3, z4⟩
  · exfalso
    rcases (kMaxF_rng (fun c => kL x nx p y ny c) ny.toNat).2.2 with e | ⟨c, c1, c2, c3⟩
    · unfold kMac at hkm; omega
    · have hc := kL_spec (x := x) (y := y) (nx := nx) (ny := ny) (a := p) (b := c) (by omega) (by omega)
      have e : k = kL x nx p y ny c := by unfold kMac at hkm; omega
      have := hc.2.2.1
      exact z2 c c1 (by omega) (kEq_symm ((kLC_iff hc (by omega) (by omega)).mp (by omega)))
  · refine ⟨z1, by omega, (kLC_iff (kL_spec (by omega) (by omega)) b1 z2).mpr (fun t t1 t2 => (b2 t t1 t2).trans (z3 t t1 t2).symm), fun c c1 c2 => ?_⟩
    rcases Int.lt_or_le (kL x nx b y ny c) k with g | g
    · exact g
    · have hc := kL_spec (x := x) (y := y) (nx := nx) (ny := ny) (a := b) (b := c) (by omega) (by omega)
      have h2 := hc.2.2.1
      have q := (kLC_iff hc b1 (by omega)).mp g
      exact absurd (fun t t1 t2 => (q t t1 t2).symm.trans (b2 t t1 t2)) (z4 c c1 c2)
theorem kCnt_smp {x : Int → Int} {n : Int} {y : Int → Int} {m z : Int} (h : (m < 1 ∧ z = 0) ∨ (1 ≤ m ∧ z = kCnt (kAtP x n y 0 m) n.toNat)) : z = kCnt (kSmp x n y m) n.toNat := by
  rcases h with ⟨h1, h2⟩ | ⟨h1, h2⟩
  · rw [h2, kCnt_tail (kSmp x n y m) 0 n.toNat (by omega) (fun k k1 k2 q => by have := q.1; omega)]; rfl
  · rw [h2]
    exact kCnt_congr _ (fun k k1 k2 => ⟨fun q => ⟨by omega, q.1, q.2⟩, fun q => q.2⟩)
theorem kFirst_smp {x : Int → Int} {n : Int} {y : Int → Int} {m z : Int} (h : (m < 1 ∧ z = -1) ∨ (1 ≤ m ∧ kFst x n y 0 m z)) : kIsFirst x n y m z := by
  rcases h with ⟨h1, h2⟩ | ⟨h1, ⟨h2, h3⟩ | ⟨h2, h3, h4, h5⟩⟩
  · exact Or.inl ⟨h2, fun a a1 a2 q => by have := q.1; omega⟩
  · exact Or.inl ⟨h2, fun a a1 a2 q => h3 a a1 q.2.1 q.2.2⟩
  · exact Or.inr ⟨h2, by omega, ⟨by omega, h3, h4⟩, fun a a1 a2 q => h5 a a1 a2 q.2.2⟩
theorem kPlaces_rep {x : Int → Int} {n p b k : Int} (hk : 0 ≤ k) (hp : 0 ≤ p ∧ p + k ≤ n) (hb0 : 0 ≤ b) (hb : kFst x n x p k b) : kCnt (kAtP x n x p k) n.toNat = kCnt (fun c => k ≤ kL x n c x n b) n.toNat := by
  obtain ⟨b1, b2⟩ : b + k ≤ n ∧ kEq x b x p k := by
    rcases hb with ⟨g, -⟩ | ⟨-, g1, g2, -⟩
    · omega
    · exact ⟨g1, g2⟩
  refine kCnt_congr _ (fun c c1 c2 => ⟨fun q => ?_, fun q => ?_⟩)
  · exact (kLC_iff (kL_spec (by omega) (by omega)) q.1 b1).mpr (fun t t1 t2 => (q.2 t t1 t2).trans (b2 t t1 t2).symm)
  · have hc := kL_spec (x := x) (y := x) (nx := n) (ny := n) (a := c) (b := b) (by omega) (by omega)
    have h2 := hc.2.1
    have h3 : c + k ≤ n := by omega
    have e := (kLC_iff hc h3 b1).mp q
    exact ⟨h3, fun t t1 t2 => (e t t1 t2).trans (b2 t t1 t2)⟩
