section KY
variable {p : Program} {l : Launch} {e : Env} {R : Room} {s : State} {m : MethodId} {args : Array Value} {below : List Frame} {meth : Method} {c : Code} {H : Heap} {locs : List Loc} {cells slots : Nat} {Q : State → Prop}
variable {cc : ByteArray} {pc : Nat} {ls : Array Slot} {rest : List Value} {E : kE} {M : kM} {nL : Nat} {Ts : List Cond} {own : String}
/-! numbers -/
theorem k_push (hx : p.tables.exec = Jvm.exec) (hb : c.code = cc) {n : Int} (hdg : decode cc pc = .ok (.iconst n, 1)) (k : W p l e R s m args below meth c H locs cells slots Q (F0 m (pc + 1) ls (.int (zI n) :: rest))) : W p l e R s m args below meth c H locs cells slots Q (F0 m pc ls rest) := lv_iconst hx hb hdg rfl k
theorem k_bpush (hx : p.tables.exec = Jvm.exec) (hb : c.code = cc) {n : Int} (hdg : decode cc pc = .ok (.bipush n, 2)) (hv : (Int8.ofInt n).toInt32 = zI n) (k : W p l e R s m args below meth c H locs cells slots Q (F0 m (pc + 2) ls (.int (zI n) :: rest))) : W p l e R s m args below meth c H locs cells slots Q (F0 m pc ls rest) := lv_bipush hx hb hdg hv k
theorem k_add (hx : p.tables.exec = Jvm.exec) (hb : c.code = cc) {a b : Int} (hdg : decode cc pc = .ok (.iadd, 1)) (k : W p l e R s m args below meth c H locs cells slots Q (F0 m (pc + 1) ls (.int (zI (a + b)) :: rest))) : W p l e R s m args below meth c H locs cells slots Q (F0 m pc ls (.int (zI b) :: .int (zI a) :: rest)) := lv_iadd hx hb hdg (by rw [zI_add]; exact k)
theorem k_sub (hx : p.tables.exec = Jvm.exec) (hb : c.code = cc) {a b : Int} (hdg : decode cc pc = .ok (.isub, 1)) (k : W p l e R s m args below meth c H locs cells slots Q (F0 m (pc + 1) ls (.int (zI (a - b)) :: rest))) : W p l e R s m args below meth c H locs cells slots Q (F0 m pc ls (.int (zI b) :: .int (zI a) :: rest)) := lv_isub hx hb hdg (by rw [zI_sub]; exact k)
theorem k_mul (hx : p.tables.exec = Jvm.exec) (hb : c.code = cc) {a b : Int} (hdg : decode cc pc = .ok (.imul, 1)) (k : W p l e R s m args below meth c H locs cells slots Q (F0 m (pc + 1) ls (.int (zI (a * b)) :: rest))) : W p l e R s m args below meth c H locs cells slots Q (F0 m pc ls (.int (zI b) :: .int (zI a) :: rest)) := lv_imul hx hb hdg (by rw [zI_mul]; exact k)
theorem k_rem (hx : p.tables.exec = Jvm.exec) (hb : c.code = cc) {a b : Int} (hdg : decode cc pc = .ok (.irem, 1)) (h : 0 ≤ a ∧ a ≤ 2147483647 ∧ 0 < b ∧ b ≤ 2147483647) (k : W p l e R s m args below meth c H locs cells slots Q (F0 m (pc + 1) ls (.int (zI (a % b)) :: rest))) : W p l e R s m args below meth c H locs cells slots Q (F0 m pc ls (.int (zI b) :: .int (zI a) :: rest)) :=
  lv_irem hx hb hdg (fun q => by have := (zI_eq (a := b) (b := 0) (by omega)).mp q; omega) (by rw [zI_rem h]; exact k)
theorem k_neg (hx : p.tables.exec = Jvm.exec) (hb : c.code = cc) {a : Int} (hdg : decode cc pc = .ok (.ineg, 1)) (k : W p l e R s m args below meth c H locs cells slots Q (F0 m (pc + 1) ls (.int (zI (-a)) :: rest))) : W p l e R s m args below meth c H locs cells slots Q (F0 m pc ls (.int (zI a) :: rest)) := lv_ineg hx hb hdg (by rw [zI_neg]; exact k)
theorem k_i2l (hx : p.tables.exec = Jvm.exec) (hb : c.code = cc) {a : Int} (hdg : decode cc pc = .ok (.i2l, 1)) (h : -2147483648 ≤ a ∧ a ≤ 2147483647) (k : W p l e R s m args below meth c H locs cells slots Q (F0 m (pc + 1) ls (.long (lI a) :: rest))) : W p l e R s m args below meth c H locs cells slots Q (F0 m pc ls (.int (zI a) :: rest)) := lv_i2l hx hb hdg (zI_long h) k
theorem k_ladd (hx : p.tables.exec = Jvm.exec) (hb : c.code = cc) {a b : Int} (hdg : decode cc pc = .ok (.ladd, 1)) (k : W p l e R s m args below meth c H locs cells slots Q (F0 m (pc + 1) ls (.long (lI (a + b)) :: rest))) : W p l e R s m args below meth c H locs cells slots Q (F0 m pc ls (.long (lI b) :: .long (lI a) :: rest)) := lv_ladd hx hb hdg (by rw [lI_add]; exact k)
theorem k_lmul (hx : p.tables.exec = Jvm.exec) (hb : c.code = cc) {a b : Int} (hdg : decode cc pc = .ok (.lmul, 1)) (k : W p l e R s m args below meth c H locs cells slots Q (F0 m (pc + 1) ls (.long (lI (a * b)) :: rest))) : W p l e R s m args below meth c H locs cells slots Q (F0 m pc ls (.long (lI b) :: .long (lI a) :: rest)) := lv_lmul hx hb hdg (by rw [lI_mul]; exact k)
theorem k_inc (hx : p.tables.exec = Jvm.exec) (hb : c.code = cc) {i k : Nat} {n a : Int} {lv lv' : List (Nat × Value)} (hdg : decode cc pc = .ok (.iinc i n, 3)) (h : lv_has ls nL lv) (hk : lv[k]? = some (i, .int (zI a))) (hn : i < nL) (hl : (i, Value.int (zI (a + n))) :: lv.filter (fun q => !(q.1 == i) && !(q.1 + 1 == i && q.2.category == 2)) = lv')
    (kk : ∀ ls' : Array Slot, lv_has ls' nL lv' → W p l e R s m args below meth c H locs cells slots Q (F0 m (pc + 3) ls' rest)) : W p l e R s m args below meth c H locs cells slots Q (F0 m pc ls rest) :=
  lv_iinc (v := zI (a + n)) hx hb hdg h hk (zI_add a n) hn hl kk
theorem k_incN (hx : p.tables.exec = Jvm.exec) (hb : c.code = cc) {i k : Nat} {n a v : Int} {lv lv' : List (Nat × Value)} (hdg : decode cc pc = .ok (.iinc i n, 3)) (h : lv_has ls nL lv) (hk : lv[k]? = some (i, .int (zI a))) (hv : v = a + n) (hn : i < nL) (hl : (i, Value.int (zI v)) :: lv.filter (fun q => !(q.1 == i) && !(q.1 + 1 == i && q.2.category == 2)) = lv')
    (kk : ∀ ls' : Array Slot, lv_has ls' nL lv' → W p l e R s m args below meth c H locs cells slots Q (F0 m (pc + 3) ls' rest)) : W p l e R s m args below meth c H locs cells slots Q (F0 m pc ls rest) :=
  lv_iinc (v := zI v) hx hb hdg h hk (by rw [hv]; exact zI_add a n) hn hl kk
theorem k_nm {a : Int} (k : ∀ v : Int, v = a → W p l e R s m args below meth c H locs cells slots Q (F0 m pc ls (.int (zI v) :: rest))) : W p l e R s m args below meth c H locs cells slots Q (F0 m pc ls (.int (zI a) :: rest)) := k a rfl
theorem k_nml {a : Int} (k : ∀ v : Int, v = a → W p l e R s m args below meth c H locs cells slots Q (F0 m pc ls (.long (lI v) :: rest))) : W p l e R s m args below meth c H locs cells slots Q (F0 m pc ls (.long (lI a) :: rest)) := k a rfl
theorem k_ldc2 (hx : p.tables.exec = Jvm.exec) (hb : c.code = cc) {index : Nat} {v : Int64} (hown : s.vm.findClass own = some m.cls) (hconst : (Cond.constantLong own index v).before args s = true) {n : Int} (hv : v = lI n) (hdg : decode cc pc = .ok (.ldc2_w index, 3)) (k : W p l e R s m args below meth c H locs cells slots Q (F0 m (pc + 3) ls (.long (lI n) :: rest))) : W p l e R s m args below meth c H locs cells slots Q (F0 m pc ls rest) := by
  subst hv
  exact lv_ldc2 hx hb hown hconst hdg k
/-! branches -/
theorem k_lt (hx : p.tables.exec = Jvm.exec) (hb : c.code = cc) {a b : Int} {off : Int} {tgt : Nat} (hdg : decode cc pc = .ok (.if_icmp .lt off, 3)) (ht : (pc : Int) + off = (tgt : Int)) (h : -2147483648 ≤ a ∧ a ≤ 2147483647 ∧ -2147483648 ≤ b ∧ b ≤ 2147483647)
    (kt : a < b → W p l e R s m args below meth c H locs cells slots Q (F0 m tgt ls rest)) (kf : b ≤ a → W p l e R s m args below meth c H locs cells slots Q (F0 m (pc + 3) ls rest)) : W p l e R s m args below meth c H locs cells slots Q (F0 m pc ls (.int (zI b) :: .int (zI a) :: rest)) :=
  lv_icmp_lt hx hb hdg ht (fun q => kt ((zI_lt h).mp q)) (fun q => kf (by rw [zI_lt h] at q; omega))
theorem k_le (hx : p.tables.exec = Jvm.exec) (hb : c.code = cc) {a b : Int} {off : Int} {tgt : Nat} (hdg : decode cc pc = .ok (.if_icmp .le off, 3)) (ht : (pc : Int) + off = (tgt : Int)) (h : -2147483648 ≤ a ∧ a ≤ 2147483647 ∧ -2147483648 ≤ b ∧ b ≤ 2147483647)
    (kt : a ≤ b → W p l e R s m args below meth c H locs cells slots Q (F0 m tgt ls rest)) (kf : b < a → W p l e R s m args below meth c H locs cells slots Q (F0 m (pc + 3) ls rest)) : W p l e R s m args below meth c H locs cells slots Q (F0 m pc ls (.int (zI b) :: .int (zI a) :: rest)) :=
  lv_icmp_le hx hb hdg ht (fun q => kt ((zI_le h).mp q)) (fun q => kf (by rw [zI_le h] at q; omega))
theorem k_gt (hx : p.tables.exec = Jvm.exec) (hb : c.code = cc) {a b : Int} {off : Int} {tgt : Nat} (hdg : decode cc pc = .ok (.if_icmp .gt off, 3)) (ht : (pc : Int) + off = (tgt : Int)) (h : -2147483648 ≤ a ∧ a ≤ 2147483647 ∧ -2147483648 ≤ b ∧ b ≤ 2147483647)
    (kt : b < a → W p l e R s m args below meth c H locs cells slots Q (F0 m tgt ls rest)) (kf : a ≤ b → W p l e R s m args below meth c H locs cells slots Q (F0 m (pc + 3) ls rest)) : W p l e R s m args below meth c H locs cells slots Q (F0 m pc ls (.int (zI b) :: .int (zI a) :: rest)) :=
  lv_icmp_gt hx hb hdg ht (fun q => kt ((zI_lt (by omega)).mp q)) (fun q => kf (by rw [zI_lt (by omega)] at q; omega))
theorem k_ge (hx : p.tables.exec = Jvm.exec) (hb : c.code = cc) {a b : Int} {off : Int} {tgt : Nat} (hdg : decode cc pc = .ok (.if_icmp .ge off, 3)) (ht : (pc : Int) + off = (tgt : Int)) (h : -2147483648 ≤ a ∧ a ≤ 2147483647 ∧ -2147483648 ≤ b ∧ b ≤ 2147483647)
    (kt : b ≤ a → W p l e R s m args below meth c H locs cells slots Q (F0 m tgt ls rest)) (kf : a < b → W p l e R s m args below meth c H locs cells slots Q (F0 m (pc + 3) ls rest)) : W p l e R s m args below meth c H locs cells slots Q (F0 m pc ls (.int (zI b) :: .int (zI a) :: rest)) :=
  lv_icmp_ge hx hb hdg ht (fun q => kt ((zI_le (by omega)).mp q)) (fun q => kf (by rw [zI_le (by omega)] at q; omega))
theorem k_eq (hx : p.tables.exec = Jvm.exec) (hb : c.code = cc) {a b : Int} {off : Int} {tgt : Nat} (hdg : decode cc pc = .ok (.if_icmp .eq off, 3)) (ht : (pc : Int) + off = (tgt : Int)) (h : -2147483648 ≤ a ∧ a ≤ 2147483647 ∧ -2147483648 ≤ b ∧ b ≤ 2147483647)
    (kt : a = b → W p l e R s m args below meth c H locs cells slots Q (F0 m tgt ls rest)) (kf : a ≠ b → W p l e R s m args below meth c H locs cells slots Q (F0 m (pc + 3) ls rest)) : W p l e R s m args below meth c H locs cells slots Q (F0 m pc ls (.int (zI b) :: .int (zI a) :: rest)) :=
  lv_icmp_eq hx hb hdg ht (fun q => kt ((zI_eq h).mp q)) (fun q => kf (fun z => q ((zI_eq h).mpr z)))
theorem k_ne (hx : p.tables.exec = Jvm.exec) (hb : c.code = cc) {a b : Int} {off : Int} {tgt : Nat} (hdg : decode cc pc = .ok (.if_icmp .ne off, 3)) (ht : (pc : Int) + off = (tgt : Int)) (h : -2147483648 ≤ a ∧ a ≤ 2147483647 ∧ -2147483648 ≤ b ∧ b ≤ 2147483647)
    (kt : a ≠ b → W p l e R s m args below meth c H locs cells slots Q (F0 m tgt ls rest)) (kf : a = b → W p l e R s m args below meth c H locs cells slots Q (F0 m (pc + 3) ls rest)) : W p l e R s m args below meth c H locs cells slots Q (F0 m pc ls (.int (zI b) :: .int (zI a) :: rest)) :=
  lv_icmp_ne hx hb hdg ht (fun q => kt (fun z => q ((zI_eq h).mpr z))) (fun q => kf ((zI_eq h).mp q))
theorem k_lt0 (hx : p.tables.exec = Jvm.exec) (hb : c.code = cc) {a : Int} {off : Int} {tgt : Nat} (hdg : decode cc pc = .ok (.ifCond .lt off, 3)) (ht : (pc : Int) + off = (tgt : Int)) (h : -2147483648 ≤ a ∧ a ≤ 2147483647)
    (kt : a < 0 → W p l e R s m args below meth c H locs cells slots Q (F0 m tgt ls rest)) (kf : 0 ≤ a → W p l e R s m args below meth c H locs cells slots Q (F0 m (pc + 3) ls rest)) : W p l e R s m args below meth c H locs cells slots Q (F0 m pc ls (.int (zI a) :: rest)) :=
  lv_if_lt hx hb hdg ht (fun q => kt ((zI_lt (b := 0) (by omega)).mp q)) (fun q => kf (by rw [zI_0, zI_lt (by omega)] at q; omega))
theorem k_le0 (hx : p.tables.exec = Jvm.exec) (hb : c.code = cc) {a : Int} {off : Int} {tgt : Nat} (hdg : decode cc pc = .ok (.ifCond .le off, 3)) (ht : (pc : Int) + off = (tgt : Int)) (h : -2147483648 ≤ a ∧ a ≤ 2147483647)
    (kt : a ≤ 0 → W p l e R s m args below meth c H locs cells slots Q (F0 m tgt ls rest)) (kf : 0 < a → W p l e R s m args below meth c H locs cells slots Q (F0 m (pc + 3) ls rest)) : W p l e R s m args below meth c H locs cells slots Q (F0 m pc ls (.int (zI a) :: rest)) :=
  lv_if_le hx hb hdg ht (fun q => kt ((zI_le (b := 0) (by omega)).mp q)) (fun q => kf (by rw [zI_0, zI_le (by omega)] at q; omega))
theorem k_gt0 (hx : p.tables.exec = Jvm.exec) (hb : c.code = cc) {a : Int} {off : Int} {tgt : Nat} (hdg : decode cc pc = .ok (.ifCond .gt off, 3)) (ht : (pc : Int) + off = (tgt : Int)) (h : -2147483648 ≤ a ∧ a ≤ 2147483647)
    (kt : 0 < a → W p l e R s m args below meth c H locs cells slots Q (F0 m tgt ls rest)) (kf : a ≤ 0 → W p l e R s m args below meth c H locs cells slots Q (F0 m (pc + 3) ls rest)) : W p l e R s m args below meth c H locs cells slots Q (F0 m pc ls (.int (zI a) :: rest)) :=
  lv_if_gt hx hb hdg ht (fun q => kt ((zI_lt (a := 0) (by omega)).mp q)) (fun q => kf (by rw [zI_0, zI_lt (by omega)] at q; omega))
theorem k_ge0 (hx : p.tables.exec = Jvm.exec) (hb : c.code = cc) {a : Int} {off : Int} {tgt : Nat} (hdg : decode cc pc = .ok (.ifCond .ge off, 3)) (ht : (pc : Int) + off = (tgt : Int)) (h : -2147483648 ≤ a ∧ a ≤ 2147483647)
    (kt : 0 ≤ a → W p l e R s m args below meth c H locs cells slots Q (F0 m tgt ls rest)) (kf : a < 0 → W p l e R s m args below meth c H locs cells slots Q (F0 m (pc + 3) ls rest)) : W p l e R s m args below meth c H locs cells slots Q (F0 m pc ls (.int (zI a) :: rest)) :=
  lv_if_ge hx hb hdg ht (fun q => kt ((zI_le (a := 0) (by omega)).mp q)) (fun q => kf (by rw [zI_0, zI_le (by omega)] at q; omega))
theorem k_eq0 (hx : p.tables.exec = Jvm.exec) (hb : c.code = cc) {a : Int} {off : Int} {tgt : Nat} (hdg : decode cc pc = .ok (.ifCond .eq off, 3)) (ht : (pc : Int) + off = (tgt : Int)) (h : -2147483648 ≤ a ∧ a ≤ 2147483647)
    (kt : a = 0 → W p l e R s m args below meth c H locs cells slots Q (F0 m tgt ls rest)) (kf : a ≠ 0 → W p l e R s m args below meth c H locs cells slots Q (F0 m (pc + 3) ls rest)) : W p l e R s m args below meth c H locs cells slots Q (F0 m pc ls (.int (zI a) :: rest)) :=
  lv_if_eq hx hb hdg ht (fun q => kt ((zI_eq (b := 0) (by omega)).mp q)) (fun q => kf (fun z => q (by rw [z]; rfl)))
theorem k_ne0 (hx : p.tables.exec = Jvm.exec) (hb : c.code = cc) {a : Int} {off : Int} {tgt : Nat} (hdg : decode cc pc = .ok (.ifCond .ne off, 3)) (ht : (pc : Int) + off = (tgt : Int)) (h : -2147483648 ≤ a ∧ a ≤ 2147483647)
    (kt : a ≠ 0 → W p l e R s m args below meth c H locs cells slots Q (F0 m tgt ls rest)) (kf : a = 0 → W p l e R s m args below meth c H locs cells slots Q (F0 m (pc + 3) ls rest)) : W p l e R s m args below meth c H locs cells slots Q (F0 m pc ls (.int (zI a) :: rest)) :=
  lv_if_ne hx hb hdg ht (fun q => kt (fun z => q (by rw [z]; rfl))) (fun q => kf ((zI_eq (b := 0) (by omega)).mp q))
/-! fields: the classes of the world are 0 Hem, 1 Stitches, 2 HemSuffixes, 3 Rows, 4 Sim -/
theorem k_get (S : CallFix p m c cc nL s args Ts own) (hK : kK E s) (hP : va_P E.1 vwCl (kW E M) H) {x : Int} (hx : 0 ≤ x ∧ x < kn E) {C ref : String} {T : u_T} {N ci index : Nat} {fs : List Value} (he : kC E M x = .inr (ci, fs)) (hc : vwCl[ci]? = some (C, T, N)) (hin : ∀ w ∈ u_ws C T N, w ∈ Ts) (k : Nat) (hk : k < N)
    (hlink : (Cond.fieldLink own index ref (T k).2.1 (T k).2.2.1).before args s = true) (hsame : (T k).1 = ref) {v : Value} (hv : fs[k]? = some v) (hdg : decode cc pc = .ok (.getfield index, 3)) (kk : W p l e R s m args below meth c H locs cells slots Q (F0 m (pc + 3) ls (v :: rest))) : W p l e R s m args below meth c H locs cells slots Q (F0 m pc ls (.ref (E.2.2 x) :: rest)) :=
  va_get S.1 S.2.1 S.2.2.2.2 hin S.2.2.2.1 hK.1 hP x.toNat (by rw [kW_get E M hx, he]) hc k hk hlink (fun y hy => by rw [← hsame]; exact hy) hv hdg kk
theorem k_kinds (S : CallFix p m c cc nL s args Ts own) (hK : kK E s) (hP : va_P E.1 vwCl (kW E M) H) (hin : ∀ w ∈ wsX10, w ∈ Ts) {index : Nat} (hlink : (Cond.fieldLink own index "HemSuffixes$Stitches" "kinds" "[I").before args s = true) (hdg : decode cc pc = .ok (.getfield index, 3)) {x : Int} (hc : 0 ≤ x ∧ x < 3)
    (kk : W p l e R s m args below meth c H locs cells slots Q (F0 m (pc + 3) ls (.ref (E.2.2 (x + 3)) :: rest))) : W p l e R s m args below meth c H locs cells slots Q (F0 m pc ls (.ref (E.2.2 x) :: rest)) :=
  k_get (C := RX1) (T := TX1) S hK hP (by have := hK.2.2.2; omega) (kC_S hc) rfl hin 0 (by decide) hlink rfl rfl hdg kk
theorem k_length (S : CallFix p m c cc nL s args Ts own) (hK : kK E s) (hP : va_P E.1 vwCl (kW E M) H) (hin : ∀ w ∈ wsX10, w ∈ Ts) {index : Nat} (hlink : (Cond.fieldLink own index "HemSuffixes$Stitches" "length" "I").before args s = true) (hdg : decode cc pc = .ok (.getfield index, 3)) {x : Int} (hc : 0 ≤ x ∧ x < 3)
    (kk : W p l e R s m args below meth c H locs cells slots Q (F0 m (pc + 3) ls (.int (zI (M x 1)) :: rest))) : W p l e R s m args below meth c H locs cells slots Q (F0 m pc ls (.ref (E.2.2 x) :: rest)) :=
  k_get (C := RX1) (T := TX1) S hK hP (by have := hK.2.2.2; omega) (kC_S hc) rfl hin 1 (by decide) hlink rfl rfl hdg kk
theorem k_stitches (S : CallFix p m c cc nL s args Ts own) (hK : kK E s) (hP : va_P E.1 vwCl (kW E M) H) (hin : ∀ w ∈ wsX00, w ∈ Ts) {index : Nat} (hlink : (Cond.fieldLink own index "HemSuffixes$Hem" "stitches" "LHemSuffixes$Stitches;").before args s = true) (hdg : decode cc pc = .ok (.getfield index, 3)) {x : Int} (hc : 6 ≤ x ∧ x < 8) (y : Int) (hy : y = x - 6)
    (kk : W p l e R s m args below meth c H locs cells slots Q (F0 m (pc + 3) ls (.ref (E.2.2 y) :: rest))) : W p l e R s m args below meth c H locs cells slots Q (F0 m pc ls (.ref (E.2.2 x) :: rest)) := by
  subst hy
  exact k_get (C := RX0) (T := TX0) S hK hP (by have := hK.2.2.2; omega) (kC_H hc) rfl hin 0 (by decide) hlink rfl rfl hdg kk
theorem k_order (S : CallFix p m c cc nL s args Ts own) (hK : kK E s) (hP : va_P E.1 vwCl (kW E M) H) (hin : ∀ w ∈ wsX00, w ∈ Ts) {index : Nat} (hlink : (Cond.fieldLink own index "HemSuffixes$Hem" "placesInOrder" "[I").before args s = true) (hdg : decode cc pc = .ok (.getfield index, 3)) {x : Int} (hc : 6 ≤ x ∧ x < 8) (y : Int) (hy : y = x + 2)
    (kk : W p l e R s m args below meth c H locs cells slots Q (F0 m (pc + 3) ls (.ref (E.2.2 y) :: rest))) : W p l e R s m args below meth c H locs cells slots Q (F0 m pc ls (.ref (E.2.2 x) :: rest)) := by
  subst hy
  exact k_get (C := RX0) (T := TX0) S hK hP (by have := hK.2.2.2; omega) (kC_H hc) rfl hin 1 (by decide) hlink rfl rfl hdg kk
theorem k_getN (S : CallFix p m c cc nL s args Ts own) (hK : kK E s) (hP : va_P E.1 vwCl (kW E M) H) {x : Int} (hx : 0 ≤ x ∧ x < kn E) {C ref host : String} {T : u_T} {N ci index : Nat} {fs : List Value} (he : kC E M x = .inr (ci, fs)) (hc : vwCl[ci]? = some (C, T, N)) (hin : ∀ w ∈ u_ws C T N, w ∈ Ts) (k : Nat) (hk : k < N)
    (hlink : va_Nw (.fieldLinkNest own index ref (T k).2.1 (T k).2.2.1 host) s) (hsame : (T k).1 = ref) {v : Value} (hv : fs[k]? = some v) (hdg : decode cc pc = .ok (.getfield index, 3)) (kk : W p l e R s m args below meth c H locs cells slots Q (F0 m (pc + 3) ls (v :: rest))) : W p l e R s m args below meth c H locs cells slots Q (F0 m pc ls (.ref (E.2.2 x) :: rest)) :=
  va_getN S.1 S.2.1 S.2.2.2.2 hin S.2.2.2.1 hK.1 hP x.toNat (by rw [kW_get E M hx, he]) hc k hk (va_Nw.use rfl hlink) (fun y hy => by rw [← hsame]; exact hy) hv hdg kk
theorem k_lengthN (S : CallFix p m c cc nL s args Ts own) (hK : kK E s) (hP : va_P E.1 vwCl (kW E M) H) (hin : ∀ w ∈ wsX10, w ∈ Ts) {index : Nat} (hlink : va_Nw (.fieldLinkNest own index "HemSuffixes$Stitches" "length" "I" "HemSuffixes") s) (hdg : decode cc pc = .ok (.getfield index, 3)) {x : Int} (hc : 0 ≤ x ∧ x < 3)
    (kk : W p l e R s m args below meth c H locs cells slots Q (F0 m (pc + 3) ls (.int (zI (M x 1)) :: rest))) : W p l e R s m args below meth c H locs cells slots Q (F0 m pc ls (.ref (E.2.2 x) :: rest)) :=
  k_getN (C := RX1) (T := TX1) S hK hP (by have := hK.2.2.2; omega) (kC_S hc) rfl hin 1 (by decide) hlink rfl rfl hdg kk
theorem k_stitchesN (S : CallFix p m c cc nL s args Ts own) (hK : kK E s) (hP : va_P E.1 vwCl (kW E M) H) (hin : ∀ w ∈ wsX00, w ∈ Ts) {index : Nat} (hlink : va_Nw (.fieldLinkNest own index "HemSuffixes$Hem" "stitches" "LHemSuffixes$Stitches;" "HemSuffixes") s) (hdg : decode cc pc = .ok (.getfield index, 3)) {x : Int} (hc : 6 ≤ x ∧ x < 8) (y : Int) (hy : y = x - 6)
    (kk : W p l e R s m args below meth c H locs cells slots Q (F0 m (pc + 3) ls (.ref (E.2.2 y) :: rest))) : W p l e R s m args below meth c H locs cells slots Q (F0 m pc ls (.ref (E.2.2 x) :: rest)) := by
  subst hy
  exact k_getN (C := RX0) (T := TX0) S hK hP (by have := hK.2.2.2; omega) (kC_H hc) rfl hin 0 (by decide) hlink rfl rfl hdg kk
/-- a reference held by the HemSuffixes object: field k leads to cell y -/
theorem k_own (S : CallFix p m c cc nL s args Ts own) (hK : kK E s) (hP : va_P E.1 vwCl (kW E M) H) (hin : ∀ w ∈ wsX20, w ∈ Ts) (k : Nat) (hk : k < 3) {index : Nat} (hlink : (Cond.fieldLink own index "HemSuffixes" (TX2 k).2.1 (TX2 k).2.2.1).before args s = true) (hdg : decode cc pc = .ok (.getfield index, 3)) {x : Int} (hc : x = 10) (y : Int) (hy : ([.ref (E.2.2 6), .ref (E.2.2 7), .ref (E.2.2 2)] : List Value)[k]? = some (.ref (E.2.2 y))) (hs : (TX2 k).1 = "HemSuffixes")
    (kk : W p l e R s m args below meth c H locs cells slots Q (F0 m (pc + 3) ls (.ref (E.2.2 y) :: rest))) : W p l e R s m args below meth c H locs cells slots Q (F0 m pc ls (.ref (E.2.2 x) :: rest)) := by
  subst hc
  exact k_get (C := RX2) (T := TX2) S hK hP (by have := hK.2.2.2; omega) kC_X rfl hin k hk hlink hs hy hdg kk
/-- a field of the law's objects: Sim (3) and Rows (4) -/
theorem k_sim (S : CallFix p m c cc nL s args Ts own) (hK : kK E s) (hP : va_P E.1 vwCl (kW E M) H) (hin : ∀ w ∈ wsX40, w ∈ Ts) (k : Nat) (hk : k < 2) {index : Nat} (hlink : (Cond.fieldLink own index "HemSuffixesLaw$Sim" (TX4 k).2.1 (TX4 k).2.2.1).before args s = true) (hdg : decode cc pc = .ok (.getfield index, 3)) {x : Int} (hc : 11 ≤ x ∧ x < kn E ∧ M x (-2) = 3) {a : Nat} (ha : M x (k : Int) = (a : Int)) (hs : (TX4 k).1 = "HemSuffixesLaw$Sim")
    (kk : W p l e R s m args below meth c H locs cells slots Q (F0 m (pc + 3) ls (.ref a :: rest))) : W p l e R s m args below meth c H locs cells slots Q (F0 m pc ls (.ref (E.2.2 x) :: rest)) := by
  refine k_get (C := RX4) (T := TX4) (v := .ref a) S hK hP (by omega) (kC_Sim hc.1 hc.2.2) rfl hin k hk hlink hs ?_ hdg kk
  match k, hk, ha with
  | 0, _, ha => show some (kRf (M x 0)) = _; rw [show M x 0 = (a : Int) from ha, kRf_nat]
  | 1, _, ha => show some (kRf (M x 1)) = _; rw [show M x 1 = (a : Int) from ha, kRf_nat]
theorem k_rowsR (S : CallFix p m c cc nL s args Ts own) (hK : kK E s) (hP : va_P E.1 vwCl (kW E M) H) (hin : ∀ w ∈ wsX30, w ∈ Ts) (k : Nat) (hk : k < 10) (hk5 : k ≠ 5) {index : Nat} (hlink : (Cond.fieldLink own index "HemSuffixesLaw$Rows" (TX3 k).2.1 (TX3 k).2.2.1).before args s = true) (hdg : decode cc pc = .ok (.getfield index, 3)) {x : Int} (hc : 11 ≤ x ∧ x < kn E ∧ M x (-2) = 4) {a : Nat} (ha : M x (k : Int) = (a : Int)) (hs : (TX3 k).1 = "HemSuffixesLaw$Rows")
    (kk : W p l e R s m args below meth c H locs cells slots Q (F0 m (pc + 3) ls (.ref a :: rest))) : W p l e R s m args below meth c H locs cells slots Q (F0 m pc ls (.ref (E.2.2 x) :: rest)) := by
  refine k_get (C := RX3) (T := TX3) (v := .ref a) S hK hP (by omega) (kC_Rows hc.1 hc.2.2) rfl hin k hk hlink hs ?_ hdg kk
  match k, hk, hk5, ha with
  | 0, _, _, ha => show some (kRf (M x 0)) = _; rw [show M x 0 = (a : Int) from ha, kRf_nat]
  | 1, _, _, ha => show some (kRf (M x 1)) = _; rw [show M x 1 = (a : Int) from ha, kRf_nat]
  | 2, _, _, ha => show some (kRf (M x 2)) = _; rw [show M x 2 = (a : Int) from ha, kRf_nat]
  | 3, _, _, ha => show some (kRf (M x 3)) = _; rw [show M x 3 = (a : Int) from ha, kRf_nat]
  | 4, _, _, ha => show some (kRf (M x 4)) = _; rw [show M x 4 = (a : Int) from ha, kRf_nat]
  | 6, _, _, ha => show some (kRf (M x 6)) = _; rw [show M x 6 = (a : Int) from ha, kRf_nat]
  | 7, _, _, ha => show some (kRf (M x 7)) = _; rw [show M x 7 = (a : Int) from ha, kRf_nat]
  | 8, _, _, ha => show some (kRf (M x 8)) = _; rw [show M x 8 = (a : Int) from ha, kRf_nat]
  | 9, _, _, ha => show some (kRf (M x 9)) = _; rw [show M x 9 = (a : Int) from ha, kRf_nat]
theorem k_nodes (S : CallFix p m c cc nL s args Ts own) (hK : kK E s) (hP : va_P E.1 vwCl (kW E M) H) (hin : ∀ w ∈ wsX30, w ∈ Ts) {index : Nat} (hlink : (Cond.fieldLink own index "HemSuffixesLaw$Rows" "nodes" "I").before args s = true) (hdg : decode cc pc = .ok (.getfield index, 3)) {x : Int} (hc : 11 ≤ x ∧ x < kn E ∧ M x (-2) = 4)
    (kk : W p l e R s m args below meth c H locs cells slots Q (F0 m (pc + 3) ls (.int (zI (M x 5)) :: rest))) : W p l e R s m args below meth c H locs cells slots Q (F0 m pc ls (.ref (E.2.2 x) :: rest)) :=
  k_get (C := RX3) (T := TX3) (v := .int (zI (M x 5))) S hK hP (by omega) (kC_Rows hc.1 hc.2.2) rfl hin 5 (by decide) hlink rfl rfl hdg kk
/-! stores into fields: a world's number changes -/
theorem k_putlength (S : CallFix p m c cc nL s args Ts own) (hK : kK E s) (hE : kInj E) {sz : Nat} {H0 : Heap} (hP : va_P E.1 vwCl (kW E M) H) (hS : va_S (kA E sz) H0 H locs) (hin : ∀ w ∈ wsX10, w ∈ Ts) {index : Nat} (hlink : (Cond.fieldLink own index "HemSuffixes$Stitches" "length" "I").before args s = true) (hdg : decode cc pc = .ok (.putfield index, 3)) {x v : Int} (hc : 0 ≤ x ∧ x < 3)
    (kk : ∀ (H1 : Heap) (locs1 : List Loc), va_P E.1 vwCl (kW E (kU M x 1 v)) H1 → va_S (kA E sz) H0 H1 locs1 → W p l e R s m args below meth c H1 locs1 cells slots Q (F0 m (pc + 3) ls rest)) : W p l e R s m args below meth c H locs cells slots Q (F0 m pc ls (.int (zI v) :: .ref (E.2.2 x) :: rest)) := by
  have hn := hK.2.2.2
  refine va_put (ty := .int) (C := RX1) (T := TX1) (N := 2) (ci := 1) S.1 S.2.1 S.2.2.2.2 hin tyX1 tyX1_ok nmX1 S.2.2.2.1 hK.1 hP (kW_DA hE M sz) hS x.toNat (by rw [kW_get E M (by omega), kC_S hc]) rfl 1 (by decide) hlink (fun y hy => hy) rfl rfl rfl rfl (Nat.le_of_ble_eq_true rfl) hdg (fun H1 locs1 h1 _ h3 => kk H1 locs1 ?_ h3)
  rw [kW_set (M' := kU M x 1 v) (by omega) (by rw [kC_S hc, kU_same]; rfl) (fun k hk i => kU_cell hk)] at h1
  exact h1
/-- the number of nodes -/
theorem k_putnodes {A : Nat → Prop} {sz : Nat} {H0 : Heap} (S : CallFix p m c cc nL s args Ts own) (hK : kK E s) (hG : kG A sz E) (hP : va_P E.1 vwCl (kW E M) H) (hS : va_S A H0 H locs) (hin : ∀ w ∈ wsX30, w ∈ Ts) {index : Nat} (hlink : (Cond.fieldLink own index "HemSuffixesLaw$Rows" "nodes" "I").before args s = true) (hdg : decode cc pc = .ok (.putfield index, 3)) {x v : Int} (hc : 11 ≤ x ∧ x < kn E ∧ M x (-2) = 4)
    (kk : ∀ (H1 : Heap) (locs1 : List Loc), va_P E.1 vwCl (kW E (kU M x 5 v)) H1 → va_S A H0 H1 locs1 → W p l e R s m args below meth c H1 locs1 cells slots Q (F0 m (pc + 3) ls rest)) : W p l e R s m args below meth c H locs cells slots Q (F0 m pc ls (.int (zI v) :: .ref (E.2.2 x) :: rest)) := by
  refine va_put (ty := .int) (C := RX3) (T := TX3) (N := 10) (ci := 3) S.1 S.2.1 S.2.2.2.2 hin tyX3 tyX3_ok nmX3 S.2.2.2.1 hK.1 hP (hG.D M) hS x.toNat (by rw [kW_get E M (by omega), kC_Rows hc.1 hc.2.2]) rfl 5 (by decide) hlink (fun y hy => hy) rfl rfl rfl rfl (Nat.le_of_ble_eq_true rfl) hdg (fun H1 locs1 h1 _ h3 => kk H1 locs1 ?_ h3)
  rw [kW_set (M' := kU M x 5 v) (by omega) (by rw [kC_Rows hc.1 (by rw [kU_place (by decide)]; exact hc.2.2), kU_same, kU_place (by decide), kU_place (by decide), kU_place (by decide), kU_place (by decide), kU_place (by decide), kU_place (by decide), kU_place (by decide), kU_place (by decide), kU_place (by decide)]; rfl) (fun k hk i => kU_cell hk)] at h1
  exact h1
/-- a row into a field of Sim -/
theorem k_putsim {A : Nat → Prop} {sz : Nat} {H0 : Heap} (S : CallFix p m c cc nL s args Ts own) (hK : kK E s) (hG : kG A sz E) (hP : va_P E.1 vwCl (kW E M) H) (hS : va_S A H0 H locs) (hin : ∀ w ∈ wsX40, w ∈ Ts) (k : Nat) (hk : k < 2) {index : Nat} (hlink : (Cond.fieldLink own index "HemSuffixesLaw$Sim" (TX4 k).2.1 (TX4 k).2.2.1).before args s = true) (hdg : decode cc pc = .ok (.putfield index, 3)) {x : Int} {v : Nat} (hc : 11 ≤ x ∧ x < kn E ∧ M x (-2) = 3)
    (kk : ∀ (H1 : Heap) (locs1 : List Loc), va_P E.1 vwCl (kW E (kU M x (k : Int) (v : Int))) H1 → va_S A H0 H1 locs1 → W p l e R s m args below meth c H1 locs1 cells slots Q (F0 m (pc + 3) ls rest)) : W p l e R s m args below meth c H locs cells slots Q (F0 m pc ls (.ref v :: .ref (E.2.2 x) :: rest)) := by
  match k, hk, hlink, kk with
  | 0, _, hlink, kk =>
    refine va_put (v := .ref v) (ty := .array (.array .int)) (C := RX4) (T := TX4) (N := 2) (ci := 4) S.1 S.2.1 S.2.2.2.2 hin tyX4 tyX4_ok nmX4 S.2.2.2.1 hK.1 hP (hG.D M) hS x.toNat (by rw [kW_get E M (by omega), kC_Sim hc.1 hc.2.2]) rfl 0 (by decide) hlink (fun y hy => hy) rfl rfl rfl rfl (Nat.le_of_ble_eq_true rfl) hdg (fun H1 locs1 h1 _ h3 => kk H1 locs1 ?_ h3)
    rw [kW_set (M' := kU M x 0 (v : Int)) (by omega) (by rw [kC_Sim hc.1 (by rw [kU_place (by decide)]; exact hc.2.2), kU_same, kU_place (by decide), kRf_nat]; rfl) (fun k hk i => kU_cell hk)] at h1
    exact h1
  | 1, _, hlink, kk =>
    refine va_put (v := .ref v) (ty := .array .int) (C := RX4) (T := TX4) (N := 2) (ci := 4) S.1 S.2.1 S.2.2.2.2 hin tyX4 tyX4_ok nmX4 S.2.2.2.1 hK.1 hP (hG.D M) hS x.toNat (by rw [kW_get E M (by omega), kC_Sim hc.1 hc.2.2]) rfl 1 (by decide) hlink (fun y hy => hy) rfl rfl rfl rfl (Nat.le_of_ble_eq_true rfl) hdg (fun H1 locs1 h1 _ h3 => kk H1 locs1 ?_ h3)
    rw [kW_set (M' := kU M x 1 (v : Int)) (by omega) (by rw [kC_Sim hc.1 (by rw [kU_place (by decide)]; exact hc.2.2), kU_same, kU_place (by decide), kRf_nat]; rfl) (fun k hk i => kU_cell hk)] at h1
    exact h1
/-! arrays -/
theorem k_ald (S : CallFix p m c cc nL s args Ts own) (hK : kK E s) (hP : va_P E.1 vwCl (kW E M) H) {x i : Int} (n : Int) (hc : kArr E M x n) (hi : 0 ≤ i ∧ i < n) (hdg : decode cc pc = .ok (.iaload, 1))
    (kk : W p l e R s m args below meth c H locs cells slots Q (F0 m (pc + 1) ls (.int (zI (M x i)) :: rest))) : W p l e R s m args below meth c H locs cells slots Q (F0 m pc ls (.int (zI i) :: .ref (E.2.2 x) :: rest)) := by
  have hr := kArr_rng hc hK.2.2.2
  refine va_iald S.1 S.2.1 hK.1 hP x.toNat 0 (by rw [kW_get E M (by omega), kC_A hc]) rfl (zI_in (by omega) (by omega)) hdg ?_
  rw [zI_nat (by omega), show ((i.toNat : Nat) : Int) = i by omega]
  exact kk
theorem k_astG {A : Nat → Prop} {sz : Nat} {H0 : Heap} (S : CallFix p m c cc nL s args Ts own) (hK : kK E s) (hG : kG A sz E) (hP : va_P E.1 vwCl (kW E M) H) (hS : va_S A H0 H locs) {x i v : Int} (n : Int) (hc : kArr E M x n) (hi : 0 ≤ i ∧ i < n) (hdg : decode cc pc = .ok (.iastore, 1))
    (kk : ∀ (H1 : Heap) (locs1 : List Loc), va_P E.1 vwCl (kW E (kU M x i v)) H1 → va_S A H0 H1 locs1 → W p l e R s m args below meth c H1 locs1 cells slots Q (F0 m (pc + 1) ls rest)) : W p l e R s m args below meth c H locs cells slots Q (F0 m pc ls (.int (zI v) :: .int (zI i) :: .ref (E.2.2 x) :: rest)) := by
  have hr := kArr_rng hc hK.2.2.2
  refine va_iast S.1 S.2.1 hK.1 hP (hG.D M) hS x.toNat 0 (by rw [kW_get E M (by omega), kC_A hc]) rfl (zI_in (by omega) (by omega)) hdg (fun H1 locs1 h1 _ h3 => kk H1 locs1 ?_ h3)
  have hc2 : kArr E (kU M x i v) x n := by
    unfold kArr at hc ⊢
    rw [kU_place (by omega), kU_place (by omega)]
    exact hc
  rw [kW_set (M' := kU M x i v) (by omega) ?_ (fun k hk i => kU_cell hk)] at h1
  · exact h1
  · rw [kC_A hc2, zI_nat (by omega)]
    congr 4
    funext j
    unfold upd
    split
    · rename_i h
      rw [h, show ((i.toNat : Nat) : Int) = i by omega, kU_same]
    · rw [kU_place (by omega)]
theorem k_ast (S : CallFix p m c cc nL s args Ts own) (hK : kK E s) (hE : kInj E) {sz : Nat} {H0 : Heap} (hP : va_P E.1 vwCl (kW E M) H) (hS : va_S (kA E sz) H0 H locs) {x i v : Int} (n : Int) (hc : kArr E M x n) (hi : 0 ≤ i ∧ i < n) (hdg : decode cc pc = .ok (.iastore, 1))
    (kk : ∀ (H1 : Heap) (locs1 : List Loc), va_P E.1 vwCl (kW E (kU M x i v)) H1 → va_S (kA E sz) H0 H1 locs1 → W p l e R s m args below meth c H1 locs1 cells slots Q (F0 m (pc + 1) ls rest)) : W p l e R s m args below meth c H locs cells slots Q (F0 m pc ls (.int (zI v) :: .int (zI i) :: .ref (E.2.2 x) :: rest)) := k_astG S hK (kG.rf hE sz) hP hS n hc hi hdg kk
theorem k_alen (S : CallFix p m c cc nL s args Ts own) (hK : kK E s) (hP : va_P E.1 vwCl (kW E M) H) {x : Int} (n : Int) (hc : kArr E M x n) (hdg : decode cc pc = .ok (.arraylength, 1))
    (kk : W p l e R s m args below meth c H locs cells slots Q (F0 m (pc + 1) ls (.int (zI n) :: rest))) : W p l e R s m args below meth c H locs cells slots Q (F0 m pc ls (.ref (E.2.2 x) :: rest)) := by
  have hr := kArr_rng hc hK.2.2.2
  refine va_alen (v := zI n) S.1 S.2.1 hK.1 hP x.toNat 0 (by rw [kW_get E M (by omega), kC_A hc]) rfl ?_ hdg kk
  rw [zI, show n = ((n.toNat : Nat) : Int) by omega]
  exact (Int32.ofInt_eq_ofNat).symm
/-- rows of truth values -/
def kArZ (E : kE) (M : kM) (c len : Int) : Prop := 11 ≤ c ∧ c < kn E ∧ M c (-2) = 1 ∧ M c (-1) = len ∧ 0 ≤ len ∧ len ≤ 100000
theorem k_zald (S : CallFix p m c cc nL s args Ts own) (hK : kK E s) (hP : va_P E.1 vwCl (kW E M) H) {x i : Int} (n : Int) (hc : kArZ E M x n) (hi : 0 ≤ i ∧ i < n) (hdg : decode cc pc = .ok (.baload, 1))
    (kk : W p l e R s m args below meth c H locs cells slots Q (F0 m (pc + 1) ls (.int (zI (M x i)) :: rest))) : W p l e R s m args below meth c H locs cells slots Q (F0 m pc ls (.int (zI i) :: .ref (E.2.2 x) :: rest)) := by
  obtain ⟨h1, h2, h3, h4, h5, h6⟩ := hc
  refine va_zald S.1 S.2.1 hK.1 hP x.toNat 2 (by rw [kW_get E M (by omega), kC_Z h1 h3]) rfl (zI_in (by omega) (by omega)) hdg ?_
  rw [zI_nat (by omega), show ((i.toNat : Nat) : Int) = i by omega]
  exact kk
theorem k_zast {A : Nat → Prop} {sz : Nat} {H0 : Heap} (S : CallFix p m c cc nL s args Ts own) (hK : kK E s) (hG : kG A sz E) (hP : va_P E.1 vwCl (kW E M) H) (hS : va_S A H0 H locs) {x i v : Int} (n : Int) (hc : kArZ E M x n) (hi : 0 ≤ i ∧ i < n) (hv : v = 0 ∨ v = 1) (hdg : decode cc pc = .ok (.bastore, 1))
    (kk : ∀ (H1 : Heap) (locs1 : List Loc), va_P E.1 vwCl (kW E (kU M x i v)) H1 → va_S A H0 H1 locs1 → W p l e R s m args below meth c H1 locs1 cells slots Q (F0 m (pc + 1) ls rest)) : W p l e R s m args below meth c H locs cells slots Q (F0 m pc ls (.int (zI v) :: .int (zI i) :: .ref (E.2.2 x) :: rest)) := by
  obtain ⟨h1, h2, h3, h4, h5, h6⟩ := hc
  refine va_zast S.1 S.2.1 hK.1 hP (hG.D M) hS x.toNat 2 (by rw [kW_get E M (by omega), kC_Z h1 h3]) rfl (zI_in (by omega) (by omega)) hdg (fun H1 locs1 g1 _ g3 => kk H1 locs1 ?_ g3)
  have hz : vp_nar .boolean (zI v) = zI v := by rcases hv with rfl | rfl <;> decide
  rw [hz, kW_set (M' := kU M x i v) (by omega) ?_ (fun k hk i => kU_cell hk)] at g1
  · exact g1
  · rw [kC_Z h1 (by rw [kU_place (by omega)]; exact h3), kU_place (by omega), zI_nat (by omega)]
    congr 4
    funext j
    unfold upd
    split
    · rename_i h
      rw [h, show ((i.toNat : Nat) : Int) = i by omega, kU_same]
    · rw [kU_place (by omega)]
/-- rows of rows -/
def kArG (E : kE) (M : kM) (c len : Int) : Prop := 11 ≤ c ∧ c < kn E ∧ M c (-2) = 2 ∧ M c (-1) = len ∧ 0 ≤ len ∧ len ≤ 100000
theorem k_aald (S : CallFix p m c cc nL s args Ts own) (hK : kK E s) (hP : va_P E.1 vwCl (kW E M) H) {x i : Int} (n : Int) (hc : kArG E M x n) (hi : 0 ≤ i ∧ i < n) {a : Nat} (ha : M x i = (a : Int)) (hdg : decode cc pc = .ok (.aaload, 1))
    (kk : W p l e R s m args below meth c H locs cells slots Q (F0 m (pc + 1) ls (.ref a :: rest))) : W p l e R s m args below meth c H locs cells slots Q (F0 m pc ls (.int (zI i) :: .ref (E.2.2 x) :: rest)) := by
  obtain ⟨h1, h2, h3, h4, h5, h6⟩ := hc
  have hlt : (zI i).toNatClampNeg < (M x (-1)).toNat := by rw [zI_nat (by omega)]; omega
  have hin : vp_in (zI i) (M x (-1)).toNat := zI_in (by omega) (by omega)
  have ha2 : (kW E M)[x.toNat]? = some (E.2.2 x, .inl (kaG E, (M x (-1)).toNat, .inr (.inr (.inr (.inr (fun j => kOr (M x (j : Int)))))))) := by rw [kW_get E M (by omega), kC_G h1 h3]
  refine W.aald (v := .ref a) (ty := .array .int) S.1 S.2.1 (hP x.toNat _ ha2) ((hK.1.2 1 (kaG E, .array .int) rfl).1 (M x (-1)).toNat (fun j => va_rf (kOr (M x (j : Int))))) rfl (fun q => by cases q) (by show ¬ (zI i < 0 ∨ (arrV _ _ _).slots.size ≤ _); rw [arrV_size]; exact hin) ?_ rfl rfl hdg kk
  show (arrV _ _ _).slots[_]? = _
  rw [arrV_read _ _ hlt, zI_nat (by omega)]
  show some (va_rf (kOr (M x ((i.toNat : Nat) : Int)))) = _
  rw [show ((i.toNat : Nat) : Int) = i by omega, ha, kOr_nat]
  rfl
theorem k_aast {A : Nat → Prop} {sz : Nat} {H0 : Heap} (S : CallFix p m c cc nL s args Ts own) (hK : kK E s) (hG : kG A sz E) (hP : va_P E.1 vwCl (kW E M) H) (hS : va_S A H0 H locs) {x i y : Int} (n k : Int) (hc : kArG E M x n) (hi : 0 ≤ i ∧ i < n) (hy : kArr E M y k) (hdg : decode cc pc = .ok (.aastore, 1))
    (kk : ∀ (H1 : Heap) (locs1 : List Loc), va_P E.1 vwCl (kW E (kU M x i (E.2.2 y : Int))) H1 → va_S A H0 H1 locs1 → W p l e R s m args below meth c H1 locs1 cells slots Q (F0 m (pc + 1) ls rest)) : W p l e R s m args below meth c H locs cells slots Q (F0 m pc ls (.ref (E.2.2 y) :: .int (zI i) :: .ref (E.2.2 x) :: rest)) := by
  obtain ⟨h1, h2, h3, h4, h5, h6⟩ := hc
  have hr := kArr_rng hy hK.2.2.2
  have hin : vp_in (zI i) (M x (-1)).toNat := zI_in (by omega) (by omega)
  have hlt : (zI i).toNatClampNeg < (M x (-1)).toNat := by rw [zI_nat (by omega)]; omega
  have ha2 : (kW E M)[x.toNat]? = some (E.2.2 x, .inl (kaG E, (M x (-1)).toNat, .inr (.inr (.inr (.inr (fun j => kOr (M x (j : Int)))))))) := by rw [kW_get E M (by omega), kC_G h1 h3]
  have hy2 : (kW E M)[y.toNat]? = some (E.2.2 y, .inl (kaI E, k.toNat, .inl (fun j => zI (M y (j : Int))))) := by rw [kW_get E M (by omega), kC_A hy]
  obtain ⟨comp, cA, kA, g0, g1, g2, g3, g4⟩ := arrayOver_specB hK.2.2.1
  have e1 : cA = kaG E := Option.some.inj (g4.symm.trans (hK.1.2 1 (kaG E, .array .int) rfl).2)
  have e2 : comp = kaI E := Option.some.inj (g0.symm.trans (hK.1.2 0 (kaI E, .int) rfl).2)
  obtain ⟨kc, hkc, -⟩ := Vm.findClass_spec g0
  have hself : s.vm.assignable (kaI E) comp = true := by
    rw [e2]
    unfold Vm.assignable
    unfold Vm.assignableAux
    simp
  refine W.aast (comp := comp) (t := .array .int) S.1 S.2.1 (hP x.toNat _ ha2) (fun q h => by cases h) (fun h => by cases h) (by rw [← e1] ; exact g2) g3 rfl hkc ⟨fun q => hin (Or.inl q), by show _ < (arrV _ _ _).slots.size; rw [arrV_size]; exact hlt⟩ (hP y.toNat _ hy2) (fun q h => by cases h) (by rw [e2] at hkc; exact hkc) hself rfl rfl hdg (fun H1 e z oq => ?_)
  refine kk H1 _ ?_ (hS.put z oq ((hG.D M).2 x.toNat _ ha2))
  have hset : kC E (kU M x i (E.2.2 y : Int)) x = .inl (kaG E, (M x (-1)).toNat, .inr (.inr (.inr (.inr (fun j => kOr (kU M x i (E.2.2 y : Int) x (j : Int))))))) := by
    rw [kC_G h1 (by rw [kU_place (by omega)]; exact h3), kU_place (by omega)]
  have hP2 := hP.set (hG.D M) ha2 (e := kC E (kU M x i (E.2.2 y : Int)) x) ?_ oq
  · rw [kW_set (M' := kU M x i (E.2.2 y : Int)) (by omega) rfl (fun k hk i => kU_cell hk)] at hP2
    exact hP2
  · rw [hset]
    show H1[E.2.2 x]? = some (vp_cell _ _)
    rw [e, vp_cell_q, vp_cell_q, arrV_store]
    congr 2
    funext j
    unfold updV
    rw [zI_nat (by omega)]
    split
    · rename_i h
      rw [h, show ((i.toNat : Nat) : Int) = i by omega, kU_same, kOr_nat]
      rfl
    · rw [kU_place (by omega)]
end KY
