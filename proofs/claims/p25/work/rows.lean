section
-- ===== PART A: goes FIRST, ahead of the names: the tables' words, and 'selects' of the private methods out of them =====
/-- a private method of a class that the tables say can be made, by its rows of tables_1 -/
def lw_okq (q : MethodName × Nat) : Prop := (q.1.cls ≠ "java/lang/invoke/MethodHandle" ∧ q.1.cls ≠ "java/lang/invoke/VarHandle") ∧ Cond.instantiable q.1.cls q.2 ∈ tables_1 ∧ Cond.privateMethod q.1 ∈ tables_1 ∧ Cond.instanceMethod q.1 ∈ tables_1
theorem lw_p0 : lw_okq (⟨"HemSuffixes", "hemOf", "(I)LHemSuffixes$Hem;"⟩, 3) := ⟨⟨by decide +kernel, by decide +kernel⟩, List.mem_of_getElem? (i := 14) (by decide +kernel), List.mem_of_getElem? (i := 68) (by decide +kernel), List.mem_of_getElem? (i := 69) (by decide +kernel)⟩
theorem lw_p1 : lw_okq (⟨"java/lang/Throwable", "fillInStackTrace", "(I)Ljava/lang/Throwable;"⟩, 6) := ⟨⟨by decide +kernel, by decide +kernel⟩, List.mem_of_getElem? (i := 110) (by decide +kernel), List.mem_of_getElem? (i := 108) (by decide +kernel), List.mem_of_getElem? (i := 109) (by decide +kernel)⟩
theorem lw_p2 : lw_okq (⟨"HemSuffixes$Hem", "rowsFirstAt", "(I)I"⟩, 2) := ⟨⟨by decide +kernel, by decide +kernel⟩, List.mem_of_getElem? (i := 22) (by decide +kernel), List.mem_of_getElem? (i := 156) (by decide +kernel), List.mem_of_getElem? (i := 157) (by decide +kernel)⟩
theorem lw_p3 : lw_okq (⟨"HemSuffixes", "seamPlace", "()I"⟩, 3) := ⟨⟨by decide +kernel, by decide +kernel⟩, List.mem_of_getElem? (i := 14) (by decide +kernel), List.mem_of_getElem? (i := 176) (by decide +kernel), List.mem_of_getElem? (i := 177) (by decide +kernel)⟩
theorem lw_p4 : lw_okq (⟨"HemSuffixes", "seamLengthFrom", "(I)I"⟩, 3) := ⟨⟨by decide +kernel, by decide +kernel⟩, List.mem_of_getElem? (i := 14) (by decide +kernel), List.mem_of_getElem? (i := 181) (by decide +kernel), List.mem_of_getElem? (i := 182) (by decide +kernel)⟩
theorem lw_p5 : lw_okq (⟨"HemSuffixes$Stitches", "standsAt", "(ILHemSuffixes$Stitches;II)Z"⟩, 2) := ⟨⟨by decide +kernel, by decide +kernel⟩, List.mem_of_getElem? (i := 28) (by decide +kernel), List.mem_of_getElem? (i := 233) (by decide +kernel), List.mem_of_getElem? (i := 234) (by decide +kernel)⟩
theorem lw_p6 : lw_okq (⟨"HemSuffixes$Stitches", "turnsToLess", "(II)Z"⟩, 2) := ⟨⟨by decide +kernel, by decide +kernel⟩, List.mem_of_getElem? (i := 28) (by decide +kernel), List.mem_of_getElem? (i := 275) (by decide +kernel), List.mem_of_getElem? (i := 276) (by decide +kernel)⟩
theorem lw_p7 : lw_okq (⟨"HemSuffixes$Stitches", "allAround", "(I)I"⟩, 2) := ⟨⟨by decide +kernel, by decide +kernel⟩, List.mem_of_getElem? (i := 28) (by decide +kernel), List.mem_of_getElem? (i := 279) (by decide +kernel), List.mem_of_getElem? (i := 280) (by decide +kernel)⟩
theorem lw_p8 : lw_okq (⟨"HemSuffixes", "hemMixed", "(JI)J"⟩, 3) := ⟨⟨by decide +kernel, by decide +kernel⟩, List.mem_of_getElem? (i := 14) (by decide +kernel), List.mem_of_getElem? (i := 309) (by decide +kernel), List.mem_of_getElem? (i := 310) (by decide +kernel)⟩
theorem lw_p9 : lw_okq (⟨"HemSuffixesLaw$Rows", "grow", "(I[I)V"⟩, 10) := ⟨⟨by decide +kernel, by decide +kernel⟩, List.mem_of_getElem? (i := 325) (by decide +kernel), List.mem_of_getElem? (i := 333) (by decide +kernel), List.mem_of_getElem? (i := 334) (by decide +kernel)⟩
theorem lw_p10 : lw_okq (⟨"HemSuffixesLaw$Rows", "walk", "(II)V"⟩, 10) := ⟨⟨by decide +kernel, by decide +kernel⟩, List.mem_of_getElem? (i := 325) (by decide +kernel), List.mem_of_getElem? (i := 337) (by decide +kernel), List.mem_of_getElem? (i := 338) (by decide +kernel)⟩
theorem lw_p11 : lw_okq (⟨"HemSuffixes$Hem", "orderEnds", "()V"⟩, 2) := ⟨⟨by decide +kernel, by decide +kernel⟩, List.mem_of_getElem? (i := 22) (by decide +kernel), List.mem_of_getElem? (i := 469) (by decide +kernel), List.mem_of_getElem? (i := 470) (by decide +kernel)⟩
theorem lw_p12 : lw_okq (⟨"HemSuffixes$Hem", "putInOrder", "(II)V"⟩, 2) := ⟨⟨by decide +kernel, by decide +kernel⟩, List.mem_of_getElem? (i := 22) (by decide +kernel), List.mem_of_getElem? (i := 473) (by decide +kernel), List.mem_of_getElem? (i := 474) (by decide +kernel)⟩
def lw_privs_1 : List (MethodName × Nat) := [(⟨"HemSuffixes", "hemOf", "(I)LHemSuffixes$Hem;"⟩, 3), (⟨"java/lang/Throwable", "fillInStackTrace", "(I)Ljava/lang/Throwable;"⟩, 6), (⟨"HemSuffixes$Hem", "rowsFirstAt", "(I)I"⟩, 2), (⟨"HemSuffixes", "seamPlace", "()I"⟩, 3), (⟨"HemSuffixes", "seamLengthFrom", "(I)I"⟩, 3), (⟨"HemSuffixes$Stitches", "standsAt", "(ILHemSuffixes$Stitches;II)Z"⟩, 2), (⟨"HemSuffixes$Stitches", "turnsToLess", "(II)Z"⟩, 2), (⟨"HemSuffixes$Stitches", "allAround", "(I)I"⟩, 2), (⟨"HemSuffixes", "hemMixed", "(JI)J"⟩, 3), (⟨"HemSuffixesLaw$Rows", "grow", "(I[I)V"⟩, 10), (⟨"HemSuffixesLaw$Rows", "walk", "(II)V"⟩, 10), (⟨"HemSuffixes$Hem", "orderEnds", "()V"⟩, 2), (⟨"HemSuffixes$Hem", "putInOrder", "(II)V"⟩, 2)]
theorem lw_r1 : ∀ q ∈ lw_privs_1, lw_okq q := List.forall_mem_cons.mpr ⟨lw_p0, List.forall_mem_cons.mpr ⟨lw_p1, List.forall_mem_cons.mpr ⟨lw_p2, List.forall_mem_cons.mpr ⟨lw_p3, List.forall_mem_cons.mpr ⟨lw_p4, List.forall_mem_cons.mpr ⟨lw_p5, List.forall_mem_cons.mpr ⟨lw_p6, List.forall_mem_cons.mpr ⟨lw_p7, List.forall_mem_cons.mpr ⟨lw_p8, List.forall_mem_cons.mpr ⟨lw_p9, List.forall_mem_cons.mpr ⟨lw_p10, List.forall_mem_cons.mpr ⟨lw_p11, List.forall_mem_cons.mpr ⟨lw_p12, fun _ h => absurd h List.not_mem_nil⟩⟩⟩⟩⟩⟩⟩⟩⟩⟩⟩⟩⟩
def lw_privs : List (MethodName × Nat) := lw_privs_1
def lw_tbl : List Cond := k2_sels lw_privs ++ tables_1
theorem lw_privs_ok : ∀ q ∈ lw_privs, lw_okq q := lw_r1
/-- the streams that the claim lets the run draw from -/
abbrev lw_cs : List Choice := [Jvm.Choice.named "NaN.bits"]
theorem lw_bits : nanBits ∈ lw_cs := by first | decide | exact List.mem_cons_self | simp [lw_cs, nanBits]
end
section
/-! ===== BEGIN words of one list among another's, by their places ===== -/
theorem goodIn_r {big : List Cond} (ws : List Cond) (ps : List Nat) (hp : ws = ps.filterMap (fun i => big[i]?)) (h : ws.all goodWord = true) : GoodIn big ws := by
  intro w hw
  have h1 := List.all_eq_true.mp h w hw
  rw [hp] at hw
  obtain ⟨i, -, hi⟩ := List.mem_filterMap.mp hw
  have hm : w ∈ big := by first | exact List.mem_of_getElem? hi | exact List.getElem?_mem hi
  exact ⟨hm, good_of_word h1⟩
theorem goodIn_app {big a b : List Cond} (ha : GoodIn big a) (hb : GoodIn big b) : GoodIn big (a ++ b) := fun w h => (List.mem_append.mp h).elim (ha w) (hb w)
theorem goodIn_ca {big a b : List Cond} {c : Cond} (ha : GoodIn big (c :: a)) (hb : GoodIn big b) : GoodIn big (c :: (a ++ b)) := fun w h => (List.mem_cons.mp h).elim (fun e => ha w (List.mem_cons.mpr (Or.inl e))) (fun h => (List.mem_append.mp h).elim (fun h => ha w (List.mem_cons.mpr (Or.inr h))) (hb w))
theorem goodIn_sub {big ws : List Cond} (hm : ∀ w ∈ ws, w ∈ big) (h : ws.all goodWord = true) : GoodIn big ws := fun w hw => ⟨hm w hw, good_of_word (List.all_eq_true.mp h w hw)⟩
/-! ===== END ===== -/

/-! ===== BEGIN new T[n][m]: the outer array a place, the inner ones among the pooled ===== -/
/-- the row va_mna of the printed names asks for these words, which no text of the kit has: written here -/
def va_AOA (ty : FieldType) (U : State) : Prop := (Cond.arrayOver (.array ty)).before #[] U = true
theorem va_AOA.of {ty : FieldType} {A : Array Value} {U : State} (h : (Cond.arrayOver (.array ty)).before A U = true) : va_AOA ty U := h
theorem va_AOA.use {ty : FieldType} {A : Array Value} {U : State} (h : va_AOA ty U) : (Cond.arrayOver (.array ty)).before A U = true := h
/-- f, but v at every address of l -/
def vr_up {α : Type} (f : Nat → α) (l : List Nat) (v : α) : Nat → α := fun a => if a ∈ l then v else f a
theorem vr_up_in {α : Type} {f : Nat → α} {l : List Nat} {v : α} {a : Nat} (h : a ∈ l) : vr_up f l v a = v := if_pos h
theorem vr_up_ne {α : Type} {f : Nat → α} {l : List Nat} {v : α} {a : Nat} (h : a ∉ l) : vr_up f l v a = f a := if_neg h
theorem vr_rows {L l : List Nat} {f : Nat → va_E} {e : va_E} (h : ∀ a, a ∈ l → a ∉ L) : va_pl L f ++ l.map (fun a => (a, e)) = va_pl (L ++ l) (vr_up f l e) := by
  unfold va_pl
  rw [List.map_append]
  congr 1
  · apply List.map_congr_left
    intro a ha
    rw [vr_up_ne (fun q => h a q ha)]
  · apply List.map_congr_left
    intro a ha
    rw [vr_up_in ha]
theorem vr_lay {X rows : va_W} {x : Nat × va_E} {pl : va_W} {D : va_G} {cl : List vw_C} {H : Heap} (hP : va_P D cl (((X ++ pl) ++ [x]) ++ rows) H) : va_P D cl ((X ++ [x]) ++ (pl ++ rows)) H := by
  rw [List.append_assoc (X ++ pl)] at hP
  have h := va_P.swap hP
  rw [← List.append_assoc X] at h
  have h2 := va_P.swap h
  rw [List.append_assoc (X ++ [x])] at h2
  exact h2
theorem vr_layD {X rows : va_W} {x : Nat × va_E} {pl : va_W} {A : Nat → Prop} (hD : va_D A (((X ++ pl) ++ [x]) ++ rows)) : va_D A ((X ++ [x]) ++ (pl ++ rows)) := by
  rw [List.append_assoc (X ++ pl)] at hD
  have h := va_D.swap hD
  rw [← List.append_assoc X] at h
  have h2 := va_D.swap h
  rw [List.append_assoc (X ++ [x])] at h2
  exact h2
theorem vr_outer (c : ClassId) (N h0 : Nat) : ∀ i : Nat, Jvm.Free.Multi.outerC c N h0 i = arrV c N (fun j => va_rf (if j < i then some (h0 + 1 + j) else none))
  | 0 => by
    show ({ cls := c, slots := Array.replicate N .null, vm := .none } : Cell) = _
    rw [arrV_new]
    refine congrArg (arrV c N) (funext fun j => ?_)
    simp [va_rf]
  | i + 1 => by
    show (Jvm.Free.Multi.outerC c N h0 i).setSlot i (.ref (h0 + 1 + i)) = _
    rw [vr_outer c N h0 i, arrV_store]
    refine congrArg (arrV c N) (funext fun j => ?_)
    by_cases e : j = i
    · subst e
      simp [updV, va_rf]
    · by_cases h : j < i
      · simp [updV, e, h, Nat.lt_succ_of_lt h]
      · simp [updV, e, h, show ¬ j < i + 1 by omega]
section VGM
variable {p : Program} {l : Launch} {e : Env} {R : Room} {s : State} {m : MethodId} {args : Array Value} {below : List Frame} {meth : Method} {c : Code} {H : Heap} {locs : List Loc} {cells slots : Nat} {Q : State → Prop}
variable {cc : ByteArray} {pc : Nat} {ls : Array Slot} {rest : List Value} {D : va_G} {cl : List vw_C} {A : Nat → Prop} {a : Nat} {tys : List (ClassId × FieldType)} {ws : va_W} {H0 : Heap}
theorem va_mna {X : va_W} {L : List Nat} {f : Nat → va_E} {cc : ByteArray} (hexec : p.tables.exec = Jvm.exec) (hb : c.code = cc) {own : String} {index : Nat} {ty : FieldType} {cy : ClassId} (hown : s.vm.findClass own = some m.cls) (hclink : (Cond.classLink own index ("[" ++ (FieldType.array ty).toString)).before args s = true) (hover : va_AOA ty s) (harr : (Cond.arrayClass ty).before args s = true) (hcy : s.vm.findClass (FieldType.array ty).toString = some cy)
    (hK : va_K D cl tys s) (hP : va_P D cl (X ++ va_pl L f) H) (hD : va_D A (X ++ va_pl L f)) (hS : va_S A H0 H locs) (hA : ∀ q, H0.size ≤ q → A q) {n k : Int32} {N' K' : Nat} {z : vp_A} (hn : ¬ n < 0) (hk : ¬ k < 0) (hN : n.toNatClampNeg = N') (hM : k.toNatClampNeg = K')
    (hb1 : N' * 4 ≤ 536870912) (hb2 : K' * componentBytes ty ≤ 536870912) (hb3 : K' ≤ 536870912) (hdf : fits ty (defaultValue ty) = true) (hdd : (defaultValue ty).isDefault = true) (hcells : cells + (1 + N') ≤ R.cells) (hslots : slots + (N' + N' * K') ≤ R.slots) (hz : ∀ c : ClassId, Jvm.Free.Multi.innerC c K' (defaultValue ty) = vp_cell c z) (hdg : decode cc pc = .ok (.multianewarray index 2, 4))
    (kk : ∀ (q : Nat) (r : Nat → Nat) (cA : ClassId) (H1 : Heap), (∀ i j : Nat, i < N' → j < N' → r i = r j → i = j) → (∀ i : Nat, i < N' → r i ∉ L) → va_K D cl (tys ++ [(cA, .array ty)]) s →
      va_P D cl ((X ++ [(q, .inl (cA, N', .inr (.inr (.inr (.inr (fun i => if i < N' then some (r i) else none))))))]) ++ va_pl (L ++ (List.range N').map r) (vr_up f ((List.range N').map r) (.inl (cy, z)))) H1 → va_D A ((X ++ [(q, .inl (cA, N', .inr (.inr (.inr (.inr (fun i => if i < N' then some (r i) else none))))))]) ++ va_pl (L ++ (List.range N').map r) (vr_up f ((List.range N').map r) (.inl (cy, z)))) → va_S A H0 H1 locs →
      W p l e R s m args below meth c H1 locs (cells + 1 + N') (slots + N' + N' * K') Q (F0 m (pc + 4) ls (.ref q :: rest))) : W p l e R s m args below meth c H locs cells slots Q (F0 m pc ls (.int k :: .int n :: rest)) := by
  subst hN
  subst hM
  intro T hT Xs
  obtain ⟨vm₁, cA, comp, -, fA, fC, hO, -, X', step⟩ := Xs.multianewarray2F hexec hown hclink (va_AOA.use hover) harr (g := F0 m pc ls (.int k :: .int n :: rest)) rfl (by rw [hb]; exact hdg) rfl hn hk hb1 hb2 hb3 hdf hdd hcells hslots
  have ec : some cy = some comp := hcy.symm.trans fC
  cases ec
  generalize hF : Jvm.Free.Multi.fill (T.setVm vm₁) cA cy n.toNatClampNeg k.toNatClampNeg (defaultValue ty) n.toNatClampNeg = F at X' step
  have hTh : (T.setVm vm₁).heap = H := hT
  obtain ⟨f1, f2, -, -⟩ := Jvm.Free.Multi.fill_facts (T.setVm vm₁) cA cy n.toNatClampNeg k.toNatClampNeg (defaultValue ty) n.toNatClampNeg
  rw [hF, hTh] at f1 f2
  have hold : ∀ x : Nat, x < H.size → F.heap[x]? = H[x]? := fun x hx => by
    have := Jvm.Free.Multi.fill_old (T.setVm vm₁) cA cy n.toNatClampNeg k.toNatClampNeg (defaultValue ty) (a := x) (by rw [hTh]; exact hx) n.toNatClampNeg
    rw [hF, hTh] at this
    exact this
  have hrow : ∀ j : Nat, j < n.toNatClampNeg → F.heap[H.size + 1 + j]? = some (vp_cell cy z) := fun j hj => by
    have := Jvm.Free.Multi.fill_inner (T.setVm vm₁) cA cy n.toNatClampNeg k.toNatClampNeg (defaultValue ty) n.toNatClampNeg j hj
    rw [hF, hTh, hz] at this
    exact this
  have hout : Jvm.Free.Multi.outerC cA n.toNatClampNeg H.size n.toNatClampNeg = vp_cell cA (n.toNatClampNeg, .inr (.inr (.inr (.inr (fun i => if i < n.toNatClampNeg then some (H.size + 1 + i) else none))))) := by
    rw [vp_cell_q]
    exact vr_outer cA n.toNatClampNeg H.size n.toNatClampNeg
  rw [hout] at f2
  have hlt : ∀ a, a ∈ L → a < H.size := fun a ha => by
    obtain ⟨k9, hk9⟩ := va_pl_get (X := X) (f := f) ha
    exact (hP k9 _ hk9).lt
  have hnl : ∀ i : Nat, i < n.toNatClampNeg → H.size + 1 + i ∉ L := fun i _ h => by
    have := hlt _ h
    omega
  have hnm : ∀ a, a ∈ (List.range n.toNatClampNeg).map (fun i => H.size + 1 + i) → a ∉ L := fun a ha h => by
    obtain ⟨i, -, rfl⟩ := List.mem_map.mp ha
    have := hlt _ h
    omega
  have hP0 : va_P D cl (X ++ va_pl L f) F.heap := hP.kept (fun k9 x hx => hold x.1 ((hP k9 x hx).lt))
  have hP1 : va_P D cl ((X ++ va_pl L f) ++ [(H.size, .inl (cA, n.toNatClampNeg, .inr (.inr (.inr (.inr (fun i => if i < n.toNatClampNeg then some (H.size + 1 + i) else none))))))]) F.heap := hP0.app (fun k9 x hx => by
    have h0 : k9 < 1 := (List.getElem?_eq_some_iff.mp hx).1
    rw [show k9 = 0 by omega] at hx
    cases hx
    exact f2)
  have hP2 : va_P D cl (((X ++ va_pl L f) ++ [(H.size, .inl (cA, n.toNatClampNeg, .inr (.inr (.inr (.inr (fun i => if i < n.toNatClampNeg then some (H.size + 1 + i) else none))))))]) ++ ((List.range n.toNatClampNeg).map (fun i => H.size + 1 + i)).map (fun a => (a, .inl (cy, z)))) F.heap := hP1.app (fun k9 x hx => by
    obtain ⟨a, ha, rfl⟩ := List.mem_map.mp (List.mem_of_getElem? hx)
    obtain ⟨i, hi, rfl⟩ := List.mem_map.mp ha
    exact hrow i (List.mem_range.mp hi))
  have hD2 : va_D A (((X ++ va_pl L f) ++ [(H.size, .inl (cA, n.toNatClampNeg, .inr (.inr (.inr (.inr (fun i => if i < n.toNatClampNeg then some (H.size + 1 + i) else none))))))]) ++ ((List.range n.toNatClampNeg).map (fun i => H.size + 1 + i)).map (fun a => (a, .inl (cy, z)))) := by
    have hD1 := hD.push (e := .inl (cA, n.toNatClampNeg, .inr (.inr (.inr (.inr (fun i => if i < n.toNatClampNeg then some (H.size + 1 + i) else none)))))) hP rfl (hA _ hS.1)
    generalize hW1 : (X ++ va_pl L f) ++ [(H.size, .inl (cA, n.toNatClampNeg, .inr (.inr (.inr (.inr (fun i => if i < n.toNatClampNeg then some (H.size + 1 + i) else none))))))] = W1 at hD1 hP1 ⊢
    have hle : ∀ (k9 : Nat) (x : Nat × va_E), W1[k9]? = some x → x.1 ≤ H.size := fun k9 x hx => by
      rw [← hW1] at hx
      by_cases hl : k9 < (X ++ va_pl L f).length
      · rw [List.getElem?_append_left hl] at hx
        exact Nat.le_of_lt ((hP k9 x hx).lt)
      · rw [List.getElem?_append_right (by omega)] at hx
        have h0 : k9 - (X ++ va_pl L f).length < 1 := (List.getElem?_eq_some_iff.mp hx).1
        rw [show k9 - (X ++ va_pl L f).length = 0 by omega] at hx
        cases hx
        exact Nat.le_refl _
    have hr : ∀ (k9 : Nat) (x : Nat × va_E), (((List.range n.toNatClampNeg).map (fun i => H.size + 1 + i)).map (fun a => ((a, .inl (cy, z)) : Nat × va_E)))[k9]? = some x → x.1 = H.size + 1 + k9 := fun k9 x hx => by
      rw [List.getElem?_map, List.getElem?_map] at hx
      by_cases h9 : k9 < n.toNatClampNeg
      · rw [List.getElem?_range h9] at hx
        cases hx
        rfl
      · have hn0 : (List.range n.toNatClampNeg)[k9]? = none := List.getElem?_eq_none (by rw [List.length_range]; omega)
        rw [hn0] at hx
        cases hx
    refine ⟨fun i j x y hi hj hxy => ?_, fun k9 x hx => ?_⟩
    · by_cases h1 : i < W1.length <;> by_cases h2 : j < W1.length
      · rw [List.getElem?_append_left h1] at hi
        rw [List.getElem?_append_left h2] at hj
        exact hD1.1 i j x y hi hj hxy
      · rw [List.getElem?_append_left h1] at hi
        rw [List.getElem?_append_right (by omega)] at hj
        have := hle _ _ hi
        have := hr _ _ hj
        omega
      · rw [List.getElem?_append_right (by omega)] at hi
        rw [List.getElem?_append_left h2] at hj
        have := hle _ _ hj
        have := hr _ _ hi
        omega
      · rw [List.getElem?_append_right (by omega)] at hi hj
        have := hr _ _ hi
        have := hr _ _ hj
        omega
    · by_cases h1 : k9 < W1.length
      · rw [List.getElem?_append_left h1] at hx
        exact hD1.2 k9 x hx
      · rw [List.getElem?_append_right (by omega)] at hx
        have := hr _ _ hx
        exact hA _ (by have := hS.1; omega)
  have hAr : ArrOfT s cA (.array ty) := fun N9 z9 => by
    obtain ⟨-, k9, hk9, cm9, hkk9⟩ := (hO 0 0 0).1
    exact ⟨(fun q hq => by cases hq), k9, hk9, cm9, hkk9⟩
  have hK2 : va_K D cl (tys ++ [(cA, .array ty)]) s := ⟨hK.1, fun k9 x hx => by
    by_cases hl : k9 < tys.length
    · rw [List.getElem?_append_left hl] at hx
      exact hK.2 k9 x hx
    · rw [List.getElem?_append_right (by omega)] at hx
      have h0 : k9 - tys.length < 1 := (List.getElem?_eq_some_iff.mp hx).1
      rw [show k9 - tys.length = 0 by omega] at hx
      cases hx
      exact ⟨hAr, fA⟩⟩
  obtain ⟨t, a1, b1⟩ := kk H.size (fun i => H.size + 1 + i) cA F.heap (fun i j _ _ h => by have h9 : H.size + 1 + i = H.size + 1 + j := h; omega) hnl hK2 (by rw [← vr_rows hnm]; exact vr_lay hP2) (by rw [← vr_rows hnm]; exact vr_layD hD2) ⟨by rw [f1]; have := hS.1; omega, fun x h1 h2 => (hold x (Nat.lt_of_lt_of_le h1 hS.1)).trans (hS.2.1 x h1 h2), hS.2.2⟩ F rfl X'
  refine ⟨t, step t ?_, b1⟩
  have e : T.heap.size = H.size := by rw [hT]
  rw [e]
  exact a1
end VGM
/-! ===== END ===== -/

/-! ===== BEGIN exceptions that leave a method, and their catching by the caller (launches without stack traces) ===== -/
section VXA
/-! The laws vx_back, vx_callV, vx_callS, vx_callSW, vx_throw0, vx_throwS follow proofs of the library, with one case more: JvmDerived/Free/Laws.lean (Back.of_free), Shelf42/LK1.lean (callV, callS), Shelf/KitTraced.lean (throwNew0V, throwNewS). -/
/-- where a method has thrown q: the class by its name, the cell, what was written, the world -/
def vx_T (XC : String → State → State → Prop) (st : State) (q : Addr) (t : State) (mc ms : Nat) (free : Addr → Prop) : Prop :=
  ∃ (E : String) (ce : Cell) (L : List Loc), XC E st t ∧ t.heap[q]? = some ce ∧ ce.vm = .none ∧ st.vm.findClass E = some ce.cls ∧ st.WarmedH t.vm ∧ st.sameButNew ({ t with vm := st.vm } : State) L mc ms ∧ ∀ z ∈ L, free z.base
def vx_Q (Qc : Array Value → State → Outcome → State → Prop) (XC : String → State → State → Prop) (mc ms : Nat) (free : Addr → Prop) : Array Value → State → Outcome → State → Prop := fun a st o t =>
  (Qc a st o t ∧ ∃ L, FrameEnd st o t L mc ms ∧ ∀ q ∈ L, free q.base) ∨ ∃ q, o = .threw q ∧ vx_T XC st q t mc ms free
/-- a callee that returns or throws -/
def vx_Met (l : Launch) (y : MethodName) (ws : List Cond) (rm : Room) (Pc : Array Value → State → Prop) (Qc : Array Value → State → Outcome → State → Prop) (XC : String → State → State → Prop) (mc ms : Nat) (free : Addr → Prop) : Prop :=
  MetFree l y (headSpec ws rm) Pc (fun _ _ _ _ _ => True) (vx_Q Qc XC mc ms free)
def vx_Post (XC : String → State → State → Prop) (mc ms : Nat) (free : Addr → Prop) : Pt → Array Value → Addr → Pt → Prop := fun A a q B =>
  ∃ (g : JFrame) (mk : MethodId) (t : State) (L : List Loc) (E : String) (ce : Cell), B.U.heap = t.heap ∧ B.U.vm = t.vm ∧ XC E (A.U.calling g mk a) t ∧ t.heap[q]? = some ce ∧ ce.vm = .none ∧ A.U.vm.findClass E = some ce.cls ∧ B.locs = A.locs ++ L ∧ (∀ z ∈ L, free z.base) ∧ B.cells = A.cells + mc ∧ B.slots = A.slots + ms
def vx_Back (l : Launch) (R : Room) (p : Program) (e : Env) (below : List Frame) (s : State) (sargs : Array Value) (y : MethodName) (len W9 : Nat)
    (Pre : Pt → Array Value → Prop) (Post : Pt → Array Value → Option Value → Pt → Prop) (PostX : Pt → Array Value → Addr → Pt → Prop) : Prop :=
  ∀ (m : MethodId) (meth : Method) (c : Code) (A : Pt) (g : JFrame) (ig : Instr) (mk : MethodId) (a : Array Value),
    Stand p l e R s m sargs below meth c A.U A.locs A.cells A.slots → g.method = m → g.locals.size = c.maxLocals → decode c.code g.pc = .ok (ig, len) →
    2 * g.monitorRoom + (g.stack.map fun v => v.category).sum ≤ W9 → A.U.methodNamed? y = some mk → Pre A a →
    (∃ (v : Option Value) (B : Pt), Stand p l e R s m sargs below meth c B.U B.locs B.cells B.slots ∧ Post A a v B ∧
      Steps p.tables e below (doInvoke e (A.U.setTop g) [] mk a).1 (B.U.setTop { g with pc := g.pc + len, stack := v.toList ++ g.stack })) ∨
    (∃ (q : Addr) (B : Pt), Stand p l e R s m sargs below meth c B.U B.locs B.cells B.slots ∧ PostX A a q B ∧
      Steps p.tables e below (doInvoke e (A.U.setTop g) [] mk a).1 ((B.U.setTop g).pushFrame (.throwing q)))
section Payer
variable {l : Launch} {R : Room} {p : Program} {e : Env} {below : List Frame} {s : State} {sargs : Array Value} {y : MethodName} {len W9 : Nat}
theorem vx_back {ws : List Cond} {rm : Room} {Pc : Array Value → State → Prop} {Qc : Array Value → State → Outcome → State → Prop} {XC : String → State → State → Prop} {mc ms : Nat} {free : Addr → Prop} {bytes : ByteArray} {maxL : Nat} {ret : Option FieldType}
    (hM : vx_Met l y ws rm Pc Qc XC mc ms free) (hblind : FrameBlind Pc) (hrc : rm.cells = mc) (hrs : rm.slots = ms)
    (hframes : rm.frames + 1 ≤ R.frames) (hlocals : W9 + (maxL + 11) + rm.locals ≤ R.locals)
    (hws : ∀ w ∈ ws, ∀ a' U, s.WarmedH U.vm → w.before a' U = true) (hcode : Cond.code y bytes maxL ret ∈ ws) (hinit : ∀ a' U, s.WarmedH U.vm → (Cond.initialized y.cls).before a' U = true) :
    vx_Back l R p e below s sargs y len W9 (PreOf R mc ms Pc) (PostOf Qc mc ms free) (vx_Post XC mc ms free) := by
  intro m meth c A g ig mk a X hg hsize hdg hW hn hp
  have h1 : (headSpec ws rm).pre.before a A.U = true := atoms_intro fun w hw => hws w hw _ _ X.warmed
  have h2 : (Cond.code y bytes maxL ret).before a A.U = true := hws _ hcode _ _ X.warmed
  have h3 : (Cond.initialized y.cls).before a A.U = true := hinit _ _ X.warmed
  have h4 : A.cells + (headSpec ws rm).room.cells ≤ R.cells := by rw [show (headSpec ws rm).room.cells = mc from hrc]; exact hp.1
  have h5 : A.slots + (headSpec ws rm).room.slots ≤ R.slots := by rw [show (headSpec ws rm).room.slots = ms from hrs]; exact hp.2.1
  have hPc : Pc a (A.U.calling g mk a) := hblind _ _ _ _ hp.2.2
  obtain ⟨U, Ls, c0, s0⟩ := A
  dsimp only [Pt.U, Pt.locs, Pt.cells, Pt.slots] at h1 h2 h3 h4 h5 X hn hPc ⊢
  obtain ⟨methY, cY, hmY, hcY, -, hlY, -, -, -, -⟩ := Cond.code_spec hn h2
  obtain ⟨kY, hkY, -⟩ := className_of_methodNamed hn
  have hinitY : kY.init = .initialized := Cond.initialized_spec (findClass_of_methodNamed hn) hkY h3
  have h : At U g.method c below := by rw [hg]; exact X.here
  have hlocals9 : W9 + (maxL + 11) + (headSpec ws rm).room.locals ≤ R.locals := hlocals
  have happ : (headSpec ws rm).appliesLoose y e.platform (U.calling g mk a) = true :=
    Spec.appliesLoose_calling (g := g) h hdg hn hkY hinitY
      (X.room_calling (g := g) (R' := (headSpec ws rm).room) hsize hmY hcY hframes (by rw [hlY]; omega) h4 h5) h1
  obtain ⟨mid, hmid⟩ := h.above
  have hfr : (U.setTop g).frames = (.java g :: mid) ++ below := by rw [State.frames_setTop' g h.top, hmid]; rfl
  obtain ⟨o, s₂, hsteps, -, hend, hq⟩ := Steps.callFree hM p X.admits X.cas X.clock (acts := []) hfr happ hPc trivial
  have hq' : vx_Q Qc XC mc ms free a (U.calling g mk a) o s₂ := hq
  rw [State.frames_setTop' g h.top] at hend
  obtain ⟨g₀, hg0⟩ := Option.isSome_iff_exists.mp h.top
  obtain ⟨r, hr⟩ := State.topJava?_eq_some.mp hg0
  have hr' : (({ U with heap := s₂.heap, slotsUsed := s₂.slotsUsed } : State).setVm s₂.vm).frames = .java g₀ :: r := hr
  rcases hq' with ⟨hqc, L, hfe, hL⟩ | ⟨q, rfl, E, ce, L, hx, hce, hcv, hcl, hW₂, hsm, hL⟩
  · obtain ⟨⟨v, rfl⟩, hW₂, e2, q2, q3, q4, q5, q6⟩ := id hfe
    have e3 : s₂ = ({ (U.calling g mk a).setFrames s₂.frames with heap := s₂.heap, slotsUsed := s₂.slotsUsed } : State).setVm s₂.vm := by
      have : s₂ = ({ s₂ with vm := (U.calling g mk a).vm } : State).setVm s₂.vm := rfl
      rw [e2] at this
      exact this
    obtain ⟨c₂, i₂, len₂, hc₂, hd₂, hf₂⟩ := hend
    have hW' : U.WarmedH s₂.vm := hW₂
    have hcc : c₂ = c := by
      have h1 : s₂.code? g.method = U.code? g.method := by
        rw [State.code?_eq, State.code?_eq, hW'.alike.method?]
      exact Option.some.inj (hc₂.symm.trans (h1.trans h.code))
    subst hcc
    have hlen : len₂ = len := by rw [hdg] at hd₂; cases hd₂; rfl
    subst hlen
    have hs₂ : s₂ = (({ U with heap := s₂.heap, slotsUsed := s₂.slotsUsed } : State).setVm s₂.vm).setTop { g with pc := g.pc + len₂, stack := v.toList ++ g.stack } := by
      refine e3.trans ?_
      rw [hf₂, State.calling_eq h.top, State.setFrames_setFrames, State.setTop_of_frames _ hr', hr]
      rfl
    have hsame : U.sameButNew ({ U with heap := s₂.heap, slotsUsed := s₂.slotsUsed } : State) L mc ms := by
      refine ⟨?_, q2, q3, q4, q5, q6⟩
      obtain ⟨t, ht, -⟩ := State.frames_cons hr
      show ({ U with heap := s₂.heap, slotsUsed := s₂.slotsUsed } : State) = { U.setFrames U.frames with heap := s₂.heap, slotsUsed := s₂.slotsUsed }
      rw [State.setFrames_self ht]
    subst hg
    refine Or.inl ⟨v, ⟨(({ U with heap := s₂.heap, slotsUsed := s₂.slotsUsed } : State).setVm s₂.vm), Ls ++ L, c0 + mc, s0 + ms⟩,
      ⟨X.admits, X.cas, X.clock, X.frames, X.room, X.hears, X.method, X.code, (X.here.setHeapUsed s₂.heap s₂.slotsUsed).setVm hW'.alike, X.tail, State.WarmedH.trans X.warmed hW', X.limits, X.bytes, X.same.trans (hsame.setVm s.vm)⟩,
      ⟨g, mk, s₂, L, rfl, rfl, hqc, rfl, hL, rfl, rfl⟩, ?_⟩
    show Steps p.tables e below _ ((({ U with heap := s₂.heap, slotsUsed := s₂.slotsUsed } : State).setVm s₂.vm).setTop { g with pc := g.pc + len₂, stack := v.toList ++ g.stack })
    rw [← hs₂]
    exact hsteps
  · obtain ⟨e2, q2, q3, q4, q5, q6⟩ := id hsm
    have e3 : s₂ = ({ (U.calling g mk a).setFrames s₂.frames with heap := s₂.heap, slotsUsed := s₂.slotsUsed } : State).setVm s₂.vm := by
      have : s₂ = ({ s₂ with vm := (U.calling g mk a).vm } : State).setVm s₂.vm := rfl
      rw [e2] at this
      exact this
    have hf₂ : s₂.frames = .throwing q :: .java g :: U.frames.tail := hend
    have hW' : U.WarmedH s₂.vm := hW₂
    have hs₂ : s₂ = ((({ U with heap := s₂.heap, slotsUsed := s₂.slotsUsed } : State).setVm s₂.vm).setTop g).pushFrame (.throwing q) := by
      refine e3.trans ?_
      rw [hf₂, State.calling_eq h.top, State.setFrames_setFrames, State.pushFrame, State.frames_setTop _ hr', State.setTop_of_frames _ hr', State.setFrames_setFrames, hr]
      rfl
    have hsame : U.sameButNew ({ U with heap := s₂.heap, slotsUsed := s₂.slotsUsed } : State) L mc ms := by
      refine ⟨?_, q2, q3, q4, q5, q6⟩
      obtain ⟨t, ht, -⟩ := State.frames_cons hr
      show ({ U with heap := s₂.heap, slotsUsed := s₂.slotsUsed } : State) = { U.setFrames U.frames with heap := s₂.heap, slotsUsed := s₂.slotsUsed }
      rw [State.setFrames_self ht]
    subst hg
    refine Or.inr ⟨q, ⟨(({ U with heap := s₂.heap, slotsUsed := s₂.slotsUsed } : State).setVm s₂.vm), Ls ++ L, c0 + mc, s0 + ms⟩,
      ⟨X.admits, X.cas, X.clock, X.frames, X.room, X.hears, X.method, X.code, (X.here.setHeapUsed s₂.heap s₂.slotsUsed).setVm hW'.alike, X.tail, State.WarmedH.trans X.warmed hW', X.limits, X.bytes, X.same.trans (hsame.setVm s.vm)⟩,
      ⟨g, mk, s₂, L, E, ce, rfl, rfl, hx, hce, hcv, hcl, rfl, hL, rfl, rfl⟩, ?_⟩
    show Steps p.tables e below _ (((({ U with heap := s₂.heap, slotsUsed := s₂.slotsUsed } : State).setVm s₂.vm).setTop g).pushFrame (.throwing q))
    rw [← hs₂]
    exact hsteps
end Payer
section Calls
variable {p : Program} {l : Launch} {e : Env} {R : Room} {s : State} {m : MethodId} {args : Array Value} {below : List Frame} {meth : Method} {c : Code} {T : State} {locs : List Loc} {cells slots : Nat}
theorem vx_callV (X : Stand p l e R s m args below meth c T locs cells slots) (hexec : p.tables.exec = Jvm.exec) {own C : String} {index : Nat} {y : MethodName} {bytes : ByteArray} {maxL : Nat} {ret : Option FieldType}
    (hown : s.vm.findClass own = some m.cls) (hlink : (Cond.methodLink own index y).before args s = true) (hinst : (Cond.instanceMethod y).before args s = true) (hsel : (Cond.selects C y y).before args s = true)
    (hcode : (Cond.code y bytes maxL ret).before args s = true) (hy : y.cls ≠ "java/lang/invoke/MethodHandle" ∧ y.cls ≠ "java/lang/invoke/VarHandle")
    {W9 : Nat} {Pre : Pt → Array Value → Prop} {Post : Pt → Array Value → Option Value → Pt → Prop} {PostX : Pt → Array Value → Addr → Pt → Prop} (hK : vx_Back l R p e below s args y 3 W9 Pre Post PostX)
    {b : Addr} {cellB : Cell} (hcell : T.heap[b]? = some cellB) (hobj : cellB.vm.isStatics = false) (hcls : s.vm.findClass C = some cellB.cls)
    {g : JFrame} (hg : g.method = m) (hsize : g.locals.size = c.maxLocals) {argsL rest : List Value} (hlen : ∀ sig, parseMethodDescriptor y.desc = some sig → argsL.length = sig.parameters.length)
    (hstack : g.stack = argsL.reverse ++ .ref b :: rest) (hW : 2 * g.monitorRoom + (rest.map fun v => v.category).sum ≤ W9) (hdg : decode c.code g.pc = .ok (.invokevirtual index, 3))
    (hpre : ∀ vm₁, s.WarmedH vm₁ → Pre ⟨T.setVm vm₁, locs, cells, slots⟩ (Value.ref b :: argsL).toArray) :
    (∃ (v : Option Value) (vm₁ : Vm) (B : Pt), s.WarmedH vm₁ ∧ Stand p l e R s m args below meth c B.U B.locs B.cells B.slots ∧ Post ⟨T.setVm vm₁, locs, cells, slots⟩ (Value.ref b :: argsL).toArray v B ∧
      ∀ target, Steps p.tables e below (B.U.setTop { g with pc := g.pc + 3, stack := v.toList ++ rest }) target → Steps p.tables e below (T.setTop g) target) ∨
    (∃ (q : Addr) (vm₁ : Vm) (B : Pt), s.WarmedH vm₁ ∧ Stand p l e R s m args below meth c B.U B.locs B.cells B.slots ∧ PostX ⟨T.setVm vm₁, locs, cells, slots⟩ (Value.ref b :: argsL).toArray q B ∧
      Steps p.tables e below (T.setTop g) ((B.U.setTop { g with stack := rest }).pushFrame (.throwing q))) := by
  obtain ⟨mk, methM, hnamed, hmethM, hstM, habM⟩ := Cond.instanceMethod_spec hinst
  obtain ⟨methM', cM, hmethM', -, -, -, -, -, -, hsigM⟩ := Cond.code_spec hnamed hcode
  cases hmethM.symm.trans hmethM'
  obtain ⟨c2, r2, m2, q1, q2, q3, q4, kP, hkP, hkPi⟩ := Cond.selects_spec hsel
  cases hcls.symm.trans q1
  cases (State.methodFound?_of_named hnamed hy).symm.trans q2
  cases hnamed.symm.trans q3
  have hselP : selectMethod e.platform s.vm cellB.cls mk = .method mk := by rw [Launch.admits_selectMethod X.admits]; exact q4
  obtain ⟨vm₁, X₁, hstep₁⟩ := X.invokevirtual hexec hown hlink hnamed hmethM hstM hkP hkPi hy (a := b) (cell := cellB) hcell
    (fun z h => by rw [h] at hobj; cases hobj) hselP hmethM habM hkP hkPi (g := g) hg (argsL := argsL) (rest := rest) (hlen _ hsigM) hstack hdg
  rcases hK m meth c ⟨T.setVm vm₁, locs, cells, slots⟩ { g with stack := rest } (.invokevirtual index) mk (Value.ref b :: argsL).toArray X₁ hg hsize hdg hW (X₁.named hnamed) (hpre vm₁ X₁.warmed) with ⟨v, B, X', hpost, hsteps⟩ | ⟨q, B, X', hpost, hsteps⟩
  · exact Or.inl ⟨v, vm₁, B, X₁.warmed, X', hpost, fun target h => hstep₁ _ fun acts => by rw [doInvoke_state]; exact hsteps.trans h⟩
  · exact Or.inr ⟨q, vm₁, B, X₁.warmed, X', hpost, hstep₁ _ fun acts => by rw [doInvoke_state]; exact hsteps⟩
theorem vx_callS (X : Stand p l e R s m args below meth c T locs cells slots) (hexec : p.tables.exec = Jvm.exec) {own : String} {index : Nat} {y : MethodName} {bytes : ByteArray} {maxL : Nat} {ret : Option FieldType}
    (hown : s.vm.findClass own = some m.cls) (hlink : (Cond.methodLink own index y).before args s = true) (hstat : (Cond.static y).before args s = true) (hinit : (Cond.initialized y.cls).before args s = true)
    (hcode : (Cond.code y bytes maxL ret).before args s = true) (hy : y.cls ≠ "java/lang/invoke/MethodHandle" ∧ y.cls ≠ "java/lang/invoke/VarHandle")
    {W9 : Nat} {Pre : Pt → Array Value → Prop} {Post : Pt → Array Value → Option Value → Pt → Prop} {PostX : Pt → Array Value → Addr → Pt → Prop} (hK : vx_Back l R p e below s args y 3 W9 Pre Post PostX)
    {g : JFrame} (hg : g.method = m) (hsize : g.locals.size = c.maxLocals) {argsL rest : List Value} (hlen : ∀ sig, parseMethodDescriptor y.desc = some sig → argsL.length = sig.parameters.length)
    (hstack : g.stack = argsL.reverse ++ rest) (hW : 2 * g.monitorRoom + (rest.map fun v => v.category).sum ≤ W9) (hdg : decode c.code g.pc = .ok (.invokestatic index, 3))
    (hpre : ∀ vm₁, s.WarmedH vm₁ → Pre ⟨T.setVm vm₁, locs, cells, slots⟩ argsL.toArray) :
    (∃ (v : Option Value) (vm₁ : Vm) (B : Pt), s.WarmedH vm₁ ∧ Stand p l e R s m args below meth c B.U B.locs B.cells B.slots ∧ Post ⟨T.setVm vm₁, locs, cells, slots⟩ argsL.toArray v B ∧
      ∀ target, Steps p.tables e below (B.U.setTop { g with pc := g.pc + 3, stack := v.toList ++ rest }) target → Steps p.tables e below (T.setTop g) target) ∨
    (∃ (q : Addr) (vm₁ : Vm) (B : Pt), s.WarmedH vm₁ ∧ Stand p l e R s m args below meth c B.U B.locs B.cells B.slots ∧ PostX ⟨T.setVm vm₁, locs, cells, slots⟩ argsL.toArray q B ∧
      Steps p.tables e below (T.setTop g) ((B.U.setTop { g with stack := rest }).pushFrame (.throwing q))) := by
  obtain ⟨mk, hnamed⟩ := Cond.code_named hcode
  obtain ⟨methM, cM, hmethM, -, -, -, -, -, -, hsigM⟩ := Cond.code_spec hnamed hcode
  have hstatic : methM.isStatic = true := Cond.static_spec hnamed hmethM hstat
  obtain ⟨kP, hkP, -⟩ := className_of_methodNamed hnamed
  have hinitP : kP.init = .initialized := Cond.initialized_spec (findClass_of_methodNamed hnamed) hkP hinit
  obtain ⟨vm₁, X₁, hstep₁⟩ := X.invokestatic hexec hown hlink hnamed hmethM hstatic hkP hinitP hy (g := g) hg (argsL := argsL) (rest := rest) (hlen _ hsigM) hstack hdg
  rcases hK m meth c ⟨T.setVm vm₁, locs, cells, slots⟩ { g with stack := rest } (.invokestatic index) mk argsL.toArray X₁ hg hsize hdg hW (X₁.named hnamed) (hpre vm₁ X₁.warmed) with ⟨v, B, X', hpost, hsteps⟩ | ⟨q, B, X', hpost, hsteps⟩
  · exact Or.inl ⟨v, vm₁, B, X₁.warmed, X', hpost, fun target h => hstep₁ _ fun acts => by rw [doInvoke_state]; exact hsteps.trans h⟩
  · exact Or.inr ⟨q, vm₁, B, X₁.warmed, X', hpost, hstep₁ _ fun acts => by rw [doInvoke_state]; exact hsteps⟩
end Calls
theorem vx_cls {s : State} {T : State} {vm₁ : Vm} {E : String} {k : ClassId} (hW : s.WarmedH vm₁) (h : (T.setVm vm₁).vm.findClass E = some k) : s.vm.findClass E = some k := by
  have h1 : vm₁.findClass E = some k := h
  rw [hW.alike.findClass] at h1
  exact h1
/-- the method's frame g, with q thrown over it -/
def vx_W (p : Program) (l : Launch) (e : Env) (R : Room) (s : State) (m : MethodId) (args : Array Value) (below : List Frame) (meth : Method) (c : Code) (H : Heap) (locs : List Loc) (cells slots : Nat) (Q : State → Prop) (g : JFrame) (q : Addr) : Prop :=
  ∀ T : State, T.heap = H → Stand p l e R s m args below meth c T locs cells slots → ∃ t, Steps p.tables e below ((T.setTop g).pushFrame (.throwing q)) t ∧ Q t
def vx_Run (p : Program) (l : Launch) (e : Env) (R : Room) (s : State) (m : MethodId) (args : Array Value) (below : List Frame) (meth : Method) (c : Code) (H : Heap) (locs : List Loc) (cells slots mc ms : Nat) (g : JFrame) (rest : List Value) (Qa : State → Outcome → State → Prop) (XC : String → State → State → Prop) (free : Addr → Prop) : Prop :=
  ∀ T : State, T.heap = H → Stand p l e R s m args below meth c T locs cells slots →
    (∃ (v : Option Value) (st₀ t T' : State) (L : List Loc), st₀.heap = H ∧ Stand p l e R s m args below meth c T' (locs ++ L) (cells + mc) (slots + ms) ∧ (∀ q ∈ L, free q.base) ∧ T'.heap = t.heap ∧ T'.vm = t.vm ∧ Qa st₀ (.returned v) t ∧
      Goes p e below T g T' { g with pc := g.pc + 3, stack := v.toList ++ rest }) ∨
    (∃ (q : Addr) (st₀ t T' : State) (L : List Loc) (E : String) (ce : Cell), st₀.heap = H ∧ Stand p l e R s m args below meth c T' (locs ++ L) (cells + mc) (slots + ms) ∧ (∀ z ∈ L, free z.base) ∧ T'.heap = t.heap ∧ T'.vm = t.vm ∧ XC E st₀ t ∧ t.heap[q]? = some ce ∧ ce.vm = .none ∧ s.vm.findClass E = some ce.cls ∧
      Steps p.tables e below (T.setTop g) ((T'.setTop { g with stack := rest }).pushFrame (.throwing q)))
def vx_X {S : Type} (px : S → Prop) (B : String → S → State → Prop) (A : Nat → Prop) : String → State → State → Prop := fun E st t => ∃ u : S, px u ∧ B E u t ∧ va_F A st t
section Runs
variable {p : Program} {l : Launch} {e : Env} {R : Room} {s : State} {m : MethodId} {args : Array Value} {below : List Frame} {meth : Method} {c : Code} {H : Heap} {locs : List Loc} {cells slots : Nat}
variable {y : MethodName} {bytes cc : ByteArray} {maxL nL mc ms n index : Nat} {ret : Option FieldType} {ws : List Cond} {rm : Room} {Pc : Array Value → State → Prop} {Qc : Array Value → State → Outcome → State → Prop} {XC : String → State → State → Prop} {free : Addr → Prop} {Ts : List Cond} {own C : String} {b : Addr} {As rest : List Value} {g : JFrame}
theorem vx_callBack (cb : CallB R s args own index y bytes maxL ret ws rm mc ms n) (hM : vx_Met l y ws rm Pc Qc XC mc ms free) (hbl : FrameBlind Pc) : vx_Back l R p e below s args y 3 8 (PreOf R mc ms Pc) (PostOf Qc mc ms free) (vx_Post XC mc ms free) := by
  obtain ⟨hrc, hrs, hfr, hlo, hws, hcw, -, hini, -⟩ := cb
  exact vx_back (bytes := bytes) (maxL := maxL) (ret := ret) hM hbl hrc hrs hfr hlo hws hcw (fun a' U hW => word_at hW (Or.inl (by first | rfl | simp [Cond.onTables, Cond.keeps, Cond.steady])) hini)
theorem vx_runV (S : CallFix p m c cc nL s args Ts own) (hM : vx_Met l y ws rm Pc Qc XC mc ms free) (cw : CallW R s args own C index y bytes maxL ret ws rm mc ms n) (hp : PreV s H C b Pc As)
    (hg : g.method = m) (hn : As.length = n) (hsize : g.locals.size = nL) (hstack : g.stack = As.reverse ++ .ref b :: rest) (hW : 2 * g.monitorRoom + (rest.map fun v => v.category).sum ≤ 8) (hdg : decode cc g.pc = .ok (.invokevirtual index, 3)) (hf : cells + mc ≤ R.cells ∧ slots + ms ≤ R.slots) :
    vx_Run p l e R s m args below meth c H locs cells slots mc ms g rest (Qc (Value.ref b :: As).toArray) XC free := by
  have hK : vx_Back l R p e below s args y 3 8 (PreOf R mc ms Pc) (PostOf Qc mc ms free) (vx_Post XC mc ms free) := vx_callBack cw.1 hM hp.1
  obtain ⟨⟨-, -, -, -, -, -, hcode, -, hy, hlen, hl⟩, hin, hse⟩ := cw
  obtain ⟨hx, hb, hml, ho, -⟩ := S
  obtain ⟨-, ⟨cellB, hcB, hoB, hclB⟩, hPc⟩ := hp
  intro T hT X
  rcases vx_callV X hx (C := C) (bytes := bytes) (maxL := maxL) (ret := ret) ho hl hin hse hcode hy hK (by rw [hT]; exact hcB) hoB hclB hg (hsize.trans hml.symm) (argsL := As) (rest := rest) (fun sig h => hn.trans (hlen sig h)) hstack hW (by rw [hb]; exact hdg)
    (fun vm₁ hW₁ => ⟨hf.1, hf.2, hPc (T.setVm vm₁) hT hW₁⟩) with ⟨v, vm₁, ⟨U', l2, c2, s2⟩, hW₁, X', ⟨g', mk, t, L, e1, e2, hq, h1, hL, h2, h3⟩, st⟩ | ⟨q, vm₁, ⟨U', l2, c2, s2⟩, hW₁, X', ⟨g', mk, t, L, E, ce, e1, e2, hq, hce, hcv, hcl, h1, hL, h2, h3⟩, st⟩
  · dsimp only [Pt.U, Pt.locs, Pt.cells, Pt.slots] at X' e1 e2 h1 h2 h3 st
    subst h1; subst h2; subst h3
    exact Or.inl ⟨v, (T.setVm vm₁).calling g' mk (Value.ref b :: As).toArray, t, U', L, hT, X', hL, e1, e2, hq, st⟩
  · dsimp only [Pt.U, Pt.locs, Pt.cells, Pt.slots] at X' e1 e2 h1 h2 h3 st hcl
    subst h1; subst h2; subst h3
    exact Or.inr ⟨q, (T.setVm vm₁).calling g' mk (Value.ref b :: As).toArray, t, U', L, E, ce, hT, X', hL, e1, e2, hq, hce, hcv, vx_cls hW₁ hcl, st⟩
theorem vx_runS (S : CallFix p m c cc nL s args Ts own) (hM : vx_Met l y ws rm Pc Qc XC mc ms free) (cw : CallB R s args own index y bytes maxL ret ws rm mc ms n ∧ (Cond.static y).before args s = true) (hp : PreS s H Pc As)
    (hg : g.method = m) (hn : As.length = n) (hsize : g.locals.size = nL) (hstack : g.stack = As.reverse ++ rest) (hW : 2 * g.monitorRoom + (rest.map fun v => v.category).sum ≤ 8) (hdg : decode cc g.pc = .ok (.invokestatic index, 3)) (hf : cells + mc ≤ R.cells ∧ slots + ms ≤ R.slots) :
    vx_Run p l e R s m args below meth c H locs cells slots mc ms g rest (Qc As.toArray) XC free := by
  have hK : vx_Back l R p e below s args y 3 8 (PreOf R mc ms Pc) (PostOf Qc mc ms free) (vx_Post XC mc ms free) := vx_callBack cw.1 hM hp.1
  obtain ⟨⟨-, -, -, -, -, -, hcode, hini, hy, hlen, hl⟩, hstt⟩ := cw
  obtain ⟨hx, hb, hml, ho, -⟩ := S
  intro T hT X
  rcases vx_callS X hx (bytes := bytes) (maxL := maxL) (ret := ret) ho hl hstt hini hcode hy hK hg (hsize.trans hml.symm) (argsL := As) (rest := rest) (fun sig h => hn.trans (hlen sig h)) hstack hW (by rw [hb]; exact hdg)
    (fun vm₁ hW₁ => ⟨hf.1, hf.2, hp.2 (T.setVm vm₁) hT hW₁⟩) with ⟨v, vm₁, ⟨U', l2, c2, s2⟩, hW₁, X', ⟨g', mk, t, L, e1, e2, hq, h1, hL, h2, h3⟩, st⟩ | ⟨q, vm₁, ⟨U', l2, c2, s2⟩, hW₁, X', ⟨g', mk, t, L, E, ce, e1, e2, hq, hce, hcv, hcl, h1, hL, h2, h3⟩, st⟩
  · dsimp only [Pt.U, Pt.locs, Pt.cells, Pt.slots] at X' e1 e2 h1 h2 h3 st
    subst h1; subst h2; subst h3
    exact Or.inl ⟨v, (T.setVm vm₁).calling g' mk As.toArray, t, U', L, hT, X', hL, e1, e2, hq, st⟩
  · dsimp only [Pt.U, Pt.locs, Pt.cells, Pt.slots] at X' e1 e2 h1 h2 h3 st hcl
    subst h1; subst h2; subst h3
    exact Or.inr ⟨q, (T.setVm vm₁).calling g' mk As.toArray, t, U', L, E, ce, hT, X', hL, e1, e2, hq, hce, hcv, vx_cls hW₁ hcl, st⟩
end Runs
section Rows
variable {p : Program} {l : Launch} {e : Env} {R : Room} {s : State} {m : MethodId} {args : Array Value} {below : List Frame} {meth : Method} {c : Code} {H : Heap} {locs : List Loc} {cells slots : Nat} {Q : State → Prop}
variable {mc ms : Nat} {free : Addr → Prop} {A0 A1 : Nat → Prop} {H0 : Heap} {a : Array Value} {pc : Nat} {ls : Array Slot} {st0 rest : List Value}
theorem vx_keep {st₀ t T' : State} {L : List Loc} (h0 : st₀.heap = H) (e1 : T'.heap = t.heap) (hS : va_S A0 H0 H locs) (hA : ∀ q, q < H.size → A1 q → A0 q) (hf : ∀ q, free q → A0 q) (hL : ∀ q ∈ L, free q.base) (hF : va_F A1 st₀ t) :
    H.size ≤ T'.heap.size ∧ (∀ q : Nat, q < H.size → ¬ A1 q → T'.heap[q]? = H[q]?) ∧ va_S A0 H0 T'.heap (locs ++ L) := by
  obtain ⟨hz, hk⟩ := hF
  rw [h0] at hz hk
  exact ⟨by rw [e1]; exact hz, fun q h1 h2 => by rw [e1]; exact hk q h1 h2,
    ⟨Nat.le_trans hS.1 (by rw [e1]; exact hz), fun q h1 h2 => by rw [e1, hk q (Nat.lt_of_lt_of_le h1 hS.1) (fun z => h2 (hA q (Nat.lt_of_lt_of_le h1 hS.1) z))]; exact hS.2.1 q h1 h2, fun q hq => by
      rcases List.mem_append.mp hq with h | h
      · exact hS.2.2 q h
      · exact hf _ (hL q h)⟩⟩
theorem vx_calli {S SX : Type} {post : Int32 → S → Prop} {px : SX → Prop} {B : S → State → Prop} {BX : String → SX → State → Prop} {AX : Nat → Prop} (hr : vx_Run p l e R s m args below meth c H locs cells slots mc ms (F0 m pc ls st0) rest (va_Qi post B A1 a) (vx_X px BX AX) free) (hS : va_S A0 H0 H locs) (hA : ∀ q, q < H.size → A1 q → A0 q) (hf : ∀ q, free q → A0 q) (hAX : ∀ q, q < H.size → AX q → A0 q)
    (kx : ∀ (E : String) (ce : Cell) (q9 : Addr) (u : SX) (t : State) (H1 : Heap) (locs1 : List Loc), t.heap = H1 → s.vm.Alike t.vm → px u → BX E u t → H.size ≤ H1.size → (∀ q : Nat, q < H.size → ¬ AX q → H1[q]? = H[q]?) → va_S A0 H0 H1 locs1 → H1[q9]? = some ce → ce.vm = .none → s.vm.findClass E = some ce.cls → vx_W p l e R s m args below meth c H1 locs1 (cells + mc) (slots + ms) Q (F0 m pc ls rest) q9)
    (kk : ∀ (r : Int32) (u : S) (t : State) (H1 : Heap) (locs1 : List Loc), t.heap = H1 → s.vm.Alike t.vm → post r u → B u t → H.size ≤ H1.size → (∀ q : Nat, q < H.size → ¬ A1 q → H1[q]? = H[q]?) → va_S A0 H0 H1 locs1 → W p l e R s m args below meth c H1 locs1 (cells + mc) (slots + ms) Q (F0 m (pc + 3) ls (.int r :: rest))) : W p l e R s m args below meth c H locs cells slots Q (F0 m pc ls st0) := by
  intro T hT X
  rcases hr T hT X with ⟨v, st₀, t, T', L, h0, X', hL, e1, e2, ⟨⟨r, u, hv, hp, hb⟩, hF⟩, st⟩ | ⟨q, st₀, t, T', L, E, ce, h0, X', hL, e1, e2, ⟨u, hp, hb, hF⟩, hce, hcv, hcl, st⟩
  · cases hv
    obtain ⟨k1, k2, k3⟩ := vx_keep h0 e1 hS hA hf hL hF
    obtain ⟨t2, a1, b1⟩ := kk r u t T'.heap (locs ++ L) e1.symm (by rw [← e2]; exact X'.warmed.alike) hp hb k1 k2 k3 T' rfl X'
    exact ⟨t2, st t2 a1, b1⟩
  · obtain ⟨k1, k2, k3⟩ := vx_keep h0 e1 hS hAX hf hL hF
    obtain ⟨t2, a1, b1⟩ := kx E ce q u t T'.heap (locs ++ L) e1.symm (by rw [← e2]; exact X'.warmed.alike) hp hb k1 k2 k3 (by rw [e1]; exact hce) hcv hcl T' rfl X'
    exact ⟨t2, st.trans a1, b1⟩
theorem vx_calll {S SX : Type} {post : Int64 → S → Prop} {px : SX → Prop} {B : S → State → Prop} {BX : String → SX → State → Prop} {AX : Nat → Prop} (hr : vx_Run p l e R s m args below meth c H locs cells slots mc ms (F0 m pc ls st0) rest (va_Ql post B A1 a) (vx_X px BX AX) free) (hS : va_S A0 H0 H locs) (hA : ∀ q, q < H.size → A1 q → A0 q) (hf : ∀ q, free q → A0 q) (hAX : ∀ q, q < H.size → AX q → A0 q)
    (kx : ∀ (E : String) (ce : Cell) (q9 : Addr) (u : SX) (t : State) (H1 : Heap) (locs1 : List Loc), t.heap = H1 → s.vm.Alike t.vm → px u → BX E u t → H.size ≤ H1.size → (∀ q : Nat, q < H.size → ¬ AX q → H1[q]? = H[q]?) → va_S A0 H0 H1 locs1 → H1[q9]? = some ce → ce.vm = .none → s.vm.findClass E = some ce.cls → vx_W p l e R s m args below meth c H1 locs1 (cells + mc) (slots + ms) Q (F0 m pc ls rest) q9)
    (kk : ∀ (r : Int64) (u : S) (t : State) (H1 : Heap) (locs1 : List Loc), t.heap = H1 → s.vm.Alike t.vm → post r u → B u t → H.size ≤ H1.size → (∀ q : Nat, q < H.size → ¬ A1 q → H1[q]? = H[q]?) → va_S A0 H0 H1 locs1 → W p l e R s m args below meth c H1 locs1 (cells + mc) (slots + ms) Q (F0 m (pc + 3) ls (.long r :: rest))) : W p l e R s m args below meth c H locs cells slots Q (F0 m pc ls st0) := by
  intro T hT X
  rcases hr T hT X with ⟨v, st₀, t, T', L, h0, X', hL, e1, e2, ⟨⟨r, u, hv, hp, hb⟩, hF⟩, st⟩ | ⟨q, st₀, t, T', L, E, ce, h0, X', hL, e1, e2, ⟨u, hp, hb, hF⟩, hce, hcv, hcl, st⟩
  · cases hv
    obtain ⟨k1, k2, k3⟩ := vx_keep h0 e1 hS hA hf hL hF
    obtain ⟨t2, a1, b1⟩ := kk r u t T'.heap (locs ++ L) e1.symm (by rw [← e2]; exact X'.warmed.alike) hp hb k1 k2 k3 T' rfl X'
    exact ⟨t2, st t2 a1, b1⟩
  · obtain ⟨k1, k2, k3⟩ := vx_keep h0 e1 hS hAX hf hL hF
    obtain ⟨t2, a1, b1⟩ := kx E ce q u t T'.heap (locs ++ L) e1.symm (by rw [← e2]; exact X'.warmed.alike) hp hb k1 k2 k3 (by rw [e1]; exact hce) hcv hcl T' rfl X'
    exact ⟨t2, st.trans a1, b1⟩
theorem vx_callf {S SX : Type} {post : UInt32 → S → Prop} {px : SX → Prop} {B : S → State → Prop} {BX : String → SX → State → Prop} {AX : Nat → Prop} (hr : vx_Run p l e R s m args below meth c H locs cells slots mc ms (F0 m pc ls st0) rest (va_Qf post B A1 a) (vx_X px BX AX) free) (hS : va_S A0 H0 H locs) (hA : ∀ q, q < H.size → A1 q → A0 q) (hf : ∀ q, free q → A0 q) (hAX : ∀ q, q < H.size → AX q → A0 q)
    (kx : ∀ (E : String) (ce : Cell) (q9 : Addr) (u : SX) (t : State) (H1 : Heap) (locs1 : List Loc), t.heap = H1 → s.vm.Alike t.vm → px u → BX E u t → H.size ≤ H1.size → (∀ q : Nat, q < H.size → ¬ AX q → H1[q]? = H[q]?) → va_S A0 H0 H1 locs1 → H1[q9]? = some ce → ce.vm = .none → s.vm.findClass E = some ce.cls → vx_W p l e R s m args below meth c H1 locs1 (cells + mc) (slots + ms) Q (F0 m pc ls rest) q9)
    (kk : ∀ (r : UInt32) (u : S) (t : State) (H1 : Heap) (locs1 : List Loc), t.heap = H1 → s.vm.Alike t.vm → post r u → B u t → H.size ≤ H1.size → (∀ q : Nat, q < H.size → ¬ A1 q → H1[q]? = H[q]?) → va_S A0 H0 H1 locs1 → W p l e R s m args below meth c H1 locs1 (cells + mc) (slots + ms) Q (F0 m (pc + 3) ls (.float r :: rest))) : W p l e R s m args below meth c H locs cells slots Q (F0 m pc ls st0) := by
  intro T hT X
  rcases hr T hT X with ⟨v, st₀, t, T', L, h0, X', hL, e1, e2, ⟨⟨r, u, hv, hp, hb⟩, hF⟩, st⟩ | ⟨q, st₀, t, T', L, E, ce, h0, X', hL, e1, e2, ⟨u, hp, hb, hF⟩, hce, hcv, hcl, st⟩
  · cases hv
    obtain ⟨k1, k2, k3⟩ := vx_keep h0 e1 hS hA hf hL hF
    obtain ⟨t2, a1, b1⟩ := kk r u t T'.heap (locs ++ L) e1.symm (by rw [← e2]; exact X'.warmed.alike) hp hb k1 k2 k3 T' rfl X'
    exact ⟨t2, st t2 a1, b1⟩
  · obtain ⟨k1, k2, k3⟩ := vx_keep h0 e1 hS hAX hf hL hF
    obtain ⟨t2, a1, b1⟩ := kx E ce q u t T'.heap (locs ++ L) e1.symm (by rw [← e2]; exact X'.warmed.alike) hp hb k1 k2 k3 (by rw [e1]; exact hce) hcv hcl T' rfl X'
    exact ⟨t2, st.trans a1, b1⟩
theorem vx_calld {S SX : Type} {post : UInt64 → S → Prop} {px : SX → Prop} {B : S → State → Prop} {BX : String → SX → State → Prop} {AX : Nat → Prop} (hr : vx_Run p l e R s m args below meth c H locs cells slots mc ms (F0 m pc ls st0) rest (va_Qd post B A1 a) (vx_X px BX AX) free) (hS : va_S A0 H0 H locs) (hA : ∀ q, q < H.size → A1 q → A0 q) (hf : ∀ q, free q → A0 q) (hAX : ∀ q, q < H.size → AX q → A0 q)
    (kx : ∀ (E : String) (ce : Cell) (q9 : Addr) (u : SX) (t : State) (H1 : Heap) (locs1 : List Loc), t.heap = H1 → s.vm.Alike t.vm → px u → BX E u t → H.size ≤ H1.size → (∀ q : Nat, q < H.size → ¬ AX q → H1[q]? = H[q]?) → va_S A0 H0 H1 locs1 → H1[q9]? = some ce → ce.vm = .none → s.vm.findClass E = some ce.cls → vx_W p l e R s m args below meth c H1 locs1 (cells + mc) (slots + ms) Q (F0 m pc ls rest) q9)
    (kk : ∀ (r : UInt64) (u : S) (t : State) (H1 : Heap) (locs1 : List Loc), t.heap = H1 → s.vm.Alike t.vm → post r u → B u t → H.size ≤ H1.size → (∀ q : Nat, q < H.size → ¬ A1 q → H1[q]? = H[q]?) → va_S A0 H0 H1 locs1 → W p l e R s m args below meth c H1 locs1 (cells + mc) (slots + ms) Q (F0 m (pc + 3) ls (.double r :: rest))) : W p l e R s m args below meth c H locs cells slots Q (F0 m pc ls st0) := by
  intro T hT X
  rcases hr T hT X with ⟨v, st₀, t, T', L, h0, X', hL, e1, e2, ⟨⟨r, u, hv, hp, hb⟩, hF⟩, st⟩ | ⟨q, st₀, t, T', L, E, ce, h0, X', hL, e1, e2, ⟨u, hp, hb, hF⟩, hce, hcv, hcl, st⟩
  · cases hv
    obtain ⟨k1, k2, k3⟩ := vx_keep h0 e1 hS hA hf hL hF
    obtain ⟨t2, a1, b1⟩ := kk r u t T'.heap (locs ++ L) e1.symm (by rw [← e2]; exact X'.warmed.alike) hp hb k1 k2 k3 T' rfl X'
    exact ⟨t2, st t2 a1, b1⟩
  · obtain ⟨k1, k2, k3⟩ := vx_keep h0 e1 hS hAX hf hL hF
    obtain ⟨t2, a1, b1⟩ := kx E ce q u t T'.heap (locs ++ L) e1.symm (by rw [← e2]; exact X'.warmed.alike) hp hb k1 k2 k3 (by rw [e1]; exact hce) hcv hcl T' rfl X'
    exact ⟨t2, st.trans a1, b1⟩
theorem vx_callv {S SX : Type} {post : S → Prop} {px : SX → Prop} {B : S → State → Prop} {BX : String → SX → State → Prop} {AX : Nat → Prop} (hr : vx_Run p l e R s m args below meth c H locs cells slots mc ms (F0 m pc ls st0) rest (va_Qv post B A1 a) (vx_X px BX AX) free) (hS : va_S A0 H0 H locs) (hA : ∀ q, q < H.size → A1 q → A0 q) (hf : ∀ q, free q → A0 q) (hAX : ∀ q, q < H.size → AX q → A0 q)
    (kx : ∀ (E : String) (ce : Cell) (q9 : Addr) (u : SX) (t : State) (H1 : Heap) (locs1 : List Loc), t.heap = H1 → s.vm.Alike t.vm → px u → BX E u t → H.size ≤ H1.size → (∀ q : Nat, q < H.size → ¬ AX q → H1[q]? = H[q]?) → va_S A0 H0 H1 locs1 → H1[q9]? = some ce → ce.vm = .none → s.vm.findClass E = some ce.cls → vx_W p l e R s m args below meth c H1 locs1 (cells + mc) (slots + ms) Q (F0 m pc ls rest) q9)
    (kk : ∀ (u : S) (t : State) (H1 : Heap) (locs1 : List Loc), t.heap = H1 → s.vm.Alike t.vm → post u → B u t → H.size ≤ H1.size → (∀ q : Nat, q < H.size → ¬ A1 q → H1[q]? = H[q]?) → va_S A0 H0 H1 locs1 → W p l e R s m args below meth c H1 locs1 (cells + mc) (slots + ms) Q (F0 m (pc + 3) ls (rest))) : W p l e R s m args below meth c H locs cells slots Q (F0 m pc ls st0) := by
  intro T hT X
  rcases hr T hT X with ⟨v, st₀, t, T', L, h0, X', hL, e1, e2, ⟨⟨u, hv, hp, hb⟩, hF⟩, st⟩ | ⟨q, st₀, t, T', L, E, ce, h0, X', hL, e1, e2, ⟨u, hp, hb, hF⟩, hce, hcv, hcl, st⟩
  · cases hv
    obtain ⟨k1, k2, k3⟩ := vx_keep h0 e1 hS hA hf hL hF
    obtain ⟨t2, a1, b1⟩ := kk u t T'.heap (locs ++ L) e1.symm (by rw [← e2]; exact X'.warmed.alike) hp hb k1 k2 k3 T' rfl X'
    exact ⟨t2, st t2 a1, b1⟩
  · obtain ⟨k1, k2, k3⟩ := vx_keep h0 e1 hS hAX hf hL hF
    obtain ⟨t2, a1, b1⟩ := kx E ce q u t T'.heap (locs ++ L) e1.symm (by rw [← e2]; exact X'.warmed.alike) hp hb k1 k2 k3 (by rw [e1]; exact hce) hcv hcl T' rfl X'
    exact ⟨t2, st.trans a1, b1⟩
/-- caught by the row x of this method's table; the rows ahead don't take it -/
theorem vx_catch {own name : String} {E : String} {ce : Cell} {q : Addr} (hown : s.vm.findClass own = some m.cls) (pre : List ExceptionTableEntry) (x : ExceptionTableEntry) (suf : List ExceptionTableEntry) (hsplit : c.exceptionTable.toList = pre ++ x :: suf)
    (hpass : ∀ z ∈ pre, covers z pc = false ∨ (z.catchType ≠ 0 ∧ ∃ nm : String, (Cond.classLink own z.catchType nm).before args s = true ∧ va_Nc E nm s)) (hx : covers x pc = true) (h0 : x.catchType ≠ 0)
    (hlink : (Cond.classLink own x.catchType name).before args s = true) (hcast : (Cond.castable E name).before args s = true) (hcell : H[q]? = some ce) (hv : ce.vm = .none) (hcl : s.vm.findClass E = some ce.cls)
    (kk : W p l e R s m args below meth c H locs cells slots Q (F0 m x.handlerPc ls [.ref q])) : vx_W p l e R s m args below meth c H locs cells slots Q (F0 m pc ls rest) q := by
  intro T hT X
  have hpl : e.platform.magicAccessors = ({} : Platform).magicAccessors := by rw [X.admits.platform]
  obtain ⟨c3, c4, hc3, hc4, hasg⟩ := Cond.castable_spec hcast
  cases Option.some.inj (hc3.symm.trans hcl)
  obtain ⟨c5, hc5, hcl5⟩ := Cond.classLink_spec hown hlink e.platform hpl
  cases Option.some.inj (hc4.symm.trans hc5)
  obtain ⟨vm', X', st⟩ := X.thenCaughtThrough q (g := F0 m pc ls rest) rfl (Steps.refl _) (by rw [hT]; exact hcell) (by rw [hv]; rfl) (by obtain ⟨k9, h9, -⟩ := Vm.findClass_spec hcl; exact ⟨k9, h9⟩) pre x suf hsplit
    (fun z hz => by
      rcases hpass z hz with h | ⟨hz0, nm, hl1, hn1⟩
      · exact Or.inl h
      · obtain ⟨c6, hc6, hcl6⟩ := Cond.classLink_spec hown hl1 e.platform hpl
        obtain ⟨a8, b8, h1, h2, h3⟩ := hn1
        cases Option.some.inj (h1.symm.trans hcl)
        cases Option.some.inj (h2.symm.trans hc6)
        exact Or.inr ⟨hz0, _, hcl6, h3⟩) hx (Or.inr ⟨h0, c4, hcl5, hasg⟩)
  obtain ⟨t, a1, b1⟩ := kk (T.setVm vm') hT X'
  exact ⟨t, st.trans a1, b1⟩
end Rows
section Ends
variable {p : Program} {l : Launch} {e : Env} {R : Room} {s : State} {m : MethodId} {args : Array Value} {below : List Frame} {meth : Method} {c : Code} {H : Heap} {locs : List Loc} {cells slots : Nat} {Q : State → Prop}
variable {mc ms : Nat} {free : Addr → Prop} {A0 A1 : Nat → Prop} {H0 : Heap} {a : Array Value} {ls : Array Slot} {st0 rest : List Value}
variable {Qc : Array Value → State → Outcome → State → Prop} {XC : String → State → State → Prop}
/-- what a body that may throw owes at its end -/
def vx_MQ (below : List Frame) (Qc : Array Value → State → Outcome → State → Prop) (XC : String → State → State → Prop) (a : Array Value) (s : State) (mc ms : Nat) (free : Addr → Prop) : State → Prop := fun t =>
  ∃ o, t.status = .running ∧ Ended t below o ∧ vx_Q Qc XC mc ms free a s o t
theorem vx_ret {g : JFrame} {mc ms : Nat} (k : W p l e R s m args below meth c H locs cells slots (MQ below Qc args s mc ms free) g) : W p l e R s m args below meth c H locs cells slots (vx_MQ below Qc XC args s mc ms free) g := by
  intro T hT X
  obtain ⟨t, a1, o, b1, b2, b3, b4⟩ := k T hT X
  exact ⟨t, a1, o, b1, b2, Or.inl ⟨b3, b4⟩⟩
/-- not caught here: it goes on to the caller -/
theorem vx_widen {g : JFrame} {q : Addr} {k n : Nat} (h1 : cells ≤ k) (h2 : slots ≤ n) (kk : vx_W p l e R s m args below meth c H locs k n Q g q) : vx_W p l e R s m args below meth c H locs cells slots Q g q := fun T hT X => kk T hT (stand_widen X h1 h2)
theorem vx_out {pc : Nat} {E : String} {ce : Cell} {q : Addr} {mc ms : Nat} (hout : ∀ x ∈ c.exceptionTable.toList, covers x pc = false) (hlocks : meth.locks = false) (hcell : H[q]? = some ce) (hv : ce.vm = .none) (hcl : s.vm.findClass E = some ce.cls)
    (hx : ∀ t : State, t.heap = H → s.vm.Alike t.vm → XC E s t) (hf : ∀ z ∈ locs, free z.base) (hc : cells ≤ mc) (hs : slots ≤ ms) :
    vx_W p l e R s m args below meth c H locs cells slots (vx_MQ below Qc XC args s mc ms free) (F0 m pc ls rest) q := by
  intro T hT X
  obtain ⟨st1, hrun, hend, hW, hsm⟩ := X.leaveThrown q (g := F0 m pc ls rest) rfl rfl rfl hout hlocks
  have hcell9 : (T.setFrames (.throwing q :: below)).heap[q]? = some ce := by
    show T.heap[q]? = some ce
    rw [hT]; exact hcell
  exact ⟨_, st1, .threw q, hrun, hend, Or.inr ⟨q, rfl, E, ce, locs, hx _ hT hW.alike, hcell9, hv, hcl, hW, hsm.mono hc hs, hf⟩⟩
theorem vx_frame {U : State} {k n : Nat} (h : s.sameButNew ({ U with vm := s.vm } : State) locs k n) : s.heap.size ≤ U.heap.size ∧ ∀ q : Nat, q < s.heap.size → (∀ z ∈ locs, z.base ≠ q) → U.heap[q]? = s.heap[q]? := by
  obtain ⟨-, h2, -, -, -, h6⟩ := h
  refine ⟨h2, fun q hq hz => ?_⟩
  obtain ⟨c9, e1, e2, e3, e4⟩ := h6 q _ (Array.getElem?_eq_getElem hq)
  have hs : c9.slots = (s.heap[q]).slots := Array.ext_getElem? fun i => e4 i fun hm => hz _ hm rfl
  have h9 : c9 = s.heap[q] := by
    rw [hs] at e2
    exact e2
  have e5 : U.heap[q]? = some c9 := e1
  rw [e5, h9, Array.getElem?_eq_getElem hq]
/-- the words of a throw but the four that speak of the heap -/
def vx_no (w : Cond) : Bool := decide (w ≠ .isRef (.static Bundle.tN "UNASSIGNED_STACK" Bundle.steD)) && decide (w ≠ .isRef (.static Bundle.tN "SUPPRESSED_SENTINEL" Bundle.listD)) && decide (w ≠ .laysStatic Bundle.tN "UNASSIGNED_STACK" Bundle.steD) && decide (w ≠ .laysStatic Bundle.tN "SUPPRESSED_SENTINEL" Bundle.listD)
def vx_at0 (own : String) (ic : Nat) (X : String) (names : List String) : List Cond := (Bundle.ownAtoms0 own ic X names).filter vx_no
def vx_atS (own : String) (ic : Nat) (X : String) (names : List String) : List Cond := (Bundle.ownAtoms own ic X names).filter vx_no
/-- a word that the tables alone decide, or a good one -/
def vx_ot (w : Cond) : Bool := w.onTables || goodWord w
theorem vx_ot_at {args a' : Array Value} {s U : State} {w : Cond} (hW : s.WarmedH U.vm) (hvm : s.vm = U.vm) (hg : vx_ot w = true) (h : w.before args s = true) : w.before a' U = true := by
  simp only [vx_ot, Bool.or_eq_true] at hg
  rcases hg with hg | hg
  · exact va_tabs hg hvm h
  · exact word_at hW (good_of_word hg) h
/-- a list's words: the good ones out of the method's own list, the others by premises of their own -/
theorem vx_hat {args : Array Value} {s : State} {L B : List Cond} (h1 : ∀ w ∈ L.filter goodWord, w.before args s = true) (h2 : ∀ w ∈ L.filter (fun w => !goodWord w), w ∈ B) (h3 : ∀ w ∈ B, w.before args s = true) : ∀ w ∈ L, w.before args s = true := by
  intro w hw
  by_cases g : goodWord w = true
  · exact h1 w (List.mem_filter.mpr ⟨hw, g⟩)
  · refine h3 w (h2 w (List.mem_filter.mpr ⟨hw, ?_⟩))
    show (!goodWord w) = true
    cases hgw : goodWord w
    · rfl
    · exact absurd hgw g
theorem vx_c {args : Array Value} {s : State} {w : Cond} {B : List Cond} (h : w.before args s = true) (t : ∀ w ∈ B, w.before args s = true) : ∀ w' ∈ w :: B, w'.before args s = true := fun w' h' => (List.mem_cons.mp h').elim (fun e => by rw [e]; exact h) (t w')
theorem vx_n {args : Array Value} {s : State} : ∀ w ∈ ([] : List Cond), w.before args s = true := fun _ h => nomatch h
theorem vx_own {args : Array Value} {s : State} {L : List Cond} (h1 : ∀ w ∈ L.filter vx_no, w.before args s = true)
    (hU : (Cond.isRef (.static Bundle.tN "UNASSIGNED_STACK" Bundle.steD)).before args s = true) (hN : (Cond.isRef (.static Bundle.tN "SUPPRESSED_SENTINEL" Bundle.listD)).before args s = true)
    (lU : (Cond.laysStatic Bundle.tN "UNASSIGNED_STACK" Bundle.steD).before args s = true) (lN : (Cond.laysStatic Bundle.tN "SUPPRESSED_SENTINEL" Bundle.listD).before args s = true) : ∀ w ∈ L, w.before args s = true := by
  intro w hw
  by_cases e1 : w = .isRef (.static Bundle.tN "UNASSIGNED_STACK" Bundle.steD)
  · rw [e1]; exact hU
  · by_cases e2 : w = .isRef (.static Bundle.tN "SUPPRESSED_SENTINEL" Bundle.listD)
    · rw [e2]; exact hN
    · by_cases e3 : w = .laysStatic Bundle.tN "UNASSIGNED_STACK" Bundle.steD
      · rw [e3]; exact lU
      · by_cases e4 : w = .laysStatic Bundle.tN "SUPPRESSED_SENTINEL" Bundle.listD
        · rw [e4]; exact lN
        · exact h1 w (List.mem_filter.mpr ⟨hw, by unfold vx_no; rw [decide_eq_true e1, decide_eq_true e2, decide_eq_true e3, decide_eq_true e4]; rfl⟩)
/-- where a static field lies, its class's statics cell in H -/
def vx_L (C n d : String) (A : Nat → Prop) (U : State) (H : Heap) : Prop := ∃ (c : ClassId) (k : Class) (i : Nat) (f : Field) (a : Nat) (cell : Cell), U.vm.findClass C = some c ∧ U.fieldFound? C n d = some (c, k, i, f) ∧ f.isStatic = true ∧ k.statics = some a ∧ H[a]? = some cell ∧ cell.vm.isStatics = true ∧ cell.cls = c ∧ f.slot < cell.slots.size ∧ k.staticTypes[f.slot]? = some f.type ∧ ¬ A a
theorem vx_L.moved {C n d : String} {A : Nat → Prop} {u U : State} {H : Heap} (hvm : u.vm.Alike U.vm) (h : vx_L C n d A u H) : vx_L C n d A U H := by
  obtain ⟨c, k, i, f, a, cell, h1, h2, h3, h4, h5, h6, h7, h8, h9, h10⟩ := h
  obtain ⟨k', hi', he⟩ := State.fieldFound?_setVm hvm h2
  exact ⟨c, k', i, f, a, cell, by rw [hvm.findClass]; exact h1, hi', h3, by rw [he]; exact h4, h5, h6, h7, h8, by rw [he]; exact h9, h10⟩
theorem vx_L.kept {C n d : String} {A : Nat → Prop} {U : State} {H H1 : Heap} (h : vx_L C n d A U H) (hq : ∀ a : Nat, a < H.size → ¬ A a → H1[a]? = H[a]?) : vx_L C n d A U H1 := by
  obtain ⟨c, k, i, f, a, cell, h1, h2, h3, h4, h5, h6, h7, h8, h9, h10⟩ := h
  exact ⟨c, k, i, f, a, cell, h1, h2, h3, h4, by rw [hq a (Array.getElem?_eq_some_iff.mp h5).1 h10]; exact h5, h6, h7, h8, h9, h10⟩
theorem vx_L.narrow {C n d : String} {A B : Nat → Prop} {U : State} {H : Heap} (h : vx_L C n d A U H) (hAB : ∀ q, B q → A q) : vx_L C n d B U H := by
  obtain ⟨c, k, i, f, a, cell, h1, h2, h3, h4, h5, h6, h7, h8, h9, h10⟩ := h
  exact ⟨c, k, i, f, a, cell, h1, h2, h3, h4, h5, h6, h7, h8, h9, fun z => h10 (hAB _ z)⟩
theorem vx_L.word {C n d : String} {A : Nat → Prop} {s : State} {args : Array Value} (h : vx_L C n d A s s.heap) : (Cond.laysStatic C n d).before args s = true := by
  obtain ⟨c, k, i, f, a, cell, h1, h2, h3, h4, h5, h6, h7, h8, h9, -⟩ := h
  show (Cond.laysStatic C n d).holds args s none s [] = true
  exact Cond.laysStatic_of h1 h2 h3 h4 h5 h6 h7 h8 h9
/-- .. and what it holds: null or some reference -/
def vx_Zq (C n d : String) (A : Nat → Prop) (U : State) (H : Heap) : Prop := va_Zq C n d A U H ∧ vx_L C n d A U H
theorem vx_Zq.moved {C n d : String} {A : Nat → Prop} {u U : State} {H : Heap} (hvm : u.vm.Alike U.vm) (h : vx_Zq C n d A u H) : vx_Zq C n d A U H := ⟨va_Zq.moved hvm h.1, vx_L.moved hvm h.2⟩
theorem vx_Zq.kept {C n d : String} {A : Nat → Prop} {U : State} {H H1 : Heap} (h : vx_Zq C n d A U H) (hq : ∀ a : Nat, a < H.size → ¬ A a → H1[a]? = H[a]?) : vx_Zq C n d A U H1 := ⟨va_Zq.kept h.1 hq, vx_L.kept h.2 hq⟩
theorem vx_Zq.narrow {C n d : String} {A B : Nat → Prop} {U : State} {H : Heap} (h : vx_Zq C n d A U H) (hAB : ∀ q, B q → A q) : vx_Zq C n d B U H := ⟨va_Zq.narrow h.1 hAB, vx_L.narrow h.2 hAB⟩
theorem vx_Zqof {args : Array Value} {s : State} {C n d : String} {A : Nat → Prop} (hl : (Cond.laysStatic C n d).before args s = true) (hini : (Cond.initialized C).before args s = true) (h : (Cond.isRef (.static C n d)).before args s = true) (hA : ∀ a : Nat, a < s.heap.size → ¬ A a) : vx_Zq C n d A s s.heap := by
  refine ⟨va_Zqof hl hini h hA, ?_⟩
  obtain ⟨c, k, i, f, a, cell, h1, h2, h3, h4, h5, h6, h7, h8, h9⟩ := Cond.laysStatic_spec hl
  exact ⟨c, k, i, f, a, cell, h1, h2, h3, h4, h5, h6, h7, h8, h9, hA a (Array.getElem?_eq_some_iff.mp h5).1⟩
theorem vx_isRef {C n d : String} {v : Value} {A : Nat → Prop} {s : State} {args : Array Value} (h : va_Z C n d v A s s.heap) (hv : v.isRef = true) : (Cond.isRef (.static C n d)).before args s = true := by
  obtain ⟨cf, kf, fi, f, a, cell, h1, h2, h3, h4, h5, h6, h7, -⟩ := h
  have he : (Term.static C n d).eval args s none [] s = some v := by
    simp [Term.eval, State.fieldNamed?, h1, h2, h4, h5, h6, h7]
  simp only [Cond.before, Cond.holds, Cond.value, he]
  cases v <;> simp_all [Value.isRef]
theorem vx_isRefq {C n d : String} {A : Nat → Prop} {s : State} {args : Array Value} (h : va_Zq C n d A s s.heap) : (Cond.isRef (.static C n d)).before args s = true := by
  rcases h with h | ⟨t, h⟩
  · exact vx_isRef h rfl
  · exact vx_isRef h rfl
/-- the same frame, seen from here: as if the method were called anew in this heap -/
theorem vx_rebase {T : State} (X : Stand p l e R s m args below meth c T locs cells slots) {R' : Room} (hf : R'.frames ≤ R.frames) (hl : R'.locals ≤ R.locals) (hc : cells + R'.cells ≤ R.cells) (hs : slots + R'.slots ≤ R.slots) :
    Stand p l e R' ((T.setVm s.vm).setFrames (.invoking m args :: below)) m args below meth c T [] 0 0 := by
  have htop : (T.setVm s.vm).topJava?.isSome := X.here.top
  have hF : ((T.setVm s.vm).setFrames (.invoking m args :: below)).frames = .invoking m args :: below := State.frames_setFrames _ (State.cur_lt_of_top htop)
  obtain ⟨g₀, hg0⟩ := Option.isSome_iff_exists.mp htop
  obtain ⟨r, hr⟩ := State.topJava?_eq_some.mp hg0
  have hl9 : e.platform.stackLimits (T.setVm s.vm).me = e.platform.stackLimits s.me := X.limits
  have hb9 : (T.setVm s.vm).me.stackBytes = s.me.stackBytes := X.bytes
  refine ⟨X.admits, X.cas, X.clock, hF, ?_, X.hears, X.method, X.code, X.here, X.tail, X.warmed, ?_, ?_, ?_⟩
  · have h := X.room
    have hU : ((T.setVm s.vm).setFrames (.invoking m args :: below)).localsInUse = s.localsInUse := by
      rw [State.localsInUse_invoking hF (meth := meth) (c := c) X.method X.code, State.localsInUse_invoking X.frames X.method X.code]
    simp only [State.hasRoom, Bool.and_eq_true, decide_eq_true_eq] at h ⊢
    obtain ⟨⟨⟨⟨h1, h2, h3, h4, h5, h6⟩, h7⟩, h8⟩, h9⟩ := h
    rw [X.frames, List.length_cons] at h2 h3
    have q1 := X.heapSize
    have q2 := X.used
    simp only [hF, hU, List.length_cons, State.stackLimits_setFrames, State.stackBytes_setFrames, hl9, hb9]
    refine ⟨⟨⟨⟨by omega, by omega, by omega, by omega, by omega, h6⟩, ?_⟩, ?_⟩, X.book⟩
    · show T.heap.size + R'.cells ≤ e.platform.maxCells
      omega
    · show T.slotsUsed + R'.slots ≤ e.platform.maxSlots
      omega
  · rw [State.stackLimits_setFrames]; rfl
  · rw [State.stackBytes_setFrames]; rfl
  · refine ⟨?_, Nat.le_refl _, Nat.le_refl _, ?_, ?_, fun a c9 h9 => ⟨c9, h9, rfl, rfl, fun _ _ => rfl⟩⟩
    · obtain ⟨t, ht, -⟩ := State.frames_cons hr
      show T.setVm s.vm = { ((T.setVm s.vm).setFrames (.invoking m args :: below)).setFrames (T.setVm s.vm).frames with heap := T.heap, slotsUsed := T.slotsUsed }
      rw [State.setFrames_setFrames, State.setFrames_self ht]
      rfl
    · show T.slotsUsed = T.slotsUsed + ((T.heap.toList.drop T.heap.size).map (·.slots.size)).sum
      rw [List.drop_eq_nil_of_le (Nat.le_of_eq Array.length_toList)]
      rfl
    · show ((T.heap.toList.drop T.heap.size).map (·.slots.size)).sum ≤ 0
      rw [List.drop_eq_nil_of_le (Nat.le_of_eq Array.length_toList)]
      exact Nat.le_refl _
/-- 'throw new E()': new; dup; invokespecial; athrow -/
theorem vx_throw0 {cc : ByteArray} {pc : Nat} (hexec : p.tables.exec = Jvm.exec) (hb : c.code = cc) (hl : l.stackTraces = false) {own cls : String} {names : List String} {ik ic mc ms : Nat} {A : Nat → Prop}
    (hown : s.vm.findClass own = some m.cls) (hcls : Bundle.fit cls = true) (hnames : ∀ n ∈ names, Bundle.fit n = true)
    (hk : (Cond.classLink own ik cls).before args s = true) (hini : (Cond.initialized cls).before args s = true) (hat : ∀ w ∈ vx_at0 own ic cls names, w.before args s = true)
    (hgood : ∀ w ∈ Cond.classLink own ik cls :: Cond.initialized cls :: vx_at0 own ic cls names, vx_ot w = true)
    (hU : vx_Zq Bundle.tN "UNASSIGNED_STACK" Bundle.steD A s s.heap) (hN : vx_Zq Bundle.tN "SUPPRESSED_SENTINEL" Bundle.listD A s s.heap) (hS : va_S A s.heap H locs) (hsize : ls.size = c.maxLocals)
    (d0 : decode cc pc = .ok (.new ik, 3)) (d3 : decode cc (pc + 3) = .ok (.dup, 1)) (d4 : decode cc (pc + 4) = .ok (.invokespecial ic, 3)) (d7 : decode cc (pc + 7) = .ok (.athrow, 1))
    (hout : ∀ x ∈ c.exceptionTable.toList, covers x (pc + 7) = false)
    (hRframes : names.length + 3 < R.frames) (hRlocals : (rest.map fun v => v.category).sum + (13 * (names.length + 1) + 42) ≤ R.locals) (hRcells : cells + 1 ≤ R.cells) (hRslots : slots + 6 ≤ R.slots) (hlocks : meth.locks = false)
    (hx : ∀ t : State, s.vm.Alike t.vm → H.size ≤ t.heap.size → (∀ q : Nat, q < H.size → t.heap[q]? = H[q]?) → XC cls s t)
    (hf : ∀ z ∈ locs, free z.base) (hc : cells + 1 ≤ mc) (hs : slots + 6 ≤ ms) :
    W p l e R s m args below meth c H locs cells slots (vx_MQ below Qc XC args s mc ms free) (F0 m pc ls rest) := by
  intro T hT X
  have htr : e.platform.stackTraces = false := (show e.platform.stackTraces = l.stackTraces by rw [X.admits.platform]).trans hl
  have Y := vx_rebase X (R' := { frames := R.frames, locals := R.locals, cells := 1, slots := 6 }) (Nat.le_refl _) (Nat.le_refl _) hRcells hRslots
  obtain ⟨s', hA⟩ : ∃ z, z = (T.setVm s.vm).setFrames (.invoking m args :: below) := ⟨_, rfl⟩
  rw [← hA] at Y
  have hvm : s'.vm = s.vm := by rw [hA]; rfl
  have hhp : s'.heap = H := by rw [hA]; exact hT
  have hW0 : s.WarmedH s'.vm := by rw [hvm]; exact State.WarmedH.refl s
  have hat' : ∀ w ∈ vx_at0 own ic cls names, w.before args s' = true := fun w hw => vx_ot_at hW0 hvm.symm (hgood w (List.mem_cons_of_mem _ (List.mem_cons_of_mem _ hw))) (hat w hw)
  have hk' : (Cond.classLink own ik cls).before args s' = true := vx_ot_at hW0 hvm.symm (hgood _ List.mem_cons_self) hk
  have hini' : (Cond.initialized cls).before args s' = true := vx_ot_at hW0 hvm.symm (hgood _ (List.mem_cons_of_mem _ List.mem_cons_self)) hini
  have hU' : vx_Zq Bundle.tN "UNASSIGNED_STACK" Bundle.steD A s' s'.heap := by rw [hhp]; exact vx_Zq.moved hW0.alike (hU.kept hS.2.1)
  have hN' : vx_Zq Bundle.tN "SUPPRESSED_SENTINEL" Bundle.listD A s' s'.heap := by rw [hhp]; exact vx_Zq.moved hW0.alike (hN.kept hS.2.1)
  have h : ∀ w ∈ Bundle.ownAtoms0 own ic cls names, w.before args s' = true := vx_own hat' (vx_isRefq hU'.1) (vx_isRefq hN'.1) hU'.2.word hN'.2.word
  have hown' : s'.vm.findClass own = some m.cls := by rw [hvm]; exact hown
  have hins : (Cond.instantiable cls 6).before args s' = true := h _ (by simp [Bundle.ownAtoms0])
  obtain ⟨vm₁, cX, kX, hfX, hkX, -, -, X₁, st1⟩ := Y.newCold hexec (own := own) (C := cls) (index := ik) (n := 6) hown' hk' hins hini'
    (g := F0 m pc ls rest) rfl (by rw [hb]; exact d0) (Nat.le_refl _) (Nat.le_refl _)
  generalize hT1 : (T.setVm vm₁).pushCell { cls := cX, slots := kX.instanceTypes.map defaultValue, vm := .none } = T1 at X₁ st1
  have hcat : (Value.ref T.heap.size).category = 1 := rfl
  have hcellA : T1.heap[T.heap.size]? = some (freshCell cX kX) := by rw [← hT1]; exact State.heap_pushCell_size _ _
  have d3' : decode c.code (pc + 3) = .ok (.dup, 1) := by rw [hb]; exact d3
  obtain ⟨U, hsteps, hrun, hend, hW, hsame, ce, hce, hO⟩ := X₁.ctorThrow0 hexec htr (own := own) (cls := cls) (names := names) (ic := ic) hown' hcls hnames h (fun x hx => nomatch hx) hfX hkX hcellA (by rw [hhp, hT]; exact Nat.le_refl _)
    (g := { method := m, pc := pc + 4, locals := ls, stack := .ref T.heap.size :: .ref T.heap.size :: rest, locked := none }) rfl hsize rfl rfl (rest := rest) rfl
    (by rw [hb]; exact d4) (by rw [hb]; exact d7) hout hRframes (by simp only [List.map_cons, List.sum_cons, hcat]; omega) hlocks
  obtain ⟨f1, f2⟩ := vx_frame hsame
  rw [hhp] at f1 f2
  have hWs : s.WarmedH U.vm := State.WarmedH.trans hW0 hW
  have hcl : s.vm.findClass cls = some ce.cls := by
    have h9 := hO.cls
    rw [hvm] at h9
    exact h9
  have hall : s.sameButNew ({ U with vm := s.vm } : State) locs mc ms := by
    subst hA
    obtain ⟨e1, e2⟩ := hsame
    rw [State.setFrames_setFrames] at e1
    have h2 : (T.setVm s.vm).sameButNew ({ U with vm := s.vm } : State) [] (0 + 1) (0 + 6) := ⟨e1, e2⟩
    have h3 := X.same.trans h2
    rw [List.append_nil] at h3
    exact h3.mono hc hs
  refine ⟨U, ?_, .threw T.heap.size, hrun, hend, Or.inr ⟨T.heap.size, rfl, cls, ce, locs, hx U hWs.alike f1 (fun q hq => f2 q hq (fun z hz => nomatch hz)), hce, hO.vm, hcl, hWs, hall, hf⟩⟩
  refine st1 _ ?_
  show Steps p.tables e below (T1.setTop { method := m, pc := pc + 3, locals := ls, stack := .ref T.heap.size :: rest, locked := none }) _
  jvm_step X₁.here [X₁.here.top, hexec, d3', Value.category]
  exact hsteps
/-- 'throw new E("text")': new; dup; ldc; invokespecial; athrow -/
theorem vx_throwS {cc : ByteArray} {pc : Nat} (hexec : p.tables.exec = Jvm.exec) (hb : c.code = cc) (hl : l.stackTraces = false) {own cls text : String} {names : List String} {ik is ic mc ms sa : Nat} {A : Nat → Prop}
    (hown : s.vm.findClass own = some m.cls) (hcls : Bundle.fit cls = true) (hnames : ∀ n ∈ names, Bundle.fit n = true)
    (hk : (Cond.classLink own ik cls).before args s = true) (hini : (Cond.initialized cls).before args s = true) (hstr : vk_R own is text sa s) (hat : ∀ w ∈ vx_atS own ic cls names, w.before args s = true)
    (hgood : ∀ w ∈ Cond.classLink own ik cls :: Cond.initialized cls :: vx_atS own ic cls names, vx_ot w = true)
    (hU : vx_Zq Bundle.tN "UNASSIGNED_STACK" Bundle.steD A s s.heap) (hN : vx_Zq Bundle.tN "SUPPRESSED_SENTINEL" Bundle.listD A s s.heap) (hS : va_S A s.heap H locs) (hsize : ls.size = c.maxLocals)
    (d0 : decode cc pc = .ok (.new ik, 3)) (d3 : decode cc (pc + 3) = .ok (.dup, 1)) (d4 : decode cc (pc + 4) = .ok (.ldc is, 2)) (d6 : decode cc (pc + 6) = .ok (.invokespecial ic, 3)) (d9 : decode cc (pc + 9) = .ok (.athrow, 1))
    (hout : ∀ x ∈ c.exceptionTable.toList, covers x (pc + 9) = false)
    (hRframes : names.length + 3 < R.frames) (hRlocals : (rest.map fun v => v.category).sum + (13 * (names.length + 1) + 43) ≤ R.locals) (hRcells : cells + 1 ≤ R.cells) (hRslots : slots + 6 ≤ R.slots) (hlocks : meth.locks = false)
    (hx : ∀ t : State, s.vm.Alike t.vm → H.size ≤ t.heap.size → (∀ q : Nat, q < H.size → t.heap[q]? = H[q]?) → XC cls s t)
    (hf : ∀ z ∈ locs, free z.base) (hc : cells + 1 ≤ mc) (hs : slots + 6 ≤ ms) :
    W p l e R s m args below meth c H locs cells slots (vx_MQ below Qc XC args s mc ms free) (F0 m pc ls rest) := by
  intro T hT X
  have htr : e.platform.stackTraces = false := (show e.platform.stackTraces = l.stackTraces by rw [X.admits.platform]).trans hl
  have Y := vx_rebase X (R' := { frames := R.frames, locals := R.locals, cells := 1, slots := 6 }) (Nat.le_refl _) (Nat.le_refl _) hRcells hRslots
  obtain ⟨s', hA⟩ : ∃ z, z = (T.setVm s.vm).setFrames (.invoking m args :: below) := ⟨_, rfl⟩
  rw [← hA] at Y
  have hvm : s'.vm = s.vm := by rw [hA]; rfl
  have hhp : s'.heap = H := by rw [hA]; exact hT
  have hW0 : s.WarmedH s'.vm := by rw [hvm]; exact State.WarmedH.refl s
  have hat' : ∀ w ∈ vx_atS own ic cls names, w.before args s' = true := fun w hw => vx_ot_at hW0 hvm.symm (hgood w (List.mem_cons_of_mem _ (List.mem_cons_of_mem _ hw))) (hat w hw)
  have hk' : (Cond.classLink own ik cls).before args s' = true := vx_ot_at hW0 hvm.symm (hgood _ List.mem_cons_self) hk
  have hini' : (Cond.initialized cls).before args s' = true := vx_ot_at hW0 hvm.symm (hgood _ (List.mem_cons_of_mem _ List.mem_cons_self)) hini
  have hU' : vx_Zq Bundle.tN "UNASSIGNED_STACK" Bundle.steD A s' s'.heap := by rw [hhp]; exact vx_Zq.moved hW0.alike (hU.kept hS.2.1)
  have hN' : vx_Zq Bundle.tN "SUPPRESSED_SENTINEL" Bundle.listD A s' s'.heap := by rw [hhp]; exact vx_Zq.moved hW0.alike (hN.kept hS.2.1)
  have h : ∀ w ∈ Bundle.ownAtoms own ic cls names, w.before args s' = true := vx_own hat' (vx_isRefq hU'.1) (vx_isRefq hN'.1) hU'.2.word hN'.2.word
  have hown' : s'.vm.findClass own = some m.cls := by rw [hvm]; exact hown
  have hins : (Cond.instantiable cls 6).before args s' = true := h _ (by simp [Bundle.ownAtoms])
  obtain ⟨vm₁, cX, kX, hfX, hkX, -, -, X₁, st1⟩ := Y.newCold hexec (own := own) (C := cls) (index := ik) (n := 6) hown' hk' hins hini'
    (g := F0 m pc ls rest) rfl (by rw [hb]; exact d0) (Nat.le_refl _) (Nat.le_refl _)
  generalize hT1 : (T.setVm vm₁).pushCell { cls := cX, slots := kX.instanceTypes.map defaultValue, vm := .none } = T1 at X₁ st1
  have hcat : (Value.ref T.heap.size).category = 1 := rfl
  have hcellA : T1.heap[T.heap.size]? = some (freshCell cX kX) := by rw [← hT1]; exact State.heap_pushCell_size _ _
  have d3' : decode c.code (pc + 3) = .ok (.dup, 1) := by rw [hb]; exact d3
  have d4' : decode c.code (pc + 4) = .ok (.ldc is, 2) := by rw [hb]; exact d4
  have hstr' : vk_R own is text sa s' := vk_R.warm hW0 hstr
  obtain ⟨U, hsteps, hrun, hend, hW, hsame, ce, hce, hO⟩ := X₁.ctorThrowS hexec htr (own := own) (cls := cls) (names := names) (ic := ic) hown' hcls hnames h (fun x hx => nomatch hx) hfX hkX hcellA (by rw [hhp, hT]; exact Nat.le_refl _) (msg := .ref sa) rfl
    (g := { method := m, pc := pc + 6, locals := ls, stack := .ref sa :: .ref T.heap.size :: .ref T.heap.size :: rest, locked := none }) rfl hsize rfl rfl (rest := rest) rfl
    (by rw [hb]; exact d6) (by rw [hb]; exact d9) hout hRframes (by simp only [List.map_cons, List.sum_cons, hcat]; omega) hlocks
  obtain ⟨f1, f2⟩ := vx_frame hsame
  rw [hhp] at f1 f2
  have hWs : s.WarmedH U.vm := State.WarmedH.trans hW0 hW
  have hcl : s.vm.findClass cls = some ce.cls := by
    have h9 := hO.cls
    rw [hvm] at h9
    exact h9
  have hall : s.sameButNew ({ U with vm := s.vm } : State) locs mc ms := by
    subst hA
    obtain ⟨e1, e2⟩ := hsame
    rw [State.setFrames_setFrames] at e1
    have h2 : (T.setVm s.vm).sameButNew ({ U with vm := s.vm } : State) [] (0 + 1) (0 + 6) := ⟨e1, e2⟩
    have h3 := X.same.trans h2
    rw [List.append_nil] at h3
    exact h3.mono hc hs
  refine ⟨U, ?_, .threw T.heap.size, hrun, hend, Or.inr ⟨T.heap.size, rfl, cls, ce, locs, hx U hWs.alike f1 (fun q hq => f2 q hq (fun z hz => nomatch hz)), hce, hO.vm, hcl, hWs, hall, hf⟩⟩
  refine st1 _ ?_
  show Steps p.tables e below (T1.setTop { method := m, pc := pc + 3, locals := ls, stack := .ref T.heap.size :: rest, locked := none }) _
  jvm_step X₁.here [X₁.here.top, hexec, d3', Value.category]
  exact X₁.ldcString hexec (own := own) (text := text) (index := is) (a := sa) hown' hstr'.1 hstr'.2
    (g := { method := m, pc := pc + 4, locals := ls, stack := .ref T.heap.size :: .ref T.heap.size :: rest, locked := none }) rfl d4' _ hsteps
/-- 'throw new E("text")', the text by a wide index -/
theorem vx_throwSW {cc : ByteArray} {pc : Nat} (hexec : p.tables.exec = Jvm.exec) (hb : c.code = cc) (hl : l.stackTraces = false) {own cls text : String} {names : List String} {ik is ic mc ms sa : Nat} {A : Nat → Prop}
    (hown : s.vm.findClass own = some m.cls) (hcls : Bundle.fit cls = true) (hnames : ∀ n ∈ names, Bundle.fit n = true)
    (hk : (Cond.classLink own ik cls).before args s = true) (hini : (Cond.initialized cls).before args s = true) (hstr : vk_R own is text sa s) (hat : ∀ w ∈ vx_atS own ic cls names, w.before args s = true)
    (hgood : ∀ w ∈ Cond.classLink own ik cls :: Cond.initialized cls :: vx_atS own ic cls names, vx_ot w = true)
    (hU : vx_Zq Bundle.tN "UNASSIGNED_STACK" Bundle.steD A s s.heap) (hN : vx_Zq Bundle.tN "SUPPRESSED_SENTINEL" Bundle.listD A s s.heap) (hS : va_S A s.heap H locs) (hsize : ls.size = c.maxLocals)
    (d0 : decode cc pc = .ok (.new ik, 3)) (d3 : decode cc (pc + 3) = .ok (.dup, 1)) (d4 : decode cc (pc + 4) = .ok (.ldc_w is, 3)) (d7 : decode cc (pc + 7) = .ok (.invokespecial ic, 3)) (d10 : decode cc (pc + 10) = .ok (.athrow, 1))
    (hout : ∀ x ∈ c.exceptionTable.toList, covers x (pc + 10) = false)
    (hRframes : names.length + 3 < R.frames) (hRlocals : (rest.map fun v => v.category).sum + (13 * (names.length + 1) + 43) ≤ R.locals) (hRcells : cells + 1 ≤ R.cells) (hRslots : slots + 6 ≤ R.slots) (hlocks : meth.locks = false)
    (hx : ∀ t : State, s.vm.Alike t.vm → H.size ≤ t.heap.size → (∀ q : Nat, q < H.size → t.heap[q]? = H[q]?) → XC cls s t)
    (hf : ∀ z ∈ locs, free z.base) (hc : cells + 1 ≤ mc) (hs : slots + 6 ≤ ms) :
    W p l e R s m args below meth c H locs cells slots (vx_MQ below Qc XC args s mc ms free) (F0 m pc ls rest) := by
  intro T hT X
  have htr : e.platform.stackTraces = false := (show e.platform.stackTraces = l.stackTraces by rw [X.admits.platform]).trans hl
  have Y := vx_rebase X (R' := { frames := R.frames, locals := R.locals, cells := 1, slots := 6 }) (Nat.le_refl _) (Nat.le_refl _) hRcells hRslots
  obtain ⟨s', hA⟩ : ∃ z, z = (T.setVm s.vm).setFrames (.invoking m args :: below) := ⟨_, rfl⟩
  rw [← hA] at Y
  have hvm : s'.vm = s.vm := by rw [hA]; rfl
  have hhp : s'.heap = H := by rw [hA]; exact hT
  have hW0 : s.WarmedH s'.vm := by rw [hvm]; exact State.WarmedH.refl s
  have hat' : ∀ w ∈ vx_atS own ic cls names, w.before args s' = true := fun w hw => vx_ot_at hW0 hvm.symm (hgood w (List.mem_cons_of_mem _ (List.mem_cons_of_mem _ hw))) (hat w hw)
  have hk' : (Cond.classLink own ik cls).before args s' = true := vx_ot_at hW0 hvm.symm (hgood _ List.mem_cons_self) hk
  have hini' : (Cond.initialized cls).before args s' = true := vx_ot_at hW0 hvm.symm (hgood _ (List.mem_cons_of_mem _ List.mem_cons_self)) hini
  have hU' : vx_Zq Bundle.tN "UNASSIGNED_STACK" Bundle.steD A s' s'.heap := by rw [hhp]; exact vx_Zq.moved hW0.alike (hU.kept hS.2.1)
  have hN' : vx_Zq Bundle.tN "SUPPRESSED_SENTINEL" Bundle.listD A s' s'.heap := by rw [hhp]; exact vx_Zq.moved hW0.alike (hN.kept hS.2.1)
  have h : ∀ w ∈ Bundle.ownAtoms own ic cls names, w.before args s' = true := vx_own hat' (vx_isRefq hU'.1) (vx_isRefq hN'.1) hU'.2.word hN'.2.word
  have hown' : s'.vm.findClass own = some m.cls := by rw [hvm]; exact hown
  have hins : (Cond.instantiable cls 6).before args s' = true := h _ (by simp [Bundle.ownAtoms])
  obtain ⟨vm₁, cX, kX, hfX, hkX, -, -, X₁, st1⟩ := Y.newCold hexec (own := own) (C := cls) (index := ik) (n := 6) hown' hk' hins hini'
    (g := F0 m pc ls rest) rfl (by rw [hb]; exact d0) (Nat.le_refl _) (Nat.le_refl _)
  generalize hT1 : (T.setVm vm₁).pushCell { cls := cX, slots := kX.instanceTypes.map defaultValue, vm := .none } = T1 at X₁ st1
  have hcat : (Value.ref T.heap.size).category = 1 := rfl
  have hcellA : T1.heap[T.heap.size]? = some (freshCell cX kX) := by rw [← hT1]; exact State.heap_pushCell_size _ _
  have d3' : decode c.code (pc + 3) = .ok (.dup, 1) := by rw [hb]; exact d3
  have d4' : decode c.code (pc + 4) = .ok (.ldc_w is, 3) := by rw [hb]; exact d4
  have hstr' : vk_R own is text sa s' := vk_R.warm hW0 hstr
  obtain ⟨U, hsteps, hrun, hend, hW, hsame, ce, hce, hO⟩ := X₁.ctorThrowS hexec htr (own := own) (cls := cls) (names := names) (ic := ic) hown' hcls hnames h (fun x hx => nomatch hx) hfX hkX hcellA (by rw [hhp, hT]; exact Nat.le_refl _) (msg := .ref sa) rfl
    (g := { method := m, pc := pc + 7, locals := ls, stack := .ref sa :: .ref T.heap.size :: .ref T.heap.size :: rest, locked := none }) rfl hsize rfl rfl (rest := rest) rfl
    (by rw [hb]; exact d7) (by rw [hb]; exact d10) hout hRframes (by simp only [List.map_cons, List.sum_cons, hcat]; omega) hlocks
  obtain ⟨f1, f2⟩ := vx_frame hsame
  rw [hhp] at f1 f2
  have hWs : s.WarmedH U.vm := State.WarmedH.trans hW0 hW
  have hcl : s.vm.findClass cls = some ce.cls := by
    have h9 := hO.cls
    rw [hvm] at h9
    exact h9
  have hall : s.sameButNew ({ U with vm := s.vm } : State) locs mc ms := by
    subst hA
    obtain ⟨e1, e2⟩ := hsame
    rw [State.setFrames_setFrames] at e1
    have h2 : (T.setVm s.vm).sameButNew ({ U with vm := s.vm } : State) [] (0 + 1) (0 + 6) := ⟨e1, e2⟩
    have h3 := X.same.trans h2
    rw [List.append_nil] at h3
    exact h3.mono hc hs
  refine ⟨U, ?_, .threw T.heap.size, hrun, hend, Or.inr ⟨T.heap.size, rfl, cls, ce, locs, hx U hWs.alike f1 (fun q hq => f2 q hq (fun z hz => nomatch hz)), hce, hO.vm, hcl, hWs, hall, hf⟩⟩
  refine st1 _ ?_
  show Steps p.tables e below (T1.setTop { method := m, pc := pc + 3, locals := ls, stack := .ref T.heap.size :: rest, locked := none }) _
  jvm_step X₁.here [X₁.here.top, hexec, d3', Value.category]
  exact X₁.ldcStringW hexec (own := own) (text := text) (index := is) (a := sa) hown' hstr'.1 hstr'.2
    (g := { method := m, pc := pc + 4, locals := ls, stack := .ref T.heap.size :: .ref T.heap.size :: rest, locked := none }) rfl d4' _ hsteps
end Ends
section Bodies
variable {l : Launch}
theorem vx_ofW {y : MethodName} {ws ws' : List Cond} {rm : Room} {Pc : Array Value → State → Prop} {Qc : Array Value → State → Outcome → State → Prop} {XC : String → State → State → Prop} {mc ms : Nat} {free : Addr → Prop} {cc : ByteArray} {maxL : Nat} {ret : Option FieldType}
    (hy : plainName y.cls = true) (hw : ws = Cond.code y cc maxL ret :: ws')
    (body : ∀ p e s m args below meth c s₁, BodyLoose p l y (headSpec ws rm) cc maxL ret e s m args below meth c s₁ → c.maxLocals = maxL → (∀ x ∈ c.exceptionTable.toList, False) → Pc args s →
      W p l e (headSpec ws rm).room s m args below meth c s.heap [] 0 0 (vx_MQ below Qc XC args s mc ms free) (entryFrame m args maxL)) : vx_Met l y ws rm Pc Qc XC mc ms free := by
  refine MetFree.of_bodyS (code := cc) (maxLocals := maxL) (ret := ret) hy ?_ ?_
  · intro args s m h hn
    obtain ⟨meth, c, h1, h2, h3, h4, h5, h6, -, -⟩ := Cond.code_spec hn (atoms_spec (ws := ws) h _ (by rw [hw]; exact List.mem_cons_self))
    exact ⟨meth, c, h1, h2, h3, h4, h5, h6⟩
  · intro p e s m args below meth c s₁ B hml hP _
    have hh0 : s₁.heap = s.heap := by rw [B.state]; rfl
    have ht : ∀ x ∈ c.exceptionTable.toList, False := by
      obtain ⟨meth9, c9, h1, h2, -, -, -, -, h7, -⟩ := Cond.code_spec B.named (atoms_spec (ws := ws) B.pre _ (by rw [hw]; exact List.mem_cons_self))
      cases Option.some.inj (h1.symm.trans B.method)
      cases Option.some.inj (h2.symm.trans (Stand.of_body B).code)
      intro x hx
      rw [Array.isEmpty_iff.mp h7] at hx
      cases hx
    obtain ⟨t, a1, o, b1, b2, b3⟩ := body p e s m args below meth c s₁ B hml ht hP s₁ hh0 (Stand.of_body B)
    exact ⟨t, o, a1, b1, b2, b3⟩
/-- the table of a body with handlers -/
theorem vx_table {p : Program} {x y : MethodName} {S : Spec} {cc bytes : ByteArray} {maxL maxL' : Nat} {ret ret' : Option FieldType} {e : Env} {s s₁ : State} {m : MethodId} {args : Array Value} {below : List Frame} {meth : Method} {c : Code} {hh : List (Nat × Nat × Nat × Nat)}
    (B : BodyLoose p l y S cc maxL ret e s m args below meth c s₁) (h : (Cond.codeWith y bytes maxL' ret' hh).before args s = true) : c.exceptionTable.toList = tableOf hh := by
  obtain ⟨m9, meth9, c9, hn9, h1, h2, -, -, h6, -⟩ := Cond.codeWith_spec h
  cases Option.some.inj (hn9.symm.trans B.named)
  cases Option.some.inj (h1.symm.trans B.method)
  cases Option.some.inj (h2.symm.trans (Stand.of_body B).code)
  rw [← h6, table_eq]
end Bodies
end VXA
/-! ===== END ===== -/
/-! ===== BEGIN a static call of a method with an exception table ===== -/
section VXS
variable {p : Program} {l : Launch} {e : Env} {R : Room} {s : State} {m : MethodId} {args : Array Value} {below : List Frame} {meth : Method} {c : Code} {T : State} {H : Heap} {locs : List Loc} {cells slots : Nat}
abbrev vx_CSW (R : Room) (s : State) (args : Array Value) (own : String) (index : Nat) (y : MethodName) (bytes : ByteArray) (maxL : Nat) (ret : Option FieldType) (hh : List (Nat × Nat × Nat × Nat)) (ws : List Cond) (rm : Room) (mc ms n : Nat) : Prop :=
  (rm.cells = mc ∧ rm.slots = ms ∧ rm.frames + 1 ≤ R.frames ∧ 8 + (maxL + 11) + rm.locals ≤ R.locals ∧ (∀ w ∈ ws, ∀ (a' : Array Value) (U : State), s.WarmedH U.vm → w.before a' U = true) ∧ Cond.codeWith y bytes maxL ret hh ∈ ws) ∧
  (Cond.codeWith y bytes maxL ret hh).before args s = true ∧ (Cond.initialized y.cls).before args s = true ∧ (y.cls ≠ "java/lang/invoke/MethodHandle" ∧ y.cls ≠ "java/lang/invoke/VarHandle") ∧
  (∀ sig, parseMethodDescriptor y.desc = some sig → n = sig.parameters.length) ∧ (Cond.methodLink own index y).before args s = true ∧ (Cond.static y).before args s = true
theorem vx_cwSW {own : String} {index maxL mc ms : Nat} {y : MethodName} {bytes : ByteArray} {ret : Option FieldType} {hh : List (Nat × Nat × Nat × Nat)} {Ts ws ws' : List Cond} {rm : Room} (n : Nat) (ht : ∀ w ∈ Ts, w.before args s = true) (hT : GoodIn Ts (va_wsS own index y ws)) (hw : ws = Cond.codeWith y bytes maxL ret hh :: ws') (hrc : rm.cells = mc) (hrs : rm.slots = ms)
    (hd : y.cls ≠ "java/lang/invoke/MethodHandle" ∧ y.cls ≠ "java/lang/invoke/VarHandle" ∧ (parseMethodDescriptor y.desc).map (fun d => d.parameters.length) = some n) (hR : rm.frames + 1 ≤ R.frames ∧ 8 + (maxL + 11) + rm.locals ≤ R.locals) :
    vx_CSW R s args own index y bytes maxL ret hh ws rm mc ms n := by
  have ok : ∀ w ∈ va_wsS own index y ws, w.before args s = true := fun w h => ht w (hT w h).1
  have hG : GoodIn Ts ws := fun w h => hT w (by unfold va_wsS; exact List.mem_append_right _ h)
  have hc : Cond.codeWith y bytes maxL ret hh ∈ ws := by rw [hw]; exact List.mem_cons_self
  refine ⟨⟨hrc, hrs, hR.1, hR.2, pay_in ht hG, hc⟩, ht _ (hG _ hc).1, ok _ (by simp [va_wsS]), ⟨hd.1, hd.2.1⟩, fun sig h => ?_, ok _ (by simp [va_wsS]), ok _ (by simp [va_wsS])⟩
  have h2 := hd.2.2
  rw [h] at h2
  exact (Option.some.inj h2).symm
theorem vx_callSW (X : Stand p l e R s m args below meth c T locs cells slots) (hexec : p.tables.exec = Jvm.exec) {own : String} {index : Nat} {y : MethodName} {bytes : ByteArray} {maxL : Nat} {ret : Option FieldType} {hh : List (Nat × Nat × Nat × Nat)}
    (hown : s.vm.findClass own = some m.cls) (hlink : (Cond.methodLink own index y).before args s = true) (hstat : (Cond.static y).before args s = true) (hinit : (Cond.initialized y.cls).before args s = true)
    (hcode : (Cond.codeWith y bytes maxL ret hh).before args s = true) (hy : y.cls ≠ "java/lang/invoke/MethodHandle" ∧ y.cls ≠ "java/lang/invoke/VarHandle")
    {W9 : Nat} {Pre : Pt → Array Value → Prop} {Post : Pt → Array Value → Option Value → Pt → Prop} (hK : Back l R p e below s args y 3 W9 Pre Post)
    {g : JFrame} (hg : g.method = m) (hsize : g.locals.size = c.maxLocals) {argsL rest : List Value} (hlen : ∀ sig, parseMethodDescriptor y.desc = some sig → argsL.length = sig.parameters.length)
    (hstack : g.stack = argsL.reverse ++ rest) (hW : 2 * g.monitorRoom + (rest.map fun v => v.category).sum ≤ W9) (hdg : decode c.code g.pc = .ok (.invokestatic index, 3))
    (hpre : ∀ vm₁, s.WarmedH vm₁ → Pre ⟨T.setVm vm₁, locs, cells, slots⟩ argsL.toArray) :
    ∃ (v : Option Value) (vm₁ : Vm) (B : Pt), s.WarmedH vm₁ ∧ Stand p l e R s m args below meth c B.U B.locs B.cells B.slots ∧ Post ⟨T.setVm vm₁, locs, cells, slots⟩ argsL.toArray v B ∧
      ∀ target, Steps p.tables e below (B.U.setTop { g with pc := g.pc + 3, stack := v.toList ++ rest }) target → Steps p.tables e below (T.setTop g) target := by
  obtain ⟨mk, methM, cM, hnamed, hmethM, -, -, -, -, -, -, hsigM⟩ := Cond.codeWith_spec hcode
  have hstatic : methM.isStatic = true := Cond.static_spec hnamed hmethM hstat
  obtain ⟨kP, hkP, -⟩ := className_of_methodNamed hnamed
  have hinitP : kP.init = .initialized := Cond.initialized_spec (findClass_of_methodNamed hnamed) hkP hinit
  obtain ⟨vm₁, X₁, hstep₁⟩ := X.invokestatic hexec hown hlink hnamed hmethM hstatic hkP hinitP hy (g := g) hg (argsL := argsL) (rest := rest) (hlen _ hsigM) hstack hdg
  obtain ⟨v, B, X', hpost, hsteps⟩ := hK m meth c ⟨T.setVm vm₁, locs, cells, slots⟩ { g with stack := rest } (.invokestatic index) mk argsL.toArray X₁ hg hsize hdg hW (X₁.named hnamed) (hpre vm₁ X₁.warmed)
  exact ⟨v, vm₁, B, X₁.warmed, X', hpost, fun target h => hstep₁ _ fun acts => by rw [doInvoke_state]; exact hsteps.trans h⟩
theorem vx_runSW {y : MethodName} {bytes cc : ByteArray} {maxL nL mc ms n index : Nat} {ret : Option FieldType} {hh : List (Nat × Nat × Nat × Nat)} {ws : List Cond} {rm : Room} {Pc : Array Value → State → Prop} {Qc : Array Value → State → Outcome → State → Prop} {free : Addr → Prop} {Ts : List Cond} {own : String} {As rest : List Value} {g : JFrame}
    (S : CallFix p m c cc nL s args Ts own) (hM : Met l y ws rm Pc Qc mc ms free) (cw : vx_CSW R s args own index y bytes maxL ret hh ws rm mc ms n) (hp : PreS s H Pc As)
    (hg : g.method = m) (hn : As.length = n) (hsize : g.locals.size = nL) (hstack : g.stack = As.reverse ++ rest) (hW : 2 * g.monitorRoom + (rest.map fun v => v.category).sum ≤ 8) (hdg : decode cc g.pc = .ok (.invokestatic index, 3)) (hf : cells + mc ≤ R.cells ∧ slots + ms ≤ R.slots) :
    va_Run p l e R s m args below meth c H locs cells slots mc ms g rest (Qc As.toArray) (free) := by
  obtain ⟨⟨hrc, hrs, hfr, hlo, hws, hcw⟩, hcode, hini, hy, hlen, hl, hstt⟩ := cw
  have hK : Back l R p e below s args y 3 8 (PreOf R mc ms Pc) (PostOf Qc mc ms free) := va_backW (hh := hh) (bytes := bytes) (maxL := maxL) (ret := ret) hM hp.1 hrc hrs hfr hlo hws hcw (fun a' U hW => word_at hW (Or.inl (by first | rfl | simp [Cond.onTables, Cond.keeps, Cond.steady])) hini)
  obtain ⟨hx, hb, hml, ho, -⟩ := S
  intro T hT X
  obtain ⟨v, vm₁, ⟨U', l2, c2, s2⟩, hW₁, X', ⟨g', mk, t, L, e1, e2, hq, h1, hL, h2, h3⟩, st⟩ := vx_callSW X hx (hh := hh) (bytes := bytes) (maxL := maxL) (ret := ret) ho hl hstt hini hcode hy hK hg (hsize.trans hml.symm) (argsL := As) (rest := rest) (fun sig h => hn.trans (hlen sig h)) hstack hW (by rw [hb]; exact hdg)
    (fun vm₁ hW₁ => ⟨hf.1, hf.2, hp.2 (T.setVm vm₁) hT hW₁⟩)
  dsimp only [Pt.U, Pt.locs, Pt.cells, Pt.slots] at X' e1 e2 h1 h2 h3 st
  subst h1; subst h2; subst h3
  exact ⟨v, (T.setVm vm₁).calling g' mk As.toArray, t, U', L, hT, X', hL, e1, e2, hq, st⟩
/-- not caught here, past rows that name other classes: it goes on to the caller -/
theorem vx_outP {p : Program} {l : Launch} {e : Env} {R : Room} {s : State} {m : MethodId} {args : Array Value} {below : List Frame} {meth : Method} {c : Code} {H : Heap} {locs : List Loc} {cells slots : Nat} {free : Addr → Prop} {ls : Array Slot} {rest : List Value} {Qc : Array Value → State → Outcome → State → Prop} {XC : String → State → State → Prop}
    {pc : Nat} {own E : String} {ce : Cell} {q : Addr} {mc ms : Nat} (hown : s.vm.findClass own = some m.cls) (hlocks : meth.locks = false)
    (hpass : ∀ z ∈ c.exceptionTable.toList, covers z pc = false ∨ (z.catchType ≠ 0 ∧ ∃ nm : String, (Cond.classLink own z.catchType nm).before args s = true ∧ va_Nc E nm s)) (hcell : H[q]? = some ce) (hv : ce.vm = .none) (hcl : s.vm.findClass E = some ce.cls)
    (hx : ∀ t : State, t.heap = H → s.vm.Alike t.vm → XC E s t) (hf : ∀ z ∈ locs, free z.base) (hc : cells ≤ mc) (hs : slots ≤ ms) :
    vx_W p l e R s m args below meth c H locs cells slots (vx_MQ below Qc XC args s mc ms free) (F0 m pc ls rest) q := by
  intro T hT X
  have hpl : e.platform.magicAccessors = ({} : Platform).magicAccessors := by rw [X.admits.platform]
  obtain ⟨vm', hW', X', st⟩ := X.outThrough hlocks q (g := F0 m pc ls rest) rfl rfl rfl (cell := ce) (by rw [hT]; exact hcell) (by rw [hv]; rfl)
    (by obtain ⟨k9, h9, -⟩ := Vm.findClass_spec hcl; exact ⟨k9, h9⟩) (fun z hz => by
      rcases hpass z hz with h | ⟨hz0, nm, hl1, hn1⟩
      · exact Or.inl h
      · obtain ⟨c6, hc6, hcl6⟩ := Cond.classLink_spec hown hl1 e.platform hpl
        obtain ⟨a8, b8, h1, h2, h3⟩ := hn1
        cases Option.some.inj (h1.symm.trans hcl)
        cases Option.some.inj (h2.symm.trans hc6)
        exact Or.inr ⟨hz0, _, hcl6, h3⟩)
  obtain ⟨g₀, hfr⟩ := X'.frames_eq
  have hcell9 : ((T.setVm vm').setFrames (.throwing q :: below)).heap[q]? = some ce := by
    show T.heap[q]? = some ce
    rw [hT]; exact hcell
  have hend : Ended ((T.setVm vm').setFrames (.throwing q :: below)) below (.threw q) := State.frames_setFrames _ (State.cur_lt_of_frames hfr)
  refine ⟨(T.setVm vm').setFrames (.throwing q :: below), ?_, .threw q, X'.here.running, hend, Or.inr ⟨q, rfl, E, ce, locs, hx _ hT (X'.ends _).1.alike, hcell9, hv, hcl, (X'.ends _).1, (X'.ends _).2.mono hc hs, hf⟩⟩
  rw [X.pushThrowing_eq]
  exact st
/-- a thing of a world lies in the heap -/
theorem vx_lt {D : va_G} {cl : List vw_C} {ws : va_W} {H1 : Heap} (h : va_P D cl ws H1) {k : Nat} {q : Nat × va_E} (hk : ws[k]? = some q) : q.1 < H1.size := (h k q hk).lt
end VXS
/-! ===== END ===== -/
/-! ===== BEGIN methods with a table of their own: called by a name, returning or throwing ===== -/
section VXH
/-! vx_backW, vx_callVX, vx_callSX, vx_callVW, vx_runVW, vx_runVX, vx_runSX, vx_ofWH follow the same proofs as their sisters above (Free/Laws.lean, Shelf42/LK1.lean); vx_outP calls Shelf42/NT130.lean (outThrough). -/
section
variable {l : Launch} {R : Room} {p : Program} {e : Env} {below : List Frame} {s : State} {sargs : Array Value} {y : MethodName} {len W9 : Nat}
theorem vx_backW {ws : List Cond} {rm : Room} {Pc : Array Value → State → Prop} {Qc : Array Value → State → Outcome → State → Prop} {XC : String → State → State → Prop} {mc ms : Nat} {free : Addr → Prop} {bytes : ByteArray} {maxL : Nat} {ret : Option FieldType} {hh : List (Nat × Nat × Nat × Nat)}
    (hM : vx_Met l y ws rm Pc Qc XC mc ms free) (hblind : FrameBlind Pc) (hrc : rm.cells = mc) (hrs : rm.slots = ms)
    (hframes : rm.frames + 1 ≤ R.frames) (hlocals : W9 + (maxL + 11) + rm.locals ≤ R.locals)
    (hws : ∀ w ∈ ws, ∀ a' U, s.WarmedH U.vm → w.before a' U = true) (hcode : Cond.codeWith y bytes maxL ret hh ∈ ws) (hinit : ∀ a' U, s.WarmedH U.vm → (Cond.initialized y.cls).before a' U = true) :
    vx_Back l R p e below s sargs y len W9 (PreOf R mc ms Pc) (PostOf Qc mc ms free) (vx_Post XC mc ms free) := by
  intro m meth c A g ig mk a X hg hsize hdg hW hn hp
  have h1 : (headSpec ws rm).pre.before a A.U = true := atoms_intro fun w hw => hws w hw _ _ X.warmed
  have h2 : (Cond.codeWith y bytes maxL ret hh).before a A.U = true := hws _ hcode _ _ X.warmed
  have h3 : (Cond.initialized y.cls).before a A.U = true := hinit _ _ X.warmed
  have h4 : A.cells + (headSpec ws rm).room.cells ≤ R.cells := by rw [show (headSpec ws rm).room.cells = mc from hrc]; exact hp.1
  have h5 : A.slots + (headSpec ws rm).room.slots ≤ R.slots := by rw [show (headSpec ws rm).room.slots = ms from hrs]; exact hp.2.1
  have hPc : Pc a (A.U.calling g mk a) := hblind _ _ _ _ hp.2.2
  obtain ⟨U, Ls, c0, s0⟩ := A
  dsimp only [Pt.U, Pt.locs, Pt.cells, Pt.slots] at h1 h2 h3 h4 h5 X hn hPc ⊢
  obtain ⟨m9, methY, cY, hn9, hmY, hcY, -, hlY, -⟩ := Cond.codeWith_spec h2
  cases Option.some.inj (hn9.symm.trans hn)
  obtain ⟨kY, hkY, -⟩ := className_of_methodNamed hn
  have hinitY : kY.init = .initialized := Cond.initialized_spec (findClass_of_methodNamed hn) hkY h3
  have h : At U g.method c below := by rw [hg]; exact X.here
  have hlocals9 : W9 + (maxL + 11) + (headSpec ws rm).room.locals ≤ R.locals := hlocals
  have happ : (headSpec ws rm).appliesLoose y e.platform (U.calling g mk a) = true :=
    Spec.appliesLoose_calling (g := g) h hdg hn hkY hinitY
      (X.room_calling (g := g) (R' := (headSpec ws rm).room) hsize hmY hcY hframes (by rw [hlY]; omega) h4 h5) h1
  obtain ⟨mid, hmid⟩ := h.above
  have hfr : (U.setTop g).frames = (.java g :: mid) ++ below := by rw [State.frames_setTop' g h.top, hmid]; rfl
  obtain ⟨o, s₂, hsteps, -, hend, hq⟩ := Steps.callFree hM p X.admits X.cas X.clock (acts := []) hfr happ hPc trivial
  have hq' : vx_Q Qc XC mc ms free a (U.calling g mk a) o s₂ := hq
  rw [State.frames_setTop' g h.top] at hend
  obtain ⟨g₀, hg0⟩ := Option.isSome_iff_exists.mp h.top
  obtain ⟨r, hr⟩ := State.topJava?_eq_some.mp hg0
  have hr' : (({ U with heap := s₂.heap, slotsUsed := s₂.slotsUsed } : State).setVm s₂.vm).frames = .java g₀ :: r := hr
  rcases hq' with ⟨hqc, L, hfe, hL⟩ | ⟨q, rfl, E, ce, L, hx, hce, hcv, hcl, hW₂, hsm, hL⟩
  · obtain ⟨⟨v, rfl⟩, hW₂, e2, q2, q3, q4, q5, q6⟩ := id hfe
    have e3 : s₂ = ({ (U.calling g mk a).setFrames s₂.frames with heap := s₂.heap, slotsUsed := s₂.slotsUsed } : State).setVm s₂.vm := by
      have : s₂ = ({ s₂ with vm := (U.calling g mk a).vm } : State).setVm s₂.vm := rfl
      rw [e2] at this
      exact this
    obtain ⟨c₂, i₂, len₂, hc₂, hd₂, hf₂⟩ := hend
    have hW' : U.WarmedH s₂.vm := hW₂
    have hcc : c₂ = c := by
      have h1 : s₂.code? g.method = U.code? g.method := by
        rw [State.code?_eq, State.code?_eq, hW'.alike.method?]
      exact Option.some.inj (hc₂.symm.trans (h1.trans h.code))
    subst hcc
    have hlen : len₂ = len := by rw [hdg] at hd₂; cases hd₂; rfl
    subst hlen
    have hs₂ : s₂ = (({ U with heap := s₂.heap, slotsUsed := s₂.slotsUsed } : State).setVm s₂.vm).setTop { g with pc := g.pc + len₂, stack := v.toList ++ g.stack } := by
      refine e3.trans ?_
      rw [hf₂, State.calling_eq h.top, State.setFrames_setFrames, State.setTop_of_frames _ hr', hr]
      rfl
    have hsame : U.sameButNew ({ U with heap := s₂.heap, slotsUsed := s₂.slotsUsed } : State) L mc ms := by
      refine ⟨?_, q2, q3, q4, q5, q6⟩
      obtain ⟨t, ht, -⟩ := State.frames_cons hr
      show ({ U with heap := s₂.heap, slotsUsed := s₂.slotsUsed } : State) = { U.setFrames U.frames with heap := s₂.heap, slotsUsed := s₂.slotsUsed }
      rw [State.setFrames_self ht]
    subst hg
    refine Or.inl ⟨v, ⟨(({ U with heap := s₂.heap, slotsUsed := s₂.slotsUsed } : State).setVm s₂.vm), Ls ++ L, c0 + mc, s0 + ms⟩,
      ⟨X.admits, X.cas, X.clock, X.frames, X.room, X.hears, X.method, X.code, (X.here.setHeapUsed s₂.heap s₂.slotsUsed).setVm hW'.alike, X.tail, State.WarmedH.trans X.warmed hW', X.limits, X.bytes, X.same.trans (hsame.setVm s.vm)⟩,
      ⟨g, mk, s₂, L, rfl, rfl, hqc, rfl, hL, rfl, rfl⟩, ?_⟩
    show Steps p.tables e below _ ((({ U with heap := s₂.heap, slotsUsed := s₂.slotsUsed } : State).setVm s₂.vm).setTop { g with pc := g.pc + len₂, stack := v.toList ++ g.stack })
    rw [← hs₂]
    exact hsteps
  · obtain ⟨e2, q2, q3, q4, q5, q6⟩ := id hsm
    have e3 : s₂ = ({ (U.calling g mk a).setFrames s₂.frames with heap := s₂.heap, slotsUsed := s₂.slotsUsed } : State).setVm s₂.vm := by
      have : s₂ = ({ s₂ with vm := (U.calling g mk a).vm } : State).setVm s₂.vm := rfl
      rw [e2] at this
      exact this
    have hf₂ : s₂.frames = .throwing q :: .java g :: U.frames.tail := hend
    have hW' : U.WarmedH s₂.vm := hW₂
    have hs₂ : s₂ = ((({ U with heap := s₂.heap, slotsUsed := s₂.slotsUsed } : State).setVm s₂.vm).setTop g).pushFrame (.throwing q) := by
      refine e3.trans ?_
      rw [hf₂, State.calling_eq h.top, State.setFrames_setFrames, State.pushFrame, State.frames_setTop _ hr', State.setTop_of_frames _ hr', State.setFrames_setFrames, hr]
      rfl
    have hsame : U.sameButNew ({ U with heap := s₂.heap, slotsUsed := s₂.slotsUsed } : State) L mc ms := by
      refine ⟨?_, q2, q3, q4, q5, q6⟩
      obtain ⟨t, ht, -⟩ := State.frames_cons hr
      show ({ U with heap := s₂.heap, slotsUsed := s₂.slotsUsed } : State) = { U.setFrames U.frames with heap := s₂.heap, slotsUsed := s₂.slotsUsed }
      rw [State.setFrames_self ht]
    subst hg
    refine Or.inr ⟨q, ⟨(({ U with heap := s₂.heap, slotsUsed := s₂.slotsUsed } : State).setVm s₂.vm), Ls ++ L, c0 + mc, s0 + ms⟩,
      ⟨X.admits, X.cas, X.clock, X.frames, X.room, X.hears, X.method, X.code, (X.here.setHeapUsed s₂.heap s₂.slotsUsed).setVm hW'.alike, X.tail, State.WarmedH.trans X.warmed hW', X.limits, X.bytes, X.same.trans (hsame.setVm s.vm)⟩,
      ⟨g, mk, s₂, L, E, ce, rfl, rfl, hx, hce, hcv, hcl, rfl, hL, rfl, rfl⟩, ?_⟩
    show Steps p.tables e below _ (((({ U with heap := s₂.heap, slotsUsed := s₂.slotsUsed } : State).setVm s₂.vm).setTop g).pushFrame (.throwing q))
    rw [← hs₂]
    exact hsteps
end
variable {p : Program} {l : Launch} {e : Env} {R : Room} {s : State} {m : MethodId} {args : Array Value} {below : List Frame} {meth : Method} {c : Code} {T : State} {H : Heap} {locs : List Loc} {cells slots : Nat}
theorem vx_callVX (X : Stand p l e R s m args below meth c T locs cells slots) (hexec : p.tables.exec = Jvm.exec) {own C : String} {index : Nat} {y : MethodName} {bytes : ByteArray} {maxL : Nat} {ret : Option FieldType} {hh : List (Nat × Nat × Nat × Nat)}
    (hown : s.vm.findClass own = some m.cls) (hlink : (Cond.methodLink own index y).before args s = true) (hinst : (Cond.instanceMethod y).before args s = true) (hsel : (Cond.selects C y y).before args s = true)
    (hcode : (Cond.codeWith y bytes maxL ret hh).before args s = true) (hy : y.cls ≠ "java/lang/invoke/MethodHandle" ∧ y.cls ≠ "java/lang/invoke/VarHandle")
    {W9 : Nat} {Pre : Pt → Array Value → Prop} {Post : Pt → Array Value → Option Value → Pt → Prop} {PostX : Pt → Array Value → Addr → Pt → Prop} (hK : vx_Back l R p e below s args y 3 W9 Pre Post PostX)
    {b : Addr} {cellB : Cell} (hcell : T.heap[b]? = some cellB) (hobj : cellB.vm.isStatics = false) (hcls : s.vm.findClass C = some cellB.cls)
    {g : JFrame} (hg : g.method = m) (hsize : g.locals.size = c.maxLocals) {argsL rest : List Value} (hlen : ∀ sig, parseMethodDescriptor y.desc = some sig → argsL.length = sig.parameters.length)
    (hstack : g.stack = argsL.reverse ++ .ref b :: rest) (hW : 2 * g.monitorRoom + (rest.map fun v => v.category).sum ≤ W9) (hdg : decode c.code g.pc = .ok (.invokevirtual index, 3))
    (hpre : ∀ vm₁, s.WarmedH vm₁ → Pre ⟨T.setVm vm₁, locs, cells, slots⟩ (Value.ref b :: argsL).toArray) :
    (∃ (v : Option Value) (vm₁ : Vm) (B : Pt), s.WarmedH vm₁ ∧ Stand p l e R s m args below meth c B.U B.locs B.cells B.slots ∧ Post ⟨T.setVm vm₁, locs, cells, slots⟩ (Value.ref b :: argsL).toArray v B ∧
      ∀ target, Steps p.tables e below (B.U.setTop { g with pc := g.pc + 3, stack := v.toList ++ rest }) target → Steps p.tables e below (T.setTop g) target) ∨
    (∃ (q : Addr) (vm₁ : Vm) (B : Pt), s.WarmedH vm₁ ∧ Stand p l e R s m args below meth c B.U B.locs B.cells B.slots ∧ PostX ⟨T.setVm vm₁, locs, cells, slots⟩ (Value.ref b :: argsL).toArray q B ∧
      Steps p.tables e below (T.setTop g) ((B.U.setTop { g with stack := rest }).pushFrame (.throwing q))) := by
  obtain ⟨mk, methM, hnamed, hmethM, hstM, habM⟩ := Cond.instanceMethod_spec hinst
  obtain ⟨m8, methM', cM, hn8, hmethM', -, -, -, -, -, -, hsigM⟩ := Cond.codeWith_spec hcode
  cases Option.some.inj (hn8.symm.trans hnamed)
  cases hmethM.symm.trans hmethM'
  obtain ⟨c2, r2, m2, q1, q2, q3, q4, kP, hkP, hkPi⟩ := Cond.selects_spec hsel
  cases hcls.symm.trans q1
  cases (State.methodFound?_of_named hnamed hy).symm.trans q2
  cases hnamed.symm.trans q3
  have hselP : selectMethod e.platform s.vm cellB.cls mk = .method mk := by rw [Launch.admits_selectMethod X.admits]; exact q4
  obtain ⟨vm₁, X₁, hstep₁⟩ := X.invokevirtual hexec hown hlink hnamed hmethM hstM hkP hkPi hy (a := b) (cell := cellB) hcell
    (fun z h => by rw [h] at hobj; cases hobj) hselP hmethM habM hkP hkPi (g := g) hg (argsL := argsL) (rest := rest) (hlen _ hsigM) hstack hdg
  rcases hK m meth c ⟨T.setVm vm₁, locs, cells, slots⟩ { g with stack := rest } (.invokevirtual index) mk (Value.ref b :: argsL).toArray X₁ hg hsize hdg hW (X₁.named hnamed) (hpre vm₁ X₁.warmed) with ⟨v, B, X', hpost, hsteps⟩ | ⟨q, B, X', hpost, hsteps⟩
  · exact Or.inl ⟨v, vm₁, B, X₁.warmed, X', hpost, fun target h => hstep₁ _ fun acts => by rw [doInvoke_state]; exact hsteps.trans h⟩
  · exact Or.inr ⟨q, vm₁, B, X₁.warmed, X', hpost, hstep₁ _ fun acts => by rw [doInvoke_state]; exact hsteps⟩
theorem vx_callSX (X : Stand p l e R s m args below meth c T locs cells slots) (hexec : p.tables.exec = Jvm.exec) {own : String} {index : Nat} {y : MethodName} {bytes : ByteArray} {maxL : Nat} {ret : Option FieldType} {hh : List (Nat × Nat × Nat × Nat)}
    (hown : s.vm.findClass own = some m.cls) (hlink : (Cond.methodLink own index y).before args s = true) (hstat : (Cond.static y).before args s = true) (hinit : (Cond.initialized y.cls).before args s = true)
    (hcode : (Cond.codeWith y bytes maxL ret hh).before args s = true) (hy : y.cls ≠ "java/lang/invoke/MethodHandle" ∧ y.cls ≠ "java/lang/invoke/VarHandle")
    {W9 : Nat} {Pre : Pt → Array Value → Prop} {Post : Pt → Array Value → Option Value → Pt → Prop} {PostX : Pt → Array Value → Addr → Pt → Prop} (hK : vx_Back l R p e below s args y 3 W9 Pre Post PostX)
    {g : JFrame} (hg : g.method = m) (hsize : g.locals.size = c.maxLocals) {argsL rest : List Value} (hlen : ∀ sig, parseMethodDescriptor y.desc = some sig → argsL.length = sig.parameters.length)
    (hstack : g.stack = argsL.reverse ++ rest) (hW : 2 * g.monitorRoom + (rest.map fun v => v.category).sum ≤ W9) (hdg : decode c.code g.pc = .ok (.invokestatic index, 3))
    (hpre : ∀ vm₁, s.WarmedH vm₁ → Pre ⟨T.setVm vm₁, locs, cells, slots⟩ argsL.toArray) :
    (∃ (v : Option Value) (vm₁ : Vm) (B : Pt), s.WarmedH vm₁ ∧ Stand p l e R s m args below meth c B.U B.locs B.cells B.slots ∧ Post ⟨T.setVm vm₁, locs, cells, slots⟩ argsL.toArray v B ∧
      ∀ target, Steps p.tables e below (B.U.setTop { g with pc := g.pc + 3, stack := v.toList ++ rest }) target → Steps p.tables e below (T.setTop g) target) ∨
    (∃ (q : Addr) (vm₁ : Vm) (B : Pt), s.WarmedH vm₁ ∧ Stand p l e R s m args below meth c B.U B.locs B.cells B.slots ∧ PostX ⟨T.setVm vm₁, locs, cells, slots⟩ argsL.toArray q B ∧
      Steps p.tables e below (T.setTop g) ((B.U.setTop { g with stack := rest }).pushFrame (.throwing q))) := by
  obtain ⟨mk, methM, cM, hnamed, hmethM, -, -, -, -, -, -, hsigM⟩ := Cond.codeWith_spec hcode
  have hstatic : methM.isStatic = true := Cond.static_spec hnamed hmethM hstat
  obtain ⟨kP, hkP, -⟩ := className_of_methodNamed hnamed
  have hinitP : kP.init = .initialized := Cond.initialized_spec (findClass_of_methodNamed hnamed) hkP hinit
  obtain ⟨vm₁, X₁, hstep₁⟩ := X.invokestatic hexec hown hlink hnamed hmethM hstatic hkP hinitP hy (g := g) hg (argsL := argsL) (rest := rest) (hlen _ hsigM) hstack hdg
  rcases hK m meth c ⟨T.setVm vm₁, locs, cells, slots⟩ { g with stack := rest } (.invokestatic index) mk argsL.toArray X₁ hg hsize hdg hW (X₁.named hnamed) (hpre vm₁ X₁.warmed) with ⟨v, B, X', hpost, hsteps⟩ | ⟨q, B, X', hpost, hsteps⟩
  · exact Or.inl ⟨v, vm₁, B, X₁.warmed, X', hpost, fun target h => hstep₁ _ fun acts => by rw [doInvoke_state]; exact hsteps.trans h⟩
  · exact Or.inr ⟨q, vm₁, B, X₁.warmed, X', hpost, hstep₁ _ fun acts => by rw [doInvoke_state]; exact hsteps⟩
theorem vx_callVW (X : Stand p l e R s m args below meth c T locs cells slots) (hexec : p.tables.exec = Jvm.exec) {own C : String} {index : Nat} {y : MethodName} {bytes : ByteArray} {maxL : Nat} {ret : Option FieldType} {hh : List (Nat × Nat × Nat × Nat)}
    (hown : s.vm.findClass own = some m.cls) (hlink : (Cond.methodLink own index y).before args s = true) (hinst : (Cond.instanceMethod y).before args s = true) (hsel : (Cond.selects C y y).before args s = true)
    (hcode : (Cond.codeWith y bytes maxL ret hh).before args s = true) (hy : y.cls ≠ "java/lang/invoke/MethodHandle" ∧ y.cls ≠ "java/lang/invoke/VarHandle")
    {W9 : Nat} {Pre : Pt → Array Value → Prop} {Post : Pt → Array Value → Option Value → Pt → Prop} (hK : Back l R p e below s args y 3 W9 Pre Post)
    {b : Addr} {cellB : Cell} (hcell : T.heap[b]? = some cellB) (hobj : cellB.vm.isStatics = false) (hcls : s.vm.findClass C = some cellB.cls)
    {g : JFrame} (hg : g.method = m) (hsize : g.locals.size = c.maxLocals) {argsL rest : List Value} (hlen : ∀ sig, parseMethodDescriptor y.desc = some sig → argsL.length = sig.parameters.length)
    (hstack : g.stack = argsL.reverse ++ .ref b :: rest) (hW : 2 * g.monitorRoom + (rest.map fun v => v.category).sum ≤ W9) (hdg : decode c.code g.pc = .ok (.invokevirtual index, 3))
    (hpre : ∀ vm₁, s.WarmedH vm₁ → Pre ⟨T.setVm vm₁, locs, cells, slots⟩ (Value.ref b :: argsL).toArray) :
    ∃ (v : Option Value) (vm₁ : Vm) (B : Pt), s.WarmedH vm₁ ∧ Stand p l e R s m args below meth c B.U B.locs B.cells B.slots ∧ Post ⟨T.setVm vm₁, locs, cells, slots⟩ (Value.ref b :: argsL).toArray v B ∧
      ∀ target, Steps p.tables e below (B.U.setTop { g with pc := g.pc + 3, stack := v.toList ++ rest }) target → Steps p.tables e below (T.setTop g) target := by
  obtain ⟨mk, methM, hnamed, hmethM, hstM, habM⟩ := Cond.instanceMethod_spec hinst
  obtain ⟨m8, methM', cM, hn8, hmethM', -, -, -, -, -, -, hsigM⟩ := Cond.codeWith_spec hcode
  cases Option.some.inj (hn8.symm.trans hnamed)
  cases hmethM.symm.trans hmethM'
  obtain ⟨c2, r2, m2, q1, q2, q3, q4, kP, hkP, hkPi⟩ := Cond.selects_spec hsel
  cases hcls.symm.trans q1
  cases (State.methodFound?_of_named hnamed hy).symm.trans q2
  cases hnamed.symm.trans q3
  have hselP : selectMethod e.platform s.vm cellB.cls mk = .method mk := by rw [Launch.admits_selectMethod X.admits]; exact q4
  obtain ⟨vm₁, X₁, hstep₁⟩ := X.invokevirtual hexec hown hlink hnamed hmethM hstM hkP hkPi hy (a := b) (cell := cellB) hcell
    (fun z h => by rw [h] at hobj; cases hobj) hselP hmethM habM hkP hkPi (g := g) hg (argsL := argsL) (rest := rest) (hlen _ hsigM) hstack hdg
  obtain ⟨v, B, X', hpost, hsteps⟩ := hK m meth c ⟨T.setVm vm₁, locs, cells, slots⟩ { g with stack := rest } (.invokevirtual index) mk (Value.ref b :: argsL).toArray X₁ hg hsize hdg hW (X₁.named hnamed) (hpre vm₁ X₁.warmed)
  exact ⟨v, vm₁, B, X₁.warmed, X', hpost, fun target h => hstep₁ _ fun acts => by rw [doInvoke_state]; exact hsteps.trans h⟩
abbrev vx_CVW (R : Room) (s : State) (args : Array Value) (own C : String) (index : Nat) (y : MethodName) (bytes : ByteArray) (maxL : Nat) (ret : Option FieldType) (hh : List (Nat × Nat × Nat × Nat)) (ws : List Cond) (rm : Room) (mc ms n : Nat) : Prop :=
  (rm.cells = mc ∧ rm.slots = ms ∧ rm.frames + 1 ≤ R.frames ∧ 8 + (maxL + 11) + rm.locals ≤ R.locals ∧ (∀ w ∈ ws, ∀ (a' : Array Value) (U : State), s.WarmedH U.vm → w.before a' U = true) ∧ Cond.codeWith y bytes maxL ret hh ∈ ws) ∧
  (Cond.codeWith y bytes maxL ret hh).before args s = true ∧ (Cond.initialized y.cls).before args s = true ∧ (y.cls ≠ "java/lang/invoke/MethodHandle" ∧ y.cls ≠ "java/lang/invoke/VarHandle") ∧
  (∀ sig, parseMethodDescriptor y.desc = some sig → n = sig.parameters.length) ∧ (Cond.methodLink own index y).before args s = true ∧ (Cond.instanceMethod y).before args s = true ∧ (Cond.selects C y y).before args s = true
theorem vx_cwVW {own C : String} {index maxL mc ms : Nat} {y : MethodName} {bytes : ByteArray} {ret : Option FieldType} {hh : List (Nat × Nat × Nat × Nat)} {Ts ws ws' : List Cond} {rm : Room} (n : Nat) (ht : ∀ w ∈ Ts, w.before args s = true) (hT : GoodIn Ts (wsV own index C y ws)) (hw : ws = Cond.codeWith y bytes maxL ret hh :: ws') (hrc : rm.cells = mc) (hrs : rm.slots = ms)
    (hd : y.cls = C ∧ y.cls ≠ "java/lang/invoke/MethodHandle" ∧ y.cls ≠ "java/lang/invoke/VarHandle" ∧ (parseMethodDescriptor y.desc).map (fun d => d.parameters.length) = some n) (hR : rm.frames + 1 ≤ R.frames ∧ 8 + (maxL + 11) + rm.locals ≤ R.locals) :
    vx_CVW R s args own C index y bytes maxL ret hh ws rm mc ms n := by
  obtain ⟨hC, hd⟩ := hd
  subst hC
  have ok : ∀ w ∈ wsV own index y.cls y ws, w.before args s = true := fun w h => ht w (hT w h).1
  have hG : GoodIn Ts ws := fun w h => hT w (by unfold wsV; exact List.mem_append_right _ h)
  have hc : Cond.codeWith y bytes maxL ret hh ∈ ws := by rw [hw]; exact List.mem_cons_self
  refine ⟨⟨hrc, hrs, hR.1, hR.2, pay_in ht hG, hc⟩, ht _ (hG _ hc).1, ok _ (by simp [wsV]), ⟨hd.1, hd.2.1⟩, fun sig h => ?_, ok _ (by simp [wsV]), ok _ (by simp [wsV]), ok _ (by simp [wsV])⟩
  have h2 := hd.2.2
  rw [h] at h2
  exact (Option.some.inj h2).symm
theorem vx_runVW {y : MethodName} {bytes cc : ByteArray} {maxL nL mc ms n index : Nat} {ret : Option FieldType} {hh : List (Nat × Nat × Nat × Nat)} {ws : List Cond} {rm : Room} {Pc : Array Value → State → Prop} {Qc : Array Value → State → Outcome → State → Prop} {free : Addr → Prop} {Ts : List Cond} {own C : String} {b : Addr} {As rest : List Value} {g : JFrame}
    (S : CallFix p m c cc nL s args Ts own) (hM : Met l y ws rm Pc Qc mc ms free) (cw : vx_CVW R s args own C index y bytes maxL ret hh ws rm mc ms n) (hp : PreV s H C b Pc As)
    (hg : g.method = m) (hn : As.length = n) (hsize : g.locals.size = nL) (hstack : g.stack = As.reverse ++ .ref b :: rest) (hW : 2 * g.monitorRoom + (rest.map fun v => v.category).sum ≤ 8) (hdg : decode cc g.pc = .ok (.invokevirtual index, 3)) (hf : cells + mc ≤ R.cells ∧ slots + ms ≤ R.slots) :
    va_Run p l e R s m args below meth c H locs cells slots mc ms g rest (Qc (Value.ref b :: As).toArray) free := by
  obtain ⟨⟨hrc, hrs, hfr, hlo, hws, hcw⟩, hcode, hini, hy, hlen, hl, hin, hse⟩ := cw
  have hK : Back l R p e below s args y 3 8 (PreOf R mc ms Pc) (PostOf Qc mc ms free) := va_backW (hh := hh) (bytes := bytes) (maxL := maxL) (ret := ret) hM hp.1 hrc hrs hfr hlo hws hcw (fun a' U hW => word_at hW (Or.inl (by first | rfl | simp [Cond.onTables, Cond.keeps, Cond.steady])) hini)
  obtain ⟨hx, hb, hml, ho, -⟩ := S
  obtain ⟨-, ⟨cellB, hcB, hoB, hclB⟩, hPc⟩ := hp
  intro T hT X
  obtain ⟨v, vm₁, ⟨U', l2, c2, s2⟩, hW₁, X', ⟨g', mk, t, L, e1, e2, hq, h1, hL, h2, h3⟩, st⟩ := vx_callVW X hx (C := C) (hh := hh) (bytes := bytes) (maxL := maxL) (ret := ret) ho hl hin hse hcode hy hK (by rw [hT]; exact hcB) hoB hclB hg (hsize.trans hml.symm) (argsL := As) (rest := rest) (fun sig h => hn.trans (hlen sig h)) hstack hW (by rw [hb]; exact hdg)
    (fun vm₁ hW₁ => ⟨hf.1, hf.2, hPc (T.setVm vm₁) hT hW₁⟩)
  dsimp only [Pt.U, Pt.locs, Pt.cells, Pt.slots] at X' e1 e2 h1 h2 h3 st
  subst h1; subst h2; subst h3
  exact ⟨v, (T.setVm vm₁).calling g' mk (Value.ref b :: As).toArray, t, U', L, hT, X', hL, e1, e2, hq, st⟩
section
variable {y : MethodName} {bytes cc : ByteArray} {maxL nL mc ms n index : Nat} {ret : Option FieldType} {ws : List Cond} {rm : Room} {Pc : Array Value → State → Prop} {Qc : Array Value → State → Outcome → State → Prop} {XC : String → State → State → Prop} {free : Addr → Prop} {Ts : List Cond} {own C : String} {b : Addr} {As rest : List Value} {g : JFrame}
theorem vx_runVX {hh : List (Nat × Nat × Nat × Nat)} (S : CallFix p m c cc nL s args Ts own) (hM : vx_Met l y ws rm Pc Qc XC mc ms free) (cw : vx_CVW R s args own C index y bytes maxL ret hh ws rm mc ms n) (hp : PreV s H C b Pc As)
    (hg : g.method = m) (hn : As.length = n) (hsize : g.locals.size = nL) (hstack : g.stack = As.reverse ++ .ref b :: rest) (hW : 2 * g.monitorRoom + (rest.map fun v => v.category).sum ≤ 8) (hdg : decode cc g.pc = .ok (.invokevirtual index, 3)) (hf : cells + mc ≤ R.cells ∧ slots + ms ≤ R.slots) :
    vx_Run p l e R s m args below meth c H locs cells slots mc ms g rest (Qc (Value.ref b :: As).toArray) XC free := by
  obtain ⟨⟨hrc, hrs, hfr, hlo, hws, hcw⟩, hcode, hini, hy, hlen, hl, hin, hse⟩ := cw
  have hK : vx_Back l R p e below s args y 3 8 (PreOf R mc ms Pc) (PostOf Qc mc ms free) (vx_Post XC mc ms free) := vx_backW (hh := hh) (bytes := bytes) (maxL := maxL) (ret := ret) hM hp.1 hrc hrs hfr hlo hws hcw (fun a' U hW => word_at hW (Or.inl (by first | rfl | simp [Cond.onTables, Cond.keeps, Cond.steady])) hini)
  obtain ⟨hx, hb, hml, ho, -⟩ := S
  obtain ⟨-, ⟨cellB, hcB, hoB, hclB⟩, hPc⟩ := hp
  intro T hT X
  rcases vx_callVX X hx (C := C) (hh := hh) (bytes := bytes) (maxL := maxL) (ret := ret) ho hl hin hse hcode hy hK (by rw [hT]; exact hcB) hoB hclB hg (hsize.trans hml.symm) (argsL := As) (rest := rest) (fun sig h => hn.trans (hlen sig h)) hstack hW (by rw [hb]; exact hdg)
    (fun vm₁ hW₁ => ⟨hf.1, hf.2, hPc (T.setVm vm₁) hT hW₁⟩) with ⟨v, vm₁, ⟨U', l2, c2, s2⟩, hW₁, X', ⟨g', mk, t, L, e1, e2, hq, h1, hL, h2, h3⟩, st⟩ | ⟨q, vm₁, ⟨U', l2, c2, s2⟩, hW₁, X', ⟨g', mk, t, L, E, ce, e1, e2, hq, hce, hcv, hcl, h1, hL, h2, h3⟩, st⟩
  · dsimp only [Pt.U, Pt.locs, Pt.cells, Pt.slots] at X' e1 e2 h1 h2 h3 st
    subst h1; subst h2; subst h3
    exact Or.inl ⟨v, (T.setVm vm₁).calling g' mk (Value.ref b :: As).toArray, t, U', L, hT, X', hL, e1, e2, hq, st⟩
  · dsimp only [Pt.U, Pt.locs, Pt.cells, Pt.slots] at X' e1 e2 h1 h2 h3 st hcl
    subst h1; subst h2; subst h3
    exact Or.inr ⟨q, (T.setVm vm₁).calling g' mk (Value.ref b :: As).toArray, t, U', L, E, ce, hT, X', hL, e1, e2, hq, hce, hcv, vx_cls hW₁ hcl, st⟩
theorem vx_runSX {hh : List (Nat × Nat × Nat × Nat)} (S : CallFix p m c cc nL s args Ts own) (hM : vx_Met l y ws rm Pc Qc XC mc ms free) (cw : vx_CSW R s args own index y bytes maxL ret hh ws rm mc ms n) (hp : PreS s H Pc As)
    (hg : g.method = m) (hn : As.length = n) (hsize : g.locals.size = nL) (hstack : g.stack = As.reverse ++ rest) (hW : 2 * g.monitorRoom + (rest.map fun v => v.category).sum ≤ 8) (hdg : decode cc g.pc = .ok (.invokestatic index, 3)) (hf : cells + mc ≤ R.cells ∧ slots + ms ≤ R.slots) :
    vx_Run p l e R s m args below meth c H locs cells slots mc ms g rest (Qc As.toArray) XC free := by
  obtain ⟨⟨hrc, hrs, hfr, hlo, hws, hcw⟩, hcode, hini, hy, hlen, hl, hstt⟩ := cw
  have hK : vx_Back l R p e below s args y 3 8 (PreOf R mc ms Pc) (PostOf Qc mc ms free) (vx_Post XC mc ms free) := vx_backW (hh := hh) (bytes := bytes) (maxL := maxL) (ret := ret) hM hp.1 hrc hrs hfr hlo hws hcw (fun a' U hW => word_at hW (Or.inl (by first | rfl | simp [Cond.onTables, Cond.keeps, Cond.steady])) hini)
  obtain ⟨hx, hb, hml, ho, -⟩ := S
  intro T hT X
  rcases vx_callSX X hx (hh := hh) (bytes := bytes) (maxL := maxL) (ret := ret) ho hl hstt hini hcode hy hK hg (hsize.trans hml.symm) (argsL := As) (rest := rest) (fun sig h => hn.trans (hlen sig h)) hstack hW (by rw [hb]; exact hdg)
    (fun vm₁ hW₁ => ⟨hf.1, hf.2, hp.2 (T.setVm vm₁) hT hW₁⟩) with ⟨v, vm₁, ⟨U', l2, c2, s2⟩, hW₁, X', ⟨g', mk, t, L, e1, e2, hq, h1, hL, h2, h3⟩, st⟩ | ⟨q, vm₁, ⟨U', l2, c2, s2⟩, hW₁, X', ⟨g', mk, t, L, E, ce, e1, e2, hq, hce, hcv, hcl, h1, hL, h2, h3⟩, st⟩
  · dsimp only [Pt.U, Pt.locs, Pt.cells, Pt.slots] at X' e1 e2 h1 h2 h3 st
    subst h1; subst h2; subst h3
    exact Or.inl ⟨v, (T.setVm vm₁).calling g' mk As.toArray, t, U', L, hT, X', hL, e1, e2, hq, st⟩
  · dsimp only [Pt.U, Pt.locs, Pt.cells, Pt.slots] at X' e1 e2 h1 h2 h3 st hcl
    subst h1; subst h2; subst h3
    exact Or.inr ⟨q, (T.setVm vm₁).calling g' mk As.toArray, t, U', L, E, ce, hT, X', hL, e1, e2, hq, hce, hcv, vx_cls hW₁ hcl, st⟩
end
end VXH
theorem vx_ofWH {l : Launch} {y : MethodName} {ws ws' : List Cond} {rm : Room} {Pc : Array Value → State → Prop} {Qc : Array Value → State → Outcome → State → Prop} {XC : String → State → State → Prop} {mc ms : Nat} {free : Addr → Prop} {cc : ByteArray} {maxL : Nat} {ret : Option FieldType} {hh : List (Nat × Nat × Nat × Nat)}
    (hy : plainName y.cls = true) (hw : ws = Cond.codeWith y cc maxL ret hh :: ws')
    (body : ∀ p e s m args below meth c s₁, BodyLoose p l y (headSpec ws rm) cc maxL ret e s m args below meth c s₁ → c.maxLocals = maxL → Pc args s →
      W p l e (headSpec ws rm).room s m args below meth c s.heap [] 0 0 (vx_MQ below Qc XC args s mc ms free) (entryFrame m args maxL)) : vx_Met l y ws rm Pc Qc XC mc ms free := by
  refine MetFree.of_bodyS (code := cc) (maxLocals := maxL) (ret := ret) hy ?_ ?_
  · intro args s m h hn
    obtain ⟨m9, meth, c, hn9, h1, h2, h3, h4, -, h5, h6, -⟩ := Cond.codeWith_spec (atoms_spec (ws := ws) h _ (by rw [hw]; exact List.mem_cons_self))
    cases hn.symm.trans hn9
    exact ⟨meth, c, h1, h2, h3, h4, h5, h6⟩
  · intro p e s m args below meth c s₁ B hml hP _
    have hh0 : s₁.heap = s.heap := by rw [B.state]; rfl
    obtain ⟨t, a1, o, b1, b2, b3⟩ := body p e s m args below meth c s₁ B hml hP s₁ hh0 (Stand.of_body B)
    exact ⟨t, o, a1, b1, b2, b3⟩
/-! ===== END ===== -/
end
section
/-! ===== BEGIN printed: names, fields, word lists, decode rows ===== -/
def RX0 : String := "HemSuffixes$Hem"
def TX0 : u_T := fun k => match k with
  | 0 => ("HemSuffixes$Hem", "stitches", "LHemSuffixes$Stitches;", true)
  | _ => ("HemSuffixes$Hem", "placesInOrder", "[I", true)
def tyX0 : Nat → FieldType := fun k => match k with
  | 0 => .object "HemSuffixes$Stitches"
  | _ => .array .int
abbrev wsX00 : List Cond := u_ws RX0 TX0 2
theorem nmX0 : ∀ a, a < 2 → ∀ b, b < 2 → a ≠ b → (TX0 a).2.1 ≠ (TX0 b).2.1 := by decide +kernel
theorem tyX0_ok : ∀ k, k < 2 → parseFieldDescriptor (TX0 k).2.2.1 = some (tyX0 k) := by decide +kernel
abbrev cX0_init : ByteArray := prog_2_method_1_code
def yX0_init : MethodName := ⟨RX0, "<init>", "()V"⟩
abbrev cX0_sewOn : ByteArray := prog_2_method_2_code
def yX0_sewOn : MethodName := ⟨RX0, "sewOn", "(I)V"⟩
abbrev cX0_sewBeginning : ByteArray := prog_2_method_3_code
def yX0_sewBeginning : MethodName := ⟨RX0, "sewBeginning", "(I)V"⟩
abbrev cX0_takeOff : ByteArray := prog_2_method_4_code
def yX0_takeOff : MethodName := ⟨RX0, "takeOff", "(I)V"⟩
abbrev cX0_orderEnds : ByteArray := prog_2_method_5_code
def yX0_orderEnds : MethodName := ⟨RX0, "orderEnds", "()V"⟩
abbrev cX0_putInOrder : ByteArray := prog_2_method_6_code
def yX0_putInOrder : MethodName := ⟨RX0, "putInOrder", "(II)V"⟩
abbrev cX0_placeAt : ByteArray := prog_2_method_7_code
def yX0_placeAt : MethodName := ⟨RX0, "placeAt", "(I)I"⟩
abbrev cX0_rankOf : ByteArray := prog_2_method_8_code
def yX0_rankOf : MethodName := ⟨RX0, "rankOf", "(I)I"⟩
abbrev cX0_sharedWithNext : ByteArray := prog_2_method_9_code
def yX0_sharedWithNext : MethodName := ⟨RX0, "sharedWithNext", "(I)I"⟩
abbrev cX0_neighbourPairs : ByteArray := prog_2_method_10_code
def yX0_neighbourPairs : MethodName := ⟨RX0, "neighbourPairs", "()I"⟩
abbrev cX0_sharedByNeighbours : ByteArray := prog_2_method_11_code
def yX0_sharedByNeighbours : MethodName := ⟨RX0, "sharedByNeighbours", "()I"⟩
abbrev cX0_rowsFirstAt : ByteArray := prog_2_method_12_code
def yX0_rowsFirstAt : MethodName := ⟨RX0, "rowsFirstAt", "(I)I"⟩
abbrev cX0_differentRows : ByteArray := prog_2_method_13_code
def yX0_differentRows : MethodName := ⟨RX0, "differentRows", "()I"⟩
abbrev cX0_rowOfNumber : ByteArray := prog_2_method_14_code
def yX0_rowOfNumber : MethodName := ⟨RX0, "rowOfNumber", "(I)I"⟩
abbrev cX0_repeatRank : ByteArray := prog_2_method_15_code
def yX0_repeatRank : MethodName := ⟨RX0, "repeatRank", "()I"⟩
def RX1 : String := "HemSuffixes$Stitches"
def TX1 : u_T := fun k => match k with
  | 0 => ("HemSuffixes$Stitches", "kinds", "[I", true)
  | _ => ("HemSuffixes$Stitches", "length", "I", false)
def tyX1 : Nat → FieldType := fun k => match k with
  | 0 => .array .int
  | _ => .int
abbrev wsX10 : List Cond := u_ws RX1 TX1 2
theorem nmX1 : ∀ a, a < 2 → ∀ b, b < 2 → a ≠ b → (TX1 a).2.1 ≠ (TX1 b).2.1 := by decide +kernel
theorem tyX1_ok : ∀ k, k < 2 → parseFieldDescriptor (TX1 k).2.2.1 = some (tyX1 k) := by decide +kernel
abbrev cX1_init : ByteArray := prog_3_method_1_code
def yX1_init : MethodName := ⟨RX1, "<init>", "()V"⟩
abbrev cX1_at : ByteArray := prog_3_method_2_code
def yX1_at : MethodName := ⟨RX1, "at", "(I)I"⟩
abbrev cX1_append : ByteArray := prog_3_method_3_code
def yX1_append : MethodName := ⟨RX1, "append", "(I)V"⟩
abbrev cX1_drop : ByteArray := prog_3_method_4_code
def yX1_drop : MethodName := ⟨RX1, "drop", "(I)V"⟩
abbrev cX1_sharedWith : ByteArray := prog_3_method_5_code
def yX1_sharedWith : MethodName := ⟨RX1, "sharedWith", "(ILHemSuffixes$Stitches;I)I"⟩
abbrev cX1_difference : ByteArray := prog_3_method_6_code
def yX1_difference : MethodName := ⟨RX1, "difference", "(ILHemSuffixes$Stitches;I)I"⟩
abbrev cX1_mostSharedWith : ByteArray := prog_3_method_7_code
def yX1_mostSharedWith : MethodName := ⟨RX1, "mostSharedWith", "(ILHemSuffixes$Stitches;)I"⟩
abbrev cX1_standsAt : ByteArray := prog_3_method_8_code
def yX1_standsAt : MethodName := ⟨RX1, "standsAt", "(ILHemSuffixes$Stitches;II)Z"⟩
abbrev cX1_firstPlaceOf : ByteArray := prog_3_method_9_code
def yX1_firstPlaceOf : MethodName := ⟨RX1, "firstPlaceOf", "(LHemSuffixes$Stitches;II)I"⟩
abbrev cX1_placesOf : ByteArray := prog_3_method_10_code
def yX1_placesOf : MethodName := ⟨RX1, "placesOf", "(LHemSuffixes$Stitches;II)I"⟩
abbrev cX1_leastPeriod : ByteArray := prog_3_method_11_code
def yX1_leastPeriod : MethodName := ⟨RX1, "leastPeriod", "()I"⟩
abbrev cX1_bestBeginning : ByteArray := prog_3_method_12_code
def yX1_bestBeginning : MethodName := ⟨RX1, "bestBeginning", "()I"⟩
abbrev cX1_turnsToLess : ByteArray := prog_3_method_13_code
def yX1_turnsToLess : MethodName := ⟨RX1, "turnsToLess", "(II)Z"⟩
abbrev cX1_allAround : ByteArray := prog_3_method_14_code
def yX1_allAround : MethodName := ⟨RX1, "allAround", "(I)I"⟩
def RX2 : String := "HemSuffixes"
def TX2 : u_T := fun k => match k with
  | 0 => ("HemSuffixes", "hemZero", "LHemSuffixes$Hem;", true)
  | 1 => ("HemSuffixes", "hemOne", "LHemSuffixes$Hem;", true)
  | _ => ("HemSuffixes", "sample", "LHemSuffixes$Stitches;", true)
def tyX2 : Nat → FieldType := fun k => match k with
  | 0 => .object "HemSuffixes$Hem"
  | 1 => .object "HemSuffixes$Hem"
  | _ => .object "HemSuffixes$Stitches"
abbrev wsX20 : List Cond := u_ws RX2 TX2 3
theorem nmX2 : ∀ a, a < 3 → ∀ b, b < 3 → a ≠ b → (TX2 a).2.1 ≠ (TX2 b).2.1 := by decide +kernel
theorem tyX2_ok : ∀ k, k < 3 → parseFieldDescriptor (TX2 k).2.2.1 = some (tyX2 k) := by decide +kernel
abbrev cX2_init : ByteArray := prog_1_method_1_code
def yX2_init : MethodName := ⟨RX2, "<init>", "()V"⟩
abbrev cX2_sew : ByteArray := prog_1_method_2_code
def yX2_sew : MethodName := ⟨RX2, "sew", "(II)I"⟩
abbrev cX2_again : ByteArray := prog_1_method_3_code
def yX2_again : MethodName := ⟨RX2, "again", "(II)I"⟩
abbrev cX2_unpick : ByteArray := prog_1_method_4_code
def yX2_unpick : MethodName := ⟨RX2, "unpick", "(II)I"⟩
abbrev cX2_add : ByteArray := prog_1_method_5_code
def yX2_add : MethodName := ⟨RX2, "add", "(I)I"⟩
abbrev cX2_clear : ByteArray := prog_1_method_6_code
def yX2_clear : MethodName := ⟨RX2, "clear", "()I"⟩
abbrev cX2_stitch : ByteArray := prog_1_method_7_code
def yX2_stitch : MethodName := ⟨RX2, "stitch", "(II)I"⟩
abbrev cX2_count : ByteArray := prog_1_method_8_code
def yX2_count : MethodName := ⟨RX2, "count", "(I)I"⟩
abbrev cX2_end : ByteArray := prog_1_method_9_code
def yX2_end : MethodName := ⟨RX2, "end", "(II)I"⟩
abbrev cX2_rank : ByteArray := prog_1_method_10_code
def yX2_rank : MethodName := ⟨RX2, "rank", "(II)I"⟩
abbrev cX2_common : ByteArray := prog_1_method_11_code
def yX2_common : MethodName := ⟨RX2, "common", "(III)I"⟩
abbrev cX2_against : ByteArray := prog_1_method_12_code
def yX2_against : MethodName := ⟨RX2, "against", "(II)I"⟩
abbrev cX2_repeat : ByteArray := prog_1_method_13_code
def yX2_repeat : MethodName := ⟨RX2, "repeat", "(II)I"⟩
abbrev cX2_row : ByteArray := prog_1_method_14_code
def yX2_row : MethodName := ⟨RX2, "row", "(II)I"⟩
abbrev cX2_found : ByteArray := prog_1_method_15_code
def yX2_found : MethodName := ⟨RX2, "found", "(I)I"⟩
abbrev cX2_first : ByteArray := prog_1_method_16_code
def yX2_first : MethodName := ⟨RX2, "first", "(I)I"⟩
abbrev cX2_period : ByteArray := prog_1_method_17_code
def yX2_period : MethodName := ⟨RX2, "period", "(I)I"⟩
abbrev cX2_turned : ByteArray := prog_1_method_18_code
def yX2_turned : MethodName := ⟨RX2, "turned", "(I)I"⟩
abbrev cX2_seam : ByteArray := prog_1_method_19_code
def yX2_seam : MethodName := ⟨RX2, "seam", "(I)I"⟩
abbrev cX2_mean : ByteArray := prog_1_method_22_code
def yX2_mean : MethodName := ⟨RX2, "mean", "()D"⟩
abbrev cX2_digest : ByteArray := prog_1_method_23_code
def yX2_digest : MethodName := ⟨RX2, "digest", "()J"⟩
abbrev cX2_hemMixed : ByteArray := prog_1_method_24_code
def yX2_hemMixed : MethodName := ⟨RX2, "hemMixed", "(JI)J"⟩
abbrev cX2_stitchesMixed : ByteArray := prog_1_method_25_code
def yX2_stitchesMixed : MethodName := ⟨RX2, "stitchesMixed", "(JLHemSuffixes$Stitches;)J"⟩
abbrev cX2_mixed : ByteArray := prog_1_method_26_code
def yX2_mixed : MethodName := ⟨RX2, "mixed", "(JI)J"⟩
abbrev cX2_hemOf : ByteArray := prog_1_method_27_code
def yX2_hemOf : MethodName := ⟨RX2, "hemOf", "(I)LHemSuffixes$Hem;"⟩
abbrev cX2_requireStitch : ByteArray := prog_1_method_28_code
def yX2_requireStitch : MethodName := ⟨RX2, "requireStitch", "(I)V"⟩
abbrev cX2_requirePlace : ByteArray := prog_1_method_29_code
def yX2_requirePlace : MethodName := ⟨RX2, "requirePlace", "(LHemSuffixes$Stitches;I)V"⟩
abbrev cX2_seamPlace : ByteArray := prog_1_method_30_code
def yX2_seamPlace : MethodName := ⟨RX2, "seamPlace", "()I"⟩
abbrev cX2_seamLengthFrom : ByteArray := prog_1_method_31_code
def yX2_seamLengthFrom : MethodName := ⟨RX2, "seamLengthFrom", "(I)I"⟩
def RX3 : String := "HemSuffixesLaw$Rows"
def TX3 : u_T := fun k => match k with
  | 0 => ("HemSuffixesLaw$Rows", "next", "[I", true)
  | 1 => ("HemSuffixesLaw$Rows", "depth", "[I", true)
  | 2 => ("HemSuffixesLaw$Rows", "many", "[[I", true)
  | 3 => ("HemSuffixesLaw$Rows", "first", "[[I", true)
  | 4 => ("HemSuffixesLaw$Rows", "end", "[[I", true)
  | 5 => ("HemSuffixesLaw$Rows", "nodes", "I", false)
  | 6 => ("HemSuffixesLaw$Rows", "order", "[[I", true)
  | 7 => ("HemSuffixesLaw$Rows", "rows", "[I", true)
  | 8 => ("HemSuffixesLaw$Rows", "places", "[[I", true)
  | _ => ("HemSuffixesLaw$Rows", "ends", "[I", true)
def tyX3 : Nat → FieldType := fun k => match k with
  | 0 => .array .int
  | 1 => .array .int
  | 2 => .array (.array .int)
  | 3 => .array (.array .int)
  | 4 => .array (.array .int)
  | 5 => .int
  | 6 => .array (.array .int)
  | 7 => .array .int
  | 8 => .array (.array .int)
  | _ => .array .int
abbrev wsX30 : List Cond := u_ws RX3 TX3 10
theorem nmX3 : ∀ a, a < 10 → ∀ b, b < 10 → a ≠ b → (TX3 a).2.1 ≠ (TX3 b).2.1 := by decide +kernel
theorem tyX3_ok : ∀ k, k < 10 → parseFieldDescriptor (TX3 k).2.2.1 = some (tyX3 k) := by decide +kernel
abbrev cX3_init : ByteArray := prog_5_method_1_code
def yX3_init : MethodName := ⟨RX3, "<init>", "([I[I)V"⟩
abbrev cX3_grow : ByteArray := prog_5_method_2_code
def yX3_grow : MethodName := ⟨RX3, "grow", "(I[I)V"⟩
abbrev cX3_walk : ByteArray := prog_5_method_3_code
def yX3_walk : MethodName := ⟨RX3, "walk", "(II)V"⟩
abbrev cX3_repeat : ByteArray := prog_5_method_4_code
def yX3_repeat : MethodName := ⟨RX3, "repeat", "(I)[I"⟩
abbrev cX3_seam : ByteArray := prog_5_method_5_code
def yX3_seam : MethodName := ⟨RX3, "seam", "()[I"⟩
def RX4 : String := "HemSuffixesLaw$Sim"
def TX4 : u_T := fun k => match k with
  | 0 => ("HemSuffixesLaw$Sim", "hem", "[[I", false)
  | _ => ("HemSuffixesLaw$Sim", "sample", "[I", false)
def tyX4 : Nat → FieldType := fun k => match k with
  | 0 => .array (.array .int)
  | _ => .array .int
abbrev wsX40 : List Cond := u_ws RX4 TX4 2
theorem nmX4 : ∀ a, a < 2 → ∀ b, b < 2 → a ≠ b → (TX4 a).2.1 ≠ (TX4 b).2.1 := by decide +kernel
theorem tyX4_ok : ∀ k, k < 2 → parseFieldDescriptor (TX4 k).2.2.1 = some (tyX4 k) := by decide +kernel
abbrev cX4_init : ByteArray := prog_6_method_1_code
def yX4_init : MethodName := ⟨RX4, "<init>", "()V"⟩
abbrev cX4_with : ByteArray := prog_6_method_2_code
def yX4_with : MethodName := ⟨RX4, "with", "([II)[I"⟩
abbrev cX4_cut : ByteArray := prog_6_method_3_code
def yX4_cut : MethodName := ⟨RX4, "cut", "([II)[I"⟩
abbrev cX4_placesOfSample : ByteArray := prog_6_method_4_code
def yX4_placesOfSample : MethodName := ⟨RX4, "placesOfSample", "(I)[I"⟩
abbrev cX4_period : ByteArray := prog_6_method_5_code
def yX4_period : MethodName := ⟨RX4, "period", "(I)I"⟩
abbrev cX4_turned : ByteArray := prog_6_method_6_code
def yX4_turned : MethodName := ⟨RX4, "turned", "(I)I"⟩
abbrev cX4_isSame : ByteArray := prog_6_method_8_code
def yX4_isSame : MethodName := ⟨RX4, "isSame", "(LHemSuffixes;)Z"⟩
def RX5 : String := "HemSuffixesModel"
def TX5 : u_T := fun k => match k with
  | _ => ("", "", "", false)
def tyX5 : Nat → FieldType := fun k => match k with
  | _ => .int
abbrev wsX50 : List Cond := u_ws RX5 TX5 0
theorem nmX5 : ∀ a, a < 0 → ∀ b, b < 0 → a ≠ b → (TX5 a).2.1 ≠ (TX5 b).2.1 := by decide +kernel
theorem tyX5_ok : ∀ k, k < 0 → parseFieldDescriptor (TX5 k).2.2.1 = some (tyX5 k) := by decide +kernel
def RJ9 : String := "java/lang/Math"
def TJ9 : u_T := fun k => match k with
  | _ => ("", "", "", false)
def tyJ9 : Nat → FieldType := fun k => match k with
  | _ => .int
abbrev wsJ90 : List Cond := u_ws RJ9 TJ9 0
theorem nmJ9 : ∀ a, a < 0 → ∀ b, b < 0 → a ≠ b → (TJ9 a).2.1 ≠ (TJ9 b).2.1 := by decide +kernel
theorem tyJ9_ok : ∀ k, k < 0 → parseFieldDescriptor (TJ9 k).2.2.1 = some (tyJ9 k) := by decide +kernel
abbrev cJ9_abs_0f7a4 : ByteArray := prog_12_method_59_code
def yJ9_abs_0f7a4 : MethodName := ⟨RJ9, "abs", "(I)I"⟩
abbrev cJ9_max_7cf53 : ByteArray := prog_12_method_65_code
def yJ9_max_7cf53 : MethodName := ⟨RJ9, "max", "(II)I"⟩
abbrev cJ9_min_7cf53 : ByteArray := prog_12_method_69_code
def yJ9_min_7cf53 : MethodName := ⟨RJ9, "min", "(II)I"⟩
def RJ0 : String := "java/lang/String"
def TJ0 : u_T := fun k => match k with
  | _ => ("", "", "", false)
def tyJ0 : Nat → FieldType := fun k => match k with
  | _ => .int
abbrev wsJ00 : List Cond := u_ws RJ0 TJ0 0
theorem nmJ0 : ∀ a, a < 0 → ∀ b, b < 0 → a ≠ b → (TJ0 a).2.1 ≠ (TJ0 b).2.1 := by decide +kernel
theorem tyJ0_ok : ∀ k, k < 0 → parseFieldDescriptor (TJ0 k).2.2.1 = some (tyJ0 k) := by decide +kernel
def RL : String := "HemSuffixesLaw"
abbrev cL_below : ByteArray := method_2_code
def yL_below : MethodName := ⟨RL, "below", "(II)I"⟩
abbrev cL_cell : ByteArray := method_3_code
def yL_cell : MethodName := ⟨RL, "cell", "([II)I"⟩
abbrev cL_common : ByteArray := method_4_code
def yL_common : MethodName := ⟨RL, "common", "([II[II)I"⟩
abbrev cL_stitchOf : ByteArray := method_5_code
def yL_stitchOf : MethodName := ⟨RL, "stitchOf", "(I)I"⟩
abbrev cL_act : ByteArray := method_6_code
def yL_act : MethodName := ⟨RL, "act", "(LHemSuffixes;LHemSuffixesLaw$Sim;I)Z"⟩
abbrev cL_build : ByteArray := method_7_code
def yL_build : MethodName := ⟨RL, "build", "(LHemSuffixes;[I)LHemSuffixesLaw$Sim;"⟩
abbrev cL_law : ByteArray := code
def yL_law : MethodName := ⟨RL, "law", "([I)Z"⟩
def wsX1_init : List Cond := .code yX1_init cX1_init 1 none :: ([.methodLink RX1 3 objectInit, .instanceMethod objectInit, .code objectInit ⟨#[0xb1]⟩ 1 none, .arrayClass .int, .fieldLink RX1 9 "HemSuffixes$Stitches" "kinds" "[I", .fieldLink RX1 15 "HemSuffixes$Stitches" "length" "I"] ++ wsX10)
def wsX0_init : List Cond := .code yX0_init cX0_init 1 none :: ([.methodLink RX0 3 objectInit, .instanceMethod objectInit, .code objectInit ⟨#[0xb1]⟩ 1 none, .classLink RX0 9 RX1, .instantiable RX1 2, .initialized RX1, .fieldLink RX0 12 "HemSuffixes$Hem" "stitches" "LHemSuffixes$Stitches;", .arrayClass .int, .fieldLink RX0 18 "HemSuffixes$Hem" "placesInOrder" "[I", .methodLink RX0 11 yX1_init, .instanceMethod yX1_init, .code yX1_init cX1_init 1 none, .methodLink RX1 3 objectInit, .fieldLink RX1 9 "HemSuffixes$Stitches" "kinds" "[I", .fieldLink RX1 15 "HemSuffixes$Stitches" "length" "I"] ++ wsX10 ++ wsX00)
def wsX1_append : List Cond := .code yX1_append cX1_append 2 none :: ([.fieldLink RX1 15 "HemSuffixes$Stitches" "length" "I", .fieldLink RX1 9 "HemSuffixes$Stitches" "kinds" "[I"] ++ wsX10)
def wsX1_at : List Cond := .code yX1_at cX1_at 2 (some .int) :: ([.fieldLink RX1 15 "HemSuffixes$Stitches" "length" "I", .fieldLink RX1 9 "HemSuffixes$Stitches" "kinds" "[I"] ++ wsX10)
def wsX1_sharedWith : List Cond := .code yX1_sharedWith cX1_sharedWith 6 (some .int) :: ([.fieldLink RX1 15 "HemSuffixes$Stitches" "length" "I", .methodLink RX1 19 Lib.Math.min.name, .static Lib.Math.min.name, .initialized "java/lang/Math", .code Lib.Math.min.name Lib.Math.min.code 2 (some .int), .methodLink RX1 25 yX1_at, .instanceMethod yX1_at, .selects RX1 yX1_at yX1_at, .initialized RX1, .code yX1_at cX1_at 2 (some .int), .fieldLink RX1 9 "HemSuffixes$Stitches" "kinds" "[I"] ++ wsX10)
def wsX1_difference : List Cond := .code yX1_difference cX1_difference 7 (some .int) :: ([.methodLink RX1 29 yX1_sharedWith, .instanceMethod yX1_sharedWith, .selects RX1 yX1_sharedWith yX1_sharedWith, .initialized RX1, .code yX1_sharedWith cX1_sharedWith 6 (some .int), .fieldLink RX1 15 "HemSuffixes$Stitches" "length" "I", .methodLink RX1 19 Lib.Math.min.name, .static Lib.Math.min.name, .initialized "java/lang/Math", .code Lib.Math.min.name Lib.Math.min.code 2 (some .int), .methodLink RX1 25 yX1_at, .instanceMethod yX1_at, .selects RX1 yX1_at yX1_at, .code yX1_at cX1_at 2 (some .int), .fieldLink RX1 9 "HemSuffixes$Stitches" "kinds" "[I"] ++ wsX10)
def wsX0_putInOrder : List Cond := .code yX0_putInOrder cX0_putInOrder 4 none :: ([.fieldLink RX0 12 "HemSuffixes$Hem" "stitches" "LHemSuffixes$Stitches;", .fieldLink RX0 18 "HemSuffixes$Hem" "placesInOrder" "[I", .methodLink RX0 44 yX1_difference, .instanceMethod yX1_difference, .selects RX1 yX1_difference yX1_difference, .initialized RX1, .code yX1_difference cX1_difference 7 (some .int), .methodLink RX1 29 yX1_sharedWith, .instanceMethod yX1_sharedWith, .selects RX1 yX1_sharedWith yX1_sharedWith, .code yX1_sharedWith cX1_sharedWith 6 (some .int), .fieldLink RX1 15 "HemSuffixes$Stitches" "length" "I", .methodLink RX1 19 Lib.Math.min.name, .static Lib.Math.min.name, .initialized "java/lang/Math", .code Lib.Math.min.name Lib.Math.min.code 2 (some .int), .methodLink RX1 25 yX1_at, .instanceMethod yX1_at, .selects RX1 yX1_at yX1_at, .code yX1_at cX1_at 2 (some .int), .fieldLink RX1 9 "HemSuffixes$Stitches" "kinds" "[I"] ++ wsX00 ++ wsX10)
def wsX0_orderEnds_r1 : List Cond := [Cond.fieldLink RX0 12 "HemSuffixes$Hem" "stitches" "LHemSuffixes$Stitches;", Cond.fieldLink RX0 18 "HemSuffixes$Hem" "placesInOrder" "[I", Cond.methodLink RX0 40 yX0_putInOrder, Cond.instanceMethod yX0_putInOrder, Cond.selects RX0 yX0_putInOrder yX0_putInOrder, Cond.initialized RX0, Cond.code yX0_putInOrder cX0_putInOrder 4 none, Cond.methodLink RX0 44 yX1_difference, Cond.instanceMethod yX1_difference, Cond.selects RX1 yX1_difference yX1_difference, Cond.initialized RX1, Cond.code yX1_difference cX1_difference 7 (some .int), Cond.methodLink RX1 29 yX1_sharedWith, Cond.instanceMethod yX1_sharedWith, Cond.selects RX1 yX1_sharedWith yX1_sharedWith, Cond.code yX1_sharedWith cX1_sharedWith 6 (some .int), Cond.fieldLink RX1 15 "HemSuffixes$Stitches" "length" "I", Cond.methodLink RX1 19 Lib.Math.min.name, Cond.static Lib.Math.min.name, Cond.initialized "java/lang/Math", Cond.code Lib.Math.min.name Lib.Math.min.code 2 (some .int), Cond.methodLink RX1 25 yX1_at, Cond.instanceMethod yX1_at, Cond.selects RX1 yX1_at yX1_at]
def wsX0_orderEnds_r2 : List Cond := [Cond.code yX1_at cX1_at 2 (some .int), Cond.fieldLink RX1 9 "HemSuffixes$Stitches" "kinds" "[I"]
def wsX0_orderEnds : List Cond := .code yX0_orderEnds cX0_orderEnds 2 none :: ((wsX0_orderEnds_r1 ++ wsX0_orderEnds_r2) ++ wsX00 ++ wsX10)
def wsX0_sewOn_r1 : List Cond := [Cond.fieldLink RX0 12 "HemSuffixes$Hem" "stitches" "LHemSuffixes$Stitches;", Cond.methodLink RX0 22 yX1_append, Cond.instanceMethod yX1_append, Cond.selects RX1 yX1_append yX1_append, Cond.initialized RX1, Cond.code yX1_append cX1_append 2 none, Cond.fieldLink RX1 15 "HemSuffixes$Stitches" "length" "I", Cond.fieldLink RX1 9 "HemSuffixes$Stitches" "kinds" "[I", Cond.methodLink RX0 26 yX0_orderEnds, Cond.instanceMethod yX0_orderEnds, Cond.selects RX0 yX0_orderEnds yX0_orderEnds, Cond.initialized RX0, Cond.code yX0_orderEnds cX0_orderEnds 2 none, Cond.fieldLink RX0 18 "HemSuffixes$Hem" "placesInOrder" "[I", Cond.methodLink RX0 40 yX0_putInOrder, Cond.instanceMethod yX0_putInOrder, Cond.selects RX0 yX0_putInOrder yX0_putInOrder, Cond.code yX0_putInOrder cX0_putInOrder 4 none, Cond.methodLink RX0 44 yX1_difference, Cond.instanceMethod yX1_difference, Cond.selects RX1 yX1_difference yX1_difference, Cond.code yX1_difference cX1_difference 7 (some .int), Cond.methodLink RX1 29 yX1_sharedWith, Cond.instanceMethod yX1_sharedWith]
def wsX0_sewOn_r2 : List Cond := [Cond.selects RX1 yX1_sharedWith yX1_sharedWith, Cond.code yX1_sharedWith cX1_sharedWith 6 (some .int), Cond.methodLink RX1 19 Lib.Math.min.name, Cond.static Lib.Math.min.name, Cond.initialized "java/lang/Math", Cond.code Lib.Math.min.name Lib.Math.min.code 2 (some .int), Cond.methodLink RX1 25 yX1_at, Cond.instanceMethod yX1_at, Cond.selects RX1 yX1_at yX1_at, Cond.code yX1_at cX1_at 2 (some .int)]
def wsX0_sewOn : List Cond := .code yX0_sewOn cX0_sewOn 2 none :: ((wsX0_sewOn_r1 ++ wsX0_sewOn_r2) ++ wsX00 ++ wsX10)
def wsX0_sewBeginning_r1 : List Cond := [Cond.fieldLink RX0 12 "HemSuffixes$Hem" "stitches" "LHemSuffixes$Stitches;", Cond.methodLink RX0 29 yX1_at, Cond.instanceMethod yX1_at, Cond.selects RX1 yX1_at yX1_at, Cond.initialized RX1, Cond.code yX1_at cX1_at 2 (some .int), Cond.fieldLink RX1 15 "HemSuffixes$Stitches" "length" "I", Cond.fieldLink RX1 9 "HemSuffixes$Stitches" "kinds" "[I", Cond.methodLink RX0 22 yX1_append, Cond.instanceMethod yX1_append, Cond.selects RX1 yX1_append yX1_append, Cond.code yX1_append cX1_append 2 none, Cond.methodLink RX0 26 yX0_orderEnds, Cond.instanceMethod yX0_orderEnds, Cond.selects RX0 yX0_orderEnds yX0_orderEnds, Cond.initialized RX0, Cond.code yX0_orderEnds cX0_orderEnds 2 none, Cond.fieldLink RX0 18 "HemSuffixes$Hem" "placesInOrder" "[I", Cond.methodLink RX0 40 yX0_putInOrder, Cond.instanceMethod yX0_putInOrder, Cond.selects RX0 yX0_putInOrder yX0_putInOrder, Cond.code yX0_putInOrder cX0_putInOrder 4 none, Cond.methodLink RX0 44 yX1_difference, Cond.instanceMethod yX1_difference]
def wsX0_sewBeginning_r2 : List Cond := [Cond.selects RX1 yX1_difference yX1_difference, Cond.code yX1_difference cX1_difference 7 (some .int), Cond.methodLink RX1 29 yX1_sharedWith, Cond.instanceMethod yX1_sharedWith, Cond.selects RX1 yX1_sharedWith yX1_sharedWith, Cond.code yX1_sharedWith cX1_sharedWith 6 (some .int), Cond.methodLink RX1 19 Lib.Math.min.name, Cond.static Lib.Math.min.name, Cond.initialized "java/lang/Math", Cond.code Lib.Math.min.name Lib.Math.min.code 2 (some .int), Cond.methodLink RX1 25 yX1_at]
def wsX0_sewBeginning : List Cond := .code yX0_sewBeginning cX0_sewBeginning 3 none :: ((wsX0_sewBeginning_r1 ++ wsX0_sewBeginning_r2) ++ wsX00 ++ wsX10)
def wsX1_drop : List Cond := .code yX1_drop cX1_drop 2 none :: ([.fieldLink RX1 15 "HemSuffixes$Stitches" "length" "I"] ++ wsX10)
def wsX0_takeOff_r1 : List Cond := [Cond.fieldLink RX0 12 "HemSuffixes$Hem" "stitches" "LHemSuffixes$Stitches;", Cond.methodLink RX0 33 yX1_drop, Cond.instanceMethod yX1_drop, Cond.selects RX1 yX1_drop yX1_drop, Cond.initialized RX1, Cond.code yX1_drop cX1_drop 2 none, Cond.fieldLink RX1 15 "HemSuffixes$Stitches" "length" "I", Cond.methodLink RX0 26 yX0_orderEnds, Cond.instanceMethod yX0_orderEnds, Cond.selects RX0 yX0_orderEnds yX0_orderEnds, Cond.initialized RX0, Cond.code yX0_orderEnds cX0_orderEnds 2 none, Cond.fieldLink RX0 18 "HemSuffixes$Hem" "placesInOrder" "[I", Cond.methodLink RX0 40 yX0_putInOrder, Cond.instanceMethod yX0_putInOrder, Cond.selects RX0 yX0_putInOrder yX0_putInOrder, Cond.code yX0_putInOrder cX0_putInOrder 4 none, Cond.methodLink RX0 44 yX1_difference, Cond.instanceMethod yX1_difference, Cond.selects RX1 yX1_difference yX1_difference, Cond.code yX1_difference cX1_difference 7 (some .int), Cond.methodLink RX1 29 yX1_sharedWith, Cond.instanceMethod yX1_sharedWith, Cond.selects RX1 yX1_sharedWith yX1_sharedWith]
def wsX0_takeOff_r2 : List Cond := [Cond.code yX1_sharedWith cX1_sharedWith 6 (some .int), Cond.methodLink RX1 19 Lib.Math.min.name, Cond.static Lib.Math.min.name, Cond.initialized "java/lang/Math", Cond.code Lib.Math.min.name Lib.Math.min.code 2 (some .int), Cond.methodLink RX1 25 yX1_at, Cond.instanceMethod yX1_at, Cond.selects RX1 yX1_at yX1_at, Cond.code yX1_at cX1_at 2 (some .int), Cond.fieldLink RX1 9 "HemSuffixes$Stitches" "kinds" "[I"]
def wsX0_takeOff : List Cond := .code yX0_takeOff cX0_takeOff 2 none :: ((wsX0_takeOff_r1 ++ wsX0_takeOff_r2) ++ wsX00 ++ wsX10)
def wsX0_placeAt : List Cond := .code yX0_placeAt cX0_placeAt 2 (some .int) :: ([.fieldLink RX0 12 "HemSuffixes$Hem" "stitches" "LHemSuffixes$Stitches;", .fieldLink RX0 18 "HemSuffixes$Hem" "placesInOrder" "[I"] ++ wsX00 ++ wsX10)
def wsX0_rankOf : List Cond := .code yX0_rankOf cX0_rankOf 3 (some .int) :: ([.fieldLink RX0 12 "HemSuffixes$Hem" "stitches" "LHemSuffixes$Stitches;", .methodLink RX0 48 yX0_placeAt, .instanceMethod yX0_placeAt, .selects RX0 yX0_placeAt yX0_placeAt, .initialized RX0, .code yX0_placeAt cX0_placeAt 2 (some .int), .fieldLink RX0 18 "HemSuffixes$Hem" "placesInOrder" "[I"] ++ wsX00 ++ wsX10)
def wsX0_sharedWithNext : List Cond := .code yX0_sharedWithNext cX0_sharedWithNext 4 (some .int) :: ([.fieldLink RX0 12 "HemSuffixes$Hem" "stitches" "LHemSuffixes$Stitches;", .methodLink RX0 48 yX0_placeAt, .instanceMethod yX0_placeAt, .selects RX0 yX0_placeAt yX0_placeAt, .initialized RX0, .code yX0_placeAt cX0_placeAt 2 (some .int), .fieldLink RX0 18 "HemSuffixes$Hem" "placesInOrder" "[I", .methodLink RX0 51 yX1_sharedWith, .instanceMethod yX1_sharedWith, .selects RX1 yX1_sharedWith yX1_sharedWith, .initialized RX1, .code yX1_sharedWith cX1_sharedWith 6 (some .int), .fieldLink RX1 15 "HemSuffixes$Stitches" "length" "I", .methodLink RX1 19 Lib.Math.min.name, .static Lib.Math.min.name, .initialized "java/lang/Math", .code Lib.Math.min.name Lib.Math.min.code 2 (some .int), .methodLink RX1 25 yX1_at, .instanceMethod yX1_at, .selects RX1 yX1_at yX1_at, .code yX1_at cX1_at 2 (some .int), .fieldLink RX1 9 "HemSuffixes$Stitches" "kinds" "[I"] ++ wsX00 ++ wsX10)
def wsX0_neighbourPairs : List Cond := .code yX0_neighbourPairs cX0_neighbourPairs 1 (some .int) :: ([.fieldLink RX0 12 "HemSuffixes$Hem" "stitches" "LHemSuffixes$Stitches;"] ++ wsX00 ++ wsX10)
def wsX0_sharedByNeighbours_r1 : List Cond := [Cond.fieldLink RX0 12 "HemSuffixes$Hem" "stitches" "LHemSuffixes$Stitches;", Cond.methodLink RX0 54 yX0_sharedWithNext, Cond.instanceMethod yX0_sharedWithNext, Cond.selects RX0 yX0_sharedWithNext yX0_sharedWithNext, Cond.initialized RX0, Cond.code yX0_sharedWithNext cX0_sharedWithNext 4 (some .int), Cond.methodLink RX0 48 yX0_placeAt, Cond.instanceMethod yX0_placeAt, Cond.selects RX0 yX0_placeAt yX0_placeAt, Cond.code yX0_placeAt cX0_placeAt 2 (some .int), Cond.fieldLink RX0 18 "HemSuffixes$Hem" "placesInOrder" "[I", Cond.methodLink RX0 51 yX1_sharedWith, Cond.instanceMethod yX1_sharedWith, Cond.selects RX1 yX1_sharedWith yX1_sharedWith, Cond.initialized RX1, Cond.code yX1_sharedWith cX1_sharedWith 6 (some .int), Cond.fieldLink RX1 15 "HemSuffixes$Stitches" "length" "I", Cond.methodLink RX1 19 Lib.Math.min.name, Cond.static Lib.Math.min.name, Cond.initialized "java/lang/Math", Cond.code Lib.Math.min.name Lib.Math.min.code 2 (some .int), Cond.methodLink RX1 25 yX1_at, Cond.instanceMethod yX1_at, Cond.selects RX1 yX1_at yX1_at]
def wsX0_sharedByNeighbours_r2 : List Cond := [Cond.code yX1_at cX1_at 2 (some .int), Cond.fieldLink RX1 9 "HemSuffixes$Stitches" "kinds" "[I"]
def wsX0_sharedByNeighbours : List Cond := .code yX0_sharedByNeighbours cX0_sharedByNeighbours 3 (some .int) :: ((wsX0_sharedByNeighbours_r1 ++ wsX0_sharedByNeighbours_r2) ++ wsX00 ++ wsX10)
def wsX0_rowsFirstAt_r1 : List Cond := [Cond.fieldLink RX0 12 "HemSuffixes$Hem" "stitches" "LHemSuffixes$Stitches;", Cond.methodLink RX0 48 yX0_placeAt, Cond.instanceMethod yX0_placeAt, Cond.selects RX0 yX0_placeAt yX0_placeAt, Cond.initialized RX0, Cond.code yX0_placeAt cX0_placeAt 2 (some .int), Cond.fieldLink RX0 18 "HemSuffixes$Hem" "placesInOrder" "[I", Cond.methodLink RX0 54 yX0_sharedWithNext, Cond.instanceMethod yX0_sharedWithNext, Cond.selects RX0 yX0_sharedWithNext yX0_sharedWithNext, Cond.code yX0_sharedWithNext cX0_sharedWithNext 4 (some .int), Cond.methodLink RX0 51 yX1_sharedWith, Cond.instanceMethod yX1_sharedWith, Cond.selects RX1 yX1_sharedWith yX1_sharedWith, Cond.initialized RX1, Cond.code yX1_sharedWith cX1_sharedWith 6 (some .int), Cond.fieldLink RX1 15 "HemSuffixes$Stitches" "length" "I", Cond.methodLink RX1 19 Lib.Math.min.name, Cond.static Lib.Math.min.name, Cond.initialized "java/lang/Math", Cond.code Lib.Math.min.name Lib.Math.min.code 2 (some .int), Cond.methodLink RX1 25 yX1_at, Cond.instanceMethod yX1_at, Cond.selects RX1 yX1_at yX1_at]
def wsX0_rowsFirstAt_r2 : List Cond := [Cond.code yX1_at cX1_at 2 (some .int), Cond.fieldLink RX1 9 "HemSuffixes$Stitches" "kinds" "[I"]
def wsX0_rowsFirstAt : List Cond := .code yX0_rowsFirstAt cX0_rowsFirstAt 2 (some .int) :: ((wsX0_rowsFirstAt_r1 ++ wsX0_rowsFirstAt_r2) ++ wsX00 ++ wsX10)
def wsX0_differentRows_r1 : List Cond := [Cond.fieldLink RX0 12 "HemSuffixes$Hem" "stitches" "LHemSuffixes$Stitches;", Cond.methodLink RX0 57 yX0_rowsFirstAt, Cond.instanceMethod yX0_rowsFirstAt, Cond.selects RX0 yX0_rowsFirstAt yX0_rowsFirstAt, Cond.initialized RX0, Cond.code yX0_rowsFirstAt cX0_rowsFirstAt 2 (some .int), Cond.methodLink RX0 48 yX0_placeAt, Cond.instanceMethod yX0_placeAt, Cond.selects RX0 yX0_placeAt yX0_placeAt, Cond.code yX0_placeAt cX0_placeAt 2 (some .int), Cond.fieldLink RX0 18 "HemSuffixes$Hem" "placesInOrder" "[I", Cond.methodLink RX0 54 yX0_sharedWithNext, Cond.instanceMethod yX0_sharedWithNext, Cond.selects RX0 yX0_sharedWithNext yX0_sharedWithNext, Cond.code yX0_sharedWithNext cX0_sharedWithNext 4 (some .int), Cond.methodLink RX0 51 yX1_sharedWith, Cond.instanceMethod yX1_sharedWith, Cond.selects RX1 yX1_sharedWith yX1_sharedWith, Cond.initialized RX1, Cond.code yX1_sharedWith cX1_sharedWith 6 (some .int), Cond.fieldLink RX1 15 "HemSuffixes$Stitches" "length" "I", Cond.methodLink RX1 19 Lib.Math.min.name, Cond.static Lib.Math.min.name, Cond.initialized "java/lang/Math"]
def wsX0_differentRows_r2 : List Cond := [Cond.code Lib.Math.min.name Lib.Math.min.code 2 (some .int), Cond.methodLink RX1 25 yX1_at, Cond.instanceMethod yX1_at, Cond.selects RX1 yX1_at yX1_at, Cond.code yX1_at cX1_at 2 (some .int), Cond.fieldLink RX1 9 "HemSuffixes$Stitches" "kinds" "[I"]
def wsX0_differentRows : List Cond := .code yX0_differentRows cX0_differentRows 3 (some .int) :: ((wsX0_differentRows_r1 ++ wsX0_differentRows_r2) ++ wsX00 ++ wsX10)
def wsX1_standsAt : List Cond := .code yX1_standsAt cX1_standsAt 5 (some .boolean) :: ([.methodLink RX1 29 yX1_sharedWith, .instanceMethod yX1_sharedWith, .selects RX1 yX1_sharedWith yX1_sharedWith, .initialized RX1, .code yX1_sharedWith cX1_sharedWith 6 (some .int), .fieldLink RX1 15 "HemSuffixes$Stitches" "length" "I", .methodLink RX1 19 Lib.Math.min.name, .static Lib.Math.min.name, .initialized "java/lang/Math", .code Lib.Math.min.name Lib.Math.min.code 2 (some .int), .methodLink RX1 25 yX1_at, .instanceMethod yX1_at, .selects RX1 yX1_at yX1_at, .code yX1_at cX1_at 2 (some .int), .fieldLink RX1 9 "HemSuffixes$Stitches" "kinds" "[I"] ++ wsX10)
def wsX1_firstPlaceOf : List Cond := .code yX1_firstPlaceOf cX1_firstPlaceOf 5 (some .int) :: ([.fieldLink RX1 15 "HemSuffixes$Stitches" "length" "I", .methodLink RX1 36 yX1_standsAt, .instanceMethod yX1_standsAt, .selects RX1 yX1_standsAt yX1_standsAt, .initialized RX1, .code yX1_standsAt cX1_standsAt 5 (some .boolean), .methodLink RX1 29 yX1_sharedWith, .instanceMethod yX1_sharedWith, .selects RX1 yX1_sharedWith yX1_sharedWith, .code yX1_sharedWith cX1_sharedWith 6 (some .int), .methodLink RX1 19 Lib.Math.min.name, .static Lib.Math.min.name, .initialized "java/lang/Math", .code Lib.Math.min.name Lib.Math.min.code 2 (some .int), .methodLink RX1 25 yX1_at, .instanceMethod yX1_at, .selects RX1 yX1_at yX1_at, .code yX1_at cX1_at 2 (some .int), .fieldLink RX1 9 "HemSuffixes$Stitches" "kinds" "[I"] ++ wsX10)
def wsX0_rowOfNumber_r1 : List Cond := [Cond.fieldLink RX0 12 "HemSuffixes$Hem" "stitches" "LHemSuffixes$Stitches;", Cond.methodLink RX0 57 yX0_rowsFirstAt, Cond.instanceMethod yX0_rowsFirstAt, Cond.selects RX0 yX0_rowsFirstAt yX0_rowsFirstAt, Cond.initialized RX0, Cond.code yX0_rowsFirstAt cX0_rowsFirstAt 2 (some .int), Cond.methodLink RX0 48 yX0_placeAt, Cond.instanceMethod yX0_placeAt, Cond.selects RX0 yX0_placeAt yX0_placeAt, Cond.code yX0_placeAt cX0_placeAt 2 (some .int), Cond.fieldLink RX0 18 "HemSuffixes$Hem" "placesInOrder" "[I", Cond.methodLink RX0 54 yX0_sharedWithNext, Cond.instanceMethod yX0_sharedWithNext, Cond.selects RX0 yX0_sharedWithNext yX0_sharedWithNext, Cond.code yX0_sharedWithNext cX0_sharedWithNext 4 (some .int), Cond.methodLink RX0 51 yX1_sharedWith, Cond.instanceMethod yX1_sharedWith, Cond.selects RX1 yX1_sharedWith yX1_sharedWith, Cond.initialized RX1, Cond.code yX1_sharedWith cX1_sharedWith 6 (some .int), Cond.fieldLink RX1 15 "HemSuffixes$Stitches" "length" "I", Cond.methodLink RX1 19 Lib.Math.min.name, Cond.static Lib.Math.min.name, Cond.initialized "java/lang/Math"]
def wsX0_rowOfNumber_r2 : List Cond := [Cond.code Lib.Math.min.name Lib.Math.min.code 2 (some .int), Cond.methodLink RX1 25 yX1_at, Cond.instanceMethod yX1_at, Cond.selects RX1 yX1_at yX1_at, Cond.code yX1_at cX1_at 2 (some .int), Cond.fieldLink RX1 9 "HemSuffixes$Stitches" "kinds" "[I", Cond.methodLink RX0 60 yX1_firstPlaceOf, Cond.instanceMethod yX1_firstPlaceOf, Cond.selects RX1 yX1_firstPlaceOf yX1_firstPlaceOf, Cond.code yX1_firstPlaceOf cX1_firstPlaceOf 5 (some .int), Cond.methodLink RX1 36 yX1_standsAt, Cond.instanceMethod yX1_standsAt, Cond.selects RX1 yX1_standsAt yX1_standsAt, Cond.code yX1_standsAt cX1_standsAt 5 (some .boolean), Cond.methodLink RX1 29 yX1_sharedWith]
def wsX0_rowOfNumber : List Cond := .code yX0_rowOfNumber cX0_rowOfNumber 6 (some .int) :: ((wsX0_rowOfNumber_r1 ++ wsX0_rowOfNumber_r2) ++ wsX00 ++ wsX10)
def wsX0_repeatRank_r1 : List Cond := [Cond.fieldLink RX0 12 "HemSuffixes$Hem" "stitches" "LHemSuffixes$Stitches;", Cond.methodLink RX0 54 yX0_sharedWithNext, Cond.instanceMethod yX0_sharedWithNext, Cond.selects RX0 yX0_sharedWithNext yX0_sharedWithNext, Cond.initialized RX0, Cond.code yX0_sharedWithNext cX0_sharedWithNext 4 (some .int), Cond.methodLink RX0 48 yX0_placeAt, Cond.instanceMethod yX0_placeAt, Cond.selects RX0 yX0_placeAt yX0_placeAt, Cond.code yX0_placeAt cX0_placeAt 2 (some .int), Cond.fieldLink RX0 18 "HemSuffixes$Hem" "placesInOrder" "[I", Cond.methodLink RX0 51 yX1_sharedWith, Cond.instanceMethod yX1_sharedWith, Cond.selects RX1 yX1_sharedWith yX1_sharedWith, Cond.initialized RX1, Cond.code yX1_sharedWith cX1_sharedWith 6 (some .int), Cond.fieldLink RX1 15 "HemSuffixes$Stitches" "length" "I", Cond.methodLink RX1 19 Lib.Math.min.name, Cond.static Lib.Math.min.name, Cond.initialized "java/lang/Math", Cond.code Lib.Math.min.name Lib.Math.min.code 2 (some .int), Cond.methodLink RX1 25 yX1_at, Cond.instanceMethod yX1_at, Cond.selects RX1 yX1_at yX1_at]
def wsX0_repeatRank_r2 : List Cond := [Cond.code yX1_at cX1_at 2 (some .int), Cond.fieldLink RX1 9 "HemSuffixes$Stitches" "kinds" "[I"]
def wsX0_repeatRank : List Cond := .code yX0_repeatRank cX0_repeatRank 5 (some .int) :: ((wsX0_repeatRank_r1 ++ wsX0_repeatRank_r2) ++ wsX00 ++ wsX10)
def wsX1_mostSharedWith : List Cond := .code yX1_mostSharedWith cX1_mostSharedWith 5 (some .int) :: ([.fieldLink RX1 15 "HemSuffixes$Stitches" "length" "I", .methodLink RX1 33 Lib.Math.max.name, .static Lib.Math.max.name, .initialized "java/lang/Math", .code Lib.Math.max.name Lib.Math.max.code 2 (some .int), .methodLink RX1 29 yX1_sharedWith, .instanceMethod yX1_sharedWith, .selects RX1 yX1_sharedWith yX1_sharedWith, .initialized RX1, .code yX1_sharedWith cX1_sharedWith 6 (some .int), .methodLink RX1 19 Lib.Math.min.name, .static Lib.Math.min.name, .code Lib.Math.min.name Lib.Math.min.code 2 (some .int), .methodLink RX1 25 yX1_at, .instanceMethod yX1_at, .selects RX1 yX1_at yX1_at, .code yX1_at cX1_at 2 (some .int), .fieldLink RX1 9 "HemSuffixes$Stitches" "kinds" "[I"] ++ wsX10)
def wsX1_placesOf : List Cond := .code yX1_placesOf cX1_placesOf 6 (some .int) :: ([.fieldLink RX1 15 "HemSuffixes$Stitches" "length" "I", .methodLink RX1 36 yX1_standsAt, .instanceMethod yX1_standsAt, .selects RX1 yX1_standsAt yX1_standsAt, .initialized RX1, .code yX1_standsAt cX1_standsAt 5 (some .boolean), .methodLink RX1 29 yX1_sharedWith, .instanceMethod yX1_sharedWith, .selects RX1 yX1_sharedWith yX1_sharedWith, .code yX1_sharedWith cX1_sharedWith 6 (some .int), .methodLink RX1 19 Lib.Math.min.name, .static Lib.Math.min.name, .initialized "java/lang/Math", .code Lib.Math.min.name Lib.Math.min.code 2 (some .int), .methodLink RX1 25 yX1_at, .instanceMethod yX1_at, .selects RX1 yX1_at yX1_at, .code yX1_at cX1_at 2 (some .int), .fieldLink RX1 9 "HemSuffixes$Stitches" "kinds" "[I"] ++ wsX10)
def wsX1_leastPeriod : List Cond := .code yX1_leastPeriod cX1_leastPeriod 2 (some .int) :: ([.fieldLink RX1 15 "HemSuffixes$Stitches" "length" "I", .methodLink RX1 29 yX1_sharedWith, .instanceMethod yX1_sharedWith, .selects RX1 yX1_sharedWith yX1_sharedWith, .initialized RX1, .code yX1_sharedWith cX1_sharedWith 6 (some .int), .methodLink RX1 19 Lib.Math.min.name, .static Lib.Math.min.name, .initialized "java/lang/Math", .code Lib.Math.min.name Lib.Math.min.code 2 (some .int), .methodLink RX1 25 yX1_at, .instanceMethod yX1_at, .selects RX1 yX1_at yX1_at, .code yX1_at cX1_at 2 (some .int), .fieldLink RX1 9 "HemSuffixes$Stitches" "kinds" "[I"] ++ wsX10)
def wsX1_allAround : List Cond := .code yX1_allAround cX1_allAround 2 (some .int) :: ([.fieldLink RX1 15 "HemSuffixes$Stitches" "length" "I", .methodLink RX1 25 yX1_at, .instanceMethod yX1_at, .selects RX1 yX1_at yX1_at, .initialized RX1, .code yX1_at cX1_at 2 (some .int), .fieldLink RX1 9 "HemSuffixes$Stitches" "kinds" "[I"] ++ wsX10)
def wsX1_turnsToLess : List Cond := .code yX1_turnsToLess cX1_turnsToLess 6 (some .boolean) :: ([.fieldLink RX1 15 "HemSuffixes$Stitches" "length" "I", .methodLink RX1 44 yX1_allAround, .instanceMethod yX1_allAround, .selects RX1 yX1_allAround yX1_allAround, .initialized RX1, .code yX1_allAround cX1_allAround 2 (some .int), .methodLink RX1 25 yX1_at, .instanceMethod yX1_at, .selects RX1 yX1_at yX1_at, .code yX1_at cX1_at 2 (some .int), .fieldLink RX1 9 "HemSuffixes$Stitches" "kinds" "[I"] ++ wsX10)
def wsX1_bestBeginning : List Cond := .code yX1_bestBeginning cX1_bestBeginning 3 (some .int) :: ([.fieldLink RX1 15 "HemSuffixes$Stitches" "length" "I", .methodLink RX1 40 yX1_turnsToLess, .instanceMethod yX1_turnsToLess, .selects RX1 yX1_turnsToLess yX1_turnsToLess, .initialized RX1, .code yX1_turnsToLess cX1_turnsToLess 6 (some .boolean), .methodLink RX1 44 yX1_allAround, .instanceMethod yX1_allAround, .selects RX1 yX1_allAround yX1_allAround, .code yX1_allAround cX1_allAround 2 (some .int), .methodLink RX1 25 yX1_at, .instanceMethod yX1_at, .selects RX1 yX1_at yX1_at, .code yX1_at cX1_at 2 (some .int), .fieldLink RX1 9 "HemSuffixes$Stitches" "kinds" "[I"] ++ wsX10)
def wsX2_init_r1 : List Cond := [Cond.methodLink RX2 1 objectInit, Cond.instanceMethod objectInit, Cond.code objectInit ⟨#[0xb1]⟩ 1 none, Cond.classLink RX2 7 RX0, Cond.instantiable RX0 2, Cond.initialized RX0, Cond.fieldLink RX2 10 "HemSuffixes" "hemZero" "LHemSuffixes$Hem;", Cond.fieldLink RX2 16 "HemSuffixes" "hemOne" "LHemSuffixes$Hem;", Cond.classLink RX2 19 RX1, Cond.instantiable RX1 2, Cond.initialized RX1, Cond.fieldLink RX2 22 "HemSuffixes" "sample" "LHemSuffixes$Stitches;", Cond.methodLink RX2 9 yX0_init, Cond.instanceMethod yX0_init, Cond.code yX0_init cX0_init 1 none, Cond.methodLink RX0 3 objectInit, Cond.classLink RX0 9 RX1, Cond.fieldLink RX0 12 "HemSuffixes$Hem" "stitches" "LHemSuffixes$Stitches;", Cond.arrayClass .int, Cond.fieldLink RX0 18 "HemSuffixes$Hem" "placesInOrder" "[I", Cond.methodLink RX0 11 yX1_init, Cond.instanceMethod yX1_init, Cond.code yX1_init cX1_init 1 none, Cond.methodLink RX1 3 objectInit]
def wsX2_init_r2 : List Cond := [Cond.fieldLink RX1 9 "HemSuffixes$Stitches" "kinds" "[I", Cond.fieldLink RX1 15 "HemSuffixes$Stitches" "length" "I", Cond.methodLink RX2 21 yX1_init]
def wsX2_init : List Cond := .code yX2_init cX2_init 1 none :: ((wsX2_init_r1 ++ wsX2_init_r2) ++ wsX00 ++ wsX20 ++ wsX10)
def wsX2_hemOf : List Cond := .code yX2_hemOf cX2_hemOf 2 (some (.object "HemSuffixes$Hem")) :: ([.classLink RX2 92 "java/lang/IndexOutOfBoundsException", .initialized "java/lang/IndexOutOfBoundsException", .fieldLink RX2 10 "HemSuffixes" "hemZero" "LHemSuffixes$Hem;", .fieldLink RX2 16 "HemSuffixes" "hemOne" "LHemSuffixes$Hem;"] ++ wsX20 ++ (vx_atS RX2 96 "java/lang/IndexOutOfBoundsException" ["java/lang/RuntimeException", "java/lang/Exception"]).filter goodWord)
def wsX2_requireStitch : List Cond := .code yX2_requireStitch cX2_requireStitch 1 none :: ([.classLink RX2 51 "java/lang/IllegalArgumentException", .initialized "java/lang/IllegalArgumentException"] ++ (vx_atS RX2 55 "java/lang/IllegalArgumentException" ["java/lang/RuntimeException", "java/lang/Exception"]).filter goodWord)
def wsX2_sew_r1 : List Cond := [Cond.classLink RX2 41 "java/lang/IllegalStateException", Cond.initialized "java/lang/IllegalStateException", Cond.methodLink RX2 26 yX2_hemOf, Cond.instanceMethod yX2_hemOf, Cond.selects RX2 yX2_hemOf yX2_hemOf, Cond.initialized RX2, Cond.code yX2_hemOf cX2_hemOf 2 (some (.object "HemSuffixes$Hem")), Cond.classLink RX2 92 "java/lang/IndexOutOfBoundsException", Cond.initialized "java/lang/IndexOutOfBoundsException", Cond.fieldLink RX2 10 "HemSuffixes" "hemZero" "LHemSuffixes$Hem;", Cond.fieldLink RX2 16 "HemSuffixes" "hemOne" "LHemSuffixes$Hem;", Cond.methodLink RX2 30 yX2_requireStitch, Cond.static yX2_requireStitch, Cond.code yX2_requireStitch cX2_requireStitch 1 none, Cond.classLink RX2 51 "java/lang/IllegalArgumentException", Cond.initialized "java/lang/IllegalArgumentException", Cond.methodLink RX2 48 yX0_sewOn, Cond.instanceMethod yX0_sewOn, Cond.selects RX0 yX0_sewOn yX0_sewOn, Cond.initialized RX0, Cond.code yX0_sewOn cX0_sewOn 2 none, Cond.fieldLink RX0 12 "HemSuffixes$Hem" "stitches" "LHemSuffixes$Stitches;", Cond.methodLink RX0 22 yX1_append, Cond.instanceMethod yX1_append]
def wsX2_sew_r2 : List Cond := [Cond.selects RX1 yX1_append yX1_append, Cond.initialized RX1, Cond.code yX1_append cX1_append 2 none, Cond.fieldLink RX1 15 "HemSuffixes$Stitches" "length" "I", Cond.fieldLink RX1 9 "HemSuffixes$Stitches" "kinds" "[I", Cond.methodLink RX0 26 yX0_orderEnds, Cond.instanceMethod yX0_orderEnds, Cond.selects RX0 yX0_orderEnds yX0_orderEnds, Cond.code yX0_orderEnds cX0_orderEnds 2 none, Cond.fieldLink RX0 18 "HemSuffixes$Hem" "placesInOrder" "[I", Cond.methodLink RX0 40 yX0_putInOrder, Cond.instanceMethod yX0_putInOrder, Cond.selects RX0 yX0_putInOrder yX0_putInOrder, Cond.code yX0_putInOrder cX0_putInOrder 4 none, Cond.methodLink RX0 44 yX1_difference, Cond.instanceMethod yX1_difference, Cond.selects RX1 yX1_difference yX1_difference, Cond.code yX1_difference cX1_difference 7 (some .int), Cond.methodLink RX1 29 yX1_sharedWith, Cond.instanceMethod yX1_sharedWith, Cond.selects RX1 yX1_sharedWith yX1_sharedWith, Cond.code yX1_sharedWith cX1_sharedWith 6 (some .int), Cond.methodLink RX1 19 Lib.Math.min.name, Cond.static Lib.Math.min.name]
def wsX2_sew_r3 : List Cond := [Cond.initialized "java/lang/Math", Cond.code Lib.Math.min.name Lib.Math.min.code 2 (some .int), Cond.methodLink RX1 25 yX1_at, Cond.instanceMethod yX1_at, Cond.selects RX1 yX1_at yX1_at, Cond.code yX1_at cX1_at 2 (some .int)]
def wsX2_sew : List Cond := .code yX2_sew cX2_sew 4 (some .int) :: ((wsX2_sew_r1 ++ (wsX2_sew_r2 ++ wsX2_sew_r3)) ++ wsX00 ++ wsX10 ++ wsX20 ++ (vx_atS RX2 45 "java/lang/IllegalStateException" ["java/lang/RuntimeException", "java/lang/Exception"]).filter goodWord ++ (vx_atS RX2 96 "java/lang/IndexOutOfBoundsException" ["java/lang/RuntimeException", "java/lang/Exception"]).filter goodWord ++ (vx_atS RX2 55 "java/lang/IllegalArgumentException" ["java/lang/RuntimeException", "java/lang/Exception"]).filter goodWord)
def wsX2_again_r1 : List Cond := [Cond.classLink RX2 51 "java/lang/IllegalArgumentException", Cond.initialized "java/lang/IllegalArgumentException", Cond.classLink RX2 41 "java/lang/IllegalStateException", Cond.initialized "java/lang/IllegalStateException", Cond.methodLink RX2 26 yX2_hemOf, Cond.instanceMethod yX2_hemOf, Cond.selects RX2 yX2_hemOf yX2_hemOf, Cond.initialized RX2, Cond.code yX2_hemOf cX2_hemOf 2 (some (.object "HemSuffixes$Hem")), Cond.classLink RX2 92 "java/lang/IndexOutOfBoundsException", Cond.initialized "java/lang/IndexOutOfBoundsException", Cond.fieldLink RX2 10 "HemSuffixes" "hemZero" "LHemSuffixes$Hem;", Cond.fieldLink RX2 16 "HemSuffixes" "hemOne" "LHemSuffixes$Hem;", Cond.methodLink RX2 58 yX0_sewBeginning, Cond.instanceMethod yX0_sewBeginning, Cond.selects RX0 yX0_sewBeginning yX0_sewBeginning, Cond.initialized RX0, Cond.code yX0_sewBeginning cX0_sewBeginning 3 none, Cond.fieldLink RX0 12 "HemSuffixes$Hem" "stitches" "LHemSuffixes$Stitches;", Cond.methodLink RX0 29 yX1_at, Cond.instanceMethod yX1_at, Cond.selects RX1 yX1_at yX1_at, Cond.initialized RX1, Cond.code yX1_at cX1_at 2 (some .int)]
def wsX2_again_r2 : List Cond := [Cond.fieldLink RX1 15 "HemSuffixes$Stitches" "length" "I", Cond.fieldLink RX1 9 "HemSuffixes$Stitches" "kinds" "[I", Cond.methodLink RX0 22 yX1_append, Cond.instanceMethod yX1_append, Cond.selects RX1 yX1_append yX1_append, Cond.code yX1_append cX1_append 2 none, Cond.methodLink RX0 26 yX0_orderEnds, Cond.instanceMethod yX0_orderEnds, Cond.selects RX0 yX0_orderEnds yX0_orderEnds, Cond.code yX0_orderEnds cX0_orderEnds 2 none, Cond.fieldLink RX0 18 "HemSuffixes$Hem" "placesInOrder" "[I", Cond.methodLink RX0 40 yX0_putInOrder, Cond.instanceMethod yX0_putInOrder, Cond.selects RX0 yX0_putInOrder yX0_putInOrder, Cond.code yX0_putInOrder cX0_putInOrder 4 none, Cond.methodLink RX0 44 yX1_difference, Cond.instanceMethod yX1_difference, Cond.selects RX1 yX1_difference yX1_difference, Cond.code yX1_difference cX1_difference 7 (some .int), Cond.methodLink RX1 29 yX1_sharedWith, Cond.instanceMethod yX1_sharedWith, Cond.selects RX1 yX1_sharedWith yX1_sharedWith, Cond.code yX1_sharedWith cX1_sharedWith 6 (some .int), Cond.methodLink RX1 19 Lib.Math.min.name]
def wsX2_again_r3 : List Cond := [Cond.static Lib.Math.min.name, Cond.initialized "java/lang/Math", Cond.code Lib.Math.min.name Lib.Math.min.code 2 (some .int), Cond.methodLink RX1 25 yX1_at]
def wsX2_again : List Cond := .code yX2_again cX2_again 5 (some .int) :: ((wsX2_again_r1 ++ (wsX2_again_r2 ++ wsX2_again_r3)) ++ wsX00 ++ wsX10 ++ wsX20 ++ (vx_atS RX2 55 "java/lang/IllegalArgumentException" ["java/lang/RuntimeException", "java/lang/Exception"]).filter goodWord ++ (vx_atS RX2 45 "java/lang/IllegalStateException" ["java/lang/RuntimeException", "java/lang/Exception"]).filter goodWord ++ (vx_atS RX2 96 "java/lang/IndexOutOfBoundsException" ["java/lang/RuntimeException", "java/lang/Exception"]).filter goodWord)
def wsX2_unpick_r1 : List Cond := [Cond.classLink RX2 51 "java/lang/IllegalArgumentException", Cond.initialized "java/lang/IllegalArgumentException", Cond.methodLink RX2 26 yX2_hemOf, Cond.instanceMethod yX2_hemOf, Cond.selects RX2 yX2_hemOf yX2_hemOf, Cond.initialized RX2, Cond.code yX2_hemOf cX2_hemOf 2 (some (.object "HemSuffixes$Hem")), Cond.classLink RX2 92 "java/lang/IndexOutOfBoundsException", Cond.initialized "java/lang/IndexOutOfBoundsException", Cond.fieldLink RX2 10 "HemSuffixes" "hemZero" "LHemSuffixes$Hem;", Cond.fieldLink RX2 16 "HemSuffixes" "hemOne" "LHemSuffixes$Hem;", Cond.methodLink RX2 63 yX0_takeOff, Cond.instanceMethod yX0_takeOff, Cond.selects RX0 yX0_takeOff yX0_takeOff, Cond.initialized RX0, Cond.code yX0_takeOff cX0_takeOff 2 none, Cond.fieldLink RX0 12 "HemSuffixes$Hem" "stitches" "LHemSuffixes$Stitches;", Cond.methodLink RX0 33 yX1_drop, Cond.instanceMethod yX1_drop, Cond.selects RX1 yX1_drop yX1_drop, Cond.initialized RX1, Cond.code yX1_drop cX1_drop 2 none, Cond.fieldLink RX1 15 "HemSuffixes$Stitches" "length" "I", Cond.methodLink RX0 26 yX0_orderEnds]
def wsX2_unpick_r2 : List Cond := [Cond.instanceMethod yX0_orderEnds, Cond.selects RX0 yX0_orderEnds yX0_orderEnds, Cond.code yX0_orderEnds cX0_orderEnds 2 none, Cond.fieldLink RX0 18 "HemSuffixes$Hem" "placesInOrder" "[I", Cond.methodLink RX0 40 yX0_putInOrder, Cond.instanceMethod yX0_putInOrder, Cond.selects RX0 yX0_putInOrder yX0_putInOrder, Cond.code yX0_putInOrder cX0_putInOrder 4 none, Cond.methodLink RX0 44 yX1_difference, Cond.instanceMethod yX1_difference, Cond.selects RX1 yX1_difference yX1_difference, Cond.code yX1_difference cX1_difference 7 (some .int), Cond.methodLink RX1 29 yX1_sharedWith, Cond.instanceMethod yX1_sharedWith, Cond.selects RX1 yX1_sharedWith yX1_sharedWith, Cond.code yX1_sharedWith cX1_sharedWith 6 (some .int), Cond.methodLink RX1 19 Lib.Math.min.name, Cond.static Lib.Math.min.name, Cond.initialized "java/lang/Math", Cond.code Lib.Math.min.name Lib.Math.min.code 2 (some .int), Cond.methodLink RX1 25 yX1_at, Cond.instanceMethod yX1_at, Cond.selects RX1 yX1_at yX1_at, Cond.code yX1_at cX1_at 2 (some .int)]
def wsX2_unpick_r3 : List Cond := [Cond.fieldLink RX1 9 "HemSuffixes$Stitches" "kinds" "[I"]
def wsX2_unpick : List Cond := .code yX2_unpick cX2_unpick 4 (some .int) :: ((wsX2_unpick_r1 ++ (wsX2_unpick_r2 ++ wsX2_unpick_r3)) ++ wsX00 ++ wsX10 ++ wsX20 ++ (vx_atS RX2 55 "java/lang/IllegalArgumentException" ["java/lang/RuntimeException", "java/lang/Exception"]).filter goodWord ++ (vx_atS RX2 96 "java/lang/IndexOutOfBoundsException" ["java/lang/RuntimeException", "java/lang/Exception"]).filter goodWord)
def wsX2_add : List Cond := .code yX2_add cX2_add 2 (some .int) :: ([.classLink RX2 41 "java/lang/IllegalStateException", .initialized "java/lang/IllegalStateException", .fieldLink RX2 22 "HemSuffixes" "sample" "LHemSuffixes$Stitches;", .methodLink RX2 30 yX2_requireStitch, .static yX2_requireStitch, .initialized RX2, .code yX2_requireStitch cX2_requireStitch 1 none, .classLink RX2 51 "java/lang/IllegalArgumentException", .initialized "java/lang/IllegalArgumentException", .methodLink RX2 68 yX1_append, .instanceMethod yX1_append, .selects RX1 yX1_append yX1_append, .initialized RX1, .code yX1_append cX1_append 2 none, .fieldLink RX1 15 "HemSuffixes$Stitches" "length" "I", .fieldLink RX1 9 "HemSuffixes$Stitches" "kinds" "[I"] ++ wsX20 ++ wsX10 ++ (vx_atS RX2 45 "java/lang/IllegalStateException" ["java/lang/RuntimeException", "java/lang/Exception"]).filter goodWord ++ (vx_atS RX2 55 "java/lang/IllegalArgumentException" ["java/lang/RuntimeException", "java/lang/Exception"]).filter goodWord)
def wsX2_clear : List Cond := .code yX2_clear cX2_clear 2 (some .int) :: ([.fieldLink RX2 22 "HemSuffixes" "sample" "LHemSuffixes$Stitches;", .methodLink RX2 71 yX1_drop, .instanceMethod yX1_drop, .selects RX1 yX1_drop yX1_drop, .initialized RX1, .code yX1_drop cX1_drop 2 none, .fieldLink RX1 15 "HemSuffixes$Stitches" "length" "I"] ++ wsX20 ++ wsX10)
def wsX2_requirePlace : List Cond := .code yX2_requirePlace cX2_requirePlace 2 none :: ([.classLink RX2 92 "java/lang/IndexOutOfBoundsException", .initialized "java/lang/IndexOutOfBoundsException"] ++ wsX10 ++ (vx_atS RX2 96 "java/lang/IndexOutOfBoundsException" ["java/lang/RuntimeException", "java/lang/Exception"]).filter goodWord)
def wsX2_stitch : List Cond := .code yX2_stitch cX2_stitch 4 (some .int) :: ([.methodLink RX2 26 yX2_hemOf, .instanceMethod yX2_hemOf, .selects RX2 yX2_hemOf yX2_hemOf, .initialized RX2, .code yX2_hemOf cX2_hemOf 2 (some (.object "HemSuffixes$Hem")), .classLink RX2 92 "java/lang/IndexOutOfBoundsException", .initialized "java/lang/IndexOutOfBoundsException", .fieldLink RX2 10 "HemSuffixes" "hemZero" "LHemSuffixes$Hem;", .fieldLink RX2 16 "HemSuffixes" "hemOne" "LHemSuffixes$Hem;", .methodLink RX2 74 yX2_requirePlace, .static yX2_requirePlace, .code yX2_requirePlace cX2_requirePlace 2 none, .methodLink RX2 78 yX1_at, .instanceMethod yX1_at, .selects RX1 yX1_at yX1_at, .initialized RX1, .code yX1_at cX1_at 2 (some .int), .fieldLink RX1 15 "HemSuffixes$Stitches" "length" "I", .fieldLink RX1 9 "HemSuffixes$Stitches" "kinds" "[I"] ++ wsX00 ++ wsX20 ++ wsX10 ++ (vx_atS RX2 96 "java/lang/IndexOutOfBoundsException" ["java/lang/RuntimeException", "java/lang/Exception"]).filter goodWord)
def wsX2_seamLengthFrom : List Cond := .code yX2_seamLengthFrom cX2_seamLengthFrom 2 (some .int) :: ([.fieldLink RX2 10 "HemSuffixes" "hemZero" "LHemSuffixes$Hem;", .fieldLink RX2 16 "HemSuffixes" "hemOne" "LHemSuffixes$Hem;", .methodLink RX2 185 yX1_mostSharedWith, .instanceMethod yX1_mostSharedWith, .selects RX1 yX1_mostSharedWith yX1_mostSharedWith, .initialized RX1, .code yX1_mostSharedWith cX1_mostSharedWith 5 (some .int), .fieldLink RX1 15 "HemSuffixes$Stitches" "length" "I", .methodLink RX1 33 Lib.Math.max.name, .static Lib.Math.max.name, .initialized "java/lang/Math", .code Lib.Math.max.name Lib.Math.max.code 2 (some .int), .methodLink RX1 29 yX1_sharedWith, .instanceMethod yX1_sharedWith, .selects RX1 yX1_sharedWith yX1_sharedWith, .code yX1_sharedWith cX1_sharedWith 6 (some .int), .methodLink RX1 19 Lib.Math.min.name, .static Lib.Math.min.name, .code Lib.Math.min.name Lib.Math.min.code 2 (some .int), .methodLink RX1 25 yX1_at, .instanceMethod yX1_at, .selects RX1 yX1_at yX1_at, .code yX1_at cX1_at 2 (some .int), .fieldLink RX1 9 "HemSuffixes$Stitches" "kinds" "[I"] ++ wsX20 ++ wsX00 ++ wsX10)
def wsX2_seamPlace_r1 : List Cond := [Cond.fieldLink RX2 10 "HemSuffixes" "hemZero" "LHemSuffixes$Hem;", Cond.methodLink RX2 97 yX0_placeAt, Cond.instanceMethod yX0_placeAt, Cond.selects RX0 yX0_placeAt yX0_placeAt, Cond.initialized RX0, Cond.code yX0_placeAt cX0_placeAt 2 (some .int), Cond.fieldLink RX0 12 "HemSuffixes$Hem" "stitches" "LHemSuffixes$Stitches;", Cond.fieldLink RX0 18 "HemSuffixes$Hem" "placesInOrder" "[I", Cond.methodLink RX2 89 yX2_seamLengthFrom, Cond.instanceMethod yX2_seamLengthFrom, Cond.selects RX2 yX2_seamLengthFrom yX2_seamLengthFrom, Cond.initialized RX2, Cond.code yX2_seamLengthFrom cX2_seamLengthFrom 2 (some .int), Cond.fieldLink RX2 16 "HemSuffixes" "hemOne" "LHemSuffixes$Hem;", Cond.methodLink RX2 185 yX1_mostSharedWith, Cond.instanceMethod yX1_mostSharedWith, Cond.selects RX1 yX1_mostSharedWith yX1_mostSharedWith, Cond.initialized RX1, Cond.code yX1_mostSharedWith cX1_mostSharedWith 5 (some .int), Cond.fieldLink RX1 15 "HemSuffixes$Stitches" "length" "I", Cond.methodLink RX1 33 Lib.Math.max.name, Cond.static Lib.Math.max.name, Cond.initialized "java/lang/Math", Cond.code Lib.Math.max.name Lib.Math.max.code 2 (some .int)]
def wsX2_seamPlace_r2 : List Cond := [Cond.methodLink RX1 29 yX1_sharedWith, Cond.instanceMethod yX1_sharedWith, Cond.selects RX1 yX1_sharedWith yX1_sharedWith, Cond.code yX1_sharedWith cX1_sharedWith 6 (some .int), Cond.methodLink RX1 19 Lib.Math.min.name, Cond.static Lib.Math.min.name, Cond.code Lib.Math.min.name Lib.Math.min.code 2 (some .int), Cond.methodLink RX1 25 yX1_at, Cond.instanceMethod yX1_at, Cond.selects RX1 yX1_at yX1_at, Cond.code yX1_at cX1_at 2 (some .int), Cond.fieldLink RX1 9 "HemSuffixes$Stitches" "kinds" "[I"]
def wsX2_seamPlace : List Cond := .code yX2_seamPlace cX2_seamPlace 6 (some .int) :: ((wsX2_seamPlace_r1 ++ wsX2_seamPlace_r2) ++ wsX20 ++ wsX00 ++ wsX10)
def wsX2_count_r1 : List Cond := [Cond.classLink RX2 92 "java/lang/IndexOutOfBoundsException", Cond.initialized "java/lang/IndexOutOfBoundsException", Cond.fieldLink RX2 10 "HemSuffixes" "hemZero" "LHemSuffixes$Hem;", Cond.fieldLink RX2 16 "HemSuffixes" "hemOne" "LHemSuffixes$Hem;", Cond.fieldLink RX2 22 "HemSuffixes" "sample" "LHemSuffixes$Stitches;", Cond.methodLink RX2 82 yX0_differentRows, Cond.instanceMethod yX0_differentRows, Cond.selects RX0 yX0_differentRows yX0_differentRows, Cond.initialized RX0, Cond.code yX0_differentRows cX0_differentRows 3 (some .int), Cond.fieldLink RX0 12 "HemSuffixes$Hem" "stitches" "LHemSuffixes$Stitches;", Cond.methodLink RX0 57 yX0_rowsFirstAt, Cond.instanceMethod yX0_rowsFirstAt, Cond.selects RX0 yX0_rowsFirstAt yX0_rowsFirstAt, Cond.code yX0_rowsFirstAt cX0_rowsFirstAt 2 (some .int), Cond.methodLink RX0 48 yX0_placeAt, Cond.instanceMethod yX0_placeAt, Cond.selects RX0 yX0_placeAt yX0_placeAt, Cond.code yX0_placeAt cX0_placeAt 2 (some .int), Cond.fieldLink RX0 18 "HemSuffixes$Hem" "placesInOrder" "[I", Cond.methodLink RX0 54 yX0_sharedWithNext, Cond.instanceMethod yX0_sharedWithNext, Cond.selects RX0 yX0_sharedWithNext yX0_sharedWithNext, Cond.code yX0_sharedWithNext cX0_sharedWithNext 4 (some .int)]
def wsX2_count_r2 : List Cond := [Cond.methodLink RX0 51 yX1_sharedWith, Cond.instanceMethod yX1_sharedWith, Cond.selects RX1 yX1_sharedWith yX1_sharedWith, Cond.initialized RX1, Cond.code yX1_sharedWith cX1_sharedWith 6 (some .int), Cond.fieldLink RX1 15 "HemSuffixes$Stitches" "length" "I", Cond.methodLink RX1 19 Lib.Math.min.name, Cond.static Lib.Math.min.name, Cond.initialized "java/lang/Math", Cond.code Lib.Math.min.name Lib.Math.min.code 2 (some .int), Cond.methodLink RX1 25 yX1_at, Cond.instanceMethod yX1_at, Cond.selects RX1 yX1_at yX1_at, Cond.code yX1_at cX1_at 2 (some .int), Cond.fieldLink RX1 9 "HemSuffixes$Stitches" "kinds" "[I", Cond.methodLink RX2 86 yX2_seamPlace, Cond.instanceMethod yX2_seamPlace, Cond.selects RX2 yX2_seamPlace yX2_seamPlace, Cond.initialized RX2, Cond.code yX2_seamPlace cX2_seamPlace 6 (some .int), Cond.methodLink RX2 97 yX0_placeAt, Cond.methodLink RX2 89 yX2_seamLengthFrom, Cond.instanceMethod yX2_seamLengthFrom, Cond.selects RX2 yX2_seamLengthFrom yX2_seamLengthFrom]
def wsX2_count_r3 : List Cond := [Cond.code yX2_seamLengthFrom cX2_seamLengthFrom 2 (some .int), Cond.methodLink RX2 185 yX1_mostSharedWith, Cond.instanceMethod yX1_mostSharedWith, Cond.selects RX1 yX1_mostSharedWith yX1_mostSharedWith, Cond.code yX1_mostSharedWith cX1_mostSharedWith 5 (some .int), Cond.methodLink RX1 33 Lib.Math.max.name, Cond.static Lib.Math.max.name, Cond.code Lib.Math.max.name Lib.Math.max.code 2 (some .int), Cond.methodLink RX1 29 yX1_sharedWith]
def wsX2_count : List Cond := .code yX2_count cX2_count 2 (some .int) :: ((wsX2_count_r1 ++ (wsX2_count_r2 ++ wsX2_count_r3)) ++ wsX20 ++ wsX00 ++ wsX10 ++ (vx_atS RX2 96 "java/lang/IndexOutOfBoundsException" ["java/lang/RuntimeException", "java/lang/Exception"]).filter goodWord)
def wsX2_end : List Cond := .code yX2_end cX2_end 4 (some .int) :: ([.methodLink RX2 26 yX2_hemOf, .instanceMethod yX2_hemOf, .selects RX2 yX2_hemOf yX2_hemOf, .initialized RX2, .code yX2_hemOf cX2_hemOf 2 (some (.object "HemSuffixes$Hem")), .classLink RX2 92 "java/lang/IndexOutOfBoundsException", .initialized "java/lang/IndexOutOfBoundsException", .fieldLink RX2 10 "HemSuffixes" "hemZero" "LHemSuffixes$Hem;", .fieldLink RX2 16 "HemSuffixes" "hemOne" "LHemSuffixes$Hem;", .methodLink RX2 74 yX2_requirePlace, .static yX2_requirePlace, .code yX2_requirePlace cX2_requirePlace 2 none, .methodLink RX2 97 yX0_placeAt, .instanceMethod yX0_placeAt, .selects RX0 yX0_placeAt yX0_placeAt, .initialized RX0, .code yX0_placeAt cX0_placeAt 2 (some .int), .fieldLink RX0 12 "HemSuffixes$Hem" "stitches" "LHemSuffixes$Stitches;", .fieldLink RX0 18 "HemSuffixes$Hem" "placesInOrder" "[I"] ++ wsX00 ++ wsX20 ++ wsX10 ++ (vx_atS RX2 96 "java/lang/IndexOutOfBoundsException" ["java/lang/RuntimeException", "java/lang/Exception"]).filter goodWord)
def wsX2_rank : List Cond := .code yX2_rank cX2_rank 4 (some .int) :: ([.methodLink RX2 26 yX2_hemOf, .instanceMethod yX2_hemOf, .selects RX2 yX2_hemOf yX2_hemOf, .initialized RX2, .code yX2_hemOf cX2_hemOf 2 (some (.object "HemSuffixes$Hem")), .classLink RX2 92 "java/lang/IndexOutOfBoundsException", .initialized "java/lang/IndexOutOfBoundsException", .fieldLink RX2 10 "HemSuffixes" "hemZero" "LHemSuffixes$Hem;", .fieldLink RX2 16 "HemSuffixes" "hemOne" "LHemSuffixes$Hem;", .methodLink RX2 74 yX2_requirePlace, .static yX2_requirePlace, .code yX2_requirePlace cX2_requirePlace 2 none, .methodLink RX2 100 yX0_rankOf, .instanceMethod yX0_rankOf, .selects RX0 yX0_rankOf yX0_rankOf, .initialized RX0, .code yX0_rankOf cX0_rankOf 3 (some .int), .fieldLink RX0 12 "HemSuffixes$Hem" "stitches" "LHemSuffixes$Stitches;", .methodLink RX0 48 yX0_placeAt, .instanceMethod yX0_placeAt, .selects RX0 yX0_placeAt yX0_placeAt, .code yX0_placeAt cX0_placeAt 2 (some .int), .fieldLink RX0 18 "HemSuffixes$Hem" "placesInOrder" "[I"] ++ wsX00 ++ wsX20 ++ wsX10 ++ (vx_atS RX2 96 "java/lang/IndexOutOfBoundsException" ["java/lang/RuntimeException", "java/lang/Exception"]).filter goodWord)
def wsX2_common_r1 : List Cond := [Cond.methodLink RX2 26 yX2_hemOf, Cond.instanceMethod yX2_hemOf, Cond.selects RX2 yX2_hemOf yX2_hemOf, Cond.initialized RX2, Cond.code yX2_hemOf cX2_hemOf 2 (some (.object "HemSuffixes$Hem")), Cond.classLink RX2 92 "java/lang/IndexOutOfBoundsException", Cond.initialized "java/lang/IndexOutOfBoundsException", Cond.fieldLink RX2 10 "HemSuffixes" "hemZero" "LHemSuffixes$Hem;", Cond.fieldLink RX2 16 "HemSuffixes" "hemOne" "LHemSuffixes$Hem;", Cond.methodLink RX2 74 yX2_requirePlace, Cond.static yX2_requirePlace, Cond.code yX2_requirePlace cX2_requirePlace 2 none, Cond.methodLink RX2 103 yX1_sharedWith, Cond.instanceMethod yX1_sharedWith, Cond.selects RX1 yX1_sharedWith yX1_sharedWith, Cond.initialized RX1, Cond.code yX1_sharedWith cX1_sharedWith 6 (some .int), Cond.fieldLink RX1 15 "HemSuffixes$Stitches" "length" "I", Cond.methodLink RX1 19 Lib.Math.min.name, Cond.static Lib.Math.min.name, Cond.initialized "java/lang/Math", Cond.code Lib.Math.min.name Lib.Math.min.code 2 (some .int), Cond.methodLink RX1 25 yX1_at, Cond.instanceMethod yX1_at]
def wsX2_common_r2 : List Cond := [Cond.selects RX1 yX1_at yX1_at, Cond.code yX1_at cX1_at 2 (some .int), Cond.fieldLink RX1 9 "HemSuffixes$Stitches" "kinds" "[I"]
def wsX2_common : List Cond := .code yX2_common cX2_common 5 (some .int) :: ((wsX2_common_r1 ++ wsX2_common_r2) ++ wsX00 ++ wsX20 ++ wsX10 ++ (vx_atS RX2 96 "java/lang/IndexOutOfBoundsException" ["java/lang/RuntimeException", "java/lang/Exception"]).filter goodWord)
def wsX2_against_r1 : List Cond := [Cond.fieldLink RX2 10 "HemSuffixes" "hemZero" "LHemSuffixes$Hem;", Cond.fieldLink RX2 16 "HemSuffixes" "hemOne" "LHemSuffixes$Hem;", Cond.methodLink RX2 74 yX2_requirePlace, Cond.static yX2_requirePlace, Cond.initialized RX2, Cond.code yX2_requirePlace cX2_requirePlace 2 none, Cond.classLink RX2 92 "java/lang/IndexOutOfBoundsException", Cond.initialized "java/lang/IndexOutOfBoundsException", Cond.methodLink RX2 107 yX1_difference, Cond.instanceMethod yX1_difference, Cond.selects RX1 yX1_difference yX1_difference, Cond.initialized RX1, Cond.code yX1_difference cX1_difference 7 (some .int), Cond.methodLink RX1 29 yX1_sharedWith, Cond.instanceMethod yX1_sharedWith, Cond.selects RX1 yX1_sharedWith yX1_sharedWith, Cond.code yX1_sharedWith cX1_sharedWith 6 (some .int), Cond.fieldLink RX1 15 "HemSuffixes$Stitches" "length" "I", Cond.methodLink RX1 19 Lib.Math.min.name, Cond.static Lib.Math.min.name, Cond.initialized "java/lang/Math", Cond.code Lib.Math.min.name Lib.Math.min.code 2 (some .int), Cond.methodLink RX1 25 yX1_at, Cond.instanceMethod yX1_at]
def wsX2_against_r2 : List Cond := [Cond.selects RX1 yX1_at yX1_at, Cond.code yX1_at cX1_at 2 (some .int), Cond.fieldLink RX1 9 "HemSuffixes$Stitches" "kinds" "[I"]
def wsX2_against : List Cond := .code yX2_against cX2_against 3 (some .int) :: ((wsX2_against_r1 ++ wsX2_against_r2) ++ wsX20 ++ wsX00 ++ wsX10 ++ (vx_atS RX2 96 "java/lang/IndexOutOfBoundsException" ["java/lang/RuntimeException", "java/lang/Exception"]).filter goodWord)
def wsX2_repeat_r1 : List Cond := [Cond.classLink RX2 92 "java/lang/IndexOutOfBoundsException", Cond.initialized "java/lang/IndexOutOfBoundsException", Cond.methodLink RX2 26 yX2_hemOf, Cond.instanceMethod yX2_hemOf, Cond.selects RX2 yX2_hemOf yX2_hemOf, Cond.initialized RX2, Cond.code yX2_hemOf cX2_hemOf 2 (some (.object "HemSuffixes$Hem")), Cond.fieldLink RX2 10 "HemSuffixes" "hemZero" "LHemSuffixes$Hem;", Cond.fieldLink RX2 16 "HemSuffixes" "hemOne" "LHemSuffixes$Hem;", Cond.methodLink RX2 112 yX0_repeatRank, Cond.instanceMethod yX0_repeatRank, Cond.selects RX0 yX0_repeatRank yX0_repeatRank, Cond.initialized RX0, Cond.code yX0_repeatRank cX0_repeatRank 5 (some .int), Cond.fieldLink RX0 12 "HemSuffixes$Hem" "stitches" "LHemSuffixes$Stitches;", Cond.methodLink RX0 54 yX0_sharedWithNext, Cond.instanceMethod yX0_sharedWithNext, Cond.selects RX0 yX0_sharedWithNext yX0_sharedWithNext, Cond.code yX0_sharedWithNext cX0_sharedWithNext 4 (some .int), Cond.methodLink RX0 48 yX0_placeAt, Cond.instanceMethod yX0_placeAt, Cond.selects RX0 yX0_placeAt yX0_placeAt, Cond.code yX0_placeAt cX0_placeAt 2 (some .int), Cond.fieldLink RX0 18 "HemSuffixes$Hem" "placesInOrder" "[I"]
def wsX2_repeat_r2 : List Cond := [Cond.methodLink RX0 51 yX1_sharedWith, Cond.instanceMethod yX1_sharedWith, Cond.selects RX1 yX1_sharedWith yX1_sharedWith, Cond.initialized RX1, Cond.code yX1_sharedWith cX1_sharedWith 6 (some .int), Cond.fieldLink RX1 15 "HemSuffixes$Stitches" "length" "I", Cond.methodLink RX1 19 Lib.Math.min.name, Cond.static Lib.Math.min.name, Cond.initialized "java/lang/Math", Cond.code Lib.Math.min.name Lib.Math.min.code 2 (some .int), Cond.methodLink RX1 25 yX1_at, Cond.instanceMethod yX1_at, Cond.selects RX1 yX1_at yX1_at, Cond.code yX1_at cX1_at 2 (some .int), Cond.fieldLink RX1 9 "HemSuffixes$Stitches" "kinds" "[I", Cond.methodLink RX2 115 yX0_sharedWithNext, Cond.methodLink RX2 97 yX0_placeAt, Cond.methodLink RX2 118 yX1_firstPlaceOf, Cond.instanceMethod yX1_firstPlaceOf, Cond.selects RX1 yX1_firstPlaceOf yX1_firstPlaceOf, Cond.code yX1_firstPlaceOf cX1_firstPlaceOf 5 (some .int), Cond.methodLink RX1 36 yX1_standsAt, Cond.instanceMethod yX1_standsAt, Cond.selects RX1 yX1_standsAt yX1_standsAt]
def wsX2_repeat_r3 : List Cond := [Cond.code yX1_standsAt cX1_standsAt 5 (some .boolean), Cond.methodLink RX1 29 yX1_sharedWith, Cond.methodLink RX2 122 yX1_placesOf, Cond.instanceMethod yX1_placesOf, Cond.selects RX1 yX1_placesOf yX1_placesOf, Cond.code yX1_placesOf cX1_placesOf 6 (some .int)]
def wsX2_repeat : List Cond := .code yX2_repeat cX2_repeat 7 (some .int) :: ((wsX2_repeat_r1 ++ (wsX2_repeat_r2 ++ wsX2_repeat_r3)) ++ wsX00 ++ wsX20 ++ wsX10 ++ (vx_atS RX2 96 "java/lang/IndexOutOfBoundsException" ["java/lang/RuntimeException", "java/lang/Exception"]).filter goodWord)
def wsX2_row_r1 : List Cond := [Cond.classLink RX2 92 "java/lang/IndexOutOfBoundsException", Cond.initialized "java/lang/IndexOutOfBoundsException", Cond.methodLink RX2 26 yX2_hemOf, Cond.instanceMethod yX2_hemOf, Cond.selects RX2 yX2_hemOf yX2_hemOf, Cond.initialized RX2, Cond.code yX2_hemOf cX2_hemOf 2 (some (.object "HemSuffixes$Hem")), Cond.fieldLink RX2 10 "HemSuffixes" "hemZero" "LHemSuffixes$Hem;", Cond.fieldLink RX2 16 "HemSuffixes" "hemOne" "LHemSuffixes$Hem;", Cond.methodLink RX2 82 yX0_differentRows, Cond.instanceMethod yX0_differentRows, Cond.selects RX0 yX0_differentRows yX0_differentRows, Cond.initialized RX0, Cond.code yX0_differentRows cX0_differentRows 3 (some .int), Cond.fieldLink RX0 12 "HemSuffixes$Hem" "stitches" "LHemSuffixes$Stitches;", Cond.methodLink RX0 57 yX0_rowsFirstAt, Cond.instanceMethod yX0_rowsFirstAt, Cond.selects RX0 yX0_rowsFirstAt yX0_rowsFirstAt, Cond.code yX0_rowsFirstAt cX0_rowsFirstAt 2 (some .int), Cond.methodLink RX0 48 yX0_placeAt, Cond.instanceMethod yX0_placeAt, Cond.selects RX0 yX0_placeAt yX0_placeAt, Cond.code yX0_placeAt cX0_placeAt 2 (some .int), Cond.fieldLink RX0 18 "HemSuffixes$Hem" "placesInOrder" "[I"]
def wsX2_row_r2 : List Cond := [Cond.methodLink RX0 54 yX0_sharedWithNext, Cond.instanceMethod yX0_sharedWithNext, Cond.selects RX0 yX0_sharedWithNext yX0_sharedWithNext, Cond.code yX0_sharedWithNext cX0_sharedWithNext 4 (some .int), Cond.methodLink RX0 51 yX1_sharedWith, Cond.instanceMethod yX1_sharedWith, Cond.selects RX1 yX1_sharedWith yX1_sharedWith, Cond.initialized RX1, Cond.code yX1_sharedWith cX1_sharedWith 6 (some .int), Cond.fieldLink RX1 15 "HemSuffixes$Stitches" "length" "I", Cond.methodLink RX1 19 Lib.Math.min.name, Cond.static Lib.Math.min.name, Cond.initialized "java/lang/Math", Cond.code Lib.Math.min.name Lib.Math.min.code 2 (some .int), Cond.methodLink RX1 25 yX1_at, Cond.instanceMethod yX1_at, Cond.selects RX1 yX1_at yX1_at, Cond.code yX1_at cX1_at 2 (some .int), Cond.fieldLink RX1 9 "HemSuffixes$Stitches" "kinds" "[I", Cond.methodLink RX2 127 yX0_rowOfNumber, Cond.instanceMethod yX0_rowOfNumber, Cond.selects RX0 yX0_rowOfNumber yX0_rowOfNumber, Cond.code yX0_rowOfNumber cX0_rowOfNumber 6 (some .int), Cond.methodLink RX0 60 yX1_firstPlaceOf]
def wsX2_row_r3 : List Cond := [Cond.instanceMethod yX1_firstPlaceOf, Cond.selects RX1 yX1_firstPlaceOf yX1_firstPlaceOf, Cond.code yX1_firstPlaceOf cX1_firstPlaceOf 5 (some .int), Cond.methodLink RX1 36 yX1_standsAt, Cond.instanceMethod yX1_standsAt, Cond.selects RX1 yX1_standsAt yX1_standsAt, Cond.code yX1_standsAt cX1_standsAt 5 (some .boolean), Cond.methodLink RX1 29 yX1_sharedWith]
def wsX2_row : List Cond := .code yX2_row cX2_row 4 (some .int) :: ((wsX2_row_r1 ++ (wsX2_row_r2 ++ wsX2_row_r3)) ++ wsX20 ++ wsX00 ++ wsX10 ++ (vx_atS RX2 96 "java/lang/IndexOutOfBoundsException" ["java/lang/RuntimeException", "java/lang/Exception"]).filter goodWord)
def wsX2_found_r1 : List Cond := [Cond.fieldLink RX2 22 "HemSuffixes" "sample" "LHemSuffixes$Stitches;", Cond.methodLink RX2 26 yX2_hemOf, Cond.instanceMethod yX2_hemOf, Cond.selects RX2 yX2_hemOf yX2_hemOf, Cond.initialized RX2, Cond.code yX2_hemOf cX2_hemOf 2 (some (.object "HemSuffixes$Hem")), Cond.classLink RX2 92 "java/lang/IndexOutOfBoundsException", Cond.initialized "java/lang/IndexOutOfBoundsException", Cond.fieldLink RX2 10 "HemSuffixes" "hemZero" "LHemSuffixes$Hem;", Cond.fieldLink RX2 16 "HemSuffixes" "hemOne" "LHemSuffixes$Hem;", Cond.methodLink RX2 122 yX1_placesOf, Cond.instanceMethod yX1_placesOf, Cond.selects RX1 yX1_placesOf yX1_placesOf, Cond.initialized RX1, Cond.code yX1_placesOf cX1_placesOf 6 (some .int), Cond.fieldLink RX1 15 "HemSuffixes$Stitches" "length" "I", Cond.methodLink RX1 36 yX1_standsAt, Cond.instanceMethod yX1_standsAt, Cond.selects RX1 yX1_standsAt yX1_standsAt, Cond.code yX1_standsAt cX1_standsAt 5 (some .boolean), Cond.methodLink RX1 29 yX1_sharedWith, Cond.instanceMethod yX1_sharedWith, Cond.selects RX1 yX1_sharedWith yX1_sharedWith, Cond.code yX1_sharedWith cX1_sharedWith 6 (some .int)]
def wsX2_found_r2 : List Cond := [Cond.methodLink RX1 19 Lib.Math.min.name, Cond.static Lib.Math.min.name, Cond.initialized "java/lang/Math", Cond.code Lib.Math.min.name Lib.Math.min.code 2 (some .int), Cond.methodLink RX1 25 yX1_at, Cond.instanceMethod yX1_at, Cond.selects RX1 yX1_at yX1_at, Cond.code yX1_at cX1_at 2 (some .int), Cond.fieldLink RX1 9 "HemSuffixes$Stitches" "kinds" "[I"]
def wsX2_found : List Cond := .code yX2_found cX2_found 2 (some .int) :: ((wsX2_found_r1 ++ wsX2_found_r2) ++ wsX00 ++ wsX20 ++ wsX10 ++ (vx_atS RX2 96 "java/lang/IndexOutOfBoundsException" ["java/lang/RuntimeException", "java/lang/Exception"]).filter goodWord)
def wsX2_first_r1 : List Cond := [Cond.fieldLink RX2 22 "HemSuffixes" "sample" "LHemSuffixes$Stitches;", Cond.methodLink RX2 26 yX2_hemOf, Cond.instanceMethod yX2_hemOf, Cond.selects RX2 yX2_hemOf yX2_hemOf, Cond.initialized RX2, Cond.code yX2_hemOf cX2_hemOf 2 (some (.object "HemSuffixes$Hem")), Cond.classLink RX2 92 "java/lang/IndexOutOfBoundsException", Cond.initialized "java/lang/IndexOutOfBoundsException", Cond.fieldLink RX2 10 "HemSuffixes" "hemZero" "LHemSuffixes$Hem;", Cond.fieldLink RX2 16 "HemSuffixes" "hemOne" "LHemSuffixes$Hem;", Cond.methodLink RX2 118 yX1_firstPlaceOf, Cond.instanceMethod yX1_firstPlaceOf, Cond.selects RX1 yX1_firstPlaceOf yX1_firstPlaceOf, Cond.initialized RX1, Cond.code yX1_firstPlaceOf cX1_firstPlaceOf 5 (some .int), Cond.fieldLink RX1 15 "HemSuffixes$Stitches" "length" "I", Cond.methodLink RX1 36 yX1_standsAt, Cond.instanceMethod yX1_standsAt, Cond.selects RX1 yX1_standsAt yX1_standsAt, Cond.code yX1_standsAt cX1_standsAt 5 (some .boolean), Cond.methodLink RX1 29 yX1_sharedWith, Cond.instanceMethod yX1_sharedWith, Cond.selects RX1 yX1_sharedWith yX1_sharedWith, Cond.code yX1_sharedWith cX1_sharedWith 6 (some .int)]
def wsX2_first_r2 : List Cond := [Cond.methodLink RX1 19 Lib.Math.min.name, Cond.static Lib.Math.min.name, Cond.initialized "java/lang/Math", Cond.code Lib.Math.min.name Lib.Math.min.code 2 (some .int), Cond.methodLink RX1 25 yX1_at, Cond.instanceMethod yX1_at, Cond.selects RX1 yX1_at yX1_at, Cond.code yX1_at cX1_at 2 (some .int), Cond.fieldLink RX1 9 "HemSuffixes$Stitches" "kinds" "[I"]
def wsX2_first : List Cond := .code yX2_first cX2_first 2 (some .int) :: ((wsX2_first_r1 ++ wsX2_first_r2) ++ wsX00 ++ wsX20 ++ wsX10 ++ (vx_atS RX2 96 "java/lang/IndexOutOfBoundsException" ["java/lang/RuntimeException", "java/lang/Exception"]).filter goodWord)
def wsX2_period_r1 : List Cond := [Cond.methodLink RX2 26 yX2_hemOf, Cond.instanceMethod yX2_hemOf, Cond.selects RX2 yX2_hemOf yX2_hemOf, Cond.initialized RX2, Cond.code yX2_hemOf cX2_hemOf 2 (some (.object "HemSuffixes$Hem")), Cond.classLink RX2 92 "java/lang/IndexOutOfBoundsException", Cond.initialized "java/lang/IndexOutOfBoundsException", Cond.fieldLink RX2 10 "HemSuffixes" "hemZero" "LHemSuffixes$Hem;", Cond.fieldLink RX2 16 "HemSuffixes" "hemOne" "LHemSuffixes$Hem;", Cond.methodLink RX2 130 yX1_leastPeriod, Cond.instanceMethod yX1_leastPeriod, Cond.selects RX1 yX1_leastPeriod yX1_leastPeriod, Cond.initialized RX1, Cond.code yX1_leastPeriod cX1_leastPeriod 2 (some .int), Cond.fieldLink RX1 15 "HemSuffixes$Stitches" "length" "I", Cond.methodLink RX1 29 yX1_sharedWith, Cond.instanceMethod yX1_sharedWith, Cond.selects RX1 yX1_sharedWith yX1_sharedWith, Cond.code yX1_sharedWith cX1_sharedWith 6 (some .int), Cond.methodLink RX1 19 Lib.Math.min.name, Cond.static Lib.Math.min.name, Cond.initialized "java/lang/Math", Cond.code Lib.Math.min.name Lib.Math.min.code 2 (some .int), Cond.methodLink RX1 25 yX1_at]
def wsX2_period_r2 : List Cond := [Cond.instanceMethod yX1_at, Cond.selects RX1 yX1_at yX1_at, Cond.code yX1_at cX1_at 2 (some .int), Cond.fieldLink RX1 9 "HemSuffixes$Stitches" "kinds" "[I"]
def wsX2_period : List Cond := .code yX2_period cX2_period 2 (some .int) :: ((wsX2_period_r1 ++ wsX2_period_r2) ++ wsX00 ++ wsX20 ++ wsX10 ++ (vx_atS RX2 96 "java/lang/IndexOutOfBoundsException" ["java/lang/RuntimeException", "java/lang/Exception"]).filter goodWord)
def wsX2_turned_r1 : List Cond := [Cond.methodLink RX2 26 yX2_hemOf, Cond.instanceMethod yX2_hemOf, Cond.selects RX2 yX2_hemOf yX2_hemOf, Cond.initialized RX2, Cond.code yX2_hemOf cX2_hemOf 2 (some (.object "HemSuffixes$Hem")), Cond.classLink RX2 92 "java/lang/IndexOutOfBoundsException", Cond.initialized "java/lang/IndexOutOfBoundsException", Cond.fieldLink RX2 10 "HemSuffixes" "hemZero" "LHemSuffixes$Hem;", Cond.fieldLink RX2 16 "HemSuffixes" "hemOne" "LHemSuffixes$Hem;", Cond.methodLink RX2 133 yX1_bestBeginning, Cond.instanceMethod yX1_bestBeginning, Cond.selects RX1 yX1_bestBeginning yX1_bestBeginning, Cond.initialized RX1, Cond.code yX1_bestBeginning cX1_bestBeginning 3 (some .int), Cond.fieldLink RX1 15 "HemSuffixes$Stitches" "length" "I", Cond.methodLink RX1 40 yX1_turnsToLess, Cond.instanceMethod yX1_turnsToLess, Cond.selects RX1 yX1_turnsToLess yX1_turnsToLess, Cond.code yX1_turnsToLess cX1_turnsToLess 6 (some .boolean), Cond.methodLink RX1 44 yX1_allAround, Cond.instanceMethod yX1_allAround, Cond.selects RX1 yX1_allAround yX1_allAround, Cond.code yX1_allAround cX1_allAround 2 (some .int), Cond.methodLink RX1 25 yX1_at]
def wsX2_turned_r2 : List Cond := [Cond.instanceMethod yX1_at, Cond.selects RX1 yX1_at yX1_at, Cond.code yX1_at cX1_at 2 (some .int), Cond.fieldLink RX1 9 "HemSuffixes$Stitches" "kinds" "[I"]
def wsX2_turned : List Cond := .code yX2_turned cX2_turned 2 (some .int) :: ((wsX2_turned_r1 ++ wsX2_turned_r2) ++ wsX00 ++ wsX20 ++ wsX10 ++ (vx_atS RX2 96 "java/lang/IndexOutOfBoundsException" ["java/lang/RuntimeException", "java/lang/Exception"]).filter goodWord)
def wsX2_seam_r1 : List Cond := [Cond.classLink RX2 92 "java/lang/IndexOutOfBoundsException", Cond.initialized "java/lang/IndexOutOfBoundsException", Cond.fieldLink RX2 10 "HemSuffixes" "hemZero" "LHemSuffixes$Hem;", Cond.fieldLink RX2 16 "HemSuffixes" "hemOne" "LHemSuffixes$Hem;", Cond.methodLink RX2 86 yX2_seamPlace, Cond.instanceMethod yX2_seamPlace, Cond.selects RX2 yX2_seamPlace yX2_seamPlace, Cond.initialized RX2, Cond.code yX2_seamPlace cX2_seamPlace 6 (some .int), Cond.methodLink RX2 97 yX0_placeAt, Cond.instanceMethod yX0_placeAt, Cond.selects RX0 yX0_placeAt yX0_placeAt, Cond.initialized RX0, Cond.code yX0_placeAt cX0_placeAt 2 (some .int), Cond.fieldLink RX0 12 "HemSuffixes$Hem" "stitches" "LHemSuffixes$Stitches;", Cond.fieldLink RX0 18 "HemSuffixes$Hem" "placesInOrder" "[I", Cond.methodLink RX2 89 yX2_seamLengthFrom, Cond.instanceMethod yX2_seamLengthFrom, Cond.selects RX2 yX2_seamLengthFrom yX2_seamLengthFrom, Cond.code yX2_seamLengthFrom cX2_seamLengthFrom 2 (some .int), Cond.methodLink RX2 185 yX1_mostSharedWith, Cond.instanceMethod yX1_mostSharedWith, Cond.selects RX1 yX1_mostSharedWith yX1_mostSharedWith, Cond.initialized RX1]
def wsX2_seam_r2 : List Cond := [Cond.code yX1_mostSharedWith cX1_mostSharedWith 5 (some .int), Cond.fieldLink RX1 15 "HemSuffixes$Stitches" "length" "I", Cond.methodLink RX1 33 Lib.Math.max.name, Cond.static Lib.Math.max.name, Cond.initialized "java/lang/Math", Cond.code Lib.Math.max.name Lib.Math.max.code 2 (some .int), Cond.methodLink RX1 29 yX1_sharedWith, Cond.instanceMethod yX1_sharedWith, Cond.selects RX1 yX1_sharedWith yX1_sharedWith, Cond.code yX1_sharedWith cX1_sharedWith 6 (some .int), Cond.methodLink RX1 19 Lib.Math.min.name, Cond.static Lib.Math.min.name, Cond.code Lib.Math.min.name Lib.Math.min.code 2 (some .int), Cond.methodLink RX1 25 yX1_at, Cond.instanceMethod yX1_at, Cond.selects RX1 yX1_at yX1_at, Cond.code yX1_at cX1_at 2 (some .int), Cond.fieldLink RX1 9 "HemSuffixes$Stitches" "kinds" "[I", Cond.methodLink RX2 118 yX1_firstPlaceOf, Cond.instanceMethod yX1_firstPlaceOf, Cond.selects RX1 yX1_firstPlaceOf yX1_firstPlaceOf, Cond.code yX1_firstPlaceOf cX1_firstPlaceOf 5 (some .int), Cond.methodLink RX1 36 yX1_standsAt, Cond.instanceMethod yX1_standsAt]
def wsX2_seam_r3 : List Cond := [Cond.selects RX1 yX1_standsAt yX1_standsAt, Cond.code yX1_standsAt cX1_standsAt 5 (some .boolean)]
def wsX2_seam : List Cond := .code yX2_seam cX2_seam 5 (some .int) :: ((wsX2_seam_r1 ++ (wsX2_seam_r2 ++ wsX2_seam_r3)) ++ wsX20 ++ wsX00 ++ wsX10 ++ (vx_atS RX2 96 "java/lang/IndexOutOfBoundsException" ["java/lang/RuntimeException", "java/lang/Exception"]).filter goodWord)
def wsX2_mean_r1 : List Cond := [Cond.fieldLink RX2 10 "HemSuffixes" "hemZero" "LHemSuffixes$Hem;", Cond.fieldLink RX2 16 "HemSuffixes" "hemOne" "LHemSuffixes$Hem;", Cond.methodLink RX2 139 yX0_neighbourPairs, Cond.instanceMethod yX0_neighbourPairs, Cond.selects RX0 yX0_neighbourPairs yX0_neighbourPairs, Cond.initialized RX0, Cond.code yX0_neighbourPairs cX0_neighbourPairs 1 (some .int), Cond.fieldLink RX0 12 "HemSuffixes$Hem" "stitches" "LHemSuffixes$Stitches;", Cond.methodLink RX2 142 yX0_sharedByNeighbours, Cond.instanceMethod yX0_sharedByNeighbours, Cond.selects RX0 yX0_sharedByNeighbours yX0_sharedByNeighbours, Cond.code yX0_sharedByNeighbours cX0_sharedByNeighbours 3 (some .int), Cond.methodLink RX0 54 yX0_sharedWithNext, Cond.instanceMethod yX0_sharedWithNext, Cond.selects RX0 yX0_sharedWithNext yX0_sharedWithNext, Cond.code yX0_sharedWithNext cX0_sharedWithNext 4 (some .int), Cond.methodLink RX0 48 yX0_placeAt, Cond.instanceMethod yX0_placeAt, Cond.selects RX0 yX0_placeAt yX0_placeAt, Cond.code yX0_placeAt cX0_placeAt 2 (some .int), Cond.fieldLink RX0 18 "HemSuffixes$Hem" "placesInOrder" "[I", Cond.methodLink RX0 51 yX1_sharedWith, Cond.instanceMethod yX1_sharedWith, Cond.selects RX1 yX1_sharedWith yX1_sharedWith]
def wsX2_mean_r2 : List Cond := [Cond.initialized RX1, Cond.code yX1_sharedWith cX1_sharedWith 6 (some .int), Cond.fieldLink RX1 15 "HemSuffixes$Stitches" "length" "I", Cond.methodLink RX1 19 Lib.Math.min.name, Cond.static Lib.Math.min.name, Cond.initialized "java/lang/Math", Cond.code Lib.Math.min.name Lib.Math.min.code 2 (some .int), Cond.methodLink RX1 25 yX1_at, Cond.instanceMethod yX1_at, Cond.selects RX1 yX1_at yX1_at, Cond.code yX1_at cX1_at 2 (some .int), Cond.fieldLink RX1 9 "HemSuffixes$Stitches" "kinds" "[I"]
def wsX2_mean : List Cond := .code yX2_mean cX2_mean 3 (some .double) :: ((wsX2_mean_r1 ++ wsX2_mean_r2) ++ wsX20 ++ wsX00 ++ wsX10)
def wsX2_mixed : List Cond := .code yX2_mixed cX2_mixed 3 (some .long) :: ([.constantLong RX2 177 (31)])
def wsX2_stitchesMixed : List Cond := .code yX2_stitchesMixed cX2_stitchesMixed 6 (some .long) :: ([.methodLink RX2 78 yX1_at, .instanceMethod yX1_at, .selects RX1 yX1_at yX1_at, .initialized RX1, .code yX1_at cX1_at 2 (some .int), .fieldLink RX1 15 "HemSuffixes$Stitches" "length" "I", .fieldLink RX1 9 "HemSuffixes$Stitches" "kinds" "[I", .methodLink RX2 150 yX2_mixed, .static yX2_mixed, .initialized RX2, .code yX2_mixed cX2_mixed 3 (some .long), .constantLong RX2 177 (31)] ++ wsX10)
def wsX2_hemMixed_r1 : List Cond := [Cond.methodLink RX2 26 yX2_hemOf, Cond.instanceMethod yX2_hemOf, Cond.selects RX2 yX2_hemOf yX2_hemOf, Cond.initialized RX2, Cond.code yX2_hemOf cX2_hemOf 2 (some (.object "HemSuffixes$Hem")), Cond.classLink RX2 92 "java/lang/IndexOutOfBoundsException", Cond.initialized "java/lang/IndexOutOfBoundsException", Cond.fieldLink RX2 10 "HemSuffixes" "hemZero" "LHemSuffixes$Hem;", Cond.fieldLink RX2 16 "HemSuffixes" "hemOne" "LHemSuffixes$Hem;", Cond.methodLink RX2 157 yX2_stitchesMixed, Cond.static yX2_stitchesMixed, Cond.code yX2_stitchesMixed cX2_stitchesMixed 6 (some .long), Cond.methodLink RX2 78 yX1_at, Cond.instanceMethod yX1_at, Cond.selects RX1 yX1_at yX1_at, Cond.initialized RX1, Cond.code yX1_at cX1_at 2 (some .int), Cond.fieldLink RX1 15 "HemSuffixes$Stitches" "length" "I", Cond.fieldLink RX1 9 "HemSuffixes$Stitches" "kinds" "[I", Cond.methodLink RX2 150 yX2_mixed, Cond.static yX2_mixed, Cond.code yX2_mixed cX2_mixed 3 (some .long), Cond.constantLong RX2 177 (31), Cond.methodLink RX2 97 yX0_placeAt]
def wsX2_hemMixed_r2 : List Cond := [Cond.instanceMethod yX0_placeAt, Cond.selects RX0 yX0_placeAt yX0_placeAt, Cond.initialized RX0, Cond.code yX0_placeAt cX0_placeAt 2 (some .int), Cond.fieldLink RX0 12 "HemSuffixes$Hem" "stitches" "LHemSuffixes$Stitches;", Cond.fieldLink RX0 18 "HemSuffixes$Hem" "placesInOrder" "[I", Cond.methodLink RX2 164 yX2_repeat, Cond.instanceMethod yX2_repeat, Cond.selects RX2 yX2_repeat yX2_repeat, Cond.code yX2_repeat cX2_repeat 7 (some .int), Cond.methodLink RX2 112 yX0_repeatRank, Cond.instanceMethod yX0_repeatRank, Cond.selects RX0 yX0_repeatRank yX0_repeatRank, Cond.code yX0_repeatRank cX0_repeatRank 5 (some .int), Cond.methodLink RX0 54 yX0_sharedWithNext, Cond.instanceMethod yX0_sharedWithNext, Cond.selects RX0 yX0_sharedWithNext yX0_sharedWithNext, Cond.code yX0_sharedWithNext cX0_sharedWithNext 4 (some .int), Cond.methodLink RX0 48 yX0_placeAt, Cond.methodLink RX0 51 yX1_sharedWith, Cond.instanceMethod yX1_sharedWith, Cond.selects RX1 yX1_sharedWith yX1_sharedWith, Cond.code yX1_sharedWith cX1_sharedWith 6 (some .int), Cond.methodLink RX1 19 Lib.Math.min.name]
def wsX2_hemMixed_r3 : List Cond := [Cond.static Lib.Math.min.name, Cond.initialized "java/lang/Math", Cond.code Lib.Math.min.name Lib.Math.min.code 2 (some .int), Cond.methodLink RX1 25 yX1_at, Cond.methodLink RX2 115 yX0_sharedWithNext, Cond.methodLink RX2 118 yX1_firstPlaceOf, Cond.instanceMethod yX1_firstPlaceOf, Cond.selects RX1 yX1_firstPlaceOf yX1_firstPlaceOf, Cond.code yX1_firstPlaceOf cX1_firstPlaceOf 5 (some .int), Cond.methodLink RX1 36 yX1_standsAt, Cond.instanceMethod yX1_standsAt, Cond.selects RX1 yX1_standsAt yX1_standsAt, Cond.code yX1_standsAt cX1_standsAt 5 (some .boolean), Cond.methodLink RX1 29 yX1_sharedWith, Cond.methodLink RX2 122 yX1_placesOf, Cond.instanceMethod yX1_placesOf, Cond.selects RX1 yX1_placesOf yX1_placesOf, Cond.code yX1_placesOf cX1_placesOf 6 (some .int), Cond.methodLink RX2 168 yX2_period, Cond.instanceMethod yX2_period, Cond.selects RX2 yX2_period yX2_period, Cond.code yX2_period cX2_period 2 (some .int), Cond.methodLink RX2 130 yX1_leastPeriod, Cond.instanceMethod yX1_leastPeriod]
def wsX2_hemMixed_r4 : List Cond := [Cond.selects RX1 yX1_leastPeriod yX1_leastPeriod, Cond.code yX1_leastPeriod cX1_leastPeriod 2 (some .int), Cond.methodLink RX2 171 yX2_turned, Cond.instanceMethod yX2_turned, Cond.selects RX2 yX2_turned yX2_turned, Cond.code yX2_turned cX2_turned 2 (some .int), Cond.methodLink RX2 133 yX1_bestBeginning, Cond.instanceMethod yX1_bestBeginning, Cond.selects RX1 yX1_bestBeginning yX1_bestBeginning, Cond.code yX1_bestBeginning cX1_bestBeginning 3 (some .int), Cond.methodLink RX1 40 yX1_turnsToLess, Cond.instanceMethod yX1_turnsToLess, Cond.selects RX1 yX1_turnsToLess yX1_turnsToLess, Cond.code yX1_turnsToLess cX1_turnsToLess 6 (some .boolean), Cond.methodLink RX1 44 yX1_allAround, Cond.instanceMethod yX1_allAround, Cond.selects RX1 yX1_allAround yX1_allAround, Cond.code yX1_allAround cX1_allAround 2 (some .int), Cond.methodLink RX2 174 yX2_found, Cond.instanceMethod yX2_found, Cond.selects RX2 yX2_found yX2_found, Cond.code yX2_found cX2_found 2 (some .int), Cond.fieldLink RX2 22 "HemSuffixes" "sample" "LHemSuffixes$Stitches;"]
def wsX2_hemMixed : List Cond := .code yX2_hemMixed cX2_hemMixed 8 (some .long) :: ((wsX2_hemMixed_r1 ++ (wsX2_hemMixed_r2 ++ (wsX2_hemMixed_r3 ++ wsX2_hemMixed_r4))) ++ wsX00 ++ wsX10 ++ wsX20 ++ (vx_atS RX2 96 "java/lang/IndexOutOfBoundsException" ["java/lang/RuntimeException", "java/lang/Exception"]).filter goodWord)
def wsX2_digest_r1 : List Cond := [Cond.constantLong RX2 145 (1483), Cond.fieldLink RX2 22 "HemSuffixes" "sample" "LHemSuffixes$Stitches;", Cond.methodLink RX2 147 yX2_count, Cond.instanceMethod yX2_count, Cond.selects RX2 yX2_count yX2_count, Cond.initialized RX2, Cond.code yX2_count cX2_count 2 (some .int), Cond.classLink RX2 92 "java/lang/IndexOutOfBoundsException", Cond.initialized "java/lang/IndexOutOfBoundsException", Cond.fieldLink RX2 10 "HemSuffixes" "hemZero" "LHemSuffixes$Hem;", Cond.fieldLink RX2 16 "HemSuffixes" "hemOne" "LHemSuffixes$Hem;", Cond.methodLink RX2 82 yX0_differentRows, Cond.instanceMethod yX0_differentRows, Cond.selects RX0 yX0_differentRows yX0_differentRows, Cond.initialized RX0, Cond.code yX0_differentRows cX0_differentRows 3 (some .int), Cond.fieldLink RX0 12 "HemSuffixes$Hem" "stitches" "LHemSuffixes$Stitches;", Cond.methodLink RX0 57 yX0_rowsFirstAt, Cond.instanceMethod yX0_rowsFirstAt, Cond.selects RX0 yX0_rowsFirstAt yX0_rowsFirstAt, Cond.code yX0_rowsFirstAt cX0_rowsFirstAt 2 (some .int), Cond.methodLink RX0 48 yX0_placeAt, Cond.instanceMethod yX0_placeAt, Cond.selects RX0 yX0_placeAt yX0_placeAt]
def wsX2_digest_r2 : List Cond := [Cond.code yX0_placeAt cX0_placeAt 2 (some .int), Cond.fieldLink RX0 18 "HemSuffixes$Hem" "placesInOrder" "[I", Cond.methodLink RX0 54 yX0_sharedWithNext, Cond.instanceMethod yX0_sharedWithNext, Cond.selects RX0 yX0_sharedWithNext yX0_sharedWithNext, Cond.code yX0_sharedWithNext cX0_sharedWithNext 4 (some .int), Cond.methodLink RX0 51 yX1_sharedWith, Cond.instanceMethod yX1_sharedWith, Cond.selects RX1 yX1_sharedWith yX1_sharedWith, Cond.initialized RX1, Cond.code yX1_sharedWith cX1_sharedWith 6 (some .int), Cond.fieldLink RX1 15 "HemSuffixes$Stitches" "length" "I", Cond.methodLink RX1 19 Lib.Math.min.name, Cond.static Lib.Math.min.name, Cond.initialized "java/lang/Math", Cond.code Lib.Math.min.name Lib.Math.min.code 2 (some .int), Cond.methodLink RX1 25 yX1_at, Cond.instanceMethod yX1_at, Cond.selects RX1 yX1_at yX1_at, Cond.code yX1_at cX1_at 2 (some .int), Cond.fieldLink RX1 9 "HemSuffixes$Stitches" "kinds" "[I", Cond.methodLink RX2 86 yX2_seamPlace, Cond.instanceMethod yX2_seamPlace, Cond.selects RX2 yX2_seamPlace yX2_seamPlace]
def wsX2_digest_r3 : List Cond := [Cond.code yX2_seamPlace cX2_seamPlace 6 (some .int), Cond.methodLink RX2 97 yX0_placeAt, Cond.methodLink RX2 89 yX2_seamLengthFrom, Cond.instanceMethod yX2_seamLengthFrom, Cond.selects RX2 yX2_seamLengthFrom yX2_seamLengthFrom, Cond.code yX2_seamLengthFrom cX2_seamLengthFrom 2 (some .int), Cond.methodLink RX2 185 yX1_mostSharedWith, Cond.instanceMethod yX1_mostSharedWith, Cond.selects RX1 yX1_mostSharedWith yX1_mostSharedWith, Cond.code yX1_mostSharedWith cX1_mostSharedWith 5 (some .int), Cond.methodLink RX1 33 Lib.Math.max.name, Cond.static Lib.Math.max.name, Cond.code Lib.Math.max.name Lib.Math.max.code 2 (some .int), Cond.methodLink RX1 29 yX1_sharedWith, Cond.methodLink RX2 150 yX2_mixed, Cond.static yX2_mixed, Cond.code yX2_mixed cX2_mixed 3 (some .long), Cond.constantLong RX2 177 (31), Cond.methodLink RX2 154 yX2_hemMixed, Cond.instanceMethod yX2_hemMixed, Cond.selects RX2 yX2_hemMixed yX2_hemMixed, Cond.code yX2_hemMixed cX2_hemMixed 8 (some .long), Cond.methodLink RX2 26 yX2_hemOf, Cond.instanceMethod yX2_hemOf]
def wsX2_digest_r4 : List Cond := [Cond.selects RX2 yX2_hemOf yX2_hemOf, Cond.code yX2_hemOf cX2_hemOf 2 (some (.object "HemSuffixes$Hem")), Cond.methodLink RX2 157 yX2_stitchesMixed, Cond.static yX2_stitchesMixed, Cond.code yX2_stitchesMixed cX2_stitchesMixed 6 (some .long), Cond.methodLink RX2 78 yX1_at, Cond.methodLink RX2 164 yX2_repeat, Cond.instanceMethod yX2_repeat, Cond.selects RX2 yX2_repeat yX2_repeat, Cond.code yX2_repeat cX2_repeat 7 (some .int), Cond.methodLink RX2 112 yX0_repeatRank, Cond.instanceMethod yX0_repeatRank, Cond.selects RX0 yX0_repeatRank yX0_repeatRank, Cond.code yX0_repeatRank cX0_repeatRank 5 (some .int), Cond.methodLink RX2 115 yX0_sharedWithNext, Cond.methodLink RX2 118 yX1_firstPlaceOf, Cond.instanceMethod yX1_firstPlaceOf, Cond.selects RX1 yX1_firstPlaceOf yX1_firstPlaceOf, Cond.code yX1_firstPlaceOf cX1_firstPlaceOf 5 (some .int), Cond.methodLink RX1 36 yX1_standsAt, Cond.instanceMethod yX1_standsAt, Cond.selects RX1 yX1_standsAt yX1_standsAt, Cond.code yX1_standsAt cX1_standsAt 5 (some .boolean), Cond.methodLink RX2 122 yX1_placesOf]
def wsX2_digest_r5 : List Cond := [Cond.instanceMethod yX1_placesOf, Cond.selects RX1 yX1_placesOf yX1_placesOf, Cond.code yX1_placesOf cX1_placesOf 6 (some .int), Cond.methodLink RX2 168 yX2_period, Cond.instanceMethod yX2_period, Cond.selects RX2 yX2_period yX2_period, Cond.code yX2_period cX2_period 2 (some .int), Cond.methodLink RX2 130 yX1_leastPeriod, Cond.instanceMethod yX1_leastPeriod, Cond.selects RX1 yX1_leastPeriod yX1_leastPeriod, Cond.code yX1_leastPeriod cX1_leastPeriod 2 (some .int), Cond.methodLink RX2 171 yX2_turned, Cond.instanceMethod yX2_turned, Cond.selects RX2 yX2_turned yX2_turned, Cond.code yX2_turned cX2_turned 2 (some .int), Cond.methodLink RX2 133 yX1_bestBeginning, Cond.instanceMethod yX1_bestBeginning, Cond.selects RX1 yX1_bestBeginning yX1_bestBeginning, Cond.code yX1_bestBeginning cX1_bestBeginning 3 (some .int), Cond.methodLink RX1 40 yX1_turnsToLess, Cond.instanceMethod yX1_turnsToLess, Cond.selects RX1 yX1_turnsToLess yX1_turnsToLess, Cond.code yX1_turnsToLess cX1_turnsToLess 6 (some .boolean), Cond.methodLink RX1 44 yX1_allAround]
def wsX2_digest_r6 : List Cond := [Cond.instanceMethod yX1_allAround, Cond.selects RX1 yX1_allAround yX1_allAround, Cond.code yX1_allAround cX1_allAround 2 (some .int), Cond.methodLink RX2 174 yX2_found, Cond.instanceMethod yX2_found, Cond.selects RX2 yX2_found yX2_found, Cond.code yX2_found cX2_found 2 (some .int), Cond.methodLink RX2 161 yX2_seam, Cond.instanceMethod yX2_seam, Cond.selects RX2 yX2_seam yX2_seam, Cond.code yX2_seam cX2_seam 5 (some .int)]
def wsX2_digest : List Cond := .code yX2_digest cX2_digest 4 (some .long) :: ((wsX2_digest_r1 ++ (wsX2_digest_r2 ++ (wsX2_digest_r3 ++ (wsX2_digest_r4 ++ (wsX2_digest_r5 ++ wsX2_digest_r6))))) ++ wsX20 ++ wsX00 ++ wsX10 ++ (vx_atS RX2 96 "java/lang/IndexOutOfBoundsException" ["java/lang/RuntimeException", "java/lang/Exception"]).filter goodWord)
def wsX3_grow : List Cond := .code yX3_grow cX3_grow 7 none :: ([.fieldLink RX3 7 "HemSuffixesLaw$Rows" "next" "[I", .fieldLink RX3 13 "HemSuffixesLaw$Rows" "depth" "[I", .fieldLink RX3 27 "HemSuffixesLaw$Rows" "nodes" "I", .fieldLink RX3 18 "HemSuffixesLaw$Rows" "many" "[[I", .fieldLink RX3 21 "HemSuffixesLaw$Rows" "first" "[[I", .fieldLink RX3 24 "HemSuffixesLaw$Rows" "end" "[[I"] ++ wsX30)
def wsX3_walk : List Cond := .code yX3_walk cX3_walk 5 none :: ([.fieldLink RX3 31 "HemSuffixesLaw$Rows" "order" "[[I", .fieldLink RX3 34 "HemSuffixesLaw$Rows" "rows" "[I", .fieldLink RX3 24 "HemSuffixesLaw$Rows" "end" "[[I", .fieldLink RX3 37 "HemSuffixesLaw$Rows" "places" "[[I", .fieldLink RX3 40 "HemSuffixesLaw$Rows" "ends" "[I", .fieldLink RX3 7 "HemSuffixesLaw$Rows" "next" "[I", .fieldLink RX3 18 "HemSuffixesLaw$Rows" "many" "[[I", .methodLink RX3 47 yX3_walk, .instanceMethod yX3_walk, .selects RX3 yX3_walk yX3_walk, .initialized RX3] ++ wsX30)
def wsX3_init : List Cond := .code yX3_init cX3_init 3 none :: ([.methodLink RX3 1 objectInit, .instanceMethod objectInit, .code objectInit ⟨#[0xb1]⟩ 1 none, .arrayClass .int, .fieldLink RX3 7 "HemSuffixesLaw$Rows" "next" "[I", .fieldLink RX3 13 "HemSuffixesLaw$Rows" "depth" "[I", .classLink RX3 16 "[[I", .fieldLink RX3 18 "HemSuffixesLaw$Rows" "many" "[[I", .fieldLink RX3 21 "HemSuffixesLaw$Rows" "first" "[[I", .fieldLink RX3 24 "HemSuffixesLaw$Rows" "end" "[[I", .fieldLink RX3 27 "HemSuffixesLaw$Rows" "nodes" "I", .fieldLink RX3 31 "HemSuffixesLaw$Rows" "order" "[[I", .fieldLink RX3 34 "HemSuffixesLaw$Rows" "rows" "[I", .fieldLink RX3 37 "HemSuffixesLaw$Rows" "places" "[[I", .fieldLink RX3 40 "HemSuffixesLaw$Rows" "ends" "[I", .methodLink RX3 43 yX3_grow, .instanceMethod yX3_grow, .selects RX3 yX3_grow yX3_grow, .initialized RX3, .code yX3_grow cX3_grow 7 none, .methodLink RX3 47 yX3_walk, .instanceMethod yX3_walk, .selects RX3 yX3_walk yX3_walk, .code yX3_walk cX3_walk 5 none] ++ wsX30)
def wsX3_repeat : List Cond := .code yX3_repeat cX3_repeat 5 (some (.array .int)) :: ([.fieldLink RX3 34 "HemSuffixesLaw$Rows" "rows" "[I", .fieldLink RX3 31 "HemSuffixesLaw$Rows" "order" "[[I", .fieldLink RX3 18 "HemSuffixesLaw$Rows" "many" "[[I", .fieldLink RX3 13 "HemSuffixesLaw$Rows" "depth" "[I", .arrayClass .int, .fieldLink RX3 21 "HemSuffixesLaw$Rows" "first" "[[I"] ++ wsX30)
def wsX3_seam : List Cond := .code yX3_seam cX3_seam 4 (some (.array .int)) :: ([.fieldLink RX3 34 "HemSuffixesLaw$Rows" "rows" "[I", .fieldLink RX3 31 "HemSuffixesLaw$Rows" "order" "[[I", .fieldLink RX3 18 "HemSuffixesLaw$Rows" "many" "[[I", .fieldLink RX3 13 "HemSuffixesLaw$Rows" "depth" "[I", .arrayClass .int, .fieldLink RX3 21 "HemSuffixesLaw$Rows" "first" "[[I"] ++ wsX30)
def wsX4_init : List Cond := .code yX4_init cX4_init 1 none :: ([.methodLink RX4 1 objectInit, .instanceMethod objectInit, .code objectInit ⟨#[0xb1]⟩ 1 none, .classLink RX4 7 "[I", .arrayClass .int, .fieldLink RX4 9 "HemSuffixesLaw$Sim" "hem" "[[I", .fieldLink RX4 15 "HemSuffixesLaw$Sim" "sample" "[I"] ++ wsX40)
def wsX4_with : List Cond := .code yX4_with cX4_with 4 (some (.array .int)) :: ([.arrayClass .int])
def wsX4_cut : List Cond := .code yX4_cut cX4_cut 4 (some (.array .int)) :: ([.arrayClass .int])
def wsL_common : List Cond := .code yL_common cL_common 5 (some .int) :: ([])
def wsX4_placesOfSample : List Cond := .code yX4_placesOfSample cX4_placesOfSample 4 (some (.array .int)) :: ([.arrayClass .int, .fieldLink RX4 9 "HemSuffixesLaw$Sim" "hem" "[[I", .fieldLink RX4 15 "HemSuffixesLaw$Sim" "sample" "[I", .static yL_common, .initialized RL, .code yL_common cL_common 5 (some .int)] ++ wsX40)
def wsX4_period : List Cond := .code yX4_period cX4_period 5 (some .int) :: ([.fieldLink RX4 9 "HemSuffixesLaw$Sim" "hem" "[[I", .static yL_common, .initialized RL, .code yL_common cL_common 5 (some .int)] ++ wsX40)
def wsX4_turned : List Cond := .code yX4_turned cX4_turned 7 (some .int) :: ([.fieldLink RX4 9 "HemSuffixesLaw$Sim" "hem" "[[I", .arrayClass .int, .static yL_common, .initialized RL, .code yL_common cL_common 5 (some .int)] ++ wsX40)
def wsX4_isSame_r1 : List Cond := [Cond.classLink RX4 24 RX3, Cond.instantiable RX3 10, Cond.initialized RX3, Cond.fieldLink RX4 9 "HemSuffixesLaw$Sim" "hem" "[[I", Cond.arrayClass .int, Cond.fieldLink RX4 15 "HemSuffixesLaw$Sim" "sample" "[I", Cond.fieldLink RX4 41 "HemSuffixesLaw$Rows" "rows" "[I", Cond.fieldLink RX4 52 "HemSuffixesLaw$Rows" "places" "[[I", Cond.methodLink RX4 30 yX3_init, Cond.instanceMethod yX3_init, Cond.code yX3_init cX3_init 3 none, Cond.methodLink RX3 1 objectInit, Cond.instanceMethod objectInit, Cond.code objectInit ⟨#[0xb1]⟩ 1 none, Cond.fieldLink RX3 7 "HemSuffixesLaw$Rows" "next" "[I", Cond.fieldLink RX3 13 "HemSuffixesLaw$Rows" "depth" "[I", Cond.classLink RX3 16 "[[I", Cond.fieldLink RX3 18 "HemSuffixesLaw$Rows" "many" "[[I", Cond.fieldLink RX3 21 "HemSuffixesLaw$Rows" "first" "[[I", Cond.fieldLink RX3 24 "HemSuffixesLaw$Rows" "end" "[[I", Cond.fieldLink RX3 27 "HemSuffixesLaw$Rows" "nodes" "I", Cond.fieldLink RX3 31 "HemSuffixesLaw$Rows" "order" "[[I", Cond.fieldLink RX3 34 "HemSuffixesLaw$Rows" "rows" "[I", Cond.fieldLink RX3 37 "HemSuffixesLaw$Rows" "places" "[[I"]
def wsX4_isSame_r2 : List Cond := [Cond.fieldLink RX3 40 "HemSuffixesLaw$Rows" "ends" "[I", Cond.methodLink RX3 43 yX3_grow, Cond.instanceMethod yX3_grow, Cond.selects RX3 yX3_grow yX3_grow, Cond.code yX3_grow cX3_grow 7 none, Cond.methodLink RX3 47 yX3_walk, Cond.instanceMethod yX3_walk, Cond.selects RX3 yX3_walk yX3_walk, Cond.code yX3_walk cX3_walk 5 none, Cond.methodLink RX4 37 yX3_seam, Cond.instanceMethod yX3_seam, Cond.selects RX3 yX3_seam yX3_seam, Cond.code yX3_seam cX3_seam 4 (some (.array .int)), Cond.methodLink RX4 44 yX2_count, Cond.instanceMethod yX2_count, Cond.selects RX2 yX2_count yX2_count, Cond.initialized RX2, Cond.code yX2_count cX2_count 2 (some .int), Cond.classLink RX2 92 "java/lang/IndexOutOfBoundsException", Cond.initialized "java/lang/IndexOutOfBoundsException", Cond.fieldLink RX2 10 "HemSuffixes" "hemZero" "LHemSuffixes$Hem;", Cond.fieldLink RX2 16 "HemSuffixes" "hemOne" "LHemSuffixes$Hem;", Cond.fieldLink RX2 22 "HemSuffixes" "sample" "LHemSuffixes$Stitches;", Cond.methodLink RX2 82 yX0_differentRows]
def wsX4_isSame_r3 : List Cond := [Cond.instanceMethod yX0_differentRows, Cond.selects RX0 yX0_differentRows yX0_differentRows, Cond.initialized RX0, Cond.code yX0_differentRows cX0_differentRows 3 (some .int), Cond.fieldLink RX0 12 "HemSuffixes$Hem" "stitches" "LHemSuffixes$Stitches;", Cond.methodLink RX0 57 yX0_rowsFirstAt, Cond.instanceMethod yX0_rowsFirstAt, Cond.selects RX0 yX0_rowsFirstAt yX0_rowsFirstAt, Cond.code yX0_rowsFirstAt cX0_rowsFirstAt 2 (some .int), Cond.methodLink RX0 48 yX0_placeAt, Cond.instanceMethod yX0_placeAt, Cond.selects RX0 yX0_placeAt yX0_placeAt, Cond.code yX0_placeAt cX0_placeAt 2 (some .int), Cond.fieldLink RX0 18 "HemSuffixes$Hem" "placesInOrder" "[I", Cond.methodLink RX0 54 yX0_sharedWithNext, Cond.instanceMethod yX0_sharedWithNext, Cond.selects RX0 yX0_sharedWithNext yX0_sharedWithNext, Cond.code yX0_sharedWithNext cX0_sharedWithNext 4 (some .int), Cond.methodLink RX0 51 yX1_sharedWith, Cond.instanceMethod yX1_sharedWith, Cond.selects RX1 yX1_sharedWith yX1_sharedWith, Cond.initialized RX1, Cond.code yX1_sharedWith cX1_sharedWith 6 (some .int), Cond.fieldLink RX1 15 "HemSuffixes$Stitches" "length" "I"]
def wsX4_isSame_r4 : List Cond := [Cond.methodLink RX1 19 Lib.Math.min.name, Cond.static Lib.Math.min.name, Cond.initialized "java/lang/Math", Cond.code Lib.Math.min.name Lib.Math.min.code 2 (some .int), Cond.methodLink RX1 25 yX1_at, Cond.instanceMethod yX1_at, Cond.selects RX1 yX1_at yX1_at, Cond.code yX1_at cX1_at 2 (some .int), Cond.fieldLink RX1 9 "HemSuffixes$Stitches" "kinds" "[I", Cond.methodLink RX2 86 yX2_seamPlace, Cond.instanceMethod yX2_seamPlace, Cond.selects RX2 yX2_seamPlace yX2_seamPlace, Cond.code yX2_seamPlace cX2_seamPlace 6 (some .int), Cond.methodLink RX2 97 yX0_placeAt, Cond.methodLink RX2 89 yX2_seamLengthFrom, Cond.instanceMethod yX2_seamLengthFrom, Cond.selects RX2 yX2_seamLengthFrom yX2_seamLengthFrom, Cond.code yX2_seamLengthFrom cX2_seamLengthFrom 2 (some .int), Cond.methodLink RX2 185 yX1_mostSharedWith, Cond.instanceMethod yX1_mostSharedWith, Cond.selects RX1 yX1_mostSharedWith yX1_mostSharedWith, Cond.code yX1_mostSharedWith cX1_mostSharedWith 5 (some .int), Cond.methodLink RX1 33 Lib.Math.max.name, Cond.static Lib.Math.max.name]
def wsX4_isSame_r5 : List Cond := [Cond.code Lib.Math.max.name Lib.Math.max.code 2 (some .int), Cond.methodLink RX1 29 yX1_sharedWith, Cond.methodLink RX4 50 yX2_seam, Cond.instanceMethod yX2_seam, Cond.selects RX2 yX2_seam yX2_seam, Cond.code yX2_seam cX2_seam 5 (some .int), Cond.methodLink RX2 118 yX1_firstPlaceOf, Cond.instanceMethod yX1_firstPlaceOf, Cond.selects RX1 yX1_firstPlaceOf yX1_firstPlaceOf, Cond.code yX1_firstPlaceOf cX1_firstPlaceOf 5 (some .int), Cond.methodLink RX1 36 yX1_standsAt, Cond.instanceMethod yX1_standsAt, Cond.selects RX1 yX1_standsAt yX1_standsAt, Cond.code yX1_standsAt cX1_standsAt 5 (some .boolean), Cond.methodLink RX4 55 yX2_stitch, Cond.instanceMethod yX2_stitch, Cond.selects RX2 yX2_stitch yX2_stitch, Cond.code yX2_stitch cX2_stitch 4 (some .int), Cond.methodLink RX2 26 yX2_hemOf, Cond.instanceMethod yX2_hemOf, Cond.selects RX2 yX2_hemOf yX2_hemOf, Cond.code yX2_hemOf cX2_hemOf 2 (some (.object "HemSuffixes$Hem")), Cond.methodLink RX2 74 yX2_requirePlace, Cond.static yX2_requirePlace]
def wsX4_isSame_r6 : List Cond := [Cond.code yX2_requirePlace cX2_requirePlace 2 none, Cond.methodLink RX2 78 yX1_at, Cond.methodLink RX4 59 yX2_end, Cond.instanceMethod yX2_end, Cond.selects RX2 yX2_end yX2_end, Cond.code yX2_end cX2_end 4 (some .int), Cond.methodLink RX4 62 yX2_rank, Cond.instanceMethod yX2_rank, Cond.selects RX2 yX2_rank yX2_rank, Cond.code yX2_rank cX2_rank 4 (some .int), Cond.methodLink RX2 100 yX0_rankOf, Cond.instanceMethod yX0_rankOf, Cond.selects RX0 yX0_rankOf yX0_rankOf, Cond.code yX0_rankOf cX0_rankOf 3 (some .int), Cond.static yL_common, Cond.initialized RL, Cond.code yL_common cL_common 5 (some .int), Cond.methodLink RX4 65 yX3_repeat, Cond.instanceMethod yX3_repeat, Cond.selects RX3 yX3_repeat yX3_repeat, Cond.code yX3_repeat cX3_repeat 5 (some (.array .int)), Cond.methodLink RX4 69 yX2_repeat, Cond.instanceMethod yX2_repeat, Cond.selects RX2 yX2_repeat yX2_repeat]
def wsX4_isSame_r7 : List Cond := [Cond.code yX2_repeat cX2_repeat 7 (some .int), Cond.methodLink RX2 112 yX0_repeatRank, Cond.instanceMethod yX0_repeatRank, Cond.selects RX0 yX0_repeatRank yX0_repeatRank, Cond.code yX0_repeatRank cX0_repeatRank 5 (some .int), Cond.methodLink RX2 115 yX0_sharedWithNext, Cond.methodLink RX2 122 yX1_placesOf, Cond.instanceMethod yX1_placesOf, Cond.selects RX1 yX1_placesOf yX1_placesOf, Cond.code yX1_placesOf cX1_placesOf 6 (some .int), Cond.methodLink RX4 71 yX4_placesOfSample, Cond.instanceMethod yX4_placesOfSample, Cond.selects RX4 yX4_placesOfSample yX4_placesOfSample, Cond.initialized RX4, Cond.code yX4_placesOfSample cX4_placesOfSample 4 (some (.array .int)), Cond.methodLink RX4 74 yX2_found, Cond.instanceMethod yX2_found, Cond.selects RX2 yX2_found yX2_found, Cond.code yX2_found cX2_found 2 (some .int), Cond.methodLink RX4 77 yX2_first, Cond.instanceMethod yX2_first, Cond.selects RX2 yX2_first yX2_first, Cond.code yX2_first cX2_first 2 (some .int), Cond.methodLink RX4 80 yX2_period]
def wsX4_isSame_r8 : List Cond := [Cond.instanceMethod yX2_period, Cond.selects RX2 yX2_period yX2_period, Cond.code yX2_period cX2_period 2 (some .int), Cond.methodLink RX2 130 yX1_leastPeriod, Cond.instanceMethod yX1_leastPeriod, Cond.selects RX1 yX1_leastPeriod yX1_leastPeriod, Cond.code yX1_leastPeriod cX1_leastPeriod 2 (some .int), Cond.methodLink RX4 83 yX4_period, Cond.instanceMethod yX4_period, Cond.selects RX4 yX4_period yX4_period, Cond.code yX4_period cX4_period 5 (some .int), Cond.methodLink RX4 84 yX2_turned, Cond.instanceMethod yX2_turned, Cond.selects RX2 yX2_turned yX2_turned, Cond.code yX2_turned cX2_turned 2 (some .int), Cond.methodLink RX2 133 yX1_bestBeginning, Cond.instanceMethod yX1_bestBeginning, Cond.selects RX1 yX1_bestBeginning yX1_bestBeginning, Cond.code yX1_bestBeginning cX1_bestBeginning 3 (some .int), Cond.methodLink RX1 40 yX1_turnsToLess, Cond.instanceMethod yX1_turnsToLess, Cond.selects RX1 yX1_turnsToLess yX1_turnsToLess, Cond.code yX1_turnsToLess cX1_turnsToLess 6 (some .boolean), Cond.methodLink RX1 44 yX1_allAround]
def wsX4_isSame_r9 : List Cond := [Cond.instanceMethod yX1_allAround, Cond.selects RX1 yX1_allAround yX1_allAround, Cond.code yX1_allAround cX1_allAround 2 (some .int), Cond.methodLink RX4 87 yX4_turned, Cond.instanceMethod yX4_turned, Cond.selects RX4 yX4_turned yX4_turned, Cond.code yX4_turned cX4_turned 7 (some .int), Cond.methodLink RX4 88 yX2_mean, Cond.instanceMethod yX2_mean, Cond.selects RX2 yX2_mean yX2_mean, Cond.code yX2_mean cX2_mean 3 (some .double), Cond.methodLink RX2 139 yX0_neighbourPairs, Cond.instanceMethod yX0_neighbourPairs, Cond.selects RX0 yX0_neighbourPairs yX0_neighbourPairs, Cond.code yX0_neighbourPairs cX0_neighbourPairs 1 (some .int), Cond.methodLink RX2 142 yX0_sharedByNeighbours, Cond.instanceMethod yX0_sharedByNeighbours, Cond.selects RX0 yX0_sharedByNeighbours yX0_sharedByNeighbours, Cond.code yX0_sharedByNeighbours cX0_sharedByNeighbours 3 (some .int)]
def wsX4_isSame : List Cond := .code yX4_isSame cX4_isSame 11 (some .boolean) :: ((wsX4_isSame_r1 ++ (wsX4_isSame_r2 ++ (wsX4_isSame_r3 ++ (wsX4_isSame_r4 ++ (wsX4_isSame_r5 ++ (wsX4_isSame_r6 ++ (wsX4_isSame_r7 ++ (wsX4_isSame_r8 ++ wsX4_isSame_r9)))))))) ++ wsX30 ++ wsX40 ++ wsX20 ++ wsX00 ++ wsX10 ++ (vx_atS RX2 96 "java/lang/IndexOutOfBoundsException" ["java/lang/RuntimeException", "java/lang/Exception"]).filter goodWord)
def wsJ9_abs_0f7a4 : List Cond := .code yJ9_abs_0f7a4 cJ9_abs_0f7a4 1 (some .int) :: ([])
def wsJ9_max_7cf53 : List Cond := .code yJ9_max_7cf53 cJ9_max_7cf53 2 (some .int) :: ([])
def wsJ9_min_7cf53 : List Cond := .code yJ9_min_7cf53 cJ9_min_7cf53 2 (some .int) :: ([])
def wsL_below : List Cond := .code yL_below cL_below 2 (some .int) :: ([.constant RL 7 (2147483647)])
def wsL_cell : List Cond := .code yL_cell cL_cell 2 (some .int) :: ([.constant RL 8 (790386105)])
def wsL_stitchOf : List Cond := .code yL_stitchOf cL_stitchOf 1 (some .int) :: ([.methodLink RL 9 yL_below, .static yL_below, .initialized RL, .code yL_below cL_below 2 (some .int), .constant RL 7 (2147483647)])
def wsL_act_r1 : List Cond := [Cond.classLink RL 30 "java/lang/IllegalStateException", Cond.fieldLink RL 15 "HemSuffixesLaw$Sim" "hem" "[[I", Cond.methodLink RL 32 Lib.Math.min.name, Cond.static Lib.Math.min.name, Cond.initialized "java/lang/Math", Cond.code Lib.Math.min.name Lib.Math.min.code 2 (some .int), Cond.fieldLink RL 43 "HemSuffixesLaw$Sim" "sample" "[I", Cond.arrayClass .int, Cond.methodLink RL 9 yL_below, Cond.static yL_below, Cond.initialized RL, Cond.code yL_below cL_below 2 (some .int), Cond.constant RL 7 (2147483647), Cond.methodLink RL 21 yX4_with, Cond.static yX4_with, Cond.initialized RX4, Cond.code yX4_with cX4_with 4 (some (.array .int)), Cond.methodLink RL 25 yX2_again, Cond.instanceMethod yX2_again, Cond.selects RX2 yX2_again yX2_again, Cond.initialized RX2, Cond.code yX2_again cX2_again 5 (some .int), Cond.classLink RX2 51 "java/lang/IllegalArgumentException", Cond.initialized "java/lang/IllegalArgumentException"]
def wsL_act_r2 : List Cond := [Cond.classLink RX2 41 "java/lang/IllegalStateException", Cond.initialized "java/lang/IllegalStateException", Cond.methodLink RX2 26 yX2_hemOf, Cond.instanceMethod yX2_hemOf, Cond.selects RX2 yX2_hemOf yX2_hemOf, Cond.code yX2_hemOf cX2_hemOf 2 (some (.object "HemSuffixes$Hem")), Cond.classLink RX2 92 "java/lang/IndexOutOfBoundsException", Cond.initialized "java/lang/IndexOutOfBoundsException", Cond.fieldLink RX2 10 "HemSuffixes" "hemZero" "LHemSuffixes$Hem;", Cond.fieldLink RX2 16 "HemSuffixes" "hemOne" "LHemSuffixes$Hem;", Cond.methodLink RX2 58 yX0_sewBeginning, Cond.instanceMethod yX0_sewBeginning, Cond.selects RX0 yX0_sewBeginning yX0_sewBeginning, Cond.initialized RX0, Cond.code yX0_sewBeginning cX0_sewBeginning 3 none, Cond.fieldLink RX0 12 "HemSuffixes$Hem" "stitches" "LHemSuffixes$Stitches;", Cond.methodLink RX0 29 yX1_at, Cond.instanceMethod yX1_at, Cond.selects RX1 yX1_at yX1_at, Cond.initialized RX1, Cond.code yX1_at cX1_at 2 (some .int), Cond.fieldLink RX1 15 "HemSuffixes$Stitches" "length" "I", Cond.fieldLink RX1 9 "HemSuffixes$Stitches" "kinds" "[I", Cond.methodLink RX0 22 yX1_append]
def wsL_act_r3 : List Cond := [Cond.instanceMethod yX1_append, Cond.selects RX1 yX1_append yX1_append, Cond.code yX1_append cX1_append 2 none, Cond.methodLink RX0 26 yX0_orderEnds, Cond.instanceMethod yX0_orderEnds, Cond.selects RX0 yX0_orderEnds yX0_orderEnds, Cond.code yX0_orderEnds cX0_orderEnds 2 none, Cond.fieldLink RX0 18 "HemSuffixes$Hem" "placesInOrder" "[I", Cond.methodLink RX0 40 yX0_putInOrder, Cond.instanceMethod yX0_putInOrder, Cond.selects RX0 yX0_putInOrder yX0_putInOrder, Cond.code yX0_putInOrder cX0_putInOrder 4 none, Cond.methodLink RX0 44 yX1_difference, Cond.instanceMethod yX1_difference, Cond.selects RX1 yX1_difference yX1_difference, Cond.code yX1_difference cX1_difference 7 (some .int), Cond.methodLink RX1 29 yX1_sharedWith, Cond.instanceMethod yX1_sharedWith, Cond.selects RX1 yX1_sharedWith yX1_sharedWith, Cond.code yX1_sharedWith cX1_sharedWith 6 (some .int), Cond.methodLink RX1 19 Lib.Math.min.name, Cond.methodLink RX1 25 yX1_at, Cond.methodLink RL 37 yX4_cut, Cond.static yX4_cut]
def wsL_act_r4 : List Cond := [Cond.code yX4_cut cX4_cut 4 (some (.array .int)), Cond.methodLink RL 40 yX2_unpick, Cond.instanceMethod yX2_unpick, Cond.selects RX2 yX2_unpick yX2_unpick, Cond.code yX2_unpick cX2_unpick 4 (some .int), Cond.methodLink RX2 63 yX0_takeOff, Cond.instanceMethod yX0_takeOff, Cond.selects RX0 yX0_takeOff yX0_takeOff, Cond.code yX0_takeOff cX0_takeOff 2 none, Cond.methodLink RX0 33 yX1_drop, Cond.instanceMethod yX1_drop, Cond.selects RX1 yX1_drop yX1_drop, Cond.code yX1_drop cX1_drop 2 none, Cond.methodLink RL 47 yL_stitchOf, Cond.static yL_stitchOf, Cond.code yL_stitchOf cL_stitchOf 1 (some .int), Cond.methodLink RL 51 yX2_add, Cond.instanceMethod yX2_add, Cond.selects RX2 yX2_add yX2_add, Cond.code yX2_add cX2_add 2 (some .int), Cond.fieldLink RX2 22 "HemSuffixes" "sample" "LHemSuffixes$Stitches;", Cond.methodLink RX2 30 yX2_requireStitch, Cond.static yX2_requireStitch, Cond.code yX2_requireStitch cX2_requireStitch 1 none]
def wsL_act_r5 : List Cond := [Cond.methodLink RX2 68 yX1_append, Cond.methodLink RL 54 yX2_clear, Cond.instanceMethod yX2_clear, Cond.selects RX2 yX2_clear yX2_clear, Cond.code yX2_clear cX2_clear 2 (some .int), Cond.methodLink RX2 71 yX1_drop, Cond.methodLink RL 58 yX2_sew, Cond.instanceMethod yX2_sew, Cond.selects RX2 yX2_sew yX2_sew, Cond.code yX2_sew cX2_sew 4 (some .int), Cond.methodLink RX2 48 yX0_sewOn, Cond.instanceMethod yX0_sewOn, Cond.selects RX0 yX0_sewOn yX0_sewOn, Cond.code yX0_sewOn cX0_sewOn 2 none]
def wsL_act : List Cond := .codeWith yL_act cL_act 9 (some .boolean) [(150, 159, 162, 30), (313, 321, 324, 30), (446, 455, 458, 30)] :: ((wsL_act_r1 ++ (wsL_act_r2 ++ (wsL_act_r3 ++ (wsL_act_r4 ++ wsL_act_r5)))) ++ wsX40 ++ wsX00 ++ wsX10 ++ wsX20 ++ (vx_atS RX2 55 "java/lang/IllegalArgumentException" ["java/lang/RuntimeException", "java/lang/Exception"]).filter goodWord ++ (vx_atS RX2 45 "java/lang/IllegalStateException" ["java/lang/RuntimeException", "java/lang/Exception"]).filter goodWord ++ (vx_atS RX2 96 "java/lang/IndexOutOfBoundsException" ["java/lang/RuntimeException", "java/lang/Exception"]).filter goodWord)
def wsL_build_r1 : List Cond := [Cond.classLink RL 16 RX4, Cond.instantiable RX4 2, Cond.initialized RX4, Cond.instanceMethod yX4_init, Cond.code yX4_init cX4_init 1 none, Cond.methodLink RX4 1 objectInit, Cond.instanceMethod objectInit, Cond.code objectInit ⟨#[0xb1]⟩ 1 none, Cond.classLink RX4 7 "[I", Cond.arrayClass .int, Cond.fieldLink RX4 9 "HemSuffixesLaw$Sim" "hem" "[[I", Cond.fieldLink RX4 15 "HemSuffixesLaw$Sim" "sample" "[I", Cond.methodLink RL 62 yL_cell, Cond.static yL_cell, Cond.initialized RL, Cond.code yL_cell cL_cell 2 (some .int), Cond.constant RL 8 (790386105), Cond.methodLink RL 66 yL_act, Cond.static yL_act, Cond.codeWith yL_act cL_act 9 (some .boolean) [(150, 159, 162, 30), (313, 321, 324, 30), (446, 455, 458, 30)], Cond.classLink RL 30 "java/lang/IllegalStateException", Cond.fieldLink RL 15 "HemSuffixesLaw$Sim" "hem" "[[I", Cond.methodLink RL 32 Lib.Math.min.name, Cond.static Lib.Math.min.name]
def wsL_build_r2 : List Cond := [Cond.initialized "java/lang/Math", Cond.code Lib.Math.min.name Lib.Math.min.code 2 (some .int), Cond.fieldLink RL 43 "HemSuffixesLaw$Sim" "sample" "[I", Cond.methodLink RL 9 yL_below, Cond.static yL_below, Cond.code yL_below cL_below 2 (some .int), Cond.constant RL 7 (2147483647), Cond.methodLink RL 21 yX4_with, Cond.static yX4_with, Cond.code yX4_with cX4_with 4 (some (.array .int)), Cond.methodLink RL 25 yX2_again, Cond.instanceMethod yX2_again, Cond.selects RX2 yX2_again yX2_again, Cond.initialized RX2, Cond.code yX2_again cX2_again 5 (some .int), Cond.classLink RX2 51 "java/lang/IllegalArgumentException", Cond.initialized "java/lang/IllegalArgumentException", Cond.classLink RX2 41 "java/lang/IllegalStateException", Cond.initialized "java/lang/IllegalStateException", Cond.methodLink RX2 26 yX2_hemOf, Cond.instanceMethod yX2_hemOf, Cond.selects RX2 yX2_hemOf yX2_hemOf, Cond.code yX2_hemOf cX2_hemOf 2 (some (.object "HemSuffixes$Hem")), Cond.classLink RX2 92 "java/lang/IndexOutOfBoundsException"]
def wsL_build_r3 : List Cond := [Cond.initialized "java/lang/IndexOutOfBoundsException", Cond.fieldLink RX2 10 "HemSuffixes" "hemZero" "LHemSuffixes$Hem;", Cond.fieldLink RX2 16 "HemSuffixes" "hemOne" "LHemSuffixes$Hem;", Cond.methodLink RX2 58 yX0_sewBeginning, Cond.instanceMethod yX0_sewBeginning, Cond.selects RX0 yX0_sewBeginning yX0_sewBeginning, Cond.initialized RX0, Cond.code yX0_sewBeginning cX0_sewBeginning 3 none, Cond.fieldLink RX0 12 "HemSuffixes$Hem" "stitches" "LHemSuffixes$Stitches;", Cond.methodLink RX0 29 yX1_at, Cond.instanceMethod yX1_at, Cond.selects RX1 yX1_at yX1_at, Cond.initialized RX1, Cond.code yX1_at cX1_at 2 (some .int), Cond.fieldLink RX1 15 "HemSuffixes$Stitches" "length" "I", Cond.fieldLink RX1 9 "HemSuffixes$Stitches" "kinds" "[I", Cond.methodLink RX0 22 yX1_append, Cond.instanceMethod yX1_append, Cond.selects RX1 yX1_append yX1_append, Cond.code yX1_append cX1_append 2 none, Cond.methodLink RX0 26 yX0_orderEnds, Cond.instanceMethod yX0_orderEnds, Cond.selects RX0 yX0_orderEnds yX0_orderEnds, Cond.code yX0_orderEnds cX0_orderEnds 2 none]
def wsL_build_r4 : List Cond := [Cond.fieldLink RX0 18 "HemSuffixes$Hem" "placesInOrder" "[I", Cond.methodLink RX0 40 yX0_putInOrder, Cond.instanceMethod yX0_putInOrder, Cond.selects RX0 yX0_putInOrder yX0_putInOrder, Cond.code yX0_putInOrder cX0_putInOrder 4 none, Cond.methodLink RX0 44 yX1_difference, Cond.instanceMethod yX1_difference, Cond.selects RX1 yX1_difference yX1_difference, Cond.code yX1_difference cX1_difference 7 (some .int), Cond.methodLink RX1 29 yX1_sharedWith, Cond.instanceMethod yX1_sharedWith, Cond.selects RX1 yX1_sharedWith yX1_sharedWith, Cond.code yX1_sharedWith cX1_sharedWith 6 (some .int), Cond.methodLink RX1 19 Lib.Math.min.name, Cond.methodLink RX1 25 yX1_at, Cond.methodLink RL 37 yX4_cut, Cond.static yX4_cut, Cond.code yX4_cut cX4_cut 4 (some (.array .int)), Cond.methodLink RL 40 yX2_unpick, Cond.instanceMethod yX2_unpick, Cond.selects RX2 yX2_unpick yX2_unpick, Cond.code yX2_unpick cX2_unpick 4 (some .int), Cond.methodLink RX2 63 yX0_takeOff, Cond.instanceMethod yX0_takeOff]
def wsL_build_r5 : List Cond := [Cond.selects RX0 yX0_takeOff yX0_takeOff, Cond.code yX0_takeOff cX0_takeOff 2 none, Cond.methodLink RX0 33 yX1_drop, Cond.instanceMethod yX1_drop, Cond.selects RX1 yX1_drop yX1_drop, Cond.code yX1_drop cX1_drop 2 none, Cond.methodLink RL 47 yL_stitchOf, Cond.static yL_stitchOf, Cond.code yL_stitchOf cL_stitchOf 1 (some .int), Cond.methodLink RL 51 yX2_add, Cond.instanceMethod yX2_add, Cond.selects RX2 yX2_add yX2_add, Cond.code yX2_add cX2_add 2 (some .int), Cond.fieldLink RX2 22 "HemSuffixes" "sample" "LHemSuffixes$Stitches;", Cond.methodLink RX2 30 yX2_requireStitch, Cond.static yX2_requireStitch, Cond.code yX2_requireStitch cX2_requireStitch 1 none, Cond.methodLink RX2 68 yX1_append, Cond.methodLink RL 54 yX2_clear, Cond.instanceMethod yX2_clear, Cond.selects RX2 yX2_clear yX2_clear, Cond.code yX2_clear cX2_clear 2 (some .int), Cond.methodLink RX2 71 yX1_drop, Cond.methodLink RL 58 yX2_sew]
def wsL_build_r6 : List Cond := [Cond.instanceMethod yX2_sew, Cond.selects RX2 yX2_sew yX2_sew, Cond.code yX2_sew cX2_sew 4 (some .int), Cond.methodLink RX2 48 yX0_sewOn, Cond.instanceMethod yX0_sewOn, Cond.selects RX0 yX0_sewOn yX0_sewOn, Cond.code yX0_sewOn cX0_sewOn 2 none]
def wsL_build : List Cond := .code yL_build cL_build 5 (some (.object "HemSuffixesLaw$Sim")) :: ((wsL_build_r1 ++ (wsL_build_r2 ++ (wsL_build_r3 ++ (wsL_build_r4 ++ (wsL_build_r5 ++ wsL_build_r6))))) ++ wsX40 ++ wsX00 ++ wsX10 ++ wsX20 ++ (vx_atS RX2 55 "java/lang/IllegalArgumentException" ["java/lang/RuntimeException", "java/lang/Exception"]).filter goodWord ++ (vx_atS RX2 45 "java/lang/IllegalStateException" ["java/lang/RuntimeException", "java/lang/Exception"]).filter goodWord ++ (vx_atS RX2 96 "java/lang/IndexOutOfBoundsException" ["java/lang/RuntimeException", "java/lang/Exception"]).filter goodWord)
def wsL_law0_r1 : List Cond := [Cond.classLink RL 26 RX2, Cond.instantiable RX2 3, Cond.initialized RX2, Cond.arrayClass .int, Cond.arrayClass .boolean, Cond.methodLink RL 98 Lib.Math.max.name, Cond.static Lib.Math.max.name, Cond.initialized "java/lang/Math", Cond.code Lib.Math.max.name Lib.Math.max.code 2 (some .int), Cond.fieldLink RL 43 "HemSuffixesLaw$Sim" "sample" "[I", Cond.methodLink RL 129 Lib.Math.abs.name, Cond.static Lib.Math.abs.name, Cond.code Lib.Math.abs.name Lib.Math.abs.code 1 (some .int), Cond.methodLink RL 70 yX2_init, Cond.instanceMethod yX2_init, Cond.code yX2_init cX2_init 1 none, Cond.methodLink RX2 1 objectInit, Cond.instanceMethod objectInit, Cond.code objectInit ⟨#[0xb1]⟩ 1 none, Cond.classLink RX2 7 RX0, Cond.instantiable RX0 2, Cond.initialized RX0, Cond.fieldLink RX2 10 "HemSuffixes" "hemZero" "LHemSuffixes$Hem;", Cond.fieldLink RX2 16 "HemSuffixes" "hemOne" "LHemSuffixes$Hem;"]
def wsL_law0_r2 : List Cond := [Cond.classLink RX2 19 RX1, Cond.instantiable RX1 2, Cond.initialized RX1, Cond.fieldLink RX2 22 "HemSuffixes" "sample" "LHemSuffixes$Stitches;", Cond.methodLink RX2 9 yX0_init, Cond.instanceMethod yX0_init, Cond.code yX0_init cX0_init 1 none, Cond.methodLink RX0 3 objectInit, Cond.classLink RX0 9 RX1, Cond.fieldLink RX0 12 "HemSuffixes$Hem" "stitches" "LHemSuffixes$Stitches;", Cond.fieldLink RX0 18 "HemSuffixes$Hem" "placesInOrder" "[I", Cond.methodLink RX0 11 yX1_init, Cond.instanceMethod yX1_init, Cond.code yX1_init cX1_init 1 none, Cond.methodLink RX1 3 objectInit, Cond.fieldLink RX1 9 "HemSuffixes$Stitches" "kinds" "[I", Cond.fieldLink RX1 15 "HemSuffixes$Stitches" "length" "I", Cond.methodLink RX2 21 yX1_init, Cond.methodLink RL 71 yL_build, Cond.static yL_build, Cond.initialized RL, Cond.code yL_build cL_build 5 (some (.object "HemSuffixesLaw$Sim")), Cond.classLink RL 16 RX4, Cond.instantiable RX4 2]
def wsL_law0_r3 : List Cond := [Cond.initialized RX4, Cond.instanceMethod yX4_init, Cond.code yX4_init cX4_init 1 none, Cond.methodLink RX4 1 objectInit, Cond.classLink RX4 7 "[I", Cond.fieldLink RX4 9 "HemSuffixesLaw$Sim" "hem" "[[I", Cond.fieldLink RX4 15 "HemSuffixesLaw$Sim" "sample" "[I", Cond.methodLink RL 62 yL_cell, Cond.static yL_cell, Cond.code yL_cell cL_cell 2 (some .int), Cond.constant RL 8 (790386105), Cond.methodLink RL 66 yL_act, Cond.static yL_act, Cond.codeWith yL_act cL_act 9 (some .boolean) [(150, 159, 162, 30), (313, 321, 324, 30), (446, 455, 458, 30)], Cond.classLink RL 30 "java/lang/IllegalStateException", Cond.fieldLink RL 15 "HemSuffixesLaw$Sim" "hem" "[[I", Cond.methodLink RL 32 Lib.Math.min.name, Cond.static Lib.Math.min.name, Cond.code Lib.Math.min.name Lib.Math.min.code 2 (some .int), Cond.methodLink RL 9 yL_below, Cond.static yL_below, Cond.code yL_below cL_below 2 (some .int), Cond.constant RL 7 (2147483647), Cond.methodLink RL 21 yX4_with]
def wsL_law0_r4 : List Cond := [Cond.static yX4_with, Cond.code yX4_with cX4_with 4 (some (.array .int)), Cond.methodLink RL 25 yX2_again, Cond.instanceMethod yX2_again, Cond.selects RX2 yX2_again yX2_again, Cond.code yX2_again cX2_again 5 (some .int), Cond.classLink RX2 51 "java/lang/IllegalArgumentException", Cond.initialized "java/lang/IllegalArgumentException", Cond.classLink RX2 41 "java/lang/IllegalStateException", Cond.initialized "java/lang/IllegalStateException", Cond.methodLink RX2 26 yX2_hemOf, Cond.instanceMethod yX2_hemOf, Cond.selects RX2 yX2_hemOf yX2_hemOf, Cond.code yX2_hemOf cX2_hemOf 2 (some (.object "HemSuffixes$Hem")), Cond.classLink RX2 92 "java/lang/IndexOutOfBoundsException", Cond.initialized "java/lang/IndexOutOfBoundsException", Cond.methodLink RX2 58 yX0_sewBeginning, Cond.instanceMethod yX0_sewBeginning, Cond.selects RX0 yX0_sewBeginning yX0_sewBeginning, Cond.code yX0_sewBeginning cX0_sewBeginning 3 none, Cond.methodLink RX0 29 yX1_at, Cond.instanceMethod yX1_at, Cond.selects RX1 yX1_at yX1_at, Cond.code yX1_at cX1_at 2 (some .int)]
def wsL_law0_r5 : List Cond := [Cond.methodLink RX0 22 yX1_append, Cond.instanceMethod yX1_append, Cond.selects RX1 yX1_append yX1_append, Cond.code yX1_append cX1_append 2 none, Cond.methodLink RX0 26 yX0_orderEnds, Cond.instanceMethod yX0_orderEnds, Cond.selects RX0 yX0_orderEnds yX0_orderEnds, Cond.code yX0_orderEnds cX0_orderEnds 2 none, Cond.methodLink RX0 40 yX0_putInOrder, Cond.instanceMethod yX0_putInOrder, Cond.selects RX0 yX0_putInOrder yX0_putInOrder, Cond.code yX0_putInOrder cX0_putInOrder 4 none, Cond.methodLink RX0 44 yX1_difference, Cond.instanceMethod yX1_difference, Cond.selects RX1 yX1_difference yX1_difference, Cond.code yX1_difference cX1_difference 7 (some .int), Cond.methodLink RX1 29 yX1_sharedWith, Cond.instanceMethod yX1_sharedWith, Cond.selects RX1 yX1_sharedWith yX1_sharedWith, Cond.code yX1_sharedWith cX1_sharedWith 6 (some .int), Cond.methodLink RX1 19 Lib.Math.min.name, Cond.methodLink RX1 25 yX1_at, Cond.methodLink RL 37 yX4_cut, Cond.static yX4_cut]
def wsL_law0_r6 : List Cond := [Cond.code yX4_cut cX4_cut 4 (some (.array .int)), Cond.methodLink RL 40 yX2_unpick, Cond.instanceMethod yX2_unpick, Cond.selects RX2 yX2_unpick yX2_unpick, Cond.code yX2_unpick cX2_unpick 4 (some .int), Cond.methodLink RX2 63 yX0_takeOff, Cond.instanceMethod yX0_takeOff, Cond.selects RX0 yX0_takeOff yX0_takeOff, Cond.code yX0_takeOff cX0_takeOff 2 none, Cond.methodLink RX0 33 yX1_drop, Cond.instanceMethod yX1_drop, Cond.selects RX1 yX1_drop yX1_drop, Cond.code yX1_drop cX1_drop 2 none, Cond.methodLink RL 47 yL_stitchOf, Cond.static yL_stitchOf, Cond.code yL_stitchOf cL_stitchOf 1 (some .int), Cond.methodLink RL 51 yX2_add, Cond.instanceMethod yX2_add, Cond.selects RX2 yX2_add yX2_add, Cond.code yX2_add cX2_add 2 (some .int), Cond.methodLink RX2 30 yX2_requireStitch, Cond.static yX2_requireStitch, Cond.code yX2_requireStitch cX2_requireStitch 1 none, Cond.methodLink RX2 68 yX1_append]
def wsL_law0_r7 : List Cond := [Cond.methodLink RL 54 yX2_clear, Cond.instanceMethod yX2_clear, Cond.selects RX2 yX2_clear yX2_clear, Cond.code yX2_clear cX2_clear 2 (some .int), Cond.methodLink RX2 71 yX1_drop, Cond.methodLink RL 58 yX2_sew, Cond.instanceMethod yX2_sew, Cond.selects RX2 yX2_sew yX2_sew, Cond.code yX2_sew cX2_sew 4 (some .int), Cond.methodLink RX2 48 yX0_sewOn, Cond.instanceMethod yX0_sewOn, Cond.selects RX0 yX0_sewOn yX0_sewOn, Cond.code yX0_sewOn cX0_sewOn 2 none, Cond.methodLink RL 75 yX2_digest, Cond.instanceMethod yX2_digest, Cond.selects RX2 yX2_digest yX2_digest, Cond.code yX2_digest cX2_digest 4 (some .long), Cond.constantLong RX2 145 (1483), Cond.methodLink RX2 147 yX2_count, Cond.instanceMethod yX2_count, Cond.selects RX2 yX2_count yX2_count, Cond.code yX2_count cX2_count 2 (some .int), Cond.methodLink RX2 82 yX0_differentRows, Cond.instanceMethod yX0_differentRows]
def wsL_law0_r8 : List Cond := [Cond.selects RX0 yX0_differentRows yX0_differentRows, Cond.code yX0_differentRows cX0_differentRows 3 (some .int), Cond.methodLink RX0 57 yX0_rowsFirstAt, Cond.instanceMethod yX0_rowsFirstAt, Cond.selects RX0 yX0_rowsFirstAt yX0_rowsFirstAt, Cond.code yX0_rowsFirstAt cX0_rowsFirstAt 2 (some .int), Cond.methodLink RX0 48 yX0_placeAt, Cond.instanceMethod yX0_placeAt, Cond.selects RX0 yX0_placeAt yX0_placeAt, Cond.code yX0_placeAt cX0_placeAt 2 (some .int), Cond.methodLink RX0 54 yX0_sharedWithNext, Cond.instanceMethod yX0_sharedWithNext, Cond.selects RX0 yX0_sharedWithNext yX0_sharedWithNext, Cond.code yX0_sharedWithNext cX0_sharedWithNext 4 (some .int), Cond.methodLink RX0 51 yX1_sharedWith, Cond.methodLink RX2 86 yX2_seamPlace, Cond.instanceMethod yX2_seamPlace, Cond.selects RX2 yX2_seamPlace yX2_seamPlace, Cond.code yX2_seamPlace cX2_seamPlace 6 (some .int), Cond.methodLink RX2 97 yX0_placeAt, Cond.methodLink RX2 89 yX2_seamLengthFrom, Cond.instanceMethod yX2_seamLengthFrom, Cond.selects RX2 yX2_seamLengthFrom yX2_seamLengthFrom, Cond.code yX2_seamLengthFrom cX2_seamLengthFrom 2 (some .int)]
def wsL_law0_r9 : List Cond := [Cond.methodLink RX2 185 yX1_mostSharedWith, Cond.instanceMethod yX1_mostSharedWith, Cond.selects RX1 yX1_mostSharedWith yX1_mostSharedWith, Cond.code yX1_mostSharedWith cX1_mostSharedWith 5 (some .int), Cond.methodLink RX1 33 Lib.Math.max.name, Cond.methodLink RX2 150 yX2_mixed, Cond.static yX2_mixed, Cond.code yX2_mixed cX2_mixed 3 (some .long), Cond.constantLong RX2 177 (31), Cond.methodLink RX2 154 yX2_hemMixed, Cond.instanceMethod yX2_hemMixed, Cond.selects RX2 yX2_hemMixed yX2_hemMixed, Cond.code yX2_hemMixed cX2_hemMixed 8 (some .long), Cond.methodLink RX2 157 yX2_stitchesMixed, Cond.static yX2_stitchesMixed, Cond.code yX2_stitchesMixed cX2_stitchesMixed 6 (some .long), Cond.methodLink RX2 78 yX1_at, Cond.methodLink RX2 164 yX2_repeat, Cond.instanceMethod yX2_repeat, Cond.selects RX2 yX2_repeat yX2_repeat, Cond.code yX2_repeat cX2_repeat 7 (some .int), Cond.methodLink RX2 112 yX0_repeatRank, Cond.instanceMethod yX0_repeatRank, Cond.selects RX0 yX0_repeatRank yX0_repeatRank]
def wsL_law0_r10 : List Cond := [Cond.code yX0_repeatRank cX0_repeatRank 5 (some .int), Cond.methodLink RX2 115 yX0_sharedWithNext, Cond.methodLink RX2 118 yX1_firstPlaceOf, Cond.instanceMethod yX1_firstPlaceOf, Cond.selects RX1 yX1_firstPlaceOf yX1_firstPlaceOf, Cond.code yX1_firstPlaceOf cX1_firstPlaceOf 5 (some .int), Cond.methodLink RX1 36 yX1_standsAt, Cond.instanceMethod yX1_standsAt, Cond.selects RX1 yX1_standsAt yX1_standsAt, Cond.code yX1_standsAt cX1_standsAt 5 (some .boolean), Cond.methodLink RX2 122 yX1_placesOf, Cond.instanceMethod yX1_placesOf, Cond.selects RX1 yX1_placesOf yX1_placesOf, Cond.code yX1_placesOf cX1_placesOf 6 (some .int), Cond.methodLink RX2 168 yX2_period, Cond.instanceMethod yX2_period, Cond.selects RX2 yX2_period yX2_period, Cond.code yX2_period cX2_period 2 (some .int), Cond.methodLink RX2 130 yX1_leastPeriod, Cond.instanceMethod yX1_leastPeriod, Cond.selects RX1 yX1_leastPeriod yX1_leastPeriod, Cond.code yX1_leastPeriod cX1_leastPeriod 2 (some .int), Cond.methodLink RX2 171 yX2_turned, Cond.instanceMethod yX2_turned]
def wsL_law0_r11 : List Cond := [Cond.selects RX2 yX2_turned yX2_turned, Cond.code yX2_turned cX2_turned 2 (some .int), Cond.methodLink RX2 133 yX1_bestBeginning, Cond.instanceMethod yX1_bestBeginning, Cond.selects RX1 yX1_bestBeginning yX1_bestBeginning, Cond.code yX1_bestBeginning cX1_bestBeginning 3 (some .int), Cond.methodLink RX1 40 yX1_turnsToLess, Cond.instanceMethod yX1_turnsToLess, Cond.selects RX1 yX1_turnsToLess yX1_turnsToLess, Cond.code yX1_turnsToLess cX1_turnsToLess 6 (some .boolean), Cond.methodLink RX1 44 yX1_allAround, Cond.instanceMethod yX1_allAround, Cond.selects RX1 yX1_allAround yX1_allAround, Cond.code yX1_allAround cX1_allAround 2 (some .int), Cond.methodLink RX2 174 yX2_found, Cond.instanceMethod yX2_found, Cond.selects RX2 yX2_found yX2_found, Cond.code yX2_found cX2_found 2 (some .int), Cond.methodLink RX2 161 yX2_seam, Cond.instanceMethod yX2_seam, Cond.selects RX2 yX2_seam yX2_seam, Cond.code yX2_seam cX2_seam 5 (some .int), Cond.methodLink RL 79 yX2_count, Cond.methodLink RL 82 yX2_stitch]
def wsL_law0_r12 : List Cond := [Cond.instanceMethod yX2_stitch, Cond.selects RX2 yX2_stitch yX2_stitch, Cond.code yX2_stitch cX2_stitch 4 (some .int), Cond.methodLink RX2 74 yX2_requirePlace, Cond.static yX2_requirePlace, Cond.code yX2_requirePlace cX2_requirePlace 2 none, Cond.methodLink RL 85 yX2_end, Cond.instanceMethod yX2_end, Cond.selects RX2 yX2_end yX2_end, Cond.code yX2_end cX2_end 4 (some .int), Cond.methodLink RL 88 yX2_rank, Cond.instanceMethod yX2_rank, Cond.selects RX2 yX2_rank yX2_rank, Cond.code yX2_rank cX2_rank 4 (some .int), Cond.methodLink RX2 100 yX0_rankOf, Cond.instanceMethod yX0_rankOf, Cond.selects RX0 yX0_rankOf yX0_rankOf, Cond.code yX0_rankOf cX0_rankOf 3 (some .int), Cond.methodLink RL 91 yX2_common, Cond.instanceMethod yX2_common, Cond.selects RX2 yX2_common yX2_common, Cond.code yX2_common cX2_common 5 (some .int), Cond.methodLink RX2 103 yX1_sharedWith, Cond.methodLink RL 95 yL_common]
def wsL_law0_r13 : List Cond := [Cond.static yL_common, Cond.code yL_common cL_common 5 (some .int), Cond.methodLink RL 101 yX2_repeat, Cond.methodLink RL 104 yX2_row, Cond.instanceMethod yX2_row, Cond.selects RX2 yX2_row yX2_row, Cond.code yX2_row cX2_row 4 (some .int), Cond.methodLink RX2 127 yX0_rowOfNumber, Cond.instanceMethod yX0_rowOfNumber, Cond.selects RX0 yX0_rowOfNumber yX0_rowOfNumber, Cond.code yX0_rowOfNumber cX0_rowOfNumber 6 (some .int), Cond.methodLink RX0 60 yX1_firstPlaceOf, Cond.methodLink RL 107 yX2_period, Cond.methodLink RL 110 yX2_turned, Cond.methodLink RL 113 yX2_first, Cond.instanceMethod yX2_first, Cond.selects RX2 yX2_first yX2_first, Cond.code yX2_first cX2_first 2 (some .int), Cond.methodLink RL 116 yX2_found, Cond.methodLink RL 119 yX2_mean, Cond.instanceMethod yX2_mean, Cond.selects RX2 yX2_mean yX2_mean, Cond.code yX2_mean cX2_mean 3 (some .double), Cond.methodLink RX2 139 yX0_neighbourPairs]
def wsL_law0_r14 : List Cond := [Cond.instanceMethod yX0_neighbourPairs, Cond.selects RX0 yX0_neighbourPairs yX0_neighbourPairs, Cond.code yX0_neighbourPairs cX0_neighbourPairs 1 (some .int), Cond.methodLink RX2 142 yX0_sharedByNeighbours, Cond.instanceMethod yX0_sharedByNeighbours, Cond.selects RX0 yX0_sharedByNeighbours yX0_sharedByNeighbours, Cond.code yX0_sharedByNeighbours cX0_sharedByNeighbours 3 (some .int), Cond.methodLink RL 123 yX2_seam, Cond.methodLink RL 126 yX2_against, Cond.instanceMethod yX2_against, Cond.selects RX2 yX2_against yX2_against, Cond.code yX2_against cX2_against 3 (some .int), Cond.methodLink RX2 107 yX1_difference, Cond.methodLink RL 132 yX4_isSame, Cond.instanceMethod yX4_isSame, Cond.selects RX4 yX4_isSame yX4_isSame, Cond.code yX4_isSame cX4_isSame 11 (some .boolean), Cond.classLink RX4 24 RX3, Cond.instantiable RX3 10, Cond.initialized RX3, Cond.fieldLink RX4 41 "HemSuffixesLaw$Rows" "rows" "[I", Cond.fieldLink RX4 52 "HemSuffixesLaw$Rows" "places" "[[I", Cond.methodLink RX4 30 yX3_init, Cond.instanceMethod yX3_init]
def wsL_law0_r15 : List Cond := [Cond.code yX3_init cX3_init 3 none, Cond.methodLink RX3 1 objectInit, Cond.fieldLink RX3 7 "HemSuffixesLaw$Rows" "next" "[I", Cond.fieldLink RX3 13 "HemSuffixesLaw$Rows" "depth" "[I", Cond.classLink RX3 16 "[[I", Cond.fieldLink RX3 18 "HemSuffixesLaw$Rows" "many" "[[I", Cond.fieldLink RX3 21 "HemSuffixesLaw$Rows" "first" "[[I", Cond.fieldLink RX3 24 "HemSuffixesLaw$Rows" "end" "[[I", Cond.fieldLink RX3 27 "HemSuffixesLaw$Rows" "nodes" "I", Cond.fieldLink RX3 31 "HemSuffixesLaw$Rows" "order" "[[I", Cond.fieldLink RX3 34 "HemSuffixesLaw$Rows" "rows" "[I", Cond.fieldLink RX3 37 "HemSuffixesLaw$Rows" "places" "[[I", Cond.fieldLink RX3 40 "HemSuffixesLaw$Rows" "ends" "[I", Cond.methodLink RX3 43 yX3_grow, Cond.instanceMethod yX3_grow, Cond.selects RX3 yX3_grow yX3_grow, Cond.code yX3_grow cX3_grow 7 none, Cond.methodLink RX3 47 yX3_walk, Cond.instanceMethod yX3_walk, Cond.selects RX3 yX3_walk yX3_walk, Cond.code yX3_walk cX3_walk 5 none, Cond.methodLink RX4 37 yX3_seam, Cond.instanceMethod yX3_seam, Cond.selects RX3 yX3_seam yX3_seam]
def wsL_law0_r16 : List Cond := [Cond.code yX3_seam cX3_seam 4 (some (.array .int)), Cond.methodLink RX4 44 yX2_count, Cond.methodLink RX4 50 yX2_seam, Cond.methodLink RX4 55 yX2_stitch, Cond.methodLink RX4 59 yX2_end, Cond.methodLink RX4 62 yX2_rank, Cond.methodLink RX4 65 yX3_repeat, Cond.instanceMethod yX3_repeat, Cond.selects RX3 yX3_repeat yX3_repeat, Cond.code yX3_repeat cX3_repeat 5 (some (.array .int)), Cond.methodLink RX4 69 yX2_repeat, Cond.methodLink RX4 71 yX4_placesOfSample, Cond.instanceMethod yX4_placesOfSample, Cond.selects RX4 yX4_placesOfSample yX4_placesOfSample, Cond.code yX4_placesOfSample cX4_placesOfSample 4 (some (.array .int)), Cond.methodLink RX4 74 yX2_found, Cond.methodLink RX4 77 yX2_first, Cond.methodLink RX4 80 yX2_period, Cond.methodLink RX4 83 yX4_period, Cond.instanceMethod yX4_period, Cond.selects RX4 yX4_period yX4_period, Cond.code yX4_period cX4_period 5 (some .int), Cond.methodLink RX4 84 yX2_turned, Cond.methodLink RX4 87 yX4_turned]
def wsL_law0_r17 : List Cond := [Cond.instanceMethod yX4_turned, Cond.selects RX4 yX4_turned yX4_turned, Cond.code yX4_turned cX4_turned 7 (some .int), Cond.methodLink RX4 88 yX2_mean]
def wsL_law0 : List Cond := (wsL_law0_r1 ++ (wsL_law0_r2 ++ (wsL_law0_r3 ++ (wsL_law0_r4 ++ (wsL_law0_r5 ++ (wsL_law0_r6 ++ (wsL_law0_r7 ++ (wsL_law0_r8 ++ (wsL_law0_r9 ++ (wsL_law0_r10 ++ (wsL_law0_r11 ++ (wsL_law0_r12 ++ (wsL_law0_r13 ++ (wsL_law0_r14 ++ (wsL_law0_r15 ++ (wsL_law0_r16 ++ wsL_law0_r17)))))))))))))))) ++ wsX20 ++ wsX40 ++ wsX00 ++ wsX10 ++ wsX30 ++ ([] : List Cond)
def wsL_law : List Cond := wsL_law0 ++ (vx_atS RX2 55 "java/lang/IllegalArgumentException" ["java/lang/RuntimeException", "java/lang/Exception"]).filter goodWord ++ (vx_atS RX2 45 "java/lang/IllegalStateException" ["java/lang/RuntimeException", "java/lang/Exception"]).filter goodWord ++ (vx_atS RX2 96 "java/lang/IndexOutOfBoundsException" ["java/lang/RuntimeException", "java/lang/Exception"]).filter goodWord
abbrev vwCl : List vw_C := [(RX0, TX0, 2), (RX1, TX1, 2), (RX2, TX2, 3), (RX3, TX3, 10), (RX4, TX4, 2)]
end
section
set_option maxRecDepth 20000 in
theorem wsL_law0_r1_in : ∀ w ∈ wsL_law0_r1, w ∈ lw_tbl := fun w h => (goodIn_p wsL_law0_r1 [204, 555, 30, 33] (by decide +kernel) (by decide +kernel) w h).1
set_option maxRecDepth 20000 in
theorem wsL_law0_r2_in : ∀ w ∈ wsL_law0_r2, w ∈ lw_tbl := fun w h => (goodIn_p wsL_law0_r2 [38, 44, 536] (by decide +kernel) (by decide +kernel) w h).1
set_option maxRecDepth 20000 in
theorem wsL_law0_r3_in : ∀ w ∈ wsL_law0_r3, w ∈ lw_tbl := fun w h => (goodIn_p wsL_law0_r3 [541, 426, 186, 422] (by decide +kernel) (by decide +kernel) w h).1
set_option maxRecDepth 20000 in
theorem wsL_law0_r4_in : ∀ w ∈ wsL_law0_r4, w ∈ lw_tbl := fun w h => (goodIn_p wsL_law0_r4 [435, 439, 83, 475, 159] (by decide +kernel) (by decide +kernel) w h).1
set_option maxRecDepth 20000 in
theorem wsL_law0_r5_in : ∀ w ∈ wsL_law0_r5, w ∈ lw_tbl := fun w h => (goodIn_p wsL_law0_r5 [480, 484, 488, 230, 183] (by decide +kernel) (by decide +kernel) w h).1
set_option maxRecDepth 20000 in
theorem wsL_law0_r6_in : ∀ w ∈ wsL_law0_r6, w ∈ lw_tbl := fun w h => (goodIn_p wsL_law0_r6 [493, 497, 502, 506, 509, 513, 516] (by decide +kernel) (by decide +kernel) w h).1
set_option maxRecDepth 20000 in
theorem wsL_law0_r7_in : ∀ w ∈ wsL_law0_r7, w ∈ lw_tbl := fun w h => (goodIn_p wsL_law0_r7 [523, 528, 533, 314, 163] (by decide +kernel) (by decide +kernel) w h).1
set_option maxRecDepth 20000 in
theorem wsL_law0_r8_in : ∀ w ∈ wsL_law0_r8, w ∈ lw_tbl := fun w h => (goodIn_p wsL_law0_r8 [167, 171, 175, 179, 191, 196] (by decide +kernel) (by decide +kernel) w h).1
set_option maxRecDepth 20000 in
theorem wsL_law0_r9_in : ∀ w ∈ wsL_law0_r9, w ∈ lw_tbl := fun w h => (goodIn_p wsL_law0_r9 [200, 319, 324, 327, 234] (by decide +kernel) (by decide +kernel) w h).1
set_option maxRecDepth 20000 in
theorem wsL_law0_r10_in : ∀ w ∈ wsL_law0_r10, w ∈ lw_tbl := fun w h => (goodIn_p wsL_law0_r10 [239, 244, 248, 252, 274, 278] (by decide +kernel) (by decide +kernel) w h).1
set_option maxRecDepth 20000 in
theorem wsL_law0_r11_in : ∀ w ∈ wsL_law0_r11, w ∈ lw_tbl := fun w h => (goodIn_p wsL_law0_r11 [282, 286, 290, 294, 266, 298] (by decide +kernel) (by decide +kernel) w h).1
set_option maxRecDepth 20000 in
theorem wsL_law0_r12_in : ∀ w ∈ wsL_law0_r12, w ∈ lw_tbl := fun w h => (goodIn_p wsL_law0_r12 [79, 154, 209, 213, 217, 221] (by decide +kernel) (by decide +kernel) w h).1
set_option maxRecDepth 20000 in
theorem wsL_law0_r13_in : ∀ w ∈ wsL_law0_r13, w ∈ lw_tbl := fun w h => (goodIn_p wsL_law0_r13 [397, 256, 261, 270, 302] (by decide +kernel) (by decide +kernel) w h).1
set_option maxRecDepth 20000 in
theorem wsL_law0_r14_in : ∀ w ∈ wsL_law0_r14, w ∈ lw_tbl := fun w h => (goodIn_p wsL_law0_r14 [306, 310, 226, 336] (by decide +kernel) (by decide +kernel) w h).1
set_option maxRecDepth 20000 in
theorem wsL_law0_r15_in : ∀ w ∈ wsL_law0_r15, w ∈ lw_tbl := fun w h => (goodIn_p wsL_law0_r15 [341, 348, 352] (by decide +kernel) (by decide +kernel) w h).1
set_option maxRecDepth 20000 in
theorem wsL_law0_r16_in : ∀ w ∈ wsL_law0_r16, w ∈ lw_tbl := fun w h => (goodIn_p wsL_law0_r16 [389, 401, 406, 413] (by decide +kernel) (by decide +kernel) w h).1
set_option maxRecDepth 20000 in
theorem wsL_law0_r17_in : ∀ w ∈ wsL_law0_r17, w ∈ lw_tbl := fun w h => (goodIn_p wsL_law0_r17 [418] (by decide +kernel) (by decide +kernel) w h).1
set_option maxRecDepth 20000 in
theorem wsL_law_wsX20_in : ∀ w ∈ wsX20, w ∈ lw_tbl := fun w h => (goodIn_p wsX20 [] (by decide +kernel) (by decide +kernel) w h).1
set_option maxRecDepth 20000 in
theorem wsL_law_wsX40_in : ∀ w ∈ wsX40, w ∈ lw_tbl := fun w h => (goodIn_p wsX40 [] (by decide +kernel) (by decide +kernel) w h).1
set_option maxRecDepth 20000 in
theorem wsL_law_wsX00_in : ∀ w ∈ wsX00, w ∈ lw_tbl := fun w h => (goodIn_p wsX00 [] (by decide +kernel) (by decide +kernel) w h).1
set_option maxRecDepth 20000 in
theorem wsL_law_wsX10_in : ∀ w ∈ wsX10, w ∈ lw_tbl := fun w h => (goodIn_p wsX10 [] (by decide +kernel) (by decide +kernel) w h).1
set_option maxRecDepth 20000 in
theorem wsL_law_wsX30_in : ∀ w ∈ wsX30, w ∈ lw_tbl := fun w h => (goodIn_p wsX30 [] (by decide +kernel) (by decide +kernel) w h).1
theorem wsL_law_in0 : ∀ w ∈ wsL_law0, w ∈ lw_tbl := List.forall_mem_append.mpr ⟨List.forall_mem_append.mpr ⟨List.forall_mem_append.mpr ⟨List.forall_mem_append.mpr ⟨List.forall_mem_append.mpr ⟨List.forall_mem_append.mpr ⟨List.forall_mem_append.mpr ⟨wsL_law0_r1_in, List.forall_mem_append.mpr ⟨wsL_law0_r2_in, List.forall_mem_append.mpr ⟨wsL_law0_r3_in, List.forall_mem_append.mpr ⟨wsL_law0_r4_in, List.forall_mem_append.mpr ⟨wsL_law0_r5_in, List.forall_mem_append.mpr ⟨wsL_law0_r6_in, List.forall_mem_append.mpr ⟨wsL_law0_r7_in, List.forall_mem_append.mpr ⟨wsL_law0_r8_in, List.forall_mem_append.mpr ⟨wsL_law0_r9_in, List.forall_mem_append.mpr ⟨wsL_law0_r10_in, List.forall_mem_append.mpr ⟨wsL_law0_r11_in, List.forall_mem_append.mpr ⟨wsL_law0_r12_in, List.forall_mem_append.mpr ⟨wsL_law0_r13_in, List.forall_mem_append.mpr ⟨wsL_law0_r14_in, List.forall_mem_append.mpr ⟨wsL_law0_r15_in, List.forall_mem_append.mpr ⟨wsL_law0_r16_in, wsL_law0_r17_in⟩⟩⟩⟩⟩⟩⟩⟩⟩⟩⟩⟩⟩⟩⟩⟩, wsL_law_wsX20_in⟩, wsL_law_wsX40_in⟩, wsL_law_wsX00_in⟩, wsL_law_wsX10_in⟩, wsL_law_wsX30_in⟩, (fun _ h => absurd h List.not_mem_nil)⟩
end
section
theorem wsL_law_x0 : ∀ w ∈ (vx_atS RX2 55 "java/lang/IllegalArgumentException" ["java/lang/RuntimeException", "java/lang/Exception"]).filter goodWord, w ∈ lw_tbl := by decide +kernel
theorem wsL_law_x1 : ∀ w ∈ (vx_atS RX2 45 "java/lang/IllegalStateException" ["java/lang/RuntimeException", "java/lang/Exception"]).filter goodWord, w ∈ lw_tbl := by decide +kernel
theorem wsL_law_x2 : ∀ w ∈ (vx_atS RX2 96 "java/lang/IndexOutOfBoundsException" ["java/lang/RuntimeException", "java/lang/Exception"]).filter goodWord, w ∈ lw_tbl := by decide +kernel
theorem wsL_law_in : ∀ w ∈ wsL_law, w ∈ lw_tbl := fun w h => (List.mem_append.mp h).elim (fun h => (List.mem_append.mp h).elim (fun h => (List.mem_append.mp h).elim (fun h => wsL_law_in0 w h) (fun h => wsL_law_x0 w h)) (fun h => wsL_law_x1 w h)) (fun h => wsL_law_x2 w h)
theorem inlX0 : ∀ w ∈ wsX00, w ∈ wsL_law := fun _ h => List.mem_append_left _ (List.mem_append_left _ (List.mem_append_left _ (List.mem_append_left _ (List.mem_append_left _ (List.mem_append_left _ (List.mem_append_right _ h))))))
theorem inX0 : ∀ w ∈ wsX00, w ∈ lw_tbl := fun w h => wsL_law_in w (inlX0 w h)
theorem inlX1 : ∀ w ∈ wsX10, w ∈ wsL_law := fun _ h => List.mem_append_left _ (List.mem_append_left _ (List.mem_append_left _ (List.mem_append_left _ (List.mem_append_left _ (List.mem_append_right _ h)))))
theorem inX1 : ∀ w ∈ wsX10, w ∈ lw_tbl := fun w h => wsL_law_in w (inlX1 w h)
theorem inlX2 : ∀ w ∈ wsX20, w ∈ wsL_law := fun _ h => List.mem_append_left _ (List.mem_append_left _ (List.mem_append_left _ (List.mem_append_left _ (List.mem_append_left _ (List.mem_append_left _ (List.mem_append_left _ (List.mem_append_left _ (List.mem_append_right _ h))))))))
theorem inX2 : ∀ w ∈ wsX20, w ∈ lw_tbl := fun w h => wsL_law_in w (inlX2 w h)
theorem inlX3 : ∀ w ∈ wsX30, w ∈ wsL_law := fun _ h => List.mem_append_left _ (List.mem_append_left _ (List.mem_append_left _ (List.mem_append_left _ (List.mem_append_right _ h))))
theorem inX3 : ∀ w ∈ wsX30, w ∈ lw_tbl := fun w h => wsL_law_in w (inlX3 w h)
theorem inlX4 : ∀ w ∈ wsX40, w ∈ wsL_law := fun _ h => List.mem_append_left _ (List.mem_append_left _ (List.mem_append_left _ (List.mem_append_left _ (List.mem_append_left _ (List.mem_append_left _ (List.mem_append_left _ (List.mem_append_right _ h)))))))
theorem inX4 : ∀ w ∈ wsX40, w ∈ lw_tbl := fun w h => wsL_law_in w (inlX4 w h)
theorem inX5 : ∀ w ∈ wsX50, w ∈ lw_tbl := by decide +kernel
theorem inJ9 : ∀ w ∈ wsJ90, w ∈ lw_tbl := by decide +kernel
theorem inJ0 : ∀ w ∈ wsJ00, w ∈ lw_tbl := by decide +kernel
end
section
set_option maxRecDepth 20000 in
theorem ggX0_init_X1_init : GoodIn wsX0_init wsX1_init := goodIn_r _ [12, 13, 2, 3, 8, 14, 15, 16, 17] (by decide +kernel) (by decide +kernel)
set_option maxRecDepth 20000 in
theorem gX0_init_X1_init : GoodIn wsX0_init (wsX1_init) := ggX0_init_X1_init
theorem dX0_init_0 : decode cX0_init 0 = .ok (.aload_n 0, 1) := by decide +kernel
theorem dX0_init_1 : decode cX0_init 1 = .ok (.invokespecial 3, 3) := by decide +kernel
theorem dX0_init_4 : decode cX0_init 4 = .ok (.aload_n 0, 1) := by decide +kernel
theorem dX0_init_5 : decode cX0_init 5 = .ok (.new 9, 3) := by decide +kernel
theorem dX0_init_8 : decode cX0_init 8 = .ok (.dup, 1) := by decide +kernel
theorem dX0_init_9 : decode cX0_init 9 = .ok (.invokespecial 11, 3) := by decide +kernel
theorem dX0_init_12 : decode cX0_init 12 = .ok (.putfield 12, 3) := by decide +kernel
theorem dX0_init_15 : decode cX0_init 15 = .ok (.aload_n 0, 1) := by decide +kernel
theorem dX0_init_16 : decode cX0_init 16 = .ok (.bipush 40, 2) := by decide +kernel
theorem dX0_init_18 : decode cX0_init 18 = .ok (.newarray .int, 2) := by decide +kernel
theorem dX0_init_20 : decode cX0_init 20 = .ok (.putfield 18, 3) := by decide +kernel
theorem dX0_init_23 : decode cX0_init 23 = .ok (.return_, 1) := by decide +kernel
set_option maxRecDepth 20000 in
theorem ggX0_sewOn_X1_append : GoodIn wsX0_sewOn wsX1_append := goodIn_r _ [6, 7, 8, 37, 38] (by decide +kernel) (by decide +kernel)
set_option maxRecDepth 20000 in
theorem gX0_sewOn_X1_append : GoodIn wsX0_sewOn (wsV RX0 22 RX1 yX1_append wsX1_append) := goodIn_app (goodIn_of _ (by decide +kernel)) ggX0_sewOn_X1_append
set_option maxRecDepth 20000 in
theorem ggX0_sewOn_X0_orderEnds : GoodIn wsX0_sewOn wsX0_orderEnds := goodIn_r _ [13, 1, 14, 15, 16, 17, 12, 18, 19, 20, 21, 5, 22, 23, 24, 25, 26, 7, 27, 28, 29, 30, 31, 32, 33, 34, 8, 35, 36, 37, 38] (by decide +kernel) (by decide +kernel)
set_option maxRecDepth 20000 in
theorem gX0_sewOn_X0_orderEnds : GoodIn wsX0_sewOn (wsV RX0 26 RX0 yX0_orderEnds wsX0_orderEnds) := goodIn_app (goodIn_of _ (by decide +kernel)) ggX0_sewOn_X0_orderEnds
theorem dX0_sewOn_0 : decode cX0_sewOn 0 = .ok (.aload_n 0, 1) := by decide +kernel
theorem dX0_sewOn_1 : decode cX0_sewOn 1 = .ok (.getfield 12, 3) := by decide +kernel
theorem dX0_sewOn_4 : decode cX0_sewOn 4 = .ok (.iload_n 1, 1) := by decide +kernel
theorem dX0_sewOn_5 : decode cX0_sewOn 5 = .ok (.invokevirtual 22, 3) := by decide +kernel
theorem dX0_sewOn_8 : decode cX0_sewOn 8 = .ok (.aload_n 0, 1) := by decide +kernel
theorem dX0_sewOn_9 : decode cX0_sewOn 9 = .ok (.invokevirtual 26, 3) := by decide +kernel
theorem dX0_sewOn_12 : decode cX0_sewOn 12 = .ok (.return_, 1) := by decide +kernel
set_option maxRecDepth 20000 in
theorem ggX0_sewBeginning_X1_at : GoodIn wsX0_sewBeginning wsX1_at := goodIn_r _ [6, 7, 8, 38, 39] (by decide +kernel) (by decide +kernel)
set_option maxRecDepth 20000 in
theorem gX0_sewBeginning_X1_at : GoodIn wsX0_sewBeginning (wsV RX0 29 RX1 yX1_at wsX1_at) := goodIn_app (goodIn_of _ (by decide +kernel)) ggX0_sewBeginning_X1_at
set_option maxRecDepth 20000 in
theorem ggX0_sewBeginning_X1_append : GoodIn wsX0_sewBeginning wsX1_append := goodIn_r _ [12, 7, 8, 38, 39] (by decide +kernel) (by decide +kernel)
set_option maxRecDepth 20000 in
theorem gX0_sewBeginning_X1_append : GoodIn wsX0_sewBeginning (wsV RX0 22 RX1 yX1_append wsX1_append) := goodIn_app (goodIn_of _ (by decide +kernel)) ggX0_sewBeginning_X1_append
set_option maxRecDepth 20000 in
theorem ggX0_sewBeginning_X0_orderEnds : GoodIn wsX0_sewBeginning wsX0_orderEnds := goodIn_r _ [17, 1, 18, 19, 20, 21, 16, 22, 23, 24, 25, 5, 26, 27, 28, 29, 30, 7, 31, 32, 33, 34, 35, 3, 4, 6, 8, 36, 37, 38, 39] (by decide +kernel) (by decide +kernel)
set_option maxRecDepth 20000 in
theorem gX0_sewBeginning_X0_orderEnds : GoodIn wsX0_sewBeginning (wsV RX0 26 RX0 yX0_orderEnds wsX0_orderEnds) := goodIn_app (goodIn_of _ (by decide +kernel)) ggX0_sewBeginning_X0_orderEnds
theorem dX0_sewBeginning_0 : decode cX0_sewBeginning 0 = .ok (.iconst 0, 1) := by decide +kernel
theorem dX0_sewBeginning_1 : decode cX0_sewBeginning 1 = .ok (.istore_n 2, 1) := by decide +kernel
theorem dX0_sewBeginning_2 : decode cX0_sewBeginning 2 = .ok (.iload_n 2, 1) := by decide +kernel
theorem dX0_sewBeginning_3 : decode cX0_sewBeginning 3 = .ok (.iload_n 1, 1) := by decide +kernel
theorem dX0_sewBeginning_4 : decode cX0_sewBeginning 4 = .ok (.if_icmp .ge 24, 3) := by decide +kernel
theorem dX0_sewBeginning_7 : decode cX0_sewBeginning 7 = .ok (.aload_n 0, 1) := by decide +kernel
theorem dX0_sewBeginning_8 : decode cX0_sewBeginning 8 = .ok (.getfield 12, 3) := by decide +kernel
theorem dX0_sewBeginning_11 : decode cX0_sewBeginning 11 = .ok (.aload_n 0, 1) := by decide +kernel
theorem dX0_sewBeginning_12 : decode cX0_sewBeginning 12 = .ok (.getfield 12, 3) := by decide +kernel
theorem dX0_sewBeginning_15 : decode cX0_sewBeginning 15 = .ok (.iload_n 2, 1) := by decide +kernel
theorem dX0_sewBeginning_16 : decode cX0_sewBeginning 16 = .ok (.invokevirtual 29, 3) := by decide +kernel
theorem dX0_sewBeginning_19 : decode cX0_sewBeginning 19 = .ok (.invokevirtual 22, 3) := by decide +kernel
theorem dX0_sewBeginning_22 : decode cX0_sewBeginning 22 = .ok (.iinc 2 1, 3) := by decide +kernel
theorem dX0_sewBeginning_25 : decode cX0_sewBeginning 25 = .ok (.goto (-23), 3) := by decide +kernel
theorem dX0_sewBeginning_28 : decode cX0_sewBeginning 28 = .ok (.aload_n 0, 1) := by decide +kernel
theorem dX0_sewBeginning_29 : decode cX0_sewBeginning 29 = .ok (.invokevirtual 26, 3) := by decide +kernel
theorem dX0_sewBeginning_32 : decode cX0_sewBeginning 32 = .ok (.return_, 1) := by decide +kernel
set_option maxRecDepth 20000 in
theorem ggX0_takeOff_X1_drop : GoodIn wsX0_takeOff wsX1_drop := goodIn_r _ [6, 7, 37, 38] (by decide +kernel) (by decide +kernel)
set_option maxRecDepth 20000 in
theorem gX0_takeOff_X1_drop : GoodIn wsX0_takeOff (wsV RX0 33 RX1 yX1_drop wsX1_drop) := goodIn_app (goodIn_of _ (by decide +kernel)) ggX0_takeOff_X1_drop
set_option maxRecDepth 20000 in
theorem ggX0_takeOff_X0_orderEnds : GoodIn wsX0_takeOff wsX0_orderEnds := goodIn_r _ [12, 1, 13, 14, 15, 16, 11, 17, 18, 19, 20, 5, 21, 22, 23, 24, 25, 7, 26, 27, 28, 29, 30, 31, 32, 33, 34, 35, 36, 37, 38] (by decide +kernel) (by decide +kernel)
set_option maxRecDepth 20000 in
theorem gX0_takeOff_X0_orderEnds : GoodIn wsX0_takeOff (wsV RX0 26 RX0 yX0_orderEnds wsX0_orderEnds) := goodIn_app (goodIn_of _ (by decide +kernel)) ggX0_takeOff_X0_orderEnds
theorem dX0_takeOff_0 : decode cX0_takeOff 0 = .ok (.aload_n 0, 1) := by decide +kernel
theorem dX0_takeOff_1 : decode cX0_takeOff 1 = .ok (.getfield 12, 3) := by decide +kernel
theorem dX0_takeOff_4 : decode cX0_takeOff 4 = .ok (.iload_n 1, 1) := by decide +kernel
theorem dX0_takeOff_5 : decode cX0_takeOff 5 = .ok (.invokevirtual 33, 3) := by decide +kernel
theorem dX0_takeOff_8 : decode cX0_takeOff 8 = .ok (.aload_n 0, 1) := by decide +kernel
theorem dX0_takeOff_9 : decode cX0_takeOff 9 = .ok (.invokevirtual 26, 3) := by decide +kernel
theorem dX0_takeOff_12 : decode cX0_takeOff 12 = .ok (.return_, 1) := by decide +kernel
set_option maxRecDepth 20000 in
theorem ggX0_orderEnds_X0_putInOrder : GoodIn wsX0_orderEnds wsX0_putInOrder := goodIn_r _ [7, 1, 2, 8, 9, 10, 11, 12, 13, 14, 15, 16, 17, 18, 19, 20, 21, 22, 23, 24, 25, 26, 27, 28, 29, 30] (by decide +kernel) (by decide +kernel)
set_option maxRecDepth 20000 in
theorem gX0_orderEnds_X0_putInOrder : GoodIn wsX0_orderEnds (wsV RX0 40 RX0 yX0_putInOrder wsX0_putInOrder) := goodIn_app (goodIn_of _ (by decide +kernel)) ggX0_orderEnds_X0_putInOrder
theorem dX0_orderEnds_0 : decode cX0_orderEnds 0 = .ok (.iconst 0, 1) := by decide +kernel
theorem dX0_orderEnds_1 : decode cX0_orderEnds 1 = .ok (.istore_n 1, 1) := by decide +kernel
theorem dX0_orderEnds_2 : decode cX0_orderEnds 2 = .ok (.iload_n 1, 1) := by decide +kernel
theorem dX0_orderEnds_3 : decode cX0_orderEnds 3 = .ok (.aload_n 0, 1) := by decide +kernel
theorem dX0_orderEnds_4 : decode cX0_orderEnds 4 = .ok (.getfield 12, 3) := by decide +kernel
theorem dX0_orderEnds_7 : decode cX0_orderEnds 7 = .ok (.getfield 36, 3) := by decide +kernel
theorem dX0_orderEnds_10 : decode cX0_orderEnds 10 = .ok (.if_icmp .ge 34, 3) := by decide +kernel
theorem dX0_orderEnds_13 : decode cX0_orderEnds 13 = .ok (.iload_n 1, 1) := by decide +kernel
theorem dX0_orderEnds_14 : decode cX0_orderEnds 14 = .ok (.aload_n 0, 1) := by decide +kernel
theorem dX0_orderEnds_15 : decode cX0_orderEnds 15 = .ok (.getfield 18, 3) := by decide +kernel
theorem dX0_orderEnds_18 : decode cX0_orderEnds 18 = .ok (.arraylength, 1) := by decide +kernel
theorem dX0_orderEnds_19 : decode cX0_orderEnds 19 = .ok (.if_icmp .ge 25, 3) := by decide +kernel
theorem dX0_orderEnds_22 : decode cX0_orderEnds 22 = .ok (.aload_n 0, 1) := by decide +kernel
theorem dX0_orderEnds_23 : decode cX0_orderEnds 23 = .ok (.aload_n 0, 1) := by decide +kernel
theorem dX0_orderEnds_24 : decode cX0_orderEnds 24 = .ok (.getfield 12, 3) := by decide +kernel
theorem dX0_orderEnds_27 : decode cX0_orderEnds 27 = .ok (.getfield 36, 3) := by decide +kernel
theorem dX0_orderEnds_30 : decode cX0_orderEnds 30 = .ok (.iconst 1, 1) := by decide +kernel
theorem dX0_orderEnds_31 : decode cX0_orderEnds 31 = .ok (.isub, 1) := by decide +kernel
theorem dX0_orderEnds_32 : decode cX0_orderEnds 32 = .ok (.iload_n 1, 1) := by decide +kernel
theorem dX0_orderEnds_33 : decode cX0_orderEnds 33 = .ok (.isub, 1) := by decide +kernel
theorem dX0_orderEnds_34 : decode cX0_orderEnds 34 = .ok (.iload_n 1, 1) := by decide +kernel
theorem dX0_orderEnds_35 : decode cX0_orderEnds 35 = .ok (.invokevirtual 40, 3) := by decide +kernel
theorem dX0_orderEnds_38 : decode cX0_orderEnds 38 = .ok (.iinc 1 1, 3) := by decide +kernel
theorem dX0_orderEnds_41 : decode cX0_orderEnds 41 = .ok (.goto (-39), 3) := by decide +kernel
theorem dX0_orderEnds_44 : decode cX0_orderEnds 44 = .ok (.return_, 1) := by decide +kernel
set_option maxRecDepth 20000 in
theorem ggX0_putInOrder_X1_difference : GoodIn wsX0_putInOrder wsX1_difference := goodIn_r _ [7, 8, 9, 10, 6, 11, 12, 13, 14, 15, 16, 17, 18, 19, 20, 21, 24, 25] (by decide +kernel) (by decide +kernel)
set_option maxRecDepth 20000 in
theorem gX0_putInOrder_X1_difference : GoodIn wsX0_putInOrder (wsV RX0 44 RX1 yX1_difference wsX1_difference) := goodIn_app (goodIn_of _ (by decide +kernel)) ggX0_putInOrder_X1_difference
theorem dX0_putInOrder_0 : decode cX0_putInOrder 0 = .ok (.iload_n 2, 1) := by decide +kernel
theorem dX0_putInOrder_1 : decode cX0_putInOrder 1 = .ok (.istore_n 3, 1) := by decide +kernel
theorem dX0_putInOrder_2 : decode cX0_putInOrder 2 = .ok (.iload_n 3, 1) := by decide +kernel
theorem dX0_putInOrder_3 : decode cX0_putInOrder 3 = .ok (.ifCond .le 46, 3) := by decide +kernel
theorem dX0_putInOrder_6 : decode cX0_putInOrder 6 = .ok (.aload_n 0, 1) := by decide +kernel
theorem dX0_putInOrder_7 : decode cX0_putInOrder 7 = .ok (.getfield 12, 3) := by decide +kernel
theorem dX0_putInOrder_10 : decode cX0_putInOrder 10 = .ok (.iload_n 1, 1) := by decide +kernel
theorem dX0_putInOrder_11 : decode cX0_putInOrder 11 = .ok (.aload_n 0, 1) := by decide +kernel
theorem dX0_putInOrder_12 : decode cX0_putInOrder 12 = .ok (.getfield 12, 3) := by decide +kernel
theorem dX0_putInOrder_15 : decode cX0_putInOrder 15 = .ok (.aload_n 0, 1) := by decide +kernel
theorem dX0_putInOrder_16 : decode cX0_putInOrder 16 = .ok (.getfield 18, 3) := by decide +kernel
theorem dX0_putInOrder_19 : decode cX0_putInOrder 19 = .ok (.iload_n 3, 1) := by decide +kernel
theorem dX0_putInOrder_20 : decode cX0_putInOrder 20 = .ok (.iconst 1, 1) := by decide +kernel
theorem dX0_putInOrder_21 : decode cX0_putInOrder 21 = .ok (.isub, 1) := by decide +kernel
theorem dX0_putInOrder_22 : decode cX0_putInOrder 22 = .ok (.iaload, 1) := by decide +kernel
theorem dX0_putInOrder_23 : decode cX0_putInOrder 23 = .ok (.invokevirtual 44, 3) := by decide +kernel
theorem dX0_putInOrder_26 : decode cX0_putInOrder 26 = .ok (.ifCond .ge 23, 3) := by decide +kernel
theorem dX0_putInOrder_29 : decode cX0_putInOrder 29 = .ok (.aload_n 0, 1) := by decide +kernel
theorem dX0_putInOrder_30 : decode cX0_putInOrder 30 = .ok (.getfield 18, 3) := by decide +kernel
theorem dX0_putInOrder_33 : decode cX0_putInOrder 33 = .ok (.iload_n 3, 1) := by decide +kernel
theorem dX0_putInOrder_34 : decode cX0_putInOrder 34 = .ok (.aload_n 0, 1) := by decide +kernel
theorem dX0_putInOrder_35 : decode cX0_putInOrder 35 = .ok (.getfield 18, 3) := by decide +kernel
theorem dX0_putInOrder_38 : decode cX0_putInOrder 38 = .ok (.iload_n 3, 1) := by decide +kernel
theorem dX0_putInOrder_39 : decode cX0_putInOrder 39 = .ok (.iconst 1, 1) := by decide +kernel
theorem dX0_putInOrder_40 : decode cX0_putInOrder 40 = .ok (.isub, 1) := by decide +kernel
theorem dX0_putInOrder_41 : decode cX0_putInOrder 41 = .ok (.iaload, 1) := by decide +kernel
theorem dX0_putInOrder_42 : decode cX0_putInOrder 42 = .ok (.iastore, 1) := by decide +kernel
theorem dX0_putInOrder_43 : decode cX0_putInOrder 43 = .ok (.iinc 3 (-1), 3) := by decide +kernel
theorem dX0_putInOrder_46 : decode cX0_putInOrder 46 = .ok (.goto (-44), 3) := by decide +kernel
theorem dX0_putInOrder_49 : decode cX0_putInOrder 49 = .ok (.aload_n 0, 1) := by decide +kernel
theorem dX0_putInOrder_50 : decode cX0_putInOrder 50 = .ok (.getfield 18, 3) := by decide +kernel
theorem dX0_putInOrder_53 : decode cX0_putInOrder 53 = .ok (.iload_n 3, 1) := by decide +kernel
theorem dX0_putInOrder_54 : decode cX0_putInOrder 54 = .ok (.iload_n 1, 1) := by decide +kernel
theorem dX0_putInOrder_55 : decode cX0_putInOrder 55 = .ok (.iastore, 1) := by decide +kernel
theorem dX0_putInOrder_56 : decode cX0_putInOrder 56 = .ok (.return_, 1) := by decide +kernel
theorem dX0_placeAt_0 : decode cX0_placeAt 0 = .ok (.iload_n 1, 1) := by decide +kernel
theorem dX0_placeAt_1 : decode cX0_placeAt 1 = .ok (.ifCond .lt 23, 3) := by decide +kernel
theorem dX0_placeAt_4 : decode cX0_placeAt 4 = .ok (.iload_n 1, 1) := by decide +kernel
theorem dX0_placeAt_5 : decode cX0_placeAt 5 = .ok (.aload_n 0, 1) := by decide +kernel
theorem dX0_placeAt_6 : decode cX0_placeAt 6 = .ok (.getfield 12, 3) := by decide +kernel
theorem dX0_placeAt_9 : decode cX0_placeAt 9 = .ok (.getfield 36, 3) := by decide +kernel
theorem dX0_placeAt_12 : decode cX0_placeAt 12 = .ok (.if_icmp .ge 12, 3) := by decide +kernel
theorem dX0_placeAt_15 : decode cX0_placeAt 15 = .ok (.iload_n 1, 1) := by decide +kernel
theorem dX0_placeAt_16 : decode cX0_placeAt 16 = .ok (.aload_n 0, 1) := by decide +kernel
theorem dX0_placeAt_17 : decode cX0_placeAt 17 = .ok (.getfield 18, 3) := by decide +kernel
theorem dX0_placeAt_20 : decode cX0_placeAt 20 = .ok (.arraylength, 1) := by decide +kernel
theorem dX0_placeAt_21 : decode cX0_placeAt 21 = .ok (.if_icmp .lt 5, 3) := by decide +kernel
theorem dX0_placeAt_24 : decode cX0_placeAt 24 = .ok (.iconst (-1), 1) := by decide +kernel
theorem dX0_placeAt_25 : decode cX0_placeAt 25 = .ok (.ireturn, 1) := by decide +kernel
theorem dX0_placeAt_26 : decode cX0_placeAt 26 = .ok (.aload_n 0, 1) := by decide +kernel
theorem dX0_placeAt_27 : decode cX0_placeAt 27 = .ok (.getfield 18, 3) := by decide +kernel
theorem dX0_placeAt_30 : decode cX0_placeAt 30 = .ok (.iload_n 1, 1) := by decide +kernel
theorem dX0_placeAt_31 : decode cX0_placeAt 31 = .ok (.iaload, 1) := by decide +kernel
theorem dX0_placeAt_32 : decode cX0_placeAt 32 = .ok (.ireturn, 1) := by decide +kernel
set_option maxRecDepth 20000 in
theorem ggX0_rankOf_X0_placeAt : GoodIn wsX0_rankOf wsX0_placeAt := goodIn_r _ [6, 1, 7, 8, 9, 10, 11] (by decide +kernel) (by decide +kernel)
set_option maxRecDepth 20000 in
theorem gX0_rankOf_X0_placeAt : GoodIn wsX0_rankOf (wsV RX0 48 RX0 yX0_placeAt wsX0_placeAt) := goodIn_app (goodIn_of _ (by decide +kernel)) ggX0_rankOf_X0_placeAt
theorem dX0_rankOf_0 : decode cX0_rankOf 0 = .ok (.iconst 0, 1) := by decide +kernel
theorem dX0_rankOf_1 : decode cX0_rankOf 1 = .ok (.istore_n 2, 1) := by decide +kernel
theorem dX0_rankOf_2 : decode cX0_rankOf 2 = .ok (.iload_n 2, 1) := by decide +kernel
theorem dX0_rankOf_3 : decode cX0_rankOf 3 = .ok (.aload_n 0, 1) := by decide +kernel
theorem dX0_rankOf_4 : decode cX0_rankOf 4 = .ok (.getfield 12, 3) := by decide +kernel
theorem dX0_rankOf_7 : decode cX0_rankOf 7 = .ok (.getfield 36, 3) := by decide +kernel
theorem dX0_rankOf_10 : decode cX0_rankOf 10 = .ok (.if_icmp .ge 20, 3) := by decide +kernel
theorem dX0_rankOf_13 : decode cX0_rankOf 13 = .ok (.aload_n 0, 1) := by decide +kernel
theorem dX0_rankOf_14 : decode cX0_rankOf 14 = .ok (.iload_n 2, 1) := by decide +kernel
theorem dX0_rankOf_15 : decode cX0_rankOf 15 = .ok (.invokevirtual 48, 3) := by decide +kernel
theorem dX0_rankOf_18 : decode cX0_rankOf 18 = .ok (.iload_n 1, 1) := by decide +kernel
theorem dX0_rankOf_19 : decode cX0_rankOf 19 = .ok (.if_icmp .ne 5, 3) := by decide +kernel
theorem dX0_rankOf_22 : decode cX0_rankOf 22 = .ok (.iload_n 2, 1) := by decide +kernel
theorem dX0_rankOf_23 : decode cX0_rankOf 23 = .ok (.ireturn, 1) := by decide +kernel
theorem dX0_rankOf_24 : decode cX0_rankOf 24 = .ok (.iinc 2 1, 3) := by decide +kernel
theorem dX0_rankOf_27 : decode cX0_rankOf 27 = .ok (.goto (-25), 3) := by decide +kernel
theorem dX0_rankOf_30 : decode cX0_rankOf 30 = .ok (.iconst (-1), 1) := by decide +kernel
theorem dX0_rankOf_31 : decode cX0_rankOf 31 = .ok (.ireturn, 1) := by decide +kernel
set_option maxRecDepth 20000 in
theorem ggX0_sharedWithNext_X0_placeAt : GoodIn wsX0_sharedWithNext wsX0_placeAt := goodIn_r _ [6, 1, 7, 23, 24, 25, 26] (by decide +kernel) (by decide +kernel)
set_option maxRecDepth 20000 in
theorem gX0_sharedWithNext_X0_placeAt : GoodIn wsX0_sharedWithNext (wsV RX0 48 RX0 yX0_placeAt wsX0_placeAt) := goodIn_app (goodIn_of _ (by decide +kernel)) ggX0_sharedWithNext_X0_placeAt
set_option maxRecDepth 20000 in
theorem ggX0_sharedWithNext_X1_sharedWith : GoodIn wsX0_sharedWithNext wsX1_sharedWith := goodIn_r _ [12, 13, 14, 15, 16, 17, 18, 19, 20, 11, 21, 22, 25, 26] (by decide +kernel) (by decide +kernel)
set_option maxRecDepth 20000 in
theorem gX0_sharedWithNext_X1_sharedWith : GoodIn wsX0_sharedWithNext (wsV RX0 51 RX1 yX1_sharedWith wsX1_sharedWith) := goodIn_app (goodIn_of _ (by decide +kernel)) ggX0_sharedWithNext_X1_sharedWith
theorem dX0_sharedWithNext_0 : decode cX0_sharedWithNext 0 = .ok (.aload_n 0, 1) := by decide +kernel
theorem dX0_sharedWithNext_1 : decode cX0_sharedWithNext 1 = .ok (.iload_n 1, 1) := by decide +kernel
theorem dX0_sharedWithNext_2 : decode cX0_sharedWithNext 2 = .ok (.invokevirtual 48, 3) := by decide +kernel
theorem dX0_sharedWithNext_5 : decode cX0_sharedWithNext 5 = .ok (.istore_n 2, 1) := by decide +kernel
theorem dX0_sharedWithNext_6 : decode cX0_sharedWithNext 6 = .ok (.aload_n 0, 1) := by decide +kernel
theorem dX0_sharedWithNext_7 : decode cX0_sharedWithNext 7 = .ok (.iload_n 1, 1) := by decide +kernel
theorem dX0_sharedWithNext_8 : decode cX0_sharedWithNext 8 = .ok (.iconst 1, 1) := by decide +kernel
theorem dX0_sharedWithNext_9 : decode cX0_sharedWithNext 9 = .ok (.iadd, 1) := by decide +kernel
theorem dX0_sharedWithNext_10 : decode cX0_sharedWithNext 10 = .ok (.invokevirtual 48, 3) := by decide +kernel
theorem dX0_sharedWithNext_13 : decode cX0_sharedWithNext 13 = .ok (.istore_n 3, 1) := by decide +kernel
theorem dX0_sharedWithNext_14 : decode cX0_sharedWithNext 14 = .ok (.iload_n 2, 1) := by decide +kernel
theorem dX0_sharedWithNext_15 : decode cX0_sharedWithNext 15 = .ok (.iconst (-1), 1) := by decide +kernel
theorem dX0_sharedWithNext_16 : decode cX0_sharedWithNext 16 = .ok (.if_icmp .eq 8, 3) := by decide +kernel
theorem dX0_sharedWithNext_19 : decode cX0_sharedWithNext 19 = .ok (.iload_n 3, 1) := by decide +kernel
theorem dX0_sharedWithNext_20 : decode cX0_sharedWithNext 20 = .ok (.iconst (-1), 1) := by decide +kernel
theorem dX0_sharedWithNext_21 : decode cX0_sharedWithNext 21 = .ok (.if_icmp .ne 5, 3) := by decide +kernel
theorem dX0_sharedWithNext_24 : decode cX0_sharedWithNext 24 = .ok (.iconst 0, 1) := by decide +kernel
theorem dX0_sharedWithNext_25 : decode cX0_sharedWithNext 25 = .ok (.ireturn, 1) := by decide +kernel
theorem dX0_sharedWithNext_26 : decode cX0_sharedWithNext 26 = .ok (.aload_n 0, 1) := by decide +kernel
theorem dX0_sharedWithNext_27 : decode cX0_sharedWithNext 27 = .ok (.getfield 12, 3) := by decide +kernel
theorem dX0_sharedWithNext_30 : decode cX0_sharedWithNext 30 = .ok (.iload_n 2, 1) := by decide +kernel
theorem dX0_sharedWithNext_31 : decode cX0_sharedWithNext 31 = .ok (.aload_n 0, 1) := by decide +kernel
theorem dX0_sharedWithNext_32 : decode cX0_sharedWithNext 32 = .ok (.getfield 12, 3) := by decide +kernel
theorem dX0_sharedWithNext_35 : decode cX0_sharedWithNext 35 = .ok (.iload_n 3, 1) := by decide +kernel
theorem dX0_sharedWithNext_36 : decode cX0_sharedWithNext 36 = .ok (.invokevirtual 51, 3) := by decide +kernel
theorem dX0_sharedWithNext_39 : decode cX0_sharedWithNext 39 = .ok (.ireturn, 1) := by decide +kernel
theorem dX0_neighbourPairs_0 : decode cX0_neighbourPairs 0 = .ok (.aload_n 0, 1) := by decide +kernel
theorem dX0_neighbourPairs_1 : decode cX0_neighbourPairs 1 = .ok (.getfield 12, 3) := by decide +kernel
theorem dX0_neighbourPairs_4 : decode cX0_neighbourPairs 4 = .ok (.getfield 36, 3) := by decide +kernel
theorem dX0_neighbourPairs_7 : decode cX0_neighbourPairs 7 = .ok (.ifCond .ne 7, 3) := by decide +kernel
theorem dX0_neighbourPairs_10 : decode cX0_neighbourPairs 10 = .ok (.iconst 0, 1) := by decide +kernel
theorem dX0_neighbourPairs_11 : decode cX0_neighbourPairs 11 = .ok (.goto 12, 3) := by decide +kernel
theorem dX0_neighbourPairs_14 : decode cX0_neighbourPairs 14 = .ok (.aload_n 0, 1) := by decide +kernel
theorem dX0_neighbourPairs_15 : decode cX0_neighbourPairs 15 = .ok (.getfield 12, 3) := by decide +kernel
theorem dX0_neighbourPairs_18 : decode cX0_neighbourPairs 18 = .ok (.getfield 36, 3) := by decide +kernel
theorem dX0_neighbourPairs_21 : decode cX0_neighbourPairs 21 = .ok (.iconst 1, 1) := by decide +kernel
theorem dX0_neighbourPairs_22 : decode cX0_neighbourPairs 22 = .ok (.isub, 1) := by decide +kernel
theorem dX0_neighbourPairs_23 : decode cX0_neighbourPairs 23 = .ok (.ireturn, 1) := by decide +kernel
set_option maxRecDepth 20000 in
theorem ggX0_sharedByNeighbours_X0_sharedWithNext : GoodIn wsX0_sharedByNeighbours wsX0_sharedWithNext := goodIn_r _ [6, 1, 7, 8, 9, 5, 10, 11, 12, 13, 14, 15, 16, 17, 18, 19, 20, 21, 22, 23, 24, 25, 26, 27, 28, 29, 30] (by decide +kernel) (by decide +kernel)
set_option maxRecDepth 20000 in
theorem gX0_sharedByNeighbours_X0_sharedWithNext : GoodIn wsX0_sharedByNeighbours (wsV RX0 54 RX0 yX0_sharedWithNext wsX0_sharedWithNext) := goodIn_app (goodIn_of _ (by decide +kernel)) ggX0_sharedByNeighbours_X0_sharedWithNext
theorem dX0_sharedByNeighbours_0 : decode cX0_sharedByNeighbours 0 = .ok (.iconst 0, 1) := by decide +kernel
theorem dX0_sharedByNeighbours_1 : decode cX0_sharedByNeighbours 1 = .ok (.istore_n 1, 1) := by decide +kernel
theorem dX0_sharedByNeighbours_2 : decode cX0_sharedByNeighbours 2 = .ok (.iconst 0, 1) := by decide +kernel
theorem dX0_sharedByNeighbours_3 : decode cX0_sharedByNeighbours 3 = .ok (.istore_n 2, 1) := by decide +kernel
theorem dX0_sharedByNeighbours_4 : decode cX0_sharedByNeighbours 4 = .ok (.iload_n 2, 1) := by decide +kernel
theorem dX0_sharedByNeighbours_5 : decode cX0_sharedByNeighbours 5 = .ok (.aload_n 0, 1) := by decide +kernel
theorem dX0_sharedByNeighbours_6 : decode cX0_sharedByNeighbours 6 = .ok (.getfield 12, 3) := by decide +kernel
theorem dX0_sharedByNeighbours_9 : decode cX0_sharedByNeighbours 9 = .ok (.getfield 36, 3) := by decide +kernel
theorem dX0_sharedByNeighbours_12 : decode cX0_sharedByNeighbours 12 = .ok (.if_icmp .ge 17, 3) := by decide +kernel
theorem dX0_sharedByNeighbours_15 : decode cX0_sharedByNeighbours 15 = .ok (.iload_n 1, 1) := by decide +kernel
theorem dX0_sharedByNeighbours_16 : decode cX0_sharedByNeighbours 16 = .ok (.aload_n 0, 1) := by decide +kernel
theorem dX0_sharedByNeighbours_17 : decode cX0_sharedByNeighbours 17 = .ok (.iload_n 2, 1) := by decide +kernel
theorem dX0_sharedByNeighbours_18 : decode cX0_sharedByNeighbours 18 = .ok (.invokevirtual 54, 3) := by decide +kernel
theorem dX0_sharedByNeighbours_21 : decode cX0_sharedByNeighbours 21 = .ok (.iadd, 1) := by decide +kernel
theorem dX0_sharedByNeighbours_22 : decode cX0_sharedByNeighbours 22 = .ok (.istore_n 1, 1) := by decide +kernel
theorem dX0_sharedByNeighbours_23 : decode cX0_sharedByNeighbours 23 = .ok (.iinc 2 1, 3) := by decide +kernel
theorem dX0_sharedByNeighbours_26 : decode cX0_sharedByNeighbours 26 = .ok (.goto (-22), 3) := by decide +kernel
theorem dX0_sharedByNeighbours_29 : decode cX0_sharedByNeighbours 29 = .ok (.iload_n 1, 1) := by decide +kernel
theorem dX0_sharedByNeighbours_30 : decode cX0_sharedByNeighbours 30 = .ok (.ireturn, 1) := by decide +kernel
set_option maxRecDepth 20000 in
theorem ggX0_rowsFirstAt_X0_placeAt : GoodIn wsX0_rowsFirstAt wsX0_placeAt := goodIn_r _ [6, 1, 7, 27, 28, 29, 30] (by decide +kernel) (by decide +kernel)
set_option maxRecDepth 20000 in
theorem gX0_rowsFirstAt_X0_placeAt : GoodIn wsX0_rowsFirstAt (wsV RX0 48 RX0 yX0_placeAt wsX0_placeAt) := goodIn_app (goodIn_of _ (by decide +kernel)) ggX0_rowsFirstAt_X0_placeAt
set_option maxRecDepth 20000 in
theorem ggX0_rowsFirstAt_X0_sharedWithNext : GoodIn wsX0_rowsFirstAt wsX0_sharedWithNext := goodIn_r _ [11, 1, 2, 3, 4, 5, 6, 7, 12, 13, 14, 15, 16, 17, 18, 19, 20, 21, 22, 23, 24, 25, 26, 27, 28, 29, 30] (by decide +kernel) (by decide +kernel)
set_option maxRecDepth 20000 in
theorem gX0_rowsFirstAt_X0_sharedWithNext : GoodIn wsX0_rowsFirstAt (wsV RX0 54 RX0 yX0_sharedWithNext wsX0_sharedWithNext) := goodIn_app (goodIn_of _ (by decide +kernel)) ggX0_rowsFirstAt_X0_sharedWithNext
theorem dX0_rowsFirstAt_0 : decode cX0_rowsFirstAt 0 = .ok (.aload_n 0, 1) := by decide +kernel
theorem dX0_rowsFirstAt_1 : decode cX0_rowsFirstAt 1 = .ok (.getfield 12, 3) := by decide +kernel
theorem dX0_rowsFirstAt_4 : decode cX0_rowsFirstAt 4 = .ok (.getfield 36, 3) := by decide +kernel
theorem dX0_rowsFirstAt_7 : decode cX0_rowsFirstAt 7 = .ok (.aload_n 0, 1) := by decide +kernel
theorem dX0_rowsFirstAt_8 : decode cX0_rowsFirstAt 8 = .ok (.iload_n 1, 1) := by decide +kernel
theorem dX0_rowsFirstAt_9 : decode cX0_rowsFirstAt 9 = .ok (.invokevirtual 48, 3) := by decide +kernel
theorem dX0_rowsFirstAt_12 : decode cX0_rowsFirstAt 12 = .ok (.isub, 1) := by decide +kernel
theorem dX0_rowsFirstAt_13 : decode cX0_rowsFirstAt 13 = .ok (.aload_n 0, 1) := by decide +kernel
theorem dX0_rowsFirstAt_14 : decode cX0_rowsFirstAt 14 = .ok (.iload_n 1, 1) := by decide +kernel
theorem dX0_rowsFirstAt_15 : decode cX0_rowsFirstAt 15 = .ok (.iconst 1, 1) := by decide +kernel
theorem dX0_rowsFirstAt_16 : decode cX0_rowsFirstAt 16 = .ok (.isub, 1) := by decide +kernel
theorem dX0_rowsFirstAt_17 : decode cX0_rowsFirstAt 17 = .ok (.invokevirtual 54, 3) := by decide +kernel
theorem dX0_rowsFirstAt_20 : decode cX0_rowsFirstAt 20 = .ok (.isub, 1) := by decide +kernel
theorem dX0_rowsFirstAt_21 : decode cX0_rowsFirstAt 21 = .ok (.ireturn, 1) := by decide +kernel
set_option maxRecDepth 20000 in
theorem ggX0_differentRows_X0_rowsFirstAt : GoodIn wsX0_differentRows wsX0_rowsFirstAt := goodIn_r _ [6, 1, 7, 8, 9, 5, 10, 11, 12, 13, 14, 15, 16, 17, 18, 19, 20, 21, 22, 23, 24, 25, 26, 27, 28, 29, 30, 31, 32, 33, 34] (by decide +kernel) (by decide +kernel)
set_option maxRecDepth 20000 in
theorem gX0_differentRows_X0_rowsFirstAt : GoodIn wsX0_differentRows (wsV RX0 57 RX0 yX0_rowsFirstAt wsX0_rowsFirstAt) := goodIn_app (goodIn_of _ (by decide +kernel)) ggX0_differentRows_X0_rowsFirstAt
theorem dX0_differentRows_0 : decode cX0_differentRows 0 = .ok (.iconst 0, 1) := by decide +kernel
theorem dX0_differentRows_1 : decode cX0_differentRows 1 = .ok (.istore_n 1, 1) := by decide +kernel
theorem dX0_differentRows_2 : decode cX0_differentRows 2 = .ok (.iconst 0, 1) := by decide +kernel
theorem dX0_differentRows_3 : decode cX0_differentRows 3 = .ok (.istore_n 2, 1) := by decide +kernel
theorem dX0_differentRows_4 : decode cX0_differentRows 4 = .ok (.iload_n 2, 1) := by decide +kernel
theorem dX0_differentRows_5 : decode cX0_differentRows 5 = .ok (.aload_n 0, 1) := by decide +kernel
theorem dX0_differentRows_6 : decode cX0_differentRows 6 = .ok (.getfield 12, 3) := by decide +kernel
theorem dX0_differentRows_9 : decode cX0_differentRows 9 = .ok (.getfield 36, 3) := by decide +kernel
theorem dX0_differentRows_12 : decode cX0_differentRows 12 = .ok (.if_icmp .ge 17, 3) := by decide +kernel
theorem dX0_differentRows_15 : decode cX0_differentRows 15 = .ok (.iload_n 1, 1) := by decide +kernel
theorem dX0_differentRows_16 : decode cX0_differentRows 16 = .ok (.aload_n 0, 1) := by decide +kernel
theorem dX0_differentRows_17 : decode cX0_differentRows 17 = .ok (.iload_n 2, 1) := by decide +kernel
theorem dX0_differentRows_18 : decode cX0_differentRows 18 = .ok (.invokevirtual 57, 3) := by decide +kernel
theorem dX0_differentRows_21 : decode cX0_differentRows 21 = .ok (.iadd, 1) := by decide +kernel
theorem dX0_differentRows_22 : decode cX0_differentRows 22 = .ok (.istore_n 1, 1) := by decide +kernel
theorem dX0_differentRows_23 : decode cX0_differentRows 23 = .ok (.iinc 2 1, 3) := by decide +kernel
theorem dX0_differentRows_26 : decode cX0_differentRows 26 = .ok (.goto (-22), 3) := by decide +kernel
theorem dX0_differentRows_29 : decode cX0_differentRows 29 = .ok (.iload_n 1, 1) := by decide +kernel
theorem dX0_differentRows_30 : decode cX0_differentRows 30 = .ok (.ireturn, 1) := by decide +kernel
set_option maxRecDepth 20000 in
theorem ggX0_rowOfNumber_X0_rowsFirstAt : GoodIn wsX0_rowOfNumber wsX0_rowsFirstAt := goodIn_r _ [6, 1, 7, 8, 9, 5, 10, 11, 12, 13, 14, 15, 16, 17, 18, 19, 20, 21, 22, 23, 24, 25, 26, 27, 28, 29, 30, 40, 41, 42, 43] (by decide +kernel) (by decide +kernel)
set_option maxRecDepth 20000 in
theorem gX0_rowOfNumber_X0_rowsFirstAt : GoodIn wsX0_rowOfNumber (wsV RX0 57 RX0 yX0_rowsFirstAt wsX0_rowsFirstAt) := goodIn_app (goodIn_of _ (by decide +kernel)) ggX0_rowOfNumber_X0_rowsFirstAt
set_option maxRecDepth 20000 in
theorem ggX0_rowOfNumber_X0_sharedWithNext : GoodIn wsX0_rowOfNumber wsX0_sharedWithNext := goodIn_r _ [15, 1, 7, 8, 9, 5, 10, 11, 16, 17, 18, 19, 20, 21, 22, 23, 24, 25, 26, 27, 28, 29, 30, 40, 41, 42, 43] (by decide +kernel) (by decide +kernel)
set_option maxRecDepth 20000 in
theorem gX0_rowOfNumber_X0_sharedWithNext : GoodIn wsX0_rowOfNumber (wsV RX0 54 RX0 yX0_sharedWithNext wsX0_sharedWithNext) := goodIn_app (goodIn_of _ (by decide +kernel)) ggX0_rowOfNumber_X0_sharedWithNext
set_option maxRecDepth 20000 in
theorem ggX0_rowOfNumber_X0_placeAt : GoodIn wsX0_rowOfNumber wsX0_placeAt := goodIn_r _ [10, 1, 11, 40, 41, 42, 43] (by decide +kernel) (by decide +kernel)
set_option maxRecDepth 20000 in
theorem gX0_rowOfNumber_X0_placeAt : GoodIn wsX0_rowOfNumber (wsV RX0 48 RX0 yX0_placeAt wsX0_placeAt) := goodIn_app (goodIn_of _ (by decide +kernel)) ggX0_rowOfNumber_X0_placeAt
set_option maxRecDepth 20000 in
theorem ggX0_rowOfNumber_X1_firstPlaceOf : GoodIn wsX0_rowOfNumber wsX1_firstPlaceOf := goodIn_r _ [34, 21, 35, 36, 37, 19, 38, 39, 17, 18, 20, 22, 23, 24, 25, 26, 27, 28, 29, 30, 42, 43] (by decide +kernel) (by decide +kernel)
set_option maxRecDepth 20000 in
theorem gX0_rowOfNumber_X1_firstPlaceOf : GoodIn wsX0_rowOfNumber (wsV RX0 60 RX1 yX1_firstPlaceOf wsX1_firstPlaceOf) := goodIn_app (goodIn_of _ (by decide +kernel)) ggX0_rowOfNumber_X1_firstPlaceOf
theorem dX0_rowOfNumber_0 : decode cX0_rowOfNumber 0 = .ok (.iload_n 1, 1) := by decide +kernel
theorem dX0_rowOfNumber_1 : decode cX0_rowOfNumber 1 = .ok (.istore_n 2, 1) := by decide +kernel
theorem dX0_rowOfNumber_2 : decode cX0_rowOfNumber 2 = .ok (.iconst 0, 1) := by decide +kernel
theorem dX0_rowOfNumber_3 : decode cX0_rowOfNumber 3 = .ok (.istore_n 3, 1) := by decide +kernel
theorem dX0_rowOfNumber_4 : decode cX0_rowOfNumber 4 = .ok (.iload_n 3, 1) := by decide +kernel
theorem dX0_rowOfNumber_5 : decode cX0_rowOfNumber 5 = .ok (.aload_n 0, 1) := by decide +kernel
theorem dX0_rowOfNumber_6 : decode cX0_rowOfNumber 6 = .ok (.getfield 12, 3) := by decide +kernel
theorem dX0_rowOfNumber_9 : decode cX0_rowOfNumber 9 = .ok (.getfield 36, 3) := by decide +kernel
theorem dX0_rowOfNumber_12 : decode cX0_rowOfNumber 12 = .ok (.if_icmp .ge 65, 3) := by decide +kernel
theorem dX0_rowOfNumber_15 : decode cX0_rowOfNumber 15 = .ok (.aload_n 0, 1) := by decide +kernel
theorem dX0_rowOfNumber_16 : decode cX0_rowOfNumber 16 = .ok (.iload_n 3, 1) := by decide +kernel
theorem dX0_rowOfNumber_17 : decode cX0_rowOfNumber 17 = .ok (.invokevirtual 57, 3) := by decide +kernel
theorem dX0_rowOfNumber_20 : decode cX0_rowOfNumber 20 = .ok (.istore 4, 2) := by decide +kernel
theorem dX0_rowOfNumber_22 : decode cX0_rowOfNumber 22 = .ok (.iload_n 2, 1) := by decide +kernel
theorem dX0_rowOfNumber_23 : decode cX0_rowOfNumber 23 = .ok (.iload 4, 2) := by decide +kernel
theorem dX0_rowOfNumber_25 : decode cX0_rowOfNumber 25 = .ok (.if_icmp .ge 41, 3) := by decide +kernel
theorem dX0_rowOfNumber_28 : decode cX0_rowOfNumber 28 = .ok (.aload_n 0, 1) := by decide +kernel
theorem dX0_rowOfNumber_29 : decode cX0_rowOfNumber 29 = .ok (.iload_n 3, 1) := by decide +kernel
theorem dX0_rowOfNumber_30 : decode cX0_rowOfNumber 30 = .ok (.iconst 1, 1) := by decide +kernel
theorem dX0_rowOfNumber_31 : decode cX0_rowOfNumber 31 = .ok (.isub, 1) := by decide +kernel
theorem dX0_rowOfNumber_32 : decode cX0_rowOfNumber 32 = .ok (.invokevirtual 54, 3) := by decide +kernel
theorem dX0_rowOfNumber_35 : decode cX0_rowOfNumber 35 = .ok (.iload_n 2, 1) := by decide +kernel
theorem dX0_rowOfNumber_36 : decode cX0_rowOfNumber 36 = .ok (.iadd, 1) := by decide +kernel
theorem dX0_rowOfNumber_37 : decode cX0_rowOfNumber 37 = .ok (.iconst 1, 1) := by decide +kernel
theorem dX0_rowOfNumber_38 : decode cX0_rowOfNumber 38 = .ok (.iadd, 1) := by decide +kernel
theorem dX0_rowOfNumber_39 : decode cX0_rowOfNumber 39 = .ok (.istore 5, 2) := by decide +kernel
theorem dX0_rowOfNumber_41 : decode cX0_rowOfNumber 41 = .ok (.bipush 64, 2) := by decide +kernel
theorem dX0_rowOfNumber_43 : decode cX0_rowOfNumber 43 = .ok (.aload_n 0, 1) := by decide +kernel
theorem dX0_rowOfNumber_44 : decode cX0_rowOfNumber 44 = .ok (.getfield 12, 3) := by decide +kernel
theorem dX0_rowOfNumber_47 : decode cX0_rowOfNumber 47 = .ok (.aload_n 0, 1) := by decide +kernel
theorem dX0_rowOfNumber_48 : decode cX0_rowOfNumber 48 = .ok (.getfield 12, 3) := by decide +kernel
theorem dX0_rowOfNumber_51 : decode cX0_rowOfNumber 51 = .ok (.aload_n 0, 1) := by decide +kernel
theorem dX0_rowOfNumber_52 : decode cX0_rowOfNumber 52 = .ok (.iload_n 3, 1) := by decide +kernel
theorem dX0_rowOfNumber_53 : decode cX0_rowOfNumber 53 = .ok (.invokevirtual 48, 3) := by decide +kernel
theorem dX0_rowOfNumber_56 : decode cX0_rowOfNumber 56 = .ok (.iload 5, 2) := by decide +kernel
theorem dX0_rowOfNumber_58 : decode cX0_rowOfNumber 58 = .ok (.invokevirtual 60, 3) := by decide +kernel
theorem dX0_rowOfNumber_61 : decode cX0_rowOfNumber 61 = .ok (.imul, 1) := by decide +kernel
theorem dX0_rowOfNumber_62 : decode cX0_rowOfNumber 62 = .ok (.iload 5, 2) := by decide +kernel
theorem dX0_rowOfNumber_64 : decode cX0_rowOfNumber 64 = .ok (.iadd, 1) := by decide +kernel
theorem dX0_rowOfNumber_65 : decode cX0_rowOfNumber 65 = .ok (.ireturn, 1) := by decide +kernel
theorem dX0_rowOfNumber_66 : decode cX0_rowOfNumber 66 = .ok (.iload_n 2, 1) := by decide +kernel
theorem dX0_rowOfNumber_67 : decode cX0_rowOfNumber 67 = .ok (.iload 4, 2) := by decide +kernel
theorem dX0_rowOfNumber_69 : decode cX0_rowOfNumber 69 = .ok (.isub, 1) := by decide +kernel
theorem dX0_rowOfNumber_70 : decode cX0_rowOfNumber 70 = .ok (.istore_n 2, 1) := by decide +kernel
theorem dX0_rowOfNumber_71 : decode cX0_rowOfNumber 71 = .ok (.iinc 3 1, 3) := by decide +kernel
theorem dX0_rowOfNumber_74 : decode cX0_rowOfNumber 74 = .ok (.goto (-70), 3) := by decide +kernel
theorem dX0_rowOfNumber_77 : decode cX0_rowOfNumber 77 = .ok (.iconst (-1), 1) := by decide +kernel
theorem dX0_rowOfNumber_78 : decode cX0_rowOfNumber 78 = .ok (.ireturn, 1) := by decide +kernel
set_option maxRecDepth 20000 in
theorem ggX0_repeatRank_X0_sharedWithNext : GoodIn wsX0_repeatRank wsX0_sharedWithNext := goodIn_r _ [6, 1, 7, 8, 9, 5, 10, 11, 12, 13, 14, 15, 16, 17, 18, 19, 20, 21, 22, 23, 24, 25, 26, 27, 28, 29, 30] (by decide +kernel) (by decide +kernel)
set_option maxRecDepth 20000 in
theorem gX0_repeatRank_X0_sharedWithNext : GoodIn wsX0_repeatRank (wsV RX0 54 RX0 yX0_sharedWithNext wsX0_sharedWithNext) := goodIn_app (goodIn_of _ (by decide +kernel)) ggX0_repeatRank_X0_sharedWithNext
theorem dX0_repeatRank_0 : decode cX0_repeatRank 0 = .ok (.iconst (-1), 1) := by decide +kernel
theorem dX0_repeatRank_1 : decode cX0_repeatRank 1 = .ok (.istore_n 1, 1) := by decide +kernel
theorem dX0_repeatRank_2 : decode cX0_repeatRank 2 = .ok (.iconst 0, 1) := by decide +kernel
theorem dX0_repeatRank_3 : decode cX0_repeatRank 3 = .ok (.istore_n 2, 1) := by decide +kernel
theorem dX0_repeatRank_4 : decode cX0_repeatRank 4 = .ok (.iconst 0, 1) := by decide +kernel
theorem dX0_repeatRank_5 : decode cX0_repeatRank 5 = .ok (.istore_n 3, 1) := by decide +kernel
theorem dX0_repeatRank_6 : decode cX0_repeatRank 6 = .ok (.iload_n 3, 1) := by decide +kernel
theorem dX0_repeatRank_7 : decode cX0_repeatRank 7 = .ok (.aload_n 0, 1) := by decide +kernel
theorem dX0_repeatRank_8 : decode cX0_repeatRank 8 = .ok (.getfield 12, 3) := by decide +kernel
theorem dX0_repeatRank_11 : decode cX0_repeatRank 11 = .ok (.getfield 36, 3) := by decide +kernel
theorem dX0_repeatRank_14 : decode cX0_repeatRank 14 = .ok (.if_icmp .ge 27, 3) := by decide +kernel
theorem dX0_repeatRank_17 : decode cX0_repeatRank 17 = .ok (.aload_n 0, 1) := by decide +kernel
theorem dX0_repeatRank_18 : decode cX0_repeatRank 18 = .ok (.iload_n 3, 1) := by decide +kernel
theorem dX0_repeatRank_19 : decode cX0_repeatRank 19 = .ok (.invokevirtual 54, 3) := by decide +kernel
theorem dX0_repeatRank_22 : decode cX0_repeatRank 22 = .ok (.istore 4, 2) := by decide +kernel
theorem dX0_repeatRank_24 : decode cX0_repeatRank 24 = .ok (.iload 4, 2) := by decide +kernel
theorem dX0_repeatRank_26 : decode cX0_repeatRank 26 = .ok (.iload_n 2, 1) := by decide +kernel
theorem dX0_repeatRank_27 : decode cX0_repeatRank 27 = .ok (.if_icmp .le 8, 3) := by decide +kernel
theorem dX0_repeatRank_30 : decode cX0_repeatRank 30 = .ok (.iload_n 3, 1) := by decide +kernel
theorem dX0_repeatRank_31 : decode cX0_repeatRank 31 = .ok (.istore_n 1, 1) := by decide +kernel
theorem dX0_repeatRank_32 : decode cX0_repeatRank 32 = .ok (.iload 4, 2) := by decide +kernel
theorem dX0_repeatRank_34 : decode cX0_repeatRank 34 = .ok (.istore_n 2, 1) := by decide +kernel
theorem dX0_repeatRank_35 : decode cX0_repeatRank 35 = .ok (.iinc 3 1, 3) := by decide +kernel
theorem dX0_repeatRank_38 : decode cX0_repeatRank 38 = .ok (.goto (-32), 3) := by decide +kernel
theorem dX0_repeatRank_41 : decode cX0_repeatRank 41 = .ok (.iload_n 1, 1) := by decide +kernel
theorem dX0_repeatRank_42 : decode cX0_repeatRank 42 = .ok (.ireturn, 1) := by decide +kernel
theorem dX1_init_0 : decode cX1_init 0 = .ok (.aload_n 0, 1) := by decide +kernel
theorem dX1_init_1 : decode cX1_init 1 = .ok (.invokespecial 3, 3) := by decide +kernel
theorem dX1_init_4 : decode cX1_init 4 = .ok (.aload_n 0, 1) := by decide +kernel
theorem dX1_init_5 : decode cX1_init 5 = .ok (.bipush 40, 2) := by decide +kernel
theorem dX1_init_7 : decode cX1_init 7 = .ok (.newarray .int, 2) := by decide +kernel
theorem dX1_init_9 : decode cX1_init 9 = .ok (.putfield 9, 3) := by decide +kernel
theorem dX1_init_12 : decode cX1_init 12 = .ok (.aload_n 0, 1) := by decide +kernel
theorem dX1_init_13 : decode cX1_init 13 = .ok (.iconst 0, 1) := by decide +kernel
theorem dX1_init_14 : decode cX1_init 14 = .ok (.putfield 15, 3) := by decide +kernel
theorem dX1_init_17 : decode cX1_init 17 = .ok (.return_, 1) := by decide +kernel
theorem dX1_at_0 : decode cX1_at 0 = .ok (.iload_n 1, 1) := by decide +kernel
theorem dX1_at_1 : decode cX1_at 1 = .ok (.ifCond .lt 20, 3) := by decide +kernel
theorem dX1_at_4 : decode cX1_at 4 = .ok (.iload_n 1, 1) := by decide +kernel
theorem dX1_at_5 : decode cX1_at 5 = .ok (.aload_n 0, 1) := by decide +kernel
theorem dX1_at_6 : decode cX1_at 6 = .ok (.getfield 15, 3) := by decide +kernel
theorem dX1_at_9 : decode cX1_at 9 = .ok (.if_icmp .ge 12, 3) := by decide +kernel
theorem dX1_at_12 : decode cX1_at 12 = .ok (.iload_n 1, 1) := by decide +kernel
theorem dX1_at_13 : decode cX1_at 13 = .ok (.aload_n 0, 1) := by decide +kernel
theorem dX1_at_14 : decode cX1_at 14 = .ok (.getfield 9, 3) := by decide +kernel
theorem dX1_at_17 : decode cX1_at 17 = .ok (.arraylength, 1) := by decide +kernel
theorem dX1_at_18 : decode cX1_at 18 = .ok (.if_icmp .lt 5, 3) := by decide +kernel
theorem dX1_at_21 : decode cX1_at 21 = .ok (.iconst (-1), 1) := by decide +kernel
theorem dX1_at_22 : decode cX1_at 22 = .ok (.ireturn, 1) := by decide +kernel
theorem dX1_at_23 : decode cX1_at 23 = .ok (.aload_n 0, 1) := by decide +kernel
theorem dX1_at_24 : decode cX1_at 24 = .ok (.getfield 9, 3) := by decide +kernel
theorem dX1_at_27 : decode cX1_at 27 = .ok (.iload_n 1, 1) := by decide +kernel
theorem dX1_at_28 : decode cX1_at 28 = .ok (.iaload, 1) := by decide +kernel
theorem dX1_at_29 : decode cX1_at 29 = .ok (.ireturn, 1) := by decide +kernel
theorem dX1_append_0 : decode cX1_append 0 = .ok (.aload_n 0, 1) := by decide +kernel
theorem dX1_append_1 : decode cX1_append 1 = .ok (.getfield 15, 3) := by decide +kernel
theorem dX1_append_4 : decode cX1_append 4 = .ok (.ifCond .lt 35, 3) := by decide +kernel
theorem dX1_append_7 : decode cX1_append 7 = .ok (.aload_n 0, 1) := by decide +kernel
theorem dX1_append_8 : decode cX1_append 8 = .ok (.getfield 15, 3) := by decide +kernel
theorem dX1_append_11 : decode cX1_append 11 = .ok (.aload_n 0, 1) := by decide +kernel
theorem dX1_append_12 : decode cX1_append 12 = .ok (.getfield 9, 3) := by decide +kernel
theorem dX1_append_15 : decode cX1_append 15 = .ok (.arraylength, 1) := by decide +kernel
theorem dX1_append_16 : decode cX1_append 16 = .ok (.if_icmp .ge 23, 3) := by decide +kernel
theorem dX1_append_19 : decode cX1_append 19 = .ok (.aload_n 0, 1) := by decide +kernel
theorem dX1_append_20 : decode cX1_append 20 = .ok (.getfield 9, 3) := by decide +kernel
theorem dX1_append_23 : decode cX1_append 23 = .ok (.aload_n 0, 1) := by decide +kernel
theorem dX1_append_24 : decode cX1_append 24 = .ok (.getfield 15, 3) := by decide +kernel
theorem dX1_append_27 : decode cX1_append 27 = .ok (.iload_n 1, 1) := by decide +kernel
theorem dX1_append_28 : decode cX1_append 28 = .ok (.iastore, 1) := by decide +kernel
theorem dX1_append_29 : decode cX1_append 29 = .ok (.aload_n 0, 1) := by decide +kernel
theorem dX1_append_30 : decode cX1_append 30 = .ok (.dup, 1) := by decide +kernel
theorem dX1_append_31 : decode cX1_append 31 = .ok (.getfield 15, 3) := by decide +kernel
theorem dX1_append_34 : decode cX1_append 34 = .ok (.iconst 1, 1) := by decide +kernel
theorem dX1_append_35 : decode cX1_append 35 = .ok (.iadd, 1) := by decide +kernel
theorem dX1_append_36 : decode cX1_append 36 = .ok (.putfield 15, 3) := by decide +kernel
theorem dX1_append_39 : decode cX1_append 39 = .ok (.return_, 1) := by decide +kernel
theorem dX1_drop_0 : decode cX1_drop 0 = .ok (.aload_n 0, 1) := by decide +kernel
theorem dX1_drop_1 : decode cX1_drop 1 = .ok (.iload_n 1, 1) := by decide +kernel
theorem dX1_drop_2 : decode cX1_drop 2 = .ok (.aload_n 0, 1) := by decide +kernel
theorem dX1_drop_3 : decode cX1_drop 3 = .ok (.getfield 15, 3) := by decide +kernel
theorem dX1_drop_6 : decode cX1_drop 6 = .ok (.if_icmp .ge 12, 3) := by decide +kernel
theorem dX1_drop_9 : decode cX1_drop 9 = .ok (.aload_n 0, 1) := by decide +kernel
theorem dX1_drop_10 : decode cX1_drop 10 = .ok (.getfield 15, 3) := by decide +kernel
theorem dX1_drop_13 : decode cX1_drop 13 = .ok (.iload_n 1, 1) := by decide +kernel
theorem dX1_drop_14 : decode cX1_drop 14 = .ok (.isub, 1) := by decide +kernel
theorem dX1_drop_15 : decode cX1_drop 15 = .ok (.goto 4, 3) := by decide +kernel
theorem dX1_drop_18 : decode cX1_drop 18 = .ok (.iconst 0, 1) := by decide +kernel
theorem dX1_drop_19 : decode cX1_drop 19 = .ok (.putfield 15, 3) := by decide +kernel
theorem dX1_drop_22 : decode cX1_drop 22 = .ok (.return_, 1) := by decide +kernel
set_option maxRecDepth 20000 in
theorem ggX1_sharedWith_X1_at : GoodIn wsX1_sharedWith wsX1_at := goodIn_r _ [10, 1, 11, 12, 13] (by decide +kernel) (by decide +kernel)
set_option maxRecDepth 20000 in
theorem gX1_sharedWith_X1_at : GoodIn wsX1_sharedWith (wsV RX1 25 RX1 yX1_at wsX1_at) := goodIn_app (goodIn_of _ (by decide +kernel)) ggX1_sharedWith_X1_at
theorem dX1_sharedWith_0 : decode cX1_sharedWith 0 = .ok (.aload_n 0, 1) := by decide +kernel
theorem dX1_sharedWith_1 : decode cX1_sharedWith 1 = .ok (.getfield 15, 3) := by decide +kernel
theorem dX1_sharedWith_4 : decode cX1_sharedWith 4 = .ok (.iload_n 1, 1) := by decide +kernel
theorem dX1_sharedWith_5 : decode cX1_sharedWith 5 = .ok (.isub, 1) := by decide +kernel
theorem dX1_sharedWith_6 : decode cX1_sharedWith 6 = .ok (.aload_n 2, 1) := by decide +kernel
theorem dX1_sharedWith_7 : decode cX1_sharedWith 7 = .ok (.getfield 15, 3) := by decide +kernel
theorem dX1_sharedWith_10 : decode cX1_sharedWith 10 = .ok (.iload_n 3, 1) := by decide +kernel
theorem dX1_sharedWith_11 : decode cX1_sharedWith 11 = .ok (.isub, 1) := by decide +kernel
theorem dX1_sharedWith_12 : decode cX1_sharedWith 12 = .ok (.invokestatic 19, 3) := by decide +kernel
theorem dX1_sharedWith_15 : decode cX1_sharedWith 15 = .ok (.istore 4, 2) := by decide +kernel
theorem dX1_sharedWith_17 : decode cX1_sharedWith 17 = .ok (.iconst 0, 1) := by decide +kernel
theorem dX1_sharedWith_18 : decode cX1_sharedWith 18 = .ok (.istore 5, 2) := by decide +kernel
theorem dX1_sharedWith_20 : decode cX1_sharedWith 20 = .ok (.iload 5, 2) := by decide +kernel
theorem dX1_sharedWith_22 : decode cX1_sharedWith 22 = .ok (.iload 4, 2) := by decide +kernel
theorem dX1_sharedWith_24 : decode cX1_sharedWith 24 = .ok (.if_icmp .ge 28, 3) := by decide +kernel
theorem dX1_sharedWith_27 : decode cX1_sharedWith 27 = .ok (.aload_n 0, 1) := by decide +kernel
theorem dX1_sharedWith_28 : decode cX1_sharedWith 28 = .ok (.iload_n 1, 1) := by decide +kernel
theorem dX1_sharedWith_29 : decode cX1_sharedWith 29 = .ok (.iload 5, 2) := by decide +kernel
theorem dX1_sharedWith_31 : decode cX1_sharedWith 31 = .ok (.iadd, 1) := by decide +kernel
theorem dX1_sharedWith_32 : decode cX1_sharedWith 32 = .ok (.invokevirtual 25, 3) := by decide +kernel
theorem dX1_sharedWith_35 : decode cX1_sharedWith 35 = .ok (.aload_n 2, 1) := by decide +kernel
theorem dX1_sharedWith_36 : decode cX1_sharedWith 36 = .ok (.iload_n 3, 1) := by decide +kernel
theorem dX1_sharedWith_37 : decode cX1_sharedWith 37 = .ok (.iload 5, 2) := by decide +kernel
theorem dX1_sharedWith_39 : decode cX1_sharedWith 39 = .ok (.iadd, 1) := by decide +kernel
theorem dX1_sharedWith_40 : decode cX1_sharedWith 40 = .ok (.invokevirtual 25, 3) := by decide +kernel
theorem dX1_sharedWith_43 : decode cX1_sharedWith 43 = .ok (.if_icmp .ne 9, 3) := by decide +kernel
theorem dX1_sharedWith_46 : decode cX1_sharedWith 46 = .ok (.iinc 5 1, 3) := by decide +kernel
theorem dX1_sharedWith_49 : decode cX1_sharedWith 49 = .ok (.goto (-29), 3) := by decide +kernel
theorem dX1_sharedWith_52 : decode cX1_sharedWith 52 = .ok (.iload 5, 2) := by decide +kernel
theorem dX1_sharedWith_54 : decode cX1_sharedWith 54 = .ok (.ireturn, 1) := by decide +kernel
set_option maxRecDepth 20000 in
theorem ggX1_difference_X1_sharedWith : GoodIn wsX1_difference wsX1_sharedWith := goodIn_r _ [5, 6, 7, 8, 9, 10, 11, 12, 13, 4, 14, 15, 16, 17] (by decide +kernel) (by decide +kernel)
set_option maxRecDepth 20000 in
theorem gX1_difference_X1_sharedWith : GoodIn wsX1_difference (wsV RX1 29 RX1 yX1_sharedWith wsX1_sharedWith) := goodIn_app (goodIn_of _ (by decide +kernel)) ggX1_difference_X1_sharedWith
set_option maxRecDepth 20000 in
theorem ggX1_difference_X1_at : GoodIn wsX1_difference wsX1_at := goodIn_r _ [14, 6, 15, 16, 17] (by decide +kernel) (by decide +kernel)
set_option maxRecDepth 20000 in
theorem gX1_difference_X1_at : GoodIn wsX1_difference (wsV RX1 25 RX1 yX1_at wsX1_at) := goodIn_app (goodIn_of _ (by decide +kernel)) ggX1_difference_X1_at
theorem dX1_difference_0 : decode cX1_difference 0 = .ok (.aload_n 0, 1) := by decide +kernel
theorem dX1_difference_1 : decode cX1_difference 1 = .ok (.iload_n 1, 1) := by decide +kernel
theorem dX1_difference_2 : decode cX1_difference 2 = .ok (.aload_n 2, 1) := by decide +kernel
theorem dX1_difference_3 : decode cX1_difference 3 = .ok (.iload_n 3, 1) := by decide +kernel
theorem dX1_difference_4 : decode cX1_difference 4 = .ok (.invokevirtual 29, 3) := by decide +kernel
theorem dX1_difference_7 : decode cX1_difference 7 = .ok (.istore 4, 2) := by decide +kernel
theorem dX1_difference_9 : decode cX1_difference 9 = .ok (.aload_n 0, 1) := by decide +kernel
theorem dX1_difference_10 : decode cX1_difference 10 = .ok (.iload_n 1, 1) := by decide +kernel
theorem dX1_difference_11 : decode cX1_difference 11 = .ok (.iload 4, 2) := by decide +kernel
theorem dX1_difference_13 : decode cX1_difference 13 = .ok (.iadd, 1) := by decide +kernel
theorem dX1_difference_14 : decode cX1_difference 14 = .ok (.invokevirtual 25, 3) := by decide +kernel
theorem dX1_difference_17 : decode cX1_difference 17 = .ok (.istore 5, 2) := by decide +kernel
theorem dX1_difference_19 : decode cX1_difference 19 = .ok (.aload_n 2, 1) := by decide +kernel
theorem dX1_difference_20 : decode cX1_difference 20 = .ok (.iload_n 3, 1) := by decide +kernel
theorem dX1_difference_21 : decode cX1_difference 21 = .ok (.iload 4, 2) := by decide +kernel
theorem dX1_difference_23 : decode cX1_difference 23 = .ok (.iadd, 1) := by decide +kernel
theorem dX1_difference_24 : decode cX1_difference 24 = .ok (.invokevirtual 25, 3) := by decide +kernel
theorem dX1_difference_27 : decode cX1_difference 27 = .ok (.istore 6, 2) := by decide +kernel
theorem dX1_difference_29 : decode cX1_difference 29 = .ok (.iload 5, 2) := by decide +kernel
theorem dX1_difference_31 : decode cX1_difference 31 = .ok (.iload 6, 2) := by decide +kernel
theorem dX1_difference_33 : decode cX1_difference 33 = .ok (.if_icmp .ne 5, 3) := by decide +kernel
theorem dX1_difference_36 : decode cX1_difference 36 = .ok (.iconst 0, 1) := by decide +kernel
theorem dX1_difference_37 : decode cX1_difference 37 = .ok (.ireturn, 1) := by decide +kernel
theorem dX1_difference_38 : decode cX1_difference 38 = .ok (.iload 5, 2) := by decide +kernel
theorem dX1_difference_40 : decode cX1_difference 40 = .ok (.iload 6, 2) := by decide +kernel
theorem dX1_difference_42 : decode cX1_difference 42 = .ok (.if_icmp .ge 11, 3) := by decide +kernel
theorem dX1_difference_45 : decode cX1_difference 45 = .ok (.iload 4, 2) := by decide +kernel
theorem dX1_difference_47 : decode cX1_difference 47 = .ok (.iconst 1, 1) := by decide +kernel
theorem dX1_difference_48 : decode cX1_difference 48 = .ok (.iadd, 1) := by decide +kernel
theorem dX1_difference_49 : decode cX1_difference 49 = .ok (.ineg, 1) := by decide +kernel
theorem dX1_difference_50 : decode cX1_difference 50 = .ok (.goto 7, 3) := by decide +kernel
theorem dX1_difference_53 : decode cX1_difference 53 = .ok (.iload 4, 2) := by decide +kernel
theorem dX1_difference_55 : decode cX1_difference 55 = .ok (.iconst 1, 1) := by decide +kernel
theorem dX1_difference_56 : decode cX1_difference 56 = .ok (.iadd, 1) := by decide +kernel
theorem dX1_difference_57 : decode cX1_difference 57 = .ok (.ireturn, 1) := by decide +kernel
set_option maxRecDepth 20000 in
theorem ggX1_mostSharedWith_X1_sharedWith : GoodIn wsX1_mostSharedWith wsX1_sharedWith := goodIn_r _ [10, 1, 11, 12, 4, 13, 14, 15, 16, 9, 17, 18, 19, 20] (by decide +kernel) (by decide +kernel)
set_option maxRecDepth 20000 in
theorem gX1_mostSharedWith_X1_sharedWith : GoodIn wsX1_mostSharedWith (wsV RX1 29 RX1 yX1_sharedWith wsX1_sharedWith) := goodIn_app (goodIn_of _ (by decide +kernel)) ggX1_mostSharedWith_X1_sharedWith
theorem dX1_mostSharedWith_0 : decode cX1_mostSharedWith 0 = .ok (.iload_n 1, 1) := by decide +kernel
theorem dX1_mostSharedWith_1 : decode cX1_mostSharedWith 1 = .ok (.ifCond .ge 5, 3) := by decide +kernel
theorem dX1_mostSharedWith_4 : decode cX1_mostSharedWith 4 = .ok (.iconst 0, 1) := by decide +kernel
theorem dX1_mostSharedWith_5 : decode cX1_mostSharedWith 5 = .ok (.ireturn, 1) := by decide +kernel
theorem dX1_mostSharedWith_6 : decode cX1_mostSharedWith 6 = .ok (.iconst 0, 1) := by decide +kernel
theorem dX1_mostSharedWith_7 : decode cX1_mostSharedWith 7 = .ok (.istore_n 3, 1) := by decide +kernel
theorem dX1_mostSharedWith_8 : decode cX1_mostSharedWith 8 = .ok (.iconst 0, 1) := by decide +kernel
theorem dX1_mostSharedWith_9 : decode cX1_mostSharedWith 9 = .ok (.istore 4, 2) := by decide +kernel
theorem dX1_mostSharedWith_11 : decode cX1_mostSharedWith 11 = .ok (.iload 4, 2) := by decide +kernel
theorem dX1_mostSharedWith_13 : decode cX1_mostSharedWith 13 = .ok (.iload_n 3, 1) := by decide +kernel
theorem dX1_mostSharedWith_14 : decode cX1_mostSharedWith 14 = .ok (.iadd, 1) := by decide +kernel
theorem dX1_mostSharedWith_15 : decode cX1_mostSharedWith 15 = .ok (.aload_n 2, 1) := by decide +kernel
theorem dX1_mostSharedWith_16 : decode cX1_mostSharedWith 16 = .ok (.getfield 15, 3) := by decide +kernel
theorem dX1_mostSharedWith_19 : decode cX1_mostSharedWith 19 = .ok (.if_icmp .ge 22, 3) := by decide +kernel
theorem dX1_mostSharedWith_22 : decode cX1_mostSharedWith 22 = .ok (.iload_n 3, 1) := by decide +kernel
theorem dX1_mostSharedWith_23 : decode cX1_mostSharedWith 23 = .ok (.aload_n 0, 1) := by decide +kernel
theorem dX1_mostSharedWith_24 : decode cX1_mostSharedWith 24 = .ok (.iload_n 1, 1) := by decide +kernel
theorem dX1_mostSharedWith_25 : decode cX1_mostSharedWith 25 = .ok (.aload_n 2, 1) := by decide +kernel
theorem dX1_mostSharedWith_26 : decode cX1_mostSharedWith 26 = .ok (.iload 4, 2) := by decide +kernel
theorem dX1_mostSharedWith_28 : decode cX1_mostSharedWith 28 = .ok (.invokevirtual 29, 3) := by decide +kernel
theorem dX1_mostSharedWith_31 : decode cX1_mostSharedWith 31 = .ok (.invokestatic 33, 3) := by decide +kernel
theorem dX1_mostSharedWith_34 : decode cX1_mostSharedWith 34 = .ok (.istore_n 3, 1) := by decide +kernel
theorem dX1_mostSharedWith_35 : decode cX1_mostSharedWith 35 = .ok (.iinc 4 1, 3) := by decide +kernel
theorem dX1_mostSharedWith_38 : decode cX1_mostSharedWith 38 = .ok (.goto (-27), 3) := by decide +kernel
theorem dX1_mostSharedWith_41 : decode cX1_mostSharedWith 41 = .ok (.iload_n 3, 1) := by decide +kernel
theorem dX1_mostSharedWith_42 : decode cX1_mostSharedWith 42 = .ok (.ireturn, 1) := by decide +kernel
set_option maxRecDepth 20000 in
theorem ggX1_standsAt_X1_sharedWith : GoodIn wsX1_standsAt wsX1_sharedWith := goodIn_r _ [5, 6, 7, 8, 9, 10, 11, 12, 13, 4, 14, 15, 16, 17] (by decide +kernel) (by decide +kernel)
set_option maxRecDepth 20000 in
theorem gX1_standsAt_X1_sharedWith : GoodIn wsX1_standsAt (wsV RX1 29 RX1 yX1_sharedWith wsX1_sharedWith) := goodIn_app (goodIn_of _ (by decide +kernel)) ggX1_standsAt_X1_sharedWith
theorem dX1_standsAt_0 : decode cX1_standsAt 0 = .ok (.aload_n 0, 1) := by decide +kernel
theorem dX1_standsAt_1 : decode cX1_standsAt 1 = .ok (.iload_n 1, 1) := by decide +kernel
theorem dX1_standsAt_2 : decode cX1_standsAt 2 = .ok (.aload_n 2, 1) := by decide +kernel
theorem dX1_standsAt_3 : decode cX1_standsAt 3 = .ok (.iload_n 3, 1) := by decide +kernel
theorem dX1_standsAt_4 : decode cX1_standsAt 4 = .ok (.invokevirtual 29, 3) := by decide +kernel
theorem dX1_standsAt_7 : decode cX1_standsAt 7 = .ok (.iload 4, 2) := by decide +kernel
theorem dX1_standsAt_9 : decode cX1_standsAt 9 = .ok (.if_icmp .lt 7, 3) := by decide +kernel
theorem dX1_standsAt_12 : decode cX1_standsAt 12 = .ok (.iconst 1, 1) := by decide +kernel
theorem dX1_standsAt_13 : decode cX1_standsAt 13 = .ok (.goto 4, 3) := by decide +kernel
theorem dX1_standsAt_16 : decode cX1_standsAt 16 = .ok (.iconst 0, 1) := by decide +kernel
theorem dX1_standsAt_17 : decode cX1_standsAt 17 = .ok (.ireturn, 1) := by decide +kernel
set_option maxRecDepth 20000 in
theorem ggX1_firstPlaceOf_X1_standsAt : GoodIn wsX1_firstPlaceOf wsX1_standsAt := goodIn_r _ [6, 7, 8, 9, 5, 10, 1, 11, 12, 13, 14, 15, 16, 17, 18, 19, 20, 21] (by decide +kernel) (by decide +kernel)
set_option maxRecDepth 20000 in
theorem gX1_firstPlaceOf_X1_standsAt : GoodIn wsX1_firstPlaceOf (wsV RX1 36 RX1 yX1_standsAt wsX1_standsAt) := goodIn_app (goodIn_of _ (by decide +kernel)) ggX1_firstPlaceOf_X1_standsAt
theorem dX1_firstPlaceOf_0 : decode cX1_firstPlaceOf 0 = .ok (.iload_n 3, 1) := by decide +kernel
theorem dX1_firstPlaceOf_1 : decode cX1_firstPlaceOf 1 = .ok (.iconst 1, 1) := by decide +kernel
theorem dX1_firstPlaceOf_2 : decode cX1_firstPlaceOf 2 = .ok (.if_icmp .ge 5, 3) := by decide +kernel
theorem dX1_firstPlaceOf_5 : decode cX1_firstPlaceOf 5 = .ok (.iconst (-1), 1) := by decide +kernel
theorem dX1_firstPlaceOf_6 : decode cX1_firstPlaceOf 6 = .ok (.ireturn, 1) := by decide +kernel
theorem dX1_firstPlaceOf_7 : decode cX1_firstPlaceOf 7 = .ok (.iconst 0, 1) := by decide +kernel
theorem dX1_firstPlaceOf_8 : decode cX1_firstPlaceOf 8 = .ok (.istore 4, 2) := by decide +kernel
theorem dX1_firstPlaceOf_10 : decode cX1_firstPlaceOf 10 = .ok (.iload 4, 2) := by decide +kernel
theorem dX1_firstPlaceOf_12 : decode cX1_firstPlaceOf 12 = .ok (.iload_n 3, 1) := by decide +kernel
theorem dX1_firstPlaceOf_13 : decode cX1_firstPlaceOf 13 = .ok (.iadd, 1) := by decide +kernel
theorem dX1_firstPlaceOf_14 : decode cX1_firstPlaceOf 14 = .ok (.aload_n 0, 1) := by decide +kernel
theorem dX1_firstPlaceOf_15 : decode cX1_firstPlaceOf 15 = .ok (.getfield 15, 3) := by decide +kernel
theorem dX1_firstPlaceOf_18 : decode cX1_firstPlaceOf 18 = .ok (.if_icmp .gt 24, 3) := by decide +kernel
theorem dX1_firstPlaceOf_21 : decode cX1_firstPlaceOf 21 = .ok (.aload_n 0, 1) := by decide +kernel
theorem dX1_firstPlaceOf_22 : decode cX1_firstPlaceOf 22 = .ok (.iload 4, 2) := by decide +kernel
theorem dX1_firstPlaceOf_24 : decode cX1_firstPlaceOf 24 = .ok (.aload_n 1, 1) := by decide +kernel
theorem dX1_firstPlaceOf_25 : decode cX1_firstPlaceOf 25 = .ok (.iload_n 2, 1) := by decide +kernel
theorem dX1_firstPlaceOf_26 : decode cX1_firstPlaceOf 26 = .ok (.iload_n 3, 1) := by decide +kernel
theorem dX1_firstPlaceOf_27 : decode cX1_firstPlaceOf 27 = .ok (.invokevirtual 36, 3) := by decide +kernel
theorem dX1_firstPlaceOf_30 : decode cX1_firstPlaceOf 30 = .ok (.ifCond .eq 6, 3) := by decide +kernel
theorem dX1_firstPlaceOf_33 : decode cX1_firstPlaceOf 33 = .ok (.iload 4, 2) := by decide +kernel
theorem dX1_firstPlaceOf_35 : decode cX1_firstPlaceOf 35 = .ok (.ireturn, 1) := by decide +kernel
theorem dX1_firstPlaceOf_36 : decode cX1_firstPlaceOf 36 = .ok (.iinc 4 1, 3) := by decide +kernel
theorem dX1_firstPlaceOf_39 : decode cX1_firstPlaceOf 39 = .ok (.goto (-29), 3) := by decide +kernel
theorem dX1_firstPlaceOf_42 : decode cX1_firstPlaceOf 42 = .ok (.iconst (-1), 1) := by decide +kernel
theorem dX1_firstPlaceOf_43 : decode cX1_firstPlaceOf 43 = .ok (.ireturn, 1) := by decide +kernel
set_option maxRecDepth 20000 in
theorem ggX1_placesOf_X1_standsAt : GoodIn wsX1_placesOf wsX1_standsAt := goodIn_r _ [6, 7, 8, 9, 5, 10, 1, 11, 12, 13, 14, 15, 16, 17, 18, 19, 20, 21] (by decide +kernel) (by decide +kernel)
set_option maxRecDepth 20000 in
theorem gX1_placesOf_X1_standsAt : GoodIn wsX1_placesOf (wsV RX1 36 RX1 yX1_standsAt wsX1_standsAt) := goodIn_app (goodIn_of _ (by decide +kernel)) ggX1_placesOf_X1_standsAt
theorem dX1_placesOf_0 : decode cX1_placesOf 0 = .ok (.iload_n 3, 1) := by decide +kernel
theorem dX1_placesOf_1 : decode cX1_placesOf 1 = .ok (.iconst 1, 1) := by decide +kernel
theorem dX1_placesOf_2 : decode cX1_placesOf 2 = .ok (.if_icmp .ge 5, 3) := by decide +kernel
theorem dX1_placesOf_5 : decode cX1_placesOf 5 = .ok (.iconst 0, 1) := by decide +kernel
theorem dX1_placesOf_6 : decode cX1_placesOf 6 = .ok (.ireturn, 1) := by decide +kernel
theorem dX1_placesOf_7 : decode cX1_placesOf 7 = .ok (.iconst 0, 1) := by decide +kernel
theorem dX1_placesOf_8 : decode cX1_placesOf 8 = .ok (.istore 4, 2) := by decide +kernel
theorem dX1_placesOf_10 : decode cX1_placesOf 10 = .ok (.iconst 0, 1) := by decide +kernel
theorem dX1_placesOf_11 : decode cX1_placesOf 11 = .ok (.istore 5, 2) := by decide +kernel
theorem dX1_placesOf_13 : decode cX1_placesOf 13 = .ok (.iload 5, 2) := by decide +kernel
theorem dX1_placesOf_15 : decode cX1_placesOf 15 = .ok (.iload_n 3, 1) := by decide +kernel
theorem dX1_placesOf_16 : decode cX1_placesOf 16 = .ok (.iadd, 1) := by decide +kernel
theorem dX1_placesOf_17 : decode cX1_placesOf 17 = .ok (.aload_n 0, 1) := by decide +kernel
theorem dX1_placesOf_18 : decode cX1_placesOf 18 = .ok (.getfield 15, 3) := by decide +kernel
theorem dX1_placesOf_21 : decode cX1_placesOf 21 = .ok (.if_icmp .gt 24, 3) := by decide +kernel
theorem dX1_placesOf_24 : decode cX1_placesOf 24 = .ok (.aload_n 0, 1) := by decide +kernel
theorem dX1_placesOf_25 : decode cX1_placesOf 25 = .ok (.iload 5, 2) := by decide +kernel
theorem dX1_placesOf_27 : decode cX1_placesOf 27 = .ok (.aload_n 1, 1) := by decide +kernel
theorem dX1_placesOf_28 : decode cX1_placesOf 28 = .ok (.iload_n 2, 1) := by decide +kernel
theorem dX1_placesOf_29 : decode cX1_placesOf 29 = .ok (.iload_n 3, 1) := by decide +kernel
theorem dX1_placesOf_30 : decode cX1_placesOf 30 = .ok (.invokevirtual 36, 3) := by decide +kernel
theorem dX1_placesOf_33 : decode cX1_placesOf 33 = .ok (.ifCond .eq 6, 3) := by decide +kernel
theorem dX1_placesOf_36 : decode cX1_placesOf 36 = .ok (.iinc 4 1, 3) := by decide +kernel
theorem dX1_placesOf_39 : decode cX1_placesOf 39 = .ok (.iinc 5 1, 3) := by decide +kernel
theorem dX1_placesOf_42 : decode cX1_placesOf 42 = .ok (.goto (-29), 3) := by decide +kernel
theorem dX1_placesOf_45 : decode cX1_placesOf 45 = .ok (.iload 4, 2) := by decide +kernel
theorem dX1_placesOf_47 : decode cX1_placesOf 47 = .ok (.ireturn, 1) := by decide +kernel
set_option maxRecDepth 20000 in
theorem ggX1_leastPeriod_X1_sharedWith : GoodIn wsX1_leastPeriod wsX1_sharedWith := goodIn_r _ [6, 1, 7, 8, 9, 10, 11, 12, 13, 5, 14, 15, 16, 17] (by decide +kernel) (by decide +kernel)
set_option maxRecDepth 20000 in
theorem gX1_leastPeriod_X1_sharedWith : GoodIn wsX1_leastPeriod (wsV RX1 29 RX1 yX1_sharedWith wsX1_sharedWith) := goodIn_app (goodIn_of _ (by decide +kernel)) ggX1_leastPeriod_X1_sharedWith
theorem dX1_leastPeriod_0 : decode cX1_leastPeriod 0 = .ok (.iconst 1, 1) := by decide +kernel
theorem dX1_leastPeriod_1 : decode cX1_leastPeriod 1 = .ok (.istore_n 1, 1) := by decide +kernel
theorem dX1_leastPeriod_2 : decode cX1_leastPeriod 2 = .ok (.iload_n 1, 1) := by decide +kernel
theorem dX1_leastPeriod_3 : decode cX1_leastPeriod 3 = .ok (.aload_n 0, 1) := by decide +kernel
theorem dX1_leastPeriod_4 : decode cX1_leastPeriod 4 = .ok (.getfield 15, 3) := by decide +kernel
theorem dX1_leastPeriod_7 : decode cX1_leastPeriod 7 = .ok (.if_icmp .ge 27, 3) := by decide +kernel
theorem dX1_leastPeriod_10 : decode cX1_leastPeriod 10 = .ok (.aload_n 0, 1) := by decide +kernel
theorem dX1_leastPeriod_11 : decode cX1_leastPeriod 11 = .ok (.iconst 0, 1) := by decide +kernel
theorem dX1_leastPeriod_12 : decode cX1_leastPeriod 12 = .ok (.aload_n 0, 1) := by decide +kernel
theorem dX1_leastPeriod_13 : decode cX1_leastPeriod 13 = .ok (.iload_n 1, 1) := by decide +kernel
theorem dX1_leastPeriod_14 : decode cX1_leastPeriod 14 = .ok (.invokevirtual 29, 3) := by decide +kernel
theorem dX1_leastPeriod_17 : decode cX1_leastPeriod 17 = .ok (.aload_n 0, 1) := by decide +kernel
theorem dX1_leastPeriod_18 : decode cX1_leastPeriod 18 = .ok (.getfield 15, 3) := by decide +kernel
theorem dX1_leastPeriod_21 : decode cX1_leastPeriod 21 = .ok (.iload_n 1, 1) := by decide +kernel
theorem dX1_leastPeriod_22 : decode cX1_leastPeriod 22 = .ok (.isub, 1) := by decide +kernel
theorem dX1_leastPeriod_23 : decode cX1_leastPeriod 23 = .ok (.if_icmp .ne 5, 3) := by decide +kernel
theorem dX1_leastPeriod_26 : decode cX1_leastPeriod 26 = .ok (.iload_n 1, 1) := by decide +kernel
theorem dX1_leastPeriod_27 : decode cX1_leastPeriod 27 = .ok (.ireturn, 1) := by decide +kernel
theorem dX1_leastPeriod_28 : decode cX1_leastPeriod 28 = .ok (.iinc 1 1, 3) := by decide +kernel
theorem dX1_leastPeriod_31 : decode cX1_leastPeriod 31 = .ok (.goto (-29), 3) := by decide +kernel
theorem dX1_leastPeriod_34 : decode cX1_leastPeriod 34 = .ok (.aload_n 0, 1) := by decide +kernel
theorem dX1_leastPeriod_35 : decode cX1_leastPeriod 35 = .ok (.getfield 15, 3) := by decide +kernel
theorem dX1_leastPeriod_38 : decode cX1_leastPeriod 38 = .ok (.ireturn, 1) := by decide +kernel
set_option maxRecDepth 20000 in
theorem ggX1_bestBeginning_X1_turnsToLess : GoodIn wsX1_bestBeginning wsX1_turnsToLess := goodIn_r _ [6, 1, 7, 8, 9, 5, 10, 11, 12, 13, 14, 15, 16, 17] (by decide +kernel) (by decide +kernel)
set_option maxRecDepth 20000 in
theorem gX1_bestBeginning_X1_turnsToLess : GoodIn wsX1_bestBeginning (wsV RX1 40 RX1 yX1_turnsToLess wsX1_turnsToLess) := goodIn_app (goodIn_of _ (by decide +kernel)) ggX1_bestBeginning_X1_turnsToLess
theorem dX1_bestBeginning_0 : decode cX1_bestBeginning 0 = .ok (.aload_n 0, 1) := by decide +kernel
theorem dX1_bestBeginning_1 : decode cX1_bestBeginning 1 = .ok (.getfield 15, 3) := by decide +kernel
theorem dX1_bestBeginning_4 : decode cX1_bestBeginning 4 = .ok (.ifCond .ne 5, 3) := by decide +kernel
theorem dX1_bestBeginning_7 : decode cX1_bestBeginning 7 = .ok (.iconst (-1), 1) := by decide +kernel
theorem dX1_bestBeginning_8 : decode cX1_bestBeginning 8 = .ok (.ireturn, 1) := by decide +kernel
theorem dX1_bestBeginning_9 : decode cX1_bestBeginning 9 = .ok (.iconst 0, 1) := by decide +kernel
theorem dX1_bestBeginning_10 : decode cX1_bestBeginning 10 = .ok (.istore_n 1, 1) := by decide +kernel
theorem dX1_bestBeginning_11 : decode cX1_bestBeginning 11 = .ok (.iconst 1, 1) := by decide +kernel
theorem dX1_bestBeginning_12 : decode cX1_bestBeginning 12 = .ok (.istore_n 2, 1) := by decide +kernel
theorem dX1_bestBeginning_13 : decode cX1_bestBeginning 13 = .ok (.iload_n 2, 1) := by decide +kernel
theorem dX1_bestBeginning_14 : decode cX1_bestBeginning 14 = .ok (.aload_n 0, 1) := by decide +kernel
theorem dX1_bestBeginning_15 : decode cX1_bestBeginning 15 = .ok (.getfield 15, 3) := by decide +kernel
theorem dX1_bestBeginning_18 : decode cX1_bestBeginning 18 = .ok (.if_icmp .ge 20, 3) := by decide +kernel
theorem dX1_bestBeginning_21 : decode cX1_bestBeginning 21 = .ok (.aload_n 0, 1) := by decide +kernel
theorem dX1_bestBeginning_22 : decode cX1_bestBeginning 22 = .ok (.iload_n 2, 1) := by decide +kernel
theorem dX1_bestBeginning_23 : decode cX1_bestBeginning 23 = .ok (.iload_n 1, 1) := by decide +kernel
theorem dX1_bestBeginning_24 : decode cX1_bestBeginning 24 = .ok (.invokevirtual 40, 3) := by decide +kernel
theorem dX1_bestBeginning_27 : decode cX1_bestBeginning 27 = .ok (.ifCond .eq 5, 3) := by decide +kernel
theorem dX1_bestBeginning_30 : decode cX1_bestBeginning 30 = .ok (.iload_n 2, 1) := by decide +kernel
theorem dX1_bestBeginning_31 : decode cX1_bestBeginning 31 = .ok (.istore_n 1, 1) := by decide +kernel
theorem dX1_bestBeginning_32 : decode cX1_bestBeginning 32 = .ok (.iinc 2 1, 3) := by decide +kernel
theorem dX1_bestBeginning_35 : decode cX1_bestBeginning 35 = .ok (.goto (-22), 3) := by decide +kernel
theorem dX1_bestBeginning_38 : decode cX1_bestBeginning 38 = .ok (.iload_n 1, 1) := by decide +kernel
theorem dX1_bestBeginning_39 : decode cX1_bestBeginning 39 = .ok (.ireturn, 1) := by decide +kernel
set_option maxRecDepth 20000 in
theorem ggX1_turnsToLess_X1_allAround : GoodIn wsX1_turnsToLess wsX1_allAround := goodIn_r _ [6, 1, 7, 8, 9, 5, 10, 11, 12, 13] (by decide +kernel) (by decide +kernel)
set_option maxRecDepth 20000 in
theorem gX1_turnsToLess_X1_allAround : GoodIn wsX1_turnsToLess (wsV RX1 44 RX1 yX1_allAround wsX1_allAround) := goodIn_app (goodIn_of _ (by decide +kernel)) ggX1_turnsToLess_X1_allAround
theorem dX1_turnsToLess_0 : decode cX1_turnsToLess 0 = .ok (.iconst 0, 1) := by decide +kernel
theorem dX1_turnsToLess_1 : decode cX1_turnsToLess 1 = .ok (.istore_n 3, 1) := by decide +kernel
theorem dX1_turnsToLess_2 : decode cX1_turnsToLess 2 = .ok (.iload_n 3, 1) := by decide +kernel
theorem dX1_turnsToLess_3 : decode cX1_turnsToLess 3 = .ok (.aload_n 0, 1) := by decide +kernel
theorem dX1_turnsToLess_4 : decode cX1_turnsToLess 4 = .ok (.getfield 15, 3) := by decide +kernel
theorem dX1_turnsToLess_7 : decode cX1_turnsToLess 7 = .ok (.if_icmp .ge 47, 3) := by decide +kernel
theorem dX1_turnsToLess_10 : decode cX1_turnsToLess 10 = .ok (.aload_n 0, 1) := by decide +kernel
theorem dX1_turnsToLess_11 : decode cX1_turnsToLess 11 = .ok (.iload_n 1, 1) := by decide +kernel
theorem dX1_turnsToLess_12 : decode cX1_turnsToLess 12 = .ok (.iload_n 3, 1) := by decide +kernel
theorem dX1_turnsToLess_13 : decode cX1_turnsToLess 13 = .ok (.iadd, 1) := by decide +kernel
theorem dX1_turnsToLess_14 : decode cX1_turnsToLess 14 = .ok (.invokevirtual 44, 3) := by decide +kernel
theorem dX1_turnsToLess_17 : decode cX1_turnsToLess 17 = .ok (.istore 4, 2) := by decide +kernel
theorem dX1_turnsToLess_19 : decode cX1_turnsToLess 19 = .ok (.aload_n 0, 1) := by decide +kernel
theorem dX1_turnsToLess_20 : decode cX1_turnsToLess 20 = .ok (.iload_n 2, 1) := by decide +kernel
theorem dX1_turnsToLess_21 : decode cX1_turnsToLess 21 = .ok (.iload_n 3, 1) := by decide +kernel
theorem dX1_turnsToLess_22 : decode cX1_turnsToLess 22 = .ok (.iadd, 1) := by decide +kernel
theorem dX1_turnsToLess_23 : decode cX1_turnsToLess 23 = .ok (.invokevirtual 44, 3) := by decide +kernel
theorem dX1_turnsToLess_26 : decode cX1_turnsToLess 26 = .ok (.istore 5, 2) := by decide +kernel
theorem dX1_turnsToLess_28 : decode cX1_turnsToLess 28 = .ok (.iload 4, 2) := by decide +kernel
theorem dX1_turnsToLess_30 : decode cX1_turnsToLess 30 = .ok (.iload 5, 2) := by decide +kernel
theorem dX1_turnsToLess_32 : decode cX1_turnsToLess 32 = .ok (.if_icmp .eq 16, 3) := by decide +kernel
theorem dX1_turnsToLess_35 : decode cX1_turnsToLess 35 = .ok (.iload 4, 2) := by decide +kernel
theorem dX1_turnsToLess_37 : decode cX1_turnsToLess 37 = .ok (.iload 5, 2) := by decide +kernel
theorem dX1_turnsToLess_39 : decode cX1_turnsToLess 39 = .ok (.if_icmp .ge 7, 3) := by decide +kernel
theorem dX1_turnsToLess_42 : decode cX1_turnsToLess 42 = .ok (.iconst 1, 1) := by decide +kernel
theorem dX1_turnsToLess_43 : decode cX1_turnsToLess 43 = .ok (.goto 4, 3) := by decide +kernel
theorem dX1_turnsToLess_46 : decode cX1_turnsToLess 46 = .ok (.iconst 0, 1) := by decide +kernel
theorem dX1_turnsToLess_47 : decode cX1_turnsToLess 47 = .ok (.ireturn, 1) := by decide +kernel
theorem dX1_turnsToLess_48 : decode cX1_turnsToLess 48 = .ok (.iinc 3 1, 3) := by decide +kernel
theorem dX1_turnsToLess_51 : decode cX1_turnsToLess 51 = .ok (.goto (-49), 3) := by decide +kernel
theorem dX1_turnsToLess_54 : decode cX1_turnsToLess 54 = .ok (.iconst 0, 1) := by decide +kernel
theorem dX1_turnsToLess_55 : decode cX1_turnsToLess 55 = .ok (.ireturn, 1) := by decide +kernel
set_option maxRecDepth 20000 in
theorem ggX1_allAround_X1_at : GoodIn wsX1_allAround wsX1_at := goodIn_r _ [6, 1, 7, 8, 9] (by decide +kernel) (by decide +kernel)
set_option maxRecDepth 20000 in
theorem gX1_allAround_X1_at : GoodIn wsX1_allAround (wsV RX1 25 RX1 yX1_at wsX1_at) := goodIn_app (goodIn_of _ (by decide +kernel)) ggX1_allAround_X1_at
theorem dX1_allAround_0 : decode cX1_allAround 0 = .ok (.aload_n 0, 1) := by decide +kernel
theorem dX1_allAround_1 : decode cX1_allAround 1 = .ok (.iload_n 1, 1) := by decide +kernel
theorem dX1_allAround_2 : decode cX1_allAround 2 = .ok (.aload_n 0, 1) := by decide +kernel
theorem dX1_allAround_3 : decode cX1_allAround 3 = .ok (.getfield 15, 3) := by decide +kernel
theorem dX1_allAround_6 : decode cX1_allAround 6 = .ok (.if_icmp .ge 7, 3) := by decide +kernel
theorem dX1_allAround_9 : decode cX1_allAround 9 = .ok (.iload_n 1, 1) := by decide +kernel
theorem dX1_allAround_10 : decode cX1_allAround 10 = .ok (.goto 9, 3) := by decide +kernel
theorem dX1_allAround_13 : decode cX1_allAround 13 = .ok (.iload_n 1, 1) := by decide +kernel
theorem dX1_allAround_14 : decode cX1_allAround 14 = .ok (.aload_n 0, 1) := by decide +kernel
theorem dX1_allAround_15 : decode cX1_allAround 15 = .ok (.getfield 15, 3) := by decide +kernel
theorem dX1_allAround_18 : decode cX1_allAround 18 = .ok (.isub, 1) := by decide +kernel
theorem dX1_allAround_19 : decode cX1_allAround 19 = .ok (.invokevirtual 25, 3) := by decide +kernel
theorem dX1_allAround_22 : decode cX1_allAround 22 = .ok (.ireturn, 1) := by decide +kernel
set_option maxRecDepth 20000 in
theorem ggX2_init_X0_init : GoodIn wsX2_init wsX0_init := goodIn_r _ [15, 16, 2, 3, 17, 10, 11, 18, 19, 20, 21, 22, 23, 24, 25, 26, 33, 34, 28, 29] (by decide +kernel) (by decide +kernel)
set_option maxRecDepth 20000 in
theorem gX2_init_X0_init : GoodIn wsX2_init (wsX0_init) := ggX2_init_X0_init
set_option maxRecDepth 20000 in
theorem ggX2_init_X1_init : GoodIn wsX2_init wsX1_init := goodIn_r _ [23, 24, 2, 3, 19, 25, 26, 33, 34] (by decide +kernel) (by decide +kernel)
set_option maxRecDepth 20000 in
theorem gX2_init_X1_init : GoodIn wsX2_init (wsX1_init) := ggX2_init_X1_init
theorem dX2_init_0 : decode cX2_init 0 = .ok (.aload_n 0, 1) := by decide +kernel
theorem dX2_init_1 : decode cX2_init 1 = .ok (.invokespecial 1, 3) := by decide +kernel
theorem dX2_init_4 : decode cX2_init 4 = .ok (.aload_n 0, 1) := by decide +kernel
theorem dX2_init_5 : decode cX2_init 5 = .ok (.new 7, 3) := by decide +kernel
theorem dX2_init_8 : decode cX2_init 8 = .ok (.dup, 1) := by decide +kernel
theorem dX2_init_9 : decode cX2_init 9 = .ok (.invokespecial 9, 3) := by decide +kernel
theorem dX2_init_12 : decode cX2_init 12 = .ok (.putfield 10, 3) := by decide +kernel
theorem dX2_init_15 : decode cX2_init 15 = .ok (.aload_n 0, 1) := by decide +kernel
theorem dX2_init_16 : decode cX2_init 16 = .ok (.new 7, 3) := by decide +kernel
theorem dX2_init_19 : decode cX2_init 19 = .ok (.dup, 1) := by decide +kernel
theorem dX2_init_20 : decode cX2_init 20 = .ok (.invokespecial 9, 3) := by decide +kernel
theorem dX2_init_23 : decode cX2_init 23 = .ok (.putfield 16, 3) := by decide +kernel
theorem dX2_init_26 : decode cX2_init 26 = .ok (.aload_n 0, 1) := by decide +kernel
theorem dX2_init_27 : decode cX2_init 27 = .ok (.new 19, 3) := by decide +kernel
theorem dX2_init_30 : decode cX2_init 30 = .ok (.dup, 1) := by decide +kernel
theorem dX2_init_31 : decode cX2_init 31 = .ok (.invokespecial 21, 3) := by decide +kernel
theorem dX2_init_34 : decode cX2_init 34 = .ok (.putfield 22, 3) := by decide +kernel
theorem dX2_init_37 : decode cX2_init 37 = .ok (.return_, 1) := by decide +kernel
set_option maxRecDepth 20000 in
theorem ggX2_sew_X2_hemOf : GoodIn wsX2_sew wsX2_hemOf := goodIn_ca (goodIn_r _ [7, 8, 9, 10, 11, 59, 60, 61] (by decide +kernel) (by decide +kernel)) (goodIn_sub (fun _ h => List.mem_cons_of_mem _ (List.mem_append_left _ (List.mem_append_right _ h))) (by decide +kernel))
set_option maxRecDepth 20000 in
theorem gX2_sew_X2_hemOf : GoodIn wsX2_sew (wsV RX2 26 RX2 yX2_hemOf wsX2_hemOf) := goodIn_app (goodIn_of _ (by decide +kernel)) ggX2_sew_X2_hemOf
set_option maxRecDepth 20000 in
theorem ggX2_sew_X2_requireStitch : GoodIn wsX2_sew wsX2_requireStitch := goodIn_ca (goodIn_r _ [14, 15, 16] (by decide +kernel) (by decide +kernel)) (goodIn_sub (fun _ h => List.mem_cons_of_mem _ (List.mem_append_right _ h)) (by decide +kernel))
set_option maxRecDepth 20000 in
theorem gX2_sew_X2_requireStitch : GoodIn wsX2_sew (va_wsS RX2 30 yX2_requireStitch wsX2_requireStitch) := goodIn_app (goodIn_of _ (by decide +kernel)) ggX2_sew_X2_requireStitch
set_option maxRecDepth 20000 in
theorem ggX2_sew_X0_sewOn : GoodIn wsX2_sew wsX0_sewOn := goodIn_r _ [21, 22, 23, 24, 25, 26, 27, 28, 29, 30, 31, 32, 20, 33, 34, 35, 36, 37, 38, 39, 40, 41, 42, 43, 44, 45, 46, 47, 48, 49, 50, 51, 52, 53, 54, 55, 56, 57, 58] (by decide +kernel) (by decide +kernel)
set_option maxRecDepth 20000 in
theorem gX2_sew_X0_sewOn : GoodIn wsX2_sew (wsV RX2 48 RX0 yX0_sewOn wsX0_sewOn) := goodIn_app (goodIn_of _ (by decide +kernel)) ggX2_sew_X0_sewOn
theorem dX2_sew_0 : decode cX2_sew 0 = .ok (.aload_n 0, 1) := by decide +kernel
theorem dX2_sew_1 : decode cX2_sew 1 = .ok (.iload_n 1, 1) := by decide +kernel
theorem dX2_sew_2 : decode cX2_sew 2 = .ok (.invokevirtual 26, 3) := by decide +kernel
theorem dX2_sew_5 : decode cX2_sew 5 = .ok (.astore_n 3, 1) := by decide +kernel
theorem dX2_sew_6 : decode cX2_sew 6 = .ok (.iload_n 2, 1) := by decide +kernel
theorem dX2_sew_7 : decode cX2_sew 7 = .ok (.invokestatic 30, 3) := by decide +kernel
theorem dX2_sew_10 : decode cX2_sew 10 = .ok (.aload_n 3, 1) := by decide +kernel
theorem dX2_sew_11 : decode cX2_sew 11 = .ok (.getfield 34, 3) := by decide +kernel
theorem dX2_sew_14 : decode cX2_sew 14 = .ok (.getfield 37, 3) := by decide +kernel
theorem dX2_sew_17 : decode cX2_sew 17 = .ok (.bipush 40, 2) := by decide +kernel
theorem dX2_sew_19 : decode cX2_sew 19 = .ok (.if_icmp .lt 13, 3) := by decide +kernel
theorem dX2_sew_22 : decode cX2_sew 22 = .ok (.new 41, 3) := by decide +kernel
theorem dX2_sew_25 : decode cX2_sew 25 = .ok (.dup, 1) := by decide +kernel
theorem dX2_sew_26 : decode cX2_sew 26 = .ok (.ldc 43, 2) := by decide +kernel
theorem dX2_sew_28 : decode cX2_sew 28 = .ok (.invokespecial 45, 3) := by decide +kernel
theorem dX2_sew_31 : decode cX2_sew 31 = .ok (.athrow, 1) := by decide +kernel
theorem dX2_sew_32 : decode cX2_sew 32 = .ok (.aload_n 3, 1) := by decide +kernel
theorem dX2_sew_33 : decode cX2_sew 33 = .ok (.iload_n 2, 1) := by decide +kernel
theorem dX2_sew_34 : decode cX2_sew 34 = .ok (.invokevirtual 48, 3) := by decide +kernel
theorem dX2_sew_37 : decode cX2_sew 37 = .ok (.aload_n 3, 1) := by decide +kernel
theorem dX2_sew_38 : decode cX2_sew 38 = .ok (.getfield 34, 3) := by decide +kernel
theorem dX2_sew_41 : decode cX2_sew 41 = .ok (.getfield 37, 3) := by decide +kernel
theorem dX2_sew_44 : decode cX2_sew 44 = .ok (.ireturn, 1) := by decide +kernel
set_option maxRecDepth 20000 in
theorem ggX2_again_X2_hemOf : GoodIn wsX2_again wsX2_hemOf := goodIn_ca (goodIn_r _ [9, 10, 11, 12, 13, 57, 58, 59] (by decide +kernel) (by decide +kernel)) (goodIn_sub (fun _ h => List.mem_cons_of_mem _ (List.mem_append_right _ h)) (by decide +kernel))
set_option maxRecDepth 20000 in
theorem gX2_again_X2_hemOf : GoodIn wsX2_again (wsV RX2 26 RX2 yX2_hemOf wsX2_hemOf) := goodIn_app (goodIn_of _ (by decide +kernel)) ggX2_again_X2_hemOf
set_option maxRecDepth 20000 in
theorem ggX2_again_X0_sewBeginning : GoodIn wsX2_again wsX0_sewBeginning := goodIn_r _ [18, 19, 20, 21, 22, 23, 24, 25, 26, 27, 28, 29, 30, 31, 32, 33, 17, 34, 35, 36, 37, 38, 39, 40, 41, 42, 43, 44, 45, 46, 47, 48, 49, 50, 51, 52, 53, 54, 55, 56] (by decide +kernel) (by decide +kernel)
set_option maxRecDepth 20000 in
theorem gX2_again_X0_sewBeginning : GoodIn wsX2_again (wsV RX2 58 RX0 yX0_sewBeginning wsX0_sewBeginning) := goodIn_app (goodIn_of _ (by decide +kernel)) ggX2_again_X0_sewBeginning
theorem dX2_again_0 : decode cX2_again 0 = .ok (.aload_n 0, 1) := by decide +kernel
theorem dX2_again_1 : decode cX2_again 1 = .ok (.iload_n 1, 1) := by decide +kernel
theorem dX2_again_2 : decode cX2_again 2 = .ok (.invokevirtual 26, 3) := by decide +kernel
theorem dX2_again_5 : decode cX2_again 5 = .ok (.astore_n 3, 1) := by decide +kernel
theorem dX2_again_6 : decode cX2_again 6 = .ok (.iload_n 2, 1) := by decide +kernel
theorem dX2_again_7 : decode cX2_again 7 = .ok (.iconst 1, 1) := by decide +kernel
theorem dX2_again_8 : decode cX2_again 8 = .ok (.if_icmp .lt 9, 3) := by decide +kernel
theorem dX2_again_11 : decode cX2_again 11 = .ok (.iload_n 2, 1) := by decide +kernel
theorem dX2_again_12 : decode cX2_again 12 = .ok (.bipush 40, 2) := by decide +kernel
theorem dX2_again_14 : decode cX2_again 14 = .ok (.if_icmp .le 13, 3) := by decide +kernel
theorem dX2_again_17 : decode cX2_again 17 = .ok (.new 51, 3) := by decide +kernel
theorem dX2_again_20 : decode cX2_again 20 = .ok (.dup, 1) := by decide +kernel
theorem dX2_again_21 : decode cX2_again 21 = .ok (.ldc 53, 2) := by decide +kernel
theorem dX2_again_23 : decode cX2_again 23 = .ok (.invokespecial 55, 3) := by decide +kernel
theorem dX2_again_26 : decode cX2_again 26 = .ok (.athrow, 1) := by decide +kernel
theorem dX2_again_27 : decode cX2_again 27 = .ok (.aload_n 3, 1) := by decide +kernel
theorem dX2_again_28 : decode cX2_again 28 = .ok (.getfield 34, 3) := by decide +kernel
theorem dX2_again_31 : decode cX2_again 31 = .ok (.getfield 37, 3) := by decide +kernel
theorem dX2_again_34 : decode cX2_again 34 = .ok (.istore 4, 2) := by decide +kernel
theorem dX2_again_36 : decode cX2_again 36 = .ok (.iload 4, 2) := by decide +kernel
theorem dX2_again_38 : decode cX2_again 38 = .ok (.ifCond .eq 12, 3) := by decide +kernel
theorem dX2_again_41 : decode cX2_again 41 = .ok (.iload 4, 2) := by decide +kernel
theorem dX2_again_43 : decode cX2_again 43 = .ok (.iload_n 2, 1) := by decide +kernel
theorem dX2_again_44 : decode cX2_again 44 = .ok (.iadd, 1) := by decide +kernel
theorem dX2_again_45 : decode cX2_again 45 = .ok (.bipush 40, 2) := by decide +kernel
theorem dX2_again_47 : decode cX2_again 47 = .ok (.if_icmp .le 13, 3) := by decide +kernel
theorem dX2_again_50 : decode cX2_again 50 = .ok (.new 41, 3) := by decide +kernel
theorem dX2_again_53 : decode cX2_again 53 = .ok (.dup, 1) := by decide +kernel
theorem dX2_again_54 : decode cX2_again 54 = .ok (.ldc 56, 2) := by decide +kernel
theorem dX2_again_56 : decode cX2_again 56 = .ok (.invokespecial 45, 3) := by decide +kernel
theorem dX2_again_59 : decode cX2_again 59 = .ok (.athrow, 1) := by decide +kernel
theorem dX2_again_60 : decode cX2_again 60 = .ok (.aload_n 3, 1) := by decide +kernel
theorem dX2_again_61 : decode cX2_again 61 = .ok (.iload_n 2, 1) := by decide +kernel
theorem dX2_again_62 : decode cX2_again 62 = .ok (.invokevirtual 58, 3) := by decide +kernel
theorem dX2_again_65 : decode cX2_again 65 = .ok (.aload_n 3, 1) := by decide +kernel
theorem dX2_again_66 : decode cX2_again 66 = .ok (.getfield 34, 3) := by decide +kernel
theorem dX2_again_69 : decode cX2_again 69 = .ok (.getfield 37, 3) := by decide +kernel
theorem dX2_again_72 : decode cX2_again 72 = .ok (.ireturn, 1) := by decide +kernel
set_option maxRecDepth 20000 in
theorem ggX2_unpick_X2_hemOf : GoodIn wsX2_unpick wsX2_hemOf := goodIn_ca (goodIn_r _ [7, 8, 9, 10, 11, 54, 55, 56] (by decide +kernel) (by decide +kernel)) (goodIn_sub (fun _ h => List.mem_cons_of_mem _ (List.mem_append_right _ h)) (by decide +kernel))
set_option maxRecDepth 20000 in
theorem gX2_unpick_X2_hemOf : GoodIn wsX2_unpick (wsV RX2 26 RX2 yX2_hemOf wsX2_hemOf) := goodIn_app (goodIn_of _ (by decide +kernel)) ggX2_unpick_X2_hemOf
set_option maxRecDepth 20000 in
theorem ggX2_unpick_X0_takeOff : GoodIn wsX2_unpick wsX0_takeOff := goodIn_r _ [16, 17, 18, 19, 20, 21, 22, 23, 24, 25, 26, 15, 27, 28, 29, 30, 31, 32, 33, 34, 35, 36, 37, 38, 39, 40, 41, 42, 43, 44, 45, 46, 47, 48, 49, 50, 51, 52, 53] (by decide +kernel) (by decide +kernel)
set_option maxRecDepth 20000 in
theorem gX2_unpick_X0_takeOff : GoodIn wsX2_unpick (wsV RX2 63 RX0 yX0_takeOff wsX0_takeOff) := goodIn_app (goodIn_of _ (by decide +kernel)) ggX2_unpick_X0_takeOff
theorem dX2_unpick_0 : decode cX2_unpick 0 = .ok (.aload_n 0, 1) := by decide +kernel
theorem dX2_unpick_1 : decode cX2_unpick 1 = .ok (.iload_n 1, 1) := by decide +kernel
theorem dX2_unpick_2 : decode cX2_unpick 2 = .ok (.invokevirtual 26, 3) := by decide +kernel
theorem dX2_unpick_5 : decode cX2_unpick 5 = .ok (.astore_n 3, 1) := by decide +kernel
theorem dX2_unpick_6 : decode cX2_unpick 6 = .ok (.iload_n 2, 1) := by decide +kernel
theorem dX2_unpick_7 : decode cX2_unpick 7 = .ok (.iconst 1, 1) := by decide +kernel
theorem dX2_unpick_8 : decode cX2_unpick 8 = .ok (.if_icmp .lt 14, 3) := by decide +kernel
theorem dX2_unpick_11 : decode cX2_unpick 11 = .ok (.iload_n 2, 1) := by decide +kernel
theorem dX2_unpick_12 : decode cX2_unpick 12 = .ok (.aload_n 3, 1) := by decide +kernel
theorem dX2_unpick_13 : decode cX2_unpick 13 = .ok (.getfield 34, 3) := by decide +kernel
theorem dX2_unpick_16 : decode cX2_unpick 16 = .ok (.getfield 37, 3) := by decide +kernel
theorem dX2_unpick_19 : decode cX2_unpick 19 = .ok (.if_icmp .le 13, 3) := by decide +kernel
theorem dX2_unpick_22 : decode cX2_unpick 22 = .ok (.new 51, 3) := by decide +kernel
theorem dX2_unpick_25 : decode cX2_unpick 25 = .ok (.dup, 1) := by decide +kernel
theorem dX2_unpick_26 : decode cX2_unpick 26 = .ok (.ldc 61, 2) := by decide +kernel
theorem dX2_unpick_28 : decode cX2_unpick 28 = .ok (.invokespecial 55, 3) := by decide +kernel
theorem dX2_unpick_31 : decode cX2_unpick 31 = .ok (.athrow, 1) := by decide +kernel
theorem dX2_unpick_32 : decode cX2_unpick 32 = .ok (.aload_n 3, 1) := by decide +kernel
theorem dX2_unpick_33 : decode cX2_unpick 33 = .ok (.iload_n 2, 1) := by decide +kernel
theorem dX2_unpick_34 : decode cX2_unpick 34 = .ok (.invokevirtual 63, 3) := by decide +kernel
theorem dX2_unpick_37 : decode cX2_unpick 37 = .ok (.aload_n 3, 1) := by decide +kernel
theorem dX2_unpick_38 : decode cX2_unpick 38 = .ok (.getfield 34, 3) := by decide +kernel
theorem dX2_unpick_41 : decode cX2_unpick 41 = .ok (.getfield 37, 3) := by decide +kernel
theorem dX2_unpick_44 : decode cX2_unpick 44 = .ok (.ireturn, 1) := by decide +kernel
set_option maxRecDepth 20000 in
theorem ggX2_add_X2_requireStitch : GoodIn wsX2_add wsX2_requireStitch := goodIn_ca (goodIn_r _ [7, 8, 9] (by decide +kernel) (by decide +kernel)) (goodIn_sub (fun _ h => List.mem_cons_of_mem _ (List.mem_append_right _ h)) (by decide +kernel))
set_option maxRecDepth 20000 in
theorem gX2_add_X2_requireStitch : GoodIn wsX2_add (va_wsS RX2 30 yX2_requireStitch wsX2_requireStitch) := goodIn_app (goodIn_of _ (by decide +kernel)) ggX2_add_X2_requireStitch
set_option maxRecDepth 20000 in
theorem ggX2_add_X1_append : GoodIn wsX2_add wsX1_append := goodIn_r _ [14, 15, 16, 20, 21] (by decide +kernel) (by decide +kernel)
set_option maxRecDepth 20000 in
theorem gX2_add_X1_append : GoodIn wsX2_add (wsV RX2 68 RX1 yX1_append wsX1_append) := goodIn_app (goodIn_of _ (by decide +kernel)) ggX2_add_X1_append
theorem dX2_add_0 : decode cX2_add 0 = .ok (.iload_n 1, 1) := by decide +kernel
theorem dX2_add_1 : decode cX2_add 1 = .ok (.invokestatic 30, 3) := by decide +kernel
theorem dX2_add_4 : decode cX2_add 4 = .ok (.aload_n 0, 1) := by decide +kernel
theorem dX2_add_5 : decode cX2_add 5 = .ok (.getfield 22, 3) := by decide +kernel
theorem dX2_add_8 : decode cX2_add 8 = .ok (.getfield 37, 3) := by decide +kernel
theorem dX2_add_11 : decode cX2_add 11 = .ok (.bipush 12, 2) := by decide +kernel
theorem dX2_add_13 : decode cX2_add 13 = .ok (.if_icmp .lt 13, 3) := by decide +kernel
theorem dX2_add_16 : decode cX2_add 16 = .ok (.new 41, 3) := by decide +kernel
theorem dX2_add_19 : decode cX2_add 19 = .ok (.dup, 1) := by decide +kernel
theorem dX2_add_20 : decode cX2_add 20 = .ok (.ldc 66, 2) := by decide +kernel
theorem dX2_add_22 : decode cX2_add 22 = .ok (.invokespecial 45, 3) := by decide +kernel
theorem dX2_add_25 : decode cX2_add 25 = .ok (.athrow, 1) := by decide +kernel
theorem dX2_add_26 : decode cX2_add 26 = .ok (.aload_n 0, 1) := by decide +kernel
theorem dX2_add_27 : decode cX2_add 27 = .ok (.getfield 22, 3) := by decide +kernel
theorem dX2_add_30 : decode cX2_add 30 = .ok (.iload_n 1, 1) := by decide +kernel
theorem dX2_add_31 : decode cX2_add 31 = .ok (.invokevirtual 68, 3) := by decide +kernel
theorem dX2_add_34 : decode cX2_add 34 = .ok (.aload_n 0, 1) := by decide +kernel
theorem dX2_add_35 : decode cX2_add 35 = .ok (.getfield 22, 3) := by decide +kernel
theorem dX2_add_38 : decode cX2_add 38 = .ok (.getfield 37, 3) := by decide +kernel
theorem dX2_add_41 : decode cX2_add 41 = .ok (.ireturn, 1) := by decide +kernel
set_option maxRecDepth 20000 in
theorem ggX2_clear_X1_drop : GoodIn wsX2_clear wsX1_drop := goodIn_r _ [6, 7, 11, 12] (by decide +kernel) (by decide +kernel)
set_option maxRecDepth 20000 in
theorem gX2_clear_X1_drop : GoodIn wsX2_clear (wsV RX2 71 RX1 yX1_drop wsX1_drop) := goodIn_app (goodIn_of _ (by decide +kernel)) ggX2_clear_X1_drop
theorem dX2_clear_0 : decode cX2_clear 0 = .ok (.aload_n 0, 1) := by decide +kernel
theorem dX2_clear_1 : decode cX2_clear 1 = .ok (.getfield 22, 3) := by decide +kernel
theorem dX2_clear_4 : decode cX2_clear 4 = .ok (.getfield 37, 3) := by decide +kernel
theorem dX2_clear_7 : decode cX2_clear 7 = .ok (.istore_n 1, 1) := by decide +kernel
theorem dX2_clear_8 : decode cX2_clear 8 = .ok (.aload_n 0, 1) := by decide +kernel
theorem dX2_clear_9 : decode cX2_clear 9 = .ok (.getfield 22, 3) := by decide +kernel
theorem dX2_clear_12 : decode cX2_clear 12 = .ok (.iload_n 1, 1) := by decide +kernel
theorem dX2_clear_13 : decode cX2_clear 13 = .ok (.invokevirtual 71, 3) := by decide +kernel
theorem dX2_clear_16 : decode cX2_clear 16 = .ok (.iload_n 1, 1) := by decide +kernel
theorem dX2_clear_17 : decode cX2_clear 17 = .ok (.ireturn, 1) := by decide +kernel
set_option maxRecDepth 20000 in
theorem ggX2_stitch_X2_hemOf : GoodIn wsX2_stitch wsX2_hemOf := goodIn_ca (goodIn_r _ [5, 6, 7, 8, 9, 22, 23, 24] (by decide +kernel) (by decide +kernel)) (goodIn_sub (fun _ h => List.mem_cons_of_mem _ (List.mem_append_right _ h)) (by decide +kernel))
set_option maxRecDepth 20000 in
theorem gX2_stitch_X2_hemOf : GoodIn wsX2_stitch (wsV RX2 26 RX2 yX2_hemOf wsX2_hemOf) := goodIn_app (goodIn_of _ (by decide +kernel)) ggX2_stitch_X2_hemOf
set_option maxRecDepth 20000 in
theorem ggX2_stitch_X2_requirePlace : GoodIn wsX2_stitch wsX2_requirePlace := goodIn_ca (goodIn_r _ [12, 6, 7, 25, 26] (by decide +kernel) (by decide +kernel)) (goodIn_sub (fun _ h => List.mem_cons_of_mem _ (List.mem_append_right _ h)) (by decide +kernel))
set_option maxRecDepth 20000 in
theorem gX2_stitch_X2_requirePlace : GoodIn wsX2_stitch (va_wsS RX2 74 yX2_requirePlace wsX2_requirePlace) := goodIn_app (goodIn_of _ (by decide +kernel)) ggX2_stitch_X2_requirePlace
set_option maxRecDepth 20000 in
theorem ggX2_stitch_X1_at : GoodIn wsX2_stitch wsX1_at := goodIn_r _ [17, 18, 19, 25, 26] (by decide +kernel) (by decide +kernel)
set_option maxRecDepth 20000 in
theorem gX2_stitch_X1_at : GoodIn wsX2_stitch (wsV RX2 78 RX1 yX1_at wsX1_at) := goodIn_app (goodIn_of _ (by decide +kernel)) ggX2_stitch_X1_at
theorem dX2_stitch_0 : decode cX2_stitch 0 = .ok (.aload_n 0, 1) := by decide +kernel
theorem dX2_stitch_1 : decode cX2_stitch 1 = .ok (.iload_n 1, 1) := by decide +kernel
theorem dX2_stitch_2 : decode cX2_stitch 2 = .ok (.invokevirtual 26, 3) := by decide +kernel
theorem dX2_stitch_5 : decode cX2_stitch 5 = .ok (.getfield 34, 3) := by decide +kernel
theorem dX2_stitch_8 : decode cX2_stitch 8 = .ok (.astore_n 3, 1) := by decide +kernel
theorem dX2_stitch_9 : decode cX2_stitch 9 = .ok (.aload_n 3, 1) := by decide +kernel
theorem dX2_stitch_10 : decode cX2_stitch 10 = .ok (.iload_n 2, 1) := by decide +kernel
theorem dX2_stitch_11 : decode cX2_stitch 11 = .ok (.invokestatic 74, 3) := by decide +kernel
theorem dX2_stitch_14 : decode cX2_stitch 14 = .ok (.aload_n 3, 1) := by decide +kernel
theorem dX2_stitch_15 : decode cX2_stitch 15 = .ok (.iload_n 2, 1) := by decide +kernel
theorem dX2_stitch_16 : decode cX2_stitch 16 = .ok (.invokevirtual 78, 3) := by decide +kernel
theorem dX2_stitch_19 : decode cX2_stitch 19 = .ok (.ireturn, 1) := by decide +kernel
set_option maxRecDepth 20000 in
theorem ggX2_count_X0_differentRows : GoodIn wsX2_count wsX0_differentRows := goodIn_r _ [10, 11, 12, 13, 14, 9, 15, 16, 17, 18, 19, 20, 21, 22, 23, 24, 25, 26, 27, 28, 29, 30, 31, 32, 33, 34, 35, 36, 37, 38, 39, 61, 62, 63, 64] (by decide +kernel) (by decide +kernel)
set_option maxRecDepth 20000 in
theorem gX2_count_X0_differentRows : GoodIn wsX2_count (wsV RX2 82 RX0 yX0_differentRows wsX0_differentRows) := goodIn_app (goodIn_of _ (by decide +kernel)) ggX2_count_X0_differentRows
set_option maxRecDepth 20000 in
theorem ggX2_count_X2_seamPlace : GoodIn wsX2_count wsX2_seamPlace := goodIn_r _ [44, 3, 45, 17, 18, 9, 19, 11, 20, 46, 47, 48, 43, 49, 4, 50, 51, 52, 28, 53, 30, 54, 55, 33, 56, 57, 26, 27, 29, 31, 32, 34, 35, 36, 37, 38, 39, 58, 59, 60, 61, 62, 63, 64] (by decide +kernel) (by decide +kernel)
set_option maxRecDepth 20000 in
theorem gX2_count_X2_seamPlace : GoodIn wsX2_count (wsV RX2 86 RX2 yX2_seamPlace wsX2_seamPlace) := goodIn_app (goodIn_of _ (by decide +kernel)) ggX2_count_X2_seamPlace
set_option maxRecDepth 20000 in
theorem ggX2_count_X2_seamLengthFrom : GoodIn wsX2_count wsX2_seamLengthFrom := goodIn_r _ [49, 3, 4, 50, 51, 52, 28, 53, 30, 54, 55, 33, 56, 57, 26, 27, 29, 31, 32, 34, 35, 36, 37, 38, 39, 58, 59, 60, 61, 62, 63, 64] (by decide +kernel) (by decide +kernel)
set_option maxRecDepth 20000 in
theorem gX2_count_X2_seamLengthFrom : GoodIn wsX2_count (wsV RX2 89 RX2 yX2_seamLengthFrom wsX2_seamLengthFrom) := goodIn_app (goodIn_of _ (by decide +kernel)) ggX2_count_X2_seamLengthFrom
theorem dX2_count_0 : decode cX2_count 0 = .ok (.iload_n 1, 1) := by decide +kernel
theorem dX2_count_1 : decode cX2_count 1 = .ok (.tableswitch 94 0 5 #[39, 50, 61, 69, 77, 85], 39) := by decide +kernel
theorem dX2_count_40 : decode cX2_count 40 = .ok (.aload_n 0, 1) := by decide +kernel
theorem dX2_count_41 : decode cX2_count 41 = .ok (.getfield 10, 3) := by decide +kernel
theorem dX2_count_44 : decode cX2_count 44 = .ok (.getfield 34, 3) := by decide +kernel
theorem dX2_count_47 : decode cX2_count 47 = .ok (.getfield 37, 3) := by decide +kernel
theorem dX2_count_50 : decode cX2_count 50 = .ok (.ireturn, 1) := by decide +kernel
theorem dX2_count_51 : decode cX2_count 51 = .ok (.aload_n 0, 1) := by decide +kernel
theorem dX2_count_52 : decode cX2_count 52 = .ok (.getfield 16, 3) := by decide +kernel
theorem dX2_count_55 : decode cX2_count 55 = .ok (.getfield 34, 3) := by decide +kernel
theorem dX2_count_58 : decode cX2_count 58 = .ok (.getfield 37, 3) := by decide +kernel
theorem dX2_count_61 : decode cX2_count 61 = .ok (.ireturn, 1) := by decide +kernel
theorem dX2_count_62 : decode cX2_count 62 = .ok (.aload_n 0, 1) := by decide +kernel
theorem dX2_count_63 : decode cX2_count 63 = .ok (.getfield 22, 3) := by decide +kernel
theorem dX2_count_66 : decode cX2_count 66 = .ok (.getfield 37, 3) := by decide +kernel
theorem dX2_count_69 : decode cX2_count 69 = .ok (.ireturn, 1) := by decide +kernel
theorem dX2_count_70 : decode cX2_count 70 = .ok (.aload_n 0, 1) := by decide +kernel
theorem dX2_count_71 : decode cX2_count 71 = .ok (.getfield 10, 3) := by decide +kernel
theorem dX2_count_74 : decode cX2_count 74 = .ok (.invokevirtual 82, 3) := by decide +kernel
theorem dX2_count_77 : decode cX2_count 77 = .ok (.ireturn, 1) := by decide +kernel
theorem dX2_count_78 : decode cX2_count 78 = .ok (.aload_n 0, 1) := by decide +kernel
theorem dX2_count_79 : decode cX2_count 79 = .ok (.getfield 16, 3) := by decide +kernel
theorem dX2_count_82 : decode cX2_count 82 = .ok (.invokevirtual 82, 3) := by decide +kernel
theorem dX2_count_85 : decode cX2_count 85 = .ok (.ireturn, 1) := by decide +kernel
theorem dX2_count_86 : decode cX2_count 86 = .ok (.aload_n 0, 1) := by decide +kernel
theorem dX2_count_87 : decode cX2_count 87 = .ok (.aload_n 0, 1) := by decide +kernel
theorem dX2_count_88 : decode cX2_count 88 = .ok (.invokevirtual 86, 3) := by decide +kernel
theorem dX2_count_91 : decode cX2_count 91 = .ok (.invokevirtual 89, 3) := by decide +kernel
theorem dX2_count_94 : decode cX2_count 94 = .ok (.ireturn, 1) := by decide +kernel
theorem dX2_count_95 : decode cX2_count 95 = .ok (.new 92, 3) := by decide +kernel
theorem dX2_count_98 : decode cX2_count 98 = .ok (.dup, 1) := by decide +kernel
theorem dX2_count_99 : decode cX2_count 99 = .ok (.ldc 94, 2) := by decide +kernel
theorem dX2_count_101 : decode cX2_count 101 = .ok (.invokespecial 96, 3) := by decide +kernel
theorem dX2_count_104 : decode cX2_count 104 = .ok (.athrow, 1) := by decide +kernel
set_option maxRecDepth 20000 in
theorem ggX2_end_X2_hemOf : GoodIn wsX2_end wsX2_hemOf := goodIn_ca (goodIn_r _ [5, 6, 7, 8, 9, 22, 23, 24] (by decide +kernel) (by decide +kernel)) (goodIn_sub (fun _ h => List.mem_cons_of_mem _ (List.mem_append_right _ h)) (by decide +kernel))
set_option maxRecDepth 20000 in
theorem gX2_end_X2_hemOf : GoodIn wsX2_end (wsV RX2 26 RX2 yX2_hemOf wsX2_hemOf) := goodIn_app (goodIn_of _ (by decide +kernel)) ggX2_end_X2_hemOf
set_option maxRecDepth 20000 in
theorem ggX2_end_X2_requirePlace : GoodIn wsX2_end wsX2_requirePlace := goodIn_ca (goodIn_r _ [12, 6, 7, 25, 26] (by decide +kernel) (by decide +kernel)) (goodIn_sub (fun _ h => List.mem_cons_of_mem _ (List.mem_append_right _ h)) (by decide +kernel))
set_option maxRecDepth 20000 in
theorem gX2_end_X2_requirePlace : GoodIn wsX2_end (va_wsS RX2 74 yX2_requirePlace wsX2_requirePlace) := goodIn_app (goodIn_of _ (by decide +kernel)) ggX2_end_X2_requirePlace
set_option maxRecDepth 20000 in
theorem ggX2_end_X0_placeAt : GoodIn wsX2_end wsX0_placeAt := goodIn_r _ [17, 18, 19, 20, 21, 25, 26] (by decide +kernel) (by decide +kernel)
set_option maxRecDepth 20000 in
theorem gX2_end_X0_placeAt : GoodIn wsX2_end (wsV RX2 97 RX0 yX0_placeAt wsX0_placeAt) := goodIn_app (goodIn_of _ (by decide +kernel)) ggX2_end_X0_placeAt
theorem dX2_end_0 : decode cX2_end 0 = .ok (.aload_n 0, 1) := by decide +kernel
theorem dX2_end_1 : decode cX2_end 1 = .ok (.iload_n 1, 1) := by decide +kernel
theorem dX2_end_2 : decode cX2_end 2 = .ok (.invokevirtual 26, 3) := by decide +kernel
theorem dX2_end_5 : decode cX2_end 5 = .ok (.astore_n 3, 1) := by decide +kernel
theorem dX2_end_6 : decode cX2_end 6 = .ok (.aload_n 3, 1) := by decide +kernel
theorem dX2_end_7 : decode cX2_end 7 = .ok (.getfield 34, 3) := by decide +kernel
theorem dX2_end_10 : decode cX2_end 10 = .ok (.iload_n 2, 1) := by decide +kernel
theorem dX2_end_11 : decode cX2_end 11 = .ok (.invokestatic 74, 3) := by decide +kernel
theorem dX2_end_14 : decode cX2_end 14 = .ok (.aload_n 3, 1) := by decide +kernel
theorem dX2_end_15 : decode cX2_end 15 = .ok (.iload_n 2, 1) := by decide +kernel
theorem dX2_end_16 : decode cX2_end 16 = .ok (.invokevirtual 97, 3) := by decide +kernel
theorem dX2_end_19 : decode cX2_end 19 = .ok (.ireturn, 1) := by decide +kernel
set_option maxRecDepth 20000 in
theorem ggX2_rank_X2_hemOf : GoodIn wsX2_rank wsX2_hemOf := goodIn_ca (goodIn_r _ [5, 6, 7, 8, 9, 26, 27, 28] (by decide +kernel) (by decide +kernel)) (goodIn_sub (fun _ h => List.mem_cons_of_mem _ (List.mem_append_right _ h)) (by decide +kernel))
set_option maxRecDepth 20000 in
theorem gX2_rank_X2_hemOf : GoodIn wsX2_rank (wsV RX2 26 RX2 yX2_hemOf wsX2_hemOf) := goodIn_app (goodIn_of _ (by decide +kernel)) ggX2_rank_X2_hemOf
set_option maxRecDepth 20000 in
theorem ggX2_rank_X2_requirePlace : GoodIn wsX2_rank wsX2_requirePlace := goodIn_ca (goodIn_r _ [12, 6, 7, 29, 30] (by decide +kernel) (by decide +kernel)) (goodIn_sub (fun _ h => List.mem_cons_of_mem _ (List.mem_append_right _ h)) (by decide +kernel))
set_option maxRecDepth 20000 in
theorem gX2_rank_X2_requirePlace : GoodIn wsX2_rank (va_wsS RX2 74 yX2_requirePlace wsX2_requirePlace) := goodIn_app (goodIn_of _ (by decide +kernel)) ggX2_rank_X2_requirePlace
set_option maxRecDepth 20000 in
theorem ggX2_rank_X0_rankOf : GoodIn wsX2_rank wsX0_rankOf := goodIn_r _ [17, 18, 19, 20, 21, 16, 22, 23, 24, 25, 29, 30] (by decide +kernel) (by decide +kernel)
set_option maxRecDepth 20000 in
theorem gX2_rank_X0_rankOf : GoodIn wsX2_rank (wsV RX2 100 RX0 yX0_rankOf wsX0_rankOf) := goodIn_app (goodIn_of _ (by decide +kernel)) ggX2_rank_X0_rankOf
theorem dX2_rank_0 : decode cX2_rank 0 = .ok (.aload_n 0, 1) := by decide +kernel
theorem dX2_rank_1 : decode cX2_rank 1 = .ok (.iload_n 1, 1) := by decide +kernel
theorem dX2_rank_2 : decode cX2_rank 2 = .ok (.invokevirtual 26, 3) := by decide +kernel
theorem dX2_rank_5 : decode cX2_rank 5 = .ok (.astore_n 3, 1) := by decide +kernel
theorem dX2_rank_6 : decode cX2_rank 6 = .ok (.aload_n 3, 1) := by decide +kernel
theorem dX2_rank_7 : decode cX2_rank 7 = .ok (.getfield 34, 3) := by decide +kernel
theorem dX2_rank_10 : decode cX2_rank 10 = .ok (.iload_n 2, 1) := by decide +kernel
theorem dX2_rank_11 : decode cX2_rank 11 = .ok (.invokestatic 74, 3) := by decide +kernel
theorem dX2_rank_14 : decode cX2_rank 14 = .ok (.aload_n 3, 1) := by decide +kernel
theorem dX2_rank_15 : decode cX2_rank 15 = .ok (.iload_n 2, 1) := by decide +kernel
theorem dX2_rank_16 : decode cX2_rank 16 = .ok (.invokevirtual 100, 3) := by decide +kernel
theorem dX2_rank_19 : decode cX2_rank 19 = .ok (.ireturn, 1) := by decide +kernel
set_option maxRecDepth 20000 in
theorem ggX2_common_X2_hemOf : GoodIn wsX2_common wsX2_hemOf := goodIn_ca (goodIn_r _ [5, 6, 7, 8, 9, 30, 31, 32] (by decide +kernel) (by decide +kernel)) (goodIn_sub (fun _ h => List.mem_cons_of_mem _ (List.mem_append_right _ h)) (by decide +kernel))
set_option maxRecDepth 20000 in
theorem gX2_common_X2_hemOf : GoodIn wsX2_common (wsV RX2 26 RX2 yX2_hemOf wsX2_hemOf) := goodIn_app (goodIn_of _ (by decide +kernel)) ggX2_common_X2_hemOf
set_option maxRecDepth 20000 in
theorem ggX2_common_X2_requirePlace : GoodIn wsX2_common wsX2_requirePlace := goodIn_ca (goodIn_r _ [12, 6, 7, 33, 34] (by decide +kernel) (by decide +kernel)) (goodIn_sub (fun _ h => List.mem_cons_of_mem _ (List.mem_append_right _ h)) (by decide +kernel))
set_option maxRecDepth 20000 in
theorem gX2_common_X2_requirePlace : GoodIn wsX2_common (va_wsS RX2 74 yX2_requirePlace wsX2_requirePlace) := goodIn_app (goodIn_of _ (by decide +kernel)) ggX2_common_X2_requirePlace
set_option maxRecDepth 20000 in
theorem ggX2_common_X1_sharedWith : GoodIn wsX2_common wsX1_sharedWith := goodIn_r _ [17, 18, 19, 20, 21, 22, 23, 24, 25, 16, 26, 27, 33, 34] (by decide +kernel) (by decide +kernel)
set_option maxRecDepth 20000 in
theorem gX2_common_X1_sharedWith : GoodIn wsX2_common (wsV RX2 103 RX1 yX1_sharedWith wsX1_sharedWith) := goodIn_app (goodIn_of _ (by decide +kernel)) ggX2_common_X1_sharedWith
theorem dX2_common_0 : decode cX2_common 0 = .ok (.aload_n 0, 1) := by decide +kernel
theorem dX2_common_1 : decode cX2_common 1 = .ok (.iload_n 1, 1) := by decide +kernel
theorem dX2_common_2 : decode cX2_common 2 = .ok (.invokevirtual 26, 3) := by decide +kernel
theorem dX2_common_5 : decode cX2_common 5 = .ok (.getfield 34, 3) := by decide +kernel
theorem dX2_common_8 : decode cX2_common 8 = .ok (.astore 4, 2) := by decide +kernel
theorem dX2_common_10 : decode cX2_common 10 = .ok (.aload 4, 2) := by decide +kernel
theorem dX2_common_12 : decode cX2_common 12 = .ok (.iload_n 2, 1) := by decide +kernel
theorem dX2_common_13 : decode cX2_common 13 = .ok (.invokestatic 74, 3) := by decide +kernel
theorem dX2_common_16 : decode cX2_common 16 = .ok (.aload 4, 2) := by decide +kernel
theorem dX2_common_18 : decode cX2_common 18 = .ok (.iload_n 3, 1) := by decide +kernel
theorem dX2_common_19 : decode cX2_common 19 = .ok (.invokestatic 74, 3) := by decide +kernel
theorem dX2_common_22 : decode cX2_common 22 = .ok (.aload 4, 2) := by decide +kernel
theorem dX2_common_24 : decode cX2_common 24 = .ok (.iload_n 2, 1) := by decide +kernel
theorem dX2_common_25 : decode cX2_common 25 = .ok (.aload 4, 2) := by decide +kernel
theorem dX2_common_27 : decode cX2_common 27 = .ok (.iload_n 3, 1) := by decide +kernel
theorem dX2_common_28 : decode cX2_common 28 = .ok (.invokevirtual 103, 3) := by decide +kernel
theorem dX2_common_31 : decode cX2_common 31 = .ok (.ireturn, 1) := by decide +kernel
set_option maxRecDepth 20000 in
theorem ggX2_against_X2_requirePlace : GoodIn wsX2_against wsX2_requirePlace := goodIn_ca (goodIn_r _ [6, 7, 8, 33, 34] (by decide +kernel) (by decide +kernel)) (goodIn_sub (fun _ h => List.mem_cons_of_mem _ (List.mem_append_right _ h)) (by decide +kernel))
set_option maxRecDepth 20000 in
theorem gX2_against_X2_requirePlace : GoodIn wsX2_against (va_wsS RX2 74 yX2_requirePlace wsX2_requirePlace) := goodIn_app (goodIn_of _ (by decide +kernel)) ggX2_against_X2_requirePlace
set_option maxRecDepth 20000 in
theorem ggX2_against_X1_difference : GoodIn wsX2_against wsX1_difference := goodIn_r _ [13, 14, 15, 16, 12, 17, 18, 19, 20, 21, 22, 23, 24, 25, 26, 27, 33, 34] (by decide +kernel) (by decide +kernel)
set_option maxRecDepth 20000 in
theorem gX2_against_X1_difference : GoodIn wsX2_against (wsV RX2 107 RX1 yX1_difference wsX1_difference) := goodIn_app (goodIn_of _ (by decide +kernel)) ggX2_against_X1_difference
theorem dX2_against_0 : decode cX2_against 0 = .ok (.aload_n 0, 1) := by decide +kernel
theorem dX2_against_1 : decode cX2_against 1 = .ok (.getfield 10, 3) := by decide +kernel
theorem dX2_against_4 : decode cX2_against 4 = .ok (.getfield 34, 3) := by decide +kernel
theorem dX2_against_7 : decode cX2_against 7 = .ok (.iload_n 1, 1) := by decide +kernel
theorem dX2_against_8 : decode cX2_against 8 = .ok (.invokestatic 74, 3) := by decide +kernel
theorem dX2_against_11 : decode cX2_against 11 = .ok (.aload_n 0, 1) := by decide +kernel
theorem dX2_against_12 : decode cX2_against 12 = .ok (.getfield 16, 3) := by decide +kernel
theorem dX2_against_15 : decode cX2_against 15 = .ok (.getfield 34, 3) := by decide +kernel
theorem dX2_against_18 : decode cX2_against 18 = .ok (.iload_n 2, 1) := by decide +kernel
theorem dX2_against_19 : decode cX2_against 19 = .ok (.invokestatic 74, 3) := by decide +kernel
theorem dX2_against_22 : decode cX2_against 22 = .ok (.aload_n 0, 1) := by decide +kernel
theorem dX2_against_23 : decode cX2_against 23 = .ok (.getfield 10, 3) := by decide +kernel
theorem dX2_against_26 : decode cX2_against 26 = .ok (.getfield 34, 3) := by decide +kernel
theorem dX2_against_29 : decode cX2_against 29 = .ok (.iload_n 1, 1) := by decide +kernel
theorem dX2_against_30 : decode cX2_against 30 = .ok (.aload_n 0, 1) := by decide +kernel
theorem dX2_against_31 : decode cX2_against 31 = .ok (.getfield 16, 3) := by decide +kernel
theorem dX2_against_34 : decode cX2_against 34 = .ok (.getfield 34, 3) := by decide +kernel
theorem dX2_against_37 : decode cX2_against 37 = .ok (.iload_n 2, 1) := by decide +kernel
theorem dX2_against_38 : decode cX2_against 38 = .ok (.invokevirtual 107, 3) := by decide +kernel
theorem dX2_against_41 : decode cX2_against 41 = .ok (.ireturn, 1) := by decide +kernel
set_option maxRecDepth 20000 in
theorem ggX2_repeat_X2_hemOf : GoodIn wsX2_repeat wsX2_hemOf := goodIn_ca (goodIn_r _ [7, 1, 2, 8, 9, 57, 58, 59] (by decide +kernel) (by decide +kernel)) (goodIn_sub (fun _ h => List.mem_cons_of_mem _ (List.mem_append_right _ h)) (by decide +kernel))
set_option maxRecDepth 20000 in
theorem gX2_repeat_X2_hemOf : GoodIn wsX2_repeat (wsV RX2 26 RX2 yX2_hemOf wsX2_hemOf) := goodIn_app (goodIn_of _ (by decide +kernel)) ggX2_repeat_X2_hemOf
set_option maxRecDepth 20000 in
theorem ggX2_repeat_X0_repeatRank : GoodIn wsX2_repeat wsX0_repeatRank := goodIn_r _ [14, 15, 16, 17, 18, 13, 19, 20, 21, 22, 23, 24, 25, 26, 27, 28, 29, 30, 31, 32, 33, 34, 35, 36, 37, 38, 39, 55, 56, 60, 61] (by decide +kernel) (by decide +kernel)
set_option maxRecDepth 20000 in
theorem gX2_repeat_X0_repeatRank : GoodIn wsX2_repeat (wsV RX2 112 RX0 yX0_repeatRank wsX0_repeatRank) := goodIn_app (goodIn_of _ (by decide +kernel)) ggX2_repeat_X0_repeatRank
set_option maxRecDepth 20000 in
theorem ggX2_repeat_X0_sharedWithNext : GoodIn wsX2_repeat wsX0_sharedWithNext := goodIn_r _ [19, 15, 20, 21, 22, 13, 23, 24, 25, 26, 27, 28, 29, 30, 31, 32, 33, 34, 35, 36, 37, 38, 39, 55, 56, 60, 61] (by decide +kernel) (by decide +kernel)
set_option maxRecDepth 20000 in
theorem gX2_repeat_X0_sharedWithNext : GoodIn wsX2_repeat (wsV RX2 115 RX0 yX0_sharedWithNext wsX0_sharedWithNext) := goodIn_app (goodIn_of _ (by decide +kernel)) ggX2_repeat_X0_sharedWithNext
set_option maxRecDepth 20000 in
theorem ggX2_repeat_X0_placeAt : GoodIn wsX2_repeat wsX0_placeAt := goodIn_r _ [23, 15, 24, 55, 56, 60, 61] (by decide +kernel) (by decide +kernel)
set_option maxRecDepth 20000 in
theorem gX2_repeat_X0_placeAt : GoodIn wsX2_repeat (wsV RX2 97 RX0 yX0_placeAt wsX0_placeAt) := goodIn_app (goodIn_of _ (by decide +kernel)) ggX2_repeat_X0_placeAt
set_option maxRecDepth 20000 in
theorem ggX2_repeat_X1_firstPlaceOf : GoodIn wsX2_repeat wsX1_firstPlaceOf := goodIn_r _ [45, 30, 46, 47, 48, 28, 49, 50, 26, 27, 29, 31, 32, 33, 34, 35, 36, 37, 38, 39, 60, 61] (by decide +kernel) (by decide +kernel)
set_option maxRecDepth 20000 in
theorem gX2_repeat_X1_firstPlaceOf : GoodIn wsX2_repeat (wsV RX2 118 RX1 yX1_firstPlaceOf wsX1_firstPlaceOf) := goodIn_app (goodIn_of _ (by decide +kernel)) ggX2_repeat_X1_firstPlaceOf
set_option maxRecDepth 20000 in
theorem ggX2_repeat_X1_placesOf : GoodIn wsX2_repeat wsX1_placesOf := goodIn_r _ [54, 30, 46, 47, 48, 28, 49, 50, 26, 27, 29, 31, 32, 33, 34, 35, 36, 37, 38, 39, 60, 61] (by decide +kernel) (by decide +kernel)
set_option maxRecDepth 20000 in
theorem gX2_repeat_X1_placesOf : GoodIn wsX2_repeat (wsV RX2 122 RX1 yX1_placesOf wsX1_placesOf) := goodIn_app (goodIn_of _ (by decide +kernel)) ggX2_repeat_X1_placesOf
theorem dX2_repeat_0 : decode cX2_repeat 0 = .ok (.aload_n 0, 1) := by decide +kernel
theorem dX2_repeat_1 : decode cX2_repeat 1 = .ok (.iload_n 1, 1) := by decide +kernel
theorem dX2_repeat_2 : decode cX2_repeat 2 = .ok (.invokevirtual 26, 3) := by decide +kernel
theorem dX2_repeat_5 : decode cX2_repeat 5 = .ok (.astore_n 3, 1) := by decide +kernel
theorem dX2_repeat_6 : decode cX2_repeat 6 = .ok (.iload_n 2, 1) := by decide +kernel
theorem dX2_repeat_7 : decode cX2_repeat 7 = .ok (.ifCond .lt 8, 3) := by decide +kernel
theorem dX2_repeat_10 : decode cX2_repeat 10 = .ok (.iload_n 2, 1) := by decide +kernel
theorem dX2_repeat_11 : decode cX2_repeat 11 = .ok (.iconst 3, 1) := by decide +kernel
theorem dX2_repeat_12 : decode cX2_repeat 12 = .ok (.if_icmp .lt 13, 3) := by decide +kernel
theorem dX2_repeat_15 : decode cX2_repeat 15 = .ok (.new 92, 3) := by decide +kernel
theorem dX2_repeat_18 : decode cX2_repeat 18 = .ok (.dup, 1) := by decide +kernel
theorem dX2_repeat_19 : decode cX2_repeat 19 = .ok (.ldc 110, 2) := by decide +kernel
theorem dX2_repeat_21 : decode cX2_repeat 21 = .ok (.invokespecial 96, 3) := by decide +kernel
theorem dX2_repeat_24 : decode cX2_repeat 24 = .ok (.athrow, 1) := by decide +kernel
theorem dX2_repeat_25 : decode cX2_repeat 25 = .ok (.aload_n 3, 1) := by decide +kernel
theorem dX2_repeat_26 : decode cX2_repeat 26 = .ok (.invokevirtual 112, 3) := by decide +kernel
theorem dX2_repeat_29 : decode cX2_repeat 29 = .ok (.istore 4, 2) := by decide +kernel
theorem dX2_repeat_31 : decode cX2_repeat 31 = .ok (.aload_n 3, 1) := by decide +kernel
theorem dX2_repeat_32 : decode cX2_repeat 32 = .ok (.iload 4, 2) := by decide +kernel
theorem dX2_repeat_34 : decode cX2_repeat 34 = .ok (.invokevirtual 115, 3) := by decide +kernel
theorem dX2_repeat_37 : decode cX2_repeat 37 = .ok (.istore 5, 2) := by decide +kernel
theorem dX2_repeat_39 : decode cX2_repeat 39 = .ok (.iload_n 2, 1) := by decide +kernel
theorem dX2_repeat_40 : decode cX2_repeat 40 = .ok (.ifCond .ne 6, 3) := by decide +kernel
theorem dX2_repeat_43 : decode cX2_repeat 43 = .ok (.iload 5, 2) := by decide +kernel
theorem dX2_repeat_45 : decode cX2_repeat 45 = .ok (.ireturn, 1) := by decide +kernel
theorem dX2_repeat_46 : decode cX2_repeat 46 = .ok (.aload_n 3, 1) := by decide +kernel
theorem dX2_repeat_47 : decode cX2_repeat 47 = .ok (.iload 4, 2) := by decide +kernel
theorem dX2_repeat_49 : decode cX2_repeat 49 = .ok (.invokevirtual 97, 3) := by decide +kernel
theorem dX2_repeat_52 : decode cX2_repeat 52 = .ok (.istore 6, 2) := by decide +kernel
theorem dX2_repeat_54 : decode cX2_repeat 54 = .ok (.iload_n 2, 1) := by decide +kernel
theorem dX2_repeat_55 : decode cX2_repeat 55 = .ok (.iconst 1, 1) := by decide +kernel
theorem dX2_repeat_56 : decode cX2_repeat 56 = .ok (.if_icmp .ne 19, 3) := by decide +kernel
theorem dX2_repeat_59 : decode cX2_repeat 59 = .ok (.aload_n 3, 1) := by decide +kernel
theorem dX2_repeat_60 : decode cX2_repeat 60 = .ok (.getfield 34, 3) := by decide +kernel
theorem dX2_repeat_63 : decode cX2_repeat 63 = .ok (.aload_n 3, 1) := by decide +kernel
theorem dX2_repeat_64 : decode cX2_repeat 64 = .ok (.getfield 34, 3) := by decide +kernel
theorem dX2_repeat_67 : decode cX2_repeat 67 = .ok (.iload 6, 2) := by decide +kernel
theorem dX2_repeat_69 : decode cX2_repeat 69 = .ok (.iload 5, 2) := by decide +kernel
theorem dX2_repeat_71 : decode cX2_repeat 71 = .ok (.invokevirtual 118, 3) := by decide +kernel
theorem dX2_repeat_74 : decode cX2_repeat 74 = .ok (.ireturn, 1) := by decide +kernel
theorem dX2_repeat_75 : decode cX2_repeat 75 = .ok (.aload_n 3, 1) := by decide +kernel
theorem dX2_repeat_76 : decode cX2_repeat 76 = .ok (.getfield 34, 3) := by decide +kernel
theorem dX2_repeat_79 : decode cX2_repeat 79 = .ok (.aload_n 3, 1) := by decide +kernel
theorem dX2_repeat_80 : decode cX2_repeat 80 = .ok (.getfield 34, 3) := by decide +kernel
theorem dX2_repeat_83 : decode cX2_repeat 83 = .ok (.iload 6, 2) := by decide +kernel
theorem dX2_repeat_85 : decode cX2_repeat 85 = .ok (.iload 5, 2) := by decide +kernel
theorem dX2_repeat_87 : decode cX2_repeat 87 = .ok (.invokevirtual 122, 3) := by decide +kernel
theorem dX2_repeat_90 : decode cX2_repeat 90 = .ok (.ireturn, 1) := by decide +kernel
set_option maxRecDepth 20000 in
theorem ggX2_row_X2_hemOf : GoodIn wsX2_row wsX2_hemOf := goodIn_ca (goodIn_r _ [7, 1, 2, 8, 9, 57, 58, 59] (by decide +kernel) (by decide +kernel)) (goodIn_sub (fun _ h => List.mem_cons_of_mem _ (List.mem_append_right _ h)) (by decide +kernel))
set_option maxRecDepth 20000 in
theorem gX2_row_X2_hemOf : GoodIn wsX2_row (wsV RX2 26 RX2 yX2_hemOf wsX2_hemOf) := goodIn_app (goodIn_of _ (by decide +kernel)) ggX2_row_X2_hemOf
set_option maxRecDepth 20000 in
theorem ggX2_row_X0_differentRows : GoodIn wsX2_row wsX0_differentRows := goodIn_r _ [14, 15, 16, 17, 18, 13, 19, 20, 21, 22, 23, 24, 25, 26, 27, 28, 29, 30, 31, 32, 33, 34, 35, 36, 37, 38, 39, 40, 41, 42, 43, 60, 61, 62, 63] (by decide +kernel) (by decide +kernel)
set_option maxRecDepth 20000 in
theorem gX2_row_X0_differentRows : GoodIn wsX2_row (wsV RX2 82 RX0 yX0_differentRows wsX0_differentRows) := goodIn_app (goodIn_of _ (by decide +kernel)) ggX2_row_X0_differentRows
set_option maxRecDepth 20000 in
theorem ggX2_row_X0_rowOfNumber : GoodIn wsX2_row wsX0_rowOfNumber := goodIn_r _ [47, 15, 16, 17, 18, 13, 19, 20, 21, 22, 23, 24, 25, 26, 27, 28, 29, 30, 31, 32, 33, 34, 35, 36, 37, 38, 39, 40, 41, 42, 43, 48, 49, 50, 51, 52, 53, 54, 55, 56, 60, 61, 62, 63] (by decide +kernel) (by decide +kernel)
set_option maxRecDepth 20000 in
theorem gX2_row_X0_rowOfNumber : GoodIn wsX2_row (wsV RX2 127 RX0 yX0_rowOfNumber wsX0_rowOfNumber) := goodIn_app (goodIn_of _ (by decide +kernel)) ggX2_row_X0_rowOfNumber
theorem dX2_row_0 : decode cX2_row 0 = .ok (.aload_n 0, 1) := by decide +kernel
theorem dX2_row_1 : decode cX2_row 1 = .ok (.iload_n 1, 1) := by decide +kernel
theorem dX2_row_2 : decode cX2_row 2 = .ok (.invokevirtual 26, 3) := by decide +kernel
theorem dX2_row_5 : decode cX2_row 5 = .ok (.astore_n 3, 1) := by decide +kernel
theorem dX2_row_6 : decode cX2_row 6 = .ok (.iload_n 2, 1) := by decide +kernel
theorem dX2_row_7 : decode cX2_row 7 = .ok (.ifCond .lt 11, 3) := by decide +kernel
theorem dX2_row_10 : decode cX2_row 10 = .ok (.iload_n 2, 1) := by decide +kernel
theorem dX2_row_11 : decode cX2_row 11 = .ok (.aload_n 3, 1) := by decide +kernel
theorem dX2_row_12 : decode cX2_row 12 = .ok (.invokevirtual 82, 3) := by decide +kernel
theorem dX2_row_15 : decode cX2_row 15 = .ok (.if_icmp .lt 13, 3) := by decide +kernel
theorem dX2_row_18 : decode cX2_row 18 = .ok (.new 92, 3) := by decide +kernel
theorem dX2_row_21 : decode cX2_row 21 = .ok (.dup, 1) := by decide +kernel
theorem dX2_row_22 : decode cX2_row 22 = .ok (.ldc 125, 2) := by decide +kernel
theorem dX2_row_24 : decode cX2_row 24 = .ok (.invokespecial 96, 3) := by decide +kernel
theorem dX2_row_27 : decode cX2_row 27 = .ok (.athrow, 1) := by decide +kernel
theorem dX2_row_28 : decode cX2_row 28 = .ok (.aload_n 3, 1) := by decide +kernel
theorem dX2_row_29 : decode cX2_row 29 = .ok (.iload_n 2, 1) := by decide +kernel
theorem dX2_row_30 : decode cX2_row 30 = .ok (.invokevirtual 127, 3) := by decide +kernel
theorem dX2_row_33 : decode cX2_row 33 = .ok (.ireturn, 1) := by decide +kernel
set_option maxRecDepth 20000 in
theorem ggX2_found_X2_hemOf : GoodIn wsX2_found wsX2_hemOf := goodIn_ca (goodIn_r _ [6, 7, 8, 9, 10, 36, 37, 38] (by decide +kernel) (by decide +kernel)) (goodIn_sub (fun _ h => List.mem_cons_of_mem _ (List.mem_append_right _ h)) (by decide +kernel))
set_option maxRecDepth 20000 in
theorem gX2_found_X2_hemOf : GoodIn wsX2_found (wsV RX2 26 RX2 yX2_hemOf wsX2_hemOf) := goodIn_app (goodIn_of _ (by decide +kernel)) ggX2_found_X2_hemOf
set_option maxRecDepth 20000 in
theorem ggX2_found_X1_placesOf : GoodIn wsX2_found wsX1_placesOf := goodIn_r _ [15, 16, 17, 18, 19, 14, 20, 21, 22, 23, 24, 25, 26, 27, 28, 29, 30, 31, 32, 33, 39, 40] (by decide +kernel) (by decide +kernel)
set_option maxRecDepth 20000 in
theorem gX2_found_X1_placesOf : GoodIn wsX2_found (wsV RX2 122 RX1 yX1_placesOf wsX1_placesOf) := goodIn_app (goodIn_of _ (by decide +kernel)) ggX2_found_X1_placesOf
theorem dX2_found_0 : decode cX2_found 0 = .ok (.aload_n 0, 1) := by decide +kernel
theorem dX2_found_1 : decode cX2_found 1 = .ok (.iload_n 1, 1) := by decide +kernel
theorem dX2_found_2 : decode cX2_found 2 = .ok (.invokevirtual 26, 3) := by decide +kernel
theorem dX2_found_5 : decode cX2_found 5 = .ok (.getfield 34, 3) := by decide +kernel
theorem dX2_found_8 : decode cX2_found 8 = .ok (.aload_n 0, 1) := by decide +kernel
theorem dX2_found_9 : decode cX2_found 9 = .ok (.getfield 22, 3) := by decide +kernel
theorem dX2_found_12 : decode cX2_found 12 = .ok (.iconst 0, 1) := by decide +kernel
theorem dX2_found_13 : decode cX2_found 13 = .ok (.aload_n 0, 1) := by decide +kernel
theorem dX2_found_14 : decode cX2_found 14 = .ok (.getfield 22, 3) := by decide +kernel
theorem dX2_found_17 : decode cX2_found 17 = .ok (.getfield 37, 3) := by decide +kernel
theorem dX2_found_20 : decode cX2_found 20 = .ok (.invokevirtual 122, 3) := by decide +kernel
theorem dX2_found_23 : decode cX2_found 23 = .ok (.ireturn, 1) := by decide +kernel
set_option maxRecDepth 20000 in
theorem ggX2_first_X2_hemOf : GoodIn wsX2_first wsX2_hemOf := goodIn_ca (goodIn_r _ [6, 7, 8, 9, 10, 36, 37, 38] (by decide +kernel) (by decide +kernel)) (goodIn_sub (fun _ h => List.mem_cons_of_mem _ (List.mem_append_right _ h)) (by decide +kernel))
set_option maxRecDepth 20000 in
theorem gX2_first_X2_hemOf : GoodIn wsX2_first (wsV RX2 26 RX2 yX2_hemOf wsX2_hemOf) := goodIn_app (goodIn_of _ (by decide +kernel)) ggX2_first_X2_hemOf
set_option maxRecDepth 20000 in
theorem ggX2_first_X1_firstPlaceOf : GoodIn wsX2_first wsX1_firstPlaceOf := goodIn_r _ [15, 16, 17, 18, 19, 14, 20, 21, 22, 23, 24, 25, 26, 27, 28, 29, 30, 31, 32, 33, 39, 40] (by decide +kernel) (by decide +kernel)
set_option maxRecDepth 20000 in
theorem gX2_first_X1_firstPlaceOf : GoodIn wsX2_first (wsV RX2 118 RX1 yX1_firstPlaceOf wsX1_firstPlaceOf) := goodIn_app (goodIn_of _ (by decide +kernel)) ggX2_first_X1_firstPlaceOf
theorem dX2_first_0 : decode cX2_first 0 = .ok (.aload_n 0, 1) := by decide +kernel
theorem dX2_first_1 : decode cX2_first 1 = .ok (.iload_n 1, 1) := by decide +kernel
theorem dX2_first_2 : decode cX2_first 2 = .ok (.invokevirtual 26, 3) := by decide +kernel
theorem dX2_first_5 : decode cX2_first 5 = .ok (.getfield 34, 3) := by decide +kernel
theorem dX2_first_8 : decode cX2_first 8 = .ok (.aload_n 0, 1) := by decide +kernel
theorem dX2_first_9 : decode cX2_first 9 = .ok (.getfield 22, 3) := by decide +kernel
theorem dX2_first_12 : decode cX2_first 12 = .ok (.iconst 0, 1) := by decide +kernel
theorem dX2_first_13 : decode cX2_first 13 = .ok (.aload_n 0, 1) := by decide +kernel
theorem dX2_first_14 : decode cX2_first 14 = .ok (.getfield 22, 3) := by decide +kernel
theorem dX2_first_17 : decode cX2_first 17 = .ok (.getfield 37, 3) := by decide +kernel
theorem dX2_first_20 : decode cX2_first 20 = .ok (.invokevirtual 118, 3) := by decide +kernel
theorem dX2_first_23 : decode cX2_first 23 = .ok (.ireturn, 1) := by decide +kernel
set_option maxRecDepth 20000 in
theorem ggX2_period_X2_hemOf : GoodIn wsX2_period wsX2_hemOf := goodIn_ca (goodIn_r _ [5, 6, 7, 8, 9, 31, 32, 33] (by decide +kernel) (by decide +kernel)) (goodIn_sub (fun _ h => List.mem_cons_of_mem _ (List.mem_append_right _ h)) (by decide +kernel))
set_option maxRecDepth 20000 in
theorem gX2_period_X2_hemOf : GoodIn wsX2_period (wsV RX2 26 RX2 yX2_hemOf wsX2_hemOf) := goodIn_app (goodIn_of _ (by decide +kernel)) ggX2_period_X2_hemOf
set_option maxRecDepth 20000 in
theorem ggX2_period_X1_leastPeriod : GoodIn wsX2_period wsX1_leastPeriod := goodIn_r _ [14, 15, 16, 17, 18, 13, 19, 20, 21, 22, 23, 24, 25, 26, 27, 28, 34, 35] (by decide +kernel) (by decide +kernel)
set_option maxRecDepth 20000 in
theorem gX2_period_X1_leastPeriod : GoodIn wsX2_period (wsV RX2 130 RX1 yX1_leastPeriod wsX1_leastPeriod) := goodIn_app (goodIn_of _ (by decide +kernel)) ggX2_period_X1_leastPeriod
theorem dX2_period_0 : decode cX2_period 0 = .ok (.aload_n 0, 1) := by decide +kernel
theorem dX2_period_1 : decode cX2_period 1 = .ok (.iload_n 1, 1) := by decide +kernel
theorem dX2_period_2 : decode cX2_period 2 = .ok (.invokevirtual 26, 3) := by decide +kernel
theorem dX2_period_5 : decode cX2_period 5 = .ok (.getfield 34, 3) := by decide +kernel
theorem dX2_period_8 : decode cX2_period 8 = .ok (.invokevirtual 130, 3) := by decide +kernel
theorem dX2_period_11 : decode cX2_period 11 = .ok (.ireturn, 1) := by decide +kernel
set_option maxRecDepth 20000 in
theorem ggX2_turned_X2_hemOf : GoodIn wsX2_turned wsX2_hemOf := goodIn_ca (goodIn_r _ [5, 6, 7, 8, 9, 31, 32, 33] (by decide +kernel) (by decide +kernel)) (goodIn_sub (fun _ h => List.mem_cons_of_mem _ (List.mem_append_right _ h)) (by decide +kernel))
set_option maxRecDepth 20000 in
theorem gX2_turned_X2_hemOf : GoodIn wsX2_turned (wsV RX2 26 RX2 yX2_hemOf wsX2_hemOf) := goodIn_app (goodIn_of _ (by decide +kernel)) ggX2_turned_X2_hemOf
set_option maxRecDepth 20000 in
theorem ggX2_turned_X1_bestBeginning : GoodIn wsX2_turned wsX1_bestBeginning := goodIn_r _ [14, 15, 16, 17, 18, 13, 19, 20, 21, 22, 23, 24, 25, 26, 27, 28, 34, 35] (by decide +kernel) (by decide +kernel)
set_option maxRecDepth 20000 in
theorem gX2_turned_X1_bestBeginning : GoodIn wsX2_turned (wsV RX2 133 RX1 yX1_bestBeginning wsX1_bestBeginning) := goodIn_app (goodIn_of _ (by decide +kernel)) ggX2_turned_X1_bestBeginning
theorem dX2_turned_0 : decode cX2_turned 0 = .ok (.aload_n 0, 1) := by decide +kernel
theorem dX2_turned_1 : decode cX2_turned 1 = .ok (.iload_n 1, 1) := by decide +kernel
theorem dX2_turned_2 : decode cX2_turned 2 = .ok (.invokevirtual 26, 3) := by decide +kernel
theorem dX2_turned_5 : decode cX2_turned 5 = .ok (.getfield 34, 3) := by decide +kernel
theorem dX2_turned_8 : decode cX2_turned 8 = .ok (.invokevirtual 133, 3) := by decide +kernel
theorem dX2_turned_11 : decode cX2_turned 11 = .ok (.ireturn, 1) := by decide +kernel
set_option maxRecDepth 20000 in
theorem ggX2_seam_X2_seamPlace : GoodIn wsX2_seam wsX2_seamPlace := goodIn_r _ [9, 3, 10, 11, 12, 13, 14, 15, 16, 17, 18, 19, 8, 20, 4, 21, 22, 23, 24, 25, 26, 27, 28, 29, 30, 31, 32, 33, 34, 35, 36, 37, 38, 39, 40, 41, 42, 51, 52, 53, 54, 55, 56, 57] (by decide +kernel) (by decide +kernel)
set_option maxRecDepth 20000 in
theorem gX2_seam_X2_seamPlace : GoodIn wsX2_seam (wsV RX2 86 RX2 yX2_seamPlace wsX2_seamPlace) := goodIn_app (goodIn_of _ (by decide +kernel)) ggX2_seam_X2_seamPlace
set_option maxRecDepth 20000 in
theorem ggX2_seam_X2_seamLengthFrom : GoodIn wsX2_seam wsX2_seamLengthFrom := goodIn_r _ [20, 3, 4, 21, 22, 23, 24, 25, 26, 27, 28, 29, 30, 31, 32, 33, 34, 35, 36, 37, 38, 39, 40, 41, 42, 51, 52, 53, 54, 55, 56, 57] (by decide +kernel) (by decide +kernel)
set_option maxRecDepth 20000 in
theorem gX2_seam_X2_seamLengthFrom : GoodIn wsX2_seam (wsV RX2 89 RX2 yX2_seamLengthFrom wsX2_seamLengthFrom) := goodIn_app (goodIn_of _ (by decide +kernel)) ggX2_seam_X2_seamLengthFrom
set_option maxRecDepth 20000 in
theorem ggX2_seam_X1_firstPlaceOf : GoodIn wsX2_seam wsX1_firstPlaceOf := goodIn_r _ [46, 26, 47, 48, 49, 24, 50, 31, 32, 33, 34, 35, 36, 29, 37, 38, 39, 40, 41, 42, 56, 57] (by decide +kernel) (by decide +kernel)
set_option maxRecDepth 20000 in
theorem gX2_seam_X1_firstPlaceOf : GoodIn wsX2_seam (wsV RX2 118 RX1 yX1_firstPlaceOf wsX1_firstPlaceOf) := goodIn_app (goodIn_of _ (by decide +kernel)) ggX2_seam_X1_firstPlaceOf
theorem dX2_seam_0 : decode cX2_seam 0 = .ok (.iload_n 1, 1) := by decide +kernel
theorem dX2_seam_1 : decode cX2_seam 1 = .ok (.ifCond .lt 8, 3) := by decide +kernel
theorem dX2_seam_4 : decode cX2_seam 4 = .ok (.iload_n 1, 1) := by decide +kernel
theorem dX2_seam_5 : decode cX2_seam 5 = .ok (.iconst 3, 1) := by decide +kernel
theorem dX2_seam_6 : decode cX2_seam 6 = .ok (.if_icmp .lt 13, 3) := by decide +kernel
theorem dX2_seam_9 : decode cX2_seam 9 = .ok (.new 92, 3) := by decide +kernel
theorem dX2_seam_12 : decode cX2_seam 12 = .ok (.dup, 1) := by decide +kernel
theorem dX2_seam_13 : decode cX2_seam 13 = .ok (.ldc 110, 2) := by decide +kernel
theorem dX2_seam_15 : decode cX2_seam 15 = .ok (.invokespecial 96, 3) := by decide +kernel
theorem dX2_seam_18 : decode cX2_seam 18 = .ok (.athrow, 1) := by decide +kernel
theorem dX2_seam_19 : decode cX2_seam 19 = .ok (.aload_n 0, 1) := by decide +kernel
theorem dX2_seam_20 : decode cX2_seam 20 = .ok (.invokevirtual 86, 3) := by decide +kernel
theorem dX2_seam_23 : decode cX2_seam 23 = .ok (.istore_n 2, 1) := by decide +kernel
theorem dX2_seam_24 : decode cX2_seam 24 = .ok (.aload_n 0, 1) := by decide +kernel
theorem dX2_seam_25 : decode cX2_seam 25 = .ok (.iload_n 2, 1) := by decide +kernel
theorem dX2_seam_26 : decode cX2_seam 26 = .ok (.invokevirtual 89, 3) := by decide +kernel
theorem dX2_seam_29 : decode cX2_seam 29 = .ok (.istore_n 3, 1) := by decide +kernel
theorem dX2_seam_30 : decode cX2_seam 30 = .ok (.iload_n 1, 1) := by decide +kernel
theorem dX2_seam_31 : decode cX2_seam 31 = .ok (.ifCond .ne 5, 3) := by decide +kernel
theorem dX2_seam_34 : decode cX2_seam 34 = .ok (.iload_n 3, 1) := by decide +kernel
theorem dX2_seam_35 : decode cX2_seam 35 = .ok (.ireturn, 1) := by decide +kernel
theorem dX2_seam_36 : decode cX2_seam 36 = .ok (.iload_n 1, 1) := by decide +kernel
theorem dX2_seam_37 : decode cX2_seam 37 = .ok (.iconst 1, 1) := by decide +kernel
theorem dX2_seam_38 : decode cX2_seam 38 = .ok (.if_icmp .ne 13, 3) := by decide +kernel
theorem dX2_seam_41 : decode cX2_seam 41 = .ok (.aload_n 0, 1) := by decide +kernel
theorem dX2_seam_42 : decode cX2_seam 42 = .ok (.getfield 10, 3) := by decide +kernel
theorem dX2_seam_45 : decode cX2_seam 45 = .ok (.getfield 34, 3) := by decide +kernel
theorem dX2_seam_48 : decode cX2_seam 48 = .ok (.goto 10, 3) := by decide +kernel
theorem dX2_seam_51 : decode cX2_seam 51 = .ok (.aload_n 0, 1) := by decide +kernel
theorem dX2_seam_52 : decode cX2_seam 52 = .ok (.getfield 16, 3) := by decide +kernel
theorem dX2_seam_55 : decode cX2_seam 55 = .ok (.getfield 34, 3) := by decide +kernel
theorem dX2_seam_58 : decode cX2_seam 58 = .ok (.astore 4, 2) := by decide +kernel
theorem dX2_seam_60 : decode cX2_seam 60 = .ok (.aload 4, 2) := by decide +kernel
theorem dX2_seam_62 : decode cX2_seam 62 = .ok (.aload_n 0, 1) := by decide +kernel
theorem dX2_seam_63 : decode cX2_seam 63 = .ok (.getfield 10, 3) := by decide +kernel
theorem dX2_seam_66 : decode cX2_seam 66 = .ok (.getfield 34, 3) := by decide +kernel
theorem dX2_seam_69 : decode cX2_seam 69 = .ok (.iload_n 2, 1) := by decide +kernel
theorem dX2_seam_70 : decode cX2_seam 70 = .ok (.iload_n 3, 1) := by decide +kernel
theorem dX2_seam_71 : decode cX2_seam 71 = .ok (.invokevirtual 118, 3) := by decide +kernel
theorem dX2_seam_74 : decode cX2_seam 74 = .ok (.ireturn, 1) := by decide +kernel
set_option maxRecDepth 20000 in
theorem ggX2_mean_X0_neighbourPairs : GoodIn wsX2_mean wsX0_neighbourPairs := goodIn_r _ [7, 8, 40, 41, 42, 43] (by decide +kernel) (by decide +kernel)
set_option maxRecDepth 20000 in
theorem gX2_mean_X0_neighbourPairs : GoodIn wsX2_mean (wsV RX2 139 RX0 yX0_neighbourPairs wsX0_neighbourPairs) := goodIn_app (goodIn_of _ (by decide +kernel)) ggX2_mean_X0_neighbourPairs
set_option maxRecDepth 20000 in
theorem ggX2_mean_X0_sharedByNeighbours : GoodIn wsX2_mean wsX0_sharedByNeighbours := goodIn_r _ [12, 8, 13, 14, 15, 6, 16, 17, 18, 19, 20, 21, 22, 23, 24, 25, 26, 27, 28, 29, 30, 31, 32, 33, 34, 35, 36, 40, 41, 42, 43] (by decide +kernel) (by decide +kernel)
set_option maxRecDepth 20000 in
theorem gX2_mean_X0_sharedByNeighbours : GoodIn wsX2_mean (wsV RX2 142 RX0 yX0_sharedByNeighbours wsX0_sharedByNeighbours) := goodIn_app (goodIn_of _ (by decide +kernel)) ggX2_mean_X0_sharedByNeighbours
theorem dX2_mean_0 : decode cX2_mean 0 = .ok (.aload_n 0, 1) := by decide +kernel
theorem dX2_mean_1 : decode cX2_mean 1 = .ok (.getfield 10, 3) := by decide +kernel
theorem dX2_mean_4 : decode cX2_mean 4 = .ok (.invokevirtual 139, 3) := by decide +kernel
theorem dX2_mean_7 : decode cX2_mean 7 = .ok (.aload_n 0, 1) := by decide +kernel
theorem dX2_mean_8 : decode cX2_mean 8 = .ok (.getfield 16, 3) := by decide +kernel
theorem dX2_mean_11 : decode cX2_mean 11 = .ok (.invokevirtual 139, 3) := by decide +kernel
theorem dX2_mean_14 : decode cX2_mean 14 = .ok (.iadd, 1) := by decide +kernel
theorem dX2_mean_15 : decode cX2_mean 15 = .ok (.istore_n 1, 1) := by decide +kernel
theorem dX2_mean_16 : decode cX2_mean 16 = .ok (.iload_n 1, 1) := by decide +kernel
theorem dX2_mean_17 : decode cX2_mean 17 = .ok (.ifCond .ne 5, 3) := by decide +kernel
theorem dX2_mean_20 : decode cX2_mean 20 = .ok (.dconst 0, 1) := by decide +kernel
theorem dX2_mean_21 : decode cX2_mean 21 = .ok (.dreturn, 1) := by decide +kernel
theorem dX2_mean_22 : decode cX2_mean 22 = .ok (.aload_n 0, 1) := by decide +kernel
theorem dX2_mean_23 : decode cX2_mean 23 = .ok (.getfield 10, 3) := by decide +kernel
theorem dX2_mean_26 : decode cX2_mean 26 = .ok (.invokevirtual 142, 3) := by decide +kernel
theorem dX2_mean_29 : decode cX2_mean 29 = .ok (.aload_n 0, 1) := by decide +kernel
theorem dX2_mean_30 : decode cX2_mean 30 = .ok (.getfield 16, 3) := by decide +kernel
theorem dX2_mean_33 : decode cX2_mean 33 = .ok (.invokevirtual 142, 3) := by decide +kernel
theorem dX2_mean_36 : decode cX2_mean 36 = .ok (.iadd, 1) := by decide +kernel
theorem dX2_mean_37 : decode cX2_mean 37 = .ok (.istore_n 2, 1) := by decide +kernel
theorem dX2_mean_38 : decode cX2_mean 38 = .ok (.iload_n 2, 1) := by decide +kernel
theorem dX2_mean_39 : decode cX2_mean 39 = .ok (.i2d, 1) := by decide +kernel
theorem dX2_mean_40 : decode cX2_mean 40 = .ok (.iload_n 1, 1) := by decide +kernel
theorem dX2_mean_41 : decode cX2_mean 41 = .ok (.i2d, 1) := by decide +kernel
theorem dX2_mean_42 : decode cX2_mean 42 = .ok (.ddiv, 1) := by decide +kernel
theorem dX2_mean_43 : decode cX2_mean 43 = .ok (.dreturn, 1) := by decide +kernel
set_option maxRecDepth 20000 in
theorem ggX2_digest_X2_count : GoodIn wsX2_digest wsX2_count := goodIn_ca (goodIn_r _ [7, 8, 9, 10, 11, 2, 12, 13, 14, 15, 16, 17, 18, 19, 20, 21, 22, 23, 24, 25, 26, 27, 28, 29, 30, 31, 32, 33, 34, 35, 36, 37, 38, 39, 40, 41, 42, 43, 44, 45, 46, 47, 48, 6, 49, 50, 51, 52, 53, 54, 55, 56, 57, 58, 59, 60, 61, 62, 132, 133, 134, 135, 136, 137, 138] (by decide +kernel) (by decide +kernel)) (goodIn_sub (fun _ h => List.mem_cons_of_mem _ (List.mem_append_right _ h)) (by decide +kernel))
set_option maxRecDepth 20000 in
theorem gX2_digest_X2_count : GoodIn wsX2_digest (wsV RX2 147 RX2 yX2_count wsX2_count) := goodIn_app (goodIn_of _ (by decide +kernel)) ggX2_digest_X2_count
set_option maxRecDepth 20000 in
theorem ggX2_digest_X2_mixed : GoodIn wsX2_digest wsX2_mixed := goodIn_r _ [65, 66] (by decide +kernel) (by decide +kernel)
set_option maxRecDepth 20000 in
theorem gX2_digest_X2_mixed : GoodIn wsX2_digest (va_wsS RX2 150 yX2_mixed wsX2_mixed) := goodIn_app (goodIn_of _ (by decide +kernel)) ggX2_digest_X2_mixed
set_option maxRecDepth 20000 in
theorem ggX2_digest_X2_hemMixed : GoodIn wsX2_digest wsX2_hemMixed := goodIn_ca (goodIn_r _ [70, 71, 72, 73, 6, 74, 8, 9, 10, 11, 75, 76, 77, 78, 42, 43, 34, 44, 36, 45, 63, 64, 65, 66, 50, 23, 24, 15, 25, 17, 26, 79, 80, 81, 82, 83, 84, 85, 86, 27, 28, 29, 30, 22, 31, 32, 33, 35, 37, 38, 39, 40, 41, 87, 88, 89, 90, 91, 92, 93, 94, 95, 62, 96, 97, 98, 99, 100, 101, 102, 103, 104, 105, 106, 107, 108, 109, 110, 111, 112, 113, 114, 115, 116, 117, 118, 119, 120, 121, 122, 123, 124, 125, 126, 127, 2, 135, 136, 137, 138, 132, 133, 134] (by decide +kernel) (by decide +kernel)) (goodIn_sub (fun _ h => List.mem_cons_of_mem _ (List.mem_append_right _ h)) (by decide +kernel))
set_option maxRecDepth 20000 in
theorem gX2_digest_X2_hemMixed : GoodIn wsX2_digest (wsV RX2 154 RX2 yX2_hemMixed wsX2_hemMixed) := goodIn_app (goodIn_of _ (by decide +kernel)) ggX2_digest_X2_hemMixed
set_option maxRecDepth 20000 in
theorem ggX2_digest_X2_stitchesMixed : GoodIn wsX2_digest wsX2_stitchesMixed := goodIn_r _ [77, 78, 42, 43, 34, 44, 36, 45, 63, 64, 6, 65, 66, 137, 138] (by decide +kernel) (by decide +kernel)
set_option maxRecDepth 20000 in
theorem gX2_digest_X2_stitchesMixed : GoodIn wsX2_digest (va_wsS RX2 157 yX2_stitchesMixed wsX2_stitchesMixed) := goodIn_app (goodIn_of _ (by decide +kernel)) ggX2_digest_X2_stitchesMixed
set_option maxRecDepth 20000 in
theorem ggX2_digest_X2_seam : GoodIn wsX2_digest wsX2_seam := goodIn_ca (goodIn_r _ [131, 8, 9, 10, 11, 46, 47, 48, 6, 49, 50, 23, 24, 15, 25, 17, 26, 51, 52, 53, 54, 55, 56, 57, 34, 58, 36, 59, 60, 39, 61, 62, 32, 33, 35, 37, 38, 40, 41, 42, 43, 44, 45, 88, 89, 90, 91, 92, 93, 94, 95, 132, 133, 134, 135, 136, 137, 138] (by decide +kernel) (by decide +kernel)) (goodIn_sub (fun _ h => List.mem_cons_of_mem _ (List.mem_append_right _ h)) (by decide +kernel))
set_option maxRecDepth 20000 in
theorem gX2_digest_X2_seam : GoodIn wsX2_digest (wsV RX2 161 RX2 yX2_seam wsX2_seam) := goodIn_app (goodIn_of _ (by decide +kernel)) ggX2_digest_X2_seam
theorem dX2_digest_0 : decode cX2_digest 0 = .ok (.ldc2_w 145, 3) := by decide +kernel
theorem dX2_digest_3 : decode cX2_digest 3 = .ok (.lstore_n 1, 1) := by decide +kernel
theorem dX2_digest_4 : decode cX2_digest 4 = .ok (.iconst 0, 1) := by decide +kernel
theorem dX2_digest_5 : decode cX2_digest 5 = .ok (.istore_n 3, 1) := by decide +kernel
theorem dX2_digest_6 : decode cX2_digest 6 = .ok (.iload_n 3, 1) := by decide +kernel
theorem dX2_digest_7 : decode cX2_digest 7 = .ok (.bipush 6, 2) := by decide +kernel
theorem dX2_digest_9 : decode cX2_digest 9 = .ok (.if_icmp .ge 19, 3) := by decide +kernel
theorem dX2_digest_12 : decode cX2_digest 12 = .ok (.lload_n 1, 1) := by decide +kernel
theorem dX2_digest_13 : decode cX2_digest 13 = .ok (.aload_n 0, 1) := by decide +kernel
theorem dX2_digest_14 : decode cX2_digest 14 = .ok (.iload_n 3, 1) := by decide +kernel
theorem dX2_digest_15 : decode cX2_digest 15 = .ok (.invokevirtual 147, 3) := by decide +kernel
theorem dX2_digest_18 : decode cX2_digest 18 = .ok (.invokestatic 150, 3) := by decide +kernel
theorem dX2_digest_21 : decode cX2_digest 21 = .ok (.lstore_n 1, 1) := by decide +kernel
theorem dX2_digest_22 : decode cX2_digest 22 = .ok (.iinc 3 1, 3) := by decide +kernel
theorem dX2_digest_25 : decode cX2_digest 25 = .ok (.goto (-19), 3) := by decide +kernel
theorem dX2_digest_28 : decode cX2_digest 28 = .ok (.aload_n 0, 1) := by decide +kernel
theorem dX2_digest_29 : decode cX2_digest 29 = .ok (.lload_n 1, 1) := by decide +kernel
theorem dX2_digest_30 : decode cX2_digest 30 = .ok (.iconst 0, 1) := by decide +kernel
theorem dX2_digest_31 : decode cX2_digest 31 = .ok (.invokevirtual 154, 3) := by decide +kernel
theorem dX2_digest_34 : decode cX2_digest 34 = .ok (.lstore_n 1, 1) := by decide +kernel
theorem dX2_digest_35 : decode cX2_digest 35 = .ok (.aload_n 0, 1) := by decide +kernel
theorem dX2_digest_36 : decode cX2_digest 36 = .ok (.lload_n 1, 1) := by decide +kernel
theorem dX2_digest_37 : decode cX2_digest 37 = .ok (.iconst 1, 1) := by decide +kernel
theorem dX2_digest_38 : decode cX2_digest 38 = .ok (.invokevirtual 154, 3) := by decide +kernel
theorem dX2_digest_41 : decode cX2_digest 41 = .ok (.lstore_n 1, 1) := by decide +kernel
theorem dX2_digest_42 : decode cX2_digest 42 = .ok (.lload_n 1, 1) := by decide +kernel
theorem dX2_digest_43 : decode cX2_digest 43 = .ok (.aload_n 0, 1) := by decide +kernel
theorem dX2_digest_44 : decode cX2_digest 44 = .ok (.getfield 22, 3) := by decide +kernel
theorem dX2_digest_47 : decode cX2_digest 47 = .ok (.invokestatic 157, 3) := by decide +kernel
theorem dX2_digest_50 : decode cX2_digest 50 = .ok (.lstore_n 1, 1) := by decide +kernel
theorem dX2_digest_51 : decode cX2_digest 51 = .ok (.iconst 0, 1) := by decide +kernel
theorem dX2_digest_52 : decode cX2_digest 52 = .ok (.istore_n 3, 1) := by decide +kernel
theorem dX2_digest_53 : decode cX2_digest 53 = .ok (.iload_n 3, 1) := by decide +kernel
theorem dX2_digest_54 : decode cX2_digest 54 = .ok (.iconst 3, 1) := by decide +kernel
theorem dX2_digest_55 : decode cX2_digest 55 = .ok (.if_icmp .ge 19, 3) := by decide +kernel
theorem dX2_digest_58 : decode cX2_digest 58 = .ok (.lload_n 1, 1) := by decide +kernel
theorem dX2_digest_59 : decode cX2_digest 59 = .ok (.aload_n 0, 1) := by decide +kernel
theorem dX2_digest_60 : decode cX2_digest 60 = .ok (.iload_n 3, 1) := by decide +kernel
theorem dX2_digest_61 : decode cX2_digest 61 = .ok (.invokevirtual 161, 3) := by decide +kernel
theorem dX2_digest_64 : decode cX2_digest 64 = .ok (.invokestatic 150, 3) := by decide +kernel
theorem dX2_digest_67 : decode cX2_digest 67 = .ok (.lstore_n 1, 1) := by decide +kernel
theorem dX2_digest_68 : decode cX2_digest 68 = .ok (.iinc 3 1, 3) := by decide +kernel
theorem dX2_digest_71 : decode cX2_digest 71 = .ok (.goto (-18), 3) := by decide +kernel
theorem dX2_digest_74 : decode cX2_digest 74 = .ok (.lload_n 1, 1) := by decide +kernel
theorem dX2_digest_75 : decode cX2_digest 75 = .ok (.lreturn, 1) := by decide +kernel
set_option maxRecDepth 20000 in
theorem ggX2_hemMixed_X2_hemOf : GoodIn wsX2_hemMixed wsX2_hemOf := goodIn_ca (goodIn_r _ [5, 6, 7, 8, 9, 100, 101, 102] (by decide +kernel) (by decide +kernel)) (goodIn_sub (fun _ h => List.mem_cons_of_mem _ (List.mem_append_right _ h)) (by decide +kernel))
set_option maxRecDepth 20000 in
theorem gX2_hemMixed_X2_hemOf : GoodIn wsX2_hemMixed (wsV RX2 26 RX2 yX2_hemOf wsX2_hemOf) := goodIn_app (goodIn_of _ (by decide +kernel)) ggX2_hemMixed_X2_hemOf
set_option maxRecDepth 20000 in
theorem ggX2_hemMixed_X2_stitchesMixed : GoodIn wsX2_hemMixed wsX2_stitchesMixed := goodIn_r _ [12, 13, 14, 15, 16, 17, 18, 19, 20, 21, 4, 22, 23, 98, 99] (by decide +kernel) (by decide +kernel)
set_option maxRecDepth 20000 in
theorem gX2_hemMixed_X2_stitchesMixed : GoodIn wsX2_hemMixed (va_wsS RX2 157 yX2_stitchesMixed wsX2_stitchesMixed) := goodIn_app (goodIn_of _ (by decide +kernel)) ggX2_hemMixed_X2_stitchesMixed
set_option maxRecDepth 20000 in
theorem ggX2_hemMixed_X0_placeAt : GoodIn wsX2_hemMixed wsX0_placeAt := goodIn_r _ [28, 29, 30, 96, 97, 98, 99] (by decide +kernel) (by decide +kernel)
set_option maxRecDepth 20000 in
theorem gX2_hemMixed_X0_placeAt : GoodIn wsX2_hemMixed (wsV RX2 97 RX0 yX0_placeAt wsX0_placeAt) := goodIn_app (goodIn_of _ (by decide +kernel)) ggX2_hemMixed_X0_placeAt
set_option maxRecDepth 20000 in
theorem ggX2_hemMixed_X2_mixed : GoodIn wsX2_hemMixed wsX2_mixed := goodIn_r _ [22, 23] (by decide +kernel) (by decide +kernel)
set_option maxRecDepth 20000 in
theorem gX2_hemMixed_X2_mixed : GoodIn wsX2_hemMixed (va_wsS RX2 150 yX2_mixed wsX2_mixed) := goodIn_app (goodIn_of _ (by decide +kernel)) ggX2_hemMixed_X2_mixed
set_option maxRecDepth 20000 in
theorem ggX2_hemMixed_X2_repeat : GoodIn wsX2_hemMixed wsX2_repeat := goodIn_ca (goodIn_r _ [34, 6, 7, 1, 2, 3, 4, 5, 8, 9, 35, 36, 37, 27, 38, 29, 39, 40, 41, 42, 43, 25, 26, 28, 30, 44, 45, 46, 16, 47, 18, 48, 49, 50, 51, 52, 14, 15, 17, 19, 53, 24, 54, 55, 56, 57, 58, 59, 60, 61, 62, 63, 64, 65, 66, 96, 97, 100, 101, 102, 98, 99] (by decide +kernel) (by decide +kernel)) (goodIn_sub (fun _ h => List.mem_cons_of_mem _ (List.mem_append_right _ h)) (by decide +kernel))
set_option maxRecDepth 20000 in
theorem gX2_hemMixed_X2_repeat : GoodIn wsX2_hemMixed (wsV RX2 164 RX2 yX2_repeat wsX2_repeat) := goodIn_app (goodIn_of _ (by decide +kernel)) ggX2_hemMixed_X2_repeat
set_option maxRecDepth 20000 in
theorem ggX2_hemMixed_X2_period : GoodIn wsX2_hemMixed wsX2_period := goodIn_ca (goodIn_r _ [70, 1, 2, 3, 4, 5, 6, 7, 8, 9, 71, 72, 73, 16, 74, 18, 62, 45, 46, 47, 48, 49, 50, 51, 52, 14, 15, 17, 19, 96, 97, 100, 101, 102, 98, 99] (by decide +kernel) (by decide +kernel)) (goodIn_sub (fun _ h => List.mem_cons_of_mem _ (List.mem_append_right _ h)) (by decide +kernel))
set_option maxRecDepth 20000 in
theorem gX2_hemMixed_X2_period : GoodIn wsX2_hemMixed (wsV RX2 168 RX2 yX2_period wsX2_period) := goodIn_app (goodIn_of _ (by decide +kernel)) ggX2_hemMixed_X2_period
set_option maxRecDepth 20000 in
theorem ggX2_hemMixed_X2_turned : GoodIn wsX2_hemMixed wsX2_turned := goodIn_ca (goodIn_r _ [78, 1, 2, 3, 4, 5, 6, 7, 8, 9, 79, 80, 81, 16, 82, 18, 83, 84, 85, 86, 87, 88, 89, 90, 52, 14, 15, 17, 19, 96, 97, 100, 101, 102, 98, 99] (by decide +kernel) (by decide +kernel)) (goodIn_sub (fun _ h => List.mem_cons_of_mem _ (List.mem_append_right _ h)) (by decide +kernel))
set_option maxRecDepth 20000 in
theorem gX2_hemMixed_X2_turned : GoodIn wsX2_hemMixed (wsV RX2 171 RX2 yX2_turned wsX2_turned) := goodIn_app (goodIn_of _ (by decide +kernel)) ggX2_hemMixed_X2_turned
set_option maxRecDepth 20000 in
theorem ggX2_hemMixed_X2_found : GoodIn wsX2_hemMixed wsX2_found := goodIn_ca (goodIn_r _ [94, 95, 1, 2, 3, 4, 5, 6, 7, 8, 9, 63, 64, 65, 16, 66, 18, 58, 59, 60, 61, 62, 45, 46, 47, 48, 49, 50, 51, 52, 14, 15, 17, 19, 96, 97, 100, 101, 102, 98, 99] (by decide +kernel) (by decide +kernel)) (goodIn_sub (fun _ h => List.mem_cons_of_mem _ (List.mem_append_right _ h)) (by decide +kernel))
set_option maxRecDepth 20000 in
theorem gX2_hemMixed_X2_found : GoodIn wsX2_hemMixed (wsV RX2 174 RX2 yX2_found wsX2_found) := goodIn_app (goodIn_of _ (by decide +kernel)) ggX2_hemMixed_X2_found
theorem dX2_hemMixed_0 : decode cX2_hemMixed 0 = .ok (.aload_n 0, 1) := by decide +kernel
theorem dX2_hemMixed_1 : decode cX2_hemMixed 1 = .ok (.iload_n 3, 1) := by decide +kernel
theorem dX2_hemMixed_2 : decode cX2_hemMixed 2 = .ok (.invokevirtual 26, 3) := by decide +kernel
theorem dX2_hemMixed_5 : decode cX2_hemMixed 5 = .ok (.astore 4, 2) := by decide +kernel
theorem dX2_hemMixed_7 : decode cX2_hemMixed 7 = .ok (.lload_n 1, 1) := by decide +kernel
theorem dX2_hemMixed_8 : decode cX2_hemMixed 8 = .ok (.aload 4, 2) := by decide +kernel
theorem dX2_hemMixed_10 : decode cX2_hemMixed 10 = .ok (.getfield 34, 3) := by decide +kernel
theorem dX2_hemMixed_13 : decode cX2_hemMixed 13 = .ok (.invokestatic 157, 3) := by decide +kernel
theorem dX2_hemMixed_16 : decode cX2_hemMixed 16 = .ok (.lstore 5, 2) := by decide +kernel
theorem dX2_hemMixed_18 : decode cX2_hemMixed 18 = .ok (.iconst 0, 1) := by decide +kernel
theorem dX2_hemMixed_19 : decode cX2_hemMixed 19 = .ok (.istore 7, 2) := by decide +kernel
theorem dX2_hemMixed_21 : decode cX2_hemMixed 21 = .ok (.iload 7, 2) := by decide +kernel
theorem dX2_hemMixed_23 : decode cX2_hemMixed 23 = .ok (.aload 4, 2) := by decide +kernel
theorem dX2_hemMixed_25 : decode cX2_hemMixed 25 = .ok (.getfield 34, 3) := by decide +kernel
theorem dX2_hemMixed_28 : decode cX2_hemMixed 28 = .ok (.getfield 37, 3) := by decide +kernel
theorem dX2_hemMixed_31 : decode cX2_hemMixed 31 = .ok (.if_icmp .ge 23, 3) := by decide +kernel
theorem dX2_hemMixed_34 : decode cX2_hemMixed 34 = .ok (.lload 5, 2) := by decide +kernel
theorem dX2_hemMixed_36 : decode cX2_hemMixed 36 = .ok (.aload 4, 2) := by decide +kernel
theorem dX2_hemMixed_38 : decode cX2_hemMixed 38 = .ok (.iload 7, 2) := by decide +kernel
theorem dX2_hemMixed_40 : decode cX2_hemMixed 40 = .ok (.invokevirtual 97, 3) := by decide +kernel
theorem dX2_hemMixed_43 : decode cX2_hemMixed 43 = .ok (.invokestatic 150, 3) := by decide +kernel
theorem dX2_hemMixed_46 : decode cX2_hemMixed 46 = .ok (.lstore 5, 2) := by decide +kernel
theorem dX2_hemMixed_48 : decode cX2_hemMixed 48 = .ok (.iinc 7 1, 3) := by decide +kernel
theorem dX2_hemMixed_51 : decode cX2_hemMixed 51 = .ok (.goto (-30), 3) := by decide +kernel
theorem dX2_hemMixed_54 : decode cX2_hemMixed 54 = .ok (.iconst 0, 1) := by decide +kernel
theorem dX2_hemMixed_55 : decode cX2_hemMixed 55 = .ok (.istore 7, 2) := by decide +kernel
theorem dX2_hemMixed_57 : decode cX2_hemMixed 57 = .ok (.iload 7, 2) := by decide +kernel
theorem dX2_hemMixed_59 : decode cX2_hemMixed 59 = .ok (.iconst 3, 1) := by decide +kernel
theorem dX2_hemMixed_60 : decode cX2_hemMixed 60 = .ok (.if_icmp .ge 23, 3) := by decide +kernel
theorem dX2_hemMixed_63 : decode cX2_hemMixed 63 = .ok (.lload 5, 2) := by decide +kernel
theorem dX2_hemMixed_65 : decode cX2_hemMixed 65 = .ok (.aload_n 0, 1) := by decide +kernel
theorem dX2_hemMixed_66 : decode cX2_hemMixed 66 = .ok (.iload_n 3, 1) := by decide +kernel
theorem dX2_hemMixed_67 : decode cX2_hemMixed 67 = .ok (.iload 7, 2) := by decide +kernel
theorem dX2_hemMixed_69 : decode cX2_hemMixed 69 = .ok (.invokevirtual 164, 3) := by decide +kernel
theorem dX2_hemMixed_72 : decode cX2_hemMixed 72 = .ok (.invokestatic 150, 3) := by decide +kernel
theorem dX2_hemMixed_75 : decode cX2_hemMixed 75 = .ok (.lstore 5, 2) := by decide +kernel
theorem dX2_hemMixed_77 : decode cX2_hemMixed 77 = .ok (.iinc 7 1, 3) := by decide +kernel
theorem dX2_hemMixed_80 : decode cX2_hemMixed 80 = .ok (.goto (-23), 3) := by decide +kernel
theorem dX2_hemMixed_83 : decode cX2_hemMixed 83 = .ok (.lload 5, 2) := by decide +kernel
theorem dX2_hemMixed_85 : decode cX2_hemMixed 85 = .ok (.aload_n 0, 1) := by decide +kernel
theorem dX2_hemMixed_86 : decode cX2_hemMixed 86 = .ok (.iload_n 3, 1) := by decide +kernel
theorem dX2_hemMixed_87 : decode cX2_hemMixed 87 = .ok (.invokevirtual 168, 3) := by decide +kernel
theorem dX2_hemMixed_90 : decode cX2_hemMixed 90 = .ok (.invokestatic 150, 3) := by decide +kernel
theorem dX2_hemMixed_93 : decode cX2_hemMixed 93 = .ok (.lstore 5, 2) := by decide +kernel
theorem dX2_hemMixed_95 : decode cX2_hemMixed 95 = .ok (.lload 5, 2) := by decide +kernel
theorem dX2_hemMixed_97 : decode cX2_hemMixed 97 = .ok (.aload_n 0, 1) := by decide +kernel
theorem dX2_hemMixed_98 : decode cX2_hemMixed 98 = .ok (.iload_n 3, 1) := by decide +kernel
theorem dX2_hemMixed_99 : decode cX2_hemMixed 99 = .ok (.invokevirtual 171, 3) := by decide +kernel
theorem dX2_hemMixed_102 : decode cX2_hemMixed 102 = .ok (.invokestatic 150, 3) := by decide +kernel
theorem dX2_hemMixed_105 : decode cX2_hemMixed 105 = .ok (.lstore 5, 2) := by decide +kernel
theorem dX2_hemMixed_107 : decode cX2_hemMixed 107 = .ok (.lload 5, 2) := by decide +kernel
theorem dX2_hemMixed_109 : decode cX2_hemMixed 109 = .ok (.aload_n 0, 1) := by decide +kernel
theorem dX2_hemMixed_110 : decode cX2_hemMixed 110 = .ok (.iload_n 3, 1) := by decide +kernel
theorem dX2_hemMixed_111 : decode cX2_hemMixed 111 = .ok (.invokevirtual 174, 3) := by decide +kernel
theorem dX2_hemMixed_114 : decode cX2_hemMixed 114 = .ok (.invokestatic 150, 3) := by decide +kernel
theorem dX2_hemMixed_117 : decode cX2_hemMixed 117 = .ok (.lreturn, 1) := by decide +kernel
set_option maxRecDepth 20000 in
theorem ggX2_stitchesMixed_X1_at : GoodIn wsX2_stitchesMixed wsX1_at := goodIn_r _ [5, 6, 7, 13, 14] (by decide +kernel) (by decide +kernel)
set_option maxRecDepth 20000 in
theorem gX2_stitchesMixed_X1_at : GoodIn wsX2_stitchesMixed (wsV RX2 78 RX1 yX1_at wsX1_at) := goodIn_app (goodIn_of _ (by decide +kernel)) ggX2_stitchesMixed_X1_at
set_option maxRecDepth 20000 in
theorem ggX2_stitchesMixed_X2_mixed : GoodIn wsX2_stitchesMixed wsX2_mixed := goodIn_r _ [11, 12] (by decide +kernel) (by decide +kernel)
set_option maxRecDepth 20000 in
theorem gX2_stitchesMixed_X2_mixed : GoodIn wsX2_stitchesMixed (va_wsS RX2 150 yX2_mixed wsX2_mixed) := goodIn_app (goodIn_of _ (by decide +kernel)) ggX2_stitchesMixed_X2_mixed
theorem dX2_stitchesMixed_0 : decode cX2_stitchesMixed 0 = .ok (.lload_n 0, 1) := by decide +kernel
theorem dX2_stitchesMixed_1 : decode cX2_stitchesMixed 1 = .ok (.lstore_n 3, 1) := by decide +kernel
theorem dX2_stitchesMixed_2 : decode cX2_stitchesMixed 2 = .ok (.iconst 0, 1) := by decide +kernel
theorem dX2_stitchesMixed_3 : decode cX2_stitchesMixed 3 = .ok (.istore 5, 2) := by decide +kernel
theorem dX2_stitchesMixed_5 : decode cX2_stitchesMixed 5 = .ok (.iload 5, 2) := by decide +kernel
theorem dX2_stitchesMixed_7 : decode cX2_stitchesMixed 7 = .ok (.aload_n 2, 1) := by decide +kernel
theorem dX2_stitchesMixed_8 : decode cX2_stitchesMixed 8 = .ok (.getfield 37, 3) := by decide +kernel
theorem dX2_stitchesMixed_11 : decode cX2_stitchesMixed 11 = .ok (.if_icmp .ge 20, 3) := by decide +kernel
theorem dX2_stitchesMixed_14 : decode cX2_stitchesMixed 14 = .ok (.lload_n 3, 1) := by decide +kernel
theorem dX2_stitchesMixed_15 : decode cX2_stitchesMixed 15 = .ok (.aload_n 2, 1) := by decide +kernel
theorem dX2_stitchesMixed_16 : decode cX2_stitchesMixed 16 = .ok (.iload 5, 2) := by decide +kernel
theorem dX2_stitchesMixed_18 : decode cX2_stitchesMixed 18 = .ok (.invokevirtual 78, 3) := by decide +kernel
theorem dX2_stitchesMixed_21 : decode cX2_stitchesMixed 21 = .ok (.invokestatic 150, 3) := by decide +kernel
theorem dX2_stitchesMixed_24 : decode cX2_stitchesMixed 24 = .ok (.lstore_n 3, 1) := by decide +kernel
theorem dX2_stitchesMixed_25 : decode cX2_stitchesMixed 25 = .ok (.iinc 5 1, 3) := by decide +kernel
theorem dX2_stitchesMixed_28 : decode cX2_stitchesMixed 28 = .ok (.goto (-23), 3) := by decide +kernel
theorem dX2_stitchesMixed_31 : decode cX2_stitchesMixed 31 = .ok (.lload_n 3, 1) := by decide +kernel
theorem dX2_stitchesMixed_32 : decode cX2_stitchesMixed 32 = .ok (.lreturn, 1) := by decide +kernel
theorem dX2_mixed_0 : decode cX2_mixed 0 = .ok (.lload_n 0, 1) := by decide +kernel
theorem dX2_mixed_1 : decode cX2_mixed 1 = .ok (.ldc2_w 177, 3) := by decide +kernel
theorem dX2_mixed_4 : decode cX2_mixed 4 = .ok (.lmul, 1) := by decide +kernel
theorem dX2_mixed_5 : decode cX2_mixed 5 = .ok (.iload_n 2, 1) := by decide +kernel
theorem dX2_mixed_6 : decode cX2_mixed 6 = .ok (.i2l, 1) := by decide +kernel
theorem dX2_mixed_7 : decode cX2_mixed 7 = .ok (.ladd, 1) := by decide +kernel
theorem dX2_mixed_8 : decode cX2_mixed 8 = .ok (.lreturn, 1) := by decide +kernel
theorem dX2_hemOf_0 : decode cX2_hemOf 0 = .ok (.iload_n 1, 1) := by decide +kernel
theorem dX2_hemOf_1 : decode cX2_hemOf 1 = .ok (.ifCond .ne 8, 3) := by decide +kernel
theorem dX2_hemOf_4 : decode cX2_hemOf 4 = .ok (.aload_n 0, 1) := by decide +kernel
theorem dX2_hemOf_5 : decode cX2_hemOf 5 = .ok (.getfield 10, 3) := by decide +kernel
theorem dX2_hemOf_8 : decode cX2_hemOf 8 = .ok (.areturn, 1) := by decide +kernel
theorem dX2_hemOf_9 : decode cX2_hemOf 9 = .ok (.iload_n 1, 1) := by decide +kernel
theorem dX2_hemOf_10 : decode cX2_hemOf 10 = .ok (.iconst 1, 1) := by decide +kernel
theorem dX2_hemOf_11 : decode cX2_hemOf 11 = .ok (.if_icmp .ne 8, 3) := by decide +kernel
theorem dX2_hemOf_14 : decode cX2_hemOf 14 = .ok (.aload_n 0, 1) := by decide +kernel
theorem dX2_hemOf_15 : decode cX2_hemOf 15 = .ok (.getfield 16, 3) := by decide +kernel
theorem dX2_hemOf_18 : decode cX2_hemOf 18 = .ok (.areturn, 1) := by decide +kernel
theorem dX2_hemOf_19 : decode cX2_hemOf 19 = .ok (.new 92, 3) := by decide +kernel
theorem dX2_hemOf_22 : decode cX2_hemOf 22 = .ok (.dup, 1) := by decide +kernel
theorem dX2_hemOf_23 : decode cX2_hemOf 23 = .ok (.ldc 179, 2) := by decide +kernel
theorem dX2_hemOf_25 : decode cX2_hemOf 25 = .ok (.invokespecial 96, 3) := by decide +kernel
theorem dX2_hemOf_28 : decode cX2_hemOf 28 = .ok (.athrow, 1) := by decide +kernel
theorem dX2_requireStitch_0 : decode cX2_requireStitch 0 = .ok (.iload_n 0, 1) := by decide +kernel
theorem dX2_requireStitch_1 : decode cX2_requireStitch 1 = .ok (.ifCond .lt 9, 3) := by decide +kernel
theorem dX2_requireStitch_4 : decode cX2_requireStitch 4 = .ok (.iload_n 0, 1) := by decide +kernel
theorem dX2_requireStitch_5 : decode cX2_requireStitch 5 = .ok (.bipush 9, 2) := by decide +kernel
theorem dX2_requireStitch_7 : decode cX2_requireStitch 7 = .ok (.if_icmp .lt 13, 3) := by decide +kernel
theorem dX2_requireStitch_10 : decode cX2_requireStitch 10 = .ok (.new 51, 3) := by decide +kernel
theorem dX2_requireStitch_13 : decode cX2_requireStitch 13 = .ok (.dup, 1) := by decide +kernel
theorem dX2_requireStitch_14 : decode cX2_requireStitch 14 = .ok (.ldc 181, 2) := by decide +kernel
theorem dX2_requireStitch_16 : decode cX2_requireStitch 16 = .ok (.invokespecial 55, 3) := by decide +kernel
theorem dX2_requireStitch_19 : decode cX2_requireStitch 19 = .ok (.athrow, 1) := by decide +kernel
theorem dX2_requireStitch_20 : decode cX2_requireStitch 20 = .ok (.return_, 1) := by decide +kernel
theorem dX2_requirePlace_0 : decode cX2_requirePlace 0 = .ok (.iload_n 1, 1) := by decide +kernel
theorem dX2_requirePlace_1 : decode cX2_requirePlace 1 = .ok (.ifCond .lt 11, 3) := by decide +kernel
theorem dX2_requirePlace_4 : decode cX2_requirePlace 4 = .ok (.iload_n 1, 1) := by decide +kernel
theorem dX2_requirePlace_5 : decode cX2_requirePlace 5 = .ok (.aload_n 0, 1) := by decide +kernel
theorem dX2_requirePlace_6 : decode cX2_requirePlace 6 = .ok (.getfield 37, 3) := by decide +kernel
theorem dX2_requirePlace_9 : decode cX2_requirePlace 9 = .ok (.if_icmp .lt 13, 3) := by decide +kernel
theorem dX2_requirePlace_12 : decode cX2_requirePlace 12 = .ok (.new 92, 3) := by decide +kernel
theorem dX2_requirePlace_15 : decode cX2_requirePlace 15 = .ok (.dup, 1) := by decide +kernel
theorem dX2_requirePlace_16 : decode cX2_requirePlace 16 = .ok (.ldc 183, 2) := by decide +kernel
theorem dX2_requirePlace_18 : decode cX2_requirePlace 18 = .ok (.invokespecial 96, 3) := by decide +kernel
theorem dX2_requirePlace_21 : decode cX2_requirePlace 21 = .ok (.athrow, 1) := by decide +kernel
theorem dX2_requirePlace_22 : decode cX2_requirePlace 22 = .ok (.return_, 1) := by decide +kernel
set_option maxRecDepth 20000 in
theorem ggX2_seamPlace_X0_placeAt : GoodIn wsX2_seamPlace wsX0_placeAt := goodIn_r _ [6, 7, 8, 40, 41, 42, 43] (by decide +kernel) (by decide +kernel)
set_option maxRecDepth 20000 in
theorem gX2_seamPlace_X0_placeAt : GoodIn wsX2_seamPlace (wsV RX2 97 RX0 yX0_placeAt wsX0_placeAt) := goodIn_app (goodIn_of _ (by decide +kernel)) ggX2_seamPlace_X0_placeAt
set_option maxRecDepth 20000 in
theorem ggX2_seamPlace_X2_seamLengthFrom : GoodIn wsX2_seamPlace wsX2_seamLengthFrom := goodIn_r _ [13, 1, 14, 15, 16, 17, 18, 19, 20, 21, 22, 23, 24, 25, 26, 27, 28, 29, 30, 31, 32, 33, 34, 35, 36, 37, 38, 39, 40, 41, 42, 43] (by decide +kernel) (by decide +kernel)
set_option maxRecDepth 20000 in
theorem gX2_seamPlace_X2_seamLengthFrom : GoodIn wsX2_seamPlace (wsV RX2 89 RX2 yX2_seamLengthFrom wsX2_seamLengthFrom) := goodIn_app (goodIn_of _ (by decide +kernel)) ggX2_seamPlace_X2_seamLengthFrom
theorem dX2_seamPlace_0 : decode cX2_seamPlace 0 = .ok (.iconst (-1), 1) := by decide +kernel
theorem dX2_seamPlace_1 : decode cX2_seamPlace 1 = .ok (.istore_n 1, 1) := by decide +kernel
theorem dX2_seamPlace_2 : decode cX2_seamPlace 2 = .ok (.iconst 0, 1) := by decide +kernel
theorem dX2_seamPlace_3 : decode cX2_seamPlace 3 = .ok (.istore_n 2, 1) := by decide +kernel
theorem dX2_seamPlace_4 : decode cX2_seamPlace 4 = .ok (.iconst 0, 1) := by decide +kernel
theorem dX2_seamPlace_5 : decode cX2_seamPlace 5 = .ok (.istore_n 3, 1) := by decide +kernel
theorem dX2_seamPlace_6 : decode cX2_seamPlace 6 = .ok (.iload_n 3, 1) := by decide +kernel
theorem dX2_seamPlace_7 : decode cX2_seamPlace 7 = .ok (.aload_n 0, 1) := by decide +kernel
theorem dX2_seamPlace_8 : decode cX2_seamPlace 8 = .ok (.getfield 10, 3) := by decide +kernel
theorem dX2_seamPlace_11 : decode cX2_seamPlace 11 = .ok (.getfield 34, 3) := by decide +kernel
theorem dX2_seamPlace_14 : decode cX2_seamPlace 14 = .ok (.getfield 37, 3) := by decide +kernel
theorem dX2_seamPlace_17 : decode cX2_seamPlace 17 = .ok (.if_icmp .ge 39, 3) := by decide +kernel
theorem dX2_seamPlace_20 : decode cX2_seamPlace 20 = .ok (.aload_n 0, 1) := by decide +kernel
theorem dX2_seamPlace_21 : decode cX2_seamPlace 21 = .ok (.getfield 10, 3) := by decide +kernel
theorem dX2_seamPlace_24 : decode cX2_seamPlace 24 = .ok (.iload_n 3, 1) := by decide +kernel
theorem dX2_seamPlace_25 : decode cX2_seamPlace 25 = .ok (.invokevirtual 97, 3) := by decide +kernel
theorem dX2_seamPlace_28 : decode cX2_seamPlace 28 = .ok (.istore 4, 2) := by decide +kernel
theorem dX2_seamPlace_30 : decode cX2_seamPlace 30 = .ok (.aload_n 0, 1) := by decide +kernel
theorem dX2_seamPlace_31 : decode cX2_seamPlace 31 = .ok (.iload 4, 2) := by decide +kernel
theorem dX2_seamPlace_33 : decode cX2_seamPlace 33 = .ok (.invokevirtual 89, 3) := by decide +kernel
theorem dX2_seamPlace_36 : decode cX2_seamPlace 36 = .ok (.istore 5, 2) := by decide +kernel
theorem dX2_seamPlace_38 : decode cX2_seamPlace 38 = .ok (.iload 5, 2) := by decide +kernel
theorem dX2_seamPlace_40 : decode cX2_seamPlace 40 = .ok (.iload_n 2, 1) := by decide +kernel
theorem dX2_seamPlace_41 : decode cX2_seamPlace 41 = .ok (.if_icmp .le 9, 3) := by decide +kernel
theorem dX2_seamPlace_44 : decode cX2_seamPlace 44 = .ok (.iload 4, 2) := by decide +kernel
theorem dX2_seamPlace_46 : decode cX2_seamPlace 46 = .ok (.istore_n 1, 1) := by decide +kernel
theorem dX2_seamPlace_47 : decode cX2_seamPlace 47 = .ok (.iload 5, 2) := by decide +kernel
theorem dX2_seamPlace_49 : decode cX2_seamPlace 49 = .ok (.istore_n 2, 1) := by decide +kernel
theorem dX2_seamPlace_50 : decode cX2_seamPlace 50 = .ok (.iinc 3 1, 3) := by decide +kernel
theorem dX2_seamPlace_53 : decode cX2_seamPlace 53 = .ok (.goto (-47), 3) := by decide +kernel
theorem dX2_seamPlace_56 : decode cX2_seamPlace 56 = .ok (.iload_n 1, 1) := by decide +kernel
theorem dX2_seamPlace_57 : decode cX2_seamPlace 57 = .ok (.ireturn, 1) := by decide +kernel
set_option maxRecDepth 20000 in
theorem ggX2_seamLengthFrom_X1_mostSharedWith : GoodIn wsX2_seamLengthFrom wsX1_mostSharedWith := goodIn_r _ [7, 8, 9, 10, 11, 12, 13, 14, 15, 6, 16, 17, 18, 19, 20, 21, 22, 23, 24, 30, 31] (by decide +kernel) (by decide +kernel)
set_option maxRecDepth 20000 in
theorem gX2_seamLengthFrom_X1_mostSharedWith : GoodIn wsX2_seamLengthFrom (wsV RX2 185 RX1 yX1_mostSharedWith wsX1_mostSharedWith) := goodIn_app (goodIn_of _ (by decide +kernel)) ggX2_seamLengthFrom_X1_mostSharedWith
theorem dX2_seamLengthFrom_0 : decode cX2_seamLengthFrom 0 = .ok (.aload_n 0, 1) := by decide +kernel
theorem dX2_seamLengthFrom_1 : decode cX2_seamLengthFrom 1 = .ok (.getfield 10, 3) := by decide +kernel
theorem dX2_seamLengthFrom_4 : decode cX2_seamLengthFrom 4 = .ok (.getfield 34, 3) := by decide +kernel
theorem dX2_seamLengthFrom_7 : decode cX2_seamLengthFrom 7 = .ok (.iload_n 1, 1) := by decide +kernel
theorem dX2_seamLengthFrom_8 : decode cX2_seamLengthFrom 8 = .ok (.aload_n 0, 1) := by decide +kernel
theorem dX2_seamLengthFrom_9 : decode cX2_seamLengthFrom 9 = .ok (.getfield 16, 3) := by decide +kernel
theorem dX2_seamLengthFrom_12 : decode cX2_seamLengthFrom 12 = .ok (.getfield 34, 3) := by decide +kernel
theorem dX2_seamLengthFrom_15 : decode cX2_seamLengthFrom 15 = .ok (.invokevirtual 185, 3) := by decide +kernel
theorem dX2_seamLengthFrom_18 : decode cX2_seamLengthFrom 18 = .ok (.ireturn, 1) := by decide +kernel
theorem dJ9_abs_0f7a4_0 : decode cJ9_abs_0f7a4 0 = .ok (.iload_n 0, 1) := by decide +kernel
theorem dJ9_abs_0f7a4_1 : decode cJ9_abs_0f7a4 1 = .ok (.ifCond .ge 8, 3) := by decide +kernel
theorem dJ9_abs_0f7a4_4 : decode cJ9_abs_0f7a4 4 = .ok (.iload_n 0, 1) := by decide +kernel
theorem dJ9_abs_0f7a4_5 : decode cJ9_abs_0f7a4 5 = .ok (.ineg, 1) := by decide +kernel
theorem dJ9_abs_0f7a4_6 : decode cJ9_abs_0f7a4 6 = .ok (.goto 4, 3) := by decide +kernel
theorem dJ9_abs_0f7a4_9 : decode cJ9_abs_0f7a4 9 = .ok (.iload_n 0, 1) := by decide +kernel
theorem dJ9_abs_0f7a4_10 : decode cJ9_abs_0f7a4 10 = .ok (.ireturn, 1) := by decide +kernel
theorem dJ9_max_7cf53_0 : decode cJ9_max_7cf53 0 = .ok (.iload_n 0, 1) := by decide +kernel
theorem dJ9_max_7cf53_1 : decode cJ9_max_7cf53 1 = .ok (.iload_n 1, 1) := by decide +kernel
theorem dJ9_max_7cf53_2 : decode cJ9_max_7cf53 2 = .ok (.if_icmp .lt 7, 3) := by decide +kernel
theorem dJ9_max_7cf53_5 : decode cJ9_max_7cf53 5 = .ok (.iload_n 0, 1) := by decide +kernel
theorem dJ9_max_7cf53_6 : decode cJ9_max_7cf53 6 = .ok (.goto 4, 3) := by decide +kernel
theorem dJ9_max_7cf53_9 : decode cJ9_max_7cf53 9 = .ok (.iload_n 1, 1) := by decide +kernel
theorem dJ9_max_7cf53_10 : decode cJ9_max_7cf53 10 = .ok (.ireturn, 1) := by decide +kernel
theorem dJ9_min_7cf53_0 : decode cJ9_min_7cf53 0 = .ok (.iload_n 0, 1) := by decide +kernel
theorem dJ9_min_7cf53_1 : decode cJ9_min_7cf53 1 = .ok (.iload_n 1, 1) := by decide +kernel
theorem dJ9_min_7cf53_2 : decode cJ9_min_7cf53 2 = .ok (.if_icmp .gt 7, 3) := by decide +kernel
theorem dJ9_min_7cf53_5 : decode cJ9_min_7cf53 5 = .ok (.iload_n 0, 1) := by decide +kernel
theorem dJ9_min_7cf53_6 : decode cJ9_min_7cf53 6 = .ok (.goto 4, 3) := by decide +kernel
theorem dJ9_min_7cf53_9 : decode cJ9_min_7cf53 9 = .ok (.iload_n 1, 1) := by decide +kernel
theorem dJ9_min_7cf53_10 : decode cJ9_min_7cf53 10 = .ok (.ireturn, 1) := by decide +kernel
end
section
set_option maxRecDepth 20000 in
theorem ggX3_init_X3_grow : GoodIn wsX3_init wsX3_grow := goodIn_r _ [20, 5, 6, 11, 8, 9, 10, 25, 26, 27, 28, 29, 30, 31, 32, 33, 34] (by decide +kernel) (by decide +kernel)
set_option maxRecDepth 20000 in
theorem gX3_init_X3_grow : GoodIn wsX3_init (wsV RX3 43 RX3 yX3_grow wsX3_grow) := goodIn_app (goodIn_of _ (by decide +kernel)) ggX3_init_X3_grow
set_option maxRecDepth 20000 in
theorem ggX3_init_X3_walk : GoodIn wsX3_init wsX3_walk := goodIn_r _ [24, 12, 13, 10, 14, 15, 5, 8, 21, 22, 23, 19, 25, 26, 27, 28, 29, 30, 31, 32, 33, 34] (by decide +kernel) (by decide +kernel)
set_option maxRecDepth 20000 in
theorem gX3_init_X3_walk : GoodIn wsX3_init (wsV RX3 47 RX3 yX3_walk wsX3_walk) := goodIn_app (goodIn_of _ (by decide +kernel)) ggX3_init_X3_walk
theorem dX3_init_0 : decode cX3_init 0 = .ok (.aload_n 0, 1) := by decide +kernel
theorem dX3_init_1 : decode cX3_init 1 = .ok (.invokespecial 1, 3) := by decide +kernel
theorem dX3_init_4 : decode cX3_init 4 = .ok (.aload_n 0, 1) := by decide +kernel
theorem dX3_init_5 : decode cX3_init 5 = .ok (.sipush 15300, 3) := by decide +kernel
theorem dX3_init_8 : decode cX3_init 8 = .ok (.newarray .int, 2) := by decide +kernel
theorem dX3_init_10 : decode cX3_init 10 = .ok (.putfield 7, 3) := by decide +kernel
theorem dX3_init_13 : decode cX3_init 13 = .ok (.aload_n 0, 1) := by decide +kernel
theorem dX3_init_14 : decode cX3_init 14 = .ok (.sipush 1700, 3) := by decide +kernel
theorem dX3_init_17 : decode cX3_init 17 = .ok (.newarray .int, 2) := by decide +kernel
theorem dX3_init_19 : decode cX3_init 19 = .ok (.putfield 13, 3) := by decide +kernel
theorem dX3_init_22 : decode cX3_init 22 = .ok (.aload_n 0, 1) := by decide +kernel
theorem dX3_init_23 : decode cX3_init 23 = .ok (.iconst 2, 1) := by decide +kernel
theorem dX3_init_24 : decode cX3_init 24 = .ok (.sipush 1700, 3) := by decide +kernel
theorem dX3_init_27 : decode cX3_init 27 = .ok (.multianewarray 16 2, 4) := by decide +kernel
theorem dX3_init_31 : decode cX3_init 31 = .ok (.putfield 18, 3) := by decide +kernel
theorem dX3_init_34 : decode cX3_init 34 = .ok (.aload_n 0, 1) := by decide +kernel
theorem dX3_init_35 : decode cX3_init 35 = .ok (.iconst 2, 1) := by decide +kernel
theorem dX3_init_36 : decode cX3_init 36 = .ok (.sipush 1700, 3) := by decide +kernel
theorem dX3_init_39 : decode cX3_init 39 = .ok (.multianewarray 16 2, 4) := by decide +kernel
theorem dX3_init_43 : decode cX3_init 43 = .ok (.putfield 21, 3) := by decide +kernel
theorem dX3_init_46 : decode cX3_init 46 = .ok (.aload_n 0, 1) := by decide +kernel
theorem dX3_init_47 : decode cX3_init 47 = .ok (.iconst 2, 1) := by decide +kernel
theorem dX3_init_48 : decode cX3_init 48 = .ok (.sipush 1700, 3) := by decide +kernel
theorem dX3_init_51 : decode cX3_init 51 = .ok (.multianewarray 16 2, 4) := by decide +kernel
theorem dX3_init_55 : decode cX3_init 55 = .ok (.putfield 24, 3) := by decide +kernel
theorem dX3_init_58 : decode cX3_init 58 = .ok (.aload_n 0, 1) := by decide +kernel
theorem dX3_init_59 : decode cX3_init 59 = .ok (.iconst 1, 1) := by decide +kernel
theorem dX3_init_60 : decode cX3_init 60 = .ok (.putfield 27, 3) := by decide +kernel
theorem dX3_init_63 : decode cX3_init 63 = .ok (.aload_n 0, 1) := by decide +kernel
theorem dX3_init_64 : decode cX3_init 64 = .ok (.iconst 2, 1) := by decide +kernel
theorem dX3_init_65 : decode cX3_init 65 = .ok (.sipush 900, 3) := by decide +kernel
theorem dX3_init_68 : decode cX3_init 68 = .ok (.multianewarray 16 2, 4) := by decide +kernel
theorem dX3_init_72 : decode cX3_init 72 = .ok (.putfield 31, 3) := by decide +kernel
theorem dX3_init_75 : decode cX3_init 75 = .ok (.aload_n 0, 1) := by decide +kernel
theorem dX3_init_76 : decode cX3_init 76 = .ok (.iconst 2, 1) := by decide +kernel
theorem dX3_init_77 : decode cX3_init 77 = .ok (.newarray .int, 2) := by decide +kernel
theorem dX3_init_79 : decode cX3_init 79 = .ok (.putfield 34, 3) := by decide +kernel
theorem dX3_init_82 : decode cX3_init 82 = .ok (.aload_n 0, 1) := by decide +kernel
theorem dX3_init_83 : decode cX3_init 83 = .ok (.iconst 2, 1) := by decide +kernel
theorem dX3_init_84 : decode cX3_init 84 = .ok (.bipush 42, 2) := by decide +kernel
theorem dX3_init_86 : decode cX3_init 86 = .ok (.multianewarray 16 2, 4) := by decide +kernel
theorem dX3_init_90 : decode cX3_init 90 = .ok (.putfield 37, 3) := by decide +kernel
theorem dX3_init_93 : decode cX3_init 93 = .ok (.aload_n 0, 1) := by decide +kernel
theorem dX3_init_94 : decode cX3_init 94 = .ok (.iconst 2, 1) := by decide +kernel
theorem dX3_init_95 : decode cX3_init 95 = .ok (.newarray .int, 2) := by decide +kernel
theorem dX3_init_97 : decode cX3_init 97 = .ok (.putfield 40, 3) := by decide +kernel
theorem dX3_init_100 : decode cX3_init 100 = .ok (.aload_n 0, 1) := by decide +kernel
theorem dX3_init_101 : decode cX3_init 101 = .ok (.iconst 0, 1) := by decide +kernel
theorem dX3_init_102 : decode cX3_init 102 = .ok (.aload_n 1, 1) := by decide +kernel
theorem dX3_init_103 : decode cX3_init 103 = .ok (.invokevirtual 43, 3) := by decide +kernel
theorem dX3_init_106 : decode cX3_init 106 = .ok (.aload_n 0, 1) := by decide +kernel
theorem dX3_init_107 : decode cX3_init 107 = .ok (.iconst 1, 1) := by decide +kernel
theorem dX3_init_108 : decode cX3_init 108 = .ok (.aload_n 2, 1) := by decide +kernel
theorem dX3_init_109 : decode cX3_init 109 = .ok (.invokevirtual 43, 3) := by decide +kernel
theorem dX3_init_112 : decode cX3_init 112 = .ok (.aload_n 0, 1) := by decide +kernel
theorem dX3_init_113 : decode cX3_init 113 = .ok (.iconst 0, 1) := by decide +kernel
theorem dX3_init_114 : decode cX3_init 114 = .ok (.iconst 0, 1) := by decide +kernel
theorem dX3_init_115 : decode cX3_init 115 = .ok (.invokevirtual 47, 3) := by decide +kernel
theorem dX3_init_118 : decode cX3_init 118 = .ok (.aload_n 0, 1) := by decide +kernel
theorem dX3_init_119 : decode cX3_init 119 = .ok (.iconst 1, 1) := by decide +kernel
theorem dX3_init_120 : decode cX3_init 120 = .ok (.iconst 0, 1) := by decide +kernel
theorem dX3_init_121 : decode cX3_init 121 = .ok (.invokevirtual 47, 3) := by decide +kernel
theorem dX3_init_124 : decode cX3_init 124 = .ok (.return_, 1) := by decide +kernel
theorem dX3_grow_0 : decode cX3_grow 0 = .ok (.iconst 0, 1) := by decide +kernel
theorem dX3_grow_1 : decode cX3_grow 1 = .ok (.istore_n 3, 1) := by decide +kernel
theorem dX3_grow_2 : decode cX3_grow 2 = .ok (.iload_n 3, 1) := by decide +kernel
theorem dX3_grow_3 : decode cX3_grow 3 = .ok (.aload_n 2, 1) := by decide +kernel
theorem dX3_grow_4 : decode cX3_grow 4 = .ok (.arraylength, 1) := by decide +kernel
theorem dX3_grow_5 : decode cX3_grow 5 = .ok (.if_icmp .ge 145, 3) := by decide +kernel
theorem dX3_grow_8 : decode cX3_grow 8 = .ok (.iconst 0, 1) := by decide +kernel
theorem dX3_grow_9 : decode cX3_grow 9 = .ok (.istore 4, 2) := by decide +kernel
theorem dX3_grow_11 : decode cX3_grow 11 = .ok (.iload_n 3, 1) := by decide +kernel
theorem dX3_grow_12 : decode cX3_grow 12 = .ok (.istore 5, 2) := by decide +kernel
theorem dX3_grow_14 : decode cX3_grow 14 = .ok (.iload 5, 2) := by decide +kernel
theorem dX3_grow_16 : decode cX3_grow 16 = .ok (.aload_n 2, 1) := by decide +kernel
theorem dX3_grow_17 : decode cX3_grow 17 = .ok (.arraylength, 1) := by decide +kernel
theorem dX3_grow_18 : decode cX3_grow 18 = .ok (.if_icmp .ge 114, 3) := by decide +kernel
theorem dX3_grow_21 : decode cX3_grow 21 = .ok (.bipush 9, 2) := by decide +kernel
theorem dX3_grow_23 : decode cX3_grow 23 = .ok (.iload 4, 2) := by decide +kernel
theorem dX3_grow_25 : decode cX3_grow 25 = .ok (.imul, 1) := by decide +kernel
theorem dX3_grow_26 : decode cX3_grow 26 = .ok (.aload_n 2, 1) := by decide +kernel
theorem dX3_grow_27 : decode cX3_grow 27 = .ok (.iload 5, 2) := by decide +kernel
theorem dX3_grow_29 : decode cX3_grow 29 = .ok (.iaload, 1) := by decide +kernel
theorem dX3_grow_30 : decode cX3_grow 30 = .ok (.iadd, 1) := by decide +kernel
theorem dX3_grow_31 : decode cX3_grow 31 = .ok (.istore 6, 2) := by decide +kernel
theorem dX3_grow_33 : decode cX3_grow 33 = .ok (.aload_n 0, 1) := by decide +kernel
theorem dX3_grow_34 : decode cX3_grow 34 = .ok (.getfield 7, 3) := by decide +kernel
theorem dX3_grow_37 : decode cX3_grow 37 = .ok (.iload 6, 2) := by decide +kernel
theorem dX3_grow_39 : decode cX3_grow 39 = .ok (.iaload, 1) := by decide +kernel
theorem dX3_grow_40 : decode cX3_grow 40 = .ok (.ifCond .ne 42, 3) := by decide +kernel
theorem dX3_grow_43 : decode cX3_grow 43 = .ok (.aload_n 0, 1) := by decide +kernel
theorem dX3_grow_44 : decode cX3_grow 44 = .ok (.getfield 13, 3) := by decide +kernel
theorem dX3_grow_47 : decode cX3_grow 47 = .ok (.aload_n 0, 1) := by decide +kernel
theorem dX3_grow_48 : decode cX3_grow 48 = .ok (.getfield 27, 3) := by decide +kernel
theorem dX3_grow_51 : decode cX3_grow 51 = .ok (.aload_n 0, 1) := by decide +kernel
theorem dX3_grow_52 : decode cX3_grow 52 = .ok (.getfield 13, 3) := by decide +kernel
theorem dX3_grow_55 : decode cX3_grow 55 = .ok (.iload 4, 2) := by decide +kernel
theorem dX3_grow_57 : decode cX3_grow 57 = .ok (.iaload, 1) := by decide +kernel
theorem dX3_grow_58 : decode cX3_grow 58 = .ok (.iconst 1, 1) := by decide +kernel
theorem dX3_grow_59 : decode cX3_grow 59 = .ok (.iadd, 1) := by decide +kernel
theorem dX3_grow_60 : decode cX3_grow 60 = .ok (.iastore, 1) := by decide +kernel
theorem dX3_grow_61 : decode cX3_grow 61 = .ok (.aload_n 0, 1) := by decide +kernel
theorem dX3_grow_62 : decode cX3_grow 62 = .ok (.getfield 7, 3) := by decide +kernel
theorem dX3_grow_65 : decode cX3_grow 65 = .ok (.iload 6, 2) := by decide +kernel
theorem dX3_grow_67 : decode cX3_grow 67 = .ok (.aload_n 0, 1) := by decide +kernel
theorem dX3_grow_68 : decode cX3_grow 68 = .ok (.getfield 27, 3) := by decide +kernel
theorem dX3_grow_71 : decode cX3_grow 71 = .ok (.iastore, 1) := by decide +kernel
theorem dX3_grow_72 : decode cX3_grow 72 = .ok (.aload_n 0, 1) := by decide +kernel
theorem dX3_grow_73 : decode cX3_grow 73 = .ok (.dup, 1) := by decide +kernel
theorem dX3_grow_74 : decode cX3_grow 74 = .ok (.getfield 27, 3) := by decide +kernel
theorem dX3_grow_77 : decode cX3_grow 77 = .ok (.iconst 1, 1) := by decide +kernel
theorem dX3_grow_78 : decode cX3_grow 78 = .ok (.iadd, 1) := by decide +kernel
theorem dX3_grow_79 : decode cX3_grow 79 = .ok (.putfield 27, 3) := by decide +kernel
theorem dX3_grow_82 : decode cX3_grow 82 = .ok (.aload_n 0, 1) := by decide +kernel
theorem dX3_grow_83 : decode cX3_grow 83 = .ok (.getfield 7, 3) := by decide +kernel
theorem dX3_grow_86 : decode cX3_grow 86 = .ok (.iload 6, 2) := by decide +kernel
theorem dX3_grow_88 : decode cX3_grow 88 = .ok (.iaload, 1) := by decide +kernel
theorem dX3_grow_89 : decode cX3_grow 89 = .ok (.istore 4, 2) := by decide +kernel
theorem dX3_grow_91 : decode cX3_grow 91 = .ok (.aload_n 0, 1) := by decide +kernel
theorem dX3_grow_92 : decode cX3_grow 92 = .ok (.getfield 18, 3) := by decide +kernel
theorem dX3_grow_95 : decode cX3_grow 95 = .ok (.iload_n 1, 1) := by decide +kernel
theorem dX3_grow_96 : decode cX3_grow 96 = .ok (.aaload, 1) := by decide +kernel
theorem dX3_grow_97 : decode cX3_grow 97 = .ok (.iload 4, 2) := by decide +kernel
theorem dX3_grow_99 : decode cX3_grow 99 = .ok (.iaload, 1) := by decide +kernel
theorem dX3_grow_100 : decode cX3_grow 100 = .ok (.ifCond .ne 13, 3) := by decide +kernel
theorem dX3_grow_103 : decode cX3_grow 103 = .ok (.aload_n 0, 1) := by decide +kernel
theorem dX3_grow_104 : decode cX3_grow 104 = .ok (.getfield 21, 3) := by decide +kernel
theorem dX3_grow_107 : decode cX3_grow 107 = .ok (.iload_n 1, 1) := by decide +kernel
theorem dX3_grow_108 : decode cX3_grow 108 = .ok (.aaload, 1) := by decide +kernel
theorem dX3_grow_109 : decode cX3_grow 109 = .ok (.iload 4, 2) := by decide +kernel
theorem dX3_grow_111 : decode cX3_grow 111 = .ok (.iload_n 3, 1) := by decide +kernel
theorem dX3_grow_112 : decode cX3_grow 112 = .ok (.iastore, 1) := by decide +kernel
theorem dX3_grow_113 : decode cX3_grow 113 = .ok (.aload_n 0, 1) := by decide +kernel
theorem dX3_grow_114 : decode cX3_grow 114 = .ok (.getfield 18, 3) := by decide +kernel
theorem dX3_grow_117 : decode cX3_grow 117 = .ok (.iload_n 1, 1) := by decide +kernel
theorem dX3_grow_118 : decode cX3_grow 118 = .ok (.aaload, 1) := by decide +kernel
theorem dX3_grow_119 : decode cX3_grow 119 = .ok (.iload 4, 2) := by decide +kernel
theorem dX3_grow_121 : decode cX3_grow 121 = .ok (.dup2, 1) := by decide +kernel
theorem dX3_grow_122 : decode cX3_grow 122 = .ok (.iaload, 1) := by decide +kernel
theorem dX3_grow_123 : decode cX3_grow 123 = .ok (.iconst 1, 1) := by decide +kernel
theorem dX3_grow_124 : decode cX3_grow 124 = .ok (.iadd, 1) := by decide +kernel
theorem dX3_grow_125 : decode cX3_grow 125 = .ok (.iastore, 1) := by decide +kernel
theorem dX3_grow_126 : decode cX3_grow 126 = .ok (.iinc 5 1, 3) := by decide +kernel
theorem dX3_grow_129 : decode cX3_grow 129 = .ok (.goto (-115), 3) := by decide +kernel
theorem dX3_grow_132 : decode cX3_grow 132 = .ok (.aload_n 0, 1) := by decide +kernel
theorem dX3_grow_133 : decode cX3_grow 133 = .ok (.getfield 24, 3) := by decide +kernel
theorem dX3_grow_136 : decode cX3_grow 136 = .ok (.iload_n 1, 1) := by decide +kernel
theorem dX3_grow_137 : decode cX3_grow 137 = .ok (.aaload, 1) := by decide +kernel
theorem dX3_grow_138 : decode cX3_grow 138 = .ok (.iload 4, 2) := by decide +kernel
theorem dX3_grow_140 : decode cX3_grow 140 = .ok (.iload_n 3, 1) := by decide +kernel
theorem dX3_grow_141 : decode cX3_grow 141 = .ok (.iconst 1, 1) := by decide +kernel
theorem dX3_grow_142 : decode cX3_grow 142 = .ok (.iadd, 1) := by decide +kernel
theorem dX3_grow_143 : decode cX3_grow 143 = .ok (.iastore, 1) := by decide +kernel
theorem dX3_grow_144 : decode cX3_grow 144 = .ok (.iinc 3 1, 3) := by decide +kernel
theorem dX3_grow_147 : decode cX3_grow 147 = .ok (.goto (-145), 3) := by decide +kernel
theorem dX3_grow_150 : decode cX3_grow 150 = .ok (.return_, 1) := by decide +kernel
set_option maxRecDepth 20000 in
theorem ggX3_walk_X3_walk : GoodIn wsX3_walk wsX3_walk := goodIn_r _ [0, 1, 2, 3, 4, 5, 6, 7, 8, 9, 10, 11, 12, 13, 14, 15, 16, 17, 18, 19, 20, 21] (by decide +kernel) (by decide +kernel)
set_option maxRecDepth 20000 in
theorem gX3_walk_X3_walk : GoodIn wsX3_walk (wsV RX3 47 RX3 yX3_walk wsX3_walk) := goodIn_app (goodIn_of _ (by decide +kernel)) ggX3_walk_X3_walk
theorem dX3_walk_0 : decode cX3_walk 0 = .ok (.iload_n 2, 1) := by decide +kernel
theorem dX3_walk_1 : decode cX3_walk 1 = .ok (.ifCond .le 27, 3) := by decide +kernel
theorem dX3_walk_4 : decode cX3_walk 4 = .ok (.aload_n 0, 1) := by decide +kernel
theorem dX3_walk_5 : decode cX3_walk 5 = .ok (.getfield 31, 3) := by decide +kernel
theorem dX3_walk_8 : decode cX3_walk 8 = .ok (.iload_n 1, 1) := by decide +kernel
theorem dX3_walk_9 : decode cX3_walk 9 = .ok (.aaload, 1) := by decide +kernel
theorem dX3_walk_10 : decode cX3_walk 10 = .ok (.aload_n 0, 1) := by decide +kernel
theorem dX3_walk_11 : decode cX3_walk 11 = .ok (.getfield 34, 3) := by decide +kernel
theorem dX3_walk_14 : decode cX3_walk 14 = .ok (.iload_n 1, 1) := by decide +kernel
theorem dX3_walk_15 : decode cX3_walk 15 = .ok (.iaload, 1) := by decide +kernel
theorem dX3_walk_16 : decode cX3_walk 16 = .ok (.iload_n 2, 1) := by decide +kernel
theorem dX3_walk_17 : decode cX3_walk 17 = .ok (.iastore, 1) := by decide +kernel
theorem dX3_walk_18 : decode cX3_walk 18 = .ok (.aload_n 0, 1) := by decide +kernel
theorem dX3_walk_19 : decode cX3_walk 19 = .ok (.getfield 34, 3) := by decide +kernel
theorem dX3_walk_22 : decode cX3_walk 22 = .ok (.iload_n 1, 1) := by decide +kernel
theorem dX3_walk_23 : decode cX3_walk 23 = .ok (.dup2, 1) := by decide +kernel
theorem dX3_walk_24 : decode cX3_walk 24 = .ok (.iaload, 1) := by decide +kernel
theorem dX3_walk_25 : decode cX3_walk 25 = .ok (.iconst 1, 1) := by decide +kernel
theorem dX3_walk_26 : decode cX3_walk 26 = .ok (.iadd, 1) := by decide +kernel
theorem dX3_walk_27 : decode cX3_walk 27 = .ok (.iastore, 1) := by decide +kernel
theorem dX3_walk_28 : decode cX3_walk 28 = .ok (.aload_n 0, 1) := by decide +kernel
theorem dX3_walk_29 : decode cX3_walk 29 = .ok (.getfield 24, 3) := by decide +kernel
theorem dX3_walk_32 : decode cX3_walk 32 = .ok (.iload_n 1, 1) := by decide +kernel
theorem dX3_walk_33 : decode cX3_walk 33 = .ok (.aaload, 1) := by decide +kernel
theorem dX3_walk_34 : decode cX3_walk 34 = .ok (.iload_n 2, 1) := by decide +kernel
theorem dX3_walk_35 : decode cX3_walk 35 = .ok (.iaload, 1) := by decide +kernel
theorem dX3_walk_36 : decode cX3_walk 36 = .ok (.ifCond .le 36, 3) := by decide +kernel
theorem dX3_walk_39 : decode cX3_walk 39 = .ok (.aload_n 0, 1) := by decide +kernel
theorem dX3_walk_40 : decode cX3_walk 40 = .ok (.getfield 37, 3) := by decide +kernel
theorem dX3_walk_43 : decode cX3_walk 43 = .ok (.iload_n 1, 1) := by decide +kernel
theorem dX3_walk_44 : decode cX3_walk 44 = .ok (.aaload, 1) := by decide +kernel
theorem dX3_walk_45 : decode cX3_walk 45 = .ok (.aload_n 0, 1) := by decide +kernel
theorem dX3_walk_46 : decode cX3_walk 46 = .ok (.getfield 40, 3) := by decide +kernel
theorem dX3_walk_49 : decode cX3_walk 49 = .ok (.iload_n 1, 1) := by decide +kernel
theorem dX3_walk_50 : decode cX3_walk 50 = .ok (.iaload, 1) := by decide +kernel
theorem dX3_walk_51 : decode cX3_walk 51 = .ok (.aload_n 0, 1) := by decide +kernel
theorem dX3_walk_52 : decode cX3_walk 52 = .ok (.getfield 24, 3) := by decide +kernel
theorem dX3_walk_55 : decode cX3_walk 55 = .ok (.iload_n 1, 1) := by decide +kernel
theorem dX3_walk_56 : decode cX3_walk 56 = .ok (.aaload, 1) := by decide +kernel
theorem dX3_walk_57 : decode cX3_walk 57 = .ok (.iload_n 2, 1) := by decide +kernel
theorem dX3_walk_58 : decode cX3_walk 58 = .ok (.iaload, 1) := by decide +kernel
theorem dX3_walk_59 : decode cX3_walk 59 = .ok (.iconst 1, 1) := by decide +kernel
theorem dX3_walk_60 : decode cX3_walk 60 = .ok (.isub, 1) := by decide +kernel
theorem dX3_walk_61 : decode cX3_walk 61 = .ok (.iastore, 1) := by decide +kernel
theorem dX3_walk_62 : decode cX3_walk 62 = .ok (.aload_n 0, 1) := by decide +kernel
theorem dX3_walk_63 : decode cX3_walk 63 = .ok (.getfield 40, 3) := by decide +kernel
theorem dX3_walk_66 : decode cX3_walk 66 = .ok (.iload_n 1, 1) := by decide +kernel
theorem dX3_walk_67 : decode cX3_walk 67 = .ok (.dup2, 1) := by decide +kernel
theorem dX3_walk_68 : decode cX3_walk 68 = .ok (.iaload, 1) := by decide +kernel
theorem dX3_walk_69 : decode cX3_walk 69 = .ok (.iconst 1, 1) := by decide +kernel
theorem dX3_walk_70 : decode cX3_walk 70 = .ok (.iadd, 1) := by decide +kernel
theorem dX3_walk_71 : decode cX3_walk 71 = .ok (.iastore, 1) := by decide +kernel
theorem dX3_walk_72 : decode cX3_walk 72 = .ok (.iconst 0, 1) := by decide +kernel
theorem dX3_walk_73 : decode cX3_walk 73 = .ok (.istore_n 3, 1) := by decide +kernel
theorem dX3_walk_74 : decode cX3_walk 74 = .ok (.iload_n 3, 1) := by decide +kernel
theorem dX3_walk_75 : decode cX3_walk 75 = .ok (.bipush 9, 2) := by decide +kernel
theorem dX3_walk_77 : decode cX3_walk 77 = .ok (.if_icmp .ge 46, 3) := by decide +kernel
theorem dX3_walk_80 : decode cX3_walk 80 = .ok (.aload_n 0, 1) := by decide +kernel
theorem dX3_walk_81 : decode cX3_walk 81 = .ok (.getfield 7, 3) := by decide +kernel
theorem dX3_walk_84 : decode cX3_walk 84 = .ok (.bipush 9, 2) := by decide +kernel
theorem dX3_walk_86 : decode cX3_walk 86 = .ok (.iload_n 2, 1) := by decide +kernel
theorem dX3_walk_87 : decode cX3_walk 87 = .ok (.imul, 1) := by decide +kernel
theorem dX3_walk_88 : decode cX3_walk 88 = .ok (.iload_n 3, 1) := by decide +kernel
theorem dX3_walk_89 : decode cX3_walk 89 = .ok (.iadd, 1) := by decide +kernel
theorem dX3_walk_90 : decode cX3_walk 90 = .ok (.iaload, 1) := by decide +kernel
theorem dX3_walk_91 : decode cX3_walk 91 = .ok (.istore 4, 2) := by decide +kernel
theorem dX3_walk_93 : decode cX3_walk 93 = .ok (.iload 4, 2) := by decide +kernel
theorem dX3_walk_95 : decode cX3_walk 95 = .ok (.ifCond .le 22, 3) := by decide +kernel
theorem dX3_walk_98 : decode cX3_walk 98 = .ok (.aload_n 0, 1) := by decide +kernel
theorem dX3_walk_99 : decode cX3_walk 99 = .ok (.getfield 18, 3) := by decide +kernel
theorem dX3_walk_102 : decode cX3_walk 102 = .ok (.iload_n 1, 1) := by decide +kernel
theorem dX3_walk_103 : decode cX3_walk 103 = .ok (.aaload, 1) := by decide +kernel
theorem dX3_walk_104 : decode cX3_walk 104 = .ok (.iload 4, 2) := by decide +kernel
theorem dX3_walk_106 : decode cX3_walk 106 = .ok (.iaload, 1) := by decide +kernel
theorem dX3_walk_107 : decode cX3_walk 107 = .ok (.ifCond .le 10, 3) := by decide +kernel
theorem dX3_walk_110 : decode cX3_walk 110 = .ok (.aload_n 0, 1) := by decide +kernel
theorem dX3_walk_111 : decode cX3_walk 111 = .ok (.iload_n 1, 1) := by decide +kernel
theorem dX3_walk_112 : decode cX3_walk 112 = .ok (.iload 4, 2) := by decide +kernel
theorem dX3_walk_114 : decode cX3_walk 114 = .ok (.invokevirtual 47, 3) := by decide +kernel
theorem dX3_walk_117 : decode cX3_walk 117 = .ok (.iinc 3 1, 3) := by decide +kernel
theorem dX3_walk_120 : decode cX3_walk 120 = .ok (.goto (-46), 3) := by decide +kernel
theorem dX3_walk_123 : decode cX3_walk 123 = .ok (.return_, 1) := by decide +kernel
theorem dX3_repeat_0 : decode cX3_repeat 0 = .ok (.iconst 0, 1) := by decide +kernel
theorem dX3_repeat_1 : decode cX3_repeat 1 = .ok (.istore_n 2, 1) := by decide +kernel
theorem dX3_repeat_2 : decode cX3_repeat 2 = .ok (.iconst 0, 1) := by decide +kernel
theorem dX3_repeat_3 : decode cX3_repeat 3 = .ok (.istore_n 3, 1) := by decide +kernel
theorem dX3_repeat_4 : decode cX3_repeat 4 = .ok (.iload_n 3, 1) := by decide +kernel
theorem dX3_repeat_5 : decode cX3_repeat 5 = .ok (.aload_n 0, 1) := by decide +kernel
theorem dX3_repeat_6 : decode cX3_repeat 6 = .ok (.getfield 34, 3) := by decide +kernel
theorem dX3_repeat_9 : decode cX3_repeat 9 = .ok (.iload_n 1, 1) := by decide +kernel
theorem dX3_repeat_10 : decode cX3_repeat 10 = .ok (.iaload, 1) := by decide +kernel
theorem dX3_repeat_11 : decode cX3_repeat 11 = .ok (.if_icmp .ge 51, 3) := by decide +kernel
theorem dX3_repeat_14 : decode cX3_repeat 14 = .ok (.aload_n 0, 1) := by decide +kernel
theorem dX3_repeat_15 : decode cX3_repeat 15 = .ok (.getfield 31, 3) := by decide +kernel
theorem dX3_repeat_18 : decode cX3_repeat 18 = .ok (.iload_n 1, 1) := by decide +kernel
theorem dX3_repeat_19 : decode cX3_repeat 19 = .ok (.aaload, 1) := by decide +kernel
theorem dX3_repeat_20 : decode cX3_repeat 20 = .ok (.iload_n 3, 1) := by decide +kernel
theorem dX3_repeat_21 : decode cX3_repeat 21 = .ok (.iaload, 1) := by decide +kernel
theorem dX3_repeat_22 : decode cX3_repeat 22 = .ok (.istore 4, 2) := by decide +kernel
theorem dX3_repeat_24 : decode cX3_repeat 24 = .ok (.aload_n 0, 1) := by decide +kernel
theorem dX3_repeat_25 : decode cX3_repeat 25 = .ok (.getfield 18, 3) := by decide +kernel
theorem dX3_repeat_28 : decode cX3_repeat 28 = .ok (.iload_n 1, 1) := by decide +kernel
theorem dX3_repeat_29 : decode cX3_repeat 29 = .ok (.aaload, 1) := by decide +kernel
theorem dX3_repeat_30 : decode cX3_repeat 30 = .ok (.iload 4, 2) := by decide +kernel
theorem dX3_repeat_32 : decode cX3_repeat 32 = .ok (.iaload, 1) := by decide +kernel
theorem dX3_repeat_33 : decode cX3_repeat 33 = .ok (.iconst 1, 1) := by decide +kernel
theorem dX3_repeat_34 : decode cX3_repeat 34 = .ok (.if_icmp .le 22, 3) := by decide +kernel
theorem dX3_repeat_37 : decode cX3_repeat 37 = .ok (.aload_n 0, 1) := by decide +kernel
theorem dX3_repeat_38 : decode cX3_repeat 38 = .ok (.getfield 13, 3) := by decide +kernel
theorem dX3_repeat_41 : decode cX3_repeat 41 = .ok (.iload 4, 2) := by decide +kernel
theorem dX3_repeat_43 : decode cX3_repeat 43 = .ok (.iaload, 1) := by decide +kernel
theorem dX3_repeat_44 : decode cX3_repeat 44 = .ok (.aload_n 0, 1) := by decide +kernel
theorem dX3_repeat_45 : decode cX3_repeat 45 = .ok (.getfield 13, 3) := by decide +kernel
theorem dX3_repeat_48 : decode cX3_repeat 48 = .ok (.iload_n 2, 1) := by decide +kernel
theorem dX3_repeat_49 : decode cX3_repeat 49 = .ok (.iaload, 1) := by decide +kernel
theorem dX3_repeat_50 : decode cX3_repeat 50 = .ok (.if_icmp .le 6, 3) := by decide +kernel
theorem dX3_repeat_53 : decode cX3_repeat 53 = .ok (.iload 4, 2) := by decide +kernel
theorem dX3_repeat_55 : decode cX3_repeat 55 = .ok (.istore_n 2, 1) := by decide +kernel
theorem dX3_repeat_56 : decode cX3_repeat 56 = .ok (.iinc 3 1, 3) := by decide +kernel
theorem dX3_repeat_59 : decode cX3_repeat 59 = .ok (.goto (-55), 3) := by decide +kernel
theorem dX3_repeat_62 : decode cX3_repeat 62 = .ok (.iload_n 2, 1) := by decide +kernel
theorem dX3_repeat_63 : decode cX3_repeat 63 = .ok (.ifCond .ne 21, 3) := by decide +kernel
theorem dX3_repeat_66 : decode cX3_repeat 66 = .ok (.iconst 3, 1) := by decide +kernel
theorem dX3_repeat_67 : decode cX3_repeat 67 = .ok (.newarray .int, 2) := by decide +kernel
theorem dX3_repeat_69 : decode cX3_repeat 69 = .ok (.dup, 1) := by decide +kernel
theorem dX3_repeat_70 : decode cX3_repeat 70 = .ok (.iconst 0, 1) := by decide +kernel
theorem dX3_repeat_71 : decode cX3_repeat 71 = .ok (.iconst 0, 1) := by decide +kernel
theorem dX3_repeat_72 : decode cX3_repeat 72 = .ok (.iastore, 1) := by decide +kernel
theorem dX3_repeat_73 : decode cX3_repeat 73 = .ok (.dup, 1) := by decide +kernel
theorem dX3_repeat_74 : decode cX3_repeat 74 = .ok (.iconst 1, 1) := by decide +kernel
theorem dX3_repeat_75 : decode cX3_repeat 75 = .ok (.iconst (-1), 1) := by decide +kernel
theorem dX3_repeat_76 : decode cX3_repeat 76 = .ok (.iastore, 1) := by decide +kernel
theorem dX3_repeat_77 : decode cX3_repeat 77 = .ok (.dup, 1) := by decide +kernel
theorem dX3_repeat_78 : decode cX3_repeat 78 = .ok (.iconst 2, 1) := by decide +kernel
theorem dX3_repeat_79 : decode cX3_repeat 79 = .ok (.iconst 0, 1) := by decide +kernel
theorem dX3_repeat_80 : decode cX3_repeat 80 = .ok (.iastore, 1) := by decide +kernel
theorem dX3_repeat_81 : decode cX3_repeat 81 = .ok (.goto 37, 3) := by decide +kernel
theorem dX3_repeat_84 : decode cX3_repeat 84 = .ok (.iconst 3, 1) := by decide +kernel
theorem dX3_repeat_85 : decode cX3_repeat 85 = .ok (.newarray .int, 2) := by decide +kernel
theorem dX3_repeat_87 : decode cX3_repeat 87 = .ok (.dup, 1) := by decide +kernel
theorem dX3_repeat_88 : decode cX3_repeat 88 = .ok (.iconst 0, 1) := by decide +kernel
theorem dX3_repeat_89 : decode cX3_repeat 89 = .ok (.aload_n 0, 1) := by decide +kernel
theorem dX3_repeat_90 : decode cX3_repeat 90 = .ok (.getfield 13, 3) := by decide +kernel
theorem dX3_repeat_93 : decode cX3_repeat 93 = .ok (.iload_n 2, 1) := by decide +kernel
theorem dX3_repeat_94 : decode cX3_repeat 94 = .ok (.iaload, 1) := by decide +kernel
theorem dX3_repeat_95 : decode cX3_repeat 95 = .ok (.iastore, 1) := by decide +kernel
theorem dX3_repeat_96 : decode cX3_repeat 96 = .ok (.dup, 1) := by decide +kernel
theorem dX3_repeat_97 : decode cX3_repeat 97 = .ok (.iconst 1, 1) := by decide +kernel
theorem dX3_repeat_98 : decode cX3_repeat 98 = .ok (.aload_n 0, 1) := by decide +kernel
theorem dX3_repeat_99 : decode cX3_repeat 99 = .ok (.getfield 21, 3) := by decide +kernel
theorem dX3_repeat_102 : decode cX3_repeat 102 = .ok (.iload_n 1, 1) := by decide +kernel
theorem dX3_repeat_103 : decode cX3_repeat 103 = .ok (.aaload, 1) := by decide +kernel
theorem dX3_repeat_104 : decode cX3_repeat 104 = .ok (.iload_n 2, 1) := by decide +kernel
theorem dX3_repeat_105 : decode cX3_repeat 105 = .ok (.iaload, 1) := by decide +kernel
theorem dX3_repeat_106 : decode cX3_repeat 106 = .ok (.iastore, 1) := by decide +kernel
theorem dX3_repeat_107 : decode cX3_repeat 107 = .ok (.dup, 1) := by decide +kernel
theorem dX3_repeat_108 : decode cX3_repeat 108 = .ok (.iconst 2, 1) := by decide +kernel
theorem dX3_repeat_109 : decode cX3_repeat 109 = .ok (.aload_n 0, 1) := by decide +kernel
theorem dX3_repeat_110 : decode cX3_repeat 110 = .ok (.getfield 18, 3) := by decide +kernel
theorem dX3_repeat_113 : decode cX3_repeat 113 = .ok (.iload_n 1, 1) := by decide +kernel
theorem dX3_repeat_114 : decode cX3_repeat 114 = .ok (.aaload, 1) := by decide +kernel
theorem dX3_repeat_115 : decode cX3_repeat 115 = .ok (.iload_n 2, 1) := by decide +kernel
theorem dX3_repeat_116 : decode cX3_repeat 116 = .ok (.iaload, 1) := by decide +kernel
theorem dX3_repeat_117 : decode cX3_repeat 117 = .ok (.iastore, 1) := by decide +kernel
theorem dX3_repeat_118 : decode cX3_repeat 118 = .ok (.areturn, 1) := by decide +kernel
theorem dX3_seam_0 : decode cX3_seam 0 = .ok (.iconst 0, 1) := by decide +kernel
theorem dX3_seam_1 : decode cX3_seam 1 = .ok (.istore_n 1, 1) := by decide +kernel
theorem dX3_seam_2 : decode cX3_seam 2 = .ok (.iconst 0, 1) := by decide +kernel
theorem dX3_seam_3 : decode cX3_seam 3 = .ok (.istore_n 2, 1) := by decide +kernel
theorem dX3_seam_4 : decode cX3_seam 4 = .ok (.iload_n 2, 1) := by decide +kernel
theorem dX3_seam_5 : decode cX3_seam 5 = .ok (.aload_n 0, 1) := by decide +kernel
theorem dX3_seam_6 : decode cX3_seam 6 = .ok (.getfield 34, 3) := by decide +kernel
theorem dX3_seam_9 : decode cX3_seam 9 = .ok (.iconst 0, 1) := by decide +kernel
theorem dX3_seam_10 : decode cX3_seam 10 = .ok (.iaload, 1) := by decide +kernel
theorem dX3_seam_11 : decode cX3_seam 11 = .ok (.if_icmp .ge 46, 3) := by decide +kernel
theorem dX3_seam_14 : decode cX3_seam 14 = .ok (.aload_n 0, 1) := by decide +kernel
theorem dX3_seam_15 : decode cX3_seam 15 = .ok (.getfield 31, 3) := by decide +kernel
theorem dX3_seam_18 : decode cX3_seam 18 = .ok (.iconst 0, 1) := by decide +kernel
theorem dX3_seam_19 : decode cX3_seam 19 = .ok (.aaload, 1) := by decide +kernel
theorem dX3_seam_20 : decode cX3_seam 20 = .ok (.iload_n 2, 1) := by decide +kernel
theorem dX3_seam_21 : decode cX3_seam 21 = .ok (.iaload, 1) := by decide +kernel
theorem dX3_seam_22 : decode cX3_seam 22 = .ok (.istore_n 3, 1) := by decide +kernel
theorem dX3_seam_23 : decode cX3_seam 23 = .ok (.aload_n 0, 1) := by decide +kernel
theorem dX3_seam_24 : decode cX3_seam 24 = .ok (.getfield 18, 3) := by decide +kernel
theorem dX3_seam_27 : decode cX3_seam 27 = .ok (.iconst 1, 1) := by decide +kernel
theorem dX3_seam_28 : decode cX3_seam 28 = .ok (.aaload, 1) := by decide +kernel
theorem dX3_seam_29 : decode cX3_seam 29 = .ok (.iload_n 3, 1) := by decide +kernel
theorem dX3_seam_30 : decode cX3_seam 30 = .ok (.iaload, 1) := by decide +kernel
theorem dX3_seam_31 : decode cX3_seam 31 = .ok (.ifCond .le 20, 3) := by decide +kernel
theorem dX3_seam_34 : decode cX3_seam 34 = .ok (.aload_n 0, 1) := by decide +kernel
theorem dX3_seam_35 : decode cX3_seam 35 = .ok (.getfield 13, 3) := by decide +kernel
theorem dX3_seam_38 : decode cX3_seam 38 = .ok (.iload_n 3, 1) := by decide +kernel
theorem dX3_seam_39 : decode cX3_seam 39 = .ok (.iaload, 1) := by decide +kernel
theorem dX3_seam_40 : decode cX3_seam 40 = .ok (.aload_n 0, 1) := by decide +kernel
theorem dX3_seam_41 : decode cX3_seam 41 = .ok (.getfield 13, 3) := by decide +kernel
theorem dX3_seam_44 : decode cX3_seam 44 = .ok (.iload_n 1, 1) := by decide +kernel
theorem dX3_seam_45 : decode cX3_seam 45 = .ok (.iaload, 1) := by decide +kernel
theorem dX3_seam_46 : decode cX3_seam 46 = .ok (.if_icmp .le 5, 3) := by decide +kernel
theorem dX3_seam_49 : decode cX3_seam 49 = .ok (.iload_n 3, 1) := by decide +kernel
theorem dX3_seam_50 : decode cX3_seam 50 = .ok (.istore_n 1, 1) := by decide +kernel
theorem dX3_seam_51 : decode cX3_seam 51 = .ok (.iinc 2 1, 3) := by decide +kernel
theorem dX3_seam_54 : decode cX3_seam 54 = .ok (.goto (-50), 3) := by decide +kernel
theorem dX3_seam_57 : decode cX3_seam 57 = .ok (.iload_n 1, 1) := by decide +kernel
theorem dX3_seam_58 : decode cX3_seam 58 = .ok (.ifCond .ne 21, 3) := by decide +kernel
theorem dX3_seam_61 : decode cX3_seam 61 = .ok (.iconst 3, 1) := by decide +kernel
theorem dX3_seam_62 : decode cX3_seam 62 = .ok (.newarray .int, 2) := by decide +kernel
theorem dX3_seam_64 : decode cX3_seam 64 = .ok (.dup, 1) := by decide +kernel
theorem dX3_seam_65 : decode cX3_seam 65 = .ok (.iconst 0, 1) := by decide +kernel
theorem dX3_seam_66 : decode cX3_seam 66 = .ok (.iconst 0, 1) := by decide +kernel
theorem dX3_seam_67 : decode cX3_seam 67 = .ok (.iastore, 1) := by decide +kernel
theorem dX3_seam_68 : decode cX3_seam 68 = .ok (.dup, 1) := by decide +kernel
theorem dX3_seam_69 : decode cX3_seam 69 = .ok (.iconst 1, 1) := by decide +kernel
theorem dX3_seam_70 : decode cX3_seam 70 = .ok (.iconst (-1), 1) := by decide +kernel
theorem dX3_seam_71 : decode cX3_seam 71 = .ok (.iastore, 1) := by decide +kernel
theorem dX3_seam_72 : decode cX3_seam 72 = .ok (.dup, 1) := by decide +kernel
theorem dX3_seam_73 : decode cX3_seam 73 = .ok (.iconst 2, 1) := by decide +kernel
theorem dX3_seam_74 : decode cX3_seam 74 = .ok (.iconst (-1), 1) := by decide +kernel
theorem dX3_seam_75 : decode cX3_seam 75 = .ok (.iastore, 1) := by decide +kernel
theorem dX3_seam_76 : decode cX3_seam 76 = .ok (.goto 37, 3) := by decide +kernel
theorem dX3_seam_79 : decode cX3_seam 79 = .ok (.iconst 3, 1) := by decide +kernel
theorem dX3_seam_80 : decode cX3_seam 80 = .ok (.newarray .int, 2) := by decide +kernel
theorem dX3_seam_82 : decode cX3_seam 82 = .ok (.dup, 1) := by decide +kernel
theorem dX3_seam_83 : decode cX3_seam 83 = .ok (.iconst 0, 1) := by decide +kernel
theorem dX3_seam_84 : decode cX3_seam 84 = .ok (.aload_n 0, 1) := by decide +kernel
theorem dX3_seam_85 : decode cX3_seam 85 = .ok (.getfield 13, 3) := by decide +kernel
theorem dX3_seam_88 : decode cX3_seam 88 = .ok (.iload_n 1, 1) := by decide +kernel
theorem dX3_seam_89 : decode cX3_seam 89 = .ok (.iaload, 1) := by decide +kernel
theorem dX3_seam_90 : decode cX3_seam 90 = .ok (.iastore, 1) := by decide +kernel
theorem dX3_seam_91 : decode cX3_seam 91 = .ok (.dup, 1) := by decide +kernel
theorem dX3_seam_92 : decode cX3_seam 92 = .ok (.iconst 1, 1) := by decide +kernel
theorem dX3_seam_93 : decode cX3_seam 93 = .ok (.aload_n 0, 1) := by decide +kernel
theorem dX3_seam_94 : decode cX3_seam 94 = .ok (.getfield 21, 3) := by decide +kernel
theorem dX3_seam_97 : decode cX3_seam 97 = .ok (.iconst 0, 1) := by decide +kernel
theorem dX3_seam_98 : decode cX3_seam 98 = .ok (.aaload, 1) := by decide +kernel
theorem dX3_seam_99 : decode cX3_seam 99 = .ok (.iload_n 1, 1) := by decide +kernel
theorem dX3_seam_100 : decode cX3_seam 100 = .ok (.iaload, 1) := by decide +kernel
theorem dX3_seam_101 : decode cX3_seam 101 = .ok (.iastore, 1) := by decide +kernel
theorem dX3_seam_102 : decode cX3_seam 102 = .ok (.dup, 1) := by decide +kernel
theorem dX3_seam_103 : decode cX3_seam 103 = .ok (.iconst 2, 1) := by decide +kernel
theorem dX3_seam_104 : decode cX3_seam 104 = .ok (.aload_n 0, 1) := by decide +kernel
theorem dX3_seam_105 : decode cX3_seam 105 = .ok (.getfield 21, 3) := by decide +kernel
theorem dX3_seam_108 : decode cX3_seam 108 = .ok (.iconst 1, 1) := by decide +kernel
theorem dX3_seam_109 : decode cX3_seam 109 = .ok (.aaload, 1) := by decide +kernel
theorem dX3_seam_110 : decode cX3_seam 110 = .ok (.iload_n 1, 1) := by decide +kernel
theorem dX3_seam_111 : decode cX3_seam 111 = .ok (.iaload, 1) := by decide +kernel
theorem dX3_seam_112 : decode cX3_seam 112 = .ok (.iastore, 1) := by decide +kernel
theorem dX3_seam_113 : decode cX3_seam 113 = .ok (.areturn, 1) := by decide +kernel
theorem dX4_init_0 : decode cX4_init 0 = .ok (.aload_n 0, 1) := by decide +kernel
theorem dX4_init_1 : decode cX4_init 1 = .ok (.invokespecial 1, 3) := by decide +kernel
theorem dX4_init_4 : decode cX4_init 4 = .ok (.aload_n 0, 1) := by decide +kernel
theorem dX4_init_5 : decode cX4_init 5 = .ok (.iconst 2, 1) := by decide +kernel
theorem dX4_init_6 : decode cX4_init 6 = .ok (.anewarray 7, 3) := by decide +kernel
theorem dX4_init_9 : decode cX4_init 9 = .ok (.dup, 1) := by decide +kernel
theorem dX4_init_10 : decode cX4_init 10 = .ok (.iconst 0, 1) := by decide +kernel
theorem dX4_init_11 : decode cX4_init 11 = .ok (.iconst 0, 1) := by decide +kernel
theorem dX4_init_12 : decode cX4_init 12 = .ok (.newarray .int, 2) := by decide +kernel
theorem dX4_init_14 : decode cX4_init 14 = .ok (.aastore, 1) := by decide +kernel
theorem dX4_init_15 : decode cX4_init 15 = .ok (.dup, 1) := by decide +kernel
theorem dX4_init_16 : decode cX4_init 16 = .ok (.iconst 1, 1) := by decide +kernel
theorem dX4_init_17 : decode cX4_init 17 = .ok (.iconst 0, 1) := by decide +kernel
theorem dX4_init_18 : decode cX4_init 18 = .ok (.newarray .int, 2) := by decide +kernel
theorem dX4_init_20 : decode cX4_init 20 = .ok (.aastore, 1) := by decide +kernel
theorem dX4_init_21 : decode cX4_init 21 = .ok (.putfield 9, 3) := by decide +kernel
theorem dX4_init_24 : decode cX4_init 24 = .ok (.aload_n 0, 1) := by decide +kernel
theorem dX4_init_25 : decode cX4_init 25 = .ok (.iconst 0, 1) := by decide +kernel
theorem dX4_init_26 : decode cX4_init 26 = .ok (.newarray .int, 2) := by decide +kernel
theorem dX4_init_28 : decode cX4_init 28 = .ok (.putfield 15, 3) := by decide +kernel
theorem dX4_init_31 : decode cX4_init 31 = .ok (.return_, 1) := by decide +kernel
theorem dX4_with_0 : decode cX4_with 0 = .ok (.aload_n 0, 1) := by decide +kernel
theorem dX4_with_1 : decode cX4_with 1 = .ok (.arraylength, 1) := by decide +kernel
theorem dX4_with_2 : decode cX4_with 2 = .ok (.iconst 1, 1) := by decide +kernel
theorem dX4_with_3 : decode cX4_with 3 = .ok (.iadd, 1) := by decide +kernel
theorem dX4_with_4 : decode cX4_with 4 = .ok (.newarray .int, 2) := by decide +kernel
theorem dX4_with_6 : decode cX4_with 6 = .ok (.astore_n 2, 1) := by decide +kernel
theorem dX4_with_7 : decode cX4_with 7 = .ok (.iconst 0, 1) := by decide +kernel
theorem dX4_with_8 : decode cX4_with 8 = .ok (.istore_n 3, 1) := by decide +kernel
theorem dX4_with_9 : decode cX4_with 9 = .ok (.iload_n 3, 1) := by decide +kernel
theorem dX4_with_10 : decode cX4_with 10 = .ok (.aload_n 0, 1) := by decide +kernel
theorem dX4_with_11 : decode cX4_with 11 = .ok (.arraylength, 1) := by decide +kernel
theorem dX4_with_12 : decode cX4_with 12 = .ok (.if_icmp .ge 15, 3) := by decide +kernel
theorem dX4_with_15 : decode cX4_with 15 = .ok (.aload_n 2, 1) := by decide +kernel
theorem dX4_with_16 : decode cX4_with 16 = .ok (.iload_n 3, 1) := by decide +kernel
theorem dX4_with_17 : decode cX4_with 17 = .ok (.aload_n 0, 1) := by decide +kernel
theorem dX4_with_18 : decode cX4_with 18 = .ok (.iload_n 3, 1) := by decide +kernel
theorem dX4_with_19 : decode cX4_with 19 = .ok (.iaload, 1) := by decide +kernel
theorem dX4_with_20 : decode cX4_with 20 = .ok (.iastore, 1) := by decide +kernel
theorem dX4_with_21 : decode cX4_with 21 = .ok (.iinc 3 1, 3) := by decide +kernel
theorem dX4_with_24 : decode cX4_with 24 = .ok (.goto (-15), 3) := by decide +kernel
theorem dX4_with_27 : decode cX4_with 27 = .ok (.aload_n 2, 1) := by decide +kernel
theorem dX4_with_28 : decode cX4_with 28 = .ok (.aload_n 0, 1) := by decide +kernel
theorem dX4_with_29 : decode cX4_with 29 = .ok (.arraylength, 1) := by decide +kernel
theorem dX4_with_30 : decode cX4_with 30 = .ok (.iload_n 1, 1) := by decide +kernel
theorem dX4_with_31 : decode cX4_with 31 = .ok (.iastore, 1) := by decide +kernel
theorem dX4_with_32 : decode cX4_with 32 = .ok (.aload_n 2, 1) := by decide +kernel
theorem dX4_with_33 : decode cX4_with 33 = .ok (.areturn, 1) := by decide +kernel
theorem dX4_cut_0 : decode cX4_cut 0 = .ok (.iload_n 1, 1) := by decide +kernel
theorem dX4_cut_1 : decode cX4_cut 1 = .ok (.newarray .int, 2) := by decide +kernel
theorem dX4_cut_3 : decode cX4_cut 3 = .ok (.astore_n 2, 1) := by decide +kernel
theorem dX4_cut_4 : decode cX4_cut 4 = .ok (.iconst 0, 1) := by decide +kernel
theorem dX4_cut_5 : decode cX4_cut 5 = .ok (.istore_n 3, 1) := by decide +kernel
theorem dX4_cut_6 : decode cX4_cut 6 = .ok (.iload_n 3, 1) := by decide +kernel
theorem dX4_cut_7 : decode cX4_cut 7 = .ok (.iload_n 1, 1) := by decide +kernel
theorem dX4_cut_8 : decode cX4_cut 8 = .ok (.if_icmp .ge 15, 3) := by decide +kernel
theorem dX4_cut_11 : decode cX4_cut 11 = .ok (.aload_n 2, 1) := by decide +kernel
theorem dX4_cut_12 : decode cX4_cut 12 = .ok (.iload_n 3, 1) := by decide +kernel
theorem dX4_cut_13 : decode cX4_cut 13 = .ok (.aload_n 0, 1) := by decide +kernel
theorem dX4_cut_14 : decode cX4_cut 14 = .ok (.iload_n 3, 1) := by decide +kernel
theorem dX4_cut_15 : decode cX4_cut 15 = .ok (.iaload, 1) := by decide +kernel
theorem dX4_cut_16 : decode cX4_cut 16 = .ok (.iastore, 1) := by decide +kernel
theorem dX4_cut_17 : decode cX4_cut 17 = .ok (.iinc 3 1, 3) := by decide +kernel
theorem dX4_cut_20 : decode cX4_cut 20 = .ok (.goto (-14), 3) := by decide +kernel
theorem dX4_cut_23 : decode cX4_cut 23 = .ok (.aload_n 2, 1) := by decide +kernel
theorem dX4_cut_24 : decode cX4_cut 24 = .ok (.areturn, 1) := by decide +kernel
set_option maxRecDepth 20000 in
theorem ggX4_placesOfSample_L_common : GoodIn wsX4_placesOfSample wsL_common := goodIn_r _ [6] (by decide +kernel) (by decide +kernel)
set_option maxRecDepth 20000 in
theorem gX4_placesOfSample_L_common_n18 : GoodIn wsX4_placesOfSample (wsL_common) := ggX4_placesOfSample_L_common
theorem dX4_placesOfSample_0 : decode cX4_placesOfSample 0 = .ok (.iconst 2, 1) := by decide +kernel
theorem dX4_placesOfSample_1 : decode cX4_placesOfSample 1 = .ok (.newarray .int, 2) := by decide +kernel
theorem dX4_placesOfSample_3 : decode cX4_placesOfSample 3 = .ok (.dup, 1) := by decide +kernel
theorem dX4_placesOfSample_4 : decode cX4_placesOfSample 4 = .ok (.iconst 0, 1) := by decide +kernel
theorem dX4_placesOfSample_5 : decode cX4_placesOfSample 5 = .ok (.iconst 0, 1) := by decide +kernel
theorem dX4_placesOfSample_6 : decode cX4_placesOfSample 6 = .ok (.iastore, 1) := by decide +kernel
theorem dX4_placesOfSample_7 : decode cX4_placesOfSample 7 = .ok (.dup, 1) := by decide +kernel
theorem dX4_placesOfSample_8 : decode cX4_placesOfSample 8 = .ok (.iconst 1, 1) := by decide +kernel
theorem dX4_placesOfSample_9 : decode cX4_placesOfSample 9 = .ok (.iconst (-1), 1) := by decide +kernel
theorem dX4_placesOfSample_10 : decode cX4_placesOfSample 10 = .ok (.iastore, 1) := by decide +kernel
theorem dX4_placesOfSample_11 : decode cX4_placesOfSample 11 = .ok (.astore_n 2, 1) := by decide +kernel
theorem dX4_placesOfSample_12 : decode cX4_placesOfSample 12 = .ok (.aload_n 0, 1) := by decide +kernel
theorem dX4_placesOfSample_13 : decode cX4_placesOfSample 13 = .ok (.getfield 9, 3) := by decide +kernel
theorem dX4_placesOfSample_16 : decode cX4_placesOfSample 16 = .ok (.iload_n 1, 1) := by decide +kernel
theorem dX4_placesOfSample_17 : decode cX4_placesOfSample 17 = .ok (.aaload, 1) := by decide +kernel
theorem dX4_placesOfSample_18 : decode cX4_placesOfSample 18 = .ok (.arraylength, 1) := by decide +kernel
theorem dX4_placesOfSample_19 : decode cX4_placesOfSample 19 = .ok (.iconst 1, 1) := by decide +kernel
theorem dX4_placesOfSample_20 : decode cX4_placesOfSample 20 = .ok (.isub, 1) := by decide +kernel
theorem dX4_placesOfSample_21 : decode cX4_placesOfSample 21 = .ok (.istore_n 3, 1) := by decide +kernel
theorem dX4_placesOfSample_22 : decode cX4_placesOfSample 22 = .ok (.iload_n 3, 1) := by decide +kernel
theorem dX4_placesOfSample_23 : decode cX4_placesOfSample 23 = .ok (.ifCond .lt 54, 3) := by decide +kernel
theorem dX4_placesOfSample_26 : decode cX4_placesOfSample 26 = .ok (.aload_n 0, 1) := by decide +kernel
theorem dX4_placesOfSample_27 : decode cX4_placesOfSample 27 = .ok (.getfield 15, 3) := by decide +kernel
theorem dX4_placesOfSample_30 : decode cX4_placesOfSample 30 = .ok (.arraylength, 1) := by decide +kernel
theorem dX4_placesOfSample_31 : decode cX4_placesOfSample 31 = .ok (.ifCond .le 46, 3) := by decide +kernel
theorem dX4_placesOfSample_34 : decode cX4_placesOfSample 34 = .ok (.aload_n 0, 1) := by decide +kernel
theorem dX4_placesOfSample_35 : decode cX4_placesOfSample 35 = .ok (.getfield 9, 3) := by decide +kernel
theorem dX4_placesOfSample_38 : decode cX4_placesOfSample 38 = .ok (.iload_n 1, 1) := by decide +kernel
theorem dX4_placesOfSample_39 : decode cX4_placesOfSample 39 = .ok (.aaload, 1) := by decide +kernel
theorem dX4_placesOfSample_40 : decode cX4_placesOfSample 40 = .ok (.iload_n 3, 1) := by decide +kernel
theorem dX4_placesOfSample_41 : decode cX4_placesOfSample 41 = .ok (.aload_n 0, 1) := by decide +kernel
theorem dX4_placesOfSample_42 : decode cX4_placesOfSample 42 = .ok (.getfield 15, 3) := by decide +kernel
theorem dX4_placesOfSample_45 : decode cX4_placesOfSample 45 = .ok (.iconst 0, 1) := by decide +kernel
theorem dX4_placesOfSample_46 : decode cX4_placesOfSample 46 = .ok (.invokestatic 18, 3) := by decide +kernel
theorem dX4_placesOfSample_49 : decode cX4_placesOfSample 49 = .ok (.aload_n 0, 1) := by decide +kernel
theorem dX4_placesOfSample_50 : decode cX4_placesOfSample 50 = .ok (.getfield 15, 3) := by decide +kernel
theorem dX4_placesOfSample_53 : decode cX4_placesOfSample 53 = .ok (.arraylength, 1) := by decide +kernel
theorem dX4_placesOfSample_54 : decode cX4_placesOfSample 54 = .ok (.if_icmp .ge 6, 3) := by decide +kernel
theorem dX4_placesOfSample_57 : decode cX4_placesOfSample 57 = .ok (.goto 14, 3) := by decide +kernel
theorem dX4_placesOfSample_60 : decode cX4_placesOfSample 60 = .ok (.aload_n 2, 1) := by decide +kernel
theorem dX4_placesOfSample_61 : decode cX4_placesOfSample 61 = .ok (.iconst 0, 1) := by decide +kernel
theorem dX4_placesOfSample_62 : decode cX4_placesOfSample 62 = .ok (.dup2, 1) := by decide +kernel
theorem dX4_placesOfSample_63 : decode cX4_placesOfSample 63 = .ok (.iaload, 1) := by decide +kernel
theorem dX4_placesOfSample_64 : decode cX4_placesOfSample 64 = .ok (.iconst 1, 1) := by decide +kernel
theorem dX4_placesOfSample_65 : decode cX4_placesOfSample 65 = .ok (.iadd, 1) := by decide +kernel
theorem dX4_placesOfSample_66 : decode cX4_placesOfSample 66 = .ok (.iastore, 1) := by decide +kernel
theorem dX4_placesOfSample_67 : decode cX4_placesOfSample 67 = .ok (.aload_n 2, 1) := by decide +kernel
theorem dX4_placesOfSample_68 : decode cX4_placesOfSample 68 = .ok (.iconst 1, 1) := by decide +kernel
theorem dX4_placesOfSample_69 : decode cX4_placesOfSample 69 = .ok (.iload_n 3, 1) := by decide +kernel
theorem dX4_placesOfSample_70 : decode cX4_placesOfSample 70 = .ok (.iastore, 1) := by decide +kernel
theorem dX4_placesOfSample_71 : decode cX4_placesOfSample 71 = .ok (.iinc 3 (-1), 3) := by decide +kernel
theorem dX4_placesOfSample_74 : decode cX4_placesOfSample 74 = .ok (.goto (-52), 3) := by decide +kernel
theorem dX4_placesOfSample_77 : decode cX4_placesOfSample 77 = .ok (.aload_n 2, 1) := by decide +kernel
theorem dX4_placesOfSample_78 : decode cX4_placesOfSample 78 = .ok (.areturn, 1) := by decide +kernel
set_option maxRecDepth 20000 in
theorem ggX4_period_L_common : GoodIn wsX4_period wsL_common := goodIn_r _ [4] (by decide +kernel) (by decide +kernel)
set_option maxRecDepth 20000 in
theorem gX4_period_L_common_n18 : GoodIn wsX4_period (wsL_common) := ggX4_period_L_common
theorem dX4_period_0 : decode cX4_period 0 = .ok (.aload_n 0, 1) := by decide +kernel
theorem dX4_period_1 : decode cX4_period 1 = .ok (.getfield 9, 3) := by decide +kernel
theorem dX4_period_4 : decode cX4_period 4 = .ok (.iload_n 1, 1) := by decide +kernel
theorem dX4_period_5 : decode cX4_period 5 = .ok (.aaload, 1) := by decide +kernel
theorem dX4_period_6 : decode cX4_period 6 = .ok (.arraylength, 1) := by decide +kernel
theorem dX4_period_7 : decode cX4_period 7 = .ok (.istore_n 2, 1) := by decide +kernel
theorem dX4_period_8 : decode cX4_period 8 = .ok (.iload_n 2, 1) := by decide +kernel
theorem dX4_period_9 : decode cX4_period 9 = .ok (.istore_n 3, 1) := by decide +kernel
theorem dX4_period_10 : decode cX4_period 10 = .ok (.iload_n 2, 1) := by decide +kernel
theorem dX4_period_11 : decode cX4_period 11 = .ok (.iconst 1, 1) := by decide +kernel
theorem dX4_period_12 : decode cX4_period 12 = .ok (.isub, 1) := by decide +kernel
theorem dX4_period_13 : decode cX4_period 13 = .ok (.istore 4, 2) := by decide +kernel
theorem dX4_period_15 : decode cX4_period 15 = .ok (.iload 4, 2) := by decide +kernel
theorem dX4_period_17 : decode cX4_period 17 = .ok (.ifCond .le 37, 3) := by decide +kernel
theorem dX4_period_20 : decode cX4_period 20 = .ok (.aload_n 0, 1) := by decide +kernel
theorem dX4_period_21 : decode cX4_period 21 = .ok (.getfield 9, 3) := by decide +kernel
theorem dX4_period_24 : decode cX4_period 24 = .ok (.iload_n 1, 1) := by decide +kernel
theorem dX4_period_25 : decode cX4_period 25 = .ok (.aaload, 1) := by decide +kernel
theorem dX4_period_26 : decode cX4_period 26 = .ok (.iload 4, 2) := by decide +kernel
theorem dX4_period_28 : decode cX4_period 28 = .ok (.aload_n 0, 1) := by decide +kernel
theorem dX4_period_29 : decode cX4_period 29 = .ok (.getfield 9, 3) := by decide +kernel
theorem dX4_period_32 : decode cX4_period 32 = .ok (.iload_n 1, 1) := by decide +kernel
theorem dX4_period_33 : decode cX4_period 33 = .ok (.aaload, 1) := by decide +kernel
theorem dX4_period_34 : decode cX4_period 34 = .ok (.iconst 0, 1) := by decide +kernel
theorem dX4_period_35 : decode cX4_period 35 = .ok (.invokestatic 18, 3) := by decide +kernel
theorem dX4_period_38 : decode cX4_period 38 = .ok (.iload_n 2, 1) := by decide +kernel
theorem dX4_period_39 : decode cX4_period 39 = .ok (.iload 4, 2) := by decide +kernel
theorem dX4_period_41 : decode cX4_period 41 = .ok (.isub, 1) := by decide +kernel
theorem dX4_period_42 : decode cX4_period 42 = .ok (.if_icmp .ne 6, 3) := by decide +kernel
theorem dX4_period_45 : decode cX4_period 45 = .ok (.iload 4, 2) := by decide +kernel
theorem dX4_period_47 : decode cX4_period 47 = .ok (.istore_n 3, 1) := by decide +kernel
theorem dX4_period_48 : decode cX4_period 48 = .ok (.iinc 4 (-1), 3) := by decide +kernel
theorem dX4_period_51 : decode cX4_period 51 = .ok (.goto (-36), 3) := by decide +kernel
theorem dX4_period_54 : decode cX4_period 54 = .ok (.iload_n 3, 1) := by decide +kernel
theorem dX4_period_55 : decode cX4_period 55 = .ok (.ireturn, 1) := by decide +kernel
set_option maxRecDepth 20000 in
theorem ggX4_turned_L_common : GoodIn wsX4_turned wsL_common := goodIn_r _ [5] (by decide +kernel) (by decide +kernel)
set_option maxRecDepth 20000 in
theorem gX4_turned_L_common_n18 : GoodIn wsX4_turned (wsL_common) := ggX4_turned_L_common
theorem dX4_turned_0 : decode cX4_turned 0 = .ok (.aload_n 0, 1) := by decide +kernel
theorem dX4_turned_1 : decode cX4_turned 1 = .ok (.getfield 9, 3) := by decide +kernel
theorem dX4_turned_4 : decode cX4_turned 4 = .ok (.iload_n 1, 1) := by decide +kernel
theorem dX4_turned_5 : decode cX4_turned 5 = .ok (.aaload, 1) := by decide +kernel
theorem dX4_turned_6 : decode cX4_turned 6 = .ok (.arraylength, 1) := by decide +kernel
theorem dX4_turned_7 : decode cX4_turned 7 = .ok (.istore_n 2, 1) := by decide +kernel
theorem dX4_turned_8 : decode cX4_turned 8 = .ok (.iconst 2, 1) := by decide +kernel
theorem dX4_turned_9 : decode cX4_turned 9 = .ok (.iload_n 2, 1) := by decide +kernel
theorem dX4_turned_10 : decode cX4_turned 10 = .ok (.imul, 1) := by decide +kernel
theorem dX4_turned_11 : decode cX4_turned 11 = .ok (.newarray .int, 2) := by decide +kernel
theorem dX4_turned_13 : decode cX4_turned 13 = .ok (.astore_n 3, 1) := by decide +kernel
theorem dX4_turned_14 : decode cX4_turned 14 = .ok (.iconst 0, 1) := by decide +kernel
theorem dX4_turned_15 : decode cX4_turned 15 = .ok (.istore 4, 2) := by decide +kernel
theorem dX4_turned_17 : decode cX4_turned 17 = .ok (.iload 4, 2) := by decide +kernel
theorem dX4_turned_19 : decode cX4_turned 19 = .ok (.iconst 2, 1) := by decide +kernel
theorem dX4_turned_20 : decode cX4_turned 20 = .ok (.iload_n 2, 1) := by decide +kernel
theorem dX4_turned_21 : decode cX4_turned 21 = .ok (.imul, 1) := by decide +kernel
theorem dX4_turned_22 : decode cX4_turned 22 = .ok (.if_icmp .ge 24, 3) := by decide +kernel
theorem dX4_turned_25 : decode cX4_turned 25 = .ok (.aload_n 3, 1) := by decide +kernel
theorem dX4_turned_26 : decode cX4_turned 26 = .ok (.iload 4, 2) := by decide +kernel
theorem dX4_turned_28 : decode cX4_turned 28 = .ok (.aload_n 0, 1) := by decide +kernel
theorem dX4_turned_29 : decode cX4_turned 29 = .ok (.getfield 9, 3) := by decide +kernel
theorem dX4_turned_32 : decode cX4_turned 32 = .ok (.iload_n 1, 1) := by decide +kernel
theorem dX4_turned_33 : decode cX4_turned 33 = .ok (.aaload, 1) := by decide +kernel
theorem dX4_turned_34 : decode cX4_turned 34 = .ok (.iload 4, 2) := by decide +kernel
theorem dX4_turned_36 : decode cX4_turned 36 = .ok (.iload_n 2, 1) := by decide +kernel
theorem dX4_turned_37 : decode cX4_turned 37 = .ok (.irem, 1) := by decide +kernel
theorem dX4_turned_38 : decode cX4_turned 38 = .ok (.iaload, 1) := by decide +kernel
theorem dX4_turned_39 : decode cX4_turned 39 = .ok (.iastore, 1) := by decide +kernel
theorem dX4_turned_40 : decode cX4_turned 40 = .ok (.iinc 4 1, 3) := by decide +kernel
theorem dX4_turned_43 : decode cX4_turned 43 = .ok (.goto (-26), 3) := by decide +kernel
theorem dX4_turned_46 : decode cX4_turned 46 = .ok (.iload_n 2, 1) := by decide +kernel
theorem dX4_turned_47 : decode cX4_turned 47 = .ok (.iconst 1, 1) := by decide +kernel
theorem dX4_turned_48 : decode cX4_turned 48 = .ok (.isub, 1) := by decide +kernel
theorem dX4_turned_49 : decode cX4_turned 49 = .ok (.istore 4, 2) := by decide +kernel
theorem dX4_turned_51 : decode cX4_turned 51 = .ok (.iload_n 2, 1) := by decide +kernel
theorem dX4_turned_52 : decode cX4_turned 52 = .ok (.iconst 2, 1) := by decide +kernel
theorem dX4_turned_53 : decode cX4_turned 53 = .ok (.isub, 1) := by decide +kernel
theorem dX4_turned_54 : decode cX4_turned 54 = .ok (.istore 5, 2) := by decide +kernel
theorem dX4_turned_56 : decode cX4_turned 56 = .ok (.iload 5, 2) := by decide +kernel
theorem dX4_turned_58 : decode cX4_turned 58 = .ok (.ifCond .lt 47, 3) := by decide +kernel
theorem dX4_turned_61 : decode cX4_turned 61 = .ok (.aload_n 3, 1) := by decide +kernel
theorem dX4_turned_62 : decode cX4_turned 62 = .ok (.iload 5, 2) := by decide +kernel
theorem dX4_turned_64 : decode cX4_turned 64 = .ok (.aload_n 3, 1) := by decide +kernel
theorem dX4_turned_65 : decode cX4_turned 65 = .ok (.iload 4, 2) := by decide +kernel
theorem dX4_turned_67 : decode cX4_turned 67 = .ok (.invokestatic 18, 3) := by decide +kernel
theorem dX4_turned_70 : decode cX4_turned 70 = .ok (.istore 6, 2) := by decide +kernel
theorem dX4_turned_72 : decode cX4_turned 72 = .ok (.iload 6, 2) := by decide +kernel
theorem dX4_turned_74 : decode cX4_turned 74 = .ok (.iload_n 2, 1) := by decide +kernel
theorem dX4_turned_75 : decode cX4_turned 75 = .ok (.if_icmp .ge 20, 3) := by decide +kernel
theorem dX4_turned_78 : decode cX4_turned 78 = .ok (.aload_n 3, 1) := by decide +kernel
theorem dX4_turned_79 : decode cX4_turned 79 = .ok (.iload 5, 2) := by decide +kernel
theorem dX4_turned_81 : decode cX4_turned 81 = .ok (.iload 6, 2) := by decide +kernel
theorem dX4_turned_83 : decode cX4_turned 83 = .ok (.iadd, 1) := by decide +kernel
theorem dX4_turned_84 : decode cX4_turned 84 = .ok (.iaload, 1) := by decide +kernel
theorem dX4_turned_85 : decode cX4_turned 85 = .ok (.aload_n 3, 1) := by decide +kernel
theorem dX4_turned_86 : decode cX4_turned 86 = .ok (.iload 4, 2) := by decide +kernel
theorem dX4_turned_88 : decode cX4_turned 88 = .ok (.iload 6, 2) := by decide +kernel
theorem dX4_turned_90 : decode cX4_turned 90 = .ok (.iadd, 1) := by decide +kernel
theorem dX4_turned_91 : decode cX4_turned 91 = .ok (.iaload, 1) := by decide +kernel
theorem dX4_turned_92 : decode cX4_turned 92 = .ok (.if_icmp .ge 7, 3) := by decide +kernel
theorem dX4_turned_95 : decode cX4_turned 95 = .ok (.iload 5, 2) := by decide +kernel
theorem dX4_turned_97 : decode cX4_turned 97 = .ok (.istore 4, 2) := by decide +kernel
theorem dX4_turned_99 : decode cX4_turned 99 = .ok (.iinc 5 (-1), 3) := by decide +kernel
theorem dX4_turned_102 : decode cX4_turned 102 = .ok (.goto (-46), 3) := by decide +kernel
theorem dX4_turned_105 : decode cX4_turned 105 = .ok (.iload 4, 2) := by decide +kernel
theorem dX4_turned_107 : decode cX4_turned 107 = .ok (.ireturn, 1) := by decide +kernel
set_option maxRecDepth 20000 in
theorem ggX4_isSame_X3_init : GoodIn wsX4_isSame wsX3_init := goodIn_r _ [11, 12, 13, 14, 5, 15, 16, 17, 18, 19, 20, 21, 22, 23, 24, 25, 26, 27, 28, 3, 29, 30, 31, 32, 33, 212, 213, 214, 215, 216, 217, 218, 219, 220, 221] (by decide +kernel) (by decide +kernel)
set_option maxRecDepth 20000 in
theorem gX4_isSame_X3_init : GoodIn wsX4_isSame (wsX3_init) := ggX4_isSame_X3_init
set_option maxRecDepth 20000 in
theorem ggX4_isSame_X3_seam : GoodIn wsX4_isSame wsX3_seam := goodIn_r _ [37, 23, 22, 18, 16, 5, 19, 212, 213, 214, 215, 216, 217, 218, 219, 220, 221] (by decide +kernel) (by decide +kernel)
set_option maxRecDepth 20000 in
theorem gX4_isSame_X3_seam : GoodIn wsX4_isSame (wsV RX4 37 RX3 yX3_seam wsX3_seam) := goodIn_app (goodIn_of _ (by decide +kernel)) ggX4_isSame_X3_seam
set_option maxRecDepth 20000 in
theorem ggX4_isSame_X2_count : GoodIn wsX4_isSame wsX2_count := goodIn_ca (goodIn_r _ [42, 43, 44, 45, 46, 47, 48, 49, 50, 51, 52, 53, 54, 55, 56, 57, 58, 59, 60, 61, 62, 63, 64, 65, 66, 67, 68, 69, 70, 71, 72, 73, 74, 75, 76, 77, 78, 79, 80, 81, 82, 83, 84, 41, 85, 86, 87, 88, 89, 90, 91, 92, 93, 94, 95, 96, 97, 98, 224, 225, 226, 227, 228, 229, 230] (by decide +kernel) (by decide +kernel)) (goodIn_sub (fun _ h => List.mem_cons_of_mem _ (List.mem_append_right _ h)) (by decide +kernel))
set_option maxRecDepth 20000 in
theorem gX4_isSame_X2_count : GoodIn wsX4_isSame (wsV RX4 44 RX2 yX2_count wsX2_count) := goodIn_app (goodIn_of _ (by decide +kernel)) ggX4_isSame_X2_count
set_option maxRecDepth 20000 in
theorem ggX4_isSame_X2_seam : GoodIn wsX4_isSame wsX2_seam := goodIn_ca (goodIn_r _ [102, 43, 44, 45, 46, 82, 83, 84, 41, 85, 86, 59, 60, 51, 61, 53, 62, 87, 88, 89, 90, 91, 92, 93, 70, 94, 72, 95, 96, 75, 97, 98, 68, 69, 71, 73, 74, 76, 77, 78, 79, 80, 81, 103, 104, 105, 106, 107, 108, 109, 110, 224, 225, 226, 227, 228, 229, 230] (by decide +kernel) (by decide +kernel)) (goodIn_sub (fun _ h => List.mem_cons_of_mem _ (List.mem_append_right _ h)) (by decide +kernel))
set_option maxRecDepth 20000 in
theorem gX4_isSame_X2_seam : GoodIn wsX4_isSame (wsV RX4 50 RX2 yX2_seam wsX2_seam) := goodIn_app (goodIn_of _ (by decide +kernel)) ggX4_isSame_X2_seam
set_option maxRecDepth 20000 in
theorem ggX4_isSame_X2_stitch : GoodIn wsX4_isSame wsX2_stitch := goodIn_ca (goodIn_r _ [114, 115, 116, 117, 41, 118, 43, 44, 45, 46, 119, 120, 121, 122, 78, 79, 70, 80, 72, 81, 227, 228, 224, 225, 226, 229, 230] (by decide +kernel) (by decide +kernel)) (goodIn_sub (fun _ h => List.mem_cons_of_mem _ (List.mem_append_right _ h)) (by decide +kernel))
set_option maxRecDepth 20000 in
theorem gX4_isSame_X2_stitch : GoodIn wsX4_isSame (wsV RX4 55 RX2 yX2_stitch wsX2_stitch) := goodIn_app (goodIn_of _ (by decide +kernel)) ggX4_isSame_X2_stitch
set_option maxRecDepth 20000 in
theorem ggX4_isSame_X2_end : GoodIn wsX4_isSame wsX2_end := goodIn_ca (goodIn_r _ [126, 115, 116, 117, 41, 118, 43, 44, 45, 46, 119, 120, 121, 86, 59, 60, 51, 61, 53, 62, 227, 228, 224, 225, 226, 229, 230] (by decide +kernel) (by decide +kernel)) (goodIn_sub (fun _ h => List.mem_cons_of_mem _ (List.mem_append_right _ h)) (by decide +kernel))
set_option maxRecDepth 20000 in
theorem gX4_isSame_X2_end : GoodIn wsX4_isSame (wsV RX4 59 RX2 yX2_end wsX2_end) := goodIn_app (goodIn_of _ (by decide +kernel)) ggX4_isSame_X2_end
set_option maxRecDepth 20000 in
theorem ggX4_isSame_X2_rank : GoodIn wsX4_isSame wsX2_rank := goodIn_ca (goodIn_r _ [130, 115, 116, 117, 41, 118, 43, 44, 45, 46, 119, 120, 121, 131, 132, 133, 51, 134, 53, 58, 59, 60, 61, 62, 227, 228, 224, 225, 226, 229, 230] (by decide +kernel) (by decide +kernel)) (goodIn_sub (fun _ h => List.mem_cons_of_mem _ (List.mem_append_right _ h)) (by decide +kernel))
set_option maxRecDepth 20000 in
theorem gX4_isSame_X2_rank : GoodIn wsX4_isSame (wsV RX4 62 RX2 yX2_rank wsX2_rank) := goodIn_app (goodIn_of _ (by decide +kernel)) ggX4_isSame_X2_rank
set_option maxRecDepth 20000 in
theorem ggX4_isSame_L_common : GoodIn wsX4_isSame wsL_common := goodIn_r _ [137] (by decide +kernel) (by decide +kernel)
set_option maxRecDepth 20000 in
theorem gX4_isSame_L_common_n18 : GoodIn wsX4_isSame (wsL_common) := ggX4_isSame_L_common
set_option maxRecDepth 20000 in
theorem ggX4_isSame_X3_repeat : GoodIn wsX4_isSame wsX3_repeat := goodIn_r _ [141, 23, 22, 18, 16, 5, 19, 212, 213, 214, 215, 216, 217, 218, 219, 220, 221] (by decide +kernel) (by decide +kernel)
set_option maxRecDepth 20000 in
theorem gX4_isSame_X3_repeat : GoodIn wsX4_isSame (wsV RX4 65 RX3 yX3_repeat wsX3_repeat) := goodIn_app (goodIn_of _ (by decide +kernel)) ggX4_isSame_X3_repeat
set_option maxRecDepth 20000 in
theorem ggX4_isSame_X2_repeat : GoodIn wsX4_isSame wsX2_repeat := goodIn_ca (goodIn_r _ [145, 43, 44, 115, 116, 117, 41, 118, 45, 46, 146, 147, 148, 51, 149, 53, 63, 64, 65, 66, 58, 59, 60, 61, 62, 67, 68, 69, 70, 71, 72, 73, 74, 75, 76, 77, 78, 79, 80, 81, 150, 86, 103, 104, 105, 106, 107, 108, 109, 110, 98, 151, 152, 153, 154, 227, 228, 224, 225, 226, 229, 230] (by decide +kernel) (by decide +kernel)) (goodIn_sub (fun _ h => List.mem_cons_of_mem _ (List.mem_append_right _ h)) (by decide +kernel))
set_option maxRecDepth 20000 in
theorem gX4_isSame_X2_repeat : GoodIn wsX4_isSame (wsV RX4 69 RX2 yX2_repeat wsX2_repeat) := goodIn_app (goodIn_of _ (by decide +kernel)) ggX4_isSame_X2_repeat
set_option maxRecDepth 20000 in
theorem ggX4_isSame_X4_placesOfSample : GoodIn wsX4_isSame wsX4_placesOfSample := goodIn_r _ [159, 5, 4, 6, 135, 136, 137, 222, 223] (by decide +kernel) (by decide +kernel)
set_option maxRecDepth 20000 in
theorem gX4_isSame_X4_placesOfSample : GoodIn wsX4_isSame (wsV RX4 71 RX4 yX4_placesOfSample wsX4_placesOfSample) := goodIn_app (goodIn_of _ (by decide +kernel)) ggX4_isSame_X4_placesOfSample
set_option maxRecDepth 20000 in
theorem ggX4_isSame_X2_found : GoodIn wsX4_isSame wsX2_found := goodIn_ca (goodIn_r _ [163, 47, 115, 116, 117, 41, 118, 43, 44, 45, 46, 151, 152, 153, 70, 154, 72, 107, 108, 109, 110, 98, 68, 69, 71, 73, 74, 75, 76, 77, 78, 79, 80, 81, 227, 228, 224, 225, 226, 229, 230] (by decide +kernel) (by decide +kernel)) (goodIn_sub (fun _ h => List.mem_cons_of_mem _ (List.mem_append_right _ h)) (by decide +kernel))
set_option maxRecDepth 20000 in
theorem gX4_isSame_X2_found : GoodIn wsX4_isSame (wsV RX4 74 RX2 yX2_found wsX2_found) := goodIn_app (goodIn_of _ (by decide +kernel)) ggX4_isSame_X2_found
set_option maxRecDepth 20000 in
theorem ggX4_isSame_X2_first : GoodIn wsX4_isSame wsX2_first := goodIn_ca (goodIn_r _ [167, 47, 115, 116, 117, 41, 118, 43, 44, 45, 46, 103, 104, 105, 70, 106, 72, 107, 108, 109, 110, 98, 68, 69, 71, 73, 74, 75, 76, 77, 78, 79, 80, 81, 227, 228, 224, 225, 226, 229, 230] (by decide +kernel) (by decide +kernel)) (goodIn_sub (fun _ h => List.mem_cons_of_mem _ (List.mem_append_right _ h)) (by decide +kernel))
set_option maxRecDepth 20000 in
theorem gX4_isSame_X2_first : GoodIn wsX4_isSame (wsV RX4 77 RX2 yX2_first wsX2_first) := goodIn_app (goodIn_of _ (by decide +kernel)) ggX4_isSame_X2_first
set_option maxRecDepth 20000 in
theorem ggX4_isSame_X2_period : GoodIn wsX4_isSame wsX2_period := goodIn_ca (goodIn_r _ [171, 115, 116, 117, 41, 118, 43, 44, 45, 46, 172, 173, 174, 70, 175, 72, 98, 68, 69, 71, 73, 74, 75, 76, 77, 78, 79, 80, 81, 227, 228, 224, 225, 226, 229, 230] (by decide +kernel) (by decide +kernel)) (goodIn_sub (fun _ h => List.mem_cons_of_mem _ (List.mem_append_right _ h)) (by decide +kernel))
set_option maxRecDepth 20000 in
theorem gX4_isSame_X2_period : GoodIn wsX4_isSame (wsV RX4 80 RX2 yX2_period wsX2_period) := goodIn_app (goodIn_of _ (by decide +kernel)) ggX4_isSame_X2_period
set_option maxRecDepth 20000 in
theorem ggX4_isSame_X4_period : GoodIn wsX4_isSame wsX4_period := goodIn_r _ [179, 4, 135, 136, 137, 222, 223] (by decide +kernel) (by decide +kernel)
set_option maxRecDepth 20000 in
theorem gX4_isSame_X4_period : GoodIn wsX4_isSame (wsV RX4 83 RX4 yX4_period wsX4_period) := goodIn_app (goodIn_of _ (by decide +kernel)) ggX4_isSame_X4_period
set_option maxRecDepth 20000 in
theorem ggX4_isSame_X2_turned : GoodIn wsX4_isSame wsX2_turned := goodIn_ca (goodIn_r _ [183, 115, 116, 117, 41, 118, 43, 44, 45, 46, 184, 185, 186, 70, 187, 72, 188, 189, 190, 191, 192, 193, 194, 195, 77, 78, 79, 80, 81, 227, 228, 224, 225, 226, 229, 230] (by decide +kernel) (by decide +kernel)) (goodIn_sub (fun _ h => List.mem_cons_of_mem _ (List.mem_append_right _ h)) (by decide +kernel))
set_option maxRecDepth 20000 in
theorem gX4_isSame_X2_turned : GoodIn wsX4_isSame (wsV RX4 84 RX2 yX2_turned wsX2_turned) := goodIn_app (goodIn_of _ (by decide +kernel)) ggX4_isSame_X2_turned
set_option maxRecDepth 20000 in
theorem ggX4_isSame_X4_turned : GoodIn wsX4_isSame wsX4_turned := goodIn_r _ [199, 4, 5, 135, 136, 137, 222, 223] (by decide +kernel) (by decide +kernel)
set_option maxRecDepth 20000 in
theorem gX4_isSame_X4_turned : GoodIn wsX4_isSame (wsV RX4 87 RX4 yX4_turned wsX4_turned) := goodIn_app (goodIn_of _ (by decide +kernel)) ggX4_isSame_X4_turned
set_option maxRecDepth 20000 in
theorem ggX4_isSame_X2_mean : GoodIn wsX4_isSame wsX2_mean := goodIn_r _ [203, 45, 46, 204, 205, 206, 51, 207, 53, 208, 209, 210, 211, 63, 64, 65, 66, 58, 59, 60, 61, 62, 67, 68, 69, 70, 71, 72, 73, 74, 75, 76, 77, 78, 79, 80, 81, 224, 225, 226, 227, 228, 229, 230] (by decide +kernel) (by decide +kernel)
set_option maxRecDepth 20000 in
theorem gX4_isSame_X2_mean : GoodIn wsX4_isSame (wsV RX4 88 RX2 yX2_mean wsX2_mean) := goodIn_app (goodIn_of _ (by decide +kernel)) ggX4_isSame_X2_mean
theorem dX4_isSame_0 : decode cX4_isSame 0 = .ok (.new 24, 3) := by decide +kernel
theorem dX4_isSame_3 : decode cX4_isSame 3 = .ok (.dup, 1) := by decide +kernel
theorem dX4_isSame_4 : decode cX4_isSame 4 = .ok (.aload_n 0, 1) := by decide +kernel
theorem dX4_isSame_5 : decode cX4_isSame 5 = .ok (.getfield 9, 3) := by decide +kernel
theorem dX4_isSame_8 : decode cX4_isSame 8 = .ok (.iconst 0, 1) := by decide +kernel
theorem dX4_isSame_9 : decode cX4_isSame 9 = .ok (.aaload, 1) := by decide +kernel
theorem dX4_isSame_10 : decode cX4_isSame 10 = .ok (.aload_n 0, 1) := by decide +kernel
theorem dX4_isSame_11 : decode cX4_isSame 11 = .ok (.getfield 9, 3) := by decide +kernel
theorem dX4_isSame_14 : decode cX4_isSame 14 = .ok (.iconst 1, 1) := by decide +kernel
theorem dX4_isSame_15 : decode cX4_isSame 15 = .ok (.aaload, 1) := by decide +kernel
theorem dX4_isSame_16 : decode cX4_isSame 16 = .ok (.invokespecial 30, 3) := by decide +kernel
theorem dX4_isSame_19 : decode cX4_isSame 19 = .ok (.astore_n 2, 1) := by decide +kernel
theorem dX4_isSame_20 : decode cX4_isSame 20 = .ok (.aload_n 2, 1) := by decide +kernel
theorem dX4_isSame_21 : decode cX4_isSame 21 = .ok (.invokevirtual 37, 3) := by decide +kernel
theorem dX4_isSame_24 : decode cX4_isSame 24 = .ok (.astore_n 3, 1) := by decide +kernel
theorem dX4_isSame_25 : decode cX4_isSame 25 = .ok (.bipush 6, 2) := by decide +kernel
theorem dX4_isSame_27 : decode cX4_isSame 27 = .ok (.newarray .int, 2) := by decide +kernel
theorem dX4_isSame_29 : decode cX4_isSame 29 = .ok (.dup, 1) := by decide +kernel
theorem dX4_isSame_30 : decode cX4_isSame 30 = .ok (.iconst 0, 1) := by decide +kernel
theorem dX4_isSame_31 : decode cX4_isSame 31 = .ok (.aload_n 0, 1) := by decide +kernel
theorem dX4_isSame_32 : decode cX4_isSame 32 = .ok (.getfield 9, 3) := by decide +kernel
theorem dX4_isSame_35 : decode cX4_isSame 35 = .ok (.iconst 0, 1) := by decide +kernel
theorem dX4_isSame_36 : decode cX4_isSame 36 = .ok (.aaload, 1) := by decide +kernel
theorem dX4_isSame_37 : decode cX4_isSame 37 = .ok (.arraylength, 1) := by decide +kernel
theorem dX4_isSame_38 : decode cX4_isSame 38 = .ok (.iastore, 1) := by decide +kernel
theorem dX4_isSame_39 : decode cX4_isSame 39 = .ok (.dup, 1) := by decide +kernel
theorem dX4_isSame_40 : decode cX4_isSame 40 = .ok (.iconst 1, 1) := by decide +kernel
theorem dX4_isSame_41 : decode cX4_isSame 41 = .ok (.aload_n 0, 1) := by decide +kernel
theorem dX4_isSame_42 : decode cX4_isSame 42 = .ok (.getfield 9, 3) := by decide +kernel
theorem dX4_isSame_45 : decode cX4_isSame 45 = .ok (.iconst 1, 1) := by decide +kernel
theorem dX4_isSame_46 : decode cX4_isSame 46 = .ok (.aaload, 1) := by decide +kernel
theorem dX4_isSame_47 : decode cX4_isSame 47 = .ok (.arraylength, 1) := by decide +kernel
theorem dX4_isSame_48 : decode cX4_isSame 48 = .ok (.iastore, 1) := by decide +kernel
theorem dX4_isSame_49 : decode cX4_isSame 49 = .ok (.dup, 1) := by decide +kernel
theorem dX4_isSame_50 : decode cX4_isSame 50 = .ok (.iconst 2, 1) := by decide +kernel
theorem dX4_isSame_51 : decode cX4_isSame 51 = .ok (.aload_n 0, 1) := by decide +kernel
theorem dX4_isSame_52 : decode cX4_isSame 52 = .ok (.getfield 15, 3) := by decide +kernel
theorem dX4_isSame_55 : decode cX4_isSame 55 = .ok (.arraylength, 1) := by decide +kernel
theorem dX4_isSame_56 : decode cX4_isSame 56 = .ok (.iastore, 1) := by decide +kernel
theorem dX4_isSame_57 : decode cX4_isSame 57 = .ok (.dup, 1) := by decide +kernel
theorem dX4_isSame_58 : decode cX4_isSame 58 = .ok (.iconst 3, 1) := by decide +kernel
theorem dX4_isSame_59 : decode cX4_isSame 59 = .ok (.aload_n 2, 1) := by decide +kernel
theorem dX4_isSame_60 : decode cX4_isSame 60 = .ok (.getfield 41, 3) := by decide +kernel
theorem dX4_isSame_63 : decode cX4_isSame 63 = .ok (.iconst 0, 1) := by decide +kernel
theorem dX4_isSame_64 : decode cX4_isSame 64 = .ok (.iaload, 1) := by decide +kernel
theorem dX4_isSame_65 : decode cX4_isSame 65 = .ok (.iastore, 1) := by decide +kernel
theorem dX4_isSame_66 : decode cX4_isSame 66 = .ok (.dup, 1) := by decide +kernel
theorem dX4_isSame_67 : decode cX4_isSame 67 = .ok (.iconst 4, 1) := by decide +kernel
theorem dX4_isSame_68 : decode cX4_isSame 68 = .ok (.aload_n 2, 1) := by decide +kernel
theorem dX4_isSame_69 : decode cX4_isSame 69 = .ok (.getfield 41, 3) := by decide +kernel
theorem dX4_isSame_72 : decode cX4_isSame 72 = .ok (.iconst 1, 1) := by decide +kernel
theorem dX4_isSame_73 : decode cX4_isSame 73 = .ok (.iaload, 1) := by decide +kernel
theorem dX4_isSame_74 : decode cX4_isSame 74 = .ok (.iastore, 1) := by decide +kernel
theorem dX4_isSame_75 : decode cX4_isSame 75 = .ok (.dup, 1) := by decide +kernel
theorem dX4_isSame_76 : decode cX4_isSame 76 = .ok (.iconst 5, 1) := by decide +kernel
theorem dX4_isSame_77 : decode cX4_isSame 77 = .ok (.aload_n 3, 1) := by decide +kernel
theorem dX4_isSame_78 : decode cX4_isSame 78 = .ok (.iconst 0, 1) := by decide +kernel
theorem dX4_isSame_79 : decode cX4_isSame 79 = .ok (.iaload, 1) := by decide +kernel
theorem dX4_isSame_80 : decode cX4_isSame 80 = .ok (.iastore, 1) := by decide +kernel
theorem dX4_isSame_81 : decode cX4_isSame 81 = .ok (.astore 4, 2) := by decide +kernel
theorem dX4_isSame_83 : decode cX4_isSame 83 = .ok (.iconst 0, 1) := by decide +kernel
theorem dX4_isSame_84 : decode cX4_isSame 84 = .ok (.istore 5, 2) := by decide +kernel
theorem dX4_isSame_86 : decode cX4_isSame 86 = .ok (.iload 5, 2) := by decide +kernel
theorem dX4_isSame_88 : decode cX4_isSame 88 = .ok (.bipush 6, 2) := by decide +kernel
theorem dX4_isSame_90 : decode cX4_isSame 90 = .ok (.if_icmp .ge 25, 3) := by decide +kernel
theorem dX4_isSame_93 : decode cX4_isSame 93 = .ok (.aload_n 1, 1) := by decide +kernel
theorem dX4_isSame_94 : decode cX4_isSame 94 = .ok (.iload 5, 2) := by decide +kernel
theorem dX4_isSame_96 : decode cX4_isSame 96 = .ok (.invokevirtual 44, 3) := by decide +kernel
theorem dX4_isSame_99 : decode cX4_isSame 99 = .ok (.aload 4, 2) := by decide +kernel
theorem dX4_isSame_101 : decode cX4_isSame 101 = .ok (.iload 5, 2) := by decide +kernel
theorem dX4_isSame_103 : decode cX4_isSame 103 = .ok (.iaload, 1) := by decide +kernel
theorem dX4_isSame_104 : decode cX4_isSame 104 = .ok (.if_icmp .eq 5, 3) := by decide +kernel
theorem dX4_isSame_107 : decode cX4_isSame 107 = .ok (.iconst 0, 1) := by decide +kernel
theorem dX4_isSame_108 : decode cX4_isSame 108 = .ok (.ireturn, 1) := by decide +kernel
theorem dX4_isSame_109 : decode cX4_isSame 109 = .ok (.iinc 5 1, 3) := by decide +kernel
theorem dX4_isSame_112 : decode cX4_isSame 112 = .ok (.goto (-26), 3) := by decide +kernel
theorem dX4_isSame_115 : decode cX4_isSame 115 = .ok (.iconst 0, 1) := by decide +kernel
theorem dX4_isSame_116 : decode cX4_isSame 116 = .ok (.istore 5, 2) := by decide +kernel
theorem dX4_isSame_118 : decode cX4_isSame 118 = .ok (.iload 5, 2) := by decide +kernel
theorem dX4_isSame_120 : decode cX4_isSame 120 = .ok (.iconst 3, 1) := by decide +kernel
theorem dX4_isSame_121 : decode cX4_isSame 121 = .ok (.if_icmp .ge 24, 3) := by decide +kernel
theorem dX4_isSame_124 : decode cX4_isSame 124 = .ok (.aload_n 1, 1) := by decide +kernel
theorem dX4_isSame_125 : decode cX4_isSame 125 = .ok (.iload 5, 2) := by decide +kernel
theorem dX4_isSame_127 : decode cX4_isSame 127 = .ok (.invokevirtual 50, 3) := by decide +kernel
theorem dX4_isSame_130 : decode cX4_isSame 130 = .ok (.aload_n 3, 1) := by decide +kernel
theorem dX4_isSame_131 : decode cX4_isSame 131 = .ok (.iload 5, 2) := by decide +kernel
theorem dX4_isSame_133 : decode cX4_isSame 133 = .ok (.iaload, 1) := by decide +kernel
theorem dX4_isSame_134 : decode cX4_isSame 134 = .ok (.if_icmp .eq 5, 3) := by decide +kernel
theorem dX4_isSame_137 : decode cX4_isSame 137 = .ok (.iconst 0, 1) := by decide +kernel
theorem dX4_isSame_138 : decode cX4_isSame 138 = .ok (.ireturn, 1) := by decide +kernel
theorem dX4_isSame_139 : decode cX4_isSame 139 = .ok (.iinc 5 1, 3) := by decide +kernel
theorem dX4_isSame_142 : decode cX4_isSame 142 = .ok (.goto (-24), 3) := by decide +kernel
theorem dX4_isSame_145 : decode cX4_isSame 145 = .ok (.iconst 0, 1) := by decide +kernel
theorem dX4_isSame_146 : decode cX4_isSame 146 = .ok (.istore 5, 2) := by decide +kernel
theorem dX4_isSame_148 : decode cX4_isSame 148 = .ok (.iconst 0, 1) := by decide +kernel
theorem dX4_isSame_149 : decode cX4_isSame 149 = .ok (.istore 6, 2) := by decide +kernel
theorem dX4_isSame_151 : decode cX4_isSame 151 = .ok (.iconst 0, 1) := by decide +kernel
theorem dX4_isSame_152 : decode cX4_isSame 152 = .ok (.istore 7, 2) := by decide +kernel
theorem dX4_isSame_154 : decode cX4_isSame 154 = .ok (.iload 7, 2) := by decide +kernel
theorem dX4_isSame_156 : decode cX4_isSame 156 = .ok (.iconst 2, 1) := by decide +kernel
theorem dX4_isSame_157 : decode cX4_isSame 157 = .ok (.if_icmp .ge 235, 3) := by decide +kernel
theorem dX4_isSame_160 : decode cX4_isSame 160 = .ok (.aload_n 0, 1) := by decide +kernel
theorem dX4_isSame_161 : decode cX4_isSame 161 = .ok (.getfield 9, 3) := by decide +kernel
theorem dX4_isSame_164 : decode cX4_isSame 164 = .ok (.iload 7, 2) := by decide +kernel
theorem dX4_isSame_166 : decode cX4_isSame 166 = .ok (.aaload, 1) := by decide +kernel
theorem dX4_isSame_167 : decode cX4_isSame 167 = .ok (.astore 8, 2) := by decide +kernel
theorem dX4_isSame_169 : decode cX4_isSame 169 = .ok (.iconst 0, 1) := by decide +kernel
theorem dX4_isSame_170 : decode cX4_isSame 170 = .ok (.istore 9, 2) := by decide +kernel
theorem dX4_isSame_172 : decode cX4_isSame 172 = .ok (.iload 9, 2) := by decide +kernel
theorem dX4_isSame_174 : decode cX4_isSame 174 = .ok (.aload 8, 2) := by decide +kernel
theorem dX4_isSame_176 : decode cX4_isSame 176 = .ok (.arraylength, 1) := by decide +kernel
theorem dX4_isSame_177 : decode cX4_isSame 177 = .ok (.if_icmp .ge 102, 3) := by decide +kernel
theorem dX4_isSame_180 : decode cX4_isSame 180 = .ok (.aload_n 2, 1) := by decide +kernel
theorem dX4_isSame_181 : decode cX4_isSame 181 = .ok (.getfield 52, 3) := by decide +kernel
theorem dX4_isSame_184 : decode cX4_isSame 184 = .ok (.iload 7, 2) := by decide +kernel
theorem dX4_isSame_186 : decode cX4_isSame 186 = .ok (.aaload, 1) := by decide +kernel
theorem dX4_isSame_187 : decode cX4_isSame 187 = .ok (.iload 9, 2) := by decide +kernel
theorem dX4_isSame_189 : decode cX4_isSame 189 = .ok (.iaload, 1) := by decide +kernel
theorem dX4_isSame_190 : decode cX4_isSame 190 = .ok (.istore 10, 2) := by decide +kernel
theorem dX4_isSame_192 : decode cX4_isSame 192 = .ok (.aload_n 1, 1) := by decide +kernel
theorem dX4_isSame_193 : decode cX4_isSame 193 = .ok (.iload 7, 2) := by decide +kernel
theorem dX4_isSame_195 : decode cX4_isSame 195 = .ok (.iload 9, 2) := by decide +kernel
theorem dX4_isSame_197 : decode cX4_isSame 197 = .ok (.invokevirtual 55, 3) := by decide +kernel
theorem dX4_isSame_200 : decode cX4_isSame 200 = .ok (.aload 8, 2) := by decide +kernel
theorem dX4_isSame_202 : decode cX4_isSame 202 = .ok (.iload 9, 2) := by decide +kernel
theorem dX4_isSame_204 : decode cX4_isSame 204 = .ok (.iaload, 1) := by decide +kernel
theorem dX4_isSame_205 : decode cX4_isSame 205 = .ok (.if_icmp .ne 29, 3) := by decide +kernel
theorem dX4_isSame_208 : decode cX4_isSame 208 = .ok (.aload_n 1, 1) := by decide +kernel
theorem dX4_isSame_209 : decode cX4_isSame 209 = .ok (.iload 7, 2) := by decide +kernel
theorem dX4_isSame_211 : decode cX4_isSame 211 = .ok (.iload 9, 2) := by decide +kernel
theorem dX4_isSame_213 : decode cX4_isSame 213 = .ok (.invokevirtual 59, 3) := by decide +kernel
theorem dX4_isSame_216 : decode cX4_isSame 216 = .ok (.iload 10, 2) := by decide +kernel
theorem dX4_isSame_218 : decode cX4_isSame 218 = .ok (.if_icmp .ne 16, 3) := by decide +kernel
theorem dX4_isSame_221 : decode cX4_isSame 221 = .ok (.aload_n 1, 1) := by decide +kernel
theorem dX4_isSame_222 : decode cX4_isSame 222 = .ok (.iload 7, 2) := by decide +kernel
theorem dX4_isSame_224 : decode cX4_isSame 224 = .ok (.iload 10, 2) := by decide +kernel
theorem dX4_isSame_226 : decode cX4_isSame 226 = .ok (.invokevirtual 62, 3) := by decide +kernel
theorem dX4_isSame_229 : decode cX4_isSame 229 = .ok (.iload 9, 2) := by decide +kernel
theorem dX4_isSame_231 : decode cX4_isSame 231 = .ok (.if_icmp .eq 5, 3) := by decide +kernel
theorem dX4_isSame_234 : decode cX4_isSame 234 = .ok (.iconst 0, 1) := by decide +kernel
theorem dX4_isSame_235 : decode cX4_isSame 235 = .ok (.ireturn, 1) := by decide +kernel
theorem dX4_isSame_236 : decode cX4_isSame 236 = .ok (.iload 9, 2) := by decide +kernel
theorem dX4_isSame_238 : decode cX4_isSame 238 = .ok (.ifCond .ne 6, 3) := by decide +kernel
theorem dX4_isSame_241 : decode cX4_isSame 241 = .ok (.goto 32, 3) := by decide +kernel
theorem dX4_isSame_244 : decode cX4_isSame 244 = .ok (.iload 5, 2) := by decide +kernel
theorem dX4_isSame_246 : decode cX4_isSame 246 = .ok (.aload 8, 2) := by decide +kernel
theorem dX4_isSame_248 : decode cX4_isSame 248 = .ok (.aload_n 2, 1) := by decide +kernel
theorem dX4_isSame_249 : decode cX4_isSame 249 = .ok (.getfield 52, 3) := by decide +kernel
theorem dX4_isSame_252 : decode cX4_isSame 252 = .ok (.iload 7, 2) := by decide +kernel
theorem dX4_isSame_254 : decode cX4_isSame 254 = .ok (.aaload, 1) := by decide +kernel
theorem dX4_isSame_255 : decode cX4_isSame 255 = .ok (.iload 9, 2) := by decide +kernel
theorem dX4_isSame_257 : decode cX4_isSame 257 = .ok (.iconst 1, 1) := by decide +kernel
theorem dX4_isSame_258 : decode cX4_isSame 258 = .ok (.isub, 1) := by decide +kernel
theorem dX4_isSame_259 : decode cX4_isSame 259 = .ok (.iaload, 1) := by decide +kernel
theorem dX4_isSame_260 : decode cX4_isSame 260 = .ok (.aload 8, 2) := by decide +kernel
theorem dX4_isSame_262 : decode cX4_isSame 262 = .ok (.iload 10, 2) := by decide +kernel
theorem dX4_isSame_264 : decode cX4_isSame 264 = .ok (.invokestatic 18, 3) := by decide +kernel
theorem dX4_isSame_267 : decode cX4_isSame 267 = .ok (.iadd, 1) := by decide +kernel
theorem dX4_isSame_268 : decode cX4_isSame 268 = .ok (.istore 5, 2) := by decide +kernel
theorem dX4_isSame_270 : decode cX4_isSame 270 = .ok (.iinc 6 1, 3) := by decide +kernel
theorem dX4_isSame_273 : decode cX4_isSame 273 = .ok (.iinc 9 1, 3) := by decide +kernel
theorem dX4_isSame_276 : decode cX4_isSame 276 = .ok (.goto (-104), 3) := by decide +kernel
theorem dX4_isSame_279 : decode cX4_isSame 279 = .ok (.aload_n 2, 1) := by decide +kernel
theorem dX4_isSame_280 : decode cX4_isSame 280 = .ok (.iload 7, 2) := by decide +kernel
theorem dX4_isSame_282 : decode cX4_isSame 282 = .ok (.invokevirtual 65, 3) := by decide +kernel
theorem dX4_isSame_285 : decode cX4_isSame 285 = .ok (.astore 9, 2) := by decide +kernel
theorem dX4_isSame_287 : decode cX4_isSame 287 = .ok (.iconst 0, 1) := by decide +kernel
theorem dX4_isSame_288 : decode cX4_isSame 288 = .ok (.istore 10, 2) := by decide +kernel
theorem dX4_isSame_290 : decode cX4_isSame 290 = .ok (.iload 10, 2) := by decide +kernel
theorem dX4_isSame_292 : decode cX4_isSame 292 = .ok (.iconst 3, 1) := by decide +kernel
theorem dX4_isSame_293 : decode cX4_isSame 293 = .ok (.if_icmp .ge 27, 3) := by decide +kernel
theorem dX4_isSame_296 : decode cX4_isSame 296 = .ok (.aload_n 1, 1) := by decide +kernel
theorem dX4_isSame_297 : decode cX4_isSame 297 = .ok (.iload 7, 2) := by decide +kernel
theorem dX4_isSame_299 : decode cX4_isSame 299 = .ok (.iload 10, 2) := by decide +kernel
theorem dX4_isSame_301 : decode cX4_isSame 301 = .ok (.invokevirtual 69, 3) := by decide +kernel
theorem dX4_isSame_304 : decode cX4_isSame 304 = .ok (.aload 9, 2) := by decide +kernel
theorem dX4_isSame_306 : decode cX4_isSame 306 = .ok (.iload 10, 2) := by decide +kernel
theorem dX4_isSame_308 : decode cX4_isSame 308 = .ok (.iaload, 1) := by decide +kernel
theorem dX4_isSame_309 : decode cX4_isSame 309 = .ok (.if_icmp .eq 5, 3) := by decide +kernel
theorem dX4_isSame_312 : decode cX4_isSame 312 = .ok (.iconst 0, 1) := by decide +kernel
theorem dX4_isSame_313 : decode cX4_isSame 313 = .ok (.ireturn, 1) := by decide +kernel
theorem dX4_isSame_314 : decode cX4_isSame 314 = .ok (.iinc 10 1, 3) := by decide +kernel
theorem dX4_isSame_317 : decode cX4_isSame 317 = .ok (.goto (-27), 3) := by decide +kernel
theorem dX4_isSame_320 : decode cX4_isSame 320 = .ok (.aload_n 0, 1) := by decide +kernel
theorem dX4_isSame_321 : decode cX4_isSame 321 = .ok (.iload 7, 2) := by decide +kernel
theorem dX4_isSame_323 : decode cX4_isSame 323 = .ok (.invokevirtual 71, 3) := by decide +kernel
theorem dX4_isSame_326 : decode cX4_isSame 326 = .ok (.astore 10, 2) := by decide +kernel
theorem dX4_isSame_328 : decode cX4_isSame 328 = .ok (.aload_n 1, 1) := by decide +kernel
theorem dX4_isSame_329 : decode cX4_isSame 329 = .ok (.iload 7, 2) := by decide +kernel
theorem dX4_isSame_331 : decode cX4_isSame 331 = .ok (.invokevirtual 74, 3) := by decide +kernel
theorem dX4_isSame_334 : decode cX4_isSame 334 = .ok (.aload 10, 2) := by decide +kernel
theorem dX4_isSame_336 : decode cX4_isSame 336 = .ok (.iconst 0, 1) := by decide +kernel
theorem dX4_isSame_337 : decode cX4_isSame 337 = .ok (.iaload, 1) := by decide +kernel
theorem dX4_isSame_338 : decode cX4_isSame 338 = .ok (.if_icmp .ne 46, 3) := by decide +kernel
theorem dX4_isSame_341 : decode cX4_isSame 341 = .ok (.aload_n 1, 1) := by decide +kernel
theorem dX4_isSame_342 : decode cX4_isSame 342 = .ok (.iload 7, 2) := by decide +kernel
theorem dX4_isSame_344 : decode cX4_isSame 344 = .ok (.invokevirtual 77, 3) := by decide +kernel
theorem dX4_isSame_347 : decode cX4_isSame 347 = .ok (.aload 10, 2) := by decide +kernel
theorem dX4_isSame_349 : decode cX4_isSame 349 = .ok (.iconst 1, 1) := by decide +kernel
theorem dX4_isSame_350 : decode cX4_isSame 350 = .ok (.iaload, 1) := by decide +kernel
theorem dX4_isSame_351 : decode cX4_isSame 351 = .ok (.if_icmp .ne 33, 3) := by decide +kernel
theorem dX4_isSame_354 : decode cX4_isSame 354 = .ok (.aload_n 1, 1) := by decide +kernel
theorem dX4_isSame_355 : decode cX4_isSame 355 = .ok (.iload 7, 2) := by decide +kernel
theorem dX4_isSame_357 : decode cX4_isSame 357 = .ok (.invokevirtual 80, 3) := by decide +kernel
theorem dX4_isSame_360 : decode cX4_isSame 360 = .ok (.aload_n 0, 1) := by decide +kernel
theorem dX4_isSame_361 : decode cX4_isSame 361 = .ok (.iload 7, 2) := by decide +kernel
theorem dX4_isSame_363 : decode cX4_isSame 363 = .ok (.invokevirtual 83, 3) := by decide +kernel
theorem dX4_isSame_366 : decode cX4_isSame 366 = .ok (.if_icmp .ne 18, 3) := by decide +kernel
theorem dX4_isSame_369 : decode cX4_isSame 369 = .ok (.aload_n 1, 1) := by decide +kernel
theorem dX4_isSame_370 : decode cX4_isSame 370 = .ok (.iload 7, 2) := by decide +kernel
theorem dX4_isSame_372 : decode cX4_isSame 372 = .ok (.invokevirtual 84, 3) := by decide +kernel
theorem dX4_isSame_375 : decode cX4_isSame 375 = .ok (.aload_n 0, 1) := by decide +kernel
theorem dX4_isSame_376 : decode cX4_isSame 376 = .ok (.iload 7, 2) := by decide +kernel
theorem dX4_isSame_378 : decode cX4_isSame 378 = .ok (.invokevirtual 87, 3) := by decide +kernel
theorem dX4_isSame_381 : decode cX4_isSame 381 = .ok (.if_icmp .eq 5, 3) := by decide +kernel
theorem dX4_isSame_384 : decode cX4_isSame 384 = .ok (.iconst 0, 1) := by decide +kernel
theorem dX4_isSame_385 : decode cX4_isSame 385 = .ok (.ireturn, 1) := by decide +kernel
theorem dX4_isSame_386 : decode cX4_isSame 386 = .ok (.iinc 7 1, 3) := by decide +kernel
theorem dX4_isSame_389 : decode cX4_isSame 389 = .ok (.goto (-235), 3) := by decide +kernel
theorem dX4_isSame_392 : decode cX4_isSame 392 = .ok (.aload_n 1, 1) := by decide +kernel
theorem dX4_isSame_393 : decode cX4_isSame 393 = .ok (.invokevirtual 88, 3) := by decide +kernel
theorem dX4_isSame_396 : decode cX4_isSame 396 = .ok (.iload 6, 2) := by decide +kernel
theorem dX4_isSame_398 : decode cX4_isSame 398 = .ok (.ifCond .ne 7, 3) := by decide +kernel
theorem dX4_isSame_401 : decode cX4_isSame 401 = .ok (.dconst 0, 1) := by decide +kernel
theorem dX4_isSame_402 : decode cX4_isSame 402 = .ok (.goto 10, 3) := by decide +kernel
theorem dX4_isSame_405 : decode cX4_isSame 405 = .ok (.iload 5, 2) := by decide +kernel
theorem dX4_isSame_407 : decode cX4_isSame 407 = .ok (.i2d, 1) := by decide +kernel
theorem dX4_isSame_408 : decode cX4_isSame 408 = .ok (.iload 6, 2) := by decide +kernel
theorem dX4_isSame_410 : decode cX4_isSame 410 = .ok (.i2d, 1) := by decide +kernel
theorem dX4_isSame_411 : decode cX4_isSame 411 = .ok (.ddiv, 1) := by decide +kernel
theorem dX4_isSame_412 : decode cX4_isSame 412 = .ok (.dcmp .l, 1) := by decide +kernel
theorem dX4_isSame_413 : decode cX4_isSame 413 = .ok (.ifCond .ne 7, 3) := by decide +kernel
theorem dX4_isSame_416 : decode cX4_isSame 416 = .ok (.iconst 1, 1) := by decide +kernel
theorem dX4_isSame_417 : decode cX4_isSame 417 = .ok (.goto 4, 3) := by decide +kernel
theorem dX4_isSame_420 : decode cX4_isSame 420 = .ok (.iconst 0, 1) := by decide +kernel
theorem dX4_isSame_421 : decode cX4_isSame 421 = .ok (.ireturn, 1) := by decide +kernel
end
section
theorem dL_below_0 : decode cL_below 0 = .ok (.iload_n 0, 1) := by decide +kernel
theorem dL_below_1 : decode cL_below 1 = .ok (.ldc 7, 2) := by decide +kernel
theorem dL_below_3 : decode cL_below 3 = .ok (.iand, 1) := by decide +kernel
theorem dL_below_4 : decode cL_below 4 = .ok (.iload_n 1, 1) := by decide +kernel
theorem dL_below_5 : decode cL_below 5 = .ok (.irem, 1) := by decide +kernel
theorem dL_below_6 : decode cL_below 6 = .ok (.ireturn, 1) := by decide +kernel
theorem dL_cell_0 : decode cL_cell 0 = .ok (.iload_n 1, 1) := by decide +kernel
theorem dL_cell_1 : decode cL_cell 1 = .ok (.aload_n 0, 1) := by decide +kernel
theorem dL_cell_2 : decode cL_cell 2 = .ok (.arraylength, 1) := by decide +kernel
theorem dL_cell_3 : decode cL_cell 3 = .ok (.if_icmp .ge 9, 3) := by decide +kernel
theorem dL_cell_6 : decode cL_cell 6 = .ok (.aload_n 0, 1) := by decide +kernel
theorem dL_cell_7 : decode cL_cell 7 = .ok (.iload_n 1, 1) := by decide +kernel
theorem dL_cell_8 : decode cL_cell 8 = .ok (.iaload, 1) := by decide +kernel
theorem dL_cell_9 : decode cL_cell 9 = .ok (.goto 9, 3) := by decide +kernel
theorem dL_cell_12 : decode cL_cell 12 = .ok (.ldc 8, 2) := by decide +kernel
theorem dL_cell_14 : decode cL_cell 14 = .ok (.iload_n 1, 1) := by decide +kernel
theorem dL_cell_15 : decode cL_cell 15 = .ok (.iconst 3, 1) := by decide +kernel
theorem dL_cell_16 : decode cL_cell 16 = .ok (.iadd, 1) := by decide +kernel
theorem dL_cell_17 : decode cL_cell 17 = .ok (.imul, 1) := by decide +kernel
theorem dL_cell_18 : decode cL_cell 18 = .ok (.ireturn, 1) := by decide +kernel
theorem dL_common_0 : decode cL_common 0 = .ok (.iconst 0, 1) := by decide +kernel
theorem dL_common_1 : decode cL_common 1 = .ok (.istore 4, 2) := by decide +kernel
theorem dL_common_3 : decode cL_common 3 = .ok (.iload_n 1, 1) := by decide +kernel
theorem dL_common_4 : decode cL_common 4 = .ok (.iload 4, 2) := by decide +kernel
theorem dL_common_6 : decode cL_common 6 = .ok (.iadd, 1) := by decide +kernel
theorem dL_common_7 : decode cL_common 7 = .ok (.aload_n 0, 1) := by decide +kernel
theorem dL_common_8 : decode cL_common 8 = .ok (.arraylength, 1) := by decide +kernel
theorem dL_common_9 : decode cL_common 9 = .ok (.if_icmp .ge 33, 3) := by decide +kernel
theorem dL_common_12 : decode cL_common 12 = .ok (.iload_n 3, 1) := by decide +kernel
theorem dL_common_13 : decode cL_common 13 = .ok (.iload 4, 2) := by decide +kernel
theorem dL_common_15 : decode cL_common 15 = .ok (.iadd, 1) := by decide +kernel
theorem dL_common_16 : decode cL_common 16 = .ok (.aload_n 2, 1) := by decide +kernel
theorem dL_common_17 : decode cL_common 17 = .ok (.arraylength, 1) := by decide +kernel
theorem dL_common_18 : decode cL_common 18 = .ok (.if_icmp .ge 24, 3) := by decide +kernel
theorem dL_common_21 : decode cL_common 21 = .ok (.aload_n 0, 1) := by decide +kernel
theorem dL_common_22 : decode cL_common 22 = .ok (.iload_n 1, 1) := by decide +kernel
theorem dL_common_23 : decode cL_common 23 = .ok (.iload 4, 2) := by decide +kernel
theorem dL_common_25 : decode cL_common 25 = .ok (.iadd, 1) := by decide +kernel
theorem dL_common_26 : decode cL_common 26 = .ok (.iaload, 1) := by decide +kernel
theorem dL_common_27 : decode cL_common 27 = .ok (.aload_n 2, 1) := by decide +kernel
theorem dL_common_28 : decode cL_common 28 = .ok (.iload_n 3, 1) := by decide +kernel
theorem dL_common_29 : decode cL_common 29 = .ok (.iload 4, 2) := by decide +kernel
theorem dL_common_31 : decode cL_common 31 = .ok (.iadd, 1) := by decide +kernel
theorem dL_common_32 : decode cL_common 32 = .ok (.iaload, 1) := by decide +kernel
theorem dL_common_33 : decode cL_common 33 = .ok (.if_icmp .ne 9, 3) := by decide +kernel
theorem dL_common_36 : decode cL_common 36 = .ok (.iinc 4 1, 3) := by decide +kernel
theorem dL_common_39 : decode cL_common 39 = .ok (.goto (-36), 3) := by decide +kernel
theorem dL_common_42 : decode cL_common 42 = .ok (.iload 4, 2) := by decide +kernel
theorem dL_common_44 : decode cL_common 44 = .ok (.ireturn, 1) := by decide +kernel
set_option maxRecDepth 20000 in
theorem ggL_stitchOf_L_below : GoodIn wsL_stitchOf wsL_below := goodIn_r _ [4, 5] (by decide +kernel) (by decide +kernel)
set_option maxRecDepth 20000 in
theorem gL_stitchOf_L_below : GoodIn wsL_stitchOf (va_wsS RL 9 yL_below wsL_below) := goodIn_app (goodIn_of _ (by decide +kernel)) ggL_stitchOf_L_below
theorem dL_stitchOf_0 : decode cL_stitchOf 0 = .ok (.iload_n 0, 1) := by decide +kernel
theorem dL_stitchOf_1 : decode cL_stitchOf 1 = .ok (.bipush 6, 2) := by decide +kernel
theorem dL_stitchOf_3 : decode cL_stitchOf 3 = .ok (.ishr, 1) := by decide +kernel
theorem dL_stitchOf_4 : decode cL_stitchOf 4 = .ok (.iconst 4, 1) := by decide +kernel
theorem dL_stitchOf_5 : decode cL_stitchOf 5 = .ok (.invokestatic 9, 3) := by decide +kernel
theorem dL_stitchOf_8 : decode cL_stitchOf 8 = .ok (.ifCond .ne 14, 3) := by decide +kernel
theorem dL_stitchOf_11 : decode cL_stitchOf 11 = .ok (.iload_n 0, 1) := by decide +kernel
theorem dL_stitchOf_12 : decode cL_stitchOf 12 = .ok (.iconst 4, 1) := by decide +kernel
theorem dL_stitchOf_13 : decode cL_stitchOf 13 = .ok (.ishr, 1) := by decide +kernel
theorem dL_stitchOf_14 : decode cL_stitchOf 14 = .ok (.bipush 9, 2) := by decide +kernel
theorem dL_stitchOf_16 : decode cL_stitchOf 16 = .ok (.invokestatic 9, 3) := by decide +kernel
theorem dL_stitchOf_19 : decode cL_stitchOf 19 = .ok (.goto 19, 3) := by decide +kernel
theorem dL_stitchOf_22 : decode cL_stitchOf 22 = .ok (.iload_n 0, 1) := by decide +kernel
theorem dL_stitchOf_23 : decode cL_stitchOf 23 = .ok (.iconst 3, 1) := by decide +kernel
theorem dL_stitchOf_24 : decode cL_stitchOf 24 = .ok (.ishr, 1) := by decide +kernel
theorem dL_stitchOf_25 : decode cL_stitchOf 25 = .ok (.iconst 2, 1) := by decide +kernel
theorem dL_stitchOf_26 : decode cL_stitchOf 26 = .ok (.iload_n 0, 1) := by decide +kernel
theorem dL_stitchOf_27 : decode cL_stitchOf 27 = .ok (.bipush 9, 2) := by decide +kernel
theorem dL_stitchOf_29 : decode cL_stitchOf 29 = .ok (.ishr, 1) := by decide +kernel
theorem dL_stitchOf_30 : decode cL_stitchOf 30 = .ok (.iconst 2, 1) := by decide +kernel
theorem dL_stitchOf_31 : decode cL_stitchOf 31 = .ok (.invokestatic 9, 3) := by decide +kernel
theorem dL_stitchOf_34 : decode cL_stitchOf 34 = .ok (.iadd, 1) := by decide +kernel
theorem dL_stitchOf_35 : decode cL_stitchOf 35 = .ok (.invokestatic 9, 3) := by decide +kernel
theorem dL_stitchOf_38 : decode cL_stitchOf 38 = .ok (.ireturn, 1) := by decide +kernel
set_option maxRecDepth 20000 in
theorem ggL_act_L_below : GoodIn wsL_act wsL_below := goodIn_r _ [12, 13] (by decide +kernel) (by decide +kernel)
set_option maxRecDepth 20000 in
theorem gL_act_L_below : GoodIn wsL_act (va_wsS RL 9 yL_below wsL_below) := goodIn_app (goodIn_of _ (by decide +kernel)) ggL_act_L_below
set_option maxRecDepth 20000 in
theorem ggL_act_X4_with : GoodIn wsL_act wsX4_with := goodIn_r _ [17, 8] (by decide +kernel) (by decide +kernel)
set_option maxRecDepth 20000 in
theorem gL_act_X4_with : GoodIn wsL_act (va_wsS RL 21 yX4_with wsX4_with) := goodIn_app (goodIn_of _ (by decide +kernel)) ggL_act_X4_with
set_option maxRecDepth 20000 in
theorem ggL_act_X2_again : GoodIn wsL_act wsX2_again := goodIn_ca (goodIn_ca (goodIn_ca (goodIn_r _ [22, 23, 24, 25, 26, 27, 28, 29, 21, 30, 31, 32, 33, 34, 35, 36, 37, 38, 39, 40, 41, 42, 43, 44, 45, 46, 47, 48, 49, 50, 51, 52, 53, 54, 55, 56, 57, 58, 59, 60, 61, 62, 63, 64, 65, 66, 67, 68, 69, 4, 5, 6, 70, 113, 114, 115, 116, 117, 118, 119] (by decide +kernel) (by decide +kernel)) (goodIn_sub (fun _ h => List.mem_cons_of_mem _ (List.mem_append_left _ (List.mem_append_left _ (List.mem_append_right _ h)))) (by decide +kernel))) (goodIn_sub (fun _ h => List.mem_cons_of_mem _ (List.mem_append_left _ (List.mem_append_right _ h))) (by decide +kernel))) (goodIn_sub (fun _ h => List.mem_cons_of_mem _ (List.mem_append_right _ h)) (by decide +kernel))
set_option maxRecDepth 20000 in
theorem gL_act_X2_again : GoodIn wsL_act (wsV RL 25 RX2 yX2_again wsX2_again) := goodIn_app (goodIn_of _ (by decide +kernel)) ggL_act_X2_again
set_option maxRecDepth 20000 in
theorem ggL_act_X4_cut : GoodIn wsL_act wsX4_cut := goodIn_r _ [73, 8] (by decide +kernel) (by decide +kernel)
set_option maxRecDepth 20000 in
theorem gL_act_X4_cut : GoodIn wsL_act (va_wsS RL 37 yX4_cut wsX4_cut) := goodIn_app (goodIn_of _ (by decide +kernel)) ggL_act_X4_cut
set_option maxRecDepth 20000 in
theorem ggL_act_X2_unpick : GoodIn wsL_act wsX2_unpick := goodIn_ca (goodIn_ca (goodIn_r _ [77, 23, 24, 27, 28, 29, 21, 30, 31, 32, 33, 34, 78, 79, 80, 38, 81, 40, 82, 83, 84, 44, 85, 46, 52, 53, 54, 55, 56, 57, 58, 59, 60, 61, 62, 63, 64, 65, 66, 67, 68, 69, 4, 5, 6, 70, 42, 43, 45, 47, 113, 114, 115, 116, 117, 118, 119] (by decide +kernel) (by decide +kernel)) (goodIn_sub (fun _ h => List.mem_cons_of_mem _ (List.mem_append_left _ (List.mem_append_left _ (List.mem_append_right _ h)))) (by decide +kernel))) (goodIn_sub (fun _ h => List.mem_cons_of_mem _ (List.mem_append_right _ h)) (by decide +kernel))
set_option maxRecDepth 20000 in
theorem gL_act_X2_unpick : GoodIn wsL_act (wsV RL 40 RX2 yX2_unpick wsX2_unpick) := goodIn_app (goodIn_of _ (by decide +kernel)) ggL_act_X2_unpick
set_option maxRecDepth 20000 in
theorem ggL_act_L_stitchOf : GoodIn wsL_act wsL_stitchOf := goodIn_r _ [88, 9, 10, 11, 12, 13] (by decide +kernel) (by decide +kernel)
set_option maxRecDepth 20000 in
theorem gL_act_L_stitchOf : GoodIn wsL_act (va_wsS RL 47 yL_stitchOf wsL_stitchOf) := goodIn_app (goodIn_of _ (by decide +kernel)) ggL_act_L_stitchOf
set_option maxRecDepth 20000 in
theorem ggL_act_X2_add : GoodIn wsL_act wsX2_add := goodIn_ca (goodIn_ca (goodIn_r _ [92, 25, 26, 93, 94, 95, 21, 96, 23, 24, 97, 49, 50, 44, 51, 46, 47, 117, 118, 119, 115, 116] (by decide +kernel) (by decide +kernel)) (goodIn_sub (fun _ h => List.mem_cons_of_mem _ (List.mem_append_left _ (List.mem_append_right _ h))) (by decide +kernel))) (goodIn_sub (fun _ h => List.mem_cons_of_mem _ (List.mem_append_left _ (List.mem_append_left _ (List.mem_append_right _ h)))) (by decide +kernel))
set_option maxRecDepth 20000 in
theorem gL_act_X2_add : GoodIn wsL_act (wsV RL 51 RX2 yX2_add wsX2_add) := goodIn_app (goodIn_of _ (by decide +kernel)) ggL_act_X2_add
set_option maxRecDepth 20000 in
theorem ggL_act_X2_clear : GoodIn wsL_act wsX2_clear := goodIn_r _ [101, 93, 102, 83, 84, 44, 85, 46, 117, 118, 119, 115, 116] (by decide +kernel) (by decide +kernel)
set_option maxRecDepth 20000 in
theorem gL_act_X2_clear : GoodIn wsL_act (wsV RL 54 RX2 yX2_clear wsX2_clear) := goodIn_app (goodIn_of _ (by decide +kernel)) ggL_act_X2_clear
set_option maxRecDepth 20000 in
theorem ggL_act_X2_sew : GoodIn wsL_act wsX2_sew := goodIn_ca (goodIn_ca (goodIn_ca (goodIn_r _ [106, 25, 26, 27, 28, 29, 21, 30, 31, 32, 33, 34, 94, 95, 96, 23, 24, 107, 108, 109, 38, 110, 40, 48, 49, 50, 44, 51, 46, 47, 52, 53, 54, 55, 56, 57, 58, 59, 60, 61, 62, 63, 64, 65, 66, 67, 68, 69, 4, 5, 6, 70, 42, 43, 45, 113, 114, 115, 116, 117, 118, 119] (by decide +kernel) (by decide +kernel)) (goodIn_sub (fun _ h => List.mem_cons_of_mem _ (List.mem_append_left _ (List.mem_append_right _ h))) (by decide +kernel))) (goodIn_sub (fun _ h => List.mem_cons_of_mem _ (List.mem_append_right _ h)) (by decide +kernel))) (goodIn_sub (fun _ h => List.mem_cons_of_mem _ (List.mem_append_left _ (List.mem_append_left _ (List.mem_append_right _ h)))) (by decide +kernel))
set_option maxRecDepth 20000 in
theorem gL_act_X2_sew : GoodIn wsL_act (wsV RL 58 RX2 yX2_sew wsX2_sew) := goodIn_app (goodIn_of _ (by decide +kernel)) ggL_act_X2_sew
theorem dL_act_0 : decode cL_act 0 = .ok (.iload_n 2, 1) := by decide +kernel
theorem dL_act_1 : decode cL_act 1 = .ok (.iconst 2, 1) := by decide +kernel
theorem dL_act_2 : decode cL_act 2 = .ok (.ishr, 1) := by decide +kernel
theorem dL_act_3 : decode cL_act 3 = .ok (.iconst 2, 1) := by decide +kernel
theorem dL_act_4 : decode cL_act 4 = .ok (.invokestatic 9, 3) := by decide +kernel
theorem dL_act_7 : decode cL_act 7 = .ok (.istore_n 3, 1) := by decide +kernel
theorem dL_act_8 : decode cL_act 8 = .ok (.aload_n 1, 1) := by decide +kernel
theorem dL_act_9 : decode cL_act 9 = .ok (.getfield 15, 3) := by decide +kernel
theorem dL_act_12 : decode cL_act 12 = .ok (.iload_n 3, 1) := by decide +kernel
theorem dL_act_13 : decode cL_act 13 = .ok (.aaload, 1) := by decide +kernel
theorem dL_act_14 : decode cL_act 14 = .ok (.arraylength, 1) := by decide +kernel
theorem dL_act_15 : decode cL_act 15 = .ok (.istore 4, 2) := by decide +kernel
theorem dL_act_17 : decode cL_act 17 = .ok (.iload_n 2, 1) := by decide +kernel
theorem dL_act_18 : decode cL_act 18 = .ok (.bipush 12, 2) := by decide +kernel
theorem dL_act_20 : decode cL_act 20 = .ok (.invokestatic 9, 3) := by decide +kernel
theorem dL_act_23 : decode cL_act 23 = .ok (.tableswitch 381 0 4 #[33, 169, 249, 249, 331], 33) := by decide +kernel
theorem dL_act_56 : decode cL_act 56 = .ok (.iconst 1, 1) := by decide +kernel
theorem dL_act_57 : decode cL_act 57 = .ok (.iload_n 2, 1) := by decide +kernel
theorem dL_act_58 : decode cL_act 58 = .ok (.iconst 4, 1) := by decide +kernel
theorem dL_act_59 : decode cL_act 59 = .ok (.ishr, 1) := by decide +kernel
theorem dL_act_60 : decode cL_act 60 = .ok (.iload_n 2, 1) := by decide +kernel
theorem dL_act_61 : decode cL_act 61 = .ok (.bipush 7, 2) := by decide +kernel
theorem dL_act_63 : decode cL_act 63 = .ok (.ishr, 1) := by decide +kernel
theorem dL_act_64 : decode cL_act 64 = .ok (.iconst 2, 1) := by decide +kernel
theorem dL_act_65 : decode cL_act 65 = .ok (.invokestatic 9, 3) := by decide +kernel
theorem dL_act_68 : decode cL_act 68 = .ok (.ifCond .ne 7, 3) := by decide +kernel
theorem dL_act_71 : decode cL_act 71 = .ok (.iconst 5, 1) := by decide +kernel
theorem dL_act_72 : decode cL_act 72 = .ok (.goto 5, 3) := by decide +kernel
theorem dL_act_75 : decode cL_act 75 = .ok (.bipush 40, 2) := by decide +kernel
theorem dL_act_77 : decode cL_act 77 = .ok (.invokestatic 9, 3) := by decide +kernel
theorem dL_act_80 : decode cL_act 80 = .ok (.iadd, 1) := by decide +kernel
theorem dL_act_81 : decode cL_act 81 = .ok (.istore 6, 2) := by decide +kernel
theorem dL_act_83 : decode cL_act 83 = .ok (.iload 4, 2) := by decide +kernel
theorem dL_act_85 : decode cL_act 85 = .ok (.ifCond .le 17, 3) := by decide +kernel
theorem dL_act_88 : decode cL_act 88 = .ok (.iload 4, 2) := by decide +kernel
theorem dL_act_90 : decode cL_act 90 = .ok (.iload 6, 2) := by decide +kernel
theorem dL_act_92 : decode cL_act 92 = .ok (.iadd, 1) := by decide +kernel
theorem dL_act_93 : decode cL_act 93 = .ok (.bipush 40, 2) := by decide +kernel
theorem dL_act_95 : decode cL_act 95 = .ok (.if_icmp .gt 7, 3) := by decide +kernel
theorem dL_act_98 : decode cL_act 98 = .ok (.iconst 1, 1) := by decide +kernel
theorem dL_act_99 : decode cL_act 99 = .ok (.goto 4, 3) := by decide +kernel
theorem dL_act_102 : decode cL_act 102 = .ok (.iconst 0, 1) := by decide +kernel
theorem dL_act_103 : decode cL_act 103 = .ok (.istore 7, 2) := by decide +kernel
theorem dL_act_105 : decode cL_act 105 = .ok (.iconst 0, 1) := by decide +kernel
theorem dL_act_106 : decode cL_act 106 = .ok (.istore 8, 2) := by decide +kernel
theorem dL_act_108 : decode cL_act 108 = .ok (.iload 8, 2) := by decide +kernel
theorem dL_act_110 : decode cL_act 110 = .ok (.iload 6, 2) := by decide +kernel
theorem dL_act_112 : decode cL_act 112 = .ok (.if_icmp .ge 38, 3) := by decide +kernel
theorem dL_act_115 : decode cL_act 115 = .ok (.iload 7, 2) := by decide +kernel
theorem dL_act_117 : decode cL_act 117 = .ok (.ifCond .eq 33, 3) := by decide +kernel
theorem dL_act_120 : decode cL_act 120 = .ok (.aload_n 1, 1) := by decide +kernel
theorem dL_act_121 : decode cL_act 121 = .ok (.getfield 15, 3) := by decide +kernel
theorem dL_act_124 : decode cL_act 124 = .ok (.iload_n 3, 1) := by decide +kernel
theorem dL_act_125 : decode cL_act 125 = .ok (.aload_n 1, 1) := by decide +kernel
theorem dL_act_126 : decode cL_act 126 = .ok (.getfield 15, 3) := by decide +kernel
theorem dL_act_129 : decode cL_act 129 = .ok (.iload_n 3, 1) := by decide +kernel
theorem dL_act_130 : decode cL_act 130 = .ok (.aaload, 1) := by decide +kernel
theorem dL_act_131 : decode cL_act 131 = .ok (.aload_n 1, 1) := by decide +kernel
theorem dL_act_132 : decode cL_act 132 = .ok (.getfield 15, 3) := by decide +kernel
theorem dL_act_135 : decode cL_act 135 = .ok (.iload_n 3, 1) := by decide +kernel
theorem dL_act_136 : decode cL_act 136 = .ok (.aaload, 1) := by decide +kernel
theorem dL_act_137 : decode cL_act 137 = .ok (.iload 8, 2) := by decide +kernel
theorem dL_act_139 : decode cL_act 139 = .ok (.iaload, 1) := by decide +kernel
theorem dL_act_140 : decode cL_act 140 = .ok (.invokestatic 21, 3) := by decide +kernel
theorem dL_act_143 : decode cL_act 143 = .ok (.aastore, 1) := by decide +kernel
theorem dL_act_144 : decode cL_act 144 = .ok (.iinc 8 1, 3) := by decide +kernel
theorem dL_act_147 : decode cL_act 147 = .ok (.goto (-39), 3) := by decide +kernel
theorem dL_act_150 : decode cL_act 150 = .ok (.aload_n 0, 1) := by decide +kernel
theorem dL_act_151 : decode cL_act 151 = .ok (.iload_n 3, 1) := by decide +kernel
theorem dL_act_152 : decode cL_act 152 = .ok (.iload 6, 2) := by decide +kernel
theorem dL_act_154 : decode cL_act 154 = .ok (.invokevirtual 25, 3) := by decide +kernel
theorem dL_act_157 : decode cL_act 157 = .ok (.istore 5, 2) := by decide +kernel
theorem dL_act_159 : decode cL_act 159 = .ok (.goto 8, 3) := by decide +kernel
theorem dL_act_162 : decode cL_act 162 = .ok (.astore 8, 2) := by decide +kernel
theorem dL_act_164 : decode cL_act 164 = .ok (.iconst (-1), 1) := by decide +kernel
theorem dL_act_165 : decode cL_act 165 = .ok (.istore 5, 2) := by decide +kernel
theorem dL_act_167 : decode cL_act 167 = .ok (.iload 5, 2) := by decide +kernel
theorem dL_act_169 : decode cL_act 169 = .ok (.iload 7, 2) := by decide +kernel
theorem dL_act_171 : decode cL_act 171 = .ok (.ifCond .eq 11, 3) := by decide +kernel
theorem dL_act_174 : decode cL_act 174 = .ok (.iload 4, 2) := by decide +kernel
theorem dL_act_176 : decode cL_act 176 = .ok (.iload 6, 2) := by decide +kernel
theorem dL_act_178 : decode cL_act 178 = .ok (.iadd, 1) := by decide +kernel
theorem dL_act_179 : decode cL_act 179 = .ok (.goto 4, 3) := by decide +kernel
theorem dL_act_182 : decode cL_act 182 = .ok (.iconst (-1), 1) := by decide +kernel
theorem dL_act_183 : decode cL_act 183 = .ok (.if_icmp .ne 7, 3) := by decide +kernel
theorem dL_act_186 : decode cL_act 186 = .ok (.iconst 1, 1) := by decide +kernel
theorem dL_act_187 : decode cL_act 187 = .ok (.goto 4, 3) := by decide +kernel
theorem dL_act_190 : decode cL_act 190 = .ok (.iconst 0, 1) := by decide +kernel
theorem dL_act_191 : decode cL_act 191 = .ok (.ireturn, 1) := by decide +kernel
theorem dL_act_192 : decode cL_act 192 = .ok (.iload 4, 2) := by decide +kernel
theorem dL_act_194 : decode cL_act 194 = .ok (.ifCond .ne 5, 3) := by decide +kernel
theorem dL_act_197 : decode cL_act 197 = .ok (.iconst 1, 1) := by decide +kernel
theorem dL_act_198 : decode cL_act 198 = .ok (.ireturn, 1) := by decide +kernel
theorem dL_act_199 : decode cL_act 199 = .ok (.iconst 1, 1) := by decide +kernel
theorem dL_act_200 : decode cL_act 200 = .ok (.iload_n 2, 1) := by decide +kernel
theorem dL_act_201 : decode cL_act 201 = .ok (.iconst 4, 1) := by decide +kernel
theorem dL_act_202 : decode cL_act 202 = .ok (.ishr, 1) := by decide +kernel
theorem dL_act_203 : decode cL_act 203 = .ok (.iload_n 2, 1) := by decide +kernel
theorem dL_act_204 : decode cL_act 204 = .ok (.bipush 7, 2) := by decide +kernel
theorem dL_act_206 : decode cL_act 206 = .ok (.ishr, 1) := by decide +kernel
theorem dL_act_207 : decode cL_act 207 = .ok (.iconst 3, 1) := by decide +kernel
theorem dL_act_208 : decode cL_act 208 = .ok (.invokestatic 9, 3) := by decide +kernel
theorem dL_act_211 : decode cL_act 211 = .ok (.ifCond .ne 8, 3) := by decide +kernel
theorem dL_act_214 : decode cL_act 214 = .ok (.iload 4, 2) := by decide +kernel
theorem dL_act_216 : decode cL_act 216 = .ok (.goto 9, 3) := by decide +kernel
theorem dL_act_219 : decode cL_act 219 = .ok (.iload 4, 2) := by decide +kernel
theorem dL_act_221 : decode cL_act 221 = .ok (.iconst 3, 1) := by decide +kernel
theorem dL_act_222 : decode cL_act 222 = .ok (.invokestatic 32, 3) := by decide +kernel
theorem dL_act_225 : decode cL_act 225 = .ok (.invokestatic 9, 3) := by decide +kernel
theorem dL_act_228 : decode cL_act 228 = .ok (.iadd, 1) := by decide +kernel
theorem dL_act_229 : decode cL_act 229 = .ok (.istore 6, 2) := by decide +kernel
theorem dL_act_231 : decode cL_act 231 = .ok (.aload_n 1, 1) := by decide +kernel
theorem dL_act_232 : decode cL_act 232 = .ok (.getfield 15, 3) := by decide +kernel
theorem dL_act_235 : decode cL_act 235 = .ok (.iload_n 3, 1) := by decide +kernel
theorem dL_act_236 : decode cL_act 236 = .ok (.aload_n 1, 1) := by decide +kernel
theorem dL_act_237 : decode cL_act 237 = .ok (.getfield 15, 3) := by decide +kernel
theorem dL_act_240 : decode cL_act 240 = .ok (.iload_n 3, 1) := by decide +kernel
theorem dL_act_241 : decode cL_act 241 = .ok (.aaload, 1) := by decide +kernel
theorem dL_act_242 : decode cL_act 242 = .ok (.iload 4, 2) := by decide +kernel
theorem dL_act_244 : decode cL_act 244 = .ok (.iload 6, 2) := by decide +kernel
theorem dL_act_246 : decode cL_act 246 = .ok (.isub, 1) := by decide +kernel
theorem dL_act_247 : decode cL_act 247 = .ok (.invokestatic 37, 3) := by decide +kernel
theorem dL_act_250 : decode cL_act 250 = .ok (.aastore, 1) := by decide +kernel
theorem dL_act_251 : decode cL_act 251 = .ok (.aload_n 0, 1) := by decide +kernel
theorem dL_act_252 : decode cL_act 252 = .ok (.iload_n 3, 1) := by decide +kernel
theorem dL_act_253 : decode cL_act 253 = .ok (.iload 6, 2) := by decide +kernel
theorem dL_act_255 : decode cL_act 255 = .ok (.invokevirtual 40, 3) := by decide +kernel
theorem dL_act_258 : decode cL_act 258 = .ok (.iload 4, 2) := by decide +kernel
theorem dL_act_260 : decode cL_act 260 = .ok (.iload 6, 2) := by decide +kernel
theorem dL_act_262 : decode cL_act 262 = .ok (.isub, 1) := by decide +kernel
theorem dL_act_263 : decode cL_act 263 = .ok (.if_icmp .ne 7, 3) := by decide +kernel
theorem dL_act_266 : decode cL_act 266 = .ok (.iconst 1, 1) := by decide +kernel
theorem dL_act_267 : decode cL_act 267 = .ok (.goto 4, 3) := by decide +kernel
theorem dL_act_270 : decode cL_act 270 = .ok (.iconst 0, 1) := by decide +kernel
theorem dL_act_271 : decode cL_act 271 = .ok (.ireturn, 1) := by decide +kernel
theorem dL_act_272 : decode cL_act 272 = .ok (.aload_n 1, 1) := by decide +kernel
theorem dL_act_273 : decode cL_act 273 = .ok (.getfield 43, 3) := by decide +kernel
theorem dL_act_276 : decode cL_act 276 = .ok (.arraylength, 1) := by decide +kernel
theorem dL_act_277 : decode cL_act 277 = .ok (.bipush 12, 2) := by decide +kernel
theorem dL_act_279 : decode cL_act 279 = .ok (.if_icmp .ge 7, 3) := by decide +kernel
theorem dL_act_282 : decode cL_act 282 = .ok (.iconst 1, 1) := by decide +kernel
theorem dL_act_283 : decode cL_act 283 = .ok (.goto 4, 3) := by decide +kernel
theorem dL_act_286 : decode cL_act 286 = .ok (.iconst 0, 1) := by decide +kernel
theorem dL_act_287 : decode cL_act 287 = .ok (.istore 6, 2) := by decide +kernel
theorem dL_act_289 : decode cL_act 289 = .ok (.iload_n 2, 1) := by decide +kernel
theorem dL_act_290 : decode cL_act 290 = .ok (.invokestatic 47, 3) := by decide +kernel
theorem dL_act_293 : decode cL_act 293 = .ok (.istore 7, 2) := by decide +kernel
theorem dL_act_295 : decode cL_act 295 = .ok (.iload 6, 2) := by decide +kernel
theorem dL_act_297 : decode cL_act 297 = .ok (.ifCond .eq 16, 3) := by decide +kernel
theorem dL_act_300 : decode cL_act 300 = .ok (.aload_n 1, 1) := by decide +kernel
theorem dL_act_301 : decode cL_act 301 = .ok (.aload_n 1, 1) := by decide +kernel
theorem dL_act_302 : decode cL_act 302 = .ok (.getfield 43, 3) := by decide +kernel
theorem dL_act_305 : decode cL_act 305 = .ok (.iload 7, 2) := by decide +kernel
theorem dL_act_307 : decode cL_act 307 = .ok (.invokestatic 21, 3) := by decide +kernel
theorem dL_act_310 : decode cL_act 310 = .ok (.putfield 43, 3) := by decide +kernel
theorem dL_act_313 : decode cL_act 313 = .ok (.aload_n 0, 1) := by decide +kernel
theorem dL_act_314 : decode cL_act 314 = .ok (.iload 7, 2) := by decide +kernel
theorem dL_act_316 : decode cL_act 316 = .ok (.invokevirtual 51, 3) := by decide +kernel
theorem dL_act_319 : decode cL_act 319 = .ok (.istore 5, 2) := by decide +kernel
theorem dL_act_321 : decode cL_act 321 = .ok (.goto 8, 3) := by decide +kernel
theorem dL_act_324 : decode cL_act 324 = .ok (.astore 8, 2) := by decide +kernel
theorem dL_act_326 : decode cL_act 326 = .ok (.iconst (-1), 1) := by decide +kernel
theorem dL_act_327 : decode cL_act 327 = .ok (.istore 5, 2) := by decide +kernel
theorem dL_act_329 : decode cL_act 329 = .ok (.iload 5, 2) := by decide +kernel
theorem dL_act_331 : decode cL_act 331 = .ok (.iload 6, 2) := by decide +kernel
theorem dL_act_333 : decode cL_act 333 = .ok (.ifCond .eq 11, 3) := by decide +kernel
theorem dL_act_336 : decode cL_act 336 = .ok (.aload_n 1, 1) := by decide +kernel
theorem dL_act_337 : decode cL_act 337 = .ok (.getfield 43, 3) := by decide +kernel
theorem dL_act_340 : decode cL_act 340 = .ok (.arraylength, 1) := by decide +kernel
theorem dL_act_341 : decode cL_act 341 = .ok (.goto 4, 3) := by decide +kernel
theorem dL_act_344 : decode cL_act 344 = .ok (.iconst (-1), 1) := by decide +kernel
theorem dL_act_345 : decode cL_act 345 = .ok (.if_icmp .ne 7, 3) := by decide +kernel
theorem dL_act_348 : decode cL_act 348 = .ok (.iconst 1, 1) := by decide +kernel
theorem dL_act_349 : decode cL_act 349 = .ok (.goto 4, 3) := by decide +kernel
theorem dL_act_352 : decode cL_act 352 = .ok (.iconst 0, 1) := by decide +kernel
theorem dL_act_353 : decode cL_act 353 = .ok (.ireturn, 1) := by decide +kernel
theorem dL_act_354 : decode cL_act 354 = .ok (.iload_n 2, 1) := by decide +kernel
theorem dL_act_355 : decode cL_act 355 = .ok (.iconst 4, 1) := by decide +kernel
theorem dL_act_356 : decode cL_act 356 = .ok (.ishr, 1) := by decide +kernel
theorem dL_act_357 : decode cL_act 357 = .ok (.iconst 3, 1) := by decide +kernel
theorem dL_act_358 : decode cL_act 358 = .ok (.invokestatic 9, 3) := by decide +kernel
theorem dL_act_361 : decode cL_act 361 = .ok (.ifCond .le 14, 3) := by decide +kernel
theorem dL_act_364 : decode cL_act 364 = .ok (.aload_n 1, 1) := by decide +kernel
theorem dL_act_365 : decode cL_act 365 = .ok (.getfield 43, 3) := by decide +kernel
theorem dL_act_368 : decode cL_act 368 = .ok (.arraylength, 1) := by decide +kernel
theorem dL_act_369 : decode cL_act 369 = .ok (.iconst 5, 1) := by decide +kernel
theorem dL_act_370 : decode cL_act 370 = .ok (.if_icmp .ge 5, 3) := by decide +kernel
theorem dL_act_373 : decode cL_act 373 = .ok (.iconst 1, 1) := by decide +kernel
theorem dL_act_374 : decode cL_act 374 = .ok (.ireturn, 1) := by decide +kernel
theorem dL_act_375 : decode cL_act 375 = .ok (.aload_n 1, 1) := by decide +kernel
theorem dL_act_376 : decode cL_act 376 = .ok (.getfield 43, 3) := by decide +kernel
theorem dL_act_379 : decode cL_act 379 = .ok (.arraylength, 1) := by decide +kernel
theorem dL_act_380 : decode cL_act 380 = .ok (.istore 6, 2) := by decide +kernel
theorem dL_act_382 : decode cL_act 382 = .ok (.aload_n 1, 1) := by decide +kernel
theorem dL_act_383 : decode cL_act 383 = .ok (.iconst 0, 1) := by decide +kernel
theorem dL_act_384 : decode cL_act 384 = .ok (.newarray .int, 2) := by decide +kernel
theorem dL_act_386 : decode cL_act 386 = .ok (.putfield 43, 3) := by decide +kernel
theorem dL_act_389 : decode cL_act 389 = .ok (.aload_n 0, 1) := by decide +kernel
theorem dL_act_390 : decode cL_act 390 = .ok (.invokevirtual 54, 3) := by decide +kernel
theorem dL_act_393 : decode cL_act 393 = .ok (.iload 6, 2) := by decide +kernel
theorem dL_act_395 : decode cL_act 395 = .ok (.if_icmp .ne 7, 3) := by decide +kernel
theorem dL_act_398 : decode cL_act 398 = .ok (.iconst 1, 1) := by decide +kernel
theorem dL_act_399 : decode cL_act 399 = .ok (.goto 4, 3) := by decide +kernel
theorem dL_act_402 : decode cL_act 402 = .ok (.iconst 0, 1) := by decide +kernel
theorem dL_act_403 : decode cL_act 403 = .ok (.ireturn, 1) := by decide +kernel
theorem dL_act_404 : decode cL_act 404 = .ok (.iload_n 2, 1) := by decide +kernel
theorem dL_act_405 : decode cL_act 405 = .ok (.invokestatic 47, 3) := by decide +kernel
theorem dL_act_408 : decode cL_act 408 = .ok (.istore 6, 2) := by decide +kernel
theorem dL_act_410 : decode cL_act 410 = .ok (.iload 4, 2) := by decide +kernel
theorem dL_act_412 : decode cL_act 412 = .ok (.bipush 40, 2) := by decide +kernel
theorem dL_act_414 : decode cL_act 414 = .ok (.if_icmp .ge 7, 3) := by decide +kernel
theorem dL_act_417 : decode cL_act 417 = .ok (.iconst 1, 1) := by decide +kernel
theorem dL_act_418 : decode cL_act 418 = .ok (.goto 4, 3) := by decide +kernel
theorem dL_act_421 : decode cL_act 421 = .ok (.iconst 0, 1) := by decide +kernel
theorem dL_act_422 : decode cL_act 422 = .ok (.istore 7, 2) := by decide +kernel
theorem dL_act_424 : decode cL_act 424 = .ok (.iload 7, 2) := by decide +kernel
theorem dL_act_426 : decode cL_act 426 = .ok (.ifCond .eq 20, 3) := by decide +kernel
theorem dL_act_429 : decode cL_act 429 = .ok (.aload_n 1, 1) := by decide +kernel
theorem dL_act_430 : decode cL_act 430 = .ok (.getfield 15, 3) := by decide +kernel
theorem dL_act_433 : decode cL_act 433 = .ok (.iload_n 3, 1) := by decide +kernel
theorem dL_act_434 : decode cL_act 434 = .ok (.aload_n 1, 1) := by decide +kernel
theorem dL_act_435 : decode cL_act 435 = .ok (.getfield 15, 3) := by decide +kernel
theorem dL_act_438 : decode cL_act 438 = .ok (.iload_n 3, 1) := by decide +kernel
theorem dL_act_439 : decode cL_act 439 = .ok (.aaload, 1) := by decide +kernel
theorem dL_act_440 : decode cL_act 440 = .ok (.iload 6, 2) := by decide +kernel
theorem dL_act_442 : decode cL_act 442 = .ok (.invokestatic 21, 3) := by decide +kernel
theorem dL_act_445 : decode cL_act 445 = .ok (.aastore, 1) := by decide +kernel
theorem dL_act_446 : decode cL_act 446 = .ok (.aload_n 0, 1) := by decide +kernel
theorem dL_act_447 : decode cL_act 447 = .ok (.iload_n 3, 1) := by decide +kernel
theorem dL_act_448 : decode cL_act 448 = .ok (.iload 6, 2) := by decide +kernel
theorem dL_act_450 : decode cL_act 450 = .ok (.invokevirtual 58, 3) := by decide +kernel
theorem dL_act_453 : decode cL_act 453 = .ok (.istore 5, 2) := by decide +kernel
theorem dL_act_455 : decode cL_act 455 = .ok (.goto 8, 3) := by decide +kernel
theorem dL_act_458 : decode cL_act 458 = .ok (.astore 8, 2) := by decide +kernel
theorem dL_act_460 : decode cL_act 460 = .ok (.iconst (-1), 1) := by decide +kernel
theorem dL_act_461 : decode cL_act 461 = .ok (.istore 5, 2) := by decide +kernel
theorem dL_act_463 : decode cL_act 463 = .ok (.iload 5, 2) := by decide +kernel
theorem dL_act_465 : decode cL_act 465 = .ok (.iload 7, 2) := by decide +kernel
theorem dL_act_467 : decode cL_act 467 = .ok (.ifCond .eq 10, 3) := by decide +kernel
theorem dL_act_470 : decode cL_act 470 = .ok (.iload 4, 2) := by decide +kernel
theorem dL_act_472 : decode cL_act 472 = .ok (.iconst 1, 1) := by decide +kernel
theorem dL_act_473 : decode cL_act 473 = .ok (.iadd, 1) := by decide +kernel
theorem dL_act_474 : decode cL_act 474 = .ok (.goto 4, 3) := by decide +kernel
theorem dL_act_477 : decode cL_act 477 = .ok (.iconst (-1), 1) := by decide +kernel
theorem dL_act_478 : decode cL_act 478 = .ok (.if_icmp .ne 7, 3) := by decide +kernel
theorem dL_act_481 : decode cL_act 481 = .ok (.iconst 1, 1) := by decide +kernel
theorem dL_act_482 : decode cL_act 482 = .ok (.goto 4, 3) := by decide +kernel
theorem dL_act_485 : decode cL_act 485 = .ok (.iconst 0, 1) := by decide +kernel
theorem dL_act_486 : decode cL_act 486 = .ok (.ireturn, 1) := by decide +kernel
set_option maxRecDepth 20000 in
theorem ggL_build_X4_init : GoodIn wsL_build wsX4_init := goodIn_r _ [5, 6, 7, 8, 9, 10, 11, 12, 128, 129] (by decide +kernel) (by decide +kernel)
set_option maxRecDepth 20000 in
theorem gL_build_X4_init_n61 : GoodIn wsL_build (wsX4_init) := ggL_build_X4_init
set_option maxRecDepth 20000 in
theorem ggL_build_L_cell : GoodIn wsL_build wsL_cell := goodIn_r _ [16, 17] (by decide +kernel) (by decide +kernel)
set_option maxRecDepth 20000 in
theorem gL_build_L_cell : GoodIn wsL_build (va_wsS RL 62 yL_cell wsL_cell) := goodIn_app (goodIn_of _ (by decide +kernel)) ggL_build_L_cell
set_option maxRecDepth 20000 in
theorem ggL_build_L_act : GoodIn wsL_build wsL_act := goodIn_ca (goodIn_ca (goodIn_ca (goodIn_r _ [20, 21, 22, 23, 24, 25, 26, 27, 10, 28, 29, 15, 30, 31, 32, 33, 3, 34, 35, 36, 37, 38, 39, 40, 41, 42, 43, 44, 45, 46, 47, 48, 49, 50, 51, 52, 53, 54, 55, 56, 57, 58, 59, 60, 61, 62, 63, 64, 65, 66, 67, 68, 69, 70, 71, 72, 73, 74, 75, 76, 77, 78, 79, 80, 81, 82, 83, 84, 85, 86, 87, 88, 89, 90, 91, 92, 93, 94, 95, 96, 97, 98, 99, 100, 101, 102, 103, 104, 105, 106, 107, 108, 109, 110, 111, 112, 113, 114, 115, 116, 117, 118, 119, 120, 121, 122, 123, 124, 125, 126, 127, 128, 129, 130, 131, 132, 133, 134, 135, 136] (by decide +kernel) (by decide +kernel)) (goodIn_sub (fun _ h => List.mem_cons_of_mem _ (List.mem_append_left _ (List.mem_append_left _ (List.mem_append_right _ h)))) (by decide +kernel))) (goodIn_sub (fun _ h => List.mem_cons_of_mem _ (List.mem_append_left _ (List.mem_append_right _ h))) (by decide +kernel))) (goodIn_sub (fun _ h => List.mem_cons_of_mem _ (List.mem_append_right _ h)) (by decide +kernel))
set_option maxRecDepth 20000 in
theorem gL_build_L_act : GoodIn wsL_build (va_wsS RL 66 yL_act wsL_act) := goodIn_app (goodIn_of _ (by decide +kernel)) ggL_build_L_act
theorem dL_build_0 : decode cL_build 0 = .ok (.new 16, 3) := by decide +kernel
theorem dL_build_3 : decode cL_build 3 = .ok (.dup, 1) := by decide +kernel
theorem dL_build_4 : decode cL_build 4 = .ok (.invokespecial 61, 3) := by decide +kernel
theorem dL_build_7 : decode cL_build 7 = .ok (.astore_n 2, 1) := by decide +kernel
theorem dL_build_8 : decode cL_build 8 = .ok (.iconst 0, 1) := by decide +kernel
theorem dL_build_9 : decode cL_build 9 = .ok (.istore_n 3, 1) := by decide +kernel
theorem dL_build_10 : decode cL_build 10 = .ok (.iload_n 3, 1) := by decide +kernel
theorem dL_build_11 : decode cL_build 11 = .ok (.bipush 60, 2) := by decide +kernel
theorem dL_build_13 : decode cL_build 13 = .ok (.if_icmp .ge 43, 3) := by decide +kernel
theorem dL_build_16 : decode cL_build 16 = .ok (.aload_n 1, 1) := by decide +kernel
theorem dL_build_17 : decode cL_build 17 = .ok (.iload_n 3, 1) := by decide +kernel
theorem dL_build_18 : decode cL_build 18 = .ok (.bipush 16, 2) := by decide +kernel
theorem dL_build_20 : decode cL_build 20 = .ok (.irem, 1) := by decide +kernel
theorem dL_build_21 : decode cL_build 21 = .ok (.invokestatic 62, 3) := by decide +kernel
theorem dL_build_24 : decode cL_build 24 = .ok (.iload_n 3, 1) := by decide +kernel
theorem dL_build_25 : decode cL_build 25 = .ok (.bipush 16, 2) := by decide +kernel
theorem dL_build_27 : decode cL_build 27 = .ok (.idiv, 1) := by decide +kernel
theorem dL_build_28 : decode cL_build 28 = .ok (.iconst 3, 1) := by decide +kernel
theorem dL_build_29 : decode cL_build 29 = .ok (.imul, 1) := by decide +kernel
theorem dL_build_30 : decode cL_build 30 = .ok (.ishr, 1) := by decide +kernel
theorem dL_build_31 : decode cL_build 31 = .ok (.bipush 59, 2) := by decide +kernel
theorem dL_build_33 : decode cL_build 33 = .ok (.iload_n 3, 1) := by decide +kernel
theorem dL_build_34 : decode cL_build 34 = .ok (.imul, 1) := by decide +kernel
theorem dL_build_35 : decode cL_build 35 = .ok (.iadd, 1) := by decide +kernel
theorem dL_build_36 : decode cL_build 36 = .ok (.istore 4, 2) := by decide +kernel
theorem dL_build_38 : decode cL_build 38 = .ok (.aload_n 0, 1) := by decide +kernel
theorem dL_build_39 : decode cL_build 39 = .ok (.aload_n 2, 1) := by decide +kernel
theorem dL_build_40 : decode cL_build 40 = .ok (.iload 4, 2) := by decide +kernel
theorem dL_build_42 : decode cL_build 42 = .ok (.invokestatic 66, 3) := by decide +kernel
theorem dL_build_45 : decode cL_build 45 = .ok (.ifCond .ne 5, 3) := by decide +kernel
theorem dL_build_48 : decode cL_build 48 = .ok (.aconst_null, 1) := by decide +kernel
theorem dL_build_49 : decode cL_build 49 = .ok (.areturn, 1) := by decide +kernel
theorem dL_build_50 : decode cL_build 50 = .ok (.iinc 3 1, 3) := by decide +kernel
theorem dL_build_53 : decode cL_build 53 = .ok (.goto (-43), 3) := by decide +kernel
theorem dL_build_56 : decode cL_build 56 = .ok (.aload_n 2, 1) := by decide +kernel
theorem dL_build_57 : decode cL_build 57 = .ok (.areturn, 1) := by decide +kernel
set_option maxRecDepth 20000 in
theorem ggL_law_X2_init : GoodIn wsL_law wsX2_init := goodIn_r _ [15, 16, 17, 18, 19, 20, 21, 22, 23, 24, 25, 26, 27, 28, 29, 30, 31, 32, 33, 3, 34, 35, 36, 37, 38, 39, 40, 41, 393, 394, 388, 389, 390, 395, 396] (by decide +kernel) (by decide +kernel)
set_option maxRecDepth 20000 in
theorem gL_law_X2_init : GoodIn wsL_law (wsX2_init) := ggL_law_X2_init
set_option maxRecDepth 20000 in
theorem ggL_law_L_build : GoodIn wsL_law wsL_build := goodIn_ca (goodIn_ca (goodIn_ca (goodIn_r _ [45, 46, 47, 48, 49, 50, 51, 17, 18, 52, 3, 53, 54, 55, 56, 44, 57, 58, 59, 60, 61, 62, 63, 64, 65, 7, 66, 9, 67, 68, 69, 70, 71, 72, 73, 74, 75, 76, 2, 77, 78, 79, 80, 81, 82, 83, 84, 85, 86, 87, 22, 23, 88, 89, 90, 21, 91, 33, 92, 93, 94, 26, 95, 40, 39, 96, 97, 98, 99, 100, 101, 102, 103, 34, 104, 105, 106, 107, 108, 109, 110, 111, 112, 113, 114, 115, 116, 117, 118, 119, 120, 121, 122, 123, 124, 125, 126, 127, 128, 129, 130, 131, 132, 133, 134, 135, 136, 137, 138, 139, 27, 140, 141, 142, 143, 144, 145, 146, 147, 148, 149, 150, 151, 152, 153, 154, 155, 156, 391, 392, 393, 394, 395, 396, 388, 389, 390] (by decide +kernel) (by decide +kernel)) (goodIn_sub (fun _ h => List.mem_append_left _ (List.mem_append_left _ (List.mem_append_right _ h))) (by decide +kernel))) (goodIn_sub (fun _ h => List.mem_append_left _ (List.mem_append_right _ h)) (by decide +kernel))) (goodIn_sub (fun _ h => List.mem_append_right _ h) (by decide +kernel))
set_option maxRecDepth 20000 in
theorem gL_law_L_build : GoodIn wsL_law (va_wsS RL 71 yL_build wsL_build) := goodIn_app (goodIn_of _ (by decide +kernel)) ggL_law_L_build
set_option maxRecDepth 20000 in
theorem ggL_law_L_cell : GoodIn wsL_law wsL_cell := goodIn_r _ [57, 58] (by decide +kernel) (by decide +kernel)
set_option maxRecDepth 20000 in
theorem gL_law_L_cell : GoodIn wsL_law (va_wsS RL 62 yL_cell wsL_cell) := goodIn_app (goodIn_of _ (by decide +kernel)) ggL_law_L_cell
set_option maxRecDepth 20000 in
theorem ggL_law_L_act : GoodIn wsL_law wsL_act := goodIn_ca (goodIn_ca (goodIn_ca (goodIn_r _ [61, 62, 63, 64, 65, 7, 66, 9, 3, 67, 68, 44, 69, 70, 71, 72, 48, 73, 74, 75, 76, 2, 77, 78, 79, 80, 81, 82, 83, 84, 85, 86, 87, 22, 23, 88, 89, 90, 21, 91, 33, 92, 93, 94, 26, 95, 40, 39, 96, 97, 98, 99, 100, 101, 102, 103, 34, 104, 105, 106, 107, 108, 109, 110, 111, 112, 113, 114, 115, 116, 117, 118, 119, 120, 121, 122, 123, 124, 125, 126, 127, 128, 129, 130, 131, 132, 133, 134, 135, 136, 137, 138, 139, 27, 140, 141, 142, 143, 144, 145, 146, 147, 148, 149, 150, 151, 152, 153, 154, 155, 156, 391, 392, 393, 394, 395, 396, 388, 389, 390] (by decide +kernel) (by decide +kernel)) (goodIn_sub (fun _ h => List.mem_append_left _ (List.mem_append_left _ (List.mem_append_right _ h))) (by decide +kernel))) (goodIn_sub (fun _ h => List.mem_append_left _ (List.mem_append_right _ h)) (by decide +kernel))) (goodIn_sub (fun _ h => List.mem_append_right _ h) (by decide +kernel))
set_option maxRecDepth 20000 in
theorem gL_law_L_act : GoodIn wsL_law (va_wsS RL 66 yL_act wsL_act) := goodIn_app (goodIn_of _ (by decide +kernel)) ggL_law_L_act
set_option maxRecDepth 20000 in
theorem ggL_law_X2_digest : GoodIn wsL_law wsX2_digest := goodIn_ca (goodIn_r _ [160, 161, 27, 162, 163, 164, 2, 165, 86, 87, 22, 23, 166, 167, 168, 21, 169, 33, 170, 171, 172, 173, 174, 175, 176, 177, 34, 178, 179, 180, 181, 182, 113, 114, 26, 115, 40, 116, 65, 7, 66, 117, 93, 94, 95, 39, 183, 184, 185, 186, 187, 188, 189, 190, 191, 192, 193, 194, 195, 196, 6, 8, 112, 197, 198, 199, 200, 201, 202, 203, 204, 82, 83, 84, 85, 205, 206, 207, 208, 209, 210, 211, 212, 213, 214, 215, 216, 217, 218, 219, 220, 221, 222, 223, 224, 225, 226, 227, 228, 229, 230, 231, 232, 233, 234, 235, 236, 237, 238, 239, 240, 241, 242, 243, 244, 245, 246, 247, 248, 249, 250, 251, 252, 253, 254, 255, 256, 257, 258, 259, 260, 261, 388, 389, 390, 393, 394, 395, 396] (by decide +kernel) (by decide +kernel)) (goodIn_sub (fun _ h => List.mem_append_right _ h) (by decide +kernel))
set_option maxRecDepth 20000 in
theorem gL_law_X2_digest : GoodIn wsL_law (wsV RL 75 RX2 yX2_digest wsX2_digest) := goodIn_app (goodIn_of _ (by decide +kernel)) ggL_law_X2_digest
set_option maxRecDepth 20000 in
theorem ggL_law_X2_count : GoodIn wsL_law wsX2_count := goodIn_ca (goodIn_r _ [165, 86, 87, 22, 23, 27, 166, 167, 168, 21, 169, 33, 170, 171, 172, 173, 174, 175, 176, 177, 34, 178, 179, 180, 181, 182, 113, 114, 26, 115, 40, 116, 65, 7, 66, 117, 93, 94, 95, 39, 183, 184, 185, 2, 186, 187, 188, 189, 190, 191, 192, 193, 194, 195, 196, 6, 8, 112, 388, 389, 390, 393, 394, 395, 396] (by decide +kernel) (by decide +kernel)) (goodIn_sub (fun _ h => List.mem_append_right _ h) (by decide +kernel))
set_option maxRecDepth 20000 in
theorem gL_law_X2_count : GoodIn wsL_law (wsV RL 79 RX2 yX2_count wsX2_count) := goodIn_app (goodIn_of _ (by decide +kernel)) ggL_law_X2_count
set_option maxRecDepth 20000 in
theorem ggL_law_X2_stitch : GoodIn wsL_law wsX2_stitch := goodIn_ca (goodIn_r _ [266, 82, 83, 84, 2, 85, 86, 87, 22, 23, 267, 268, 269, 208, 93, 94, 26, 95, 40, 39, 393, 394, 388, 389, 390, 395, 396] (by decide +kernel) (by decide +kernel)) (goodIn_sub (fun _ h => List.mem_append_right _ h) (by decide +kernel))
set_option maxRecDepth 20000 in
theorem gL_law_X2_stitch : GoodIn wsL_law (wsV RL 82 RX2 yX2_stitch wsX2_stitch) := goodIn_app (goodIn_of _ (by decide +kernel)) ggL_law_X2_stitch
set_option maxRecDepth 20000 in
theorem ggL_law_X2_end : GoodIn wsL_law wsX2_end := goodIn_ca (goodIn_r _ [273, 82, 83, 84, 2, 85, 86, 87, 22, 23, 267, 268, 269, 187, 175, 176, 21, 177, 33, 34, 393, 394, 388, 389, 390, 395, 396] (by decide +kernel) (by decide +kernel)) (goodIn_sub (fun _ h => List.mem_append_right _ h) (by decide +kernel))
set_option maxRecDepth 20000 in
theorem gL_law_X2_end : GoodIn wsL_law (wsV RL 85 RX2 yX2_end wsX2_end) := goodIn_app (goodIn_of _ (by decide +kernel)) ggL_law_X2_end
set_option maxRecDepth 20000 in
theorem ggL_law_X2_rank : GoodIn wsL_law wsX2_rank := goodIn_ca (goodIn_r _ [277, 82, 83, 84, 2, 85, 86, 87, 22, 23, 267, 268, 269, 278, 279, 280, 21, 281, 33, 174, 175, 176, 177, 34, 393, 394, 388, 389, 390, 395, 396] (by decide +kernel) (by decide +kernel)) (goodIn_sub (fun _ h => List.mem_append_right _ h) (by decide +kernel))
set_option maxRecDepth 20000 in
theorem gL_law_X2_rank : GoodIn wsL_law (wsV RL 88 RX2 yX2_rank wsX2_rank) := goodIn_app (goodIn_of _ (by decide +kernel)) ggL_law_X2_rank
set_option maxRecDepth 20000 in
theorem ggL_law_X2_common : GoodIn wsL_law wsX2_common := goodIn_ca (goodIn_r _ [285, 82, 83, 84, 2, 85, 86, 87, 22, 23, 267, 268, 269, 286, 113, 114, 26, 115, 40, 116, 65, 7, 66, 117, 93, 94, 95, 39, 393, 394, 388, 389, 390, 395, 396] (by decide +kernel) (by decide +kernel)) (goodIn_sub (fun _ h => List.mem_append_right _ h) (by decide +kernel))
set_option maxRecDepth 20000 in
theorem gL_law_X2_common : GoodIn wsL_law (wsV RL 91 RX2 yX2_common wsX2_common) := goodIn_app (goodIn_of _ (by decide +kernel)) ggL_law_X2_common
set_option maxRecDepth 20000 in
theorem ggL_law_L_common : GoodIn wsL_law wsL_common := goodIn_r _ [289] (by decide +kernel) (by decide +kernel)
set_option maxRecDepth 20000 in
theorem gL_law_L_common : GoodIn wsL_law (va_wsS RL 95 yL_common wsL_common) := goodIn_app (goodIn_of _ (by decide +kernel)) ggL_law_L_common
set_option maxRecDepth 20000 in
theorem ggL_law_X2_repeat : GoodIn wsL_law wsX2_repeat := goodIn_ca (goodIn_r _ [212, 86, 87, 82, 83, 84, 2, 85, 22, 23, 213, 214, 215, 21, 216, 33, 178, 179, 180, 181, 174, 175, 176, 177, 34, 182, 113, 114, 26, 115, 40, 116, 65, 7, 66, 117, 93, 94, 95, 39, 217, 187, 218, 219, 220, 221, 222, 223, 224, 225, 112, 226, 227, 228, 229, 393, 394, 388, 389, 390, 395, 396] (by decide +kernel) (by decide +kernel)) (goodIn_sub (fun _ h => List.mem_append_right _ h) (by decide +kernel))
set_option maxRecDepth 20000 in
theorem gL_law_X2_repeat : GoodIn wsL_law (wsV RL 101 RX2 yX2_repeat wsX2_repeat) := goodIn_app (goodIn_of _ (by decide +kernel)) ggL_law_X2_repeat
set_option maxRecDepth 20000 in
theorem ggL_law_L_below : GoodIn wsL_law wsL_below := goodIn_r _ [69, 70] (by decide +kernel) (by decide +kernel)
set_option maxRecDepth 20000 in
theorem gL_law_L_below : GoodIn wsL_law (va_wsS RL 9 yL_below wsL_below) := goodIn_app (goodIn_of _ (by decide +kernel)) ggL_law_L_below
set_option maxRecDepth 20000 in
theorem ggL_law_X2_row : GoodIn wsL_law wsX2_row := goodIn_ca (goodIn_r _ [294, 86, 87, 82, 83, 84, 2, 85, 22, 23, 166, 167, 168, 21, 169, 33, 170, 171, 172, 173, 174, 175, 176, 177, 34, 178, 179, 180, 181, 182, 113, 114, 26, 115, 40, 116, 65, 7, 66, 117, 93, 94, 95, 39, 295, 296, 297, 298, 299, 219, 220, 221, 222, 223, 224, 225, 112, 388, 389, 390, 393, 394, 395, 396] (by decide +kernel) (by decide +kernel)) (goodIn_sub (fun _ h => List.mem_append_right _ h) (by decide +kernel))
set_option maxRecDepth 20000 in
theorem gL_law_X2_row : GoodIn wsL_law (wsV RL 104 RX2 yX2_row wsX2_row) := goodIn_app (goodIn_of _ (by decide +kernel)) ggL_law_X2_row
set_option maxRecDepth 20000 in
theorem ggL_law_X2_period : GoodIn wsL_law wsX2_period := goodIn_ca (goodIn_r _ [233, 82, 83, 84, 2, 85, 86, 87, 22, 23, 234, 235, 236, 26, 237, 40, 112, 113, 114, 115, 116, 65, 7, 66, 117, 93, 94, 95, 39, 393, 394, 388, 389, 390, 395, 396] (by decide +kernel) (by decide +kernel)) (goodIn_sub (fun _ h => List.mem_append_right _ h) (by decide +kernel))
set_option maxRecDepth 20000 in
theorem gL_law_X2_period : GoodIn wsL_law (wsV RL 107 RX2 yX2_period wsX2_period) := goodIn_app (goodIn_of _ (by decide +kernel)) ggL_law_X2_period
set_option maxRecDepth 20000 in
theorem ggL_law_X2_turned : GoodIn wsL_law wsX2_turned := goodIn_ca (goodIn_r _ [241, 82, 83, 84, 2, 85, 86, 87, 22, 23, 242, 243, 244, 26, 245, 40, 246, 247, 248, 249, 250, 251, 252, 253, 117, 93, 94, 95, 39, 393, 394, 388, 389, 390, 395, 396] (by decide +kernel) (by decide +kernel)) (goodIn_sub (fun _ h => List.mem_append_right _ h) (by decide +kernel))
set_option maxRecDepth 20000 in
theorem gL_law_X2_turned : GoodIn wsL_law (wsV RL 110 RX2 yX2_turned wsX2_turned) := goodIn_app (goodIn_of _ (by decide +kernel)) ggL_law_X2_turned
set_option maxRecDepth 20000 in
theorem ggL_law_X2_first : GoodIn wsL_law wsX2_first := goodIn_ca (goodIn_r _ [305, 27, 82, 83, 84, 2, 85, 86, 87, 22, 23, 218, 219, 220, 26, 221, 40, 222, 223, 224, 225, 112, 113, 114, 115, 116, 65, 7, 66, 117, 93, 94, 95, 39, 393, 394, 388, 389, 390, 395, 396] (by decide +kernel) (by decide +kernel)) (goodIn_sub (fun _ h => List.mem_append_right _ h) (by decide +kernel))
set_option maxRecDepth 20000 in
theorem gL_law_X2_first : GoodIn wsL_law (wsV RL 113 RX2 yX2_first wsX2_first) := goodIn_app (goodIn_of _ (by decide +kernel)) ggL_law_X2_first
set_option maxRecDepth 20000 in
theorem ggL_law_X2_found : GoodIn wsL_law wsX2_found := goodIn_ca (goodIn_r _ [257, 27, 82, 83, 84, 2, 85, 86, 87, 22, 23, 226, 227, 228, 26, 229, 40, 222, 223, 224, 225, 112, 113, 114, 115, 116, 65, 7, 66, 117, 93, 94, 95, 39, 393, 394, 388, 389, 390, 395, 396] (by decide +kernel) (by decide +kernel)) (goodIn_sub (fun _ h => List.mem_append_right _ h) (by decide +kernel))
set_option maxRecDepth 20000 in
theorem gL_law_X2_found : GoodIn wsL_law (wsV RL 116 RX2 yX2_found wsX2_found) := goodIn_app (goodIn_of _ (by decide +kernel)) ggL_law_X2_found
set_option maxRecDepth 20000 in
theorem ggL_law_X2_mean : GoodIn wsL_law wsX2_mean := goodIn_r _ [310, 22, 23, 311, 312, 313, 21, 314, 33, 315, 316, 317, 318, 178, 179, 180, 181, 174, 175, 176, 177, 34, 182, 113, 114, 26, 115, 40, 116, 65, 7, 66, 117, 93, 94, 95, 39, 388, 389, 390, 393, 394, 395, 396] (by decide +kernel) (by decide +kernel)
set_option maxRecDepth 20000 in
theorem gL_law_X2_mean : GoodIn wsL_law (wsV RL 119 RX2 yX2_mean wsX2_mean) := goodIn_app (goodIn_of _ (by decide +kernel)) ggL_law_X2_mean
set_option maxRecDepth 20000 in
theorem ggL_law_X2_seam : GoodIn wsL_law wsX2_seam := goodIn_ca (goodIn_r _ [261, 86, 87, 22, 23, 183, 184, 185, 2, 186, 187, 175, 176, 21, 177, 33, 34, 188, 189, 190, 191, 192, 193, 194, 26, 195, 40, 196, 6, 7, 8, 112, 113, 114, 115, 116, 65, 66, 117, 93, 94, 95, 39, 218, 219, 220, 221, 222, 223, 224, 225, 388, 389, 390, 393, 394, 395, 396] (by decide +kernel) (by decide +kernel)) (goodIn_sub (fun _ h => List.mem_append_right _ h) (by decide +kernel))
set_option maxRecDepth 20000 in
theorem gL_law_X2_seam : GoodIn wsL_law (wsV RL 123 RX2 yX2_seam wsX2_seam) := goodIn_app (goodIn_of _ (by decide +kernel)) ggL_law_X2_seam
set_option maxRecDepth 20000 in
theorem ggL_law_X2_against : GoodIn wsL_law wsX2_against := goodIn_ca (goodIn_r _ [323, 22, 23, 267, 268, 2, 269, 86, 87, 324, 109, 110, 26, 111, 112, 113, 114, 115, 40, 116, 65, 7, 66, 117, 93, 94, 95, 39, 388, 389, 390, 393, 394, 395, 396] (by decide +kernel) (by decide +kernel)) (goodIn_sub (fun _ h => List.mem_append_right _ h) (by decide +kernel))
set_option maxRecDepth 20000 in
theorem gL_law_X2_against : GoodIn wsL_law (wsV RL 126 RX2 yX2_against wsX2_against) := goodIn_app (goodIn_of _ (by decide +kernel)) ggL_law_X2_against
set_option maxRecDepth 20000 in
theorem ggL_law_X4_isSame_w1 : ∀ w ∈ ([Cond.classLink RX4 24 RX3, Cond.instantiable RX3 10, Cond.initialized RX3, Cond.fieldLink RX4 9 "HemSuffixesLaw$Sim" "hem" "[[I", Cond.arrayClass .int, Cond.fieldLink RX4 15 "HemSuffixesLaw$Sim" "sample" "[I", Cond.fieldLink RX4 41 "HemSuffixesLaw$Rows" "rows" "[I", Cond.fieldLink RX4 52 "HemSuffixesLaw$Rows" "places" "[[I", Cond.methodLink RX4 30 yX3_init, Cond.instanceMethod yX3_init, Cond.code yX3_init cX3_init 3 none, Cond.methodLink RX3 1 objectInit, Cond.instanceMethod objectInit, Cond.code objectInit ⟨#[0xb1]⟩ 1 none, Cond.fieldLink RX3 7 "HemSuffixesLaw$Rows" "next" "[I", Cond.fieldLink RX3 13 "HemSuffixesLaw$Rows" "depth" "[I", Cond.classLink RX3 16 "[[I", Cond.fieldLink RX3 18 "HemSuffixesLaw$Rows" "many" "[[I", Cond.fieldLink RX3 21 "HemSuffixesLaw$Rows" "first" "[[I", Cond.fieldLink RX3 24 "HemSuffixesLaw$Rows" "end" "[[I", Cond.fieldLink RX3 27 "HemSuffixesLaw$Rows" "nodes" "I", Cond.fieldLink RX3 31 "HemSuffixesLaw$Rows" "order" "[[I", Cond.fieldLink RX3 34 "HemSuffixesLaw$Rows" "rows" "[I", Cond.fieldLink RX3 37 "HemSuffixesLaw$Rows" "places" "[[I"] : List Cond), w ∈ wsL_law := List.forall_mem_cons.mpr ⟨List.mem_append_left _ (List.mem_append_left _ (List.mem_append_left _ (List.mem_append_left _ (List.mem_append_left _ (List.mem_append_left _ (List.mem_append_left _ (List.mem_append_left _ (List.mem_append_left _ (List.mem_append_right _ (List.mem_append_right _ (List.mem_append_right _ (List.mem_append_right _ (List.mem_append_right _ (List.mem_append_right _ (List.mem_append_right _ (List.mem_append_right _ (List.mem_append_right _ (List.mem_append_right _ (List.mem_append_right _ (List.mem_append_right _ (List.mem_append_right _ (List.mem_append_left _ (List.mem_of_getElem? (i := 17) rfl))))))))))))))))))))))), List.forall_mem_cons.mpr ⟨List.mem_append_left _ (List.mem_append_left _ (List.mem_append_left _ (List.mem_append_left _ (List.mem_append_left _ (List.mem_append_left _ (List.mem_append_left _ (List.mem_append_left _ (List.mem_append_left _ (List.mem_append_right _ (List.mem_append_right _ (List.mem_append_right _ (List.mem_append_right _ (List.mem_append_right _ (List.mem_append_right _ (List.mem_append_right _ (List.mem_append_right _ (List.mem_append_right _ (List.mem_append_right _ (List.mem_append_right _ (List.mem_append_right _ (List.mem_append_right _ (List.mem_append_left _ (List.mem_of_getElem? (i := 18) rfl))))))))))))))))))))))), List.forall_mem_cons.mpr ⟨List.mem_append_left _ (List.mem_append_left _ (List.mem_append_left _ (List.mem_append_left _ (List.mem_append_left _ (List.mem_append_left _ (List.mem_append_left _ (List.mem_append_left _ (List.mem_append_left _ (List.mem_append_right _ (List.mem_append_right _ (List.mem_append_right _ (List.mem_append_right _ (List.mem_append_right _ (List.mem_append_right _ (List.mem_append_right _ (List.mem_append_right _ (List.mem_append_right _ (List.mem_append_right _ (List.mem_append_right _ (List.mem_append_right _ (List.mem_append_right _ (List.mem_append_left _ (List.mem_of_getElem? (i := 19) rfl))))))))))))))))))))))), List.forall_mem_cons.mpr ⟨List.mem_append_left _ (List.mem_append_left _ (List.mem_append_left _ (List.mem_append_left _ (List.mem_append_left _ (List.mem_append_left _ (List.mem_append_left _ (List.mem_append_left _ (List.mem_append_left _ (List.mem_append_right _ (List.mem_append_right _ (List.mem_append_left _ (List.mem_of_getElem? (i := 5) rfl)))))))))))), List.forall_mem_cons.mpr ⟨List.mem_append_left _ (List.mem_append_left _ (List.mem_append_left _ (List.mem_append_left _ (List.mem_append_left _ (List.mem_append_left _ (List.mem_append_left _ (List.mem_append_left _ (List.mem_append_left _ (List.mem_append_left _ (List.mem_of_getElem? (i := 3) rfl)))))))))), List.forall_mem_cons.mpr ⟨List.mem_append_left _ (List.mem_append_left _ (List.mem_append_left _ (List.mem_append_left _ (List.mem_append_left _ (List.mem_append_left _ (List.mem_append_left _ (List.mem_append_left _ (List.mem_append_left _ (List.mem_append_right _ (List.mem_append_right _ (List.mem_append_left _ (List.mem_of_getElem? (i := 6) rfl)))))))))))), List.forall_mem_cons.mpr ⟨List.mem_append_left _ (List.mem_append_left _ (List.mem_append_left _ (List.mem_append_left _ (List.mem_append_left _ (List.mem_append_left _ (List.mem_append_left _ (List.mem_append_left _ (List.mem_append_left _ (List.mem_append_right _ (List.mem_append_right _ (List.mem_append_right _ (List.mem_append_right _ (List.mem_append_right _ (List.mem_append_right _ (List.mem_append_right _ (List.mem_append_right _ (List.mem_append_right _ (List.mem_append_right _ (List.mem_append_right _ (List.mem_append_right _ (List.mem_append_right _ (List.mem_append_left _ (List.mem_of_getElem? (i := 20) rfl))))))))))))))))))))))), List.forall_mem_cons.mpr ⟨List.mem_append_left _ (List.mem_append_left _ (List.mem_append_left _ (List.mem_append_left _ (List.mem_append_left _ (List.mem_append_left _ (List.mem_append_left _ (List.mem_append_left _ (List.mem_append_left _ (List.mem_append_right _ (List.mem_append_right _ (List.mem_append_right _ (List.mem_append_right _ (List.mem_append_right _ (List.mem_append_right _ (List.mem_append_right _ (List.mem_append_right _ (List.mem_append_right _ (List.mem_append_right _ (List.mem_append_right _ (List.mem_append_right _ (List.mem_append_right _ (List.mem_append_left _ (List.mem_of_getElem? (i := 21) rfl))))))))))))))))))))))), List.forall_mem_cons.mpr ⟨List.mem_append_left _ (List.mem_append_left _ (List.mem_append_left _ (List.mem_append_left _ (List.mem_append_left _ (List.mem_append_left _ (List.mem_append_left _ (List.mem_append_left _ (List.mem_append_left _ (List.mem_append_right _ (List.mem_append_right _ (List.mem_append_right _ (List.mem_append_right _ (List.mem_append_right _ (List.mem_append_right _ (List.mem_append_right _ (List.mem_append_right _ (List.mem_append_right _ (List.mem_append_right _ (List.mem_append_right _ (List.mem_append_right _ (List.mem_append_right _ (List.mem_append_left _ (List.mem_of_getElem? (i := 22) rfl))))))))))))))))))))))), List.forall_mem_cons.mpr ⟨List.mem_append_left _ (List.mem_append_left _ (List.mem_append_left _ (List.mem_append_left _ (List.mem_append_left _ (List.mem_append_left _ (List.mem_append_left _ (List.mem_append_left _ (List.mem_append_left _ (List.mem_append_right _ (List.mem_append_right _ (List.mem_append_right _ (List.mem_append_right _ (List.mem_append_right _ (List.mem_append_right _ (List.mem_append_right _ (List.mem_append_right _ (List.mem_append_right _ (List.mem_append_right _ (List.mem_append_right _ (List.mem_append_right _ (List.mem_append_right _ (List.mem_append_left _ (List.mem_of_getElem? (i := 23) rfl))))))))))))))))))))))), List.forall_mem_cons.mpr ⟨List.mem_append_left _ (List.mem_append_left _ (List.mem_append_left _ (List.mem_append_left _ (List.mem_append_left _ (List.mem_append_left _ (List.mem_append_left _ (List.mem_append_left _ (List.mem_append_left _ (List.mem_append_right _ (List.mem_append_right _ (List.mem_append_right _ (List.mem_append_right _ (List.mem_append_right _ (List.mem_append_right _ (List.mem_append_right _ (List.mem_append_right _ (List.mem_append_right _ (List.mem_append_right _ (List.mem_append_right _ (List.mem_append_right _ (List.mem_append_right _ (List.mem_append_right _ (List.mem_append_left _ (List.mem_of_getElem? (i := 0) rfl)))))))))))))))))))))))), List.forall_mem_cons.mpr ⟨List.mem_append_left _ (List.mem_append_left _ (List.mem_append_left _ (List.mem_append_left _ (List.mem_append_left _ (List.mem_append_left _ (List.mem_append_left _ (List.mem_append_left _ (List.mem_append_left _ (List.mem_append_right _ (List.mem_append_right _ (List.mem_append_right _ (List.mem_append_right _ (List.mem_append_right _ (List.mem_append_right _ (List.mem_append_right _ (List.mem_append_right _ (List.mem_append_right _ (List.mem_append_right _ (List.mem_append_right _ (List.mem_append_right _ (List.mem_append_right _ (List.mem_append_right _ (List.mem_append_left _ (List.mem_of_getElem? (i := 1) rfl)))))))))))))))))))))))), List.forall_mem_cons.mpr ⟨List.mem_append_left _ (List.mem_append_left _ (List.mem_append_left _ (List.mem_append_left _ (List.mem_append_left _ (List.mem_append_left _ (List.mem_append_left _ (List.mem_append_left _ (List.mem_append_left _ (List.mem_append_left _ (List.mem_of_getElem? (i := 17) rfl)))))))))), List.forall_mem_cons.mpr ⟨List.mem_append_left _ (List.mem_append_left _ (List.mem_append_left _ (List.mem_append_left _ (List.mem_append_left _ (List.mem_append_left _ (List.mem_append_left _ (List.mem_append_left _ (List.mem_append_left _ (List.mem_append_left _ (List.mem_of_getElem? (i := 18) rfl)))))))))), List.forall_mem_cons.mpr ⟨List.mem_append_left _ (List.mem_append_left _ (List.mem_append_left _ (List.mem_append_left _ (List.mem_append_left _ (List.mem_append_left _ (List.mem_append_left _ (List.mem_append_left _ (List.mem_append_left _ (List.mem_append_right _ (List.mem_append_right _ (List.mem_append_right _ (List.mem_append_right _ (List.mem_append_right _ (List.mem_append_right _ (List.mem_append_right _ (List.mem_append_right _ (List.mem_append_right _ (List.mem_append_right _ (List.mem_append_right _ (List.mem_append_right _ (List.mem_append_right _ (List.mem_append_right _ (List.mem_append_left _ (List.mem_of_getElem? (i := 2) rfl)))))))))))))))))))))))), List.forall_mem_cons.mpr ⟨List.mem_append_left _ (List.mem_append_left _ (List.mem_append_left _ (List.mem_append_left _ (List.mem_append_left _ (List.mem_append_left _ (List.mem_append_left _ (List.mem_append_left _ (List.mem_append_left _ (List.mem_append_right _ (List.mem_append_right _ (List.mem_append_right _ (List.mem_append_right _ (List.mem_append_right _ (List.mem_append_right _ (List.mem_append_right _ (List.mem_append_right _ (List.mem_append_right _ (List.mem_append_right _ (List.mem_append_right _ (List.mem_append_right _ (List.mem_append_right _ (List.mem_append_right _ (List.mem_append_left _ (List.mem_of_getElem? (i := 3) rfl)))))))))))))))))))))))), List.forall_mem_cons.mpr ⟨List.mem_append_left _ (List.mem_append_left _ (List.mem_append_left _ (List.mem_append_left _ (List.mem_append_left _ (List.mem_append_left _ (List.mem_append_left _ (List.mem_append_left _ (List.mem_append_left _ (List.mem_append_right _ (List.mem_append_right _ (List.mem_append_right _ (List.mem_append_right _ (List.mem_append_right _ (List.mem_append_right _ (List.mem_append_right _ (List.mem_append_right _ (List.mem_append_right _ (List.mem_append_right _ (List.mem_append_right _ (List.mem_append_right _ (List.mem_append_right _ (List.mem_append_right _ (List.mem_append_left _ (List.mem_of_getElem? (i := 4) rfl)))))))))))))))))))))))), List.forall_mem_cons.mpr ⟨List.mem_append_left _ (List.mem_append_left _ (List.mem_append_left _ (List.mem_append_left _ (List.mem_append_left _ (List.mem_append_left _ (List.mem_append_left _ (List.mem_append_left _ (List.mem_append_left _ (List.mem_append_right _ (List.mem_append_right _ (List.mem_append_right _ (List.mem_append_right _ (List.mem_append_right _ (List.mem_append_right _ (List.mem_append_right _ (List.mem_append_right _ (List.mem_append_right _ (List.mem_append_right _ (List.mem_append_right _ (List.mem_append_right _ (List.mem_append_right _ (List.mem_append_right _ (List.mem_append_left _ (List.mem_of_getElem? (i := 5) rfl)))))))))))))))))))))))), List.forall_mem_cons.mpr ⟨List.mem_append_left _ (List.mem_append_left _ (List.mem_append_left _ (List.mem_append_left _ (List.mem_append_left _ (List.mem_append_left _ (List.mem_append_left _ (List.mem_append_left _ (List.mem_append_left _ (List.mem_append_right _ (List.mem_append_right _ (List.mem_append_right _ (List.mem_append_right _ (List.mem_append_right _ (List.mem_append_right _ (List.mem_append_right _ (List.mem_append_right _ (List.mem_append_right _ (List.mem_append_right _ (List.mem_append_right _ (List.mem_append_right _ (List.mem_append_right _ (List.mem_append_right _ (List.mem_append_left _ (List.mem_of_getElem? (i := 6) rfl)))))))))))))))))))))))), List.forall_mem_cons.mpr ⟨List.mem_append_left _ (List.mem_append_left _ (List.mem_append_left _ (List.mem_append_left _ (List.mem_append_left _ (List.mem_append_left _ (List.mem_append_left _ (List.mem_append_left _ (List.mem_append_left _ (List.mem_append_right _ (List.mem_append_right _ (List.mem_append_right _ (List.mem_append_right _ (List.mem_append_right _ (List.mem_append_right _ (List.mem_append_right _ (List.mem_append_right _ (List.mem_append_right _ (List.mem_append_right _ (List.mem_append_right _ (List.mem_append_right _ (List.mem_append_right _ (List.mem_append_right _ (List.mem_append_left _ (List.mem_of_getElem? (i := 7) rfl)))))))))))))))))))))))), List.forall_mem_cons.mpr ⟨List.mem_append_left _ (List.mem_append_left _ (List.mem_append_left _ (List.mem_append_left _ (List.mem_append_left _ (List.mem_append_left _ (List.mem_append_left _ (List.mem_append_left _ (List.mem_append_left _ (List.mem_append_right _ (List.mem_append_right _ (List.mem_append_right _ (List.mem_append_right _ (List.mem_append_right _ (List.mem_append_right _ (List.mem_append_right _ (List.mem_append_right _ (List.mem_append_right _ (List.mem_append_right _ (List.mem_append_right _ (List.mem_append_right _ (List.mem_append_right _ (List.mem_append_right _ (List.mem_append_left _ (List.mem_of_getElem? (i := 8) rfl)))))))))))))))))))))))), List.forall_mem_cons.mpr ⟨List.mem_append_left _ (List.mem_append_left _ (List.mem_append_left _ (List.mem_append_left _ (List.mem_append_left _ (List.mem_append_left _ (List.mem_append_left _ (List.mem_append_left _ (List.mem_append_left _ (List.mem_append_right _ (List.mem_append_right _ (List.mem_append_right _ (List.mem_append_right _ (List.mem_append_right _ (List.mem_append_right _ (List.mem_append_right _ (List.mem_append_right _ (List.mem_append_right _ (List.mem_append_right _ (List.mem_append_right _ (List.mem_append_right _ (List.mem_append_right _ (List.mem_append_right _ (List.mem_append_left _ (List.mem_of_getElem? (i := 9) rfl)))))))))))))))))))))))), List.forall_mem_cons.mpr ⟨List.mem_append_left _ (List.mem_append_left _ (List.mem_append_left _ (List.mem_append_left _ (List.mem_append_left _ (List.mem_append_left _ (List.mem_append_left _ (List.mem_append_left _ (List.mem_append_left _ (List.mem_append_right _ (List.mem_append_right _ (List.mem_append_right _ (List.mem_append_right _ (List.mem_append_right _ (List.mem_append_right _ (List.mem_append_right _ (List.mem_append_right _ (List.mem_append_right _ (List.mem_append_right _ (List.mem_append_right _ (List.mem_append_right _ (List.mem_append_right _ (List.mem_append_right _ (List.mem_append_left _ (List.mem_of_getElem? (i := 10) rfl)))))))))))))))))))))))), List.forall_mem_cons.mpr ⟨List.mem_append_left _ (List.mem_append_left _ (List.mem_append_left _ (List.mem_append_left _ (List.mem_append_left _ (List.mem_append_left _ (List.mem_append_left _ (List.mem_append_left _ (List.mem_append_left _ (List.mem_append_right _ (List.mem_append_right _ (List.mem_append_right _ (List.mem_append_right _ (List.mem_append_right _ (List.mem_append_right _ (List.mem_append_right _ (List.mem_append_right _ (List.mem_append_right _ (List.mem_append_right _ (List.mem_append_right _ (List.mem_append_right _ (List.mem_append_right _ (List.mem_append_right _ (List.mem_append_left _ (List.mem_of_getElem? (i := 11) rfl)))))))))))))))))))))))), (fun _ h => absurd h List.not_mem_nil)⟩⟩⟩⟩⟩⟩⟩⟩⟩⟩⟩⟩⟩⟩⟩⟩⟩⟩⟩⟩⟩⟩⟩⟩
set_option maxRecDepth 20000 in
theorem ggL_law_X4_isSame_w2 : ∀ w ∈ ([Cond.fieldLink RX3 40 "HemSuffixesLaw$Rows" "ends" "[I", Cond.methodLink RX3 43 yX3_grow, Cond.instanceMethod yX3_grow, Cond.selects RX3 yX3_grow yX3_grow, Cond.code yX3_grow cX3_grow 7 none, Cond.methodLink RX3 47 yX3_walk, Cond.instanceMethod yX3_walk, Cond.selects RX3 yX3_walk yX3_walk, Cond.code yX3_walk cX3_walk 5 none, Cond.methodLink RX4 37 yX3_seam, Cond.instanceMethod yX3_seam, Cond.selects RX3 yX3_seam yX3_seam, Cond.code yX3_seam cX3_seam 4 (some (.array .int)), Cond.methodLink RX4 44 yX2_count, Cond.instanceMethod yX2_count, Cond.selects RX2 yX2_count yX2_count, Cond.initialized RX2, Cond.code yX2_count cX2_count 2 (some .int), Cond.classLink RX2 92 "java/lang/IndexOutOfBoundsException", Cond.initialized "java/lang/IndexOutOfBoundsException", Cond.fieldLink RX2 10 "HemSuffixes" "hemZero" "LHemSuffixes$Hem;", Cond.fieldLink RX2 16 "HemSuffixes" "hemOne" "LHemSuffixes$Hem;", Cond.fieldLink RX2 22 "HemSuffixes" "sample" "LHemSuffixes$Stitches;", Cond.methodLink RX2 82 yX0_differentRows] : List Cond), w ∈ wsL_law := List.forall_mem_cons.mpr ⟨List.mem_append_left _ (List.mem_append_left _ (List.mem_append_left _ (List.mem_append_left _ (List.mem_append_left _ (List.mem_append_left _ (List.mem_append_left _ (List.mem_append_left _ (List.mem_append_left _ (List.mem_append_right _ (List.mem_append_right _ (List.mem_append_right _ (List.mem_append_right _ (List.mem_append_right _ (List.mem_append_right _ (List.mem_append_right _ (List.mem_append_right _ (List.mem_append_right _ (List.mem_append_right _ (List.mem_append_right _ (List.mem_append_right _ (List.mem_append_right _ (List.mem_append_right _ (List.mem_append_left _ (List.mem_of_getElem? (i := 12) rfl)))))))))))))))))))))))), List.forall_mem_cons.mpr ⟨List.mem_append_left _ (List.mem_append_left _ (List.mem_append_left _ (List.mem_append_left _ (List.mem_append_left _ (List.mem_append_left _ (List.mem_append_left _ (List.mem_append_left _ (List.mem_append_left _ (List.mem_append_right _ (List.mem_append_right _ (List.mem_append_right _ (List.mem_append_right _ (List.mem_append_right _ (List.mem_append_right _ (List.mem_append_right _ (List.mem_append_right _ (List.mem_append_right _ (List.mem_append_right _ (List.mem_append_right _ (List.mem_append_right _ (List.mem_append_right _ (List.mem_append_right _ (List.mem_append_left _ (List.mem_of_getElem? (i := 13) rfl)))))))))))))))))))))))), List.forall_mem_cons.mpr ⟨List.mem_append_left _ (List.mem_append_left _ (List.mem_append_left _ (List.mem_append_left _ (List.mem_append_left _ (List.mem_append_left _ (List.mem_append_left _ (List.mem_append_left _ (List.mem_append_left _ (List.mem_append_right _ (List.mem_append_right _ (List.mem_append_right _ (List.mem_append_right _ (List.mem_append_right _ (List.mem_append_right _ (List.mem_append_right _ (List.mem_append_right _ (List.mem_append_right _ (List.mem_append_right _ (List.mem_append_right _ (List.mem_append_right _ (List.mem_append_right _ (List.mem_append_right _ (List.mem_append_left _ (List.mem_of_getElem? (i := 14) rfl)))))))))))))))))))))))), List.forall_mem_cons.mpr ⟨List.mem_append_left _ (List.mem_append_left _ (List.mem_append_left _ (List.mem_append_left _ (List.mem_append_left _ (List.mem_append_left _ (List.mem_append_left _ (List.mem_append_left _ (List.mem_append_left _ (List.mem_append_right _ (List.mem_append_right _ (List.mem_append_right _ (List.mem_append_right _ (List.mem_append_right _ (List.mem_append_right _ (List.mem_append_right _ (List.mem_append_right _ (List.mem_append_right _ (List.mem_append_right _ (List.mem_append_right _ (List.mem_append_right _ (List.mem_append_right _ (List.mem_append_right _ (List.mem_append_left _ (List.mem_of_getElem? (i := 15) rfl)))))))))))))))))))))))), List.forall_mem_cons.mpr ⟨List.mem_append_left _ (List.mem_append_left _ (List.mem_append_left _ (List.mem_append_left _ (List.mem_append_left _ (List.mem_append_left _ (List.mem_append_left _ (List.mem_append_left _ (List.mem_append_left _ (List.mem_append_right _ (List.mem_append_right _ (List.mem_append_right _ (List.mem_append_right _ (List.mem_append_right _ (List.mem_append_right _ (List.mem_append_right _ (List.mem_append_right _ (List.mem_append_right _ (List.mem_append_right _ (List.mem_append_right _ (List.mem_append_right _ (List.mem_append_right _ (List.mem_append_right _ (List.mem_append_left _ (List.mem_of_getElem? (i := 16) rfl)))))))))))))))))))))))), List.forall_mem_cons.mpr ⟨List.mem_append_left _ (List.mem_append_left _ (List.mem_append_left _ (List.mem_append_left _ (List.mem_append_left _ (List.mem_append_left _ (List.mem_append_left _ (List.mem_append_left _ (List.mem_append_left _ (List.mem_append_right _ (List.mem_append_right _ (List.mem_append_right _ (List.mem_append_right _ (List.mem_append_right _ (List.mem_append_right _ (List.mem_append_right _ (List.mem_append_right _ (List.mem_append_right _ (List.mem_append_right _ (List.mem_append_right _ (List.mem_append_right _ (List.mem_append_right _ (List.mem_append_right _ (List.mem_append_left _ (List.mem_of_getElem? (i := 17) rfl)))))))))))))))))))))))), List.forall_mem_cons.mpr ⟨List.mem_append_left _ (List.mem_append_left _ (List.mem_append_left _ (List.mem_append_left _ (List.mem_append_left _ (List.mem_append_left _ (List.mem_append_left _ (List.mem_append_left _ (List.mem_append_left _ (List.mem_append_right _ (List.mem_append_right _ (List.mem_append_right _ (List.mem_append_right _ (List.mem_append_right _ (List.mem_append_right _ (List.mem_append_right _ (List.mem_append_right _ (List.mem_append_right _ (List.mem_append_right _ (List.mem_append_right _ (List.mem_append_right _ (List.mem_append_right _ (List.mem_append_right _ (List.mem_append_left _ (List.mem_of_getElem? (i := 18) rfl)))))))))))))))))))))))), List.forall_mem_cons.mpr ⟨List.mem_append_left _ (List.mem_append_left _ (List.mem_append_left _ (List.mem_append_left _ (List.mem_append_left _ (List.mem_append_left _ (List.mem_append_left _ (List.mem_append_left _ (List.mem_append_left _ (List.mem_append_right _ (List.mem_append_right _ (List.mem_append_right _ (List.mem_append_right _ (List.mem_append_right _ (List.mem_append_right _ (List.mem_append_right _ (List.mem_append_right _ (List.mem_append_right _ (List.mem_append_right _ (List.mem_append_right _ (List.mem_append_right _ (List.mem_append_right _ (List.mem_append_right _ (List.mem_append_left _ (List.mem_of_getElem? (i := 19) rfl)))))))))))))))))))))))), List.forall_mem_cons.mpr ⟨List.mem_append_left _ (List.mem_append_left _ (List.mem_append_left _ (List.mem_append_left _ (List.mem_append_left _ (List.mem_append_left _ (List.mem_append_left _ (List.mem_append_left _ (List.mem_append_left _ (List.mem_append_right _ (List.mem_append_right _ (List.mem_append_right _ (List.mem_append_right _ (List.mem_append_right _ (List.mem_append_right _ (List.mem_append_right _ (List.mem_append_right _ (List.mem_append_right _ (List.mem_append_right _ (List.mem_append_right _ (List.mem_append_right _ (List.mem_append_right _ (List.mem_append_right _ (List.mem_append_left _ (List.mem_of_getElem? (i := 20) rfl)))))))))))))))))))))))), List.forall_mem_cons.mpr ⟨List.mem_append_left _ (List.mem_append_left _ (List.mem_append_left _ (List.mem_append_left _ (List.mem_append_left _ (List.mem_append_left _ (List.mem_append_left _ (List.mem_append_left _ (List.mem_append_left _ (List.mem_append_right _ (List.mem_append_right _ (List.mem_append_right _ (List.mem_append_right _ (List.mem_append_right _ (List.mem_append_right _ (List.mem_append_right _ (List.mem_append_right _ (List.mem_append_right _ (List.mem_append_right _ (List.mem_append_right _ (List.mem_append_right _ (List.mem_append_right _ (List.mem_append_right _ (List.mem_append_left _ (List.mem_of_getElem? (i := 21) rfl)))))))))))))))))))))))), List.forall_mem_cons.mpr ⟨List.mem_append_left _ (List.mem_append_left _ (List.mem_append_left _ (List.mem_append_left _ (List.mem_append_left _ (List.mem_append_left _ (List.mem_append_left _ (List.mem_append_left _ (List.mem_append_left _ (List.mem_append_right _ (List.mem_append_right _ (List.mem_append_right _ (List.mem_append_right _ (List.mem_append_right _ (List.mem_append_right _ (List.mem_append_right _ (List.mem_append_right _ (List.mem_append_right _ (List.mem_append_right _ (List.mem_append_right _ (List.mem_append_right _ (List.mem_append_right _ (List.mem_append_right _ (List.mem_append_left _ (List.mem_of_getElem? (i := 22) rfl)))))))))))))))))))))))), List.forall_mem_cons.mpr ⟨List.mem_append_left _ (List.mem_append_left _ (List.mem_append_left _ (List.mem_append_left _ (List.mem_append_left _ (List.mem_append_left _ (List.mem_append_left _ (List.mem_append_left _ (List.mem_append_left _ (List.mem_append_right _ (List.mem_append_right _ (List.mem_append_right _ (List.mem_append_right _ (List.mem_append_right _ (List.mem_append_right _ (List.mem_append_right _ (List.mem_append_right _ (List.mem_append_right _ (List.mem_append_right _ (List.mem_append_right _ (List.mem_append_right _ (List.mem_append_right _ (List.mem_append_right _ (List.mem_append_left _ (List.mem_of_getElem? (i := 23) rfl)))))))))))))))))))))))), List.forall_mem_cons.mpr ⟨List.mem_append_left _ (List.mem_append_left _ (List.mem_append_left _ (List.mem_append_left _ (List.mem_append_left _ (List.mem_append_left _ (List.mem_append_left _ (List.mem_append_left _ (List.mem_append_left _ (List.mem_append_right _ (List.mem_append_right _ (List.mem_append_right _ (List.mem_append_right _ (List.mem_append_right _ (List.mem_append_right _ (List.mem_append_right _ (List.mem_append_right _ (List.mem_append_right _ (List.mem_append_right _ (List.mem_append_right _ (List.mem_append_right _ (List.mem_append_right _ (List.mem_append_right _ (List.mem_append_right _ (List.mem_append_left _ (List.mem_of_getElem? (i := 0) rfl))))))))))))))))))))))))), List.forall_mem_cons.mpr ⟨List.mem_append_left _ (List.mem_append_left _ (List.mem_append_left _ (List.mem_append_left _ (List.mem_append_left _ (List.mem_append_left _ (List.mem_append_left _ (List.mem_append_left _ (List.mem_append_left _ (List.mem_append_right _ (List.mem_append_right _ (List.mem_append_right _ (List.mem_append_right _ (List.mem_append_right _ (List.mem_append_right _ (List.mem_append_right _ (List.mem_append_right _ (List.mem_append_right _ (List.mem_append_right _ (List.mem_append_right _ (List.mem_append_right _ (List.mem_append_right _ (List.mem_append_right _ (List.mem_append_right _ (List.mem_append_left _ (List.mem_of_getElem? (i := 1) rfl))))))))))))))))))))))))), List.forall_mem_cons.mpr ⟨List.mem_append_left _ (List.mem_append_left _ (List.mem_append_left _ (List.mem_append_left _ (List.mem_append_left _ (List.mem_append_left _ (List.mem_append_left _ (List.mem_append_left _ (List.mem_append_left _ (List.mem_append_right _ (List.mem_append_right _ (List.mem_append_right _ (List.mem_append_right _ (List.mem_append_right _ (List.mem_append_right _ (List.mem_append_left _ (List.mem_of_getElem? (i := 19) rfl)))))))))))))))), List.forall_mem_cons.mpr ⟨List.mem_append_left _ (List.mem_append_left _ (List.mem_append_left _ (List.mem_append_left _ (List.mem_append_left _ (List.mem_append_left _ (List.mem_append_left _ (List.mem_append_left _ (List.mem_append_left _ (List.mem_append_right _ (List.mem_append_right _ (List.mem_append_right _ (List.mem_append_right _ (List.mem_append_right _ (List.mem_append_right _ (List.mem_append_left _ (List.mem_of_getElem? (i := 20) rfl)))))))))))))))), List.forall_mem_cons.mpr ⟨List.mem_append_left _ (List.mem_append_left _ (List.mem_append_left _ (List.mem_append_left _ (List.mem_append_left _ (List.mem_append_left _ (List.mem_append_left _ (List.mem_append_left _ (List.mem_append_left _ (List.mem_append_left _ (List.mem_of_getElem? (i := 2) rfl)))))))))), List.forall_mem_cons.mpr ⟨List.mem_append_left _ (List.mem_append_left _ (List.mem_append_left _ (List.mem_append_left _ (List.mem_append_left _ (List.mem_append_left _ (List.mem_append_left _ (List.mem_append_left _ (List.mem_append_left _ (List.mem_append_right _ (List.mem_append_right _ (List.mem_append_right _ (List.mem_append_right _ (List.mem_append_right _ (List.mem_append_right _ (List.mem_append_left _ (List.mem_of_getElem? (i := 21) rfl)))))))))))))))), List.forall_mem_cons.mpr ⟨List.mem_append_left _ (List.mem_append_left _ (List.mem_append_left _ (List.mem_append_left _ (List.mem_append_left _ (List.mem_append_left _ (List.mem_append_left _ (List.mem_append_left _ (List.mem_append_left _ (List.mem_append_right _ (List.mem_append_right _ (List.mem_append_right _ (List.mem_append_left _ (List.mem_of_getElem? (i := 14) rfl))))))))))))), List.forall_mem_cons.mpr ⟨List.mem_append_left _ (List.mem_append_left _ (List.mem_append_left _ (List.mem_append_left _ (List.mem_append_left _ (List.mem_append_left _ (List.mem_append_left _ (List.mem_append_left _ (List.mem_append_left _ (List.mem_append_right _ (List.mem_append_right _ (List.mem_append_right _ (List.mem_append_left _ (List.mem_of_getElem? (i := 15) rfl))))))))))))), List.forall_mem_cons.mpr ⟨List.mem_append_left _ (List.mem_append_left _ (List.mem_append_left _ (List.mem_append_left _ (List.mem_append_left _ (List.mem_append_left _ (List.mem_append_left _ (List.mem_append_left _ (List.mem_append_left _ (List.mem_append_left _ (List.mem_of_getElem? (i := 22) rfl)))))))))), List.forall_mem_cons.mpr ⟨List.mem_append_left _ (List.mem_append_left _ (List.mem_append_left _ (List.mem_append_left _ (List.mem_append_left _ (List.mem_append_left _ (List.mem_append_left _ (List.mem_append_left _ (List.mem_append_left _ (List.mem_append_left _ (List.mem_of_getElem? (i := 23) rfl)))))))))), List.forall_mem_cons.mpr ⟨List.mem_append_left _ (List.mem_append_left _ (List.mem_append_left _ (List.mem_append_left _ (List.mem_append_left _ (List.mem_append_left _ (List.mem_append_left _ (List.mem_append_left _ (List.mem_append_left _ (List.mem_append_right _ (List.mem_append_left _ (List.mem_of_getElem? (i := 3) rfl))))))))))), List.forall_mem_cons.mpr ⟨List.mem_append_left _ (List.mem_append_left _ (List.mem_append_left _ (List.mem_append_left _ (List.mem_append_left _ (List.mem_append_left _ (List.mem_append_left _ (List.mem_append_left _ (List.mem_append_left _ (List.mem_append_right _ (List.mem_append_right _ (List.mem_append_right _ (List.mem_append_right _ (List.mem_append_right _ (List.mem_append_right _ (List.mem_append_left _ (List.mem_of_getElem? (i := 22) rfl)))))))))))))))), (fun _ h => absurd h List.not_mem_nil)⟩⟩⟩⟩⟩⟩⟩⟩⟩⟩⟩⟩⟩⟩⟩⟩⟩⟩⟩⟩⟩⟩⟩⟩
set_option maxRecDepth 20000 in
theorem ggL_law_X4_isSame_w3 : ∀ w ∈ ([Cond.instanceMethod yX0_differentRows, Cond.selects RX0 yX0_differentRows yX0_differentRows, Cond.initialized RX0, Cond.code yX0_differentRows cX0_differentRows 3 (some .int), Cond.fieldLink RX0 12 "HemSuffixes$Hem" "stitches" "LHemSuffixes$Stitches;", Cond.methodLink RX0 57 yX0_rowsFirstAt, Cond.instanceMethod yX0_rowsFirstAt, Cond.selects RX0 yX0_rowsFirstAt yX0_rowsFirstAt, Cond.code yX0_rowsFirstAt cX0_rowsFirstAt 2 (some .int), Cond.methodLink RX0 48 yX0_placeAt, Cond.instanceMethod yX0_placeAt, Cond.selects RX0 yX0_placeAt yX0_placeAt, Cond.code yX0_placeAt cX0_placeAt 2 (some .int), Cond.fieldLink RX0 18 "HemSuffixes$Hem" "placesInOrder" "[I", Cond.methodLink RX0 54 yX0_sharedWithNext, Cond.instanceMethod yX0_sharedWithNext, Cond.selects RX0 yX0_sharedWithNext yX0_sharedWithNext, Cond.code yX0_sharedWithNext cX0_sharedWithNext 4 (some .int), Cond.methodLink RX0 51 yX1_sharedWith, Cond.instanceMethod yX1_sharedWith, Cond.selects RX1 yX1_sharedWith yX1_sharedWith, Cond.initialized RX1, Cond.code yX1_sharedWith cX1_sharedWith 6 (some .int), Cond.fieldLink RX1 15 "HemSuffixes$Stitches" "length" "I"] : List Cond), w ∈ wsL_law := List.forall_mem_cons.mpr ⟨List.mem_append_left _ (List.mem_append_left _ (List.mem_append_left _ (List.mem_append_left _ (List.mem_append_left _ (List.mem_append_left _ (List.mem_append_left _ (List.mem_append_left _ (List.mem_append_left _ (List.mem_append_right _ (List.mem_append_right _ (List.mem_append_right _ (List.mem_append_right _ (List.mem_append_right _ (List.mem_append_right _ (List.mem_append_left _ (List.mem_of_getElem? (i := 23) rfl)))))))))))))))), List.forall_mem_cons.mpr ⟨List.mem_append_left _ (List.mem_append_left _ (List.mem_append_left _ (List.mem_append_left _ (List.mem_append_left _ (List.mem_append_left _ (List.mem_append_left _ (List.mem_append_left _ (List.mem_append_left _ (List.mem_append_right _ (List.mem_append_right _ (List.mem_append_right _ (List.mem_append_right _ (List.mem_append_right _ (List.mem_append_right _ (List.mem_append_right _ (List.mem_append_left _ (List.mem_of_getElem? (i := 0) rfl))))))))))))))))), List.forall_mem_cons.mpr ⟨List.mem_append_left _ (List.mem_append_left _ (List.mem_append_left _ (List.mem_append_left _ (List.mem_append_left _ (List.mem_append_left _ (List.mem_append_left _ (List.mem_append_left _ (List.mem_append_left _ (List.mem_append_left _ (List.mem_of_getElem? (i := 21) rfl)))))))))), List.forall_mem_cons.mpr ⟨List.mem_append_left _ (List.mem_append_left _ (List.mem_append_left _ (List.mem_append_left _ (List.mem_append_left _ (List.mem_append_left _ (List.mem_append_left _ (List.mem_append_left _ (List.mem_append_left _ (List.mem_append_right _ (List.mem_append_right _ (List.mem_append_right _ (List.mem_append_right _ (List.mem_append_right _ (List.mem_append_right _ (List.mem_append_right _ (List.mem_append_left _ (List.mem_of_getElem? (i := 1) rfl))))))))))))))))), List.forall_mem_cons.mpr ⟨List.mem_append_left _ (List.mem_append_left _ (List.mem_append_left _ (List.mem_append_left _ (List.mem_append_left _ (List.mem_append_left _ (List.mem_append_left _ (List.mem_append_left _ (List.mem_append_left _ (List.mem_append_right _ (List.mem_append_left _ (List.mem_of_getElem? (i := 9) rfl))))))))))), List.forall_mem_cons.mpr ⟨List.mem_append_left _ (List.mem_append_left _ (List.mem_append_left _ (List.mem_append_left _ (List.mem_append_left _ (List.mem_append_left _ (List.mem_append_left _ (List.mem_append_left _ (List.mem_append_left _ (List.mem_append_right _ (List.mem_append_right _ (List.mem_append_right _ (List.mem_append_right _ (List.mem_append_right _ (List.mem_append_right _ (List.mem_append_right _ (List.mem_append_left _ (List.mem_of_getElem? (i := 2) rfl))))))))))))))))), List.forall_mem_cons.mpr ⟨List.mem_append_left _ (List.mem_append_left _ (List.mem_append_left _ (List.mem_append_left _ (List.mem_append_left _ (List.mem_append_left _ (List.mem_append_left _ (List.mem_append_left _ (List.mem_append_left _ (List.mem_append_right _ (List.mem_append_right _ (List.mem_append_right _ (List.mem_append_right _ (List.mem_append_right _ (List.mem_append_right _ (List.mem_append_right _ (List.mem_append_left _ (List.mem_of_getElem? (i := 3) rfl))))))))))))))))), List.forall_mem_cons.mpr ⟨List.mem_append_left _ (List.mem_append_left _ (List.mem_append_left _ (List.mem_append_left _ (List.mem_append_left _ (List.mem_append_left _ (List.mem_append_left _ (List.mem_append_left _ (List.mem_append_left _ (List.mem_append_right _ (List.mem_append_right _ (List.mem_append_right _ (List.mem_append_right _ (List.mem_append_right _ (List.mem_append_right _ (List.mem_append_right _ (List.mem_append_left _ (List.mem_of_getElem? (i := 4) rfl))))))))))))))))), List.forall_mem_cons.mpr ⟨List.mem_append_left _ (List.mem_append_left _ (List.mem_append_left _ (List.mem_append_left _ (List.mem_append_left _ (List.mem_append_left _ (List.mem_append_left _ (List.mem_append_left _ (List.mem_append_left _ (List.mem_append_right _ (List.mem_append_right _ (List.mem_append_right _ (List.mem_append_right _ (List.mem_append_right _ (List.mem_append_right _ (List.mem_append_right _ (List.mem_append_left _ (List.mem_of_getElem? (i := 5) rfl))))))))))))))))), List.forall_mem_cons.mpr ⟨List.mem_append_left _ (List.mem_append_left _ (List.mem_append_left _ (List.mem_append_left _ (List.mem_append_left _ (List.mem_append_left _ (List.mem_append_left _ (List.mem_append_left _ (List.mem_append_left _ (List.mem_append_right _ (List.mem_append_right _ (List.mem_append_right _ (List.mem_append_right _ (List.mem_append_right _ (List.mem_append_right _ (List.mem_append_right _ (List.mem_append_left _ (List.mem_of_getElem? (i := 6) rfl))))))))))))))))), List.forall_mem_cons.mpr ⟨List.mem_append_left _ (List.mem_append_left _ (List.mem_append_left _ (List.mem_append_left _ (List.mem_append_left _ (List.mem_append_left _ (List.mem_append_left _ (List.mem_append_left _ (List.mem_append_left _ (List.mem_append_right _ (List.mem_append_right _ (List.mem_append_right _ (List.mem_append_right _ (List.mem_append_right _ (List.mem_append_right _ (List.mem_append_right _ (List.mem_append_left _ (List.mem_of_getElem? (i := 7) rfl))))))))))))))))), List.forall_mem_cons.mpr ⟨List.mem_append_left _ (List.mem_append_left _ (List.mem_append_left _ (List.mem_append_left _ (List.mem_append_left _ (List.mem_append_left _ (List.mem_append_left _ (List.mem_append_left _ (List.mem_append_left _ (List.mem_append_right _ (List.mem_append_right _ (List.mem_append_right _ (List.mem_append_right _ (List.mem_append_right _ (List.mem_append_right _ (List.mem_append_right _ (List.mem_append_left _ (List.mem_of_getElem? (i := 8) rfl))))))))))))))))), List.forall_mem_cons.mpr ⟨List.mem_append_left _ (List.mem_append_left _ (List.mem_append_left _ (List.mem_append_left _ (List.mem_append_left _ (List.mem_append_left _ (List.mem_append_left _ (List.mem_append_left _ (List.mem_append_left _ (List.mem_append_right _ (List.mem_append_right _ (List.mem_append_right _ (List.mem_append_right _ (List.mem_append_right _ (List.mem_append_right _ (List.mem_append_right _ (List.mem_append_left _ (List.mem_of_getElem? (i := 9) rfl))))))))))))))))), List.forall_mem_cons.mpr ⟨List.mem_append_left _ (List.mem_append_left _ (List.mem_append_left _ (List.mem_append_left _ (List.mem_append_left _ (List.mem_append_left _ (List.mem_append_left _ (List.mem_append_left _ (List.mem_append_left _ (List.mem_append_right _ (List.mem_append_left _ (List.mem_of_getElem? (i := 10) rfl))))))))))), List.forall_mem_cons.mpr ⟨List.mem_append_left _ (List.mem_append_left _ (List.mem_append_left _ (List.mem_append_left _ (List.mem_append_left _ (List.mem_append_left _ (List.mem_append_left _ (List.mem_append_left _ (List.mem_append_left _ (List.mem_append_right _ (List.mem_append_right _ (List.mem_append_right _ (List.mem_append_right _ (List.mem_append_right _ (List.mem_append_right _ (List.mem_append_right _ (List.mem_append_left _ (List.mem_of_getElem? (i := 10) rfl))))))))))))))))), List.forall_mem_cons.mpr ⟨List.mem_append_left _ (List.mem_append_left _ (List.mem_append_left _ (List.mem_append_left _ (List.mem_append_left _ (List.mem_append_left _ (List.mem_append_left _ (List.mem_append_left _ (List.mem_append_left _ (List.mem_append_right _ (List.mem_append_right _ (List.mem_append_right _ (List.mem_append_right _ (List.mem_append_right _ (List.mem_append_right _ (List.mem_append_right _ (List.mem_append_left _ (List.mem_of_getElem? (i := 11) rfl))))))))))))))))), List.forall_mem_cons.mpr ⟨List.mem_append_left _ (List.mem_append_left _ (List.mem_append_left _ (List.mem_append_left _ (List.mem_append_left _ (List.mem_append_left _ (List.mem_append_left _ (List.mem_append_left _ (List.mem_append_left _ (List.mem_append_right _ (List.mem_append_right _ (List.mem_append_right _ (List.mem_append_right _ (List.mem_append_right _ (List.mem_append_right _ (List.mem_append_right _ (List.mem_append_left _ (List.mem_of_getElem? (i := 12) rfl))))))))))))))))), List.forall_mem_cons.mpr ⟨List.mem_append_left _ (List.mem_append_left _ (List.mem_append_left _ (List.mem_append_left _ (List.mem_append_left _ (List.mem_append_left _ (List.mem_append_left _ (List.mem_append_left _ (List.mem_append_left _ (List.mem_append_right _ (List.mem_append_right _ (List.mem_append_right _ (List.mem_append_right _ (List.mem_append_right _ (List.mem_append_right _ (List.mem_append_right _ (List.mem_append_left _ (List.mem_of_getElem? (i := 13) rfl))))))))))))))))), List.forall_mem_cons.mpr ⟨List.mem_append_left _ (List.mem_append_left _ (List.mem_append_left _ (List.mem_append_left _ (List.mem_append_left _ (List.mem_append_left _ (List.mem_append_left _ (List.mem_append_left _ (List.mem_append_left _ (List.mem_append_right _ (List.mem_append_right _ (List.mem_append_right _ (List.mem_append_right _ (List.mem_append_right _ (List.mem_append_right _ (List.mem_append_right _ (List.mem_append_left _ (List.mem_of_getElem? (i := 14) rfl))))))))))))))))), List.forall_mem_cons.mpr ⟨List.mem_append_left _ (List.mem_append_left _ (List.mem_append_left _ (List.mem_append_left _ (List.mem_append_left _ (List.mem_append_left _ (List.mem_append_left _ (List.mem_append_left _ (List.mem_append_left _ (List.mem_append_right _ (List.mem_append_right _ (List.mem_append_right _ (List.mem_append_right _ (List.mem_append_left _ (List.mem_of_getElem? (i := 17) rfl)))))))))))))), List.forall_mem_cons.mpr ⟨List.mem_append_left _ (List.mem_append_left _ (List.mem_append_left _ (List.mem_append_left _ (List.mem_append_left _ (List.mem_append_left _ (List.mem_append_left _ (List.mem_append_left _ (List.mem_append_left _ (List.mem_append_right _ (List.mem_append_right _ (List.mem_append_right _ (List.mem_append_right _ (List.mem_append_left _ (List.mem_of_getElem? (i := 18) rfl)))))))))))))), List.forall_mem_cons.mpr ⟨List.mem_append_left _ (List.mem_append_left _ (List.mem_append_left _ (List.mem_append_left _ (List.mem_append_left _ (List.mem_append_left _ (List.mem_append_left _ (List.mem_append_left _ (List.mem_append_left _ (List.mem_append_right _ (List.mem_append_left _ (List.mem_of_getElem? (i := 2) rfl))))))))))), List.forall_mem_cons.mpr ⟨List.mem_append_left _ (List.mem_append_left _ (List.mem_append_left _ (List.mem_append_left _ (List.mem_append_left _ (List.mem_append_left _ (List.mem_append_left _ (List.mem_append_left _ (List.mem_append_left _ (List.mem_append_right _ (List.mem_append_right _ (List.mem_append_right _ (List.mem_append_right _ (List.mem_append_left _ (List.mem_of_getElem? (i := 19) rfl)))))))))))))), List.forall_mem_cons.mpr ⟨List.mem_append_left _ (List.mem_append_left _ (List.mem_append_left _ (List.mem_append_left _ (List.mem_append_left _ (List.mem_append_left _ (List.mem_append_left _ (List.mem_append_left _ (List.mem_append_left _ (List.mem_append_right _ (List.mem_append_left _ (List.mem_of_getElem? (i := 16) rfl))))))))))), (fun _ h => absurd h List.not_mem_nil)⟩⟩⟩⟩⟩⟩⟩⟩⟩⟩⟩⟩⟩⟩⟩⟩⟩⟩⟩⟩⟩⟩⟩⟩
set_option maxRecDepth 20000 in
theorem ggL_law_X4_isSame_w4 : ∀ w ∈ ([Cond.methodLink RX1 19 Lib.Math.min.name, Cond.static Lib.Math.min.name, Cond.initialized "java/lang/Math", Cond.code Lib.Math.min.name Lib.Math.min.code 2 (some .int), Cond.methodLink RX1 25 yX1_at, Cond.instanceMethod yX1_at, Cond.selects RX1 yX1_at yX1_at, Cond.code yX1_at cX1_at 2 (some .int), Cond.fieldLink RX1 9 "HemSuffixes$Stitches" "kinds" "[I", Cond.methodLink RX2 86 yX2_seamPlace, Cond.instanceMethod yX2_seamPlace, Cond.selects RX2 yX2_seamPlace yX2_seamPlace, Cond.code yX2_seamPlace cX2_seamPlace 6 (some .int), Cond.methodLink RX2 97 yX0_placeAt, Cond.methodLink RX2 89 yX2_seamLengthFrom, Cond.instanceMethod yX2_seamLengthFrom, Cond.selects RX2 yX2_seamLengthFrom yX2_seamLengthFrom, Cond.code yX2_seamLengthFrom cX2_seamLengthFrom 2 (some .int), Cond.methodLink RX2 185 yX1_mostSharedWith, Cond.instanceMethod yX1_mostSharedWith, Cond.selects RX1 yX1_mostSharedWith yX1_mostSharedWith, Cond.code yX1_mostSharedWith cX1_mostSharedWith 5 (some .int), Cond.methodLink RX1 33 Lib.Math.max.name, Cond.static Lib.Math.max.name] : List Cond), w ∈ wsL_law := List.forall_mem_cons.mpr ⟨List.mem_append_left _ (List.mem_append_left _ (List.mem_append_left _ (List.mem_append_left _ (List.mem_append_left _ (List.mem_append_left _ (List.mem_append_left _ (List.mem_append_left _ (List.mem_append_left _ (List.mem_append_right _ (List.mem_append_right _ (List.mem_append_right _ (List.mem_append_right _ (List.mem_append_left _ (List.mem_of_getElem? (i := 20) rfl)))))))))))))), List.forall_mem_cons.mpr ⟨List.mem_append_left _ (List.mem_append_left _ (List.mem_append_left _ (List.mem_append_left _ (List.mem_append_left _ (List.mem_append_left _ (List.mem_append_left _ (List.mem_append_left _ (List.mem_append_left _ (List.mem_append_right _ (List.mem_append_right _ (List.mem_append_left _ (List.mem_of_getElem? (i := 17) rfl)))))))))))), List.forall_mem_cons.mpr ⟨List.mem_append_left _ (List.mem_append_left _ (List.mem_append_left _ (List.mem_append_left _ (List.mem_append_left _ (List.mem_append_left _ (List.mem_append_left _ (List.mem_append_left _ (List.mem_append_left _ (List.mem_append_left _ (List.mem_of_getElem? (i := 7) rfl)))))))))), List.forall_mem_cons.mpr ⟨List.mem_append_left _ (List.mem_append_left _ (List.mem_append_left _ (List.mem_append_left _ (List.mem_append_left _ (List.mem_append_left _ (List.mem_append_left _ (List.mem_append_left _ (List.mem_append_left _ (List.mem_append_right _ (List.mem_append_right _ (List.mem_append_left _ (List.mem_of_getElem? (i := 18) rfl)))))))))))), List.forall_mem_cons.mpr ⟨List.mem_append_left _ (List.mem_append_left _ (List.mem_append_left _ (List.mem_append_left _ (List.mem_append_left _ (List.mem_append_left _ (List.mem_append_left _ (List.mem_append_left _ (List.mem_append_left _ (List.mem_append_right _ (List.mem_append_right _ (List.mem_append_right _ (List.mem_append_right _ (List.mem_append_left _ (List.mem_of_getElem? (i := 21) rfl)))))))))))))), List.forall_mem_cons.mpr ⟨List.mem_append_left _ (List.mem_append_left _ (List.mem_append_left _ (List.mem_append_left _ (List.mem_append_left _ (List.mem_append_left _ (List.mem_append_left _ (List.mem_append_left _ (List.mem_append_left _ (List.mem_append_right _ (List.mem_append_right _ (List.mem_append_right _ (List.mem_append_left _ (List.mem_of_getElem? (i := 21) rfl))))))))))))), List.forall_mem_cons.mpr ⟨List.mem_append_left _ (List.mem_append_left _ (List.mem_append_left _ (List.mem_append_left _ (List.mem_append_left _ (List.mem_append_left _ (List.mem_append_left _ (List.mem_append_left _ (List.mem_append_left _ (List.mem_append_right _ (List.mem_append_right _ (List.mem_append_right _ (List.mem_append_left _ (List.mem_of_getElem? (i := 22) rfl))))))))))))), List.forall_mem_cons.mpr ⟨List.mem_append_left _ (List.mem_append_left _ (List.mem_append_left _ (List.mem_append_left _ (List.mem_append_left _ (List.mem_append_left _ (List.mem_append_left _ (List.mem_append_left _ (List.mem_append_left _ (List.mem_append_right _ (List.mem_append_right _ (List.mem_append_right _ (List.mem_append_left _ (List.mem_of_getElem? (i := 23) rfl))))))))))))), List.forall_mem_cons.mpr ⟨List.mem_append_left _ (List.mem_append_left _ (List.mem_append_left _ (List.mem_append_left _ (List.mem_append_left _ (List.mem_append_left _ (List.mem_append_left _ (List.mem_append_left _ (List.mem_append_left _ (List.mem_append_right _ (List.mem_append_left _ (List.mem_of_getElem? (i := 15) rfl))))))))))), List.forall_mem_cons.mpr ⟨List.mem_append_left _ (List.mem_append_left _ (List.mem_append_left _ (List.mem_append_left _ (List.mem_append_left _ (List.mem_append_left _ (List.mem_append_left _ (List.mem_append_left _ (List.mem_append_left _ (List.mem_append_right _ (List.mem_append_right _ (List.mem_append_right _ (List.mem_append_right _ (List.mem_append_right _ (List.mem_append_right _ (List.mem_append_right _ (List.mem_append_left _ (List.mem_of_getElem? (i := 15) rfl))))))))))))))))), List.forall_mem_cons.mpr ⟨List.mem_append_left _ (List.mem_append_left _ (List.mem_append_left _ (List.mem_append_left _ (List.mem_append_left _ (List.mem_append_left _ (List.mem_append_left _ (List.mem_append_left _ (List.mem_append_left _ (List.mem_append_right _ (List.mem_append_right _ (List.mem_append_right _ (List.mem_append_right _ (List.mem_append_right _ (List.mem_append_right _ (List.mem_append_right _ (List.mem_append_left _ (List.mem_of_getElem? (i := 16) rfl))))))))))))))))), List.forall_mem_cons.mpr ⟨List.mem_append_left _ (List.mem_append_left _ (List.mem_append_left _ (List.mem_append_left _ (List.mem_append_left _ (List.mem_append_left _ (List.mem_append_left _ (List.mem_append_left _ (List.mem_append_left _ (List.mem_append_right _ (List.mem_append_right _ (List.mem_append_right _ (List.mem_append_right _ (List.mem_append_right _ (List.mem_append_right _ (List.mem_append_right _ (List.mem_append_left _ (List.mem_of_getElem? (i := 17) rfl))))))))))))))))), List.forall_mem_cons.mpr ⟨List.mem_append_left _ (List.mem_append_left _ (List.mem_append_left _ (List.mem_append_left _ (List.mem_append_left _ (List.mem_append_left _ (List.mem_append_left _ (List.mem_append_left _ (List.mem_append_left _ (List.mem_append_right _ (List.mem_append_right _ (List.mem_append_right _ (List.mem_append_right _ (List.mem_append_right _ (List.mem_append_right _ (List.mem_append_right _ (List.mem_append_left _ (List.mem_of_getElem? (i := 18) rfl))))))))))))))))), List.forall_mem_cons.mpr ⟨List.mem_append_left _ (List.mem_append_left _ (List.mem_append_left _ (List.mem_append_left _ (List.mem_append_left _ (List.mem_append_left _ (List.mem_append_left _ (List.mem_append_left _ (List.mem_append_left _ (List.mem_append_right _ (List.mem_append_right _ (List.mem_append_right _ (List.mem_append_right _ (List.mem_append_right _ (List.mem_append_right _ (List.mem_append_right _ (List.mem_append_left _ (List.mem_of_getElem? (i := 19) rfl))))))))))))))))), List.forall_mem_cons.mpr ⟨List.mem_append_left _ (List.mem_append_left _ (List.mem_append_left _ (List.mem_append_left _ (List.mem_append_left _ (List.mem_append_left _ (List.mem_append_left _ (List.mem_append_left _ (List.mem_append_left _ (List.mem_append_right _ (List.mem_append_right _ (List.mem_append_right _ (List.mem_append_right _ (List.mem_append_right _ (List.mem_append_right _ (List.mem_append_right _ (List.mem_append_left _ (List.mem_of_getElem? (i := 20) rfl))))))))))))))))), List.forall_mem_cons.mpr ⟨List.mem_append_left _ (List.mem_append_left _ (List.mem_append_left _ (List.mem_append_left _ (List.mem_append_left _ (List.mem_append_left _ (List.mem_append_left _ (List.mem_append_left _ (List.mem_append_left _ (List.mem_append_right _ (List.mem_append_right _ (List.mem_append_right _ (List.mem_append_right _ (List.mem_append_right _ (List.mem_append_right _ (List.mem_append_right _ (List.mem_append_left _ (List.mem_of_getElem? (i := 21) rfl))))))))))))))))), List.forall_mem_cons.mpr ⟨List.mem_append_left _ (List.mem_append_left _ (List.mem_append_left _ (List.mem_append_left _ (List.mem_append_left _ (List.mem_append_left _ (List.mem_append_left _ (List.mem_append_left _ (List.mem_append_left _ (List.mem_append_right _ (List.mem_append_right _ (List.mem_append_right _ (List.mem_append_right _ (List.mem_append_right _ (List.mem_append_right _ (List.mem_append_right _ (List.mem_append_left _ (List.mem_of_getElem? (i := 22) rfl))))))))))))))))), List.forall_mem_cons.mpr ⟨List.mem_append_left _ (List.mem_append_left _ (List.mem_append_left _ (List.mem_append_left _ (List.mem_append_left _ (List.mem_append_left _ (List.mem_append_left _ (List.mem_append_left _ (List.mem_append_left _ (List.mem_append_right _ (List.mem_append_right _ (List.mem_append_right _ (List.mem_append_right _ (List.mem_append_right _ (List.mem_append_right _ (List.mem_append_right _ (List.mem_append_left _ (List.mem_of_getElem? (i := 23) rfl))))))))))))))))), List.forall_mem_cons.mpr ⟨List.mem_append_left _ (List.mem_append_left _ (List.mem_append_left _ (List.mem_append_left _ (List.mem_append_left _ (List.mem_append_left _ (List.mem_append_left _ (List.mem_append_left _ (List.mem_append_left _ (List.mem_append_right _ (List.mem_append_right _ (List.mem_append_right _ (List.mem_append_right _ (List.mem_append_right _ (List.mem_append_right _ (List.mem_append_right _ (List.mem_append_right _ (List.mem_append_left _ (List.mem_of_getElem? (i := 0) rfl)))))))))))))))))), List.forall_mem_cons.mpr ⟨List.mem_append_left _ (List.mem_append_left _ (List.mem_append_left _ (List.mem_append_left _ (List.mem_append_left _ (List.mem_append_left _ (List.mem_append_left _ (List.mem_append_left _ (List.mem_append_left _ (List.mem_append_right _ (List.mem_append_right _ (List.mem_append_right _ (List.mem_append_right _ (List.mem_append_right _ (List.mem_append_right _ (List.mem_append_right _ (List.mem_append_right _ (List.mem_append_left _ (List.mem_of_getElem? (i := 1) rfl)))))))))))))))))), List.forall_mem_cons.mpr ⟨List.mem_append_left _ (List.mem_append_left _ (List.mem_append_left _ (List.mem_append_left _ (List.mem_append_left _ (List.mem_append_left _ (List.mem_append_left _ (List.mem_append_left _ (List.mem_append_left _ (List.mem_append_right _ (List.mem_append_right _ (List.mem_append_right _ (List.mem_append_right _ (List.mem_append_right _ (List.mem_append_right _ (List.mem_append_right _ (List.mem_append_right _ (List.mem_append_left _ (List.mem_of_getElem? (i := 2) rfl)))))))))))))))))), List.forall_mem_cons.mpr ⟨List.mem_append_left _ (List.mem_append_left _ (List.mem_append_left _ (List.mem_append_left _ (List.mem_append_left _ (List.mem_append_left _ (List.mem_append_left _ (List.mem_append_left _ (List.mem_append_left _ (List.mem_append_right _ (List.mem_append_right _ (List.mem_append_right _ (List.mem_append_right _ (List.mem_append_right _ (List.mem_append_right _ (List.mem_append_right _ (List.mem_append_right _ (List.mem_append_left _ (List.mem_of_getElem? (i := 3) rfl)))))))))))))))))), List.forall_mem_cons.mpr ⟨List.mem_append_left _ (List.mem_append_left _ (List.mem_append_left _ (List.mem_append_left _ (List.mem_append_left _ (List.mem_append_left _ (List.mem_append_left _ (List.mem_append_left _ (List.mem_append_left _ (List.mem_append_right _ (List.mem_append_right _ (List.mem_append_right _ (List.mem_append_right _ (List.mem_append_right _ (List.mem_append_right _ (List.mem_append_right _ (List.mem_append_right _ (List.mem_append_left _ (List.mem_of_getElem? (i := 4) rfl)))))))))))))))))), List.forall_mem_cons.mpr ⟨List.mem_append_left _ (List.mem_append_left _ (List.mem_append_left _ (List.mem_append_left _ (List.mem_append_left _ (List.mem_append_left _ (List.mem_append_left _ (List.mem_append_left _ (List.mem_append_left _ (List.mem_append_left _ (List.mem_of_getElem? (i := 6) rfl)))))))))), (fun _ h => absurd h List.not_mem_nil)⟩⟩⟩⟩⟩⟩⟩⟩⟩⟩⟩⟩⟩⟩⟩⟩⟩⟩⟩⟩⟩⟩⟩⟩
set_option maxRecDepth 20000 in
theorem ggL_law_X4_isSame_w5 : ∀ w ∈ ([Cond.code Lib.Math.max.name Lib.Math.max.code 2 (some .int), Cond.methodLink RX1 29 yX1_sharedWith, Cond.methodLink RX4 50 yX2_seam, Cond.instanceMethod yX2_seam, Cond.selects RX2 yX2_seam yX2_seam, Cond.code yX2_seam cX2_seam 5 (some .int), Cond.methodLink RX2 118 yX1_firstPlaceOf, Cond.instanceMethod yX1_firstPlaceOf, Cond.selects RX1 yX1_firstPlaceOf yX1_firstPlaceOf, Cond.code yX1_firstPlaceOf cX1_firstPlaceOf 5 (some .int), Cond.methodLink RX1 36 yX1_standsAt, Cond.instanceMethod yX1_standsAt, Cond.selects RX1 yX1_standsAt yX1_standsAt, Cond.code yX1_standsAt cX1_standsAt 5 (some .boolean), Cond.methodLink RX4 55 yX2_stitch, Cond.instanceMethod yX2_stitch, Cond.selects RX2 yX2_stitch yX2_stitch, Cond.code yX2_stitch cX2_stitch 4 (some .int), Cond.methodLink RX2 26 yX2_hemOf, Cond.instanceMethod yX2_hemOf, Cond.selects RX2 yX2_hemOf yX2_hemOf, Cond.code yX2_hemOf cX2_hemOf 2 (some (.object "HemSuffixes$Hem")), Cond.methodLink RX2 74 yX2_requirePlace, Cond.static yX2_requirePlace] : List Cond), w ∈ wsL_law := List.forall_mem_cons.mpr ⟨List.mem_append_left _ (List.mem_append_left _ (List.mem_append_left _ (List.mem_append_left _ (List.mem_append_left _ (List.mem_append_left _ (List.mem_append_left _ (List.mem_append_left _ (List.mem_append_left _ (List.mem_append_left _ (List.mem_of_getElem? (i := 8) rfl)))))))))), List.forall_mem_cons.mpr ⟨List.mem_append_left _ (List.mem_append_left _ (List.mem_append_left _ (List.mem_append_left _ (List.mem_append_left _ (List.mem_append_left _ (List.mem_append_left _ (List.mem_append_left _ (List.mem_append_left _ (List.mem_append_right _ (List.mem_append_right _ (List.mem_append_right _ (List.mem_append_right _ (List.mem_append_left _ (List.mem_of_getElem? (i := 16) rfl)))))))))))))), List.forall_mem_cons.mpr ⟨List.mem_append_left _ (List.mem_append_left _ (List.mem_append_left _ (List.mem_append_left _ (List.mem_append_left _ (List.mem_append_left _ (List.mem_append_left _ (List.mem_append_left _ (List.mem_append_left _ (List.mem_append_right _ (List.mem_append_right _ (List.mem_append_right _ (List.mem_append_right _ (List.mem_append_right _ (List.mem_append_right _ (List.mem_append_right _ (List.mem_append_right _ (List.mem_append_right _ (List.mem_append_right _ (List.mem_append_right _ (List.mem_append_right _ (List.mem_append_right _ (List.mem_append_right _ (List.mem_append_right _ (List.mem_append_left _ (List.mem_of_getElem? (i := 2) rfl))))))))))))))))))))))))), List.forall_mem_cons.mpr ⟨List.mem_append_left _ (List.mem_append_left _ (List.mem_append_left _ (List.mem_append_left _ (List.mem_append_left _ (List.mem_append_left _ (List.mem_append_left _ (List.mem_append_left _ (List.mem_append_left _ (List.mem_append_right _ (List.mem_append_right _ (List.mem_append_right _ (List.mem_append_right _ (List.mem_append_right _ (List.mem_append_right _ (List.mem_append_right _ (List.mem_append_right _ (List.mem_append_right _ (List.mem_append_right _ (List.mem_append_left _ (List.mem_of_getElem? (i := 19) rfl)))))))))))))))))))), List.forall_mem_cons.mpr ⟨List.mem_append_left _ (List.mem_append_left _ (List.mem_append_left _ (List.mem_append_left _ (List.mem_append_left _ (List.mem_append_left _ (List.mem_append_left _ (List.mem_append_left _ (List.mem_append_left _ (List.mem_append_right _ (List.mem_append_right _ (List.mem_append_right _ (List.mem_append_right _ (List.mem_append_right _ (List.mem_append_right _ (List.mem_append_right _ (List.mem_append_right _ (List.mem_append_right _ (List.mem_append_right _ (List.mem_append_left _ (List.mem_of_getElem? (i := 20) rfl)))))))))))))))))))), List.forall_mem_cons.mpr ⟨List.mem_append_left _ (List.mem_append_left _ (List.mem_append_left _ (List.mem_append_left _ (List.mem_append_left _ (List.mem_append_left _ (List.mem_append_left _ (List.mem_append_left _ (List.mem_append_left _ (List.mem_append_right _ (List.mem_append_right _ (List.mem_append_right _ (List.mem_append_right _ (List.mem_append_right _ (List.mem_append_right _ (List.mem_append_right _ (List.mem_append_right _ (List.mem_append_right _ (List.mem_append_right _ (List.mem_append_left _ (List.mem_of_getElem? (i := 21) rfl)))))))))))))))))))), List.forall_mem_cons.mpr ⟨List.mem_append_left _ (List.mem_append_left _ (List.mem_append_left _ (List.mem_append_left _ (List.mem_append_left _ (List.mem_append_left _ (List.mem_append_left _ (List.mem_append_left _ (List.mem_append_left _ (List.mem_append_right _ (List.mem_append_right _ (List.mem_append_right _ (List.mem_append_right _ (List.mem_append_right _ (List.mem_append_right _ (List.mem_append_right _ (List.mem_append_right _ (List.mem_append_right _ (List.mem_append_left _ (List.mem_of_getElem? (i := 2) rfl))))))))))))))))))), List.forall_mem_cons.mpr ⟨List.mem_append_left _ (List.mem_append_left _ (List.mem_append_left _ (List.mem_append_left _ (List.mem_append_left _ (List.mem_append_left _ (List.mem_append_left _ (List.mem_append_left _ (List.mem_append_left _ (List.mem_append_right _ (List.mem_append_right _ (List.mem_append_right _ (List.mem_append_right _ (List.mem_append_right _ (List.mem_append_right _ (List.mem_append_right _ (List.mem_append_right _ (List.mem_append_right _ (List.mem_append_left _ (List.mem_of_getElem? (i := 3) rfl))))))))))))))))))), List.forall_mem_cons.mpr ⟨List.mem_append_left _ (List.mem_append_left _ (List.mem_append_left _ (List.mem_append_left _ (List.mem_append_left _ (List.mem_append_left _ (List.mem_append_left _ (List.mem_append_left _ (List.mem_append_left _ (List.mem_append_right _ (List.mem_append_right _ (List.mem_append_right _ (List.mem_append_right _ (List.mem_append_right _ (List.mem_append_right _ (List.mem_append_right _ (List.mem_append_right _ (List.mem_append_right _ (List.mem_append_left _ (List.mem_of_getElem? (i := 4) rfl))))))))))))))))))), List.forall_mem_cons.mpr ⟨List.mem_append_left _ (List.mem_append_left _ (List.mem_append_left _ (List.mem_append_left _ (List.mem_append_left _ (List.mem_append_left _ (List.mem_append_left _ (List.mem_append_left _ (List.mem_append_left _ (List.mem_append_right _ (List.mem_append_right _ (List.mem_append_right _ (List.mem_append_right _ (List.mem_append_right _ (List.mem_append_right _ (List.mem_append_right _ (List.mem_append_right _ (List.mem_append_right _ (List.mem_append_left _ (List.mem_of_getElem? (i := 5) rfl))))))))))))))))))), List.forall_mem_cons.mpr ⟨List.mem_append_left _ (List.mem_append_left _ (List.mem_append_left _ (List.mem_append_left _ (List.mem_append_left _ (List.mem_append_left _ (List.mem_append_left _ (List.mem_append_left _ (List.mem_append_left _ (List.mem_append_right _ (List.mem_append_right _ (List.mem_append_right _ (List.mem_append_right _ (List.mem_append_right _ (List.mem_append_right _ (List.mem_append_right _ (List.mem_append_right _ (List.mem_append_right _ (List.mem_append_left _ (List.mem_of_getElem? (i := 6) rfl))))))))))))))))))), List.forall_mem_cons.mpr ⟨List.mem_append_left _ (List.mem_append_left _ (List.mem_append_left _ (List.mem_append_left _ (List.mem_append_left _ (List.mem_append_left _ (List.mem_append_left _ (List.mem_append_left _ (List.mem_append_left _ (List.mem_append_right _ (List.mem_append_right _ (List.mem_append_right _ (List.mem_append_right _ (List.mem_append_right _ (List.mem_append_right _ (List.mem_append_right _ (List.mem_append_right _ (List.mem_append_right _ (List.mem_append_left _ (List.mem_of_getElem? (i := 7) rfl))))))))))))))))))), List.forall_mem_cons.mpr ⟨List.mem_append_left _ (List.mem_append_left _ (List.mem_append_left _ (List.mem_append_left _ (List.mem_append_left _ (List.mem_append_left _ (List.mem_append_left _ (List.mem_append_left _ (List.mem_append_left _ (List.mem_append_right _ (List.mem_append_right _ (List.mem_append_right _ (List.mem_append_right _ (List.mem_append_right _ (List.mem_append_right _ (List.mem_append_right _ (List.mem_append_right _ (List.mem_append_right _ (List.mem_append_left _ (List.mem_of_getElem? (i := 8) rfl))))))))))))))))))), List.forall_mem_cons.mpr ⟨List.mem_append_left _ (List.mem_append_left _ (List.mem_append_left _ (List.mem_append_left _ (List.mem_append_left _ (List.mem_append_left _ (List.mem_append_left _ (List.mem_append_left _ (List.mem_append_left _ (List.mem_append_right _ (List.mem_append_right _ (List.mem_append_right _ (List.mem_append_right _ (List.mem_append_right _ (List.mem_append_right _ (List.mem_append_right _ (List.mem_append_right _ (List.mem_append_right _ (List.mem_append_left _ (List.mem_of_getElem? (i := 9) rfl))))))))))))))))))), List.forall_mem_cons.mpr ⟨List.mem_append_left _ (List.mem_append_left _ (List.mem_append_left _ (List.mem_append_left _ (List.mem_append_left _ (List.mem_append_left _ (List.mem_append_left _ (List.mem_append_left _ (List.mem_append_left _ (List.mem_append_right _ (List.mem_append_right _ (List.mem_append_right _ (List.mem_append_right _ (List.mem_append_right _ (List.mem_append_right _ (List.mem_append_right _ (List.mem_append_right _ (List.mem_append_right _ (List.mem_append_right _ (List.mem_append_right _ (List.mem_append_right _ (List.mem_append_right _ (List.mem_append_right _ (List.mem_append_right _ (List.mem_append_left _ (List.mem_of_getElem? (i := 3) rfl))))))))))))))))))))))))), List.forall_mem_cons.mpr ⟨List.mem_append_left _ (List.mem_append_left _ (List.mem_append_left _ (List.mem_append_left _ (List.mem_append_left _ (List.mem_append_left _ (List.mem_append_left _ (List.mem_append_left _ (List.mem_append_left _ (List.mem_append_right _ (List.mem_append_right _ (List.mem_append_right _ (List.mem_append_right _ (List.mem_append_right _ (List.mem_append_right _ (List.mem_append_right _ (List.mem_append_right _ (List.mem_append_right _ (List.mem_append_right _ (List.mem_append_right _ (List.mem_append_left _ (List.mem_of_getElem? (i := 0) rfl))))))))))))))))))))), List.forall_mem_cons.mpr ⟨List.mem_append_left _ (List.mem_append_left _ (List.mem_append_left _ (List.mem_append_left _ (List.mem_append_left _ (List.mem_append_left _ (List.mem_append_left _ (List.mem_append_left _ (List.mem_append_left _ (List.mem_append_right _ (List.mem_append_right _ (List.mem_append_right _ (List.mem_append_right _ (List.mem_append_right _ (List.mem_append_right _ (List.mem_append_right _ (List.mem_append_right _ (List.mem_append_right _ (List.mem_append_right _ (List.mem_append_right _ (List.mem_append_left _ (List.mem_of_getElem? (i := 1) rfl))))))))))))))))))))), List.forall_mem_cons.mpr ⟨List.mem_append_left _ (List.mem_append_left _ (List.mem_append_left _ (List.mem_append_left _ (List.mem_append_left _ (List.mem_append_left _ (List.mem_append_left _ (List.mem_append_left _ (List.mem_append_left _ (List.mem_append_right _ (List.mem_append_right _ (List.mem_append_right _ (List.mem_append_right _ (List.mem_append_right _ (List.mem_append_right _ (List.mem_append_right _ (List.mem_append_right _ (List.mem_append_right _ (List.mem_append_right _ (List.mem_append_right _ (List.mem_append_left _ (List.mem_of_getElem? (i := 2) rfl))))))))))))))))))))), List.forall_mem_cons.mpr ⟨List.mem_append_left _ (List.mem_append_left _ (List.mem_append_left _ (List.mem_append_left _ (List.mem_append_left _ (List.mem_append_left _ (List.mem_append_left _ (List.mem_append_left _ (List.mem_append_left _ (List.mem_append_right _ (List.mem_append_right _ (List.mem_append_right _ (List.mem_append_left _ (List.mem_of_getElem? (i := 10) rfl))))))))))))), List.forall_mem_cons.mpr ⟨List.mem_append_left _ (List.mem_append_left _ (List.mem_append_left _ (List.mem_append_left _ (List.mem_append_left _ (List.mem_append_left _ (List.mem_append_left _ (List.mem_append_left _ (List.mem_append_left _ (List.mem_append_right _ (List.mem_append_right _ (List.mem_append_right _ (List.mem_append_left _ (List.mem_of_getElem? (i := 11) rfl))))))))))))), List.forall_mem_cons.mpr ⟨List.mem_append_left _ (List.mem_append_left _ (List.mem_append_left _ (List.mem_append_left _ (List.mem_append_left _ (List.mem_append_left _ (List.mem_append_left _ (List.mem_append_left _ (List.mem_append_left _ (List.mem_append_right _ (List.mem_append_right _ (List.mem_append_right _ (List.mem_append_left _ (List.mem_of_getElem? (i := 12) rfl))))))))))))), List.forall_mem_cons.mpr ⟨List.mem_append_left _ (List.mem_append_left _ (List.mem_append_left _ (List.mem_append_left _ (List.mem_append_left _ (List.mem_append_left _ (List.mem_append_left _ (List.mem_append_left _ (List.mem_append_left _ (List.mem_append_right _ (List.mem_append_right _ (List.mem_append_right _ (List.mem_append_left _ (List.mem_of_getElem? (i := 13) rfl))))))))))))), List.forall_mem_cons.mpr ⟨List.mem_append_left _ (List.mem_append_left _ (List.mem_append_left _ (List.mem_append_left _ (List.mem_append_left _ (List.mem_append_left _ (List.mem_append_left _ (List.mem_append_left _ (List.mem_append_left _ (List.mem_append_right _ (List.mem_append_right _ (List.mem_append_right _ (List.mem_append_right _ (List.mem_append_right _ (List.mem_append_right _ (List.mem_append_right _ (List.mem_append_right _ (List.mem_append_right _ (List.mem_append_right _ (List.mem_append_right _ (List.mem_append_left _ (List.mem_of_getElem? (i := 3) rfl))))))))))))))))))))), List.forall_mem_cons.mpr ⟨List.mem_append_left _ (List.mem_append_left _ (List.mem_append_left _ (List.mem_append_left _ (List.mem_append_left _ (List.mem_append_left _ (List.mem_append_left _ (List.mem_append_left _ (List.mem_append_left _ (List.mem_append_right _ (List.mem_append_right _ (List.mem_append_right _ (List.mem_append_right _ (List.mem_append_right _ (List.mem_append_right _ (List.mem_append_right _ (List.mem_append_right _ (List.mem_append_right _ (List.mem_append_right _ (List.mem_append_right _ (List.mem_append_left _ (List.mem_of_getElem? (i := 4) rfl))))))))))))))))))))), (fun _ h => absurd h List.not_mem_nil)⟩⟩⟩⟩⟩⟩⟩⟩⟩⟩⟩⟩⟩⟩⟩⟩⟩⟩⟩⟩⟩⟩⟩⟩
set_option maxRecDepth 20000 in
theorem ggL_law_X4_isSame_w6 : ∀ w ∈ ([Cond.code yX2_requirePlace cX2_requirePlace 2 none, Cond.methodLink RX2 78 yX1_at, Cond.methodLink RX4 59 yX2_end, Cond.instanceMethod yX2_end, Cond.selects RX2 yX2_end yX2_end, Cond.code yX2_end cX2_end 4 (some .int), Cond.methodLink RX4 62 yX2_rank, Cond.instanceMethod yX2_rank, Cond.selects RX2 yX2_rank yX2_rank, Cond.code yX2_rank cX2_rank 4 (some .int), Cond.methodLink RX2 100 yX0_rankOf, Cond.instanceMethod yX0_rankOf, Cond.selects RX0 yX0_rankOf yX0_rankOf, Cond.code yX0_rankOf cX0_rankOf 3 (some .int), Cond.static yL_common, Cond.initialized RL, Cond.code yL_common cL_common 5 (some .int), Cond.methodLink RX4 65 yX3_repeat, Cond.instanceMethod yX3_repeat, Cond.selects RX3 yX3_repeat yX3_repeat, Cond.code yX3_repeat cX3_repeat 5 (some (.array .int)), Cond.methodLink RX4 69 yX2_repeat, Cond.instanceMethod yX2_repeat, Cond.selects RX2 yX2_repeat yX2_repeat] : List Cond), w ∈ wsL_law := List.forall_mem_cons.mpr ⟨List.mem_append_left _ (List.mem_append_left _ (List.mem_append_left _ (List.mem_append_left _ (List.mem_append_left _ (List.mem_append_left _ (List.mem_append_left _ (List.mem_append_left _ (List.mem_append_left _ (List.mem_append_right _ (List.mem_append_right _ (List.mem_append_right _ (List.mem_append_right _ (List.mem_append_right _ (List.mem_append_right _ (List.mem_append_right _ (List.mem_append_right _ (List.mem_append_right _ (List.mem_append_right _ (List.mem_append_right _ (List.mem_append_left _ (List.mem_of_getElem? (i := 5) rfl))))))))))))))))))))), List.forall_mem_cons.mpr ⟨List.mem_append_left _ (List.mem_append_left _ (List.mem_append_left _ (List.mem_append_left _ (List.mem_append_left _ (List.mem_append_left _ (List.mem_append_left _ (List.mem_append_left _ (List.mem_append_left _ (List.mem_append_right _ (List.mem_append_right _ (List.mem_append_right _ (List.mem_append_right _ (List.mem_append_right _ (List.mem_append_right _ (List.mem_append_right _ (List.mem_append_right _ (List.mem_append_left _ (List.mem_of_getElem? (i := 16) rfl)))))))))))))))))), List.forall_mem_cons.mpr ⟨List.mem_append_left _ (List.mem_append_left _ (List.mem_append_left _ (List.mem_append_left _ (List.mem_append_left _ (List.mem_append_left _ (List.mem_append_left _ (List.mem_append_left _ (List.mem_append_left _ (List.mem_append_right _ (List.mem_append_right _ (List.mem_append_right _ (List.mem_append_right _ (List.mem_append_right _ (List.mem_append_right _ (List.mem_append_right _ (List.mem_append_right _ (List.mem_append_right _ (List.mem_append_right _ (List.mem_append_right _ (List.mem_append_right _ (List.mem_append_right _ (List.mem_append_right _ (List.mem_append_right _ (List.mem_append_left _ (List.mem_of_getElem? (i := 4) rfl))))))))))))))))))))))))), List.forall_mem_cons.mpr ⟨List.mem_append_left _ (List.mem_append_left _ (List.mem_append_left _ (List.mem_append_left _ (List.mem_append_left _ (List.mem_append_left _ (List.mem_append_left _ (List.mem_append_left _ (List.mem_append_left _ (List.mem_append_right _ (List.mem_append_right _ (List.mem_append_right _ (List.mem_append_right _ (List.mem_append_right _ (List.mem_append_right _ (List.mem_append_right _ (List.mem_append_right _ (List.mem_append_right _ (List.mem_append_right _ (List.mem_append_right _ (List.mem_append_left _ (List.mem_of_getElem? (i := 7) rfl))))))))))))))))))))), List.forall_mem_cons.mpr ⟨List.mem_append_left _ (List.mem_append_left _ (List.mem_append_left _ (List.mem_append_left _ (List.mem_append_left _ (List.mem_append_left _ (List.mem_append_left _ (List.mem_append_left _ (List.mem_append_left _ (List.mem_append_right _ (List.mem_append_right _ (List.mem_append_right _ (List.mem_append_right _ (List.mem_append_right _ (List.mem_append_right _ (List.mem_append_right _ (List.mem_append_right _ (List.mem_append_right _ (List.mem_append_right _ (List.mem_append_right _ (List.mem_append_left _ (List.mem_of_getElem? (i := 8) rfl))))))))))))))))))))), List.forall_mem_cons.mpr ⟨List.mem_append_left _ (List.mem_append_left _ (List.mem_append_left _ (List.mem_append_left _ (List.mem_append_left _ (List.mem_append_left _ (List.mem_append_left _ (List.mem_append_left _ (List.mem_append_left _ (List.mem_append_right _ (List.mem_append_right _ (List.mem_append_right _ (List.mem_append_right _ (List.mem_append_right _ (List.mem_append_right _ (List.mem_append_right _ (List.mem_append_right _ (List.mem_append_right _ (List.mem_append_right _ (List.mem_append_right _ (List.mem_append_left _ (List.mem_of_getElem? (i := 9) rfl))))))))))))))))))))), List.forall_mem_cons.mpr ⟨List.mem_append_left _ (List.mem_append_left _ (List.mem_append_left _ (List.mem_append_left _ (List.mem_append_left _ (List.mem_append_left _ (List.mem_append_left _ (List.mem_append_left _ (List.mem_append_left _ (List.mem_append_right _ (List.mem_append_right _ (List.mem_append_right _ (List.mem_append_right _ (List.mem_append_right _ (List.mem_append_right _ (List.mem_append_right _ (List.mem_append_right _ (List.mem_append_right _ (List.mem_append_right _ (List.mem_append_right _ (List.mem_append_right _ (List.mem_append_right _ (List.mem_append_right _ (List.mem_append_right _ (List.mem_append_left _ (List.mem_of_getElem? (i := 5) rfl))))))))))))))))))))))))), List.forall_mem_cons.mpr ⟨List.mem_append_left _ (List.mem_append_left _ (List.mem_append_left _ (List.mem_append_left _ (List.mem_append_left _ (List.mem_append_left _ (List.mem_append_left _ (List.mem_append_left _ (List.mem_append_left _ (List.mem_append_right _ (List.mem_append_right _ (List.mem_append_right _ (List.mem_append_right _ (List.mem_append_right _ (List.mem_append_right _ (List.mem_append_right _ (List.mem_append_right _ (List.mem_append_right _ (List.mem_append_right _ (List.mem_append_right _ (List.mem_append_left _ (List.mem_of_getElem? (i := 11) rfl))))))))))))))))))))), List.forall_mem_cons.mpr ⟨List.mem_append_left _ (List.mem_append_left _ (List.mem_append_left _ (List.mem_append_left _ (List.mem_append_left _ (List.mem_append_left _ (List.mem_append_left _ (List.mem_append_left _ (List.mem_append_left _ (List.mem_append_right _ (List.mem_append_right _ (List.mem_append_right _ (List.mem_append_right _ (List.mem_append_right _ (List.mem_append_right _ (List.mem_append_right _ (List.mem_append_right _ (List.mem_append_right _ (List.mem_append_right _ (List.mem_append_right _ (List.mem_append_left _ (List.mem_of_getElem? (i := 12) rfl))))))))))))))))))))), List.forall_mem_cons.mpr ⟨List.mem_append_left _ (List.mem_append_left _ (List.mem_append_left _ (List.mem_append_left _ (List.mem_append_left _ (List.mem_append_left _ (List.mem_append_left _ (List.mem_append_left _ (List.mem_append_left _ (List.mem_append_right _ (List.mem_append_right _ (List.mem_append_right _ (List.mem_append_right _ (List.mem_append_right _ (List.mem_append_right _ (List.mem_append_right _ (List.mem_append_right _ (List.mem_append_right _ (List.mem_append_right _ (List.mem_append_right _ (List.mem_append_left _ (List.mem_of_getElem? (i := 13) rfl))))))))))))))))))))), List.forall_mem_cons.mpr ⟨List.mem_append_left _ (List.mem_append_left _ (List.mem_append_left _ (List.mem_append_left _ (List.mem_append_left _ (List.mem_append_left _ (List.mem_append_left _ (List.mem_append_left _ (List.mem_append_left _ (List.mem_append_right _ (List.mem_append_right _ (List.mem_append_right _ (List.mem_append_right _ (List.mem_append_right _ (List.mem_append_right _ (List.mem_append_right _ (List.mem_append_right _ (List.mem_append_right _ (List.mem_append_right _ (List.mem_append_right _ (List.mem_append_left _ (List.mem_of_getElem? (i := 14) rfl))))))))))))))))))))), List.forall_mem_cons.mpr ⟨List.mem_append_left _ (List.mem_append_left _ (List.mem_append_left _ (List.mem_append_left _ (List.mem_append_left _ (List.mem_append_left _ (List.mem_append_left _ (List.mem_append_left _ (List.mem_append_left _ (List.mem_append_right _ (List.mem_append_right _ (List.mem_append_right _ (List.mem_append_right _ (List.mem_append_right _ (List.mem_append_right _ (List.mem_append_right _ (List.mem_append_right _ (List.mem_append_right _ (List.mem_append_right _ (List.mem_append_right _ (List.mem_append_left _ (List.mem_of_getElem? (i := 15) rfl))))))))))))))))))))), List.forall_mem_cons.mpr ⟨List.mem_append_left _ (List.mem_append_left _ (List.mem_append_left _ (List.mem_append_left _ (List.mem_append_left _ (List.mem_append_left _ (List.mem_append_left _ (List.mem_append_left _ (List.mem_append_left _ (List.mem_append_right _ (List.mem_append_right _ (List.mem_append_right _ (List.mem_append_right _ (List.mem_append_right _ (List.mem_append_right _ (List.mem_append_right _ (List.mem_append_right _ (List.mem_append_right _ (List.mem_append_right _ (List.mem_append_right _ (List.mem_append_left _ (List.mem_of_getElem? (i := 16) rfl))))))))))))))))))))), List.forall_mem_cons.mpr ⟨List.mem_append_left _ (List.mem_append_left _ (List.mem_append_left _ (List.mem_append_left _ (List.mem_append_left _ (List.mem_append_left _ (List.mem_append_left _ (List.mem_append_left _ (List.mem_append_left _ (List.mem_append_right _ (List.mem_append_right _ (List.mem_append_right _ (List.mem_append_right _ (List.mem_append_right _ (List.mem_append_right _ (List.mem_append_right _ (List.mem_append_right _ (List.mem_append_right _ (List.mem_append_right _ (List.mem_append_right _ (List.mem_append_left _ (List.mem_of_getElem? (i := 17) rfl))))))))))))))))))))), List.forall_mem_cons.mpr ⟨List.mem_append_left _ (List.mem_append_left _ (List.mem_append_left _ (List.mem_append_left _ (List.mem_append_left _ (List.mem_append_left _ (List.mem_append_left _ (List.mem_append_left _ (List.mem_append_left _ (List.mem_append_right _ (List.mem_append_right _ (List.mem_append_right _ (List.mem_append_right _ (List.mem_append_right _ (List.mem_append_right _ (List.mem_append_right _ (List.mem_append_right _ (List.mem_append_right _ (List.mem_append_right _ (List.mem_append_right _ (List.mem_append_right _ (List.mem_append_left _ (List.mem_of_getElem? (i := 0) rfl)))))))))))))))))))))), List.forall_mem_cons.mpr ⟨List.mem_append_left _ (List.mem_append_left _ (List.mem_append_left _ (List.mem_append_left _ (List.mem_append_left _ (List.mem_append_left _ (List.mem_append_left _ (List.mem_append_left _ (List.mem_append_left _ (List.mem_append_right _ (List.mem_append_left _ (List.mem_of_getElem? (i := 20) rfl))))))))))), List.forall_mem_cons.mpr ⟨List.mem_append_left _ (List.mem_append_left _ (List.mem_append_left _ (List.mem_append_left _ (List.mem_append_left _ (List.mem_append_left _ (List.mem_append_left _ (List.mem_append_left _ (List.mem_append_left _ (List.mem_append_right _ (List.mem_append_right _ (List.mem_append_right _ (List.mem_append_right _ (List.mem_append_right _ (List.mem_append_right _ (List.mem_append_right _ (List.mem_append_right _ (List.mem_append_right _ (List.mem_append_right _ (List.mem_append_right _ (List.mem_append_right _ (List.mem_append_left _ (List.mem_of_getElem? (i := 1) rfl)))))))))))))))))))))), List.forall_mem_cons.mpr ⟨List.mem_append_left _ (List.mem_append_left _ (List.mem_append_left _ (List.mem_append_left _ (List.mem_append_left _ (List.mem_append_left _ (List.mem_append_left _ (List.mem_append_left _ (List.mem_append_left _ (List.mem_append_right _ (List.mem_append_right _ (List.mem_append_right _ (List.mem_append_right _ (List.mem_append_right _ (List.mem_append_right _ (List.mem_append_right _ (List.mem_append_right _ (List.mem_append_right _ (List.mem_append_right _ (List.mem_append_right _ (List.mem_append_right _ (List.mem_append_right _ (List.mem_append_right _ (List.mem_append_right _ (List.mem_append_left _ (List.mem_of_getElem? (i := 6) rfl))))))))))))))))))))))))), List.forall_mem_cons.mpr ⟨List.mem_append_left _ (List.mem_append_left _ (List.mem_append_left _ (List.mem_append_left _ (List.mem_append_left _ (List.mem_append_left _ (List.mem_append_left _ (List.mem_append_left _ (List.mem_append_left _ (List.mem_append_right _ (List.mem_append_right _ (List.mem_append_right _ (List.mem_append_right _ (List.mem_append_right _ (List.mem_append_right _ (List.mem_append_right _ (List.mem_append_right _ (List.mem_append_right _ (List.mem_append_right _ (List.mem_append_right _ (List.mem_append_right _ (List.mem_append_right _ (List.mem_append_right _ (List.mem_append_right _ (List.mem_append_left _ (List.mem_of_getElem? (i := 7) rfl))))))))))))))))))))))))), List.forall_mem_cons.mpr ⟨List.mem_append_left _ (List.mem_append_left _ (List.mem_append_left _ (List.mem_append_left _ (List.mem_append_left _ (List.mem_append_left _ (List.mem_append_left _ (List.mem_append_left _ (List.mem_append_left _ (List.mem_append_right _ (List.mem_append_right _ (List.mem_append_right _ (List.mem_append_right _ (List.mem_append_right _ (List.mem_append_right _ (List.mem_append_right _ (List.mem_append_right _ (List.mem_append_right _ (List.mem_append_right _ (List.mem_append_right _ (List.mem_append_right _ (List.mem_append_right _ (List.mem_append_right _ (List.mem_append_right _ (List.mem_append_left _ (List.mem_of_getElem? (i := 8) rfl))))))))))))))))))))))))), List.forall_mem_cons.mpr ⟨List.mem_append_left _ (List.mem_append_left _ (List.mem_append_left _ (List.mem_append_left _ (List.mem_append_left _ (List.mem_append_left _ (List.mem_append_left _ (List.mem_append_left _ (List.mem_append_left _ (List.mem_append_right _ (List.mem_append_right _ (List.mem_append_right _ (List.mem_append_right _ (List.mem_append_right _ (List.mem_append_right _ (List.mem_append_right _ (List.mem_append_right _ (List.mem_append_right _ (List.mem_append_right _ (List.mem_append_right _ (List.mem_append_right _ (List.mem_append_right _ (List.mem_append_right _ (List.mem_append_right _ (List.mem_append_left _ (List.mem_of_getElem? (i := 9) rfl))))))))))))))))))))))))), List.forall_mem_cons.mpr ⟨List.mem_append_left _ (List.mem_append_left _ (List.mem_append_left _ (List.mem_append_left _ (List.mem_append_left _ (List.mem_append_left _ (List.mem_append_left _ (List.mem_append_left _ (List.mem_append_left _ (List.mem_append_right _ (List.mem_append_right _ (List.mem_append_right _ (List.mem_append_right _ (List.mem_append_right _ (List.mem_append_right _ (List.mem_append_right _ (List.mem_append_right _ (List.mem_append_right _ (List.mem_append_right _ (List.mem_append_right _ (List.mem_append_right _ (List.mem_append_right _ (List.mem_append_right _ (List.mem_append_right _ (List.mem_append_left _ (List.mem_of_getElem? (i := 10) rfl))))))))))))))))))))))))), List.forall_mem_cons.mpr ⟨List.mem_append_left _ (List.mem_append_left _ (List.mem_append_left _ (List.mem_append_left _ (List.mem_append_left _ (List.mem_append_left _ (List.mem_append_left _ (List.mem_append_left _ (List.mem_append_left _ (List.mem_append_right _ (List.mem_append_right _ (List.mem_append_right _ (List.mem_append_right _ (List.mem_append_right _ (List.mem_append_right _ (List.mem_append_right _ (List.mem_append_right _ (List.mem_append_left _ (List.mem_of_getElem? (i := 18) rfl)))))))))))))))))), List.forall_mem_cons.mpr ⟨List.mem_append_left _ (List.mem_append_left _ (List.mem_append_left _ (List.mem_append_left _ (List.mem_append_left _ (List.mem_append_left _ (List.mem_append_left _ (List.mem_append_left _ (List.mem_append_left _ (List.mem_append_right _ (List.mem_append_right _ (List.mem_append_right _ (List.mem_append_right _ (List.mem_append_right _ (List.mem_append_right _ (List.mem_append_right _ (List.mem_append_right _ (List.mem_append_left _ (List.mem_of_getElem? (i := 19) rfl)))))))))))))))))), (fun _ h => absurd h List.not_mem_nil)⟩⟩⟩⟩⟩⟩⟩⟩⟩⟩⟩⟩⟩⟩⟩⟩⟩⟩⟩⟩⟩⟩⟩⟩
set_option maxRecDepth 20000 in
theorem ggL_law_X4_isSame_w7 : ∀ w ∈ ([Cond.code yX2_repeat cX2_repeat 7 (some .int), Cond.methodLink RX2 112 yX0_repeatRank, Cond.instanceMethod yX0_repeatRank, Cond.selects RX0 yX0_repeatRank yX0_repeatRank, Cond.code yX0_repeatRank cX0_repeatRank 5 (some .int), Cond.methodLink RX2 115 yX0_sharedWithNext, Cond.methodLink RX2 122 yX1_placesOf, Cond.instanceMethod yX1_placesOf, Cond.selects RX1 yX1_placesOf yX1_placesOf, Cond.code yX1_placesOf cX1_placesOf 6 (some .int), Cond.methodLink RX4 71 yX4_placesOfSample, Cond.instanceMethod yX4_placesOfSample, Cond.selects RX4 yX4_placesOfSample yX4_placesOfSample, Cond.initialized RX4, Cond.code yX4_placesOfSample cX4_placesOfSample 4 (some (.array .int)), Cond.methodLink RX4 74 yX2_found, Cond.instanceMethod yX2_found, Cond.selects RX2 yX2_found yX2_found, Cond.code yX2_found cX2_found 2 (some .int), Cond.methodLink RX4 77 yX2_first, Cond.instanceMethod yX2_first, Cond.selects RX2 yX2_first yX2_first, Cond.code yX2_first cX2_first 2 (some .int), Cond.methodLink RX4 80 yX2_period] : List Cond), w ∈ wsL_law := List.forall_mem_cons.mpr ⟨List.mem_append_left _ (List.mem_append_left _ (List.mem_append_left _ (List.mem_append_left _ (List.mem_append_left _ (List.mem_append_left _ (List.mem_append_left _ (List.mem_append_left _ (List.mem_append_left _ (List.mem_append_right _ (List.mem_append_right _ (List.mem_append_right _ (List.mem_append_right _ (List.mem_append_right _ (List.mem_append_right _ (List.mem_append_right _ (List.mem_append_right _ (List.mem_append_left _ (List.mem_of_getElem? (i := 20) rfl)))))))))))))))))), List.forall_mem_cons.mpr ⟨List.mem_append_left _ (List.mem_append_left _ (List.mem_append_left _ (List.mem_append_left _ (List.mem_append_left _ (List.mem_append_left _ (List.mem_append_left _ (List.mem_append_left _ (List.mem_append_left _ (List.mem_append_right _ (List.mem_append_right _ (List.mem_append_right _ (List.mem_append_right _ (List.mem_append_right _ (List.mem_append_right _ (List.mem_append_right _ (List.mem_append_right _ (List.mem_append_left _ (List.mem_of_getElem? (i := 21) rfl)))))))))))))))))), List.forall_mem_cons.mpr ⟨List.mem_append_left _ (List.mem_append_left _ (List.mem_append_left _ (List.mem_append_left _ (List.mem_append_left _ (List.mem_append_left _ (List.mem_append_left _ (List.mem_append_left _ (List.mem_append_left _ (List.mem_append_right _ (List.mem_append_right _ (List.mem_append_right _ (List.mem_append_right _ (List.mem_append_right _ (List.mem_append_right _ (List.mem_append_right _ (List.mem_append_right _ (List.mem_append_left _ (List.mem_of_getElem? (i := 22) rfl)))))))))))))))))), List.forall_mem_cons.mpr ⟨List.mem_append_left _ (List.mem_append_left _ (List.mem_append_left _ (List.mem_append_left _ (List.mem_append_left _ (List.mem_append_left _ (List.mem_append_left _ (List.mem_append_left _ (List.mem_append_left _ (List.mem_append_right _ (List.mem_append_right _ (List.mem_append_right _ (List.mem_append_right _ (List.mem_append_right _ (List.mem_append_right _ (List.mem_append_right _ (List.mem_append_right _ (List.mem_append_left _ (List.mem_of_getElem? (i := 23) rfl)))))))))))))))))), List.forall_mem_cons.mpr ⟨List.mem_append_left _ (List.mem_append_left _ (List.mem_append_left _ (List.mem_append_left _ (List.mem_append_left _ (List.mem_append_left _ (List.mem_append_left _ (List.mem_append_left _ (List.mem_append_left _ (List.mem_append_right _ (List.mem_append_right _ (List.mem_append_right _ (List.mem_append_right _ (List.mem_append_right _ (List.mem_append_right _ (List.mem_append_right _ (List.mem_append_right _ (List.mem_append_right _ (List.mem_append_left _ (List.mem_of_getElem? (i := 0) rfl))))))))))))))))))), List.forall_mem_cons.mpr ⟨List.mem_append_left _ (List.mem_append_left _ (List.mem_append_left _ (List.mem_append_left _ (List.mem_append_left _ (List.mem_append_left _ (List.mem_append_left _ (List.mem_append_left _ (List.mem_append_left _ (List.mem_append_right _ (List.mem_append_right _ (List.mem_append_right _ (List.mem_append_right _ (List.mem_append_right _ (List.mem_append_right _ (List.mem_append_right _ (List.mem_append_right _ (List.mem_append_right _ (List.mem_append_left _ (List.mem_of_getElem? (i := 1) rfl))))))))))))))))))), List.forall_mem_cons.mpr ⟨List.mem_append_left _ (List.mem_append_left _ (List.mem_append_left _ (List.mem_append_left _ (List.mem_append_left _ (List.mem_append_left _ (List.mem_append_left _ (List.mem_append_left _ (List.mem_append_left _ (List.mem_append_right _ (List.mem_append_right _ (List.mem_append_right _ (List.mem_append_right _ (List.mem_append_right _ (List.mem_append_right _ (List.mem_append_right _ (List.mem_append_right _ (List.mem_append_right _ (List.mem_append_left _ (List.mem_of_getElem? (i := 10) rfl))))))))))))))))))), List.forall_mem_cons.mpr ⟨List.mem_append_left _ (List.mem_append_left _ (List.mem_append_left _ (List.mem_append_left _ (List.mem_append_left _ (List.mem_append_left _ (List.mem_append_left _ (List.mem_append_left _ (List.mem_append_left _ (List.mem_append_right _ (List.mem_append_right _ (List.mem_append_right _ (List.mem_append_right _ (List.mem_append_right _ (List.mem_append_right _ (List.mem_append_right _ (List.mem_append_right _ (List.mem_append_right _ (List.mem_append_left _ (List.mem_of_getElem? (i := 11) rfl))))))))))))))))))), List.forall_mem_cons.mpr ⟨List.mem_append_left _ (List.mem_append_left _ (List.mem_append_left _ (List.mem_append_left _ (List.mem_append_left _ (List.mem_append_left _ (List.mem_append_left _ (List.mem_append_left _ (List.mem_append_left _ (List.mem_append_right _ (List.mem_append_right _ (List.mem_append_right _ (List.mem_append_right _ (List.mem_append_right _ (List.mem_append_right _ (List.mem_append_right _ (List.mem_append_right _ (List.mem_append_right _ (List.mem_append_left _ (List.mem_of_getElem? (i := 12) rfl))))))))))))))))))), List.forall_mem_cons.mpr ⟨List.mem_append_left _ (List.mem_append_left _ (List.mem_append_left _ (List.mem_append_left _ (List.mem_append_left _ (List.mem_append_left _ (List.mem_append_left _ (List.mem_append_left _ (List.mem_append_left _ (List.mem_append_right _ (List.mem_append_right _ (List.mem_append_right _ (List.mem_append_right _ (List.mem_append_right _ (List.mem_append_right _ (List.mem_append_right _ (List.mem_append_right _ (List.mem_append_right _ (List.mem_append_left _ (List.mem_of_getElem? (i := 13) rfl))))))))))))))))))), List.forall_mem_cons.mpr ⟨List.mem_append_left _ (List.mem_append_left _ (List.mem_append_left _ (List.mem_append_left _ (List.mem_append_left _ (List.mem_append_left _ (List.mem_append_left _ (List.mem_append_left _ (List.mem_append_left _ (List.mem_append_right _ (List.mem_append_right _ (List.mem_append_right _ (List.mem_append_right _ (List.mem_append_right _ (List.mem_append_right _ (List.mem_append_right _ (List.mem_append_right _ (List.mem_append_right _ (List.mem_append_right _ (List.mem_append_right _ (List.mem_append_right _ (List.mem_append_right _ (List.mem_append_right _ (List.mem_append_right _ (List.mem_append_left _ (List.mem_of_getElem? (i := 11) rfl))))))))))))))))))))))))), List.forall_mem_cons.mpr ⟨List.mem_append_left _ (List.mem_append_left _ (List.mem_append_left _ (List.mem_append_left _ (List.mem_append_left _ (List.mem_append_left _ (List.mem_append_left _ (List.mem_append_left _ (List.mem_append_left _ (List.mem_append_right _ (List.mem_append_right _ (List.mem_append_right _ (List.mem_append_right _ (List.mem_append_right _ (List.mem_append_right _ (List.mem_append_right _ (List.mem_append_right _ (List.mem_append_right _ (List.mem_append_right _ (List.mem_append_right _ (List.mem_append_right _ (List.mem_append_right _ (List.mem_append_right _ (List.mem_append_right _ (List.mem_append_left _ (List.mem_of_getElem? (i := 12) rfl))))))))))))))))))))))))), List.forall_mem_cons.mpr ⟨List.mem_append_left _ (List.mem_append_left _ (List.mem_append_left _ (List.mem_append_left _ (List.mem_append_left _ (List.mem_append_left _ (List.mem_append_left _ (List.mem_append_left _ (List.mem_append_left _ (List.mem_append_right _ (List.mem_append_right _ (List.mem_append_right _ (List.mem_append_right _ (List.mem_append_right _ (List.mem_append_right _ (List.mem_append_right _ (List.mem_append_right _ (List.mem_append_right _ (List.mem_append_right _ (List.mem_append_right _ (List.mem_append_right _ (List.mem_append_right _ (List.mem_append_right _ (List.mem_append_right _ (List.mem_append_left _ (List.mem_of_getElem? (i := 13) rfl))))))))))))))))))))))))), List.forall_mem_cons.mpr ⟨List.mem_append_left _ (List.mem_append_left _ (List.mem_append_left _ (List.mem_append_left _ (List.mem_append_left _ (List.mem_append_left _ (List.mem_append_left _ (List.mem_append_left _ (List.mem_append_left _ (List.mem_append_right _ (List.mem_append_right _ (List.mem_append_left _ (List.mem_of_getElem? (i := 0) rfl)))))))))))), List.forall_mem_cons.mpr ⟨List.mem_append_left _ (List.mem_append_left _ (List.mem_append_left _ (List.mem_append_left _ (List.mem_append_left _ (List.mem_append_left _ (List.mem_append_left _ (List.mem_append_left _ (List.mem_append_left _ (List.mem_append_right _ (List.mem_append_right _ (List.mem_append_right _ (List.mem_append_right _ (List.mem_append_right _ (List.mem_append_right _ (List.mem_append_right _ (List.mem_append_right _ (List.mem_append_right _ (List.mem_append_right _ (List.mem_append_right _ (List.mem_append_right _ (List.mem_append_right _ (List.mem_append_right _ (List.mem_append_right _ (List.mem_append_left _ (List.mem_of_getElem? (i := 14) rfl))))))))))))))))))))))))), List.forall_mem_cons.mpr ⟨List.mem_append_left _ (List.mem_append_left _ (List.mem_append_left _ (List.mem_append_left _ (List.mem_append_left _ (List.mem_append_left _ (List.mem_append_left _ (List.mem_append_left _ (List.mem_append_left _ (List.mem_append_right _ (List.mem_append_right _ (List.mem_append_right _ (List.mem_append_right _ (List.mem_append_right _ (List.mem_append_right _ (List.mem_append_right _ (List.mem_append_right _ (List.mem_append_right _ (List.mem_append_right _ (List.mem_append_right _ (List.mem_append_right _ (List.mem_append_right _ (List.mem_append_right _ (List.mem_append_right _ (List.mem_append_left _ (List.mem_of_getElem? (i := 15) rfl))))))))))))))))))))))))), List.forall_mem_cons.mpr ⟨List.mem_append_left _ (List.mem_append_left _ (List.mem_append_left _ (List.mem_append_left _ (List.mem_append_left _ (List.mem_append_left _ (List.mem_append_left _ (List.mem_append_left _ (List.mem_append_left _ (List.mem_append_right _ (List.mem_append_right _ (List.mem_append_right _ (List.mem_append_right _ (List.mem_append_right _ (List.mem_append_right _ (List.mem_append_right _ (List.mem_append_right _ (List.mem_append_right _ (List.mem_append_right _ (List.mem_append_left _ (List.mem_of_getElem? (i := 15) rfl)))))))))))))))))))), List.forall_mem_cons.mpr ⟨List.mem_append_left _ (List.mem_append_left _ (List.mem_append_left _ (List.mem_append_left _ (List.mem_append_left _ (List.mem_append_left _ (List.mem_append_left _ (List.mem_append_left _ (List.mem_append_left _ (List.mem_append_right _ (List.mem_append_right _ (List.mem_append_right _ (List.mem_append_right _ (List.mem_append_right _ (List.mem_append_right _ (List.mem_append_right _ (List.mem_append_right _ (List.mem_append_right _ (List.mem_append_right _ (List.mem_append_left _ (List.mem_of_getElem? (i := 16) rfl)))))))))))))))))))), List.forall_mem_cons.mpr ⟨List.mem_append_left _ (List.mem_append_left _ (List.mem_append_left _ (List.mem_append_left _ (List.mem_append_left _ (List.mem_append_left _ (List.mem_append_left _ (List.mem_append_left _ (List.mem_append_left _ (List.mem_append_right _ (List.mem_append_right _ (List.mem_append_right _ (List.mem_append_right _ (List.mem_append_right _ (List.mem_append_right _ (List.mem_append_right _ (List.mem_append_right _ (List.mem_append_right _ (List.mem_append_right _ (List.mem_append_left _ (List.mem_of_getElem? (i := 17) rfl)))))))))))))))))))), List.forall_mem_cons.mpr ⟨List.mem_append_left _ (List.mem_append_left _ (List.mem_append_left _ (List.mem_append_left _ (List.mem_append_left _ (List.mem_append_left _ (List.mem_append_left _ (List.mem_append_left _ (List.mem_append_left _ (List.mem_append_right _ (List.mem_append_right _ (List.mem_append_right _ (List.mem_append_right _ (List.mem_append_right _ (List.mem_append_right _ (List.mem_append_right _ (List.mem_append_right _ (List.mem_append_right _ (List.mem_append_right _ (List.mem_append_right _ (List.mem_append_right _ (List.mem_append_right _ (List.mem_append_right _ (List.mem_append_right _ (List.mem_append_left _ (List.mem_of_getElem? (i := 16) rfl))))))))))))))))))))))))), List.forall_mem_cons.mpr ⟨List.mem_append_left _ (List.mem_append_left _ (List.mem_append_left _ (List.mem_append_left _ (List.mem_append_left _ (List.mem_append_left _ (List.mem_append_left _ (List.mem_append_left _ (List.mem_append_left _ (List.mem_append_right _ (List.mem_append_right _ (List.mem_append_right _ (List.mem_append_right _ (List.mem_append_right _ (List.mem_append_right _ (List.mem_append_right _ (List.mem_append_right _ (List.mem_append_right _ (List.mem_append_right _ (List.mem_append_right _ (List.mem_append_right _ (List.mem_append_left _ (List.mem_of_getElem? (i := 15) rfl)))))))))))))))))))))), List.forall_mem_cons.mpr ⟨List.mem_append_left _ (List.mem_append_left _ (List.mem_append_left _ (List.mem_append_left _ (List.mem_append_left _ (List.mem_append_left _ (List.mem_append_left _ (List.mem_append_left _ (List.mem_append_left _ (List.mem_append_right _ (List.mem_append_right _ (List.mem_append_right _ (List.mem_append_right _ (List.mem_append_right _ (List.mem_append_right _ (List.mem_append_right _ (List.mem_append_right _ (List.mem_append_right _ (List.mem_append_right _ (List.mem_append_right _ (List.mem_append_right _ (List.mem_append_left _ (List.mem_of_getElem? (i := 16) rfl)))))))))))))))))))))), List.forall_mem_cons.mpr ⟨List.mem_append_left _ (List.mem_append_left _ (List.mem_append_left _ (List.mem_append_left _ (List.mem_append_left _ (List.mem_append_left _ (List.mem_append_left _ (List.mem_append_left _ (List.mem_append_left _ (List.mem_append_right _ (List.mem_append_right _ (List.mem_append_right _ (List.mem_append_right _ (List.mem_append_right _ (List.mem_append_right _ (List.mem_append_right _ (List.mem_append_right _ (List.mem_append_right _ (List.mem_append_right _ (List.mem_append_right _ (List.mem_append_right _ (List.mem_append_left _ (List.mem_of_getElem? (i := 17) rfl)))))))))))))))))))))), List.forall_mem_cons.mpr ⟨List.mem_append_left _ (List.mem_append_left _ (List.mem_append_left _ (List.mem_append_left _ (List.mem_append_left _ (List.mem_append_left _ (List.mem_append_left _ (List.mem_append_left _ (List.mem_append_left _ (List.mem_append_right _ (List.mem_append_right _ (List.mem_append_right _ (List.mem_append_right _ (List.mem_append_right _ (List.mem_append_right _ (List.mem_append_right _ (List.mem_append_right _ (List.mem_append_right _ (List.mem_append_right _ (List.mem_append_right _ (List.mem_append_right _ (List.mem_append_right _ (List.mem_append_right _ (List.mem_append_right _ (List.mem_append_left _ (List.mem_of_getElem? (i := 17) rfl))))))))))))))))))))))))), (fun _ h => absurd h List.not_mem_nil)⟩⟩⟩⟩⟩⟩⟩⟩⟩⟩⟩⟩⟩⟩⟩⟩⟩⟩⟩⟩⟩⟩⟩⟩
set_option maxRecDepth 20000 in
theorem ggL_law_X4_isSame_w8 : ∀ w ∈ ([Cond.instanceMethod yX2_period, Cond.selects RX2 yX2_period yX2_period, Cond.code yX2_period cX2_period 2 (some .int), Cond.methodLink RX2 130 yX1_leastPeriod, Cond.instanceMethod yX1_leastPeriod, Cond.selects RX1 yX1_leastPeriod yX1_leastPeriod, Cond.code yX1_leastPeriod cX1_leastPeriod 2 (some .int), Cond.methodLink RX4 83 yX4_period, Cond.instanceMethod yX4_period, Cond.selects RX4 yX4_period yX4_period, Cond.code yX4_period cX4_period 5 (some .int), Cond.methodLink RX4 84 yX2_turned, Cond.instanceMethod yX2_turned, Cond.selects RX2 yX2_turned yX2_turned, Cond.code yX2_turned cX2_turned 2 (some .int), Cond.methodLink RX2 133 yX1_bestBeginning, Cond.instanceMethod yX1_bestBeginning, Cond.selects RX1 yX1_bestBeginning yX1_bestBeginning, Cond.code yX1_bestBeginning cX1_bestBeginning 3 (some .int), Cond.methodLink RX1 40 yX1_turnsToLess, Cond.instanceMethod yX1_turnsToLess, Cond.selects RX1 yX1_turnsToLess yX1_turnsToLess, Cond.code yX1_turnsToLess cX1_turnsToLess 6 (some .boolean), Cond.methodLink RX1 44 yX1_allAround] : List Cond), w ∈ wsL_law := List.forall_mem_cons.mpr ⟨List.mem_append_left _ (List.mem_append_left _ (List.mem_append_left _ (List.mem_append_left _ (List.mem_append_left _ (List.mem_append_left _ (List.mem_append_left _ (List.mem_append_left _ (List.mem_append_left _ (List.mem_append_right _ (List.mem_append_right _ (List.mem_append_right _ (List.mem_append_right _ (List.mem_append_right _ (List.mem_append_right _ (List.mem_append_right _ (List.mem_append_right _ (List.mem_append_right _ (List.mem_append_left _ (List.mem_of_getElem? (i := 15) rfl))))))))))))))))))), List.forall_mem_cons.mpr ⟨List.mem_append_left _ (List.mem_append_left _ (List.mem_append_left _ (List.mem_append_left _ (List.mem_append_left _ (List.mem_append_left _ (List.mem_append_left _ (List.mem_append_left _ (List.mem_append_left _ (List.mem_append_right _ (List.mem_append_right _ (List.mem_append_right _ (List.mem_append_right _ (List.mem_append_right _ (List.mem_append_right _ (List.mem_append_right _ (List.mem_append_right _ (List.mem_append_right _ (List.mem_append_left _ (List.mem_of_getElem? (i := 16) rfl))))))))))))))))))), List.forall_mem_cons.mpr ⟨List.mem_append_left _ (List.mem_append_left _ (List.mem_append_left _ (List.mem_append_left _ (List.mem_append_left _ (List.mem_append_left _ (List.mem_append_left _ (List.mem_append_left _ (List.mem_append_left _ (List.mem_append_right _ (List.mem_append_right _ (List.mem_append_right _ (List.mem_append_right _ (List.mem_append_right _ (List.mem_append_right _ (List.mem_append_right _ (List.mem_append_right _ (List.mem_append_right _ (List.mem_append_left _ (List.mem_of_getElem? (i := 17) rfl))))))))))))))))))), List.forall_mem_cons.mpr ⟨List.mem_append_left _ (List.mem_append_left _ (List.mem_append_left _ (List.mem_append_left _ (List.mem_append_left _ (List.mem_append_left _ (List.mem_append_left _ (List.mem_append_left _ (List.mem_append_left _ (List.mem_append_right _ (List.mem_append_right _ (List.mem_append_right _ (List.mem_append_right _ (List.mem_append_right _ (List.mem_append_right _ (List.mem_append_right _ (List.mem_append_right _ (List.mem_append_right _ (List.mem_append_left _ (List.mem_of_getElem? (i := 18) rfl))))))))))))))))))), List.forall_mem_cons.mpr ⟨List.mem_append_left _ (List.mem_append_left _ (List.mem_append_left _ (List.mem_append_left _ (List.mem_append_left _ (List.mem_append_left _ (List.mem_append_left _ (List.mem_append_left _ (List.mem_append_left _ (List.mem_append_right _ (List.mem_append_right _ (List.mem_append_right _ (List.mem_append_right _ (List.mem_append_right _ (List.mem_append_right _ (List.mem_append_right _ (List.mem_append_right _ (List.mem_append_right _ (List.mem_append_left _ (List.mem_of_getElem? (i := 19) rfl))))))))))))))))))), List.forall_mem_cons.mpr ⟨List.mem_append_left _ (List.mem_append_left _ (List.mem_append_left _ (List.mem_append_left _ (List.mem_append_left _ (List.mem_append_left _ (List.mem_append_left _ (List.mem_append_left _ (List.mem_append_left _ (List.mem_append_right _ (List.mem_append_right _ (List.mem_append_right _ (List.mem_append_right _ (List.mem_append_right _ (List.mem_append_right _ (List.mem_append_right _ (List.mem_append_right _ (List.mem_append_right _ (List.mem_append_left _ (List.mem_of_getElem? (i := 20) rfl))))))))))))))))))), List.forall_mem_cons.mpr ⟨List.mem_append_left _ (List.mem_append_left _ (List.mem_append_left _ (List.mem_append_left _ (List.mem_append_left _ (List.mem_append_left _ (List.mem_append_left _ (List.mem_append_left _ (List.mem_append_left _ (List.mem_append_right _ (List.mem_append_right _ (List.mem_append_right _ (List.mem_append_right _ (List.mem_append_right _ (List.mem_append_right _ (List.mem_append_right _ (List.mem_append_right _ (List.mem_append_right _ (List.mem_append_left _ (List.mem_of_getElem? (i := 21) rfl))))))))))))))))))), List.forall_mem_cons.mpr ⟨List.mem_append_left _ (List.mem_append_left _ (List.mem_append_left _ (List.mem_append_left _ (List.mem_append_left _ (List.mem_append_left _ (List.mem_append_left _ (List.mem_append_left _ (List.mem_append_left _ (List.mem_append_right _ (List.mem_append_right _ (List.mem_append_right _ (List.mem_append_right _ (List.mem_append_right _ (List.mem_append_right _ (List.mem_append_right _ (List.mem_append_right _ (List.mem_append_right _ (List.mem_append_right _ (List.mem_append_right _ (List.mem_append_right _ (List.mem_append_right _ (List.mem_append_right _ (List.mem_append_right _ (List.mem_append_left _ (List.mem_of_getElem? (i := 18) rfl))))))))))))))))))))))))), List.forall_mem_cons.mpr ⟨List.mem_append_left _ (List.mem_append_left _ (List.mem_append_left _ (List.mem_append_left _ (List.mem_append_left _ (List.mem_append_left _ (List.mem_append_left _ (List.mem_append_left _ (List.mem_append_left _ (List.mem_append_right _ (List.mem_append_right _ (List.mem_append_right _ (List.mem_append_right _ (List.mem_append_right _ (List.mem_append_right _ (List.mem_append_right _ (List.mem_append_right _ (List.mem_append_right _ (List.mem_append_right _ (List.mem_append_right _ (List.mem_append_right _ (List.mem_append_right _ (List.mem_append_right _ (List.mem_append_right _ (List.mem_append_left _ (List.mem_of_getElem? (i := 19) rfl))))))))))))))))))))))))), List.forall_mem_cons.mpr ⟨List.mem_append_left _ (List.mem_append_left _ (List.mem_append_left _ (List.mem_append_left _ (List.mem_append_left _ (List.mem_append_left _ (List.mem_append_left _ (List.mem_append_left _ (List.mem_append_left _ (List.mem_append_right _ (List.mem_append_right _ (List.mem_append_right _ (List.mem_append_right _ (List.mem_append_right _ (List.mem_append_right _ (List.mem_append_right _ (List.mem_append_right _ (List.mem_append_right _ (List.mem_append_right _ (List.mem_append_right _ (List.mem_append_right _ (List.mem_append_right _ (List.mem_append_right _ (List.mem_append_right _ (List.mem_append_left _ (List.mem_of_getElem? (i := 20) rfl))))))))))))))))))))))))), List.forall_mem_cons.mpr ⟨List.mem_append_left _ (List.mem_append_left _ (List.mem_append_left _ (List.mem_append_left _ (List.mem_append_left _ (List.mem_append_left _ (List.mem_append_left _ (List.mem_append_left _ (List.mem_append_left _ (List.mem_append_right _ (List.mem_append_right _ (List.mem_append_right _ (List.mem_append_right _ (List.mem_append_right _ (List.mem_append_right _ (List.mem_append_right _ (List.mem_append_right _ (List.mem_append_right _ (List.mem_append_right _ (List.mem_append_right _ (List.mem_append_right _ (List.mem_append_right _ (List.mem_append_right _ (List.mem_append_right _ (List.mem_append_left _ (List.mem_of_getElem? (i := 21) rfl))))))))))))))))))))))))), List.forall_mem_cons.mpr ⟨List.mem_append_left _ (List.mem_append_left _ (List.mem_append_left _ (List.mem_append_left _ (List.mem_append_left _ (List.mem_append_left _ (List.mem_append_left _ (List.mem_append_left _ (List.mem_append_left _ (List.mem_append_right _ (List.mem_append_right _ (List.mem_append_right _ (List.mem_append_right _ (List.mem_append_right _ (List.mem_append_right _ (List.mem_append_right _ (List.mem_append_right _ (List.mem_append_right _ (List.mem_append_right _ (List.mem_append_right _ (List.mem_append_right _ (List.mem_append_right _ (List.mem_append_right _ (List.mem_append_right _ (List.mem_append_left _ (List.mem_of_getElem? (i := 22) rfl))))))))))))))))))))))))), List.forall_mem_cons.mpr ⟨List.mem_append_left _ (List.mem_append_left _ (List.mem_append_left _ (List.mem_append_left _ (List.mem_append_left _ (List.mem_append_left _ (List.mem_append_left _ (List.mem_append_left _ (List.mem_append_left _ (List.mem_append_right _ (List.mem_append_right _ (List.mem_append_right _ (List.mem_append_right _ (List.mem_append_right _ (List.mem_append_right _ (List.mem_append_right _ (List.mem_append_right _ (List.mem_append_right _ (List.mem_append_left _ (List.mem_of_getElem? (i := 23) rfl))))))))))))))))))), List.forall_mem_cons.mpr ⟨List.mem_append_left _ (List.mem_append_left _ (List.mem_append_left _ (List.mem_append_left _ (List.mem_append_left _ (List.mem_append_left _ (List.mem_append_left _ (List.mem_append_left _ (List.mem_append_left _ (List.mem_append_right _ (List.mem_append_right _ (List.mem_append_right _ (List.mem_append_right _ (List.mem_append_right _ (List.mem_append_right _ (List.mem_append_right _ (List.mem_append_right _ (List.mem_append_right _ (List.mem_append_right _ (List.mem_append_left _ (List.mem_of_getElem? (i := 0) rfl)))))))))))))))))))), List.forall_mem_cons.mpr ⟨List.mem_append_left _ (List.mem_append_left _ (List.mem_append_left _ (List.mem_append_left _ (List.mem_append_left _ (List.mem_append_left _ (List.mem_append_left _ (List.mem_append_left _ (List.mem_append_left _ (List.mem_append_right _ (List.mem_append_right _ (List.mem_append_right _ (List.mem_append_right _ (List.mem_append_right _ (List.mem_append_right _ (List.mem_append_right _ (List.mem_append_right _ (List.mem_append_right _ (List.mem_append_right _ (List.mem_append_left _ (List.mem_of_getElem? (i := 1) rfl)))))))))))))))))))), List.forall_mem_cons.mpr ⟨List.mem_append_left _ (List.mem_append_left _ (List.mem_append_left _ (List.mem_append_left _ (List.mem_append_left _ (List.mem_append_left _ (List.mem_append_left _ (List.mem_append_left _ (List.mem_append_left _ (List.mem_append_right _ (List.mem_append_right _ (List.mem_append_right _ (List.mem_append_right _ (List.mem_append_right _ (List.mem_append_right _ (List.mem_append_right _ (List.mem_append_right _ (List.mem_append_right _ (List.mem_append_right _ (List.mem_append_left _ (List.mem_of_getElem? (i := 2) rfl)))))))))))))))))))), List.forall_mem_cons.mpr ⟨List.mem_append_left _ (List.mem_append_left _ (List.mem_append_left _ (List.mem_append_left _ (List.mem_append_left _ (List.mem_append_left _ (List.mem_append_left _ (List.mem_append_left _ (List.mem_append_left _ (List.mem_append_right _ (List.mem_append_right _ (List.mem_append_right _ (List.mem_append_right _ (List.mem_append_right _ (List.mem_append_right _ (List.mem_append_right _ (List.mem_append_right _ (List.mem_append_right _ (List.mem_append_right _ (List.mem_append_left _ (List.mem_of_getElem? (i := 3) rfl)))))))))))))))))))), List.forall_mem_cons.mpr ⟨List.mem_append_left _ (List.mem_append_left _ (List.mem_append_left _ (List.mem_append_left _ (List.mem_append_left _ (List.mem_append_left _ (List.mem_append_left _ (List.mem_append_left _ (List.mem_append_left _ (List.mem_append_right _ (List.mem_append_right _ (List.mem_append_right _ (List.mem_append_right _ (List.mem_append_right _ (List.mem_append_right _ (List.mem_append_right _ (List.mem_append_right _ (List.mem_append_right _ (List.mem_append_right _ (List.mem_append_left _ (List.mem_of_getElem? (i := 4) rfl)))))))))))))))))))), List.forall_mem_cons.mpr ⟨List.mem_append_left _ (List.mem_append_left _ (List.mem_append_left _ (List.mem_append_left _ (List.mem_append_left _ (List.mem_append_left _ (List.mem_append_left _ (List.mem_append_left _ (List.mem_append_left _ (List.mem_append_right _ (List.mem_append_right _ (List.mem_append_right _ (List.mem_append_right _ (List.mem_append_right _ (List.mem_append_right _ (List.mem_append_right _ (List.mem_append_right _ (List.mem_append_right _ (List.mem_append_right _ (List.mem_append_left _ (List.mem_of_getElem? (i := 5) rfl)))))))))))))))))))), List.forall_mem_cons.mpr ⟨List.mem_append_left _ (List.mem_append_left _ (List.mem_append_left _ (List.mem_append_left _ (List.mem_append_left _ (List.mem_append_left _ (List.mem_append_left _ (List.mem_append_left _ (List.mem_append_left _ (List.mem_append_right _ (List.mem_append_right _ (List.mem_append_right _ (List.mem_append_right _ (List.mem_append_right _ (List.mem_append_right _ (List.mem_append_right _ (List.mem_append_right _ (List.mem_append_right _ (List.mem_append_right _ (List.mem_append_left _ (List.mem_of_getElem? (i := 6) rfl)))))))))))))))))))), List.forall_mem_cons.mpr ⟨List.mem_append_left _ (List.mem_append_left _ (List.mem_append_left _ (List.mem_append_left _ (List.mem_append_left _ (List.mem_append_left _ (List.mem_append_left _ (List.mem_append_left _ (List.mem_append_left _ (List.mem_append_right _ (List.mem_append_right _ (List.mem_append_right _ (List.mem_append_right _ (List.mem_append_right _ (List.mem_append_right _ (List.mem_append_right _ (List.mem_append_right _ (List.mem_append_right _ (List.mem_append_right _ (List.mem_append_left _ (List.mem_of_getElem? (i := 7) rfl)))))))))))))))))))), List.forall_mem_cons.mpr ⟨List.mem_append_left _ (List.mem_append_left _ (List.mem_append_left _ (List.mem_append_left _ (List.mem_append_left _ (List.mem_append_left _ (List.mem_append_left _ (List.mem_append_left _ (List.mem_append_left _ (List.mem_append_right _ (List.mem_append_right _ (List.mem_append_right _ (List.mem_append_right _ (List.mem_append_right _ (List.mem_append_right _ (List.mem_append_right _ (List.mem_append_right _ (List.mem_append_right _ (List.mem_append_right _ (List.mem_append_left _ (List.mem_of_getElem? (i := 8) rfl)))))))))))))))))))), List.forall_mem_cons.mpr ⟨List.mem_append_left _ (List.mem_append_left _ (List.mem_append_left _ (List.mem_append_left _ (List.mem_append_left _ (List.mem_append_left _ (List.mem_append_left _ (List.mem_append_left _ (List.mem_append_left _ (List.mem_append_right _ (List.mem_append_right _ (List.mem_append_right _ (List.mem_append_right _ (List.mem_append_right _ (List.mem_append_right _ (List.mem_append_right _ (List.mem_append_right _ (List.mem_append_right _ (List.mem_append_right _ (List.mem_append_left _ (List.mem_of_getElem? (i := 9) rfl)))))))))))))))))))), List.forall_mem_cons.mpr ⟨List.mem_append_left _ (List.mem_append_left _ (List.mem_append_left _ (List.mem_append_left _ (List.mem_append_left _ (List.mem_append_left _ (List.mem_append_left _ (List.mem_append_left _ (List.mem_append_left _ (List.mem_append_right _ (List.mem_append_right _ (List.mem_append_right _ (List.mem_append_right _ (List.mem_append_right _ (List.mem_append_right _ (List.mem_append_right _ (List.mem_append_right _ (List.mem_append_right _ (List.mem_append_right _ (List.mem_append_left _ (List.mem_of_getElem? (i := 10) rfl)))))))))))))))))))), (fun _ h => absurd h List.not_mem_nil)⟩⟩⟩⟩⟩⟩⟩⟩⟩⟩⟩⟩⟩⟩⟩⟩⟩⟩⟩⟩⟩⟩⟩⟩
set_option maxRecDepth 20000 in
theorem ggL_law_X4_isSame_w9 : ∀ w ∈ ([Cond.instanceMethod yX1_allAround, Cond.selects RX1 yX1_allAround yX1_allAround, Cond.code yX1_allAround cX1_allAround 2 (some .int), Cond.methodLink RX4 87 yX4_turned, Cond.instanceMethod yX4_turned, Cond.selects RX4 yX4_turned yX4_turned, Cond.code yX4_turned cX4_turned 7 (some .int), Cond.methodLink RX4 88 yX2_mean, Cond.instanceMethod yX2_mean, Cond.selects RX2 yX2_mean yX2_mean, Cond.code yX2_mean cX2_mean 3 (some .double), Cond.methodLink RX2 139 yX0_neighbourPairs, Cond.instanceMethod yX0_neighbourPairs, Cond.selects RX0 yX0_neighbourPairs yX0_neighbourPairs, Cond.code yX0_neighbourPairs cX0_neighbourPairs 1 (some .int), Cond.methodLink RX2 142 yX0_sharedByNeighbours, Cond.instanceMethod yX0_sharedByNeighbours, Cond.selects RX0 yX0_sharedByNeighbours yX0_sharedByNeighbours, Cond.code yX0_sharedByNeighbours cX0_sharedByNeighbours 3 (some .int)] : List Cond), w ∈ wsL_law := List.forall_mem_cons.mpr ⟨List.mem_append_left _ (List.mem_append_left _ (List.mem_append_left _ (List.mem_append_left _ (List.mem_append_left _ (List.mem_append_left _ (List.mem_append_left _ (List.mem_append_left _ (List.mem_append_left _ (List.mem_append_right _ (List.mem_append_right _ (List.mem_append_right _ (List.mem_append_right _ (List.mem_append_right _ (List.mem_append_right _ (List.mem_append_right _ (List.mem_append_right _ (List.mem_append_right _ (List.mem_append_right _ (List.mem_append_left _ (List.mem_of_getElem? (i := 11) rfl)))))))))))))))))))), List.forall_mem_cons.mpr ⟨List.mem_append_left _ (List.mem_append_left _ (List.mem_append_left _ (List.mem_append_left _ (List.mem_append_left _ (List.mem_append_left _ (List.mem_append_left _ (List.mem_append_left _ (List.mem_append_left _ (List.mem_append_right _ (List.mem_append_right _ (List.mem_append_right _ (List.mem_append_right _ (List.mem_append_right _ (List.mem_append_right _ (List.mem_append_right _ (List.mem_append_right _ (List.mem_append_right _ (List.mem_append_right _ (List.mem_append_left _ (List.mem_of_getElem? (i := 12) rfl)))))))))))))))))))), List.forall_mem_cons.mpr ⟨List.mem_append_left _ (List.mem_append_left _ (List.mem_append_left _ (List.mem_append_left _ (List.mem_append_left _ (List.mem_append_left _ (List.mem_append_left _ (List.mem_append_left _ (List.mem_append_left _ (List.mem_append_right _ (List.mem_append_right _ (List.mem_append_right _ (List.mem_append_right _ (List.mem_append_right _ (List.mem_append_right _ (List.mem_append_right _ (List.mem_append_right _ (List.mem_append_right _ (List.mem_append_right _ (List.mem_append_left _ (List.mem_of_getElem? (i := 13) rfl)))))))))))))))))))), List.forall_mem_cons.mpr ⟨List.mem_append_left _ (List.mem_append_left _ (List.mem_append_left _ (List.mem_append_left _ (List.mem_append_left _ (List.mem_append_left _ (List.mem_append_left _ (List.mem_append_left _ (List.mem_append_left _ (List.mem_append_right _ (List.mem_append_right _ (List.mem_append_right _ (List.mem_append_right _ (List.mem_append_right _ (List.mem_append_right _ (List.mem_append_right _ (List.mem_append_right _ (List.mem_append_right _ (List.mem_append_right _ (List.mem_append_right _ (List.mem_append_right _ (List.mem_append_right _ (List.mem_append_right _ (List.mem_append_right _ (List.mem_append_left _ (List.mem_of_getElem? (i := 23) rfl))))))))))))))))))))))))), List.forall_mem_cons.mpr ⟨List.mem_append_left _ (List.mem_append_left _ (List.mem_append_left _ (List.mem_append_left _ (List.mem_append_left _ (List.mem_append_left _ (List.mem_append_left _ (List.mem_append_left _ (List.mem_append_left _ (List.mem_append_right _ (List.mem_append_right _ (List.mem_append_right _ (List.mem_append_right _ (List.mem_append_right _ (List.mem_append_right _ (List.mem_append_right _ (List.mem_append_right _ (List.mem_append_right _ (List.mem_append_right _ (List.mem_append_right _ (List.mem_append_right _ (List.mem_append_right _ (List.mem_append_right _ (List.mem_append_right _ (List.mem_append_right _ (List.mem_of_getElem? (i := 0) rfl))))))))))))))))))))))))), List.forall_mem_cons.mpr ⟨List.mem_append_left _ (List.mem_append_left _ (List.mem_append_left _ (List.mem_append_left _ (List.mem_append_left _ (List.mem_append_left _ (List.mem_append_left _ (List.mem_append_left _ (List.mem_append_left _ (List.mem_append_right _ (List.mem_append_right _ (List.mem_append_right _ (List.mem_append_right _ (List.mem_append_right _ (List.mem_append_right _ (List.mem_append_right _ (List.mem_append_right _ (List.mem_append_right _ (List.mem_append_right _ (List.mem_append_right _ (List.mem_append_right _ (List.mem_append_right _ (List.mem_append_right _ (List.mem_append_right _ (List.mem_append_right _ (List.mem_of_getElem? (i := 1) rfl))))))))))))))))))))))))), List.forall_mem_cons.mpr ⟨List.mem_append_left _ (List.mem_append_left _ (List.mem_append_left _ (List.mem_append_left _ (List.mem_append_left _ (List.mem_append_left _ (List.mem_append_left _ (List.mem_append_left _ (List.mem_append_left _ (List.mem_append_right _ (List.mem_append_right _ (List.mem_append_right _ (List.mem_append_right _ (List.mem_append_right _ (List.mem_append_right _ (List.mem_append_right _ (List.mem_append_right _ (List.mem_append_right _ (List.mem_append_right _ (List.mem_append_right _ (List.mem_append_right _ (List.mem_append_right _ (List.mem_append_right _ (List.mem_append_right _ (List.mem_append_right _ (List.mem_of_getElem? (i := 2) rfl))))))))))))))))))))))))), List.forall_mem_cons.mpr ⟨List.mem_append_left _ (List.mem_append_left _ (List.mem_append_left _ (List.mem_append_left _ (List.mem_append_left _ (List.mem_append_left _ (List.mem_append_left _ (List.mem_append_left _ (List.mem_append_left _ (List.mem_append_right _ (List.mem_append_right _ (List.mem_append_right _ (List.mem_append_right _ (List.mem_append_right _ (List.mem_append_right _ (List.mem_append_right _ (List.mem_append_right _ (List.mem_append_right _ (List.mem_append_right _ (List.mem_append_right _ (List.mem_append_right _ (List.mem_append_right _ (List.mem_append_right _ (List.mem_append_right _ (List.mem_append_right _ (List.mem_of_getElem? (i := 3) rfl))))))))))))))))))))))))), List.forall_mem_cons.mpr ⟨List.mem_append_left _ (List.mem_append_left _ (List.mem_append_left _ (List.mem_append_left _ (List.mem_append_left _ (List.mem_append_left _ (List.mem_append_left _ (List.mem_append_left _ (List.mem_append_left _ (List.mem_append_right _ (List.mem_append_right _ (List.mem_append_right _ (List.mem_append_right _ (List.mem_append_right _ (List.mem_append_right _ (List.mem_append_right _ (List.mem_append_right _ (List.mem_append_right _ (List.mem_append_right _ (List.mem_append_right _ (List.mem_append_right _ (List.mem_append_left _ (List.mem_of_getElem? (i := 20) rfl)))))))))))))))))))))), List.forall_mem_cons.mpr ⟨List.mem_append_left _ (List.mem_append_left _ (List.mem_append_left _ (List.mem_append_left _ (List.mem_append_left _ (List.mem_append_left _ (List.mem_append_left _ (List.mem_append_left _ (List.mem_append_left _ (List.mem_append_right _ (List.mem_append_right _ (List.mem_append_right _ (List.mem_append_right _ (List.mem_append_right _ (List.mem_append_right _ (List.mem_append_right _ (List.mem_append_right _ (List.mem_append_right _ (List.mem_append_right _ (List.mem_append_right _ (List.mem_append_right _ (List.mem_append_left _ (List.mem_of_getElem? (i := 21) rfl)))))))))))))))))))))), List.forall_mem_cons.mpr ⟨List.mem_append_left _ (List.mem_append_left _ (List.mem_append_left _ (List.mem_append_left _ (List.mem_append_left _ (List.mem_append_left _ (List.mem_append_left _ (List.mem_append_left _ (List.mem_append_left _ (List.mem_append_right _ (List.mem_append_right _ (List.mem_append_right _ (List.mem_append_right _ (List.mem_append_right _ (List.mem_append_right _ (List.mem_append_right _ (List.mem_append_right _ (List.mem_append_right _ (List.mem_append_right _ (List.mem_append_right _ (List.mem_append_right _ (List.mem_append_left _ (List.mem_of_getElem? (i := 22) rfl)))))))))))))))))))))), List.forall_mem_cons.mpr ⟨List.mem_append_left _ (List.mem_append_left _ (List.mem_append_left _ (List.mem_append_left _ (List.mem_append_left _ (List.mem_append_left _ (List.mem_append_left _ (List.mem_append_left _ (List.mem_append_left _ (List.mem_append_right _ (List.mem_append_right _ (List.mem_append_right _ (List.mem_append_right _ (List.mem_append_right _ (List.mem_append_right _ (List.mem_append_right _ (List.mem_append_right _ (List.mem_append_right _ (List.mem_append_right _ (List.mem_append_right _ (List.mem_append_right _ (List.mem_append_left _ (List.mem_of_getElem? (i := 23) rfl)))))))))))))))))))))), List.forall_mem_cons.mpr ⟨List.mem_append_left _ (List.mem_append_left _ (List.mem_append_left _ (List.mem_append_left _ (List.mem_append_left _ (List.mem_append_left _ (List.mem_append_left _ (List.mem_append_left _ (List.mem_append_left _ (List.mem_append_right _ (List.mem_append_right _ (List.mem_append_right _ (List.mem_append_right _ (List.mem_append_right _ (List.mem_append_right _ (List.mem_append_right _ (List.mem_append_right _ (List.mem_append_right _ (List.mem_append_right _ (List.mem_append_right _ (List.mem_append_right _ (List.mem_append_right _ (List.mem_append_left _ (List.mem_of_getElem? (i := 0) rfl))))))))))))))))))))))), List.forall_mem_cons.mpr ⟨List.mem_append_left _ (List.mem_append_left _ (List.mem_append_left _ (List.mem_append_left _ (List.mem_append_left _ (List.mem_append_left _ (List.mem_append_left _ (List.mem_append_left _ (List.mem_append_left _ (List.mem_append_right _ (List.mem_append_right _ (List.mem_append_right _ (List.mem_append_right _ (List.mem_append_right _ (List.mem_append_right _ (List.mem_append_right _ (List.mem_append_right _ (List.mem_append_right _ (List.mem_append_right _ (List.mem_append_right _ (List.mem_append_right _ (List.mem_append_right _ (List.mem_append_left _ (List.mem_of_getElem? (i := 1) rfl))))))))))))))))))))))), List.forall_mem_cons.mpr ⟨List.mem_append_left _ (List.mem_append_left _ (List.mem_append_left _ (List.mem_append_left _ (List.mem_append_left _ (List.mem_append_left _ (List.mem_append_left _ (List.mem_append_left _ (List.mem_append_left _ (List.mem_append_right _ (List.mem_append_right _ (List.mem_append_right _ (List.mem_append_right _ (List.mem_append_right _ (List.mem_append_right _ (List.mem_append_right _ (List.mem_append_right _ (List.mem_append_right _ (List.mem_append_right _ (List.mem_append_right _ (List.mem_append_right _ (List.mem_append_right _ (List.mem_append_left _ (List.mem_of_getElem? (i := 2) rfl))))))))))))))))))))))), List.forall_mem_cons.mpr ⟨List.mem_append_left _ (List.mem_append_left _ (List.mem_append_left _ (List.mem_append_left _ (List.mem_append_left _ (List.mem_append_left _ (List.mem_append_left _ (List.mem_append_left _ (List.mem_append_left _ (List.mem_append_right _ (List.mem_append_right _ (List.mem_append_right _ (List.mem_append_right _ (List.mem_append_right _ (List.mem_append_right _ (List.mem_append_right _ (List.mem_append_right _ (List.mem_append_right _ (List.mem_append_right _ (List.mem_append_right _ (List.mem_append_right _ (List.mem_append_right _ (List.mem_append_left _ (List.mem_of_getElem? (i := 3) rfl))))))))))))))))))))))), List.forall_mem_cons.mpr ⟨List.mem_append_left _ (List.mem_append_left _ (List.mem_append_left _ (List.mem_append_left _ (List.mem_append_left _ (List.mem_append_left _ (List.mem_append_left _ (List.mem_append_left _ (List.mem_append_left _ (List.mem_append_right _ (List.mem_append_right _ (List.mem_append_right _ (List.mem_append_right _ (List.mem_append_right _ (List.mem_append_right _ (List.mem_append_right _ (List.mem_append_right _ (List.mem_append_right _ (List.mem_append_right _ (List.mem_append_right _ (List.mem_append_right _ (List.mem_append_right _ (List.mem_append_left _ (List.mem_of_getElem? (i := 4) rfl))))))))))))))))))))))), List.forall_mem_cons.mpr ⟨List.mem_append_left _ (List.mem_append_left _ (List.mem_append_left _ (List.mem_append_left _ (List.mem_append_left _ (List.mem_append_left _ (List.mem_append_left _ (List.mem_append_left _ (List.mem_append_left _ (List.mem_append_right _ (List.mem_append_right _ (List.mem_append_right _ (List.mem_append_right _ (List.mem_append_right _ (List.mem_append_right _ (List.mem_append_right _ (List.mem_append_right _ (List.mem_append_right _ (List.mem_append_right _ (List.mem_append_right _ (List.mem_append_right _ (List.mem_append_right _ (List.mem_append_left _ (List.mem_of_getElem? (i := 5) rfl))))))))))))))))))))))), List.forall_mem_cons.mpr ⟨List.mem_append_left _ (List.mem_append_left _ (List.mem_append_left _ (List.mem_append_left _ (List.mem_append_left _ (List.mem_append_left _ (List.mem_append_left _ (List.mem_append_left _ (List.mem_append_left _ (List.mem_append_right _ (List.mem_append_right _ (List.mem_append_right _ (List.mem_append_right _ (List.mem_append_right _ (List.mem_append_right _ (List.mem_append_right _ (List.mem_append_right _ (List.mem_append_right _ (List.mem_append_right _ (List.mem_append_right _ (List.mem_append_right _ (List.mem_append_right _ (List.mem_append_left _ (List.mem_of_getElem? (i := 6) rfl))))))))))))))))))))))), (fun _ h => absurd h List.not_mem_nil)⟩⟩⟩⟩⟩⟩⟩⟩⟩⟩⟩⟩⟩⟩⟩⟩⟩⟩⟩
set_option maxRecDepth 20000 in
theorem ggL_law_X4_isSame : GoodIn wsL_law wsX4_isSame := goodIn_sub (List.forall_mem_cons.mpr ⟨List.mem_append_left _ (List.mem_append_left _ (List.mem_append_left _ (List.mem_append_left _ (List.mem_append_left _ (List.mem_append_left _ (List.mem_append_left _ (List.mem_append_left _ (List.mem_append_left _ (List.mem_append_right _ (List.mem_append_right _ (List.mem_append_right _ (List.mem_append_right _ (List.mem_append_right _ (List.mem_append_right _ (List.mem_append_right _ (List.mem_append_right _ (List.mem_append_right _ (List.mem_append_right _ (List.mem_append_right _ (List.mem_append_right _ (List.mem_append_right _ (List.mem_append_left _ (List.mem_of_getElem? (i := 16) rfl))))))))))))))))))))))), List.forall_mem_append.mpr ⟨List.forall_mem_append.mpr ⟨List.forall_mem_append.mpr ⟨List.forall_mem_append.mpr ⟨List.forall_mem_append.mpr ⟨List.forall_mem_append.mpr ⟨List.forall_mem_append.mpr ⟨ggL_law_X4_isSame_w1, List.forall_mem_append.mpr ⟨ggL_law_X4_isSame_w2, List.forall_mem_append.mpr ⟨ggL_law_X4_isSame_w3, List.forall_mem_append.mpr ⟨ggL_law_X4_isSame_w4, List.forall_mem_append.mpr ⟨ggL_law_X4_isSame_w5, List.forall_mem_append.mpr ⟨ggL_law_X4_isSame_w6, List.forall_mem_append.mpr ⟨ggL_law_X4_isSame_w7, List.forall_mem_append.mpr ⟨ggL_law_X4_isSame_w8, ggL_law_X4_isSame_w9⟩⟩⟩⟩⟩⟩⟩⟩, (fun w h => List.mem_append_left _ (List.mem_append_left _ (List.mem_append_left _ (List.mem_append_left _ (List.mem_append_right _ (h))))))⟩, (fun w h => List.mem_append_left _ (List.mem_append_left _ (List.mem_append_left _ (List.mem_append_left _ (List.mem_append_left _ (List.mem_append_left _ (List.mem_append_left _ (List.mem_append_right _ (h)))))))))⟩, (fun w h => List.mem_append_left _ (List.mem_append_left _ (List.mem_append_left _ (List.mem_append_left _ (List.mem_append_left _ (List.mem_append_left _ (List.mem_append_left _ (List.mem_append_left _ (List.mem_append_right _ (h))))))))))⟩, (fun w h => List.mem_append_left _ (List.mem_append_left _ (List.mem_append_left _ (List.mem_append_left _ (List.mem_append_left _ (List.mem_append_left _ (List.mem_append_right _ (h))))))))⟩, (fun w h => List.mem_append_left _ (List.mem_append_left _ (List.mem_append_left _ (List.mem_append_left _ (List.mem_append_left _ (List.mem_append_right _ (h)))))))⟩, (fun w h => List.mem_append_right _ (h))⟩⟩) (by decide +kernel)
set_option maxRecDepth 20000 in
theorem gL_law_X4_isSame : GoodIn wsL_law (wsV RL 132 RX4 yX4_isSame wsX4_isSame) := goodIn_app (goodIn_of _ (by decide +kernel)) ggL_law_X4_isSame
theorem dL_law_0 : decode cL_law 0 = .ok (.new 26, 3) := by decide +kernel
theorem dL_law_3 : decode cL_law 3 = .ok (.dup, 1) := by decide +kernel
theorem dL_law_4 : decode cL_law 4 = .ok (.invokespecial 70, 3) := by decide +kernel
theorem dL_law_7 : decode cL_law 7 = .ok (.astore_n 1, 1) := by decide +kernel
theorem dL_law_8 : decode cL_law 8 = .ok (.aload_n 1, 1) := by decide +kernel
theorem dL_law_9 : decode cL_law 9 = .ok (.aload_n 0, 1) := by decide +kernel
theorem dL_law_10 : decode cL_law 10 = .ok (.invokestatic 71, 3) := by decide +kernel
theorem dL_law_13 : decode cL_law 13 = .ok (.astore_n 2, 1) := by decide +kernel
theorem dL_law_14 : decode cL_law 14 = .ok (.aload_n 2, 1) := by decide +kernel
theorem dL_law_15 : decode cL_law 15 = .ok (.ifnonnull 5, 3) := by decide +kernel
theorem dL_law_18 : decode cL_law 18 = .ok (.iconst 0, 1) := by decide +kernel
theorem dL_law_19 : decode cL_law 19 = .ok (.ireturn, 1) := by decide +kernel
theorem dL_law_20 : decode cL_law 20 = .ok (.iconst 0, 1) := by decide +kernel
theorem dL_law_21 : decode cL_law 21 = .ok (.istore_n 3, 1) := by decide +kernel
theorem dL_law_22 : decode cL_law 22 = .ok (.iload_n 3, 1) := by decide +kernel
theorem dL_law_23 : decode cL_law 23 = .ok (.bipush 12, 2) := by decide +kernel
theorem dL_law_25 : decode cL_law 25 = .ok (.if_icmp .ge 1269, 3) := by decide +kernel
theorem dL_law_28 : decode cL_law 28 = .ok (.aload_n 0, 1) := by decide +kernel
theorem dL_law_29 : decode cL_law 29 = .ok (.iload_n 3, 1) := by decide +kernel
theorem dL_law_30 : decode cL_law 30 = .ok (.bipush 16, 2) := by decide +kernel
theorem dL_law_32 : decode cL_law 32 = .ok (.irem, 1) := by decide +kernel
theorem dL_law_33 : decode cL_law 33 = .ok (.invokestatic 62, 3) := by decide +kernel
theorem dL_law_36 : decode cL_law 36 = .ok (.iload_n 3, 1) := by decide +kernel
theorem dL_law_37 : decode cL_law 37 = .ok (.bipush 16, 2) := by decide +kernel
theorem dL_law_39 : decode cL_law 39 = .ok (.idiv, 1) := by decide +kernel
theorem dL_law_40 : decode cL_law 40 = .ok (.iconst 5, 1) := by decide +kernel
theorem dL_law_41 : decode cL_law 41 = .ok (.imul, 1) := by decide +kernel
theorem dL_law_42 : decode cL_law 42 = .ok (.ishr, 1) := by decide +kernel
theorem dL_law_43 : decode cL_law 43 = .ok (.bipush 53, 2) := by decide +kernel
theorem dL_law_45 : decode cL_law 45 = .ok (.iload_n 3, 1) := by decide +kernel
theorem dL_law_46 : decode cL_law 46 = .ok (.imul, 1) := by decide +kernel
theorem dL_law_47 : decode cL_law 47 = .ok (.iadd, 1) := by decide +kernel
theorem dL_law_48 : decode cL_law 48 = .ok (.istore 4, 2) := by decide +kernel
theorem dL_law_50 : decode cL_law 50 = .ok (.iconst 0, 1) := by decide +kernel
theorem dL_law_51 : decode cL_law 51 = .ok (.istore 5, 2) := by decide +kernel
theorem dL_law_53 : decode cL_law 53 = .ok (.iload 5, 2) := by decide +kernel
theorem dL_law_55 : decode cL_law 55 = .ok (.iconst 3, 1) := by decide +kernel
theorem dL_law_56 : decode cL_law 56 = .ok (.if_icmp .ge 32, 3) := by decide +kernel
theorem dL_law_59 : decode cL_law 59 = .ok (.aload_n 1, 1) := by decide +kernel
theorem dL_law_60 : decode cL_law 60 = .ok (.aload_n 2, 1) := by decide +kernel
theorem dL_law_61 : decode cL_law 61 = .ok (.iload 4, 2) := by decide +kernel
theorem dL_law_63 : decode cL_law 63 = .ok (.iconst 2, 1) := by decide +kernel
theorem dL_law_64 : decode cL_law 64 = .ok (.iload 5, 2) := by decide +kernel
theorem dL_law_66 : decode cL_law 66 = .ok (.imul, 1) := by decide +kernel
theorem dL_law_67 : decode cL_law 67 = .ok (.ishr, 1) := by decide +kernel
theorem dL_law_68 : decode cL_law 68 = .ok (.bipush 17, 2) := by decide +kernel
theorem dL_law_70 : decode cL_law 70 = .ok (.iload 5, 2) := by decide +kernel
theorem dL_law_72 : decode cL_law 72 = .ok (.imul, 1) := by decide +kernel
theorem dL_law_73 : decode cL_law 73 = .ok (.iadd, 1) := by decide +kernel
theorem dL_law_74 : decode cL_law 74 = .ok (.invokestatic 66, 3) := by decide +kernel
theorem dL_law_77 : decode cL_law 77 = .ok (.ifCond .ne 5, 3) := by decide +kernel
theorem dL_law_80 : decode cL_law 80 = .ok (.iconst 0, 1) := by decide +kernel
theorem dL_law_81 : decode cL_law 81 = .ok (.ireturn, 1) := by decide +kernel
theorem dL_law_82 : decode cL_law 82 = .ok (.iinc 5 1, 3) := by decide +kernel
theorem dL_law_85 : decode cL_law 85 = .ok (.goto (-32), 3) := by decide +kernel
theorem dL_law_88 : decode cL_law 88 = .ok (.aload_n 1, 1) := by decide +kernel
theorem dL_law_89 : decode cL_law 89 = .ok (.invokevirtual 75, 3) := by decide +kernel
theorem dL_law_92 : decode cL_law 92 = .ok (.lstore 5, 2) := by decide +kernel
theorem dL_law_94 : decode cL_law 94 = .ok (.iconst 0, 1) := by decide +kernel
theorem dL_law_95 : decode cL_law 95 = .ok (.istore 7, 2) := by decide +kernel
theorem dL_law_97 : decode cL_law 97 = .ok (.iconst 0, 1) := by decide +kernel
theorem dL_law_98 : decode cL_law 98 = .ok (.istore 8, 2) := by decide +kernel
theorem dL_law_100 : decode cL_law 100 = .ok (.iconst 0, 1) := by decide +kernel
theorem dL_law_101 : decode cL_law 101 = .ok (.istore 9, 2) := by decide +kernel
theorem dL_law_103 : decode cL_law 103 = .ok (.iload 9, 2) := by decide +kernel
theorem dL_law_105 : decode cL_law 105 = .ok (.iconst 2, 1) := by decide +kernel
theorem dL_law_106 : decode cL_law 106 = .ok (.if_icmp .ge 978, 3) := by decide +kernel
theorem dL_law_109 : decode cL_law 109 = .ok (.aload_n 1, 1) := by decide +kernel
theorem dL_law_110 : decode cL_law 110 = .ok (.iload 9, 2) := by decide +kernel
theorem dL_law_112 : decode cL_law 112 = .ok (.invokevirtual 79, 3) := by decide +kernel
theorem dL_law_115 : decode cL_law 115 = .ok (.istore 10, 2) := by decide +kernel
theorem dL_law_117 : decode cL_law 117 = .ok (.iload 10, 2) := by decide +kernel
theorem dL_law_119 : decode cL_law 119 = .ok (.newarray .int, 2) := by decide +kernel
theorem dL_law_121 : decode cL_law 121 = .ok (.astore 11, 2) := by decide +kernel
theorem dL_law_123 : decode cL_law 123 = .ok (.iconst 0, 1) := by decide +kernel
theorem dL_law_124 : decode cL_law 124 = .ok (.istore 12, 2) := by decide +kernel
theorem dL_law_126 : decode cL_law 126 = .ok (.iload 12, 2) := by decide +kernel
theorem dL_law_128 : decode cL_law 128 = .ok (.iload 10, 2) := by decide +kernel
theorem dL_law_130 : decode cL_law 130 = .ok (.if_icmp .ge 42, 3) := by decide +kernel
theorem dL_law_133 : decode cL_law 133 = .ok (.aload 11, 2) := by decide +kernel
theorem dL_law_135 : decode cL_law 135 = .ok (.iload 12, 2) := by decide +kernel
theorem dL_law_137 : decode cL_law 137 = .ok (.aload_n 1, 1) := by decide +kernel
theorem dL_law_138 : decode cL_law 138 = .ok (.iload 9, 2) := by decide +kernel
theorem dL_law_140 : decode cL_law 140 = .ok (.iload 12, 2) := by decide +kernel
theorem dL_law_142 : decode cL_law 142 = .ok (.invokevirtual 82, 3) := by decide +kernel
theorem dL_law_145 : decode cL_law 145 = .ok (.iastore, 1) := by decide +kernel
theorem dL_law_146 : decode cL_law 146 = .ok (.aload 11, 2) := by decide +kernel
theorem dL_law_148 : decode cL_law 148 = .ok (.iload 12, 2) := by decide +kernel
theorem dL_law_150 : decode cL_law 150 = .ok (.iaload, 1) := by decide +kernel
theorem dL_law_151 : decode cL_law 151 = .ok (.ifCond .lt 13, 3) := by decide +kernel
theorem dL_law_154 : decode cL_law 154 = .ok (.aload 11, 2) := by decide +kernel
theorem dL_law_156 : decode cL_law 156 = .ok (.iload 12, 2) := by decide +kernel
theorem dL_law_158 : decode cL_law 158 = .ok (.iaload, 1) := by decide +kernel
theorem dL_law_159 : decode cL_law 159 = .ok (.bipush 8, 2) := by decide +kernel
theorem dL_law_161 : decode cL_law 161 = .ok (.if_icmp .le 5, 3) := by decide +kernel
theorem dL_law_164 : decode cL_law 164 = .ok (.iconst 0, 1) := by decide +kernel
theorem dL_law_165 : decode cL_law 165 = .ok (.ireturn, 1) := by decide +kernel
theorem dL_law_166 : decode cL_law 166 = .ok (.iinc 12 1, 3) := by decide +kernel
theorem dL_law_169 : decode cL_law 169 = .ok (.goto (-43), 3) := by decide +kernel
theorem dL_law_172 : decode cL_law 172 = .ok (.iload 10, 2) := by decide +kernel
theorem dL_law_174 : decode cL_law 174 = .ok (.newarray .boolean, 2) := by decide +kernel
theorem dL_law_176 : decode cL_law 176 = .ok (.astore 12, 2) := by decide +kernel
theorem dL_law_178 : decode cL_law 178 = .ok (.iconst 0, 1) := by decide +kernel
theorem dL_law_179 : decode cL_law 179 = .ok (.istore 13, 2) := by decide +kernel
theorem dL_law_181 : decode cL_law 181 = .ok (.iconst 0, 1) := by decide +kernel
theorem dL_law_182 : decode cL_law 182 = .ok (.istore 14, 2) := by decide +kernel
theorem dL_law_184 : decode cL_law 184 = .ok (.iconst 0, 1) := by decide +kernel
theorem dL_law_185 : decode cL_law 185 = .ok (.istore 15, 2) := by decide +kernel
theorem dL_law_187 : decode cL_law 187 = .ok (.iload 15, 2) := by decide +kernel
theorem dL_law_189 : decode cL_law 189 = .ok (.iload 10, 2) := by decide +kernel
theorem dL_law_191 : decode cL_law 191 = .ok (.if_icmp .ge 168, 3) := by decide +kernel
theorem dL_law_194 : decode cL_law 194 = .ok (.aload_n 1, 1) := by decide +kernel
theorem dL_law_195 : decode cL_law 195 = .ok (.iload 9, 2) := by decide +kernel
theorem dL_law_197 : decode cL_law 197 = .ok (.iload 15, 2) := by decide +kernel
theorem dL_law_199 : decode cL_law 199 = .ok (.invokevirtual 85, 3) := by decide +kernel
theorem dL_law_202 : decode cL_law 202 = .ok (.istore 16, 2) := by decide +kernel
theorem dL_law_204 : decode cL_law 204 = .ok (.iload 16, 2) := by decide +kernel
theorem dL_law_206 : decode cL_law 206 = .ok (.ifCond .lt 31, 3) := by decide +kernel
theorem dL_law_209 : decode cL_law 209 = .ok (.iload 16, 2) := by decide +kernel
theorem dL_law_211 : decode cL_law 211 = .ok (.iload 10, 2) := by decide +kernel
theorem dL_law_213 : decode cL_law 213 = .ok (.if_icmp .ge 24, 3) := by decide +kernel
theorem dL_law_216 : decode cL_law 216 = .ok (.aload 12, 2) := by decide +kernel
theorem dL_law_218 : decode cL_law 218 = .ok (.iload 16, 2) := by decide +kernel
theorem dL_law_220 : decode cL_law 220 = .ok (.baload, 1) := by decide +kernel
theorem dL_law_221 : decode cL_law 221 = .ok (.ifCond .ne 16, 3) := by decide +kernel
theorem dL_law_224 : decode cL_law 224 = .ok (.aload_n 1, 1) := by decide +kernel
theorem dL_law_225 : decode cL_law 225 = .ok (.iload 9, 2) := by decide +kernel
theorem dL_law_227 : decode cL_law 227 = .ok (.iload 16, 2) := by decide +kernel
theorem dL_law_229 : decode cL_law 229 = .ok (.invokevirtual 88, 3) := by decide +kernel
theorem dL_law_232 : decode cL_law 232 = .ok (.iload 15, 2) := by decide +kernel
theorem dL_law_234 : decode cL_law 234 = .ok (.if_icmp .eq 5, 3) := by decide +kernel
theorem dL_law_237 : decode cL_law 237 = .ok (.iconst 0, 1) := by decide +kernel
theorem dL_law_238 : decode cL_law 238 = .ok (.ireturn, 1) := by decide +kernel
theorem dL_law_239 : decode cL_law 239 = .ok (.aload 12, 2) := by decide +kernel
theorem dL_law_241 : decode cL_law 241 = .ok (.iload 16, 2) := by decide +kernel
theorem dL_law_243 : decode cL_law 243 = .ok (.iconst 1, 1) := by decide +kernel
theorem dL_law_244 : decode cL_law 244 = .ok (.bastore, 1) := by decide +kernel
theorem dL_law_245 : decode cL_law 245 = .ok (.iload 15, 2) := by decide +kernel
theorem dL_law_247 : decode cL_law 247 = .ok (.ifCond .ne 6, 3) := by decide +kernel
theorem dL_law_250 : decode cL_law 250 = .ok (.goto 103, 3) := by decide +kernel
theorem dL_law_253 : decode cL_law 253 = .ok (.aload_n 1, 1) := by decide +kernel
theorem dL_law_254 : decode cL_law 254 = .ok (.iload 9, 2) := by decide +kernel
theorem dL_law_256 : decode cL_law 256 = .ok (.iload 15, 2) := by decide +kernel
theorem dL_law_258 : decode cL_law 258 = .ok (.iconst 1, 1) := by decide +kernel
theorem dL_law_259 : decode cL_law 259 = .ok (.isub, 1) := by decide +kernel
theorem dL_law_260 : decode cL_law 260 = .ok (.invokevirtual 85, 3) := by decide +kernel
theorem dL_law_263 : decode cL_law 263 = .ok (.istore 17, 2) := by decide +kernel
theorem dL_law_265 : decode cL_law 265 = .ok (.aload_n 1, 1) := by decide +kernel
theorem dL_law_266 : decode cL_law 266 = .ok (.iload 9, 2) := by decide +kernel
theorem dL_law_268 : decode cL_law 268 = .ok (.iload 17, 2) := by decide +kernel
theorem dL_law_270 : decode cL_law 270 = .ok (.iload 16, 2) := by decide +kernel
theorem dL_law_272 : decode cL_law 272 = .ok (.invokevirtual 91, 3) := by decide +kernel
theorem dL_law_275 : decode cL_law 275 = .ok (.istore 18, 2) := by decide +kernel
theorem dL_law_277 : decode cL_law 277 = .ok (.iload 18, 2) := by decide +kernel
theorem dL_law_279 : decode cL_law 279 = .ok (.aload 11, 2) := by decide +kernel
theorem dL_law_281 : decode cL_law 281 = .ok (.iload 17, 2) := by decide +kernel
theorem dL_law_283 : decode cL_law 283 = .ok (.aload 11, 2) := by decide +kernel
theorem dL_law_285 : decode cL_law 285 = .ok (.iload 16, 2) := by decide +kernel
theorem dL_law_287 : decode cL_law 287 = .ok (.invokestatic 95, 3) := by decide +kernel
theorem dL_law_290 : decode cL_law 290 = .ok (.if_icmp .ne 42, 3) := by decide +kernel
theorem dL_law_293 : decode cL_law 293 = .ok (.iload 17, 2) := by decide +kernel
theorem dL_law_295 : decode cL_law 295 = .ok (.iload 18, 2) := by decide +kernel
theorem dL_law_297 : decode cL_law 297 = .ok (.iadd, 1) := by decide +kernel
theorem dL_law_298 : decode cL_law 298 = .ok (.iload 10, 2) := by decide +kernel
theorem dL_law_300 : decode cL_law 300 = .ok (.if_icmp .ge 34, 3) := by decide +kernel
theorem dL_law_303 : decode cL_law 303 = .ok (.iload 16, 2) := by decide +kernel
theorem dL_law_305 : decode cL_law 305 = .ok (.iload 18, 2) := by decide +kernel
theorem dL_law_307 : decode cL_law 307 = .ok (.iadd, 1) := by decide +kernel
theorem dL_law_308 : decode cL_law 308 = .ok (.iload 10, 2) := by decide +kernel
theorem dL_law_310 : decode cL_law 310 = .ok (.if_icmp .eq 22, 3) := by decide +kernel
theorem dL_law_313 : decode cL_law 313 = .ok (.aload 11, 2) := by decide +kernel
theorem dL_law_315 : decode cL_law 315 = .ok (.iload 17, 2) := by decide +kernel
theorem dL_law_317 : decode cL_law 317 = .ok (.iload 18, 2) := by decide +kernel
theorem dL_law_319 : decode cL_law 319 = .ok (.iadd, 1) := by decide +kernel
theorem dL_law_320 : decode cL_law 320 = .ok (.iaload, 1) := by decide +kernel
theorem dL_law_321 : decode cL_law 321 = .ok (.aload 11, 2) := by decide +kernel
theorem dL_law_323 : decode cL_law 323 = .ok (.iload 16, 2) := by decide +kernel
theorem dL_law_325 : decode cL_law 325 = .ok (.iload 18, 2) := by decide +kernel
theorem dL_law_327 : decode cL_law 327 = .ok (.iadd, 1) := by decide +kernel
theorem dL_law_328 : decode cL_law 328 = .ok (.iaload, 1) := by decide +kernel
theorem dL_law_329 : decode cL_law 329 = .ok (.if_icmp .lt 5, 3) := by decide +kernel
theorem dL_law_332 : decode cL_law 332 = .ok (.iconst 0, 1) := by decide +kernel
theorem dL_law_333 : decode cL_law 333 = .ok (.ireturn, 1) := by decide +kernel
theorem dL_law_334 : decode cL_law 334 = .ok (.iload 13, 2) := by decide +kernel
theorem dL_law_336 : decode cL_law 336 = .ok (.iload 18, 2) := by decide +kernel
theorem dL_law_338 : decode cL_law 338 = .ok (.invokestatic 98, 3) := by decide +kernel
theorem dL_law_341 : decode cL_law 341 = .ok (.istore 13, 2) := by decide +kernel
theorem dL_law_343 : decode cL_law 343 = .ok (.iload 14, 2) := by decide +kernel
theorem dL_law_345 : decode cL_law 345 = .ok (.iload 18, 2) := by decide +kernel
theorem dL_law_347 : decode cL_law 347 = .ok (.iadd, 1) := by decide +kernel
theorem dL_law_348 : decode cL_law 348 = .ok (.istore 14, 2) := by decide +kernel
theorem dL_law_350 : decode cL_law 350 = .ok (.iinc 8 1, 3) := by decide +kernel
theorem dL_law_353 : decode cL_law 353 = .ok (.iinc 15 1, 3) := by decide +kernel
theorem dL_law_356 : decode cL_law 356 = .ok (.goto (-169), 3) := by decide +kernel
theorem dL_law_359 : decode cL_law 359 = .ok (.iload 7, 2) := by decide +kernel
theorem dL_law_361 : decode cL_law 361 = .ok (.iload 14, 2) := by decide +kernel
theorem dL_law_363 : decode cL_law 363 = .ok (.iadd, 1) := by decide +kernel
theorem dL_law_364 : decode cL_law 364 = .ok (.istore 7, 2) := by decide +kernel
theorem dL_law_366 : decode cL_law 366 = .ok (.aload_n 1, 1) := by decide +kernel
theorem dL_law_367 : decode cL_law 367 = .ok (.iconst 3, 1) := by decide +kernel
theorem dL_law_368 : decode cL_law 368 = .ok (.iload 9, 2) := by decide +kernel
theorem dL_law_370 : decode cL_law 370 = .ok (.iadd, 1) := by decide +kernel
theorem dL_law_371 : decode cL_law 371 = .ok (.invokevirtual 79, 3) := by decide +kernel
theorem dL_law_374 : decode cL_law 374 = .ok (.istore 15, 2) := by decide +kernel
theorem dL_law_376 : decode cL_law 376 = .ok (.iload 15, 2) := by decide +kernel
theorem dL_law_378 : decode cL_law 378 = .ok (.iload 10, 2) := by decide +kernel
theorem dL_law_380 : decode cL_law 380 = .ok (.iload 10, 2) := by decide +kernel
theorem dL_law_382 : decode cL_law 382 = .ok (.iconst 1, 1) := by decide +kernel
theorem dL_law_383 : decode cL_law 383 = .ok (.iadd, 1) := by decide +kernel
theorem dL_law_384 : decode cL_law 384 = .ok (.imul, 1) := by decide +kernel
theorem dL_law_385 : decode cL_law 385 = .ok (.iconst 2, 1) := by decide +kernel
theorem dL_law_386 : decode cL_law 386 = .ok (.idiv, 1) := by decide +kernel
theorem dL_law_387 : decode cL_law 387 = .ok (.iload 14, 2) := by decide +kernel
theorem dL_law_389 : decode cL_law 389 = .ok (.isub, 1) := by decide +kernel
theorem dL_law_390 : decode cL_law 390 = .ok (.if_icmp .ne 15, 3) := by decide +kernel
theorem dL_law_393 : decode cL_law 393 = .ok (.aload_n 1, 1) := by decide +kernel
theorem dL_law_394 : decode cL_law 394 = .ok (.iload 9, 2) := by decide +kernel
theorem dL_law_396 : decode cL_law 396 = .ok (.iconst 0, 1) := by decide +kernel
theorem dL_law_397 : decode cL_law 397 = .ok (.invokevirtual 101, 3) := by decide +kernel
theorem dL_law_400 : decode cL_law 400 = .ok (.iload 13, 2) := by decide +kernel
theorem dL_law_402 : decode cL_law 402 = .ok (.if_icmp .eq 5, 3) := by decide +kernel
theorem dL_law_405 : decode cL_law 405 = .ok (.iconst 0, 1) := by decide +kernel
theorem dL_law_406 : decode cL_law 406 = .ok (.ireturn, 1) := by decide +kernel
theorem dL_law_407 : decode cL_law 407 = .ok (.aload_n 1, 1) := by decide +kernel
theorem dL_law_408 : decode cL_law 408 = .ok (.iload 9, 2) := by decide +kernel
theorem dL_law_410 : decode cL_law 410 = .ok (.iconst 1, 1) := by decide +kernel
theorem dL_law_411 : decode cL_law 411 = .ok (.invokevirtual 101, 3) := by decide +kernel
theorem dL_law_414 : decode cL_law 414 = .ok (.istore 16, 2) := by decide +kernel
theorem dL_law_416 : decode cL_law 416 = .ok (.iload 13, 2) := by decide +kernel
theorem dL_law_418 : decode cL_law 418 = .ok (.ifCond .ne 22, 3) := by decide +kernel
theorem dL_law_421 : decode cL_law 421 = .ok (.iload 16, 2) := by decide +kernel
theorem dL_law_423 : decode cL_law 423 = .ok (.iconst (-1), 1) := by decide +kernel
theorem dL_law_424 : decode cL_law 424 = .ok (.if_icmp .ne 32, 3) := by decide +kernel
theorem dL_law_427 : decode cL_law 427 = .ok (.aload_n 1, 1) := by decide +kernel
theorem dL_law_428 : decode cL_law 428 = .ok (.iload 9, 2) := by decide +kernel
theorem dL_law_430 : decode cL_law 430 = .ok (.iconst 2, 1) := by decide +kernel
theorem dL_law_431 : decode cL_law 431 = .ok (.invokevirtual 101, 3) := by decide +kernel
theorem dL_law_434 : decode cL_law 434 = .ok (.ifCond .eq 24, 3) := by decide +kernel
theorem dL_law_437 : decode cL_law 437 = .ok (.goto 19, 3) := by decide +kernel
theorem dL_law_440 : decode cL_law 440 = .ok (.iload 16, 2) := by decide +kernel
theorem dL_law_442 : decode cL_law 442 = .ok (.ifCond .lt 14, 3) := by decide +kernel
theorem dL_law_445 : decode cL_law 445 = .ok (.aload_n 1, 1) := by decide +kernel
theorem dL_law_446 : decode cL_law 446 = .ok (.iload 9, 2) := by decide +kernel
theorem dL_law_448 : decode cL_law 448 = .ok (.iconst 2, 1) := by decide +kernel
theorem dL_law_449 : decode cL_law 449 = .ok (.invokevirtual 101, 3) := by decide +kernel
theorem dL_law_452 : decode cL_law 452 = .ok (.iconst 2, 1) := by decide +kernel
theorem dL_law_453 : decode cL_law 453 = .ok (.if_icmp .ge 5, 3) := by decide +kernel
theorem dL_law_456 : decode cL_law 456 = .ok (.iconst 0, 1) := by decide +kernel
theorem dL_law_457 : decode cL_law 457 = .ok (.ireturn, 1) := by decide +kernel
theorem dL_law_458 : decode cL_law 458 = .ok (.iconst 0, 1) := by decide +kernel
theorem dL_law_459 : decode cL_law 459 = .ok (.istore 17, 2) := by decide +kernel
theorem dL_law_461 : decode cL_law 461 = .ok (.iconst 0, 1) := by decide +kernel
theorem dL_law_462 : decode cL_law 462 = .ok (.istore 18, 2) := by decide +kernel
theorem dL_law_464 : decode cL_law 464 = .ok (.iload 18, 2) := by decide +kernel
theorem dL_law_466 : decode cL_law 466 = .ok (.iload 10, 2) := by decide +kernel
theorem dL_law_468 : decode cL_law 468 = .ok (.if_icmp .ge 45, 3) := by decide +kernel
theorem dL_law_471 : decode cL_law 471 = .ok (.iload 13, 2) := by decide +kernel
theorem dL_law_473 : decode cL_law 473 = .ok (.ifCond .le 40, 3) := by decide +kernel
theorem dL_law_476 : decode cL_law 476 = .ok (.aload 11, 2) := by decide +kernel
theorem dL_law_478 : decode cL_law 478 = .ok (.iload 18, 2) := by decide +kernel
theorem dL_law_480 : decode cL_law 480 = .ok (.aload 11, 2) := by decide +kernel
theorem dL_law_482 : decode cL_law 482 = .ok (.iload 16, 2) := by decide +kernel
theorem dL_law_484 : decode cL_law 484 = .ok (.invokestatic 95, 3) := by decide +kernel
theorem dL_law_487 : decode cL_law 487 = .ok (.iload 13, 2) := by decide +kernel
theorem dL_law_489 : decode cL_law 489 = .ok (.if_icmp .ge 6, 3) := by decide +kernel
theorem dL_law_492 : decode cL_law 492 = .ok (.goto 15, 3) := by decide +kernel
theorem dL_law_495 : decode cL_law 495 = .ok (.iload 18, 2) := by decide +kernel
theorem dL_law_497 : decode cL_law 497 = .ok (.iload 16, 2) := by decide +kernel
theorem dL_law_499 : decode cL_law 499 = .ok (.if_icmp .ge 5, 3) := by decide +kernel
theorem dL_law_502 : decode cL_law 502 = .ok (.iconst 0, 1) := by decide +kernel
theorem dL_law_503 : decode cL_law 503 = .ok (.ireturn, 1) := by decide +kernel
theorem dL_law_504 : decode cL_law 504 = .ok (.iinc 17 1, 3) := by decide +kernel
theorem dL_law_507 : decode cL_law 507 = .ok (.iinc 18 1, 3) := by decide +kernel
theorem dL_law_510 : decode cL_law 510 = .ok (.goto (-46), 3) := by decide +kernel
theorem dL_law_513 : decode cL_law 513 = .ok (.iload 13, 2) := by decide +kernel
theorem dL_law_515 : decode cL_law 515 = .ok (.ifCond .le 17, 3) := by decide +kernel
theorem dL_law_518 : decode cL_law 518 = .ok (.iload 17, 2) := by decide +kernel
theorem dL_law_520 : decode cL_law 520 = .ok (.aload_n 1, 1) := by decide +kernel
theorem dL_law_521 : decode cL_law 521 = .ok (.iload 9, 2) := by decide +kernel
theorem dL_law_523 : decode cL_law 523 = .ok (.iconst 2, 1) := by decide +kernel
theorem dL_law_524 : decode cL_law 524 = .ok (.invokevirtual 101, 3) := by decide +kernel
theorem dL_law_527 : decode cL_law 527 = .ok (.if_icmp .eq 5, 3) := by decide +kernel
theorem dL_law_530 : decode cL_law 530 = .ok (.iconst 0, 1) := by decide +kernel
theorem dL_law_531 : decode cL_law 531 = .ok (.ireturn, 1) := by decide +kernel
theorem dL_law_532 : decode cL_law 532 = .ok (.iload 15, 2) := by decide +kernel
theorem dL_law_534 : decode cL_law 534 = .ok (.iconst 1, 1) := by decide +kernel
theorem dL_law_535 : decode cL_law 535 = .ok (.if_icmp .le 177, 3) := by decide +kernel
theorem dL_law_538 : decode cL_law 538 = .ok (.iload 4, 2) := by decide +kernel
theorem dL_law_540 : decode cL_law 540 = .ok (.iconst 4, 1) := by decide +kernel
theorem dL_law_541 : decode cL_law 541 = .ok (.ishr, 1) := by decide +kernel
theorem dL_law_542 : decode cL_law 542 = .ok (.iload 15, 2) := by decide +kernel
theorem dL_law_544 : decode cL_law 544 = .ok (.iconst 1, 1) := by decide +kernel
theorem dL_law_545 : decode cL_law 545 = .ok (.isub, 1) := by decide +kernel
theorem dL_law_546 : decode cL_law 546 = .ok (.invokestatic 9, 3) := by decide +kernel
theorem dL_law_549 : decode cL_law 549 = .ok (.istore 18, 2) := by decide +kernel
theorem dL_law_551 : decode cL_law 551 = .ok (.aload_n 1, 1) := by decide +kernel
theorem dL_law_552 : decode cL_law 552 = .ok (.iload 9, 2) := by decide +kernel
theorem dL_law_554 : decode cL_law 554 = .ok (.iload 18, 2) := by decide +kernel
theorem dL_law_556 : decode cL_law 556 = .ok (.invokevirtual 104, 3) := by decide +kernel
theorem dL_law_559 : decode cL_law 559 = .ok (.istore 19, 2) := by decide +kernel
theorem dL_law_561 : decode cL_law 561 = .ok (.aload_n 1, 1) := by decide +kernel
theorem dL_law_562 : decode cL_law 562 = .ok (.iload 9, 2) := by decide +kernel
theorem dL_law_564 : decode cL_law 564 = .ok (.iload 18, 2) := by decide +kernel
theorem dL_law_566 : decode cL_law 566 = .ok (.iconst 1, 1) := by decide +kernel
theorem dL_law_567 : decode cL_law 567 = .ok (.iadd, 1) := by decide +kernel
theorem dL_law_568 : decode cL_law 568 = .ok (.invokevirtual 104, 3) := by decide +kernel
theorem dL_law_571 : decode cL_law 571 = .ok (.istore 20, 2) := by decide +kernel
theorem dL_law_573 : decode cL_law 573 = .ok (.aload 11, 2) := by decide +kernel
theorem dL_law_575 : decode cL_law 575 = .ok (.iload 19, 2) := by decide +kernel
theorem dL_law_577 : decode cL_law 577 = .ok (.bipush 64, 2) := by decide +kernel
theorem dL_law_579 : decode cL_law 579 = .ok (.idiv, 1) := by decide +kernel
theorem dL_law_580 : decode cL_law 580 = .ok (.aload 11, 2) := by decide +kernel
theorem dL_law_582 : decode cL_law 582 = .ok (.iload 20, 2) := by decide +kernel
theorem dL_law_584 : decode cL_law 584 = .ok (.bipush 64, 2) := by decide +kernel
theorem dL_law_586 : decode cL_law 586 = .ok (.idiv, 1) := by decide +kernel
theorem dL_law_587 : decode cL_law 587 = .ok (.invokestatic 95, 3) := by decide +kernel
theorem dL_law_590 : decode cL_law 590 = .ok (.istore 21, 2) := by decide +kernel
theorem dL_law_592 : decode cL_law 592 = .ok (.iload 21, 2) := by decide +kernel
theorem dL_law_594 : decode cL_law 594 = .ok (.iload 19, 2) := by decide +kernel
theorem dL_law_596 : decode cL_law 596 = .ok (.bipush 64, 2) := by decide +kernel
theorem dL_law_598 : decode cL_law 598 = .ok (.irem, 1) := by decide +kernel
theorem dL_law_599 : decode cL_law 599 = .ok (.if_icmp .lt 7, 3) := by decide +kernel
theorem dL_law_602 : decode cL_law 602 = .ok (.iconst 1, 1) := by decide +kernel
theorem dL_law_603 : decode cL_law 603 = .ok (.goto 4, 3) := by decide +kernel
theorem dL_law_606 : decode cL_law 606 = .ok (.iconst 0, 1) := by decide +kernel
theorem dL_law_607 : decode cL_law 607 = .ok (.istore 22, 2) := by decide +kernel
theorem dL_law_609 : decode cL_law 609 = .ok (.iload 19, 2) := by decide +kernel
theorem dL_law_611 : decode cL_law 611 = .ok (.bipush 64, 2) := by decide +kernel
theorem dL_law_613 : decode cL_law 613 = .ok (.irem, 1) := by decide +kernel
theorem dL_law_614 : decode cL_law 614 = .ok (.iconst 1, 1) := by decide +kernel
theorem dL_law_615 : decode cL_law 615 = .ok (.if_icmp .lt 95, 3) := by decide +kernel
theorem dL_law_618 : decode cL_law 618 = .ok (.iload 19, 2) := by decide +kernel
theorem dL_law_620 : decode cL_law 620 = .ok (.bipush 64, 2) := by decide +kernel
theorem dL_law_622 : decode cL_law 622 = .ok (.idiv, 1) := by decide +kernel
theorem dL_law_623 : decode cL_law 623 = .ok (.iload 19, 2) := by decide +kernel
theorem dL_law_625 : decode cL_law 625 = .ok (.bipush 64, 2) := by decide +kernel
theorem dL_law_627 : decode cL_law 627 = .ok (.irem, 1) := by decide +kernel
theorem dL_law_628 : decode cL_law 628 = .ok (.iadd, 1) := by decide +kernel
theorem dL_law_629 : decode cL_law 629 = .ok (.iload 10, 2) := by decide +kernel
theorem dL_law_631 : decode cL_law 631 = .ok (.if_icmp .gt 79, 3) := by decide +kernel
theorem dL_law_634 : decode cL_law 634 = .ok (.iload 20, 2) := by decide +kernel
theorem dL_law_636 : decode cL_law 636 = .ok (.bipush 64, 2) := by decide +kernel
theorem dL_law_638 : decode cL_law 638 = .ok (.idiv, 1) := by decide +kernel
theorem dL_law_639 : decode cL_law 639 = .ok (.iload 20, 2) := by decide +kernel
theorem dL_law_641 : decode cL_law 641 = .ok (.bipush 64, 2) := by decide +kernel
theorem dL_law_643 : decode cL_law 643 = .ok (.irem, 1) := by decide +kernel
theorem dL_law_644 : decode cL_law 644 = .ok (.iadd, 1) := by decide +kernel
theorem dL_law_645 : decode cL_law 645 = .ok (.iload 10, 2) := by decide +kernel
theorem dL_law_647 : decode cL_law 647 = .ok (.if_icmp .gt 63, 3) := by decide +kernel
theorem dL_law_650 : decode cL_law 650 = .ok (.iload 22, 2) := by decide +kernel
theorem dL_law_652 : decode cL_law 652 = .ok (.ifCond .eq 18, 3) := by decide +kernel
theorem dL_law_655 : decode cL_law 655 = .ok (.iload 20, 2) := by decide +kernel
theorem dL_law_657 : decode cL_law 657 = .ok (.bipush 64, 2) := by decide +kernel
theorem dL_law_659 : decode cL_law 659 = .ok (.irem, 1) := by decide +kernel
theorem dL_law_660 : decode cL_law 660 = .ok (.iload 19, 2) := by decide +kernel
theorem dL_law_662 : decode cL_law 662 = .ok (.bipush 64, 2) := by decide +kernel
theorem dL_law_664 : decode cL_law 664 = .ok (.irem, 1) := by decide +kernel
theorem dL_law_665 : decode cL_law 665 = .ok (.iconst 1, 1) := by decide +kernel
theorem dL_law_666 : decode cL_law 666 = .ok (.iadd, 1) := by decide +kernel
theorem dL_law_667 : decode cL_law 667 = .ok (.if_icmp .ne 43, 3) := by decide +kernel
theorem dL_law_670 : decode cL_law 670 = .ok (.iload 22, 2) := by decide +kernel
theorem dL_law_672 : decode cL_law 672 = .ok (.ifCond .ne 40, 3) := by decide +kernel
theorem dL_law_675 : decode cL_law 675 = .ok (.iload 21, 2) := by decide +kernel
theorem dL_law_677 : decode cL_law 677 = .ok (.iload 20, 2) := by decide +kernel
theorem dL_law_679 : decode cL_law 679 = .ok (.bipush 64, 2) := by decide +kernel
theorem dL_law_681 : decode cL_law 681 = .ok (.irem, 1) := by decide +kernel
theorem dL_law_682 : decode cL_law 682 = .ok (.if_icmp .ge 28, 3) := by decide +kernel
theorem dL_law_685 : decode cL_law 685 = .ok (.aload 11, 2) := by decide +kernel
theorem dL_law_687 : decode cL_law 687 = .ok (.iload 19, 2) := by decide +kernel
theorem dL_law_689 : decode cL_law 689 = .ok (.bipush 64, 2) := by decide +kernel
theorem dL_law_691 : decode cL_law 691 = .ok (.idiv, 1) := by decide +kernel
theorem dL_law_692 : decode cL_law 692 = .ok (.iload 21, 2) := by decide +kernel
theorem dL_law_694 : decode cL_law 694 = .ok (.iadd, 1) := by decide +kernel
theorem dL_law_695 : decode cL_law 695 = .ok (.iaload, 1) := by decide +kernel
theorem dL_law_696 : decode cL_law 696 = .ok (.aload 11, 2) := by decide +kernel
theorem dL_law_698 : decode cL_law 698 = .ok (.iload 20, 2) := by decide +kernel
theorem dL_law_700 : decode cL_law 700 = .ok (.bipush 64, 2) := by decide +kernel
theorem dL_law_702 : decode cL_law 702 = .ok (.idiv, 1) := by decide +kernel
theorem dL_law_703 : decode cL_law 703 = .ok (.iload 21, 2) := by decide +kernel
theorem dL_law_705 : decode cL_law 705 = .ok (.iadd, 1) := by decide +kernel
theorem dL_law_706 : decode cL_law 706 = .ok (.iaload, 1) := by decide +kernel
theorem dL_law_707 : decode cL_law 707 = .ok (.if_icmp .lt 5, 3) := by decide +kernel
theorem dL_law_710 : decode cL_law 710 = .ok (.iconst 0, 1) := by decide +kernel
theorem dL_law_711 : decode cL_law 711 = .ok (.ireturn, 1) := by decide +kernel
theorem dL_law_712 : decode cL_law 712 = .ok (.aload_n 1, 1) := by decide +kernel
theorem dL_law_713 : decode cL_law 713 = .ok (.iload 9, 2) := by decide +kernel
theorem dL_law_715 : decode cL_law 715 = .ok (.invokevirtual 107, 3) := by decide +kernel
theorem dL_law_718 : decode cL_law 718 = .ok (.istore 18, 2) := by decide +kernel
theorem dL_law_720 : decode cL_law 720 = .ok (.iload 10, 2) := by decide +kernel
theorem dL_law_722 : decode cL_law 722 = .ok (.ifCond .ne 11, 3) := by decide +kernel
theorem dL_law_725 : decode cL_law 725 = .ok (.iload 18, 2) := by decide +kernel
theorem dL_law_727 : decode cL_law 727 = .ok (.ifCond .eq 21, 3) := by decide +kernel
theorem dL_law_730 : decode cL_law 730 = .ok (.goto 16, 3) := by decide +kernel
theorem dL_law_733 : decode cL_law 733 = .ok (.iload 18, 2) := by decide +kernel
theorem dL_law_735 : decode cL_law 735 = .ok (.iconst 1, 1) := by decide +kernel
theorem dL_law_736 : decode cL_law 736 = .ok (.if_icmp .lt 10, 3) := by decide +kernel
theorem dL_law_739 : decode cL_law 739 = .ok (.iload 18, 2) := by decide +kernel
theorem dL_law_741 : decode cL_law 741 = .ok (.iload 10, 2) := by decide +kernel
theorem dL_law_743 : decode cL_law 743 = .ok (.if_icmp .le 5, 3) := by decide +kernel
theorem dL_law_746 : decode cL_law 746 = .ok (.iconst 0, 1) := by decide +kernel
theorem dL_law_747 : decode cL_law 747 = .ok (.ireturn, 1) := by decide +kernel
theorem dL_law_748 : decode cL_law 748 = .ok (.iconst 1, 1) := by decide +kernel
theorem dL_law_749 : decode cL_law 749 = .ok (.istore 19, 2) := by decide +kernel
theorem dL_law_751 : decode cL_law 751 = .ok (.iload 19, 2) := by decide +kernel
theorem dL_law_753 : decode cL_law 753 = .ok (.iload 18, 2) := by decide +kernel
theorem dL_law_755 : decode cL_law 755 = .ok (.if_icmp .gt 74, 3) := by decide +kernel
theorem dL_law_758 : decode cL_law 758 = .ok (.iconst 1, 1) := by decide +kernel
theorem dL_law_759 : decode cL_law 759 = .ok (.istore 20, 2) := by decide +kernel
theorem dL_law_761 : decode cL_law 761 = .ok (.iload 19, 2) := by decide +kernel
theorem dL_law_763 : decode cL_law 763 = .ok (.istore 21, 2) := by decide +kernel
theorem dL_law_765 : decode cL_law 765 = .ok (.iload 21, 2) := by decide +kernel
theorem dL_law_767 : decode cL_law 767 = .ok (.iload 10, 2) := by decide +kernel
theorem dL_law_769 : decode cL_law 769 = .ok (.if_icmp .ge 35, 3) := by decide +kernel
theorem dL_law_772 : decode cL_law 772 = .ok (.iload 20, 2) := by decide +kernel
theorem dL_law_774 : decode cL_law 774 = .ok (.aload 11, 2) := by decide +kernel
theorem dL_law_776 : decode cL_law 776 = .ok (.iload 21, 2) := by decide +kernel
theorem dL_law_778 : decode cL_law 778 = .ok (.iaload, 1) := by decide +kernel
theorem dL_law_779 : decode cL_law 779 = .ok (.aload 11, 2) := by decide +kernel
theorem dL_law_781 : decode cL_law 781 = .ok (.iload 21, 2) := by decide +kernel
theorem dL_law_783 : decode cL_law 783 = .ok (.iload 19, 2) := by decide +kernel
theorem dL_law_785 : decode cL_law 785 = .ok (.isub, 1) := by decide +kernel
theorem dL_law_786 : decode cL_law 786 = .ok (.iaload, 1) := by decide +kernel
theorem dL_law_787 : decode cL_law 787 = .ok (.if_icmp .ne 7, 3) := by decide +kernel
theorem dL_law_790 : decode cL_law 790 = .ok (.iconst 1, 1) := by decide +kernel
theorem dL_law_791 : decode cL_law 791 = .ok (.goto 4, 3) := by decide +kernel
theorem dL_law_794 : decode cL_law 794 = .ok (.iconst 0, 1) := by decide +kernel
theorem dL_law_795 : decode cL_law 795 = .ok (.iand, 1) := by decide +kernel
theorem dL_law_796 : decode cL_law 796 = .ok (.istore 20, 2) := by decide +kernel
theorem dL_law_798 : decode cL_law 798 = .ok (.iinc 21 1, 3) := by decide +kernel
theorem dL_law_801 : decode cL_law 801 = .ok (.goto (-36), 3) := by decide +kernel
theorem dL_law_804 : decode cL_law 804 = .ok (.iload 20, 2) := by decide +kernel
theorem dL_law_806 : decode cL_law 806 = .ok (.iload 19, 2) := by decide +kernel
theorem dL_law_808 : decode cL_law 808 = .ok (.iload 18, 2) := by decide +kernel
theorem dL_law_810 : decode cL_law 810 = .ok (.if_icmp .ne 7, 3) := by decide +kernel
theorem dL_law_813 : decode cL_law 813 = .ok (.iconst 1, 1) := by decide +kernel
theorem dL_law_814 : decode cL_law 814 = .ok (.goto 4, 3) := by decide +kernel
theorem dL_law_817 : decode cL_law 817 = .ok (.iconst 0, 1) := by decide +kernel
theorem dL_law_818 : decode cL_law 818 = .ok (.if_icmp .eq 5, 3) := by decide +kernel
theorem dL_law_821 : decode cL_law 821 = .ok (.iconst 0, 1) := by decide +kernel
theorem dL_law_822 : decode cL_law 822 = .ok (.ireturn, 1) := by decide +kernel
theorem dL_law_823 : decode cL_law 823 = .ok (.iinc 19 1, 3) := by decide +kernel
theorem dL_law_826 : decode cL_law 826 = .ok (.goto (-75), 3) := by decide +kernel
theorem dL_law_829 : decode cL_law 829 = .ok (.aload_n 1, 1) := by decide +kernel
theorem dL_law_830 : decode cL_law 830 = .ok (.iload 9, 2) := by decide +kernel
theorem dL_law_832 : decode cL_law 832 = .ok (.invokevirtual 110, 3) := by decide +kernel
theorem dL_law_835 : decode cL_law 835 = .ok (.istore 19, 2) := by decide +kernel
theorem dL_law_837 : decode cL_law 837 = .ok (.iload 10, 2) := by decide +kernel
theorem dL_law_839 : decode cL_law 839 = .ok (.ifCond .ne 12, 3) := by decide +kernel
theorem dL_law_842 : decode cL_law 842 = .ok (.iload 19, 2) := by decide +kernel
theorem dL_law_844 : decode cL_law 844 = .ok (.iconst (-1), 1) := by decide +kernel
theorem dL_law_845 : decode cL_law 845 = .ok (.if_icmp .eq 20, 3) := by decide +kernel
theorem dL_law_848 : decode cL_law 848 = .ok (.goto 15, 3) := by decide +kernel
theorem dL_law_851 : decode cL_law 851 = .ok (.iload 19, 2) := by decide +kernel
theorem dL_law_853 : decode cL_law 853 = .ok (.ifCond .lt 10, 3) := by decide +kernel
theorem dL_law_856 : decode cL_law 856 = .ok (.iload 19, 2) := by decide +kernel
theorem dL_law_858 : decode cL_law 858 = .ok (.iload 10, 2) := by decide +kernel
theorem dL_law_860 : decode cL_law 860 = .ok (.if_icmp .lt 5, 3) := by decide +kernel
theorem dL_law_863 : decode cL_law 863 = .ok (.iconst 0, 1) := by decide +kernel
theorem dL_law_864 : decode cL_law 864 = .ok (.ireturn, 1) := by decide +kernel
theorem dL_law_865 : decode cL_law 865 = .ok (.iconst 0, 1) := by decide +kernel
theorem dL_law_866 : decode cL_law 866 = .ok (.istore 20, 2) := by decide +kernel
theorem dL_law_868 : decode cL_law 868 = .ok (.iload 20, 2) := by decide +kernel
theorem dL_law_870 : decode cL_law 870 = .ok (.iload 10, 2) := by decide +kernel
theorem dL_law_872 : decode cL_law 872 = .ok (.if_icmp .ge 94, 3) := by decide +kernel
theorem dL_law_875 : decode cL_law 875 = .ok (.iconst 0, 1) := by decide +kernel
theorem dL_law_876 : decode cL_law 876 = .ok (.istore 21, 2) := by decide +kernel
theorem dL_law_878 : decode cL_law 878 = .ok (.iload 21, 2) := by decide +kernel
theorem dL_law_880 : decode cL_law 880 = .ok (.iload 10, 2) := by decide +kernel
theorem dL_law_882 : decode cL_law 882 = .ok (.if_icmp .ge 34, 3) := by decide +kernel
theorem dL_law_885 : decode cL_law 885 = .ok (.aload 11, 2) := by decide +kernel
theorem dL_law_887 : decode cL_law 887 = .ok (.iload 19, 2) := by decide +kernel
theorem dL_law_889 : decode cL_law 889 = .ok (.iload 21, 2) := by decide +kernel
theorem dL_law_891 : decode cL_law 891 = .ok (.iadd, 1) := by decide +kernel
theorem dL_law_892 : decode cL_law 892 = .ok (.iload 10, 2) := by decide +kernel
theorem dL_law_894 : decode cL_law 894 = .ok (.irem, 1) := by decide +kernel
theorem dL_law_895 : decode cL_law 895 = .ok (.iaload, 1) := by decide +kernel
theorem dL_law_896 : decode cL_law 896 = .ok (.aload 11, 2) := by decide +kernel
theorem dL_law_898 : decode cL_law 898 = .ok (.iload 20, 2) := by decide +kernel
theorem dL_law_900 : decode cL_law 900 = .ok (.iload 21, 2) := by decide +kernel
theorem dL_law_902 : decode cL_law 902 = .ok (.iadd, 1) := by decide +kernel
theorem dL_law_903 : decode cL_law 903 = .ok (.iload 10, 2) := by decide +kernel
theorem dL_law_905 : decode cL_law 905 = .ok (.irem, 1) := by decide +kernel
theorem dL_law_906 : decode cL_law 906 = .ok (.iaload, 1) := by decide +kernel
theorem dL_law_907 : decode cL_law 907 = .ok (.if_icmp .ne 9, 3) := by decide +kernel
theorem dL_law_910 : decode cL_law 910 = .ok (.iinc 21 1, 3) := by decide +kernel
theorem dL_law_913 : decode cL_law 913 = .ok (.goto (-35), 3) := by decide +kernel
theorem dL_law_916 : decode cL_law 916 = .ok (.iload 21, 2) := by decide +kernel
theorem dL_law_918 : decode cL_law 918 = .ok (.iload 10, 2) := by decide +kernel
theorem dL_law_920 : decode cL_law 920 = .ok (.if_icmp .ne 13, 3) := by decide +kernel
theorem dL_law_923 : decode cL_law 923 = .ok (.iload 20, 2) := by decide +kernel
theorem dL_law_925 : decode cL_law 925 = .ok (.iload 19, 2) := by decide +kernel
theorem dL_law_927 : decode cL_law 927 = .ok (.if_icmp .ge 33, 3) := by decide +kernel
theorem dL_law_930 : decode cL_law 930 = .ok (.goto 28, 3) := by decide +kernel
theorem dL_law_933 : decode cL_law 933 = .ok (.aload 11, 2) := by decide +kernel
theorem dL_law_935 : decode cL_law 935 = .ok (.iload 19, 2) := by decide +kernel
theorem dL_law_937 : decode cL_law 937 = .ok (.iload 21, 2) := by decide +kernel
theorem dL_law_939 : decode cL_law 939 = .ok (.iadd, 1) := by decide +kernel
theorem dL_law_940 : decode cL_law 940 = .ok (.iload 10, 2) := by decide +kernel
theorem dL_law_942 : decode cL_law 942 = .ok (.irem, 1) := by decide +kernel
theorem dL_law_943 : decode cL_law 943 = .ok (.iaload, 1) := by decide +kernel
theorem dL_law_944 : decode cL_law 944 = .ok (.aload 11, 2) := by decide +kernel
theorem dL_law_946 : decode cL_law 946 = .ok (.iload 20, 2) := by decide +kernel
theorem dL_law_948 : decode cL_law 948 = .ok (.iload 21, 2) := by decide +kernel
theorem dL_law_950 : decode cL_law 950 = .ok (.iadd, 1) := by decide +kernel
theorem dL_law_951 : decode cL_law 951 = .ok (.iload 10, 2) := by decide +kernel
theorem dL_law_953 : decode cL_law 953 = .ok (.irem, 1) := by decide +kernel
theorem dL_law_954 : decode cL_law 954 = .ok (.iaload, 1) := by decide +kernel
theorem dL_law_955 : decode cL_law 955 = .ok (.if_icmp .le 5, 3) := by decide +kernel
theorem dL_law_958 : decode cL_law 958 = .ok (.iconst 0, 1) := by decide +kernel
theorem dL_law_959 : decode cL_law 959 = .ok (.ireturn, 1) := by decide +kernel
theorem dL_law_960 : decode cL_law 960 = .ok (.iinc 20 1, 3) := by decide +kernel
theorem dL_law_963 : decode cL_law 963 = .ok (.goto (-95), 3) := by decide +kernel
theorem dL_law_966 : decode cL_law 966 = .ok (.aload_n 1, 1) := by decide +kernel
theorem dL_law_967 : decode cL_law 967 = .ok (.iload 9, 2) := by decide +kernel
theorem dL_law_969 : decode cL_law 969 = .ok (.invokevirtual 113, 3) := by decide +kernel
theorem dL_law_972 : decode cL_law 972 = .ok (.istore 20, 2) := by decide +kernel
theorem dL_law_974 : decode cL_law 974 = .ok (.aload_n 1, 1) := by decide +kernel
theorem dL_law_975 : decode cL_law 975 = .ok (.iload 9, 2) := by decide +kernel
theorem dL_law_977 : decode cL_law 977 = .ok (.invokevirtual 116, 3) := by decide +kernel
theorem dL_law_980 : decode cL_law 980 = .ok (.istore 21, 2) := by decide +kernel
theorem dL_law_982 : decode cL_law 982 = .ok (.iload 20, 2) := by decide +kernel
theorem dL_law_984 : decode cL_law 984 = .ok (.ifCond .ge 7, 3) := by decide +kernel
theorem dL_law_987 : decode cL_law 987 = .ok (.iconst 1, 1) := by decide +kernel
theorem dL_law_988 : decode cL_law 988 = .ok (.goto 4, 3) := by decide +kernel
theorem dL_law_991 : decode cL_law 991 = .ok (.iconst 0, 1) := by decide +kernel
theorem dL_law_992 : decode cL_law 992 = .ok (.iload 21, 2) := by decide +kernel
theorem dL_law_994 : decode cL_law 994 = .ok (.ifCond .ne 7, 3) := by decide +kernel
theorem dL_law_997 : decode cL_law 997 = .ok (.iconst 1, 1) := by decide +kernel
theorem dL_law_998 : decode cL_law 998 = .ok (.goto 4, 3) := by decide +kernel
theorem dL_law_1001 : decode cL_law 1001 = .ok (.iconst 0, 1) := by decide +kernel
theorem dL_law_1002 : decode cL_law 1002 = .ok (.if_icmp .ne 16, 3) := by decide +kernel
theorem dL_law_1005 : decode cL_law 1005 = .ok (.aload_n 2, 1) := by decide +kernel
theorem dL_law_1006 : decode cL_law 1006 = .ok (.getfield 43, 3) := by decide +kernel
theorem dL_law_1009 : decode cL_law 1009 = .ok (.arraylength, 1) := by decide +kernel
theorem dL_law_1010 : decode cL_law 1010 = .ok (.ifCond .ne 10, 3) := by decide +kernel
theorem dL_law_1013 : decode cL_law 1013 = .ok (.iload 21, 2) := by decide +kernel
theorem dL_law_1015 : decode cL_law 1015 = .ok (.ifCond .eq 5, 3) := by decide +kernel
theorem dL_law_1018 : decode cL_law 1018 = .ok (.iconst 0, 1) := by decide +kernel
theorem dL_law_1019 : decode cL_law 1019 = .ok (.ireturn, 1) := by decide +kernel
theorem dL_law_1020 : decode cL_law 1020 = .ok (.iconst 0, 1) := by decide +kernel
theorem dL_law_1021 : decode cL_law 1021 = .ok (.istore 22, 2) := by decide +kernel
theorem dL_law_1023 : decode cL_law 1023 = .ok (.iload 22, 2) := by decide +kernel
theorem dL_law_1025 : decode cL_law 1025 = .ok (.iload 20, 2) := by decide +kernel
theorem dL_law_1027 : decode cL_law 1027 = .ok (.if_icmp .gt 51, 3) := by decide +kernel
theorem dL_law_1030 : decode cL_law 1030 = .ok (.aload 11, 2) := by decide +kernel
theorem dL_law_1032 : decode cL_law 1032 = .ok (.iload 22, 2) := by decide +kernel
theorem dL_law_1034 : decode cL_law 1034 = .ok (.aload_n 2, 1) := by decide +kernel
theorem dL_law_1035 : decode cL_law 1035 = .ok (.getfield 43, 3) := by decide +kernel
theorem dL_law_1038 : decode cL_law 1038 = .ok (.iconst 0, 1) := by decide +kernel
theorem dL_law_1039 : decode cL_law 1039 = .ok (.invokestatic 95, 3) := by decide +kernel
theorem dL_law_1042 : decode cL_law 1042 = .ok (.aload_n 2, 1) := by decide +kernel
theorem dL_law_1043 : decode cL_law 1043 = .ok (.getfield 43, 3) := by decide +kernel
theorem dL_law_1046 : decode cL_law 1046 = .ok (.arraylength, 1) := by decide +kernel
theorem dL_law_1047 : decode cL_law 1047 = .ok (.if_icmp .ne 7, 3) := by decide +kernel
theorem dL_law_1050 : decode cL_law 1050 = .ok (.iconst 1, 1) := by decide +kernel
theorem dL_law_1051 : decode cL_law 1051 = .ok (.goto 4, 3) := by decide +kernel
theorem dL_law_1054 : decode cL_law 1054 = .ok (.iconst 0, 1) := by decide +kernel
theorem dL_law_1055 : decode cL_law 1055 = .ok (.iload 22, 2) := by decide +kernel
theorem dL_law_1057 : decode cL_law 1057 = .ok (.iload 20, 2) := by decide +kernel
theorem dL_law_1059 : decode cL_law 1059 = .ok (.if_icmp .ne 7, 3) := by decide +kernel
theorem dL_law_1062 : decode cL_law 1062 = .ok (.iconst 1, 1) := by decide +kernel
theorem dL_law_1063 : decode cL_law 1063 = .ok (.goto 4, 3) := by decide +kernel
theorem dL_law_1066 : decode cL_law 1066 = .ok (.iconst 0, 1) := by decide +kernel
theorem dL_law_1067 : decode cL_law 1067 = .ok (.if_icmp .eq 5, 3) := by decide +kernel
theorem dL_law_1070 : decode cL_law 1070 = .ok (.iconst 0, 1) := by decide +kernel
theorem dL_law_1071 : decode cL_law 1071 = .ok (.ireturn, 1) := by decide +kernel
theorem dL_law_1072 : decode cL_law 1072 = .ok (.iinc 22 1, 3) := by decide +kernel
theorem dL_law_1075 : decode cL_law 1075 = .ok (.goto (-52), 3) := by decide +kernel
theorem dL_law_1078 : decode cL_law 1078 = .ok (.iinc 9 1, 3) := by decide +kernel
theorem dL_law_1081 : decode cL_law 1081 = .ok (.goto (-978), 3) := by decide +kernel
theorem dL_law_1084 : decode cL_law 1084 = .ok (.aload_n 1, 1) := by decide +kernel
theorem dL_law_1085 : decode cL_law 1085 = .ok (.invokevirtual 119, 3) := by decide +kernel
theorem dL_law_1088 : decode cL_law 1088 = .ok (.iload 8, 2) := by decide +kernel
theorem dL_law_1090 : decode cL_law 1090 = .ok (.ifCond .ne 7, 3) := by decide +kernel
theorem dL_law_1093 : decode cL_law 1093 = .ok (.dconst 0, 1) := by decide +kernel
theorem dL_law_1094 : decode cL_law 1094 = .ok (.goto 10, 3) := by decide +kernel
theorem dL_law_1097 : decode cL_law 1097 = .ok (.iload 7, 2) := by decide +kernel
theorem dL_law_1099 : decode cL_law 1099 = .ok (.i2d, 1) := by decide +kernel
theorem dL_law_1100 : decode cL_law 1100 = .ok (.iload 8, 2) := by decide +kernel
theorem dL_law_1102 : decode cL_law 1102 = .ok (.i2d, 1) := by decide +kernel
theorem dL_law_1103 : decode cL_law 1103 = .ok (.ddiv, 1) := by decide +kernel
theorem dL_law_1104 : decode cL_law 1104 = .ok (.dcmp .l, 1) := by decide +kernel
theorem dL_law_1105 : decode cL_law 1105 = .ok (.ifCond .eq 5, 3) := by decide +kernel
theorem dL_law_1108 : decode cL_law 1108 = .ok (.iconst 0, 1) := by decide +kernel
theorem dL_law_1109 : decode cL_law 1109 = .ok (.ireturn, 1) := by decide +kernel
theorem dL_law_1110 : decode cL_law 1110 = .ok (.aload_n 1, 1) := by decide +kernel
theorem dL_law_1111 : decode cL_law 1111 = .ok (.iconst 0, 1) := by decide +kernel
theorem dL_law_1112 : decode cL_law 1112 = .ok (.invokevirtual 123, 3) := by decide +kernel
theorem dL_law_1115 : decode cL_law 1115 = .ok (.istore 9, 2) := by decide +kernel
theorem dL_law_1117 : decode cL_law 1117 = .ok (.iload 9, 2) := by decide +kernel
theorem dL_law_1119 : decode cL_law 1119 = .ok (.aload_n 1, 1) := by decide +kernel
theorem dL_law_1120 : decode cL_law 1120 = .ok (.iconst 5, 1) := by decide +kernel
theorem dL_law_1121 : decode cL_law 1121 = .ok (.invokevirtual 79, 3) := by decide +kernel
theorem dL_law_1124 : decode cL_law 1124 = .ok (.if_icmp .ne 55, 3) := by decide +kernel
theorem dL_law_1127 : decode cL_law 1127 = .ok (.iload 9, 2) := by decide +kernel
theorem dL_law_1129 : decode cL_law 1129 = .ok (.ifCond .ne 7, 3) := by decide +kernel
theorem dL_law_1132 : decode cL_law 1132 = .ok (.iconst 1, 1) := by decide +kernel
theorem dL_law_1133 : decode cL_law 1133 = .ok (.goto 4, 3) := by decide +kernel
theorem dL_law_1136 : decode cL_law 1136 = .ok (.iconst 0, 1) := by decide +kernel
theorem dL_law_1137 : decode cL_law 1137 = .ok (.aload_n 1, 1) := by decide +kernel
theorem dL_law_1138 : decode cL_law 1138 = .ok (.iconst 1, 1) := by decide +kernel
theorem dL_law_1139 : decode cL_law 1139 = .ok (.invokevirtual 123, 3) := by decide +kernel
theorem dL_law_1142 : decode cL_law 1142 = .ok (.ifCond .ge 7, 3) := by decide +kernel
theorem dL_law_1145 : decode cL_law 1145 = .ok (.iconst 1, 1) := by decide +kernel
theorem dL_law_1146 : decode cL_law 1146 = .ok (.goto 4, 3) := by decide +kernel
theorem dL_law_1149 : decode cL_law 1149 = .ok (.iconst 0, 1) := by decide +kernel
theorem dL_law_1150 : decode cL_law 1150 = .ok (.if_icmp .ne 29, 3) := by decide +kernel
theorem dL_law_1153 : decode cL_law 1153 = .ok (.iload 9, 2) := by decide +kernel
theorem dL_law_1155 : decode cL_law 1155 = .ok (.ifCond .ne 7, 3) := by decide +kernel
theorem dL_law_1158 : decode cL_law 1158 = .ok (.iconst 1, 1) := by decide +kernel
theorem dL_law_1159 : decode cL_law 1159 = .ok (.goto 4, 3) := by decide +kernel
theorem dL_law_1162 : decode cL_law 1162 = .ok (.iconst 0, 1) := by decide +kernel
theorem dL_law_1163 : decode cL_law 1163 = .ok (.aload_n 1, 1) := by decide +kernel
theorem dL_law_1164 : decode cL_law 1164 = .ok (.iconst 2, 1) := by decide +kernel
theorem dL_law_1165 : decode cL_law 1165 = .ok (.invokevirtual 123, 3) := by decide +kernel
theorem dL_law_1168 : decode cL_law 1168 = .ok (.ifCond .ge 7, 3) := by decide +kernel
theorem dL_law_1171 : decode cL_law 1171 = .ok (.iconst 1, 1) := by decide +kernel
theorem dL_law_1172 : decode cL_law 1172 = .ok (.goto 4, 3) := by decide +kernel
theorem dL_law_1175 : decode cL_law 1175 = .ok (.iconst 0, 1) := by decide +kernel
theorem dL_law_1176 : decode cL_law 1176 = .ok (.if_icmp .eq 5, 3) := by decide +kernel
theorem dL_law_1179 : decode cL_law 1179 = .ok (.iconst 0, 1) := by decide +kernel
theorem dL_law_1180 : decode cL_law 1180 = .ok (.ireturn, 1) := by decide +kernel
theorem dL_law_1181 : decode cL_law 1181 = .ok (.iconst 0, 1) := by decide +kernel
theorem dL_law_1182 : decode cL_law 1182 = .ok (.istore 10, 2) := by decide +kernel
theorem dL_law_1184 : decode cL_law 1184 = .ok (.iload 10, 2) := by decide +kernel
theorem dL_law_1186 : decode cL_law 1186 = .ok (.iload 9, 2) := by decide +kernel
theorem dL_law_1188 : decode cL_law 1188 = .ok (.if_icmp .ge 40, 3) := by decide +kernel
theorem dL_law_1191 : decode cL_law 1191 = .ok (.aload_n 1, 1) := by decide +kernel
theorem dL_law_1192 : decode cL_law 1192 = .ok (.iconst 0, 1) := by decide +kernel
theorem dL_law_1193 : decode cL_law 1193 = .ok (.aload_n 1, 1) := by decide +kernel
theorem dL_law_1194 : decode cL_law 1194 = .ok (.iconst 1, 1) := by decide +kernel
theorem dL_law_1195 : decode cL_law 1195 = .ok (.invokevirtual 123, 3) := by decide +kernel
theorem dL_law_1198 : decode cL_law 1198 = .ok (.iload 10, 2) := by decide +kernel
theorem dL_law_1200 : decode cL_law 1200 = .ok (.iadd, 1) := by decide +kernel
theorem dL_law_1201 : decode cL_law 1201 = .ok (.invokevirtual 82, 3) := by decide +kernel
theorem dL_law_1204 : decode cL_law 1204 = .ok (.aload_n 1, 1) := by decide +kernel
theorem dL_law_1205 : decode cL_law 1205 = .ok (.iconst 1, 1) := by decide +kernel
theorem dL_law_1206 : decode cL_law 1206 = .ok (.aload_n 1, 1) := by decide +kernel
theorem dL_law_1207 : decode cL_law 1207 = .ok (.iconst 2, 1) := by decide +kernel
theorem dL_law_1208 : decode cL_law 1208 = .ok (.invokevirtual 123, 3) := by decide +kernel
theorem dL_law_1211 : decode cL_law 1211 = .ok (.iload 10, 2) := by decide +kernel
theorem dL_law_1213 : decode cL_law 1213 = .ok (.iadd, 1) := by decide +kernel
theorem dL_law_1214 : decode cL_law 1214 = .ok (.invokevirtual 82, 3) := by decide +kernel
theorem dL_law_1217 : decode cL_law 1217 = .ok (.if_icmp .eq 5, 3) := by decide +kernel
theorem dL_law_1220 : decode cL_law 1220 = .ok (.iconst 0, 1) := by decide +kernel
theorem dL_law_1221 : decode cL_law 1221 = .ok (.ireturn, 1) := by decide +kernel
theorem dL_law_1222 : decode cL_law 1222 = .ok (.iinc 10 1, 3) := by decide +kernel
theorem dL_law_1225 : decode cL_law 1225 = .ok (.goto (-41), 3) := by decide +kernel
theorem dL_law_1228 : decode cL_law 1228 = .ok (.iload 9, 2) := by decide +kernel
theorem dL_law_1230 : decode cL_law 1230 = .ok (.ifCond .le 46, 3) := by decide +kernel
theorem dL_law_1233 : decode cL_law 1233 = .ok (.aload_n 1, 1) := by decide +kernel
theorem dL_law_1234 : decode cL_law 1234 = .ok (.aload_n 1, 1) := by decide +kernel
theorem dL_law_1235 : decode cL_law 1235 = .ok (.iconst 1, 1) := by decide +kernel
theorem dL_law_1236 : decode cL_law 1236 = .ok (.invokevirtual 123, 3) := by decide +kernel
theorem dL_law_1239 : decode cL_law 1239 = .ok (.aload_n 1, 1) := by decide +kernel
theorem dL_law_1240 : decode cL_law 1240 = .ok (.iconst 2, 1) := by decide +kernel
theorem dL_law_1241 : decode cL_law 1241 = .ok (.invokevirtual 123, 3) := by decide +kernel
theorem dL_law_1244 : decode cL_law 1244 = .ok (.invokevirtual 126, 3) := by decide +kernel
theorem dL_law_1247 : decode cL_law 1247 = .ok (.invokestatic 129, 3) := by decide +kernel
theorem dL_law_1250 : decode cL_law 1250 = .ok (.iload 9, 2) := by decide +kernel
theorem dL_law_1252 : decode cL_law 1252 = .ok (.iconst 1, 1) := by decide +kernel
theorem dL_law_1253 : decode cL_law 1253 = .ok (.iadd, 1) := by decide +kernel
theorem dL_law_1254 : decode cL_law 1254 = .ok (.if_icmp .eq 22, 3) := by decide +kernel
theorem dL_law_1257 : decode cL_law 1257 = .ok (.aload_n 1, 1) := by decide +kernel
theorem dL_law_1258 : decode cL_law 1258 = .ok (.aload_n 1, 1) := by decide +kernel
theorem dL_law_1259 : decode cL_law 1259 = .ok (.iconst 1, 1) := by decide +kernel
theorem dL_law_1260 : decode cL_law 1260 = .ok (.invokevirtual 123, 3) := by decide +kernel
theorem dL_law_1263 : decode cL_law 1263 = .ok (.aload_n 1, 1) := by decide +kernel
theorem dL_law_1264 : decode cL_law 1264 = .ok (.iconst 2, 1) := by decide +kernel
theorem dL_law_1265 : decode cL_law 1265 = .ok (.invokevirtual 123, 3) := by decide +kernel
theorem dL_law_1268 : decode cL_law 1268 = .ok (.invokevirtual 126, 3) := by decide +kernel
theorem dL_law_1271 : decode cL_law 1271 = .ok (.ifCond .eq 5, 3) := by decide +kernel
theorem dL_law_1274 : decode cL_law 1274 = .ok (.iconst 0, 1) := by decide +kernel
theorem dL_law_1275 : decode cL_law 1275 = .ok (.ireturn, 1) := by decide +kernel
theorem dL_law_1276 : decode cL_law 1276 = .ok (.aload_n 1, 1) := by decide +kernel
theorem dL_law_1277 : decode cL_law 1277 = .ok (.invokevirtual 75, 3) := by decide +kernel
theorem dL_law_1280 : decode cL_law 1280 = .ok (.lload 5, 2) := by decide +kernel
theorem dL_law_1282 : decode cL_law 1282 = .ok (.lcmp, 1) := by decide +kernel
theorem dL_law_1283 : decode cL_law 1283 = .ok (.ifCond .eq 5, 3) := by decide +kernel
theorem dL_law_1286 : decode cL_law 1286 = .ok (.iconst 0, 1) := by decide +kernel
theorem dL_law_1287 : decode cL_law 1287 = .ok (.ireturn, 1) := by decide +kernel
theorem dL_law_1288 : decode cL_law 1288 = .ok (.iinc 3 1, 3) := by decide +kernel
theorem dL_law_1291 : decode cL_law 1291 = .ok (.goto (-1269), 3) := by decide +kernel
theorem dL_law_1294 : decode cL_law 1294 = .ok (.aload_n 2, 1) := by decide +kernel
theorem dL_law_1295 : decode cL_law 1295 = .ok (.aload_n 1, 1) := by decide +kernel
theorem dL_law_1296 : decode cL_law 1296 = .ok (.invokevirtual 132, 3) := by decide +kernel
theorem dL_law_1299 : decode cL_law 1299 = .ok (.ireturn, 1) := by decide +kernel
end
section
/-! ===== numbers: every int of the walks is zI of a whole number ===== -/
def zI (z : Int) : Int32 := Int32.ofInt z
theorem zI_add (a b : Int) : zI a + zI b = zI (a + b) := (Int32.ofInt_add a b).symm
theorem zI_sub (a b : Int) : zI a - zI b = zI (a - b) := (Int32.ofInt_sub a b).symm
theorem zI_mul (a b : Int) : zI a * zI b = zI (a * b) := (Int32.ofInt_mul a b).symm
theorem zI_neg (a : Int) : -zI a = zI (-a) := (Int32.ofInt_neg a).symm
theorem zI_of (x : Int32) : x = zI x.toInt := (Int32.ofInt_toInt x).symm
theorem zI_toInt {a : Int} (h : -2147483648 ≤ a ∧ a ≤ 2147483647) : (zI a).toInt = a := Int32.toInt_ofInt_of_le (by omega) (by omega)
theorem zI_nat {a : Int} (h : 0 ≤ a ∧ a ≤ 2147483647) : (zI a).toNatClampNeg = a.toNat := Int32.toNatClampNeg_ofInt_of_le (by omega) (by omega)
theorem zI_0 : (0 : Int32) = zI 0 := rfl
theorem zI_eq {a b : Int} (h : -2147483648 ≤ a ∧ a ≤ 2147483647 ∧ -2147483648 ≤ b ∧ b ≤ 2147483647) : zI a = zI b ↔ a = b :=
  ⟨fun q => by have := congrArg Int32.toInt q; rwa [zI_toInt ⟨h.1, h.2.1⟩, zI_toInt ⟨h.2.2.1, h.2.2.2⟩] at this, fun q => by rw [q]⟩
theorem zI_lt {a b : Int} (h : -2147483648 ≤ a ∧ a ≤ 2147483647 ∧ -2147483648 ≤ b ∧ b ≤ 2147483647) : zI a < zI b ↔ a < b := by
  rw [Int32.lt_iff_toInt_lt, zI_toInt ⟨h.1, h.2.1⟩, zI_toInt ⟨h.2.2.1, h.2.2.2⟩]
theorem zI_le {a b : Int} (h : -2147483648 ≤ a ∧ a ≤ 2147483647 ∧ -2147483648 ≤ b ∧ b ≤ 2147483647) : zI a ≤ zI b ↔ a ≤ b := by
  rw [Int32.le_iff_toInt_le, zI_toInt ⟨h.1, h.2.1⟩, zI_toInt ⟨h.2.2.1, h.2.2.2⟩]
theorem zI_in {a : Int} {n : Nat} (h : 0 ≤ a ∧ a < (n : Int)) (h2 : a ≤ 2147483647) : vp_in (zI a) n := by
  rw [vp_in_iff, zI_toInt ⟨by omega, h2⟩]
  exact h
theorem zI_rng (x : Int32) : -2147483648 ≤ x.toInt ∧ x.toInt ≤ 2147483647 := by
  have h1 := Int32.le_toInt x
  have h2 := Int32.toInt_lt x
  omega
def lI (z : Int) : Int64 := Int64.ofInt z
theorem lI_add (a b : Int) : lI a + lI b = lI (a + b) := (Int64.ofInt_add a b).symm
theorem lI_mul (a b : Int) : lI a * lI b = lI (a * b) := (Int64.ofInt_mul a b).symm
theorem zI_long {a : Int} (h : -2147483648 ≤ a ∧ a ≤ 2147483647) : (zI a).toInt64 = lI a := by
  apply Int64.toInt_inj.mp
  rw [Int32.toInt_toInt64, zI_toInt h]
  exact (Int64.toInt_ofInt_of_le (by omega) (by omega)).symm
theorem zI_rem {a b : Int} (h : 0 ≤ a ∧ a ≤ 2147483647 ∧ 0 < b ∧ b ≤ 2147483647) : zI a - zI a / zI b * zI b = zI (a % b) := by
  have ea : zI a = nI a.toNat := by
    rw [nI, zI]; rw [← Int32.ofInt_eq_ofNat]; congr 1; omega
  have eb : zI b = nI b.toNat := by
    rw [nI, zI]; rw [← Int32.ofInt_eq_ofNat]; congr 1; omega
  rw [ea, eb, pk_rem (by omega) (by omega) (by omega)]
  have e1 : a = (a.toNat : Int) := by omega
  have e2 : b = (b.toNat : Int) := by omega
  rw [nI, zI, ← Int32.ofInt_eq_ofNat]
  congr 1
  rw [Int.natCast_emod, ← e1, ← e2]
/-! ===== the world: its cells have numbers, 0 to 10 are the object of the class, what is made later comes behind; ints, lengths (place -1) and kinds (place -2) are M cell place, references are addresses (below 0: null) ===== -/
abbrev kE : Type := va_G × ((ClassId × ClassId × ClassId) × Int) × (Int → Nat)
abbrev kM : Type := Int → Int → Int
abbrev kn (E : kE) : Int := E.2.1.2
abbrev kaI (E : kE) : ClassId := E.2.1.1.1
abbrev kaG (E : kE) : ClassId := E.2.1.1.2.1
abbrev kaZ (E : kE) : ClassId := E.2.1.1.2.2
def kU (M : kM) (c j v : Int) : kM := fun k i => if k = c ∧ i = j then v else M k i
theorem kU_same (M : kM) (c j v : Int) : kU M c j v c j = v := if_pos ⟨rfl, rfl⟩
theorem kU_cell {M : kM} {c j v k i : Int} (h : k ≠ c) : kU M c j v k i = M k i := if_neg (fun q => h q.1)
theorem kU_place {M : kM} {c j v k i : Int} (h : i ≠ j) : kU M c j v k i = M k i := if_neg (fun q => h q.2)
theorem kU_at {M : kM} {c j v k i : Int} : kU M c j v k i = if k = c ∧ i = j then v else M k i := rfl
/-- a new cell -/
def kNw (M : kM) (n : Int) (f : Int → Int) : kM := fun c i => if c = n then f i else M c i
theorem kNw_same (M : kM) (n : Int) (f : Int → Int) (i : Int) : kNw M n f n i = f i := if_pos rfl
theorem kNw_ne {M : kM} {n : Int} {f : Int → Int} {c i : Int} (h : c ≠ n) : kNw M n f c i = M c i := if_neg h
theorem kNw_row {M : kM} {n : Int} {f : Int → Int} {c : Int} (h : c ≠ n) : kNw M n f c = M c := funext (fun _ => if_neg h)
/-- what a new row of ints, of truth values, of rows (all null), and new objects of the law's are like -/
def kIa (len : Int) : Int → Int := fun i => if i = -1 then len else 0
def kZa (len : Int) : Int → Int := fun i => if i = -1 then len else if i = -2 then 1 else 0
def kGa (len : Int) : Int → Int := fun i => if i = -1 then len else if i = -2 then 2 else -1
def kSo : Int → Int := fun i => if i = -2 then 3 else -1
def kRo : Int → Int := fun i => if i = -2 then 4 else if i = 5 then 0 else -1
def kOr (z : Int) : Option Nat := if z < 0 then none else some z.toNat
def kRf (z : Int) : Value := va_rf (kOr z)
theorem kOr_nat (a : Nat) : kOr (a : Int) = some a := by
  unfold kOr
  rw [if_neg (by omega), Int.toNat_natCast]
theorem kRf_nat (a : Nat) : kRf (a : Int) = .ref a := by
  unfold kRf
  rw [kOr_nat]; rfl
theorem kRf_none : kRf (-1) = .null := rfl
/-- cell c is a row of ints, that long -/
def kArr (E : kE) (M : kM) (c len : Int) : Prop := (3 ≤ c ∧ c < 6 ∧ len = 40) ∨ (8 ≤ c ∧ c < 10 ∧ len = 40) ∨ (11 ≤ c ∧ c < kn E ∧ M c (-2) = 0 ∧ M c (-1) = len ∧ 0 ≤ len ∧ len ≤ 100000)
def kC (E : kE) (M : kM) (c : Int) : va_E :=
  if c < 3 then .inr (1, [.ref (E.2.2 (c + 3)), .int (zI (M c 1))])
  else if 6 ≤ c ∧ c < 8 then .inr (0, [.ref (E.2.2 (c - 6)), .ref (E.2.2 (c + 2))])
  else if c = 10 then .inr (2, [.ref (E.2.2 6), .ref (E.2.2 7), .ref (E.2.2 2)])
  else if c < 11 then .inl (kaI E, 40, .inl (fun j => zI (M c (j : Int))))
  else if M c (-2) = 0 then .inl (kaI E, (M c (-1)).toNat, .inl (fun j => zI (M c (j : Int))))
  else if M c (-2) = 1 then .inl (kaZ E, (M c (-1)).toNat, .inl (fun j => zI (M c (j : Int))))
  else if M c (-2) = 2 then .inl (kaG E, (M c (-1)).toNat, .inr (.inr (.inr (.inr (fun j => kOr (M c (j : Int)))))))
  else if M c (-2) = 3 then .inr (4, [kRf (M c 0), kRf (M c 1)])
  else .inr (3, [kRf (M c 0), kRf (M c 1), kRf (M c 2), kRf (M c 3), kRf (M c 4), .int (zI (M c 5)), kRf (M c 6), kRf (M c 7), kRf (M c 8), kRf (M c 9)])
def kW (E : kE) (M : kM) : va_W := (List.range (kn E).toNat).map (fun k : Nat => (E.2.2 (k : Int), kC E M (k : Int)))
abbrev kT (E : kE) : List (ClassId × FieldType) := [(kaI E, .int), (kaG E, .array .int), (kaZ E, .boolean)]
def kInj (E : kE) : Prop := ∀ i j : Int, 0 ≤ i → i < kn E → 0 ≤ j → j < kn E → E.2.2 i = E.2.2 j → i = j
def kA (E : kE) (sz : Nat) : Nat → Prop := fun q => (∃ c : Int, 0 ≤ c ∧ c < kn E ∧ q = E.2.2 c) ∨ sz ≤ q
theorem kC_congr {E : kE} {M M' : kM} {c : Int} (h : ∀ i, M' c i = M c i) : kC E M' c = kC E M c := by
  unfold kC
  simp only [h]
theorem kW_len (E : kE) (M : kM) : (kW E M).length = (kn E).toNat := by simp [kW]
theorem kW_get (E : kE) (M : kM) {c : Int} (h : 0 ≤ c ∧ c < kn E) : (kW E M)[c.toNat]? = some (E.2.2 c, kC E M c) := by
  have h1 : c.toNat < (kn E).toNat := by omega
  have h2 : ((c.toNat : Nat) : Int) = c := by omega
  simp only [kW, List.getElem?_map, List.getElem?_range h1, Option.map_some, h2]
theorem kW_inv {E : kE} {M : kM} {k : Nat} {q : Nat × va_E} (h : (kW E M)[k]? = some q) : (k : Int) < kn E ∧ q = (E.2.2 (k : Int), kC E M (k : Int)) := by
  have h1 : k < (kn E).toNat := by rw [← kW_len E M]; exact (List.getElem?_eq_some_iff.mp h).1
  refine ⟨by omega, ?_⟩
  have h2 := kW_get E M (c := (k : Int)) (by omega)
  rw [Int.toNat_natCast, h] at h2
  exact Option.some.inj h2
theorem kW_set {E : kE} {M M' : kM} {c : Int} {e : va_E} (hc : 0 ≤ c ∧ c < kn E) (he : kC E M' c = e) (ho : ∀ k : Int, k ≠ c → ∀ i, M' k i = M k i) : (kW E M).set c.toNat (E.2.2 c, e) = kW E M' := by
  apply List.ext_getElem?
  intro k
  by_cases hk : k < (kn E).toNat
  · have g := kW_get E M' (c := (k : Int)) (by omega)
    rw [Int.toNat_natCast] at g
    rw [g]
    by_cases e1 : k = c.toNat
    · subst e1
      have h2 : ((c.toNat : Nat) : Int) = c := by omega
      rw [List.getElem?_set_self (by rw [kW_len]; exact hk), h2, he]
    · rw [List.getElem?_set_ne (Ne.symm e1)]
      have g2 := kW_get E M (c := (k : Int)) (by omega)
      rw [Int.toNat_natCast] at g2
      rw [g2, kC_congr (ho (k : Int) (by omega))]
  · rw [List.getElem?_eq_none (by rw [List.length_set, kW_len]; omega), List.getElem?_eq_none (by rw [kW_len]; omega)]
theorem kW_D {E : kE} (hE : kInj E) (M : kM) {A : Nat → Prop} (hA : ∀ c : Int, 0 ≤ c → c < kn E → A (E.2.2 c)) : va_D A (kW E M) := by
  refine ⟨fun i j x y hi hj hxy => ?_, fun k q hk => ?_⟩
  · obtain ⟨h1, rfl⟩ := kW_inv hi
    obtain ⟨h2, rfl⟩ := kW_inv hj
    have := hE (i : Int) (j : Int) (by omega) (by omega) (by omega) (by omega) hxy
    omega
  · obtain ⟨h1, rfl⟩ := kW_inv hk
    exact hA _ (by omega) (by omega)
theorem kW_DA {E : kE} (hE : kInj E) (M : kM) (sz : Nat) : va_D (kA E sz) (kW E M) := kW_D hE M (fun c h1 h2 => Or.inl ⟨c, h1, h2, rfl⟩)
theorem kC_S {E : kE} {M : kM} {c : Int} (h : 0 ≤ c ∧ c < 3) : kC E M c = .inr (1, [.ref (E.2.2 (c + 3)), .int (zI (M c 1))]) := if_pos h.2
theorem kC_H {E : kE} {M : kM} {c : Int} (h : 6 ≤ c ∧ c < 8) : kC E M c = .inr (0, [.ref (E.2.2 (c - 6)), .ref (E.2.2 (c + 2))]) := by
  unfold kC
  rw [if_neg (by omega), if_pos h]
theorem kC_X {E : kE} {M : kM} : kC E M 10 = .inr (2, [.ref (E.2.2 6), .ref (E.2.2 7), .ref (E.2.2 2)]) := by simp [kC]
theorem kC_40 {E : kE} {M : kM} {c : Int} (h : (3 ≤ c ∧ c < 6) ∨ (8 ≤ c ∧ c < 10)) : kC E M c = .inl (kaI E, 40, .inl (fun j => zI (M c (j : Int)))) := by
  unfold kC
  rw [if_neg (by omega), if_neg (by omega), if_neg (by omega), if_pos (by omega)]
theorem kC_I {E : kE} {M : kM} {c : Int} (h : 11 ≤ c) (hk : M c (-2) = 0) : kC E M c = .inl (kaI E, (M c (-1)).toNat, .inl (fun j => zI (M c (j : Int)))) := by
  unfold kC
  rw [if_neg (by omega), if_neg (by omega), if_neg (by omega), if_neg (by omega), if_pos hk]
theorem kC_Z {E : kE} {M : kM} {c : Int} (h : 11 ≤ c) (hk : M c (-2) = 1) : kC E M c = .inl (kaZ E, (M c (-1)).toNat, .inl (fun j => zI (M c (j : Int)))) := by
  unfold kC
  rw [if_neg (by omega), if_neg (by omega), if_neg (by omega), if_neg (by omega), if_neg (by omega), if_pos hk]
theorem kC_G {E : kE} {M : kM} {c : Int} (h : 11 ≤ c) (hk : M c (-2) = 2) : kC E M c = .inl (kaG E, (M c (-1)).toNat, .inr (.inr (.inr (.inr (fun j => kOr (M c (j : Int))))))) := by
  unfold kC
  rw [if_neg (by omega), if_neg (by omega), if_neg (by omega), if_neg (by omega), if_neg (by omega), if_neg (by omega), if_pos hk]
theorem kC_Sim {E : kE} {M : kM} {c : Int} (h : 11 ≤ c) (hk : M c (-2) = 3) : kC E M c = .inr (4, [kRf (M c 0), kRf (M c 1)]) := by
  unfold kC
  rw [if_neg (by omega), if_neg (by omega), if_neg (by omega), if_neg (by omega), if_neg (by omega), if_neg (by omega), if_neg (by omega), if_pos hk]
theorem kC_Rows {E : kE} {M : kM} {c : Int} (h : 11 ≤ c) (hk : M c (-2) = 4) : kC E M c = .inr (3, [kRf (M c 0), kRf (M c 1), kRf (M c 2), kRf (M c 3), kRf (M c 4), .int (zI (M c 5)), kRf (M c 6), kRf (M c 7), kRf (M c 8), kRf (M c 9)]) := by
  unfold kC
  rw [if_neg (by omega), if_neg (by omega), if_neg (by omega), if_neg (by omega), if_neg (by omega), if_neg (by omega), if_neg (by omega), if_neg (by omega)]
theorem kC_A {E : kE} {M : kM} {c len : Int} (h : kArr E M c len) : kC E M c = .inl (kaI E, len.toNat, .inl (fun j => zI (M c (j : Int)))) := by
  rcases h with ⟨h1, h2, rfl⟩ | ⟨h1, h2, rfl⟩ | ⟨h1, h2, h3, h4, h5, h6⟩
  · exact kC_40 (by omega)
  · exact kC_40 (by omega)
  · rw [kC_I h1 h3, h4]
theorem kArr_rng {E : kE} {M : kM} {c len : Int} (h : kArr E M c len) (hn : 11 ≤ kn E) : 0 ≤ c ∧ c < kn E ∧ 0 ≤ len ∧ len ≤ 100000 := by
  unfold kArr at h
  omega
theorem kC_ext {E E1 : kE} {M M1 : kM} {c : Int} (h1 : E1.2.1.1 = E.2.1.1) (h2 : ∀ k : Int, k < 11 → E1.2.2 k = E.2.2 k) (h3 : ∀ i, M1 c i = M c i) : kC E1 M1 c = kC E M c := by
  have e1 : kaI E1 = kaI E := congrArg (fun x => x.1) h1
  have e2 : kaG E1 = kaG E := congrArg (fun x => x.2.1) h1
  have e3 : kaZ E1 = kaZ E := congrArg (fun x => x.2.2) h1
  unfold kC
  simp only [h3, e1, e2, e3]
  split
  · rw [h2 _ (by omega)]
  split
  · rw [h2 _ (by omega), h2 _ (by omega)]
  split
  · rw [h2 _ (by omega), h2 _ (by omega), h2 _ (by omega)]
  · rfl
/-- a world with more cells: classes and addresses of those there were are the same -/
def kExt (E E1 : kE) : Prop := E1.1 = E.1 ∧ E1.2.1.1 = E.2.1.1 ∧ kn E ≤ kn E1 ∧ ∀ c : Int, c < kn E → E1.2.2 c = E.2.2 c
theorem kExt.rf (E : kE) : kExt E E := ⟨rfl, rfl, Int.le_refl _, fun _ _ => rfl⟩
theorem kExt.tr {E E1 E2 : kE} (h : kExt E E1) (g : kExt E1 E2) : kExt E E2 := ⟨g.1.trans h.1, g.2.1.trans h.2.1, Int.le_trans h.2.2.1 g.2.2.1, fun c hc => (g.2.2.2 c (Int.lt_of_lt_of_le hc h.2.2.1)).trans (h.2.2.2 c hc)⟩
theorem kExt.ad {E E1 : kE} (h : kExt E E1) {c : Int} (hc : c < kn E) : E1.2.2 c = E.2.2 c := h.2.2.2 c hc
def kX (E : kE) (q : Nat) : kE := (E.1, (E.2.1.1, kn E + 1), fun c => if c = kn E then q else E.2.2 c)
theorem kX_ext (E : kE) (q : Nat) : kExt E (kX E q) := ⟨rfl, rfl, Int.le_of_lt (Int.lt_succ _), fun c hc => if_neg (by omega)⟩
theorem kX_at (E : kE) (q : Nat) : (kX E q).2.2 (kn E) = q := if_pos rfl
theorem kX_n (E : kE) (q : Nat) : kn (kX E q) = kn E + 1 := rfl
/-- the cells may be written: they are apart, and of A; so is all that comes from sz on -/
def kG (A : Nat → Prop) (sz : Nat) (E : kE) : Prop := kInj E ∧ (∀ c : Int, 0 ≤ c → c < kn E → A (E.2.2 c)) ∧ ∀ q : Nat, sz ≤ q → A q
theorem kG.rf {E : kE} (hE : kInj E) (sz : Nat) : kG (kA E sz) sz E := ⟨hE, fun c h1 h2 => Or.inl ⟨c, h1, h2, rfl⟩, fun _ h => Or.inr h⟩
theorem kG.D {A : Nat → Prop} {sz : Nat} {E : kE} (h : kG A sz E) (M : kM) : va_D A (kW E M) := kW_D h.1 M h.2.1
theorem kG.of {A : Nat → Prop} {sz : Nat} {E : kE} {M : kM} (hD : va_D A (kW E M)) (hs : ∀ q : Nat, sz ≤ q → A q) : kG A sz E := by
  refine ⟨fun i j i1 i2 j1 j2 hij => ?_, fun c c1 c2 => hD.2 _ _ (kW_get E M ⟨c1, c2⟩), hs⟩
  have := hD.1 _ _ _ _ (kW_get E M ⟨i1, i2⟩) (kW_get E M ⟨j1, j2⟩) hij
  omega
theorem kG.sub {A : Nat → Prop} {sz sz1 : Nat} {E : kE} (h : kG A sz E) (h1 : sz ≤ sz1) : ∀ q : Nat, kA E sz1 q → A q := fun q hq => hq.elim (fun ⟨c, c1, c2, e⟩ => by rw [e]; exact h.2.1 c c1 c2) (fun g => h.2.2 q (Nat.le_trans h1 g))
/-- what a call made comes beside what there is -/
theorem kG.tr {A : Nat → Prop} {sz sz1 : Nat} {E E1 : kE} (h : kG A sz E) (h1 : sz ≤ sz1) (g : kG (kA E sz1) sz1 E1) : kG A sz E1 := ⟨g.1, fun c c1 c2 => h.sub h1 _ (g.2.1 c c1 c2), h.2.2⟩
theorem kW_push {E : kE} {M M1 : kM} {q : Nat} {e : va_E} (hn : 11 ≤ kn E) (ho : ∀ c : Int, c < kn E → ∀ i, M1 c i = M c i) (he : kC (kX E q) M1 (kn E) = e) : kW E M ++ [(q, e)] = kW (kX E q) M1 := by
  unfold kW
  rw [kX_n, show (kn E + 1).toNat = (kn E).toNat + 1 by omega, List.range_succ, List.map_append]
  congr 1
  · apply List.map_congr_left
    intro k hk
    have hk2 : k < (kn E).toNat := List.mem_range.mp hk
    rw [(kX_ext E q).ad (c := (k : Int)) (by omega), kC_ext (E := E) (E1 := kX E q) (M := M) rfl (fun j hj => (kX_ext E q).ad (by omega)) (ho (k : Int) (by omega))]
  · show [(q, e)] = [((kX E q).2.2 (((kn E).toNat : Nat) : Int), kC (kX E q) M1 (((kn E).toNat : Nat) : Int))]
    rw [show (((kn E).toNat : Nat) : Int) = kn E by omega, kX_at, he]
/-- the links to a nest mate's private fields and methods, which no word list holds -/
def kN (U : State) : Prop := va_Nw (.fieldLinkNest RX0 36 "HemSuffixes$Stitches" "length" "I" "HemSuffixes") U ∧ va_Nw (.fieldLinkNest RX2 37 "HemSuffixes$Stitches" "length" "I" "HemSuffixes") U ∧ va_Nw (.fieldLinkNest RX2 34 "HemSuffixes$Hem" "stitches" "LHemSuffixes$Stitches;" "HemSuffixes") U ∧ va_Nw (.methodLinkNest RX4 18 yL_common "HemSuffixesLaw") U ∧ va_Nw (.methodLinkNest RL 61 yX4_init "HemSuffixesLaw") U
theorem kN.warm {s U : State} (hW : s.WarmedH U.vm) (h : kN s) : kN U := ⟨va_Nw.warmF hW h.1, va_Nw.warmF hW h.2.1, va_Nw.warmF hW h.2.2.1, va_Nw.warmM hW h.2.2.2.1, va_Nw.warmM hW h.2.2.2.2⟩
theorem kN.same {u U : State} (hv : u.vm = U.vm) (h : kN u) : kN U := ⟨va_Nw.same rfl hv h.1, va_Nw.same rfl hv h.2.1, va_Nw.same rfl hv h.2.2.1, va_Nw.same rfl hv h.2.2.2.1, va_Nw.same rfl hv h.2.2.2.2⟩
theorem va_AOA.moved {ty : FieldType} {u U : State} (hvm : u.vm.Alike U.vm) (h : va_AOA ty u) : va_AOA ty U := arrayOver_alikeB hvm h
def kK (E : kE) (U : State) : Prop := va_K E.1 vwCl (kT E) U ∧ kN U ∧ va_AOA .int U ∧ 11 ≤ kn E
theorem kK.warm {E : kE} {s U : State} (hW : s.WarmedH U.vm) (h : kK E s) : kK E U := ⟨va_K.moved hW.alike h.1, kN.warm hW h.2.1, va_AOA.moved hW.alike h.2.2.1, h.2.2.2⟩
theorem kK.same {E : kE} {u U : State} (hv : u.vm = U.vm) (h : kK E u) : kK E U := ⟨va_K.moved (by rw [hv]; exact Vm.Alike.refl U.vm) h.1, kN.same hv h.2.1, va_AOA.moved (by rw [hv]; exact Vm.Alike.refl U.vm) h.2.2.1, h.2.2.2⟩
theorem kK.ext {E E1 : kE} {U : State} (h : kK E U) (g : kExt E E1) : kK E1 U := by
  refine ⟨?_, h.2.1, h.2.2.1, Int.le_trans h.2.2.2 g.2.2.1⟩
  have e1 : kT E1 = kT E := congrArg (fun x : ClassId × ClassId × ClassId => [(x.1, FieldType.int), (x.2.1, FieldType.array .int), (x.2.2, FieldType.boolean)]) g.2.1
  rw [g.1, e1]
  exact h.1
end
section
section KY
variable {p : Program} {l : Launch} {e : Env} {R : Room} {s : State} {m : MethodId} {args : Array Value} {below : List Frame} {meth : Method} {c : Code} {H : Heap} {locs : List Loc} {cells slots : Nat} {Q : State → Prop}
variable {cc : ByteArray} {pc : Nat} {ls : Array Slot} {rest : List Value} {E : kE} {M : kM} {nL : Nat} {Ts : List Cond} {own : String}
/-! numbers -/
theorem k_push (hx : p.tables.exec = Jvm.exec) (hb : c.code = cc) {n : Int} (hdg : decode cc pc = .ok (.iconst n, 1)) (k : W p l e R s m args below meth c H locs cells slots Q (F0 m (pc + 1) ls (.int (zI n) :: rest))) : W p l e R s m args below meth c H locs cells slots Q (F0 m pc ls rest) := lv_iconst hx hb hdg rfl k
theorem k_bpush (hx : p.tables.exec = Jvm.exec) (hb : c.code = cc) {n : Int} (hdg : decode cc pc = .ok (.bipush n, 2)) (hv : (Int8.ofInt n).toInt32 = zI n) (k : W p l e R s m args below meth c H locs cells slots Q (F0 m (pc + 2) ls (.int (zI n) :: rest))) : W p l e R s m args below meth c H locs cells slots Q (F0 m pc ls rest) := lv_bipush hx hb hdg hv k
theorem k_add (hx : p.tables.exec = Jvm.exec) (hb : c.code = cc) {a b : Int} (hdg : decode cc pc = .ok (.iadd, 1)) (k : W p l e R s m args below meth c H locs cells slots Q (F0 m (pc + 1) ls (.int (zI (a + b)) :: rest))) : W p l e R s m args below meth c H locs cells slots Q (F0 m pc ls (.int (zI b) :: .int (zI a) :: rest)) := lv_iadd hx hb hdg (by rw [zI_add]; exact k)
theorem k_sub (hx : p.tables.exec = Jvm.exec) (hb : c.code = cc) {a b : Int} (hdg : decode cc pc = .ok (.isub, 1)) (k : W p l e R s m args below meth c H locs cells slots Q (F0 m (pc + 1) ls (.int (zI (a - b)) :: rest))) : W p l e R s m args below meth c H locs cells slots Q (F0 m pc ls (.int (zI b) :: .int (zI a) :: rest)) := lv_isub hx hb hdg (by rw [zI_sub]; exact k)
theorem k_mul (hx : p.tables.exec = Jvm.exec) (hb : c.code = cc) {a b : Int} (hdg : decode cc pc = .ok (.imul, 1)) (k : W p l e R s m args below meth c H locs cells slots Q (F0 m (pc + 1) ls (.int (zI (a * b)) :: rest))) : W p l e R s m args below meth c H locs cells slots Q (F0 m pc ls (.int (zI b) :: .int (zI a) :: rest)) := lv_imul hx hb hdg (by rw [zI_mul]; exact k)
theorem k_rem (hx : p.tables.exec = Jvm.exec) (hb : c.code = cc) {a b : Int} (hdg : decode cc pc = .ok (.irem, 1)) (h : 0 ≤ a ∧ a ≤ 2147483647 ∧ 0 < b ∧ b ≤ 2147483647) (k : W p l e R s m args below meth c H locs cells slots Q (F0 m (pc + 1) ls (.int (zI (a % b)) :: rest))) : W p l e R s m args below meth c H locs cells slots Q (F0 m pc ls (.int (zI b) :: .int (zI a) :: rest)) :=
  lv_irem hx hb hdg (fun q => by have := (zI_eq (a := b) (b := 0) (by omega)).mp q; omega) (by rw [zI_rem h]; exact k)
theorem k_neg (hx : p.tables.exec = Jvm.exec) (hb : c.code = cc) {a : Int} (hdg : decode cc pc = .ok (.ineg, 1)) (k : W p l e R s m args below meth c H locs cells slots Q (F0 m (pc + 1) ls (.int (zI (-a)) :: rest))) : W p l e R s m args below meth c H locs cells slots Q (F0 m pc ls (.int (zI a) :: rest)) := lv_ineg hx hb hdg (by rw [zI_neg]; exact k)
theorem k_i2l (hx : p.tables.exec = Jvm.exec) (hb : c.code = cc) {a : Int} (hdg : decode cc pc = .ok (.i2l, 1)) (h : -2147483648 ≤ a ∧ a ≤ 2147483647) (k : W p l e R s m args below meth c H locs cells slots Q (F0 m (pc + 1) ls (.long (lI a) :: rest))) : W p l e R s m args below meth c H locs cells slots Q (F0 m pc ls (.int (zI a) :: rest)) := lv_i2l hx hb hdg (zI_long h) k
theorem k_ladd (hx : p.tables.exec = Jvm.exec) (hb : c.code = cc) {a b : Int} (hdg : decode cc pc = .ok (.ladd, 1)) (k : W p l e R s m args below meth c H locs cells slots Q (F0 m (pc + 1) ls (.long (lI (a + b)) :: rest))) : W p l e R s m args below meth c H locs cells slots Q (F0 m pc ls (.long (lI b) :: .long (lI a) :: rest)) := lv_ladd hx hb hdg (by rw [lI_add]; exact k)
theorem k_lmul (hx : p.tables.exec = Jvm.exec) (hb : c.code = cc) {a b : Int} (hdg : decode cc pc = .ok (.lmul, 1)) (k : W p l e R s m args below meth c H locs cells slots Q (F0 m (pc + 1) ls (.long (lI (a * b)) :: rest))) : W p l e R s m args below meth c H locs cells slots Q (F0 m pc ls (.long (lI b) :: .long (lI a) :: rest)) := lv_lmul hx hb hdg (by rw [lI_mul]; exact k)
theorem k_inc (hx : p.tables.exec = Jvm.exec) (hb : c.code = cc) {i k : Nat} {n a : Int} {lv lv' : List (Nat × Value)} (hdg : decode cc pc = .ok (.iinc i n, 3)) (h : lv_has ls nL lv) (hk : lv[k]? = some (i, .int (zI a))) (hn : i < nL) (hl : (i, Value.int (zI (a + n))) :: lv.filter (fun q => !(q.1 == i) && !(q.1 + 1 == i && q.2.category == 2)) = lv')
    (kk : ∀ ls' : Array Slot, lv_has ls' nL lv' → W p l e R s m args below meth c H locs cells slots Q (F0 m (pc + 3) ls' rest)) : W p l e R s m args below meth c H locs cells slots Q (F0 m pc ls rest) :=
  lv_iinc (v := zI (a + n)) hx hb hdg h hk (zI_add a n) hn hl kk
theorem k_incN (hx : p.tables.exec = Jvm.exec) (hb : c.code = cc) {i k : Nat} {n a v : Int} {lv lv' : List (Nat × Value)} (hdg : decode cc pc = .ok (.iinc i n, 3)) (h : lv_has ls nL lv) (hk : lv[k]? = some (i, .int (zI a))) (hv : v = a + n) (hn : i < nL) (hl : (i, Value.int (zI v)) :: lv.filter (fun q => !(q.1 == i) && !(q.1 + 1 == i && q.2.category == 2)) = lv')
    (kk : ∀ ls' : Array Slot, lv_has ls' nL lv' → W p l e R s m args below meth c H locs cells slots Q (F0 m (pc + 3) ls' rest)) : W p l e R s m args below meth c H locs cells slots Q (F0 m pc ls rest) :=
  lv_iinc (v := zI v) hx hb hdg h hk (by rw [hv]; exact zI_add a n) hn hl kk
theorem k_nm {a : Int} (k : ∀ v : Int, v = a → W p l e R s m args below meth c H locs cells slots Q (F0 m pc ls (.int (zI v) :: rest))) : W p l e R s m args below meth c H locs cells slots Q (F0 m pc ls (.int (zI a) :: rest)) := k a rfl
theorem k_nml {a : Int} (k : ∀ v : Int, v = a → W p l e R s m args below meth c H locs cells slots Q (F0 m pc ls (.long (lI v) :: rest))) : W p l e R s m args below meth c H locs cells slots Q (F0 m pc ls (.long (lI a) :: rest)) := k a rfl
theorem k_ldc2 (hx : p.tables.exec = Jvm.exec) (hb : c.code = cc) {index : Nat} {v : Int64} (hown : s.vm.findClass own = some m.cls) (hconst : (Cond.constantLong own index v).before args s = true) {n : Int} (hv : v = lI n) (hdg : decode cc pc = .ok (.ldc2_w index, 3)) (k : W p l e R s m args below meth c H locs cells slots Q (F0 m (pc + 3) ls (.long (lI n) :: rest))) : W p l e R s m args below meth c H locs cells slots Q (F0 m pc ls rest) := by
  subst hv
  exact lv_ldc2 hx hb hown hconst hdg k
/-! branches -/
theorem k_lt (hx : p.tables.exec = Jvm.exec) (hb : c.code = cc) {a b : Int} {off : Int} {tgt : Nat} (hdg : decode cc pc = .ok (.if_icmp .lt off, 3)) (ht : (pc : Int) + off = (tgt : Int)) (h : -2147483648 ≤ a ∧ a ≤ 2147483647 ∧ -2147483648 ≤ b ∧ b ≤ 2147483647)
    (kt : a < b → W p l e R s m args below meth c H locs cells slots Q (F0 m tgt ls rest)) (kf : b ≤ a → W p l e R s m args below meth c H locs cells slots Q (F0 m (pc + 3) ls rest)) : W p l e R s m args below meth c H locs cells slots Q (F0 m pc ls (.int (zI b) :: .int (zI a) :: rest)) :=
  lv_icmp_lt hx hb hdg ht (fun q => kt ((zI_lt h).mp q)) (fun q => kf (by rw [zI_lt h] at q; omega))
theorem k_le (hx : p.tables.exec = Jvm.exec) (hb : c.code = cc) {a b : Int} {off : Int} {tgt : Nat} (hdg : decode cc pc = .ok (.if_icmp .le off, 3)) (ht : (pc : Int) + off = (tgt : Int)) (h : -2147483648 ≤ a ∧ a ≤ 2147483647 ∧ -2147483648 ≤ b ∧ b ≤ 2147483647)
    (kt : a ≤ b → W p l e R s m args below meth c H locs cells slots Q (F0 m tgt ls rest)) (kf : b < a → W p l e R s m args below meth c H locs cells slots Q (F0 m (pc + 3) ls rest)) : W p l e R s m args below meth c H locs cells slots Q (F0 m pc ls (.int (zI b) :: .int (zI a) :: rest)) :=
  lv_icmp_le hx hb hdg ht (fun q => kt ((zI_le h).mp q)) (fun q => kf (by rw [zI_le h] at q; omega))
theorem k_gt (hx : p.tables.exec = Jvm.exec) (hb : c.code = cc) {a b : Int} {off : Int} {tgt : Nat} (hdg : decode cc pc = .ok (.if_icmp .gt off, 3)) (ht : (pc : Int) + off = (tgt : Int)) (h : -2147483648 ≤ a ∧ a ≤ 2147483647 ∧ -2147483648 ≤ b ∧ b ≤ 2147483647)
    (kt : b < a → W p l e R s m args below meth c H locs cells slots Q (F0 m tgt ls rest)) (kf : a ≤ b → W p l e R s m args below meth c H locs cells slots Q (F0 m (pc + 3) ls rest)) : W p l e R s m args below meth c H locs cells slots Q (F0 m pc ls (.int (zI b) :: .int (zI a) :: rest)) :=
  lv_icmp_gt hx hb hdg ht (fun q => kt ((zI_lt (by omega)).mp q)) (fun q => kf (by rw [zI_lt (by omega)] at q; omega))
theorem k_ge (hx : p.tables.exec = Jvm.exec) (hb : c.code = cc) {a b : Int} {off : Int} {tgt : Nat} (hdg : decode cc pc = .ok (.if_icmp .ge off, 3)) (ht : (pc : Int) + off = (tgt : Int)) (h : -2147483648 ≤ a ∧ a ≤ 2147483647 ∧ -2147483648 ≤ b ∧ b ≤ 2147483647)
    (kt : b ≤ a → W p l e R s m args below meth c H locs cells slots Q (F0 m tgt ls rest)) (kf : a < b → W p l e R s m args below meth c H locs cells slots Q (F0 m (pc + 3) ls rest)) : W p l e R s m args below meth c H locs cells slots Q (F0 m pc ls (.int (zI b) :: .int (zI a) :: rest)) :=
  lv_icmp_ge hx hb hdg ht (fun q => kt ((zI_le (by omega)).mp q)) (fun q => kf (by rw [zI_le (by omega)] at q; omega))
theorem k_eq (hx : p.tables.exec = Jvm.exec) (hb : c.code = cc) {a b : Int} {off : Int} {tgt : Nat} (hdg : decode cc pc = .ok (.if_icmp .eq off, 3)) (ht : (pc : Int) + off = (tgt : Int)) (h : -2147483648 ≤ a ∧ a ≤ 2147483647 ∧ -2147483648 ≤ b ∧ b ≤ 2147483647)
    (kt : a = b → W p l e R s m args below meth c H locs cells slots Q (F0 m tgt ls rest)) (kf : a ≠ b → W p l e R s m args below meth c H locs cells slots Q (F0 m (pc + 3) ls rest)) : W p l e R s m args below meth c H locs cells slots Q (F0 m pc ls (.int (zI b) :: .int (zI a) :: rest)) :=
  lv_icmp_eq hx hb hdg ht (fun q => kt ((zI_eq h).mp q)) (fun q => kf (fun z => q ((zI_eq h).mpr z)))
theorem k_ne (hx : p.tables.exec = Jvm.exec) (hb : c.code = cc) {a b : Int} {off : Int} {tgt : Nat} (hdg : decode cc pc = .ok (.if_icmp .ne off, 3)) (ht : (pc : Int) + off = (tgt : Int)) (h : -2147483648 ≤ a ∧ a ≤ 2147483647 ∧ -2147483648 ≤ b ∧ b ≤ 2147483647)
    (kt : a ≠ b → W p l e R s m args below meth c H locs cells slots Q (F0 m tgt ls rest)) (kf : a = b → W p l e R s m args below meth c H locs cells slots Q (F0 m (pc + 3) ls rest)) : W p l e R s m args below meth c H locs cells slots Q (F0 m pc ls (.int (zI b) :: .int (zI a) :: rest)) :=
  lv_icmp_ne hx hb hdg ht (fun q => kt (fun z => q ((zI_eq h).mpr z))) (fun q => kf ((zI_eq h).mp q))
theorem k_lt0 (hx : p.tables.exec = Jvm.exec) (hb : c.code = cc) {a : Int} {off : Int} {tgt : Nat} (hdg : decode cc pc = .ok (.ifCond .lt off, 3)) (ht : (pc : Int) + off = (tgt : Int)) (h : -2147483648 ≤ a ∧ a ≤ 2147483647)
    (kt : a < 0 → W p l e R s m args below meth c H locs cells slots Q (F0 m tgt ls rest)) (kf : 0 ≤ a → W p l e R s m args below meth c H locs cells slots Q (F0 m (pc + 3) ls rest)) : W p l e R s m args below meth c H locs cells slots Q (F0 m pc ls (.int (zI a) :: rest)) :=
  lv_if_lt hx hb hdg ht (fun q => kt ((zI_lt (b := 0) (by omega)).mp q)) (fun q => kf (by rw [zI_0, zI_lt (by omega)] at q; omega))
theorem k_le0 (hx : p.tables.exec = Jvm.exec) (hb : c.code = cc) {a : Int} {off : Int} {tgt : Nat} (hdg : decode cc pc = .ok (.ifCond .le off, 3)) (ht : (pc : Int) + off = (tgt : Int)) (h : -2147483648 ≤ a ∧ a ≤ 2147483647)
    (kt : a ≤ 0 → W p l e R s m args below meth c H locs cells slots Q (F0 m tgt ls rest)) (kf : 0 < a → W p l e R s m args below meth c H locs cells slots Q (F0 m (pc + 3) ls rest)) : W p l e R s m args below meth c H locs cells slots Q (F0 m pc ls (.int (zI a) :: rest)) :=
  lv_if_le hx hb hdg ht (fun q => kt ((zI_le (b := 0) (by omega)).mp q)) (fun q => kf (by rw [zI_0, zI_le (by omega)] at q; omega))
theorem k_gt0 (hx : p.tables.exec = Jvm.exec) (hb : c.code = cc) {a : Int} {off : Int} {tgt : Nat} (hdg : decode cc pc = .ok (.ifCond .gt off, 3)) (ht : (pc : Int) + off = (tgt : Int)) (h : -2147483648 ≤ a ∧ a ≤ 2147483647)
    (kt : 0 < a → W p l e R s m args below meth c H locs cells slots Q (F0 m tgt ls rest)) (kf : a ≤ 0 → W p l e R s m args below meth c H locs cells slots Q (F0 m (pc + 3) ls rest)) : W p l e R s m args below meth c H locs cells slots Q (F0 m pc ls (.int (zI a) :: rest)) :=
  lv_if_gt hx hb hdg ht (fun q => kt ((zI_lt (a := 0) (by omega)).mp q)) (fun q => kf (by rw [zI_0, zI_lt (by omega)] at q; omega))
theorem k_ge0 (hx : p.tables.exec = Jvm.exec) (hb : c.code = cc) {a : Int} {off : Int} {tgt : Nat} (hdg : decode cc pc = .ok (.ifCond .ge off, 3)) (ht : (pc : Int) + off = (tgt : Int)) (h : -2147483648 ≤ a ∧ a ≤ 2147483647)
    (kt : 0 ≤ a → W p l e R s m args below meth c H locs cells slots Q (F0 m tgt ls rest)) (kf : a < 0 → W p l e R s m args below meth c H locs cells slots Q (F0 m (pc + 3) ls rest)) : W p l e R s m args below meth c H locs cells slots Q (F0 m pc ls (.int (zI a) :: rest)) :=
  lv_if_ge hx hb hdg ht (fun q => kt ((zI_le (a := 0) (by omega)).mp q)) (fun q => kf (by rw [zI_0, zI_le (by omega)] at q; omega))
theorem k_eq0 (hx : p.tables.exec = Jvm.exec) (hb : c.code = cc) {a : Int} {off : Int} {tgt : Nat} (hdg : decode cc pc = .ok (.ifCond .eq off, 3)) (ht : (pc : Int) + off = (tgt : Int)) (h : -2147483648 ≤ a ∧ a ≤ 2147483647)
    (kt : a = 0 → W p l e R s m args below meth c H locs cells slots Q (F0 m tgt ls rest)) (kf : a ≠ 0 → W p l e R s m args below meth c H locs cells slots Q (F0 m (pc + 3) ls rest)) : W p l e R s m args below meth c H locs cells slots Q (F0 m pc ls (.int (zI a) :: rest)) :=
  lv_if_eq hx hb hdg ht (fun q => kt ((zI_eq (b := 0) (by omega)).mp q)) (fun q => kf (fun z => q (by rw [z]; rfl)))
theorem k_ne0 (hx : p.tables.exec = Jvm.exec) (hb : c.code = cc) {a : Int} {off : Int} {tgt : Nat} (hdg : decode cc pc = .ok (.ifCond .ne off, 3)) (ht : (pc : Int) + off = (tgt : Int)) (h : -2147483648 ≤ a ∧ a ≤ 2147483647)
    (kt : a ≠ 0 → W p l e R s m args below meth c H locs cells slots Q (F0 m tgt ls rest)) (kf : a = 0 → W p l e R s m args below meth c H locs cells slots Q (F0 m (pc + 3) ls rest)) : W p l e R s m args below meth c H locs cells slots Q (F0 m pc ls (.int (zI a) :: rest)) :=
  lv_if_ne hx hb hdg ht (fun q => kt (fun z => q (by rw [z]; rfl))) (fun q => kf ((zI_eq (b := 0) (by omega)).mp q))
/-! fields: the classes of the world are 0 Hem, 1 Stitches, 2 HemSuffixes, 3 Rows, 4 Sim -/
theorem k_get (S : CallFix p m c cc nL s args Ts own) (hK : kK E s) (hP : va_P E.1 vwCl (kW E M) H) {x : Int} (hx : 0 ≤ x ∧ x < kn E) {C ref : String} {T : u_T} {N ci index : Nat} {fs : List Value} (he : kC E M x = .inr (ci, fs)) (hc : vwCl[ci]? = some (C, T, N)) (hin : ∀ w ∈ u_ws C T N, w ∈ Ts) (k : Nat) (hk : k < N)
    (hlink : (Cond.fieldLink own index ref (T k).2.1 (T k).2.2.1).before args s = true) (hsame : (T k).1 = ref) {v : Value} (hv : fs[k]? = some v) (hdg : decode cc pc = .ok (.getfield index, 3)) (kk : W p l e R s m args below meth c H locs cells slots Q (F0 m (pc + 3) ls (v :: rest))) : W p l e R s m args below meth c H locs cells slots Q (F0 m pc ls (.ref (E.2.2 x) :: rest)) :=
  va_get S.1 S.2.1 S.2.2.2.2 hin S.2.2.2.1 hK.1 hP x.toNat (by rw [kW_get E M hx, he]) hc k hk hlink (fun y hy => by rw [← hsame]; exact hy) hv hdg kk
theorem k_kinds (S : CallFix p m c cc nL s args Ts own) (hK : kK E s) (hP : va_P E.1 vwCl (kW E M) H) (hin : ∀ w ∈ wsX10, w ∈ Ts) {index : Nat} (hlink : (Cond.fieldLink own index "HemSuffixes$Stitches" "kinds" "[I").before args s = true) (hdg : decode cc pc = .ok (.getfield index, 3)) {x : Int} (hc : 0 ≤ x ∧ x < 3)
    (kk : W p l e R s m args below meth c H locs cells slots Q (F0 m (pc + 3) ls (.ref (E.2.2 (x + 3)) :: rest))) : W p l e R s m args below meth c H locs cells slots Q (F0 m pc ls (.ref (E.2.2 x) :: rest)) :=
  k_get (C := RX1) (T := TX1) S hK hP (by have := hK.2.2.2; omega) (kC_S hc) rfl hin 0 (by decide) hlink rfl rfl hdg kk
theorem k_length (S : CallFix p m c cc nL s args Ts own) (hK : kK E s) (hP : va_P E.1 vwCl (kW E M) H) (hin : ∀ w ∈ wsX10, w ∈ Ts) {index : Nat} (hlink : (Cond.fieldLink own index "HemSuffixes$Stitches" "length" "I").before args s = true) (hdg : decode cc pc = .ok (.getfield index, 3)) {x : Int} (hc : 0 ≤ x ∧ x < 3)
    (kk : W p l e R s m args below meth c H locs cells slots Q (F0 m (pc + 3) ls (.int (zI (M x 1)) :: rest))) : W p l e R s m args below meth c H locs cells slots Q (F0 m pc ls (.ref (E.2.2 x) :: rest)) :=
  k_get (C := RX1) (T := TX1) S hK hP (by have := hK.2.2.2; omega) (kC_S hc) rfl hin 1 (by decide) hlink rfl rfl hdg kk
theorem k_stitches (S : CallFix p m c cc nL s args Ts own) (hK : kK E s) (hP : va_P E.1 vwCl (kW E M) H) (hin : ∀ w ∈ wsX00, w ∈ Ts) {index : Nat} (hlink : (Cond.fieldLink own index "HemSuffixes$Hem" "stitches" "LHemSuffixes$Stitches;").before args s = true) (hdg : decode cc pc = .ok (.getfield index, 3)) {x : Int} (hc : 6 ≤ x ∧ x < 8) (y : Int) (hy : y = x - 6)
    (kk : W p l e R s m args below meth c H locs cells slots Q (F0 m (pc + 3) ls (.ref (E.2.2 y) :: rest))) : W p l e R s m args below meth c H locs cells slots Q (F0 m pc ls (.ref (E.2.2 x) :: rest)) := by
  subst hy
  exact k_get (C := RX0) (T := TX0) S hK hP (by have := hK.2.2.2; omega) (kC_H hc) rfl hin 0 (by decide) hlink rfl rfl hdg kk
theorem k_order (S : CallFix p m c cc nL s args Ts own) (hK : kK E s) (hP : va_P E.1 vwCl (kW E M) H) (hin : ∀ w ∈ wsX00, w ∈ Ts) {index : Nat} (hlink : (Cond.fieldLink own index "HemSuffixes$Hem" "placesInOrder" "[I").before args s = true) (hdg : decode cc pc = .ok (.getfield index, 3)) {x : Int} (hc : 6 ≤ x ∧ x < 8) (y : Int) (hy : y = x + 2)
    (kk : W p l e R s m args below meth c H locs cells slots Q (F0 m (pc + 3) ls (.ref (E.2.2 y) :: rest))) : W p l e R s m args below meth c H locs cells slots Q (F0 m pc ls (.ref (E.2.2 x) :: rest)) := by
  subst hy
  exact k_get (C := RX0) (T := TX0) S hK hP (by have := hK.2.2.2; omega) (kC_H hc) rfl hin 1 (by decide) hlink rfl rfl hdg kk
theorem k_getN (S : CallFix p m c cc nL s args Ts own) (hK : kK E s) (hP : va_P E.1 vwCl (kW E M) H) {x : Int} (hx : 0 ≤ x ∧ x < kn E) {C ref host : String} {T : u_T} {N ci index : Nat} {fs : List Value} (he : kC E M x = .inr (ci, fs)) (hc : vwCl[ci]? = some (C, T, N)) (hin : ∀ w ∈ u_ws C T N, w ∈ Ts) (k : Nat) (hk : k < N)
    (hlink : va_Nw (.fieldLinkNest own index ref (T k).2.1 (T k).2.2.1 host) s) (hsame : (T k).1 = ref) {v : Value} (hv : fs[k]? = some v) (hdg : decode cc pc = .ok (.getfield index, 3)) (kk : W p l e R s m args below meth c H locs cells slots Q (F0 m (pc + 3) ls (v :: rest))) : W p l e R s m args below meth c H locs cells slots Q (F0 m pc ls (.ref (E.2.2 x) :: rest)) :=
  va_getN S.1 S.2.1 S.2.2.2.2 hin S.2.2.2.1 hK.1 hP x.toNat (by rw [kW_get E M hx, he]) hc k hk (va_Nw.use rfl hlink) (fun y hy => by rw [← hsame]; exact hy) hv hdg kk
theorem k_lengthN (S : CallFix p m c cc nL s args Ts own) (hK : kK E s) (hP : va_P E.1 vwCl (kW E M) H) (hin : ∀ w ∈ wsX10, w ∈ Ts) {index : Nat} (hlink : va_Nw (.fieldLinkNest own index "HemSuffixes$Stitches" "length" "I" "HemSuffixes") s) (hdg : decode cc pc = .ok (.getfield index, 3)) {x : Int} (hc : 0 ≤ x ∧ x < 3)
    (kk : W p l e R s m args below meth c H locs cells slots Q (F0 m (pc + 3) ls (.int (zI (M x 1)) :: rest))) : W p l e R s m args below meth c H locs cells slots Q (F0 m pc ls (.ref (E.2.2 x) :: rest)) :=
  k_getN (C := RX1) (T := TX1) S hK hP (by have := hK.2.2.2; omega) (kC_S hc) rfl hin 1 (by decide) hlink rfl rfl hdg kk
theorem k_stitchesN (S : CallFix p m c cc nL s args Ts own) (hK : kK E s) (hP : va_P E.1 vwCl (kW E M) H) (hin : ∀ w ∈ wsX00, w ∈ Ts) {index : Nat} (hlink : va_Nw (.fieldLinkNest own index "HemSuffixes$Hem" "stitches" "LHemSuffixes$Stitches;" "HemSuffixes") s) (hdg : decode cc pc = .ok (.getfield index, 3)) {x : Int} (hc : 6 ≤ x ∧ x < 8) (y : Int) (hy : y = x - 6)
    (kk : W p l e R s m args below meth c H locs cells slots Q (F0 m (pc + 3) ls (.ref (E.2.2 y) :: rest))) : W p l e R s m args below meth c H locs cells slots Q (F0 m pc ls (.ref (E.2.2 x) :: rest)) := by
  subst hy
  exact k_getN (C := RX0) (T := TX0) S hK hP (by have := hK.2.2.2; omega) (kC_H hc) rfl hin 0 (by decide) hlink rfl rfl hdg kk
/-- a reference held by the HemSuffixes object: field k leads to cell y -/
theorem k_own (S : CallFix p m c cc nL s args Ts own) (hK : kK E s) (hP : va_P E.1 vwCl (kW E M) H) (hin : ∀ w ∈ wsX20, w ∈ Ts) (k : Nat) (hk : k < 3) {index : Nat} (hlink : (Cond.fieldLink own index "HemSuffixes" (TX2 k).2.1 (TX2 k).2.2.1).before args s = true) (hdg : decode cc pc = .ok (.getfield index, 3)) {x : Int} (hc : x = 10) (y : Int) (hy : ([.ref (E.2.2 6), .ref (E.2.2 7), .ref (E.2.2 2)] : List Value)[k]? = some (.ref (E.2.2 y))) (hs : (TX2 k).1 = "HemSuffixes")
    (kk : W p l e R s m args below meth c H locs cells slots Q (F0 m (pc + 3) ls (.ref (E.2.2 y) :: rest))) : W p l e R s m args below meth c H locs cells slots Q (F0 m pc ls (.ref (E.2.2 x) :: rest)) := by
  subst hc
  exact k_get (C := RX2) (T := TX2) S hK hP (by have := hK.2.2.2; omega) kC_X rfl hin k hk hlink hs hy hdg kk
/-- a field of the law's objects: Sim (3) and Rows (4) -/
theorem k_sim (S : CallFix p m c cc nL s args Ts own) (hK : kK E s) (hP : va_P E.1 vwCl (kW E M) H) (hin : ∀ w ∈ wsX40, w ∈ Ts) (k : Nat) (hk : k < 2) {index : Nat} (hlink : (Cond.fieldLink own index "HemSuffixesLaw$Sim" (TX4 k).2.1 (TX4 k).2.2.1).before args s = true) (hdg : decode cc pc = .ok (.getfield index, 3)) {x : Int} (hc : 11 ≤ x ∧ x < kn E ∧ M x (-2) = 3) {a : Nat} (ha : M x (k : Int) = (a : Int)) (hs : (TX4 k).1 = "HemSuffixesLaw$Sim")
    (kk : W p l e R s m args below meth c H locs cells slots Q (F0 m (pc + 3) ls (.ref a :: rest))) : W p l e R s m args below meth c H locs cells slots Q (F0 m pc ls (.ref (E.2.2 x) :: rest)) := by
  refine k_get (C := RX4) (T := TX4) (v := .ref a) S hK hP (by omega) (kC_Sim hc.1 hc.2.2) rfl hin k hk hlink hs ?_ hdg kk
  match k, hk, ha with
  | 0, _, ha => show some (kRf (M x 0)) = _; rw [show M x 0 = (a : Int) from ha, kRf_nat]
  | 1, _, ha => show some (kRf (M x 1)) = _; rw [show M x 1 = (a : Int) from ha, kRf_nat]
theorem k_rowsR (S : CallFix p m c cc nL s args Ts own) (hK : kK E s) (hP : va_P E.1 vwCl (kW E M) H) (hin : ∀ w ∈ wsX30, w ∈ Ts) (k : Nat) (hk : k < 10) (hk5 : k ≠ 5) {index : Nat} (hlink : (Cond.fieldLink own index "HemSuffixesLaw$Rows" (TX3 k).2.1 (TX3 k).2.2.1).before args s = true) (hdg : decode cc pc = .ok (.getfield index, 3)) {x : Int} (hc : 11 ≤ x ∧ x < kn E ∧ M x (-2) = 4) {a : Nat} (ha : M x (k : Int) = (a : Int)) (hs : (TX3 k).1 = "HemSuffixesLaw$Rows")
    (kk : W p l e R s m args below meth c H locs cells slots Q (F0 m (pc + 3) ls (.ref a :: rest))) : W p l e R s m args below meth c H locs cells slots Q (F0 m pc ls (.ref (E.2.2 x) :: rest)) := by
  refine k_get (C := RX3) (T := TX3) (v := .ref a) S hK hP (by omega) (kC_Rows hc.1 hc.2.2) rfl hin k hk hlink hs ?_ hdg kk
  match k, hk, hk5, ha with
  | 0, _, _, ha => show some (kRf (M x 0)) = _; rw [show M x 0 = (a : Int) from ha, kRf_nat]
  | 1, _, _, ha => show some (kRf (M x 1)) = _; rw [show M x 1 = (a : Int) from ha, kRf_nat]
  | 2, _, _, ha => show some (kRf (M x 2)) = _; rw [show M x 2 = (a : Int) from ha, kRf_nat]
  | 3, _, _, ha => show some (kRf (M x 3)) = _; rw [show M x 3 = (a : Int) from ha, kRf_nat]
  | 4, _, _, ha => show some (kRf (M x 4)) = _; rw [show M x 4 = (a : Int) from ha, kRf_nat]
  | 6, _, _, ha => show some (kRf (M x 6)) = _; rw [show M x 6 = (a : Int) from ha, kRf_nat]
  | 7, _, _, ha => show some (kRf (M x 7)) = _; rw [show M x 7 = (a : Int) from ha, kRf_nat]
  | 8, _, _, ha => show some (kRf (M x 8)) = _; rw [show M x 8 = (a : Int) from ha, kRf_nat]
  | 9, _, _, ha => show some (kRf (M x 9)) = _; rw [show M x 9 = (a : Int) from ha, kRf_nat]
theorem k_nodes (S : CallFix p m c cc nL s args Ts own) (hK : kK E s) (hP : va_P E.1 vwCl (kW E M) H) (hin : ∀ w ∈ wsX30, w ∈ Ts) {index : Nat} (hlink : (Cond.fieldLink own index "HemSuffixesLaw$Rows" "nodes" "I").before args s = true) (hdg : decode cc pc = .ok (.getfield index, 3)) {x : Int} (hc : 11 ≤ x ∧ x < kn E ∧ M x (-2) = 4)
    (kk : W p l e R s m args below meth c H locs cells slots Q (F0 m (pc + 3) ls (.int (zI (M x 5)) :: rest))) : W p l e R s m args below meth c H locs cells slots Q (F0 m pc ls (.ref (E.2.2 x) :: rest)) :=
  k_get (C := RX3) (T := TX3) (v := .int (zI (M x 5))) S hK hP (by omega) (kC_Rows hc.1 hc.2.2) rfl hin 5 (by decide) hlink rfl rfl hdg kk
/-! stores into fields: a world's number changes -/
theorem k_putlength (S : CallFix p m c cc nL s args Ts own) (hK : kK E s) (hE : kInj E) {sz : Nat} {H0 : Heap} (hP : va_P E.1 vwCl (kW E M) H) (hS : va_S (kA E sz) H0 H locs) (hin : ∀ w ∈ wsX10, w ∈ Ts) {index : Nat} (hlink : (Cond.fieldLink own index "HemSuffixes$Stitches" "length" "I").before args s = true) (hdg : decode cc pc = .ok (.putfield index, 3)) {x v : Int} (hc : 0 ≤ x ∧ x < 3)
    (kk : ∀ (H1 : Heap) (locs1 : List Loc), va_P E.1 vwCl (kW E (kU M x 1 v)) H1 → va_S (kA E sz) H0 H1 locs1 → W p l e R s m args below meth c H1 locs1 cells slots Q (F0 m (pc + 3) ls rest)) : W p l e R s m args below meth c H locs cells slots Q (F0 m pc ls (.int (zI v) :: .ref (E.2.2 x) :: rest)) := by
  have hn := hK.2.2.2
  refine va_put (ty := .int) (C := RX1) (T := TX1) (N := 2) (ci := 1) S.1 S.2.1 S.2.2.2.2 hin tyX1 tyX1_ok nmX1 S.2.2.2.1 hK.1 hP (kW_DA hE M sz) hS x.toNat (by rw [kW_get E M (by omega), kC_S hc]) rfl 1 (by decide) hlink (fun y hy => hy) rfl rfl rfl rfl (Nat.le_of_ble_eq_true rfl) hdg (fun H1 locs1 h1 _ h3 => kk H1 locs1 ?_ h3)
  rw [kW_set (M' := kU M x 1 v) (by omega) (by rw [kC_S hc, kU_same]; rfl) (fun k hk i => kU_cell hk)] at h1
  exact h1
/-- the number of nodes -/
theorem k_putnodes {A : Nat → Prop} {sz : Nat} {H0 : Heap} (S : CallFix p m c cc nL s args Ts own) (hK : kK E s) (hG : kG A sz E) (hP : va_P E.1 vwCl (kW E M) H) (hS : va_S A H0 H locs) (hin : ∀ w ∈ wsX30, w ∈ Ts) {index : Nat} (hlink : (Cond.fieldLink own index "HemSuffixesLaw$Rows" "nodes" "I").before args s = true) (hdg : decode cc pc = .ok (.putfield index, 3)) {x v : Int} (hc : 11 ≤ x ∧ x < kn E ∧ M x (-2) = 4)
    (kk : ∀ (H1 : Heap) (locs1 : List Loc), va_P E.1 vwCl (kW E (kU M x 5 v)) H1 → va_S A H0 H1 locs1 → W p l e R s m args below meth c H1 locs1 cells slots Q (F0 m (pc + 3) ls rest)) : W p l e R s m args below meth c H locs cells slots Q (F0 m pc ls (.int (zI v) :: .ref (E.2.2 x) :: rest)) := by
  refine va_put (ty := .int) (C := RX3) (T := TX3) (N := 10) (ci := 3) S.1 S.2.1 S.2.2.2.2 hin tyX3 tyX3_ok nmX3 S.2.2.2.1 hK.1 hP (hG.D M) hS x.toNat (by rw [kW_get E M (by omega), kC_Rows hc.1 hc.2.2]) rfl 5 (by decide) hlink (fun y hy => hy) rfl rfl rfl rfl (Nat.le_of_ble_eq_true rfl) hdg (fun H1 locs1 h1 _ h3 => kk H1 locs1 ?_ h3)
  rw [kW_set (M' := kU M x 5 v) (by omega) (by rw [kC_Rows hc.1 (by rw [kU_place (by decide)]; exact hc.2.2), kU_same, kU_place (by decide), kU_place (by decide), kU_place (by decide), kU_place (by decide), kU_place (by decide), kU_place (by decide), kU_place (by decide), kU_place (by decide), kU_place (by decide)]; rfl) (fun k hk i => kU_cell hk)] at h1
  exact h1
/-- a row into a field of Sim -/
theorem k_putsim {A : Nat → Prop} {sz : Nat} {H0 : Heap} (S : CallFix p m c cc nL s args Ts own) (hK : kK E s) (hG : kG A sz E) (hP : va_P E.1 vwCl (kW E M) H) (hS : va_S A H0 H locs) (hin : ∀ w ∈ wsX40, w ∈ Ts) (k : Nat) (hk : k < 2) {index : Nat} (hlink : (Cond.fieldLink own index "HemSuffixesLaw$Sim" (TX4 k).2.1 (TX4 k).2.2.1).before args s = true) (hdg : decode cc pc = .ok (.putfield index, 3)) {x : Int} {v : Nat} (hc : 11 ≤ x ∧ x < kn E ∧ M x (-2) = 3)
    (kk : ∀ (H1 : Heap) (locs1 : List Loc), va_P E.1 vwCl (kW E (kU M x (k : Int) (v : Int))) H1 → va_S A H0 H1 locs1 → W p l e R s m args below meth c H1 locs1 cells slots Q (F0 m (pc + 3) ls rest)) : W p l e R s m args below meth c H locs cells slots Q (F0 m pc ls (.ref v :: .ref (E.2.2 x) :: rest)) := by
  match k, hk, hlink, kk with
  | 0, _, hlink, kk =>
    refine va_put (v := .ref v) (ty := .array (.array .int)) (C := RX4) (T := TX4) (N := 2) (ci := 4) S.1 S.2.1 S.2.2.2.2 hin tyX4 tyX4_ok nmX4 S.2.2.2.1 hK.1 hP (hG.D M) hS x.toNat (by rw [kW_get E M (by omega), kC_Sim hc.1 hc.2.2]) rfl 0 (by decide) hlink (fun y hy => hy) rfl rfl rfl rfl (Nat.le_of_ble_eq_true rfl) hdg (fun H1 locs1 h1 _ h3 => kk H1 locs1 ?_ h3)
    rw [kW_set (M' := kU M x 0 (v : Int)) (by omega) (by rw [kC_Sim hc.1 (by rw [kU_place (by decide)]; exact hc.2.2), kU_same, kU_place (by decide), kRf_nat]; rfl) (fun k hk i => kU_cell hk)] at h1
    exact h1
  | 1, _, hlink, kk =>
    refine va_put (v := .ref v) (ty := .array .int) (C := RX4) (T := TX4) (N := 2) (ci := 4) S.1 S.2.1 S.2.2.2.2 hin tyX4 tyX4_ok nmX4 S.2.2.2.1 hK.1 hP (hG.D M) hS x.toNat (by rw [kW_get E M (by omega), kC_Sim hc.1 hc.2.2]) rfl 1 (by decide) hlink (fun y hy => hy) rfl rfl rfl rfl (Nat.le_of_ble_eq_true rfl) hdg (fun H1 locs1 h1 _ h3 => kk H1 locs1 ?_ h3)
    rw [kW_set (M' := kU M x 1 (v : Int)) (by omega) (by rw [kC_Sim hc.1 (by rw [kU_place (by decide)]; exact hc.2.2), kU_same, kU_place (by decide), kRf_nat]; rfl) (fun k hk i => kU_cell hk)] at h1
    exact h1
/-! arrays -/
theorem k_ald (S : CallFix p m c cc nL s args Ts own) (hK : kK E s) (hP : va_P E.1 vwCl (kW E M) H) {x i : Int} (n : Int) (hc : kArr E M x n) (hi : 0 ≤ i ∧ i < n) (hdg : decode cc pc = .ok (.iaload, 1))
    (kk : W p l e R s m args below meth c H locs cells slots Q (F0 m (pc + 1) ls (.int (zI (M x i)) :: rest))) : W p l e R s m args below meth c H locs cells slots Q (F0 m pc ls (.int (zI i) :: .ref (E.2.2 x) :: rest)) := by
  have hr := kArr_rng hc hK.2.2.2
  refine va_iald S.1 S.2.1 hK.1 hP x.toNat 0 (by rw [kW_get E M (by omega), kC_A hc]) rfl (zI_in (by omega) (by omega)) hdg ?_
  rw [zI_nat (by omega), show ((i.toNat : Nat) : Int) = i by omega]
  exact kk
theorem k_astG {A : Nat → Prop} {sz : Nat} {H0 : Heap} (S : CallFix p m c cc nL s args Ts own) (hK : kK E s) (hG : kG A sz E) (hP : va_P E.1 vwCl (kW E M) H) (hS : va_S A H0 H locs) {x i v : Int} (n : Int) (hc : kArr E M x n) (hi : 0 ≤ i ∧ i < n) (hdg : decode cc pc = .ok (.iastore, 1))
    (kk : ∀ (H1 : Heap) (locs1 : List Loc), va_P E.1 vwCl (kW E (kU M x i v)) H1 → va_S A H0 H1 locs1 → W p l e R s m args below meth c H1 locs1 cells slots Q (F0 m (pc + 1) ls rest)) : W p l e R s m args below meth c H locs cells slots Q (F0 m pc ls (.int (zI v) :: .int (zI i) :: .ref (E.2.2 x) :: rest)) := by
  have hr := kArr_rng hc hK.2.2.2
  refine va_iast S.1 S.2.1 hK.1 hP (hG.D M) hS x.toNat 0 (by rw [kW_get E M (by omega), kC_A hc]) rfl (zI_in (by omega) (by omega)) hdg (fun H1 locs1 h1 _ h3 => kk H1 locs1 ?_ h3)
  have hc2 : kArr E (kU M x i v) x n := by
    unfold kArr at hc ⊢
    rw [kU_place (by omega), kU_place (by omega)]
    exact hc
  rw [kW_set (M' := kU M x i v) (by omega) ?_ (fun k hk i => kU_cell hk)] at h1
  · exact h1
  · rw [kC_A hc2, zI_nat (by omega)]
    congr 4
    funext j
    unfold upd
    split
    · rename_i h
      rw [h, show ((i.toNat : Nat) : Int) = i by omega, kU_same]
    · rw [kU_place (by omega)]
theorem k_ast (S : CallFix p m c cc nL s args Ts own) (hK : kK E s) (hE : kInj E) {sz : Nat} {H0 : Heap} (hP : va_P E.1 vwCl (kW E M) H) (hS : va_S (kA E sz) H0 H locs) {x i v : Int} (n : Int) (hc : kArr E M x n) (hi : 0 ≤ i ∧ i < n) (hdg : decode cc pc = .ok (.iastore, 1))
    (kk : ∀ (H1 : Heap) (locs1 : List Loc), va_P E.1 vwCl (kW E (kU M x i v)) H1 → va_S (kA E sz) H0 H1 locs1 → W p l e R s m args below meth c H1 locs1 cells slots Q (F0 m (pc + 1) ls rest)) : W p l e R s m args below meth c H locs cells slots Q (F0 m pc ls (.int (zI v) :: .int (zI i) :: .ref (E.2.2 x) :: rest)) := k_astG S hK (kG.rf hE sz) hP hS n hc hi hdg kk
theorem k_alen (S : CallFix p m c cc nL s args Ts own) (hK : kK E s) (hP : va_P E.1 vwCl (kW E M) H) {x : Int} (n : Int) (hc : kArr E M x n) (hdg : decode cc pc = .ok (.arraylength, 1))
    (kk : W p l e R s m args below meth c H locs cells slots Q (F0 m (pc + 1) ls (.int (zI n) :: rest))) : W p l e R s m args below meth c H locs cells slots Q (F0 m pc ls (.ref (E.2.2 x) :: rest)) := by
  have hr := kArr_rng hc hK.2.2.2
  refine va_alen (v := zI n) S.1 S.2.1 hK.1 hP x.toNat 0 (by rw [kW_get E M (by omega), kC_A hc]) rfl ?_ hdg kk
  rw [zI, show n = ((n.toNat : Nat) : Int) by omega]
  exact (Int32.ofInt_eq_ofNat).symm
/-- rows of truth values -/
def kArZ (E : kE) (M : kM) (c len : Int) : Prop := 11 ≤ c ∧ c < kn E ∧ M c (-2) = 1 ∧ M c (-1) = len ∧ 0 ≤ len ∧ len ≤ 100000
theorem k_zald (S : CallFix p m c cc nL s args Ts own) (hK : kK E s) (hP : va_P E.1 vwCl (kW E M) H) {x i : Int} (n : Int) (hc : kArZ E M x n) (hi : 0 ≤ i ∧ i < n) (hdg : decode cc pc = .ok (.baload, 1))
    (kk : W p l e R s m args below meth c H locs cells slots Q (F0 m (pc + 1) ls (.int (zI (M x i)) :: rest))) : W p l e R s m args below meth c H locs cells slots Q (F0 m pc ls (.int (zI i) :: .ref (E.2.2 x) :: rest)) := by
  obtain ⟨h1, h2, h3, h4, h5, h6⟩ := hc
  refine va_zald S.1 S.2.1 hK.1 hP x.toNat 2 (by rw [kW_get E M (by omega), kC_Z h1 h3]) rfl (zI_in (by omega) (by omega)) hdg ?_
  rw [zI_nat (by omega), show ((i.toNat : Nat) : Int) = i by omega]
  exact kk
theorem k_zast {A : Nat → Prop} {sz : Nat} {H0 : Heap} (S : CallFix p m c cc nL s args Ts own) (hK : kK E s) (hG : kG A sz E) (hP : va_P E.1 vwCl (kW E M) H) (hS : va_S A H0 H locs) {x i v : Int} (n : Int) (hc : kArZ E M x n) (hi : 0 ≤ i ∧ i < n) (hv : v = 0 ∨ v = 1) (hdg : decode cc pc = .ok (.bastore, 1))
    (kk : ∀ (H1 : Heap) (locs1 : List Loc), va_P E.1 vwCl (kW E (kU M x i v)) H1 → va_S A H0 H1 locs1 → W p l e R s m args below meth c H1 locs1 cells slots Q (F0 m (pc + 1) ls rest)) : W p l e R s m args below meth c H locs cells slots Q (F0 m pc ls (.int (zI v) :: .int (zI i) :: .ref (E.2.2 x) :: rest)) := by
  obtain ⟨h1, h2, h3, h4, h5, h6⟩ := hc
  refine va_zast S.1 S.2.1 hK.1 hP (hG.D M) hS x.toNat 2 (by rw [kW_get E M (by omega), kC_Z h1 h3]) rfl (zI_in (by omega) (by omega)) hdg (fun H1 locs1 g1 _ g3 => kk H1 locs1 ?_ g3)
  have hz : vp_nar .boolean (zI v) = zI v := by rcases hv with rfl | rfl <;> decide
  rw [hz, kW_set (M' := kU M x i v) (by omega) ?_ (fun k hk i => kU_cell hk)] at g1
  · exact g1
  · rw [kC_Z h1 (by rw [kU_place (by omega)]; exact h3), kU_place (by omega), zI_nat (by omega)]
    congr 4
    funext j
    unfold upd
    split
    · rename_i h
      rw [h, show ((i.toNat : Nat) : Int) = i by omega, kU_same]
    · rw [kU_place (by omega)]
/-- rows of rows -/
def kArG (E : kE) (M : kM) (c len : Int) : Prop := 11 ≤ c ∧ c < kn E ∧ M c (-2) = 2 ∧ M c (-1) = len ∧ 0 ≤ len ∧ len ≤ 100000
theorem k_aald (S : CallFix p m c cc nL s args Ts own) (hK : kK E s) (hP : va_P E.1 vwCl (kW E M) H) {x i : Int} (n : Int) (hc : kArG E M x n) (hi : 0 ≤ i ∧ i < n) {a : Nat} (ha : M x i = (a : Int)) (hdg : decode cc pc = .ok (.aaload, 1))
    (kk : W p l e R s m args below meth c H locs cells slots Q (F0 m (pc + 1) ls (.ref a :: rest))) : W p l e R s m args below meth c H locs cells slots Q (F0 m pc ls (.int (zI i) :: .ref (E.2.2 x) :: rest)) := by
  obtain ⟨h1, h2, h3, h4, h5, h6⟩ := hc
  have hlt : (zI i).toNatClampNeg < (M x (-1)).toNat := by rw [zI_nat (by omega)]; omega
  have hin : vp_in (zI i) (M x (-1)).toNat := zI_in (by omega) (by omega)
  have ha2 : (kW E M)[x.toNat]? = some (E.2.2 x, .inl (kaG E, (M x (-1)).toNat, .inr (.inr (.inr (.inr (fun j => kOr (M x (j : Int)))))))) := by rw [kW_get E M (by omega), kC_G h1 h3]
  refine W.aald (v := .ref a) (ty := .array .int) S.1 S.2.1 (hP x.toNat _ ha2) ((hK.1.2 1 (kaG E, .array .int) rfl).1 (M x (-1)).toNat (fun j => va_rf (kOr (M x (j : Int))))) rfl (fun q => by cases q) (by show ¬ (zI i < 0 ∨ (arrV _ _ _).slots.size ≤ _); rw [arrV_size]; exact hin) ?_ rfl rfl hdg kk
  show (arrV _ _ _).slots[_]? = _
  rw [arrV_read _ _ hlt, zI_nat (by omega)]
  show some (va_rf (kOr (M x ((i.toNat : Nat) : Int)))) = _
  rw [show ((i.toNat : Nat) : Int) = i by omega, ha, kOr_nat]
  rfl
theorem k_aast {A : Nat → Prop} {sz : Nat} {H0 : Heap} (S : CallFix p m c cc nL s args Ts own) (hK : kK E s) (hG : kG A sz E) (hP : va_P E.1 vwCl (kW E M) H) (hS : va_S A H0 H locs) {x i y : Int} (n k : Int) (hc : kArG E M x n) (hi : 0 ≤ i ∧ i < n) (hy : kArr E M y k) (hdg : decode cc pc = .ok (.aastore, 1))
    (kk : ∀ (H1 : Heap) (locs1 : List Loc), va_P E.1 vwCl (kW E (kU M x i (E.2.2 y : Int))) H1 → va_S A H0 H1 locs1 → W p l e R s m args below meth c H1 locs1 cells slots Q (F0 m (pc + 1) ls rest)) : W p l e R s m args below meth c H locs cells slots Q (F0 m pc ls (.ref (E.2.2 y) :: .int (zI i) :: .ref (E.2.2 x) :: rest)) := by
  obtain ⟨h1, h2, h3, h4, h5, h6⟩ := hc
  have hr := kArr_rng hy hK.2.2.2
  have hin : vp_in (zI i) (M x (-1)).toNat := zI_in (by omega) (by omega)
  have hlt : (zI i).toNatClampNeg < (M x (-1)).toNat := by rw [zI_nat (by omega)]; omega
  have ha2 : (kW E M)[x.toNat]? = some (E.2.2 x, .inl (kaG E, (M x (-1)).toNat, .inr (.inr (.inr (.inr (fun j => kOr (M x (j : Int)))))))) := by rw [kW_get E M (by omega), kC_G h1 h3]
  have hy2 : (kW E M)[y.toNat]? = some (E.2.2 y, .inl (kaI E, k.toNat, .inl (fun j => zI (M y (j : Int))))) := by rw [kW_get E M (by omega), kC_A hy]
  obtain ⟨comp, cA, kA, g0, g1, g2, g3, g4⟩ := arrayOver_specB hK.2.2.1
  have e1 : cA = kaG E := Option.some.inj (g4.symm.trans (hK.1.2 1 (kaG E, .array .int) rfl).2)
  have e2 : comp = kaI E := Option.some.inj (g0.symm.trans (hK.1.2 0 (kaI E, .int) rfl).2)
  obtain ⟨kc, hkc, -⟩ := Vm.findClass_spec g0
  have hself : s.vm.assignable (kaI E) comp = true := by
    rw [e2]
    unfold Vm.assignable
    unfold Vm.assignableAux
    simp
  refine W.aast (comp := comp) (t := .array .int) S.1 S.2.1 (hP x.toNat _ ha2) (fun q h => by cases h) (fun h => by cases h) (by rw [← e1] ; exact g2) g3 rfl hkc ⟨fun q => hin (Or.inl q), by show _ < (arrV _ _ _).slots.size; rw [arrV_size]; exact hlt⟩ (hP y.toNat _ hy2) (fun q h => by cases h) (by rw [e2] at hkc; exact hkc) hself rfl rfl hdg (fun H1 e z oq => ?_)
  refine kk H1 _ ?_ (hS.put z oq ((hG.D M).2 x.toNat _ ha2))
  have hset : kC E (kU M x i (E.2.2 y : Int)) x = .inl (kaG E, (M x (-1)).toNat, .inr (.inr (.inr (.inr (fun j => kOr (kU M x i (E.2.2 y : Int) x (j : Int))))))) := by
    rw [kC_G h1 (by rw [kU_place (by omega)]; exact h3), kU_place (by omega)]
  have hP2 := hP.set (hG.D M) ha2 (e := kC E (kU M x i (E.2.2 y : Int)) x) ?_ oq
  · rw [kW_set (M' := kU M x i (E.2.2 y : Int)) (by omega) rfl (fun k hk i => kU_cell hk)] at hP2
    exact hP2
  · rw [hset]
    show H1[E.2.2 x]? = some (vp_cell _ _)
    rw [e, vp_cell_q, vp_cell_q, arrV_store]
    congr 2
    funext j
    unfold updV
    rw [zI_nat (by omega)]
    split
    · rename_i h
      rw [h, show ((i.toNat : Nat) : Int) = i by omega, kU_same, kOr_nat]
      rfl
    · rw [kU_place (by omega)]
end KY
end
section
/-! contracts over the world of cells by numbers: kRO reads alone (an int), kROl (a long), kRW (an int, the world changes), kRV (nothing comes back) -/
def kPre (E : kE) (M : kM) (av : List Value) : Array Value → State → Prop := va_Pc av (fun U => va_P E.1 vwCl (kW E M) U.heap ∧ kK E U)
def kPreW (E : kE) (M : kM) (sz : Nat) (av : List Value) : Array Value → State → Prop := va_Pc av (fun U => U.heap.size = sz ∧ va_P E.1 vwCl (kW E M) U.heap ∧ kK E U)
def kRO (l : Launch) (y : MethodName) (ws : List Cond) (rm : Room) (E : kE) (M : kM) (av : List Value) (post : Int → Prop) : Prop := Met l y ws rm (kPre E M av) (vp_Si (fun r => ∃ z : Int, r = zI z ∧ post z)) 0 0 (fun _ => False)
def kROl (l : Launch) (y : MethodName) (ws : List Cond) (rm : Room) (E : kE) (M : kM) (av : List Value) (post : Int → Prop) : Prop := Met l y ws rm (kPre E M av) (vp_Sl (fun r => ∃ z : Int, r = lI z ∧ post z)) 0 0 (fun _ => False)
def kRW (l : Launch) (y : MethodName) (ws : List Cond) (rm : Room) (E : kE) (M : kM) (av : List Value) (post : Int → kM → Prop) : Prop := ∀ sz : Nat, Met l y ws rm (kPreW E M sz av) (va_Qi (fun r (u : Int × kM) => r = zI u.1 ∧ post u.1 u.2) (fun u t => va_P E.1 vwCl (kW E u.2) t.heap) (kA E sz)) 0 0 (kA E sz)
def kRWl (l : Launch) (y : MethodName) (ws : List Cond) (rm : Room) (E : kE) (M : kM) (av : List Value) (post : Int → kM → Prop) : Prop := ∀ sz : Nat, Met l y ws rm (kPreW E M sz av) (va_Ql (fun r (u : Int × kM) => r = lI u.1 ∧ post u.1 u.2) (fun u t => va_P E.1 vwCl (kW E u.2) t.heap) (kA E sz)) 0 0 (kA E sz)
def kRV (l : Launch) (y : MethodName) (ws : List Cond) (rm : Room) (E : kE) (M : kM) (av : List Value) (post : kM → Prop) : Prop := ∀ sz : Nat, Met l y ws rm (kPreW E M sz av) (va_Qv (fun u : kM => post u) (fun u t => va_P E.1 vwCl (kW E u) t.heap) (kA E sz)) 0 0 (kA E sz)
theorem kPre_blind {E : kE} {M : kM} {av : List Value} : FrameBlind (kPre E M av) := fun a U g mk q => ⟨q.1, q.2.1, kK.same (u := U) (U := U.calling g mk a) rfl q.2.2⟩
theorem kPreW_blind {E : kE} {M : kM} {sz : Nat} {av : List Value} : FrameBlind (kPreW E M sz av) := fun a U g mk q => ⟨q.1, q.2.1, q.2.2.1, kK.same (u := U) (U := U.calling g mk a) rfl q.2.2.2⟩
/-! a body, from its entry: Q is whatever is owed at the end; 'ends' pays it -/
theorem kRO_of {l : Launch} {y : MethodName} {ws ws' : List Cond} {rm : Room} {E : kE} {M : kM} {av : List Value} {post : Int → Prop} {cc : ByteArray} {maxL : Nat} {rt : FieldType} (own : String) (hy : plainName y.cls = true) (hw : ws = Cond.code y cc maxL (some rt) :: ws') (ho : y.cls = own) (hlen : (lg_sl av).length ≤ maxL)
    (hrt : ∀ z : Int, post z → narrow rt (.int (zI z)) = .int (zI z))
    (body : ∀ (p : Program) (e : Env) (s : State) (m : MethodId) (args : Array Value) (below : List Frame) (meth : Method) (c : Code) (ls : Array Slot) (Q : State → Prop), CallFix p m c cc maxL s args ws own → va_P E.1 vwCl (kW E M) s.heap → kK E s →
      (∀ (pc : Nat) (ls : Array Slot) (z : Int), decode cc pc = .ok (.ireturn, 1) → post z → W p l e rm s m args below meth c s.heap [] 0 0 Q (F0 m pc ls [.int (zI z)])) → lv_has ls maxL (lv_args 0 av) → W p l e rm s m args below meth c s.heap [] 0 0 Q (F0 m 0 ls [])) : kRO l y ws rm E M av post := by
  refine Met.ofW (cc := cc) (maxL := maxL) (ret := some rt) hy hw ?_
  intro p e s m args below meth c s₁ B hml hv
  obtain ⟨rfl, hP, hK⟩ := hv
  have hx := B.exec
  have hb := B.bytes
  have hr := B.returns
  have hlocks := B.notSynchronized
  have hl := lv_entry av (n := maxL) hlen
  rw [lg_entry_eq]
  generalize (lg_sl av ++ List.replicate (maxL - (lg_sl av).length) Slot.unset).toArray = ls at hl ⊢
  refine body p e s m _ below meth c ls _ ⟨hx, hb, hml, by rw [← ho]; exact findClass_of_methodNamed B.named, atoms_spec (ws := ws) B.pre⟩ hP hK (fun pc ls z hdg hp => ?_) hl
  exact W.zret (v := zI z) hx hb hr (hrt z hp) (fun t ht hW => ⟨zI z, rfl, ⟨z, rfl, hp⟩, ht⟩) (fun q hq => absurd hq List.not_mem_nil) hdg hlocks
theorem kROl_of {l : Launch} {y : MethodName} {ws ws' : List Cond} {rm : Room} {E : kE} {M : kM} {av : List Value} {post : Int → Prop} {cc : ByteArray} {maxL : Nat} (own : String) (hy : plainName y.cls = true) (hw : ws = Cond.code y cc maxL (some .long) :: ws') (ho : y.cls = own) (hlen : (lg_sl av).length ≤ maxL)
    (body : ∀ (p : Program) (e : Env) (s : State) (m : MethodId) (args : Array Value) (below : List Frame) (meth : Method) (c : Code) (ls : Array Slot) (Q : State → Prop), CallFix p m c cc maxL s args ws own → va_P E.1 vwCl (kW E M) s.heap → kK E s →
      (∀ (pc : Nat) (ls : Array Slot) (z : Int), decode cc pc = .ok (.lreturn, 1) → post z → W p l e rm s m args below meth c s.heap [] 0 0 Q (F0 m pc ls [.long (lI z)])) → lv_has ls maxL (lv_args 0 av) → W p l e rm s m args below meth c s.heap [] 0 0 Q (F0 m 0 ls [])) : kROl l y ws rm E M av post := by
  refine Met.ofW (cc := cc) (maxL := maxL) (ret := some .long) hy hw ?_
  intro p e s m args below meth c s₁ B hml hv
  obtain ⟨rfl, hP, hK⟩ := hv
  have hx := B.exec
  have hb := B.bytes
  have hr := B.returns
  have hlocks := B.notSynchronized
  have hl := lv_entry av (n := maxL) hlen
  rw [lg_entry_eq]
  generalize (lg_sl av ++ List.replicate (maxL - (lg_sl av).length) Slot.unset).toArray = ls at hl ⊢
  refine body p e s m _ below meth c ls _ ⟨hx, hb, hml, by rw [← ho]; exact findClass_of_methodNamed B.named, atoms_spec (ws := ws) B.pre⟩ hP hK (fun pc ls z hdg hp => ?_) hl
  exact W.lret (v := lI z) hx hb hr (fun t ht hW => ⟨lI z, rfl, ⟨z, rfl, hp⟩, ht⟩) (fun q hq => absurd hq List.not_mem_nil) hdg hlocks
theorem kRW_of {l : Launch} {y : MethodName} {ws ws' : List Cond} {rm : Room} {E : kE} {M : kM} {av : List Value} {post : Int → kM → Prop} {cc : ByteArray} {maxL : Nat} {rt : FieldType} (own : String) (hy : plainName y.cls = true) (hw : ws = Cond.code y cc maxL (some rt) :: ws') (ho : y.cls = own) (hlen : (lg_sl av).length ≤ maxL)
    (hrt : ∀ (z : Int) (M1 : kM), post z M1 → narrow rt (.int (zI z)) = .int (zI z))
    (body : ∀ (p : Program) (e : Env) (s : State) (m : MethodId) (args : Array Value) (below : List Frame) (meth : Method) (c : Code) (ls : Array Slot) (Q : State → Prop), CallFix p m c cc maxL s args ws own → va_P E.1 vwCl (kW E M) s.heap → va_S (kA E s.heap.size) s.heap s.heap [] → kK E s →
      (∀ (pc : Nat) (ls : Array Slot) (z : Int) (M1 : kM) (H : Heap) (locs : List Loc), decode cc pc = .ok (.ireturn, 1) → va_P E.1 vwCl (kW E M1) H → va_S (kA E s.heap.size) s.heap H locs → post z M1 → W p l e rm s m args below meth c H locs 0 0 Q (F0 m pc ls [.int (zI z)])) → lv_has ls maxL (lv_args 0 av) → W p l e rm s m args below meth c s.heap [] 0 0 Q (F0 m 0 ls [])) : kRW l y ws rm E M av post := by
  intro sz
  refine Met.ofW (cc := cc) (maxL := maxL) (ret := some rt) hy hw ?_
  intro p e s m args below meth c s₁ B hml hv
  obtain ⟨rfl, rfl, hP, hK⟩ := hv
  have hx := B.exec
  have hb := B.bytes
  have hr := B.returns
  have hlocks := B.notSynchronized
  have hl := lv_entry av (n := maxL) hlen
  rw [lg_entry_eq]
  generalize (lg_sl av ++ List.replicate (maxL - (lg_sl av).length) Slot.unset).toArray = ls at hl ⊢
  refine body p e s m _ below meth c ls _ ⟨hx, hb, hml, by rw [← ho]; exact findClass_of_methodNamed B.named, atoms_spec (ws := ws) B.pre⟩ hP va_S.rf hK (fun pc ls z M1 H locs hdg hP1 hS hp => ?_) hl
  exact W.zret (v := zI z) hx hb hr (hrt z M1 hp) (fun t ht hW => ⟨⟨zI z, (z, M1), rfl, ⟨rfl, hp⟩, by subst ht; exact hP1⟩, hS.F ht⟩) hS.2.2 hdg hlocks
theorem kRWl_of {l : Launch} {y : MethodName} {ws ws' : List Cond} {rm : Room} {E : kE} {M : kM} {av : List Value} {post : Int → kM → Prop} {cc : ByteArray} {maxL : Nat} (own : String) (hy : plainName y.cls = true) (hw : ws = Cond.code y cc maxL (some .long) :: ws') (ho : y.cls = own) (hlen : (lg_sl av).length ≤ maxL)
    (body : ∀ (p : Program) (e : Env) (s : State) (m : MethodId) (args : Array Value) (below : List Frame) (meth : Method) (c : Code) (ls : Array Slot) (Q : State → Prop), CallFix p m c cc maxL s args ws own → va_P E.1 vwCl (kW E M) s.heap → va_S (kA E s.heap.size) s.heap s.heap [] → kK E s →
      (∀ (pc : Nat) (ls : Array Slot) (z : Int) (M1 : kM) (H : Heap) (locs : List Loc), decode cc pc = .ok (.lreturn, 1) → va_P E.1 vwCl (kW E M1) H → va_S (kA E s.heap.size) s.heap H locs → post z M1 → W p l e rm s m args below meth c H locs 0 0 Q (F0 m pc ls [.long (lI z)])) → lv_has ls maxL (lv_args 0 av) → W p l e rm s m args below meth c s.heap [] 0 0 Q (F0 m 0 ls [])) : kRWl l y ws rm E M av post := by
  intro sz
  refine Met.ofW (cc := cc) (maxL := maxL) (ret := some .long) hy hw ?_
  intro p e s m args below meth c s₁ B hml hv
  obtain ⟨rfl, rfl, hP, hK⟩ := hv
  have hx := B.exec
  have hb := B.bytes
  have hr := B.returns
  have hlocks := B.notSynchronized
  have hl := lv_entry av (n := maxL) hlen
  rw [lg_entry_eq]
  generalize (lg_sl av ++ List.replicate (maxL - (lg_sl av).length) Slot.unset).toArray = ls at hl ⊢
  refine body p e s m _ below meth c ls _ ⟨hx, hb, hml, by rw [← ho]; exact findClass_of_methodNamed B.named, atoms_spec (ws := ws) B.pre⟩ hP va_S.rf hK (fun pc ls z M1 H locs hdg hP1 hS hp => ?_) hl
  exact W.lret (v := lI z) hx hb hr (fun t ht hW => ⟨⟨lI z, (z, M1), rfl, ⟨rfl, hp⟩, by subst ht; exact hP1⟩, hS.F ht⟩) hS.2.2 hdg hlocks
theorem kRV_of {l : Launch} {y : MethodName} {ws ws' : List Cond} {rm : Room} {E : kE} {M : kM} {av : List Value} {post : kM → Prop} {cc : ByteArray} {maxL : Nat} (own : String) (hy : plainName y.cls = true) (hw : ws = Cond.code y cc maxL none :: ws') (ho : y.cls = own) (hlen : (lg_sl av).length ≤ maxL)
    (body : ∀ (p : Program) (e : Env) (s : State) (m : MethodId) (args : Array Value) (below : List Frame) (meth : Method) (c : Code) (ls : Array Slot) (Q : State → Prop), CallFix p m c cc maxL s args ws own → va_P E.1 vwCl (kW E M) s.heap → va_S (kA E s.heap.size) s.heap s.heap [] → kK E s →
      (∀ (pc : Nat) (ls : Array Slot) (M1 : kM) (H : Heap) (locs : List Loc), decode cc pc = .ok (.return_, 1) → va_P E.1 vwCl (kW E M1) H → va_S (kA E s.heap.size) s.heap H locs → post M1 → W p l e rm s m args below meth c H locs 0 0 Q (F0 m pc ls [])) → lv_has ls maxL (lv_args 0 av) → W p l e rm s m args below meth c s.heap [] 0 0 Q (F0 m 0 ls [])) : kRV l y ws rm E M av post := by
  intro sz
  refine Met.ofW (cc := cc) (maxL := maxL) (ret := none) hy hw ?_
  intro p e s m args below meth c s₁ B hml hv
  obtain ⟨rfl, rfl, hP, hK⟩ := hv
  have hx := B.exec
  have hb := B.bytes
  have hr := B.returns
  have hlocks := B.notSynchronized
  have hl := lv_entry av (n := maxL) hlen
  rw [lg_entry_eq]
  generalize (lg_sl av ++ List.replicate (maxL - (lg_sl av).length) Slot.unset).toArray = ls at hl ⊢
  refine body p e s m _ below meth c ls _ ⟨hx, hb, hml, by rw [← ho]; exact findClass_of_methodNamed B.named, atoms_spec (ws := ws) B.pre⟩ hP va_S.rf hK (fun pc ls M1 H locs hdg hP1 hS hp => ?_) hl
  exact W.vret hx hb hr (fun t ht hW => ⟨⟨M1, rfl, hp, by subst ht; exact hP1⟩, hS.F ht⟩) hS.2.2 hdg hlocks
/-- an int that is a truth value, or any int -/
theorem k_nari {post : Int → Prop} : ∀ z : Int, post z → narrow .int (.int (zI z)) = .int (zI z) := fun _ _ => rfl
theorem k_nariW {post : Int → kM → Prop} : ∀ (z : Int) (M1 : kM), post z M1 → narrow .int (.int (zI z)) = .int (zI z) := fun _ _ _ => rfl
theorem k_narb {z : Int} (h : z = 0 ∨ z = 1) : narrow .boolean (.int (zI z)) = .int (zI z) := by
  rcases h with rfl | rfl <;> decide
section KC
variable {p : Program} {l : Launch} {e : Env} {R : Room} {s : State} {m : MethodId} {args : Array Value} {below : List Frame} {meth : Method} {c : Code} {H H0 : Heap} {locs : List Loc} {cells slots : Nat} {Q : State → Prop}
variable {cc bytes : ByteArray} {pc : Nat} {ls : Array Slot} {rest st : List Value} {E : kE} {M : kM} {nL maxL index n : Nat} {Ts ws : List Cond} {own C : String} {y : MethodName} {ret : Option FieldType} {rm : Room} {As : List Value} {b : Nat}
theorem k_rS (hK : kK E s) (hP : va_P E.1 vwCl (kW E M) H) {x : Int} (h : 0 ≤ x ∧ x < 3) : ∃ cell : Cell, H[E.2.2 x]? = some cell ∧ cell.vm.isStatics = false ∧ s.vm.findClass RX1 = some cell.cls :=
  va_recv (q := (RX1, TX1, 2)) hK.1 hP (ci := 1) (q0 := x.toNat) rfl (by rw [kW_get E M (by have := hK.2.2.2; omega), kC_S h])
theorem k_rH (hK : kK E s) (hP : va_P E.1 vwCl (kW E M) H) {x : Int} (h : 6 ≤ x ∧ x < 8) : ∃ cell : Cell, H[E.2.2 x]? = some cell ∧ cell.vm.isStatics = false ∧ s.vm.findClass RX0 = some cell.cls :=
  va_recv (q := (RX0, TX0, 2)) hK.1 hP (ci := 0) (q0 := x.toNat) rfl (by rw [kW_get E M (by have := hK.2.2.2; omega), kC_H h])
theorem k_rX (hK : kK E s) (hP : va_P E.1 vwCl (kW E M) H) {x : Int} (h : x = 10) : ∃ cell : Cell, H[E.2.2 x]? = some cell ∧ cell.vm.isStatics = false ∧ s.vm.findClass RX2 = some cell.cls := by
  subst h
  exact va_recv (q := (RX2, TX2, 3)) hK.1 hP (ci := 2) (q0 := (10 : Int).toNat) rfl (by rw [kW_get E M (by have := hK.2.2.2; omega), kC_X])
theorem k_rSim (hK : kK E s) (hP : va_P E.1 vwCl (kW E M) H) {x : Int} (h : 11 ≤ x ∧ x < kn E ∧ M x (-2) = 3) : ∃ cell : Cell, H[E.2.2 x]? = some cell ∧ cell.vm.isStatics = false ∧ s.vm.findClass RX4 = some cell.cls :=
  va_recv (q := (RX4, TX4, 2)) hK.1 hP (ci := 4) (q0 := x.toNat) rfl (by rw [kW_get E M (by omega), kC_Sim h.1 h.2.2])
theorem k_rRows (hK : kK E s) (hP : va_P E.1 vwCl (kW E M) H) {x : Int} (h : 11 ≤ x ∧ x < kn E ∧ M x (-2) = 4) : ∃ cell : Cell, H[E.2.2 x]? = some cell ∧ cell.vm.isStatics = false ∧ s.vm.findClass RX3 = some cell.cls :=
  va_recv (q := (RX3, TX3, 10)) hK.1 hP (ci := 3) (q0 := x.toNat) rfl (by rw [kW_get E M (by omega), kC_Rows h.1 h.2.2])
theorem k_max (S : CallFix p m c cc nL s args Ts own) (hsz : ls.size = nL) (hlink : (Cond.methodLink own index Lib.Math.max.name).before args s = true) (hstat : (Cond.static Lib.Math.max.name).before args s = true) (hini : (Cond.initialized "java/lang/Math").before args s = true) (hcode : (Cond.code Lib.Math.max.name Lib.Math.max.code 2 (some .int)).before args s = true)
    (hR : 1 ≤ R.frames ∧ (rest.map fun v => v.category).sum + 13 ≤ R.locals) (hf : cells ≤ R.cells ∧ slots ≤ R.slots) {a b : Int} (h : -2147483648 ≤ a ∧ a ≤ 2147483647 ∧ -2147483648 ≤ b ∧ b ≤ 2147483647) (hdg : decode cc pc = .ok (.invokestatic index, 3))
    (kk : ∀ z : Int, (a < b ∧ z = b) ∨ (b ≤ a ∧ z = a) → W p l e R s m args below meth c H locs cells slots Q (F0 m (pc + 3) ls (.int (zI z) :: rest))) : W p l e R s m args below meth c H locs cells slots Q (F0 m pc ls (.int (zI b) :: .int (zI a) :: rest)) := by
  refine va_mmax S.1 S.2.1 (S.2.2.1.trans hsz.symm) S.2.2.2.1 hlink hstat hini hcode hR.1 hR.2 hf.1 hf.2 hdg ?_
  split
  · rename_i q
    exact kk b (Or.inl ⟨(zI_lt h).mp q, rfl⟩)
  · rename_i q
    exact kk a (Or.inr ⟨by rw [zI_lt h] at q; omega, rfl⟩)
theorem k_min (S : CallFix p m c cc nL s args Ts own) (hsz : ls.size = nL) (hlink : (Cond.methodLink own index Lib.Math.min.name).before args s = true) (hstat : (Cond.static Lib.Math.min.name).before args s = true) (hini : (Cond.initialized "java/lang/Math").before args s = true) (hcode : (Cond.code Lib.Math.min.name Lib.Math.min.code 2 (some .int)).before args s = true)
    (hR : 1 ≤ R.frames ∧ (rest.map fun v => v.category).sum + 13 ≤ R.locals) (hf : cells ≤ R.cells ∧ slots ≤ R.slots) {a b : Int} (h : -2147483648 ≤ a ∧ a ≤ 2147483647 ∧ -2147483648 ≤ b ∧ b ≤ 2147483647) (hdg : decode cc pc = .ok (.invokestatic index, 3))
    (kk : ∀ z : Int, (b < a ∧ z = b) ∨ (a ≤ b ∧ z = a) → W p l e R s m args below meth c H locs cells slots Q (F0 m (pc + 3) ls (.int (zI z) :: rest))) : W p l e R s m args below meth c H locs cells slots Q (F0 m pc ls (.int (zI b) :: .int (zI a) :: rest)) := by
  refine va_mmin S.1 S.2.1 (S.2.2.1.trans hsz.symm) S.2.2.2.1 hlink hstat hini hcode hR.1 hR.2 hf.1 hf.2 hdg ?_
  split
  · rename_i q
    exact kk b (Or.inl ⟨(zI_lt (by omega)).mp q, rfl⟩)
  · rename_i q
    exact kk a (Or.inr ⟨by rw [zI_lt (by omega)] at q; omega, rfl⟩)
/-! calls -/
theorem k_callV {post : Int → Prop} (S : CallFix p m c cc nL s args Ts own) (hK : kK E s) (hP : va_P E.1 vwCl (kW E M) H) (hM : kRO l y ws rm E M (.ref b :: As) post) (cw : CallW R s args own C index y bytes maxL ret ws rm 0 0 n)
    (hrecv : ∃ cellB : Cell, H[b]? = some cellB ∧ cellB.vm.isStatics = false ∧ s.vm.findClass C = some cellB.cls) (hn : As.length = n) (hsz : ls.size = nL) (hst : st = As.reverse ++ .ref b :: rest) (hw : (rest.map fun v => v.category).sum ≤ 8) (hdg : decode cc pc = .ok (.invokevirtual index, 3)) (hf : cells + 0 ≤ R.cells ∧ slots + 0 ≤ R.slots)
    (kk : ∀ z : Int, post z → W p l e R s m args below meth c H locs cells slots Q (F0 m (pc + 3) ls (.int (zI z) :: rest))) : W p l e R s m args below meth c H locs cells slots Q (F0 m pc ls st) := by
  refine vp_callSi (W.runV S hM cw ⟨kPre_blind, hrecv, fun U hU hW => ⟨rfl, by rw [hU]; exact hP, kK.warm hW hK⟩⟩ rfl hn hsz hst (lv_room hw) hdg hf) (fun r hr => ?_)
  obtain ⟨z, rfl, hz⟩ := hr
  exact kk z hz
theorem k_callS {post : Int → Prop} (S : CallFix p m c cc nL s args Ts own) (hK : kK E s) (hP : va_P E.1 vwCl (kW E M) H) (hM : kRO l y ws rm E M As post) (cw : CallB R s args own index y bytes maxL ret ws rm 0 0 n ∧ (Cond.static y).before args s = true)
    (hn : As.length = n) (hsz : ls.size = nL) (hst : st = As.reverse ++ rest) (hw : (rest.map fun v => v.category).sum ≤ 8) (hdg : decode cc pc = .ok (.invokestatic index, 3)) (hf : cells + 0 ≤ R.cells ∧ slots + 0 ≤ R.slots)
    (kk : ∀ z : Int, post z → W p l e R s m args below meth c H locs cells slots Q (F0 m (pc + 3) ls (.int (zI z) :: rest))) : W p l e R s m args below meth c H locs cells slots Q (F0 m pc ls st) := by
  refine vp_callSi (W.runS S hM cw ⟨kPre_blind, fun U hU hW => ⟨rfl, by rw [hU]; exact hP, kK.warm hW hK⟩⟩ rfl hn hsz hst (lv_room hw) hdg hf) (fun r hr => ?_)
  obtain ⟨z, rfl, hz⟩ := hr
  exact kk z hz
theorem k_callVl {post : Int → Prop} (S : CallFix p m c cc nL s args Ts own) (hK : kK E s) (hP : va_P E.1 vwCl (kW E M) H) (hM : kROl l y ws rm E M (.ref b :: As) post) (cw : CallW R s args own C index y bytes maxL ret ws rm 0 0 n)
    (hrecv : ∃ cellB : Cell, H[b]? = some cellB ∧ cellB.vm.isStatics = false ∧ s.vm.findClass C = some cellB.cls) (hn : As.length = n) (hsz : ls.size = nL) (hst : st = As.reverse ++ .ref b :: rest) (hw : (rest.map fun v => v.category).sum ≤ 8) (hdg : decode cc pc = .ok (.invokevirtual index, 3)) (hf : cells + 0 ≤ R.cells ∧ slots + 0 ≤ R.slots)
    (kk : ∀ z : Int, post z → W p l e R s m args below meth c H locs cells slots Q (F0 m (pc + 3) ls (.long (lI z) :: rest))) : W p l e R s m args below meth c H locs cells slots Q (F0 m pc ls st) := by
  refine vp_callSl (W.runV S hM cw ⟨kPre_blind, hrecv, fun U hU hW => ⟨rfl, by rw [hU]; exact hP, kK.warm hW hK⟩⟩ rfl hn hsz hst (lv_room hw) hdg hf) (fun r hr => ?_)
  obtain ⟨z, rfl, hz⟩ := hr
  exact kk z hz
theorem k_callSl {post : Int → Prop} (S : CallFix p m c cc nL s args Ts own) (hK : kK E s) (hP : va_P E.1 vwCl (kW E M) H) (hM : kROl l y ws rm E M As post) (cw : CallB R s args own index y bytes maxL ret ws rm 0 0 n ∧ (Cond.static y).before args s = true)
    (hn : As.length = n) (hsz : ls.size = nL) (hst : st = As.reverse ++ rest) (hw : (rest.map fun v => v.category).sum ≤ 8) (hdg : decode cc pc = .ok (.invokestatic index, 3)) (hf : cells + 0 ≤ R.cells ∧ slots + 0 ≤ R.slots)
    (kk : ∀ z : Int, post z → W p l e R s m args below meth c H locs cells slots Q (F0 m (pc + 3) ls (.long (lI z) :: rest))) : W p l e R s m args below meth c H locs cells slots Q (F0 m pc ls st) := by
  refine vp_callSl (W.runS S hM cw ⟨kPre_blind, fun U hU hW => ⟨rfl, by rw [hU]; exact hP, kK.warm hW hK⟩⟩ rfl hn hsz hst (lv_room hw) hdg hf) (fun r hr => ?_)
  obtain ⟨z, rfl, hz⟩ := hr
  exact kk z hz
theorem kA_le {sz sz0 : Nat} (h : sz0 ≤ sz) : ∀ q, kA E sz q → kA E sz0 q := fun q hq => hq.elim Or.inl (fun h2 => Or.inr (Nat.le_trans h h2))
theorem k_callVW {post : Int → kM → Prop} (S : CallFix p m c cc nL s args Ts own) (hK : kK E s) (hP : va_P E.1 vwCl (kW E M) H) (hS : va_S (kA E H0.size) H0 H locs) (hM : kRW l y ws rm E M (.ref b :: As) post) (cw : CallW R s args own C index y bytes maxL ret ws rm 0 0 n)
    (hrecv : ∃ cellB : Cell, H[b]? = some cellB ∧ cellB.vm.isStatics = false ∧ s.vm.findClass C = some cellB.cls) (hn : As.length = n) (hsz : ls.size = nL) (hst : st = As.reverse ++ .ref b :: rest) (hw : (rest.map fun v => v.category).sum ≤ 8) (hdg : decode cc pc = .ok (.invokevirtual index, 3)) (hf : cells + 0 ≤ R.cells ∧ slots + 0 ≤ R.slots)
    (kk : ∀ (z : Int) (M1 : kM) (H1 : Heap) (locs1 : List Loc), post z M1 → va_P E.1 vwCl (kW E M1) H1 → va_S (kA E H0.size) H0 H1 locs1 → W p l e R s m args below meth c H1 locs1 cells slots Q (F0 m (pc + 3) ls (.int (zI z) :: rest))) : W p l e R s m args below meth c H locs cells slots Q (F0 m pc ls st) := by
  refine va_calli (va_runV S (hM H.size) cw ⟨kPreW_blind, hrecv, fun U hU hW => ⟨rfl, by rw [hU], by rw [hU]; exact hP, kK.warm hW hK⟩⟩ rfl hn hsz hst (lv_room hw) hdg hf) hS (fun q _ h => kA_le hS.1 q h) (kA_le hS.1) (fun r u t H1 locs1 ht hvm hw hB hz hk hS1 => ?_)
  obtain ⟨rfl, hz⟩ := hw
  rw [ht] at hB
  exact kk u.1 u.2 H1 locs1 hz hB hS1
theorem k_callSW {post : Int → kM → Prop} (S : CallFix p m c cc nL s args Ts own) (hK : kK E s) (hP : va_P E.1 vwCl (kW E M) H) (hS : va_S (kA E H0.size) H0 H locs) (hM : kRW l y ws rm E M As post) (cw : CallB R s args own index y bytes maxL ret ws rm 0 0 n ∧ (Cond.static y).before args s = true)
    (hn : As.length = n) (hsz : ls.size = nL) (hst : st = As.reverse ++ rest) (hw : (rest.map fun v => v.category).sum ≤ 8) (hdg : decode cc pc = .ok (.invokestatic index, 3)) (hf : cells + 0 ≤ R.cells ∧ slots + 0 ≤ R.slots)
    (kk : ∀ (z : Int) (M1 : kM) (H1 : Heap) (locs1 : List Loc), post z M1 → va_P E.1 vwCl (kW E M1) H1 → va_S (kA E H0.size) H0 H1 locs1 → W p l e R s m args below meth c H1 locs1 cells slots Q (F0 m (pc + 3) ls (.int (zI z) :: rest))) : W p l e R s m args below meth c H locs cells slots Q (F0 m pc ls st) := by
  refine va_calli (va_runS S (hM H.size) cw ⟨kPreW_blind, fun U hU hW => ⟨rfl, by rw [hU], by rw [hU]; exact hP, kK.warm hW hK⟩⟩ rfl hn hsz hst (lv_room hw) hdg hf) hS (fun q _ h => kA_le hS.1 q h) (kA_le hS.1) (fun r u t H1 locs1 ht hvm hw hB hz hk hS1 => ?_)
  obtain ⟨rfl, hz⟩ := hw
  rw [ht] at hB
  exact kk u.1 u.2 H1 locs1 hz hB hS1
theorem k_callVWl {post : Int → kM → Prop} (S : CallFix p m c cc nL s args Ts own) (hK : kK E s) (hP : va_P E.1 vwCl (kW E M) H) (hS : va_S (kA E H0.size) H0 H locs) (hM : kRWl l y ws rm E M (.ref b :: As) post) (cw : CallW R s args own C index y bytes maxL ret ws rm 0 0 n)
    (hrecv : ∃ cellB : Cell, H[b]? = some cellB ∧ cellB.vm.isStatics = false ∧ s.vm.findClass C = some cellB.cls) (hn : As.length = n) (hsz : ls.size = nL) (hst : st = As.reverse ++ .ref b :: rest) (hw : (rest.map fun v => v.category).sum ≤ 8) (hdg : decode cc pc = .ok (.invokevirtual index, 3)) (hf : cells + 0 ≤ R.cells ∧ slots + 0 ≤ R.slots)
    (kk : ∀ (z : Int) (M1 : kM) (H1 : Heap) (locs1 : List Loc), post z M1 → va_P E.1 vwCl (kW E M1) H1 → va_S (kA E H0.size) H0 H1 locs1 → W p l e R s m args below meth c H1 locs1 cells slots Q (F0 m (pc + 3) ls (.long (lI z) :: rest))) : W p l e R s m args below meth c H locs cells slots Q (F0 m pc ls st) := by
  refine va_calll (va_runV S (hM H.size) cw ⟨kPreW_blind, hrecv, fun U hU hW => ⟨rfl, by rw [hU], by rw [hU]; exact hP, kK.warm hW hK⟩⟩ rfl hn hsz hst (lv_room hw) hdg hf) hS (fun q _ h => kA_le hS.1 q h) (kA_le hS.1) (fun r u t H1 locs1 ht hvm hw hB hz hk hS1 => ?_)
  obtain ⟨rfl, hz⟩ := hw
  rw [ht] at hB
  exact kk u.1 u.2 H1 locs1 hz hB hS1
theorem k_callVV {post : kM → Prop} (S : CallFix p m c cc nL s args Ts own) (hK : kK E s) (hP : va_P E.1 vwCl (kW E M) H) (hS : va_S (kA E H0.size) H0 H locs) (hM : kRV l y ws rm E M (.ref b :: As) post) (cw : CallW R s args own C index y bytes maxL ret ws rm 0 0 n)
    (hrecv : ∃ cellB : Cell, H[b]? = some cellB ∧ cellB.vm.isStatics = false ∧ s.vm.findClass C = some cellB.cls) (hn : As.length = n) (hsz : ls.size = nL) (hst : st = As.reverse ++ .ref b :: rest) (hw : (rest.map fun v => v.category).sum ≤ 8) (hdg : decode cc pc = .ok (.invokevirtual index, 3)) (hf : cells + 0 ≤ R.cells ∧ slots + 0 ≤ R.slots)
    (kk : ∀ (M1 : kM) (H1 : Heap) (locs1 : List Loc), post M1 → va_P E.1 vwCl (kW E M1) H1 → va_S (kA E H0.size) H0 H1 locs1 → W p l e R s m args below meth c H1 locs1 cells slots Q (F0 m (pc + 3) ls rest)) : W p l e R s m args below meth c H locs cells slots Q (F0 m pc ls st) := by
  refine va_callv (va_runV S (hM H.size) cw ⟨kPreW_blind, hrecv, fun U hU hW => ⟨rfl, by rw [hU], by rw [hU]; exact hP, kK.warm hW hK⟩⟩ rfl hn hsz hst (lv_room hw) hdg hf) hS (fun q _ h => kA_le hS.1 q h) (kA_le hS.1) (fun u t H1 locs1 ht hvm hw hB hz hk hS1 => ?_)
  rw [ht] at hB
  exact kk u H1 locs1 hw hB hS1
theorem k_callSV {post : kM → Prop} (S : CallFix p m c cc nL s args Ts own) (hK : kK E s) (hP : va_P E.1 vwCl (kW E M) H) (hS : va_S (kA E H0.size) H0 H locs) (hM : kRV l y ws rm E M As post) (cw : CallB R s args own index y bytes maxL ret ws rm 0 0 n ∧ (Cond.static y).before args s = true)
    (hn : As.length = n) (hsz : ls.size = nL) (hst : st = As.reverse ++ rest) (hw : (rest.map fun v => v.category).sum ≤ 8) (hdg : decode cc pc = .ok (.invokestatic index, 3)) (hf : cells + 0 ≤ R.cells ∧ slots + 0 ≤ R.slots)
    (kk : ∀ (M1 : kM) (H1 : Heap) (locs1 : List Loc), post M1 → va_P E.1 vwCl (kW E M1) H1 → va_S (kA E H0.size) H0 H1 locs1 → W p l e R s m args below meth c H1 locs1 cells slots Q (F0 m (pc + 3) ls rest)) : W p l e R s m args below meth c H locs cells slots Q (F0 m pc ls st) := by
  refine va_callv (va_runS S (hM H.size) cw ⟨kPreW_blind, fun U hU hW => ⟨rfl, by rw [hU], by rw [hU]; exact hP, kK.warm hW hK⟩⟩ rfl hn hsz hst (lv_room hw) hdg hf) hS (fun q _ h => kA_le hS.1 q h) (kA_le hS.1) (fun u t H1 locs1 ht hvm hw hB hz hk hS1 => ?_)
  rw [ht] at hB
  exact kk u H1 locs1 hw hB hS1
end KC
end
section
/-! ===== methods that make cells: the world grows (kExt); kNR answers a cell, kNI an int, kNV nothing; kND an int, and may draw ===== -/
def kNR (l : Launch) (y : MethodName) (ws : List Cond) (rm : Room) (mc ms : Nat) (E : kE) (M : kM) (av : List Value) (post : kE → kM → Int → Prop) : Prop := ∀ sz : Nat, Met l y ws rm (kPreW E M sz av) (va_Qr (fun u : kE × kM × Int => kExt E u.1 ∧ post u.1 u.2.1 u.2.2) (fun u a t => a = u.1.2.2 u.2.2 ∧ kG (kA E sz) sz u.1 ∧ va_P u.1.1 vwCl (kW u.1 u.2.1) t.heap) (kA E sz)) mc ms (kA E sz)
def kNI (l : Launch) (y : MethodName) (ws : List Cond) (rm : Room) (mc ms : Nat) (E : kE) (M : kM) (av : List Value) (post : kE → kM → Int → Prop) : Prop := ∀ sz : Nat, Met l y ws rm (kPreW E M sz av) (va_Qi (fun r (u : kE × kM × Int) => r = zI u.2.2 ∧ kExt E u.1 ∧ post u.1 u.2.1 u.2.2) (fun u t => kG (kA E sz) sz u.1 ∧ va_P u.1.1 vwCl (kW u.1 u.2.1) t.heap) (kA E sz)) mc ms (kA E sz)
def kNV (l : Launch) (y : MethodName) (ws : List Cond) (rm : Room) (mc ms : Nat) (E : kE) (M : kM) (av : List Value) (post : kE → kM → Prop) : Prop := ∀ sz : Nat, Met l y ws rm (kPreW E M sz av) (va_Qv (fun u : kE × kM => kExt E u.1 ∧ post u.1 u.2) (fun u t => kG (kA E sz) sz u.1 ∧ va_P u.1.1 vwCl (kW u.1 u.2) t.heap) (kA E sz)) mc ms (kA E sz)
theorem kNR_of {l : Launch} {y : MethodName} {ws ws' : List Cond} {rm : Room} {mc ms : Nat} {E : kE} {M : kM} {av : List Value} {post : kE → kM → Int → Prop} {cc : ByteArray} {maxL : Nat} {rt : FieldType} (own : String) (hE : kInj E) (hy : plainName y.cls = true) (hw : ws = Cond.code y cc maxL (some rt) :: ws') (ho : y.cls = own) (hlen : (lg_sl av).length ≤ maxL) (hrt : (∃ nm, rt = .object nm) ∨ ∃ t, rt = .array t)
    (body : ∀ (p : Program) (e : Env) (s : State) (m : MethodId) (args : Array Value) (below : List Frame) (meth : Method) (c : Code) (ls : Array Slot) (Q : State → Prop), CallFix p m c cc maxL s args ws own → va_P E.1 vwCl (kW E M) s.heap → va_S (kA E s.heap.size) s.heap s.heap [] → kK E s → kG (kA E s.heap.size) s.heap.size E →
      (∀ (pc : Nat) (ls : Array Slot) (E1 : kE) (M1 : kM) (x : Int) (H : Heap) (locs : List Loc), decode cc pc = .ok (.areturn, 1) → kExt E E1 → kG (kA E s.heap.size) s.heap.size E1 → va_P E1.1 vwCl (kW E1 M1) H → va_S (kA E s.heap.size) s.heap H locs → post E1 M1 x → W p l e rm s m args below meth c H locs mc ms Q (F0 m pc ls [.ref (E1.2.2 x)])) → lv_has ls maxL (lv_args 0 av) → W p l e rm s m args below meth c s.heap [] 0 0 Q (F0 m 0 ls [])) : kNR l y ws rm mc ms E M av post := by
  intro sz
  refine Met.ofW (cc := cc) (maxL := maxL) (ret := (some rt)) hy hw ?_
  intro p e s m args below meth c s₁ B hml hv
  obtain ⟨rfl, rfl, hP, hK⟩ := hv
  have hx := B.exec
  have hb := B.bytes
  have hr := B.returns
  have hlocks := B.notSynchronized
  have hl := lv_entry av (n := maxL) hlen
  rw [lg_entry_eq]
  generalize (lg_sl av ++ List.replicate (maxL - (lg_sl av).length) Slot.unset).toArray = ls at hl ⊢
  refine body p e s m _ below meth c ls _ ⟨hx, hb, hml, by rw [← ho]; exact findClass_of_methodNamed B.named, atoms_spec (ws := ws) B.pre⟩ hP va_S.rf hK (kG.rf hE _) (fun pc ls E1 M1 x H locs hdg hX hG hP1 hS hp => ?_) hl
  exact W.aret (v := .ref (E1.2.2 x)) hx hb hr hrt (Or.inr ⟨_, rfl⟩) (fun t ht hW => ⟨⟨(E1, M1, x), E1.2.2 x, rfl, ⟨hX, hp⟩, rfl, hG, by subst ht; exact hP1⟩, hS.F ht⟩) hS.2.2 hdg hlocks
theorem kNI_of {l : Launch} {y : MethodName} {ws ws' : List Cond} {rm : Room} {mc ms : Nat} {E : kE} {M : kM} {av : List Value} {post : kE → kM → Int → Prop} {cc : ByteArray} {maxL : Nat} {rt : FieldType} (own : String) (hE : kInj E) (hy : plainName y.cls = true) (hw : ws = Cond.code y cc maxL (some rt) :: ws') (ho : y.cls = own) (hlen : (lg_sl av).length ≤ maxL) (hrt : ∀ (E1 : kE) (M1 : kM) (z : Int), post E1 M1 z → narrow rt (.int (zI z)) = .int (zI z))
    (body : ∀ (p : Program) (e : Env) (s : State) (m : MethodId) (args : Array Value) (below : List Frame) (meth : Method) (c : Code) (ls : Array Slot) (Q : State → Prop), CallFix p m c cc maxL s args ws own → va_P E.1 vwCl (kW E M) s.heap → va_S (kA E s.heap.size) s.heap s.heap [] → kK E s → kG (kA E s.heap.size) s.heap.size E →
      (∀ (pc : Nat) (ls : Array Slot) (E1 : kE) (M1 : kM) (z : Int) (H : Heap) (locs : List Loc), decode cc pc = .ok (.ireturn, 1) → kExt E E1 → kG (kA E s.heap.size) s.heap.size E1 → va_P E1.1 vwCl (kW E1 M1) H → va_S (kA E s.heap.size) s.heap H locs → post E1 M1 z → W p l e rm s m args below meth c H locs mc ms Q (F0 m pc ls [.int (zI z)])) → lv_has ls maxL (lv_args 0 av) → W p l e rm s m args below meth c s.heap [] 0 0 Q (F0 m 0 ls [])) : kNI l y ws rm mc ms E M av post := by
  intro sz
  refine Met.ofW (cc := cc) (maxL := maxL) (ret := (some rt)) hy hw ?_
  intro p e s m args below meth c s₁ B hml hv
  obtain ⟨rfl, rfl, hP, hK⟩ := hv
  have hx := B.exec
  have hb := B.bytes
  have hr := B.returns
  have hlocks := B.notSynchronized
  have hl := lv_entry av (n := maxL) hlen
  rw [lg_entry_eq]
  generalize (lg_sl av ++ List.replicate (maxL - (lg_sl av).length) Slot.unset).toArray = ls at hl ⊢
  refine body p e s m _ below meth c ls _ ⟨hx, hb, hml, by rw [← ho]; exact findClass_of_methodNamed B.named, atoms_spec (ws := ws) B.pre⟩ hP va_S.rf hK (kG.rf hE _) (fun pc ls E1 M1 z H locs hdg hX hG hP1 hS hp => ?_) hl
  exact W.zret (v := zI z) hx hb hr (hrt E1 M1 z hp) (fun t ht hW => ⟨⟨zI z, (E1, M1, z), rfl, ⟨rfl, hX, hp⟩, hG, by subst ht; exact hP1⟩, hS.F ht⟩) hS.2.2 hdg hlocks
theorem kNV_of {l : Launch} {y : MethodName} {ws ws' : List Cond} {rm : Room} {mc ms : Nat} {E : kE} {M : kM} {av : List Value} {post : kE → kM → Prop} {cc : ByteArray} {maxL : Nat} (own : String) (hE : kInj E) (hy : plainName y.cls = true) (hw : ws = Cond.code y cc maxL none :: ws') (ho : y.cls = own) (hlen : (lg_sl av).length ≤ maxL) (hnm : y.name = "<init>")
    (body : ∀ (p : Program) (e : Env) (s : State) (m : MethodId) (args : Array Value) (below : List Frame) (meth : Method) (c : Code) (ls : Array Slot) (Q : State → Prop), CallFix p m c cc maxL s args ws own → va_P E.1 vwCl (kW E M) s.heap → va_S (kA E s.heap.size) s.heap s.heap [] → kK E s → kG (kA E s.heap.size) s.heap.size E → meth.name = "<init>" →
      (∀ (pc : Nat) (ls : Array Slot) (E1 : kE) (M1 : kM) (H : Heap) (locs : List Loc), decode cc pc = .ok (.return_, 1) → kExt E E1 → kG (kA E s.heap.size) s.heap.size E1 → va_P E1.1 vwCl (kW E1 M1) H → va_S (kA E s.heap.size) s.heap H locs → post E1 M1 → W p l e rm s m args below meth c H locs mc ms Q (F0 m pc ls [])) → lv_has ls maxL (lv_args 0 av) → W p l e rm s m args below meth c s.heap [] 0 0 Q (F0 m 0 ls [])) : kNV l y ws rm mc ms E M av post := by
  intro sz
  refine Met.ofW (cc := cc) (maxL := maxL) (ret := none) hy hw ?_
  intro p e s m args below meth c s₁ B hml hv
  obtain ⟨rfl, rfl, hP, hK⟩ := hv
  have hx := B.exec
  have hb := B.bytes
  have hr := B.returns
  have hlocks := B.notSynchronized
  have hin : meth.name = "<init>" := (name_of_methodNamed B.named B.method).1.trans hnm
  have hl := lv_entry av (n := maxL) hlen
  rw [lg_entry_eq]
  generalize (lg_sl av ++ List.replicate (maxL - (lg_sl av).length) Slot.unset).toArray = ls at hl ⊢
  refine body p e s m _ below meth c ls _ ⟨hx, hb, hml, by rw [← ho]; exact findClass_of_methodNamed B.named, atoms_spec (ws := ws) B.pre⟩ hP va_S.rf hK (kG.rf hE _) hin (fun pc ls E1 M1 H locs hdg hX hG hP1 hS hp => ?_) hl
  exact W.vret hx hb hr (fun t ht hW => ⟨⟨(E1, M1), rfl, ⟨hX, hp⟩, hG, by subst ht; exact hP1⟩, hS.F ht⟩) hS.2.2 hdg hlocks
section KG
variable {p : Program} {l : Launch} {e : Env} {R : Room} {s : State} {m : MethodId} {args : Array Value} {below : List Frame} {meth : Method} {c : Code} {H H0 : Heap} {locs : List Loc} {cells slots : Nat} {Q : State → Prop}
variable {cc bytes : ByteArray} {pc : Nat} {ls : Array Slot} {rest st : List Value} {E : kE} {M : kM} {nL maxL index n mc ms : Nat} {Ts ws : List Cond} {own C : String} {y : MethodName} {ret : Option FieldType} {rm : Room} {As : List Value} {b : Nat} {A : Nat → Prop}
theorem k_callVWG {post : Int → kM → Prop} (S : CallFix p m c cc nL s args Ts own) (hK : kK E s) (hG : kG A H0.size E) (hP : va_P E.1 vwCl (kW E M) H) (hS : va_S A H0 H locs) (hM : kRW l y ws rm E M (.ref b :: As) post) (cw : CallW R s args own C index y bytes maxL ret ws rm 0 0 n)
    (hrecv : ∃ cellB : Cell, H[b]? = some cellB ∧ cellB.vm.isStatics = false ∧ s.vm.findClass C = some cellB.cls) (hn : As.length = n) (hsz : ls.size = nL) (hst : st = As.reverse ++ .ref b :: rest) (hw : (rest.map fun v => v.category).sum ≤ 8) (hdg : decode cc pc = .ok (.invokevirtual index, 3)) (hf : cells + 0 ≤ R.cells ∧ slots + 0 ≤ R.slots)
    (kk : ∀ (z : Int) (M1 : kM) (H1 : Heap) (locs1 : List Loc), post z M1 → va_P E.1 vwCl (kW E M1) H1 → va_S A H0 H1 locs1 → W p l e R s m args below meth c H1 locs1 cells slots Q (F0 m (pc + 3) ls (.int (zI z) :: rest))) : W p l e R s m args below meth c H locs cells slots Q (F0 m pc ls st) := by
  refine va_calli (va_runV S (hM H.size) cw ⟨kPreW_blind, hrecv, fun U hU hW => ⟨rfl, by rw [hU], by rw [hU]; exact hP, kK.warm hW hK⟩⟩ rfl hn hsz hst (lv_room hw) hdg hf) hS (fun q _ h => hG.sub hS.1 q h) (hG.sub hS.1) (fun r u t H1 locs1 ht hvm hw hB hz hk hS1 => ?_)
  obtain ⟨rfl, hz⟩ := hw
  rw [ht] at hB
  exact kk u.1 u.2 H1 locs1 hz hB hS1
theorem k_callVWlG {post : Int → kM → Prop} (S : CallFix p m c cc nL s args Ts own) (hK : kK E s) (hG : kG A H0.size E) (hP : va_P E.1 vwCl (kW E M) H) (hS : va_S A H0 H locs) (hM : kRWl l y ws rm E M (.ref b :: As) post) (cw : CallW R s args own C index y bytes maxL ret ws rm 0 0 n)
    (hrecv : ∃ cellB : Cell, H[b]? = some cellB ∧ cellB.vm.isStatics = false ∧ s.vm.findClass C = some cellB.cls) (hn : As.length = n) (hsz : ls.size = nL) (hst : st = As.reverse ++ .ref b :: rest) (hw : (rest.map fun v => v.category).sum ≤ 8) (hdg : decode cc pc = .ok (.invokevirtual index, 3)) (hf : cells + 0 ≤ R.cells ∧ slots + 0 ≤ R.slots)
    (kk : ∀ (z : Int) (M1 : kM) (H1 : Heap) (locs1 : List Loc), post z M1 → va_P E.1 vwCl (kW E M1) H1 → va_S A H0 H1 locs1 → W p l e R s m args below meth c H1 locs1 cells slots Q (F0 m (pc + 3) ls (.long (lI z) :: rest))) : W p l e R s m args below meth c H locs cells slots Q (F0 m pc ls st) := by
  refine va_calll (va_runV S (hM H.size) cw ⟨kPreW_blind, hrecv, fun U hU hW => ⟨rfl, by rw [hU], by rw [hU]; exact hP, kK.warm hW hK⟩⟩ rfl hn hsz hst (lv_room hw) hdg hf) hS (fun q _ h => hG.sub hS.1 q h) (hG.sub hS.1) (fun r u t H1 locs1 ht hvm hw hB hz hk hS1 => ?_)
  obtain ⟨rfl, hz⟩ := hw
  rw [ht] at hB
  exact kk u.1 u.2 H1 locs1 hz hB hS1
theorem k_callVVG {post : kM → Prop} (S : CallFix p m c cc nL s args Ts own) (hK : kK E s) (hG : kG A H0.size E) (hP : va_P E.1 vwCl (kW E M) H) (hS : va_S A H0 H locs) (hM : kRV l y ws rm E M (.ref b :: As) post) (cw : CallW R s args own C index y bytes maxL ret ws rm 0 0 n)
    (hrecv : ∃ cellB : Cell, H[b]? = some cellB ∧ cellB.vm.isStatics = false ∧ s.vm.findClass C = some cellB.cls) (hn : As.length = n) (hsz : ls.size = nL) (hst : st = As.reverse ++ .ref b :: rest) (hw : (rest.map fun v => v.category).sum ≤ 8) (hdg : decode cc pc = .ok (.invokevirtual index, 3)) (hf : cells + 0 ≤ R.cells ∧ slots + 0 ≤ R.slots)
    (kk : ∀ (M1 : kM) (H1 : Heap) (locs1 : List Loc), post M1 → va_P E.1 vwCl (kW E M1) H1 → va_S A H0 H1 locs1 → W p l e R s m args below meth c H1 locs1 cells slots Q (F0 m (pc + 3) ls rest)) : W p l e R s m args below meth c H locs cells slots Q (F0 m pc ls st) := by
  refine va_callv (va_runV S (hM H.size) cw ⟨kPreW_blind, hrecv, fun U hU hW => ⟨rfl, by rw [hU], by rw [hU]; exact hP, kK.warm hW hK⟩⟩ rfl hn hsz hst (lv_room hw) hdg hf) hS (fun q _ h => hG.sub hS.1 q h) (hG.sub hS.1) (fun u t H1 locs1 ht hvm hw hB hz hk hS1 => ?_)
  rw [ht] at hB
  exact kk u H1 locs1 hw hB hS1
theorem k_callSNR {post : kE → kM → Int → Prop} (S : CallFix p m c cc nL s args Ts own) (hK : kK E s) (hG : kG A H0.size E) (hP : va_P E.1 vwCl (kW E M) H) (hS : va_S A H0 H locs) (hM : kNR l y ws rm mc ms E M As post) (cw : CallB R s args own index y bytes maxL ret ws rm mc ms n ∧ (Cond.static y).before args s = true)
    (hn : As.length = n) (hsz : ls.size = nL) (hst : st = As.reverse ++ rest) (hw : (rest.map fun v => v.category).sum ≤ 8) (hdg : decode cc pc = .ok (.invokestatic index, 3)) (hf : cells + mc ≤ R.cells ∧ slots + ms ≤ R.slots)
    (kk : ∀ (E1 : kE) (M1 : kM) (x : Int) (H1 : Heap) (locs1 : List Loc), kExt E E1 → kK E1 s → kG A H0.size E1 → post E1 M1 x → va_P E1.1 vwCl (kW E1 M1) H1 → va_S A H0 H1 locs1 → W p l e R s m args below meth c H1 locs1 (cells + mc) (slots + ms) Q (F0 m (pc + 3) ls (.ref (E1.2.2 x) :: rest))) : W p l e R s m args below meth c H locs cells slots Q (F0 m pc ls st) := by
  refine va_callr (va_runS S (hM H.size) cw ⟨kPreW_blind, fun U hU hW => ⟨rfl, by rw [hU], by rw [hU]; exact hP, kK.warm hW hK⟩⟩ rfl hn hsz hst (lv_room hw) hdg hf) hS (fun q _ h => hG.sub hS.1 q h) (hG.sub hS.1) (fun u ra t H1 locs1 ht hvm hw hB hz hk hS1 => ?_)
  obtain ⟨E1, M1, x⟩ := u
  obtain ⟨hX, hp⟩ := hw
  obtain ⟨hra, hG1, hP1⟩ := hB
  rw [ht] at hP1
  rw [hra]
  exact kk E1 M1 x H1 locs1 hX (hK.ext hX) (hG.tr hS.1 hG1) hp hP1 hS1
theorem k_callVNR {post : kE → kM → Int → Prop} (S : CallFix p m c cc nL s args Ts own) (hK : kK E s) (hG : kG A H0.size E) (hP : va_P E.1 vwCl (kW E M) H) (hS : va_S A H0 H locs) (hM : kNR l y ws rm mc ms E M (.ref b :: As) post) (cw : CallW R s args own C index y bytes maxL ret ws rm mc ms n)
    (hrecv : ∃ cellB : Cell, H[b]? = some cellB ∧ cellB.vm.isStatics = false ∧ s.vm.findClass C = some cellB.cls) (hn : As.length = n) (hsz : ls.size = nL) (hst : st = As.reverse ++ .ref b :: rest) (hw : (rest.map fun v => v.category).sum ≤ 8) (hdg : decode cc pc = .ok (.invokevirtual index, 3)) (hf : cells + mc ≤ R.cells ∧ slots + ms ≤ R.slots)
    (kk : ∀ (E1 : kE) (M1 : kM) (x : Int) (H1 : Heap) (locs1 : List Loc), kExt E E1 → kK E1 s → kG A H0.size E1 → post E1 M1 x → va_P E1.1 vwCl (kW E1 M1) H1 → va_S A H0 H1 locs1 → W p l e R s m args below meth c H1 locs1 (cells + mc) (slots + ms) Q (F0 m (pc + 3) ls (.ref (E1.2.2 x) :: rest))) : W p l e R s m args below meth c H locs cells slots Q (F0 m pc ls st) := by
  refine va_callr (va_runV S (hM H.size) cw ⟨kPreW_blind, hrecv, fun U hU hW => ⟨rfl, by rw [hU], by rw [hU]; exact hP, kK.warm hW hK⟩⟩ rfl hn hsz hst (lv_room hw) hdg hf) hS (fun q _ h => hG.sub hS.1 q h) (hG.sub hS.1) (fun u ra t H1 locs1 ht hvm hw hB hz hk hS1 => ?_)
  obtain ⟨E1, M1, x⟩ := u
  obtain ⟨hX, hp⟩ := hw
  obtain ⟨hra, hG1, hP1⟩ := hB
  rw [ht] at hP1
  rw [hra]
  exact kk E1 M1 x H1 locs1 hX (hK.ext hX) (hG.tr hS.1 hG1) hp hP1 hS1
theorem k_callVNI {post : kE → kM → Int → Prop} (S : CallFix p m c cc nL s args Ts own) (hK : kK E s) (hG : kG A H0.size E) (hP : va_P E.1 vwCl (kW E M) H) (hS : va_S A H0 H locs) (hM : kNI l y ws rm mc ms E M (.ref b :: As) post) (cw : CallW R s args own C index y bytes maxL ret ws rm mc ms n)
    (hrecv : ∃ cellB : Cell, H[b]? = some cellB ∧ cellB.vm.isStatics = false ∧ s.vm.findClass C = some cellB.cls) (hn : As.length = n) (hsz : ls.size = nL) (hst : st = As.reverse ++ .ref b :: rest) (hw : (rest.map fun v => v.category).sum ≤ 8) (hdg : decode cc pc = .ok (.invokevirtual index, 3)) (hf : cells + mc ≤ R.cells ∧ slots + ms ≤ R.slots)
    (kk : ∀ (E1 : kE) (M1 : kM) (x : Int) (H1 : Heap) (locs1 : List Loc), kExt E E1 → kK E1 s → kG A H0.size E1 → post E1 M1 x → va_P E1.1 vwCl (kW E1 M1) H1 → va_S A H0 H1 locs1 → W p l e R s m args below meth c H1 locs1 (cells + mc) (slots + ms) Q (F0 m (pc + 3) ls (.int (zI x) :: rest))) : W p l e R s m args below meth c H locs cells slots Q (F0 m pc ls st) := by
  refine va_calli (va_runV S (hM H.size) cw ⟨kPreW_blind, hrecv, fun U hU hW => ⟨rfl, by rw [hU], by rw [hU]; exact hP, kK.warm hW hK⟩⟩ rfl hn hsz hst (lv_room hw) hdg hf) hS (fun q _ h => hG.sub hS.1 q h) (hG.sub hS.1) (fun r u t H1 locs1 ht hvm hw hB hz hk hS1 => ?_)
  obtain ⟨E1, M1, x⟩ := u
  obtain ⟨hr, hX, hp⟩ := hw
  obtain ⟨hG1, hP1⟩ := hB
  rw [ht] at hP1
  rw [hr]
  exact kk E1 M1 x H1 locs1 hX (hK.ext hX) (hG.tr hS.1 hG1) hp hP1 hS1
theorem k_callINV {post : kE → kM → Prop} (S : CallFix p m c cc nL s args Ts own) (hK : kK E s) (hG : kG A H0.size E) (hP : va_P E.1 vwCl (kW E M) H) (hS : va_S A H0 H locs) (hM : kNV l y ws rm mc ms E M (.ref b :: As) post) (cw : CallB R s args own index y bytes maxL none ws rm mc ms n ∧ y.name = "<init>" ∧ (Cond.instanceMethod y).before args s = true)
    (hn : As.length = n) (hsz : ls.size = nL) (hst : st = As.reverse ++ .ref b :: rest) (hw : (rest.map fun v => v.category).sum ≤ 8) (hdg : decode cc pc = .ok (.invokespecial index, 3)) (hf : cells + mc ≤ R.cells ∧ slots + ms ≤ R.slots)
    (kk : ∀ (E1 : kE) (M1 : kM) (H1 : Heap) (locs1 : List Loc), kExt E E1 → kK E1 s → kG A H0.size E1 → post E1 M1 → va_P E1.1 vwCl (kW E1 M1) H1 → va_S A H0 H1 locs1 → W p l e R s m args below meth c H1 locs1 (cells + mc) (slots + ms) Q (F0 m (pc + 3) ls rest)) : W p l e R s m args below meth c H locs cells slots Q (F0 m pc ls st) := by
  refine va_callv (va_runI S (hM H.size) cw ⟨kPreW_blind, fun U hU hW => ⟨rfl, by rw [hU], by rw [hU]; exact hP, kK.warm hW hK⟩⟩ rfl hn hsz hst (lv_room hw) hdg hf) hS (fun q _ h => hG.sub hS.1 q h) (hG.sub hS.1) (fun u t H1 locs1 ht hvm hw hB hz hk hS1 => ?_)
  obtain ⟨E1, M1⟩ := u
  obtain ⟨hX, hp⟩ := hw
  obtain ⟨hG1, hP1⟩ := hB
  rw [ht] at hP1
  exact kk E1 M1 H1 locs1 hX (hK.ext hX) (hG.tr hS.1 hG1) hp hP1 hS1
/-- the array class of ints is one -/
theorem kK_cls {ty : FieldType} {cA cB : ClassId} {k : Nat} (hK : kK E s) (hk : (kT E)[k]? = some (cB, ty)) (hf : s.vm.findClass ("[" ++ ty.toString) = some cB) (h : va_K E.1 vwCl (kT E ++ [(cA, ty)]) s) (hno : ∀ C, ty ≠ .object C) : cA = cB := by
  have h1 : s.vm.findClass ("[" ++ ty.toString) = some cA := by
    have := (h.2 3 (cA, ty) rfl).2
    cases ty <;> first | exact this | exact absurd rfl (hno _)
  exact Option.some.inj (h1.symm.trans hf)
abbrev kArI (E : kE) (N : Nat) : va_E := .inl (kaI E, N, .inl (fun _ => zI 0))
theorem kC_Ia {q : Nat} {len : Int} (hn : 11 ≤ kn E) : kC (kX E q) (kNw M (kn E) (kIa len)) (kn E) = .inl (kaI E, len.toNat, .inl (fun _ => zI 0)) := by
  rw [kC_I hn (by rw [kNw_same]; rfl), kNw_same]
  show (Sum.inl (kaI E, len.toNat, .inl (fun j => zI (kNw M (kn E) (kIa len) (kn E) (j : Int)))) : va_E) = _
  congr 4
  funext j
  rw [kNw_same, kIa, if_neg (by omega)]
theorem kC_Za {q : Nat} {len : Int} (hn : 11 ≤ kn E) : kC (kX E q) (kNw M (kn E) (kZa len)) (kn E) = .inl (kaZ E, len.toNat, .inl (fun _ => zI 0)) := by
  rw [kC_Z hn (by rw [kNw_same]; rfl), kNw_same]
  show (Sum.inl (kaZ E, len.toNat, .inl (fun j => zI (kNw M (kn E) (kZa len) (kn E) (j : Int)))) : va_E) = _
  congr 4
  funext j
  rw [kNw_same, kZa, if_neg (by omega), if_neg (by omega)]
theorem k_newA (S : CallFix p m c cc nL s args Ts own) (hK : kK E s) (hG : kG A H0.size E) (hP : va_P E.1 vwCl (kW E M) H) (hS : va_S A H0 H locs) (harr : (Cond.arrayClass .int).before args s = true) {len : Int} (hlen : 0 ≤ len ∧ len ≤ 20000) (hcells : cells + 1 ≤ R.cells) (hslots : slots + len.toNat ≤ R.slots) (hdg : decode cc pc = .ok (.newarray .int, 2))
    (kk : ∀ (E1 : kE) (H1 : Heap), kExt E E1 → kn E1 = kn E + 1 → kK E1 s → kG A H0.size E1 → va_P E1.1 vwCl (kW E1 (kNw M (kn E) (kIa len))) H1 → va_S A H0 H1 locs → W p l e R s m args below meth c H1 locs (cells + 1) (slots + len.toNat) Q (F0 m (pc + 2) ls (.ref (E1.2.2 (kn E)) :: rest))) : W p l e R s m args below meth c H locs cells slots Q (F0 m pc ls (.int (zI len) :: rest)) := by
  have hn := hK.2.2.2
  refine va_newa (atype := .int) (a0 := (len.toNat, .inl (fun _ => zI 0))) (N' := len.toNat) S.1 S.2.1 harr rfl hK.1 hP (hG.D M) hS hG.2.2 (fun cA => rfl) (fun q => ?_) (by rw [zI_nat (by omega)]) (Nat.le_trans (Nat.mul_le_mul_right _ (show len.toNat ≤ 20000 by omega)) (Nat.le_of_ble_eq_true rfl)) hcells hslots hdg (fun q cA H1 hK1 hP1 hD1 hS1 => ?_)
  · rw [zI_0, zI_lt (by omega)] at q
    omega
  · have e := kK_cls (k := 0) hK rfl (hK.1.2 0 _ rfl).2 hK1 (fun C q => by cases q)
    subst e
    rw [kW_push hn (M1 := kNw M (kn E) (kIa len)) (fun c hc i => kNw_ne (by omega)) (kC_Ia hn)] at hP1 hD1
    have hr : (.ref q : Value) = .ref ((kX E q).2.2 (kn E)) := by rw [kX_at]
    rw [hr]
    exact kk (kX E q) H1 (kX_ext E q) rfl (hK.ext (kX_ext E q)) (kG.of hD1 hG.2.2) hP1 hS1
theorem k_newZ (S : CallFix p m c cc nL s args Ts own) (hK : kK E s) (hG : kG A H0.size E) (hP : va_P E.1 vwCl (kW E M) H) (hS : va_S A H0 H locs) (harr : (Cond.arrayClass .boolean).before args s = true) {len : Int} (hlen : 0 ≤ len ∧ len ≤ 20000) (hcells : cells + 1 ≤ R.cells) (hslots : slots + len.toNat ≤ R.slots) (hdg : decode cc pc = .ok (.newarray .boolean, 2))
    (kk : ∀ (E1 : kE) (H1 : Heap), kExt E E1 → kn E1 = kn E + 1 → kK E1 s → kG A H0.size E1 → va_P E1.1 vwCl (kW E1 (kNw M (kn E) (kZa len))) H1 → va_S A H0 H1 locs → W p l e R s m args below meth c H1 locs (cells + 1) (slots + len.toNat) Q (F0 m (pc + 2) ls (.ref (E1.2.2 (kn E)) :: rest))) : W p l e R s m args below meth c H locs cells slots Q (F0 m pc ls (.int (zI len) :: rest)) := by
  have hn := hK.2.2.2
  refine va_newa (atype := .boolean) (a0 := (len.toNat, .inl (fun _ => zI 0))) (N' := len.toNat) S.1 S.2.1 harr rfl hK.1 hP (hG.D M) hS hG.2.2 (fun cA => rfl) (fun q => ?_) (by rw [zI_nat (by omega)]) (Nat.le_trans (Nat.mul_le_mul_right _ (show len.toNat ≤ 20000 by omega)) (Nat.le_of_ble_eq_true rfl)) hcells hslots hdg (fun q cA H1 hK1 hP1 hD1 hS1 => ?_)
  · rw [zI_0, zI_lt (by omega)] at q
    omega
  · have e := kK_cls (k := 2) hK rfl (hK.1.2 2 _ rfl).2 hK1 (fun C q => by cases q)
    subst e
    rw [kW_push hn (M1 := kNw M (kn E) (kZa len)) (fun c hc i => kNw_ne (by omega)) (kC_Za hn)] at hP1 hD1
    have hr : (.ref q : Value) = .ref ((kX E q).2.2 (kn E)) := by rw [kX_at]
    rw [hr]
    exact kk (kX E q) H1 (kX_ext E q) rfl (hK.ext (kX_ext E q)) (kG.of hD1 hG.2.2) hP1 hS1
/-- new int[k][] -/
theorem k_newG (S : CallFix p m c cc nL s args Ts own) (hK : kK E s) (hG : kG A H0.size E) (hP : va_P E.1 vwCl (kW E M) H) (hS : va_S A H0 H locs) (hcl : (Cond.classLink own index "[I").before args s = true) {len : Int} (hlen : 0 ≤ len ∧ len ≤ 20000) (hcells : cells + 1 ≤ R.cells) (hslots : slots + len.toNat ≤ R.slots) (hdg : decode cc pc = .ok (.anewarray index, 3))
    (kk : ∀ (E1 : kE) (H1 : Heap), kExt E E1 → kn E1 = kn E + 1 → kK E1 s → kG A H0.size E1 → va_P E1.1 vwCl (kW E1 (kNw M (kn E) (kGa len))) H1 → va_S A H0 H1 locs → W p l e R s m args below meth c H1 locs (cells + 1) (slots + len.toNat) Q (F0 m (pc + 3) ls (.ref (E1.2.2 (kn E)) :: rest))) : W p l e R s m args below meth c H locs cells slots Q (F0 m pc ls (.int (zI len) :: rest)) := by
  have hn := hK.2.2.2
  have hN : (zI len).toNatClampNeg = len.toNat := zI_nat (by omega)
  refine W.anewA (t := .int) S.1 S.2.1 S.2.2.2.1 hcl (va_AOA.use hK.2.2.1) (g := F0 m pc ls (.int (zI len) :: rest)) rfl hdg rfl (fun q => ?_) (by rw [hN]; omega) hcells (by rw [hN]; exact hslots) (fun cA kA comp e1 e2 e3 e4 => ?_)
  · rw [zI_0, zI_lt (by omega)] at q
    omega
  · have e : cA = kaG E := Option.some.inj (e1.symm.trans (hK.1.2 1 _ rfl).2)
    subst e
    rw [hN]
    have hkept : ∀ (k : Nat) (x : Nat × va_E), (kW E M)[k]? = some x → (H.push { cls := kaG E, slots := Array.replicate len.toNat .null, vm := .none })[x.1]? = H[x.1]? := fun k x hx => by
      rw [Array.getElem?_push, if_neg (Nat.ne_of_lt ((hP k x hx).lt))]
    have hat : va_at E.1 vwCl (H.size, .inl (kaG E, len.toNat, .inr (.inr (.inr (.inr (fun _ => none)))))) (H.push { cls := kaG E, slots := Array.replicate len.toNat .null, vm := .none }) := by
      show (H.push _)[H.size]? = some (vp_cell (kaG E) _)
      rw [vp_cell_q, show (fun _ : Nat => va_rf (none : Option Nat)) = fun _ => Value.null from rfl, ← arrV_new]
      simp
    have hP1 := (hP.kept hkept).app (w2 := [(H.size, .inl (kaG E, len.toNat, .inr (.inr (.inr (.inr (fun _ => none))))))]) (fun k x hx => by
      have hz : k < 1 := (List.getElem?_eq_some_iff.mp hx).1
      rw [show k = 0 by omega] at hx
      cases hx
      exact hat)
    have hD1 := (hG.D M).push hP rfl (hG.2.2 _ hS.1) (e := .inl (kaG E, len.toNat, .inr (.inr (.inr (.inr (fun _ => none))))))
    have hkc : kC (kX E H.size) (kNw M (kn E) (kGa len)) (kn E) = .inl (kaG E, len.toNat, .inr (.inr (.inr (.inr (fun _ => none))))) := by
      rw [kC_G hn (by rw [kNw_same]; rfl), kNw_same]
      show (Sum.inl (kaG E, len.toNat, .inr (.inr (.inr (.inr (fun j => kOr (kNw M (kn E) (kGa len) (kn E) (j : Int))))))) : va_E) = _
      congr 7
      funext j
      rw [kNw_same, kGa, if_neg (by omega), if_neg (by omega)]
      rfl
    rw [kW_push hn (M1 := kNw M (kn E) (kGa len)) (fun c hc i => kNw_ne (by omega)) hkc] at hP1 hD1
    have hr : (.ref H.size : Value) = .ref ((kX E H.size).2.2 (kn E)) := by rw [kX_at]
    refine W.eq (g2 := F0 m (pc + 3) ls (.ref ((kX E H.size).2.2 (kn E)) :: rest)) (by rw [← hr]) ?_
    exact kk (kX E H.size) _ (kX_ext E H.size) rfl (hK.ext (kX_ext E H.size)) (kG.of hD1 hG.2.2) hP1 ⟨Nat.le_trans hS.1 (by simp), fun x h1 h2 => by rw [Array.getElem?_push, if_neg (Nat.ne_of_lt (Nat.lt_of_lt_of_le h1 hS.1))]; exact hS.2.1 x h1 h2, hS.2.2⟩
end KG
end
section
/-! ===== more rows: numbers of which the range alone is known; the law's own objects ===== -/
section KL
variable {p : Program} {l : Launch} {e : Env} {R : Room} {s : State} {m : MethodId} {args : Array Value} {below : List Frame} {meth : Method} {c : Code} {H H0 : Heap} {locs : List Loc} {cells slots : Nat} {Q : State → Prop}
variable {cc bytes : ByteArray} {pc : Nat} {ls : Array Slot} {rest st : List Value} {E : kE} {M : kM} {nL maxL index n mc ms : Nat} {Ts ws : List Cond} {own C : String} {y : MethodName} {ret : Option FieldType} {rm : Room} {As : List Value} {b : Nat} {A : Nat → Prop}
theorem k_any {v : Int32} (k : ∀ z : Int, -2147483648 ≤ z ∧ z ≤ 2147483647 → W p l e R s m args below meth c H locs cells slots Q (F0 m pc ls (.int (zI z) :: rest))) : W p l e R s m args below meth c H locs cells slots Q (F0 m pc ls (.int v :: rest)) := by
  rw [zI_of v]
  exact k _ (zI_rng v)
theorem k_shr (hx : p.tables.exec = Jvm.exec) (hb : c.code = cc) {x y : Int32} (hdg : decode cc pc = .ok (.ishr, 1)) (k : ∀ z : Int, -2147483648 ≤ z ∧ z ≤ 2147483647 → W p l e R s m args below meth c H locs cells slots Q (F0 m (pc + 1) ls (.int (zI z) :: rest))) : W p l e R s m args below meth c H locs cells slots Q (F0 m pc ls (.int y :: .int x :: rest)) := lv_ishr hx hb hdg (k_any k)
theorem k_and31 (hx : p.tables.exec = Jvm.exec) (hb : c.code = cc) {x : Int32} (hdg : decode cc pc = .ok (.iand, 1)) (k : ∀ z : Int, 0 ≤ z ∧ z ≤ 2147483647 → W p l e R s m args below meth c H locs cells slots Q (F0 m (pc + 1) ls (.int (zI z) :: rest))) : W p l e R s m args below meth c H locs cells slots Q (F0 m pc ls (.int (2147483647 : Int32) :: .int x :: rest)) := by
  refine lv_iand hx hb hdg ?_
  obtain ⟨j, hj, e1⟩ := pk_andE x (m := (2147483647 : Int32)) 31 (by decide)
  rw [e1, show nI j = zI (j : Int) by rw [nI, zI]; exact (Int32.ofInt_eq_ofNat).symm]
  exact k _ (by omega)
theorem k_and01 (hx : p.tables.exec = Jvm.exec) (hb : c.code = cc) {a d : Int} (ha : a = 0 ∨ a = 1) (hd : d = 0 ∨ d = 1) (hdg : decode cc pc = .ok (.iand, 1)) (k : ∀ z : Int, (z = 1 ∧ a = 1 ∧ d = 1) ∨ (z = 0 ∧ (a = 0 ∨ d = 0)) → W p l e R s m args below meth c H locs cells slots Q (F0 m (pc + 1) ls (.int (zI z) :: rest))) : W p l e R s m args below meth c H locs cells slots Q (F0 m pc ls (.int (zI d) :: .int (zI a) :: rest)) := by
  refine lv_iand hx hb hdg ?_
  rcases ha with rfl | rfl <;> rcases hd with rfl | rfl
  · exact k 0 (by omega)
  · exact k 0 (by omega)
  · exact k 0 (by omega)
  · exact k 1 (by omega)
theorem zI_div {a b : Int} (h : 0 ≤ a ∧ a ≤ 2147483647 ∧ 0 < b ∧ b ≤ 2147483647) : zI a / zI b = zI (a / b) := by
  have ea : zI a = nI a.toNat := by
    rw [nI, zI]; rw [← Int32.ofInt_eq_ofNat]; congr 1; omega
  have eb : zI b = nI b.toNat := by
    rw [nI, zI]; rw [← Int32.ofInt_eq_ofNat]; congr 1; omega
  rw [ea, eb, pk_div (by omega) (by omega) (by omega)]
  have e1 : a = (a.toNat : Int) := by omega
  have e2 : b = (b.toNat : Int) := by omega
  rw [nI, zI, ← Int32.ofInt_eq_ofNat]
  congr 1
  rw [Int.natCast_ediv, ← e1, ← e2]
theorem k_div (hx : p.tables.exec = Jvm.exec) (hb : c.code = cc) {a b : Int} (hdg : decode cc pc = .ok (.idiv, 1)) (h : 0 ≤ a ∧ a ≤ 2147483647 ∧ 0 < b ∧ b ≤ 2147483647) (k : W p l e R s m args below meth c H locs cells slots Q (F0 m (pc + 1) ls (.int (zI (a / b)) :: rest))) : W p l e R s m args below meth c H locs cells slots Q (F0 m pc ls (.int (zI b) :: .int (zI a) :: rest)) :=
  lv_idiv hx hb hdg (fun q => by have := (zI_eq (a := b) (b := 0) (by omega)).mp q; omega) (by rw [zI_div h]; exact k)
theorem k_spush (hx : p.tables.exec = Jvm.exec) (hb : c.code = cc) {n : Int} (hdg : decode cc pc = .ok (.sipush n, 3)) (hv : (Int16.ofInt n).toInt32 = zI n) (k : W p l e R s m args below meth c H locs cells slots Q (F0 m (pc + 3) ls (.int (zI n) :: rest))) : W p l e R s m args below meth c H locs cells slots Q (F0 m pc ls rest) := lv_sipush hx hb hdg hv k
theorem k_abs (S : CallFix p m c cc nL s args Ts own) (hsz : ls.size = nL) (hlink : (Cond.methodLink own index Lib.Math.abs.name).before args s = true) (hstat : (Cond.static Lib.Math.abs.name).before args s = true) (hini : (Cond.initialized "java/lang/Math").before args s = true) (hcode : (Cond.code Lib.Math.abs.name Lib.Math.abs.code 1 (some .int)).before args s = true)
    (hR : 1 ≤ R.frames ∧ (rest.map fun v => v.category).sum + 13 ≤ R.locals) (hf : cells ≤ R.cells ∧ slots ≤ R.slots) {a : Int} (h : -2147483647 ≤ a ∧ a ≤ 2147483647) (hdg : decode cc pc = .ok (.invokestatic index, 3))
    (kk : ∀ z : Int, (0 ≤ a ∧ z = a) ∨ (a < 0 ∧ z = -a) → W p l e R s m args below meth c H locs cells slots Q (F0 m (pc + 3) ls (.int (zI z) :: rest))) : W p l e R s m args below meth c H locs cells slots Q (F0 m pc ls (.int (zI a) :: rest)) := by
  refine va_mabs S.1 S.2.1 (S.2.2.1.trans hsz.symm) S.2.2.2.1 hlink hstat hini hcode hR.1 hR.2 hf.1 hf.2 hdg ?_
  split
  · rename_i q
    rw [zI_0] at q
    exact kk a (Or.inl ⟨(zI_le (by omega)).mp q, rfl⟩)
  · rename_i q
    rw [zI_0] at q ⊢
    rw [zI_le (by omega)] at q
    rw [zI_sub]
    exact kk (0 - a) (Or.inr ⟨by omega, by omega⟩)
/-- a nest mate's private static method -/
theorem k_callSN {host : String} {post : Int → Prop} (S : CallFix p m c cc nL s args Ts own) (hK : kK E s) (hP : va_P E.1 vwCl (kW E M) H) (hM : kRO l y ws rm E M As post) (cw : va_CN R s args own index y host bytes maxL ret ws rm 0 0 n ∧ (Cond.static y).before args s = true ∧ True)
    (hn : As.length = n) (hsz : ls.size = nL) (hst : st = As.reverse ++ rest) (hw : (rest.map fun v => v.category).sum ≤ 8) (hdg : decode cc pc = .ok (.invokestatic index, 3)) (hf : cells + 0 ≤ R.cells ∧ slots + 0 ≤ R.slots)
    (kk : ∀ z : Int, post z → W p l e R s m args below meth c H locs cells slots Q (F0 m (pc + 3) ls (.int (zI z) :: rest))) : W p l e R s m args below meth c H locs cells slots Q (F0 m pc ls st) := by
  intro T hT X
  obtain ⟨v, st₀, t, T', L, h0, X', hL, e1, e2, hq, st⟩ := va_runSN S hM cw ⟨kPre_blind, fun U hU hW => ⟨rfl, by rw [hU]; exact hP, kK.warm hW hK⟩⟩ rfl hn hsz hst (lv_room hw) hdg hf T hT X
  obtain ⟨r, hv, ⟨z, rfl, hz⟩, hh⟩ := hq
  cases hv
  obtain ⟨t2, a1, b1⟩ := kk z hz T' (by rw [e1, hh, h0]) (Stand.forget X' (fun q h => (hL q h).elim))
  exact ⟨t2, st t2 a1, b1⟩
end KL
theorem kArr_ext {E E1 : kE} {M M1 : kM} {c len : Int} (hX : kExt E E1) (hM : ∀ k i : Int, k < kn E → M1 k i = M k i) (h : kArr E M c len) : kArr E1 M1 c len := by
  have := hX.2.2.1
  unfold kArr at h ⊢
  rcases h with h | h | ⟨h1, h2, h3, h4, h5⟩
  · exact Or.inl h
  · exact Or.inr (Or.inl h)
  · exact Or.inr (Or.inr ⟨h1, by omega, by rw [hM c _ h2]; exact h3, by rw [hM c _ h2]; exact h4, h5⟩)
/-- the law's Sim at the cell g: its hems and its sample are the rows y 0, y 1, y 2, L of ints long, X their ints -/
def kSm (E : kE) (M : kM) (g : Int) (y L : Int → Int) (X : Int → Int → Int) : Prop :=
  (11 ≤ g ∧ g + 1 < kn E ∧ M g (-2) = 3 ∧ M g 0 = (E.2.2 (g + 1) : Int) ∧ M g 1 = (E.2.2 (y 2) : Int)) ∧
  (M (g + 1) (-2) = 2 ∧ M (g + 1) (-1) = 2 ∧ ∀ h : Int, 0 ≤ h → h < 2 → M (g + 1) h = (E.2.2 (y h) : Int)) ∧
  ∀ i : Int, 0 ≤ i → i < 3 → (11 ≤ y i ∧ y i < kn E ∧ y i ≠ g ∧ y i ≠ g + 1) ∧ M (y i) (-2) = 0 ∧ (M (y i) (-1) = L i ∧ 0 ≤ L i ∧ L i ≤ 40) ∧ ∀ j : Int, 0 ≤ j → j < L i → M (y i) j = X i j
theorem kSm.arr {E : kE} {M : kM} {g : Int} {y L : Int → Int} {X : Int → Int → Int} (h : kSm E M g y L X) {i : Int} (hi : 0 ≤ i ∧ i < 3) : kArr E M (y i) (L i) := by
  obtain ⟨h1, h2, h3, h4⟩ := h.2.2 i hi.1 hi.2
  exact Or.inr (Or.inr ⟨h1.1, h1.2.1, h2, h3.1, h3.2.1, by omega⟩)
theorem kSm.at {E : kE} {M : kM} {g : Int} {y L : Int → Int} {X : Int → Int → Int} (h : kSm E M g y L X) {i j : Int} (hi : 0 ≤ i ∧ i < 3) (hj : 0 ≤ j ∧ j < L i) : M (y i) j = X i j := (h.2.2 i hi.1 hi.2).2.2.2 j hj.1 hj.2
theorem kSm.len {E : kE} {M : kM} {g : Int} {y L : Int → Int} {X : Int → Int → Int} (h : kSm E M g y L X) {i : Int} (hi : 0 ≤ i ∧ i < 3) : 0 ≤ L i ∧ L i ≤ 40 := (h.2.2 i hi.1 hi.2).2.2.1.2
/-- the same Sim in a world that has more, or in which it has not changed -/
theorem kSm.ext {E E1 : kE} {M M1 : kM} {g : Int} {y L : Int → Int} {X : Int → Int → Int} (h : kSm E M g y L X) (hX : kExt E E1) (hM : ∀ k i : Int, 11 ≤ k → k < kn E → M1 k i = M k i) : kSm E1 M1 g y L X := by
  have hn := hX.2.2.1
  obtain ⟨⟨a1, a2, a3, a4, a5⟩, ⟨b1, b2, b3⟩, c1⟩ := h
  have d := fun (i : Int) (h1 : 0 ≤ i) (h2 : i < 3) => (c1 i h1 h2).1
  have d2 := d 2 (by omega) (by omega)
  refine ⟨⟨a1, by omega, by rw [hM g _ a1 (by omega)]; exact a3, by rw [hM g _ a1 (by omega), hX.ad a2]; exact a4, by rw [hM g _ a1 (by omega), hX.ad d2.2.1]; exact a5⟩, ⟨by rw [hM _ _ (by omega) a2]; exact b1, by rw [hM _ _ (by omega) a2]; exact b2, fun k h1 h2 => by rw [hM _ _ (by omega) a2, hX.ad (d k h1 (by omega)).2.1]; exact b3 k h1 h2⟩, fun i h1 h2 => ?_⟩
  obtain ⟨q1, q2, q3, q4⟩ := c1 i h1 h2
  exact ⟨⟨q1.1, by omega, q1.2.2⟩, by rw [hM _ _ q1.1 q1.2.1]; exact q2, ⟨by rw [hM _ _ q1.1 q1.2.1]; exact q3.1, q3.2⟩, fun j j1 j2 => by rw [hM _ _ q1.1 q1.2.1]; exact q4 j j1 j2⟩
theorem kSm.like {E : kE} {M : kM} {g : Int} {y L L' : Int → Int} {X X' : Int → Int → Int} (h : kSm E M g y L X) (h1 : ∀ i : Int, 0 ≤ i → i < 3 → L' i = L i) (h2 : ∀ i j : Int, 0 ≤ i → i < 3 → 0 ≤ j → j < L i → X' i j = X i j) : kSm E M g y L' X' := by
  refine ⟨h.1, h.2.1, fun i i1 i2 => ?_⟩
  obtain ⟨q1, q2, q3, q4⟩ := h.2.2 i i1 i2
  rw [h1 i i1 i2]
  exact ⟨q1, q2, q3, fun j j1 j2 => by rw [h2 i j i1 i2 j1 j2]; exact q4 j j1 j2⟩
/-- a hem, or the sample, is put in another row's place -/
theorem kSm.hem {E : kE} {M M1 : kM} {g : Int} {y L : Int → Int} {X : Int → Int → Int} (h : kSm E M g y L X) {k x len : Int} {f : Int → Int} (hk : 0 ≤ k ∧ k < 2) (hM : M1 = kU M (g + 1) k (E.2.2 x : Int)) (hx : 11 ≤ x ∧ x < kn E ∧ x ≠ g ∧ x ≠ g + 1) (hx2 : M x (-2) = 0) (hx3 : M x (-1) = len ∧ 0 ≤ len ∧ len ≤ 40) (hx4 : ∀ j : Int, 0 ≤ j → j < len → M x j = f j) :
    kSm E M1 g (fun i => if i = k then x else y i) (fun i => if i = k then len else L i) (fun i => if i = k then f else X i) := by
  obtain ⟨⟨a1, a2, a3, a4, a5⟩, ⟨b1, b2, b3⟩, c1⟩ := h
  subst hM
  refine ⟨⟨a1, a2, by rw [kU_cell (by omega)]; exact a3, by rw [kU_cell (by omega)]; exact a4, ?_⟩, ⟨by rw [kU_place (by omega)]; exact b1, by rw [kU_place (by omega)]; exact b2, fun q h1 h2 => ?_⟩, fun i h1 h2 => ?_⟩
  · rw [kU_cell (by omega)]
    show M g 1 = (E.2.2 (if (2 : Int) = k then x else y 2) : Int)
    rw [if_neg (by omega)]; exact a5
  · show kU M (g + 1) k (E.2.2 x : Int) (g + 1) q = (E.2.2 (if q = k then x else y q) : Int)
    by_cases e : q = k
    · rw [if_pos e, e, kU_same]
    · rw [if_neg e, kU_place e]; exact b3 q h1 h2
  · obtain ⟨q1, q2, q3, q4⟩ := c1 i h1 h2
    by_cases e : i = k
    · simp only [if_pos e]
      rw [kU_cell hx.2.2.2, kU_cell hx.2.2.2]
      exact ⟨hx, hx2, hx3, fun j j1 j2 => by rw [kU_cell hx.2.2.2]; exact hx4 j j1 j2⟩
    · simp only [if_neg e]
      rw [kU_cell q1.2.2.2, kU_cell q1.2.2.2]
      exact ⟨q1, q2, q3, fun j j1 j2 => by rw [kU_cell q1.2.2.2]; exact q4 j j1 j2⟩
theorem kSm.smp {E : kE} {M M1 : kM} {g : Int} {y L : Int → Int} {X : Int → Int → Int} (h : kSm E M g y L X) {x len : Int} {f : Int → Int} (hM : M1 = kU M g 1 (E.2.2 x : Int)) (hx : 11 ≤ x ∧ x < kn E ∧ x ≠ g ∧ x ≠ g + 1) (hx2 : M x (-2) = 0) (hx3 : M x (-1) = len ∧ 0 ≤ len ∧ len ≤ 40) (hx4 : ∀ j : Int, 0 ≤ j → j < len → M x j = f j) :
    kSm E M1 g (fun i => if i = 2 then x else y i) (fun i => if i = 2 then len else L i) (fun i => if i = 2 then f else X i) := by
  obtain ⟨⟨a1, a2, a3, a4, a5⟩, ⟨b1, b2, b3⟩, c1⟩ := h
  subst hM
  refine ⟨⟨a1, a2, by rw [kU_place (by omega)]; exact a3, by rw [kU_place (by omega)]; exact a4, by rw [kU_same]; rfl⟩, ⟨by rw [kU_cell (by omega)]; exact b1, by rw [kU_cell (by omega)]; exact b2, fun q h1 h2 => ?_⟩, fun i h1 h2 => ?_⟩
  · rw [kU_cell (by omega)]
    show M (g + 1) q = (E.2.2 (if q = 2 then x else y q) : Int)
    rw [if_neg (by omega)]; exact b3 q h1 h2
  · obtain ⟨q1, q2, q3, q4⟩ := c1 i h1 h2
    by_cases e : i = 2
    · simp only [if_pos e]
      rw [kU_cell hx.2.2.1, kU_cell hx.2.2.1]
      exact ⟨hx, hx2, hx3, fun j j1 j2 => by rw [kU_cell hx.2.2.1]; exact hx4 j j1 j2⟩
    · simp only [if_neg e]
      rw [kU_cell q1.2.2.1, kU_cell q1.2.2.1]
      exact ⟨q1, q2, q3, fun j j1 j2 => by rw [kU_cell q1.2.2.1]; exact q4 j j1 j2⟩
/-! the law's Rows at the cell r: its cells are r to r + 19 -/
def kRfd (k off : Int) : Prop := (k = 0 ∧ off = 1) ∨ (k = 1 ∧ off = 2) ∨ (k = 2 ∧ off = 3) ∨ (k = 3 ∧ off = 6) ∨ (k = 4 ∧ off = 9) ∨ (k = 6 ∧ off = 12) ∨ (k = 7 ∧ off = 15) ∨ (k = 8 ∧ off = 16) ∨ (k = 9 ∧ off = 19)
def kRgp (off : Int) : Prop := off = 3 ∨ off = 6 ∨ off = 9 ∨ off = 12 ∨ off = 16
def kRof (off len : Int) : Prop := (off = 1 ∧ len = 15300) ∨ ((off = 2 ∨ off = 4 ∨ off = 5 ∨ off = 7 ∨ off = 8 ∨ off = 10 ∨ off = 11) ∧ len = 1700) ∨ ((off = 13 ∨ off = 14) ∧ len = 900) ∨ ((off = 17 ∨ off = 18) ∧ len = 42) ∨ ((off = 15 ∨ off = 19) ∧ len = 2)
def kLy (E : kE) (M : kM) (r : Int) : Prop :=
  (11 ≤ r ∧ r + 19 < kn E ∧ M r (-2) = 4) ∧ (∀ k off : Int, kRfd k off → M r k = (E.2.2 (r + off) : Int)) ∧
  (∀ off : Int, kRgp off → M (r + off) (-2) = 2 ∧ M (r + off) (-1) = 2 ∧ ∀ h : Int, 0 ≤ h → h < 2 → M (r + off) h = (E.2.2 (r + (off + 1 + h)) : Int)) ∧
  ∀ off len : Int, kRof off len → M (r + off) (-2) = 0 ∧ M (r + off) (-1) = len
theorem kLy.arr {E : kE} {M : kM} {r : Int} (h : kLy E M r) {c : Int} (off len : Int) (ho : kRof off len) (hc : c = r + off) : kArr E M c len := by
  obtain ⟨a, -, -, d⟩ := h
  obtain ⟨d1, d2⟩ := d off len ho
  subst hc
  unfold kRof at ho
  exact Or.inr (Or.inr ⟨by omega, by omega, d1, d2, by omega, by omega⟩)
theorem kLy.grp {E : kE} {M : kM} {r : Int} (h : kLy E M r) {c : Int} (off : Int) (ho : kRgp off) (hc : c = r + off) : kArG E M c 2 := by
  obtain ⟨a, -, b, -⟩ := h
  obtain ⟨d1, d2, -⟩ := b off ho
  subst hc
  unfold kRgp at ho
  exact ⟨by omega, by omega, d1, d2, by omega, by omega⟩
theorem kLy.row {E : kE} {M : kM} {r : Int} (h : kLy E M r) {c x k : Int} (off : Int) (ho : kRgp off) (hc : c = r + off) (hk : 0 ≤ k ∧ k < 2) (hx : x = c + 1 + k) : M c k = (E.2.2 x : Int) := by
  obtain ⟨-, -, b, -⟩ := h
  have := (b off ho).2.2 k hk.1 hk.2
  subst hc
  rw [this, hx, show r + (off + 1 + k) = r + off + 1 + k by omega]
theorem kLy.fld {E : kE} {M : kM} {r : Int} (h : kLy E M r) {k x : Int} (off : Int) (ho : kRfd k off) (hx : x = r + off) : M r k = (E.2.2 x : Int) := by
  rw [hx]; exact h.2.1 k off ho
theorem kLy.of {E : kE} {M M1 : kM} {r : Int} (h : kLy E M r) (hM : ∀ k i : Int, r ≤ k → k ≤ r + 19 → (i < 0 ∨ (k = r ∧ i ≠ 5) ∨ kRgp (k - r)) → M1 k i = M k i) : kLy E M1 r := by
  obtain ⟨a, b, c, d⟩ := h
  refine ⟨⟨a.1, a.2.1, by rw [hM r _ (by omega) (by omega) (Or.inl (by omega))]; exact a.2.2⟩, fun k off hk => ?_, fun off ho => ?_, fun off len ho => ?_⟩
  · have h5 : k ≠ 5 := by unfold kRfd at hk; omega
    rw [hM r k (by omega) (by omega) (Or.inr (Or.inl ⟨rfl, h5⟩))]; exact b k off hk
  · obtain ⟨c1, c2, c3⟩ := c off ho
    have hr : 0 ≤ off ∧ off ≤ 19 := by unfold kRgp at ho; omega
    have hg : kRgp (r + off - r) := by rw [show r + off - r = off by omega]; exact ho
    exact ⟨by rw [hM _ _ (by omega) (by omega) (Or.inl (by omega))]; exact c1, by rw [hM _ _ (by omega) (by omega) (Or.inl (by omega))]; exact c2, fun k k1 k2 => by rw [hM _ _ (by omega) (by omega) (Or.inr (Or.inr hg))]; exact c3 k k1 k2⟩
  · obtain ⟨d1, d2⟩ := d off len ho
    have hr : 0 ≤ off ∧ off ≤ 19 := by unfold kRof at ho; omega
    exact ⟨by rw [hM _ _ (by omega) (by omega) (Or.inl (by omega))]; exact d1, by rw [hM _ _ (by omega) (by omega) (Or.inl (by omega))]; exact d2⟩
/-- a number is written into one of its rows -/
theorem kLy.put {E : kE} {M M1 : kM} {r c j v : Int} (h : kLy E M r) (hM : M1 = kU M c j v) (hj : 0 ≤ j) (off len : Int) (ho : kRof off len) (hc : c = r + off) : kLy E M1 r := by
  subst hM
  refine h.of (fun k i k1 k2 hk => ?_)
  rw [kU_at, if_neg]
  rintro ⟨q1, q2⟩
  unfold kRgp at hk
  unfold kRof at ho
  omega
theorem kLy.nod {E : kE} {M M1 : kM} {r v : Int} (h : kLy E M r) (hM : M1 = kU M r 5 v) : kLy E M1 r := by
  subst hM
  refine h.of (fun k i k1 k2 hk => ?_)
  rw [kU_at, if_neg]
  rintro ⟨q1, q2⟩
  unfold kRgp at hk
  omega
theorem kLy.ext {E E1 : kE} {M M1 : kM} {r : Int} (h : kLy E M r) (hX : kExt E E1) (hM : ∀ k i : Int, 11 ≤ k → k < kn E → M1 k i = M k i) : kLy E1 M1 r := by
  have hn := hX.2.2.1
  obtain ⟨a, b, c, d⟩ := h
  refine ⟨⟨a.1, by omega, by rw [hM r _ a.1 (by omega)]; exact a.2.2⟩, fun k off hk => ?_, fun off ho => ?_, fun off len ho => ?_⟩
  · have ho : 0 ≤ off ∧ off ≤ 19 := by unfold kRfd at hk; omega
    rw [hM r _ a.1 (by omega), hX.ad (by omega)]; exact b k off hk
  · obtain ⟨c1, c2, c3⟩ := c off ho
    have hr : 0 ≤ off ∧ off ≤ 16 := by unfold kRgp at ho; omega
    exact ⟨by rw [hM _ _ (by omega) (by omega)]; exact c1, by rw [hM _ _ (by omega) (by omega)]; exact c2, fun k k1 k2 => by rw [hM _ _ (by omega) (by omega), hX.ad (by omega)]; exact c3 k k1 k2⟩
  · obtain ⟨d1, d2⟩ := d off len ho
    have hr : 0 ≤ off ∧ off ≤ 19 := by unfold kRof at ho; omega
    exact ⟨by rw [hM _ _ (by omega) (by omega)]; exact d1, by rw [hM _ _ (by omega) (by omega)]; exact d2⟩
end
section
/-! ===== rows of rows at once, and what the constructors of the law's objects write ===== -/
theorem kNw_hit {M : kM} {n : Int} {f : Int → Int} : kNw M n f n = f := funext (fun _ => if_pos rfl)
/-- two rows behind each other -/
def kGb (a b : Int) : Int → Int := fun i => if i = -1 then 2 else if i = -2 then 2 else if i = 0 then a else if i = 1 then b else -1
section KN
variable {p : Program} {l : Launch} {e : Env} {R : Room} {s : State} {m : MethodId} {args : Array Value} {below : List Frame} {meth : Method} {c : Code} {H H0 : Heap} {locs : List Loc} {cells slots : Nat} {Q : State → Prop}
variable {cc bytes : ByteArray} {pc : Nat} {ls : Array Slot} {rest st : List Value} {E : kE} {M : kM} {nL maxL index n mc ms : Nat} {Ts ws : List Cond} {own C : String} {y : MethodName} {ret : Option FieldType} {rm : Room} {As : List Value} {b : Nat} {A : Nat → Prop}
theorem k_newM (S : CallFix p m c cc nL s args Ts own) (hK : kK E s) (hG : kG A H0.size E) (hP : va_P E.1 vwCl (kW E M) H) (hS : va_S A H0 H locs) (hcl : (Cond.classLink own index "[[I").before args s = true) (harr : (Cond.arrayClass .int).before args s = true) {len : Int} (hlen : 0 ≤ len ∧ len ≤ 20000) (hcells : cells + 3 ≤ R.cells) (hslots : slots + (2 + 2 * len.toNat) ≤ R.slots) (hdg : decode cc pc = .ok (.multianewarray index 2, 4))
    (kk : ∀ (E1 : kE) (H1 : Heap), kExt E E1 → kn E1 = kn E + 3 → kK E1 s → kG A H0.size E1 → va_P E1.1 vwCl (kW E1 (kNw (kNw (kNw M (kn E) (kGb (E1.2.2 (kn E + 1) : Int) (E1.2.2 (kn E + 2) : Int))) (kn E + 1) (kIa len)) (kn E + 2) (kIa len))) H1 → va_S A H0 H1 locs → W p l e R s m args below meth c H1 locs (cells + 3) (slots + (2 + 2 * len.toNat)) Q (F0 m (pc + 4) ls (.ref (E1.2.2 (kn E)) :: rest))) : W p l e R s m args below meth c H locs cells slots Q (F0 m pc ls (.int (zI len) :: .int (zI 2) :: rest)) := by
  have hn := hK.2.2.2
  have neg : ∀ j : Int, 0 ≤ j → j ≤ 20000 → ¬ zI j < 0 := fun j j1 j2 q => by
    rw [zI_0, zI_lt (by omega)] at q
    omega
  have hP0 : va_P E.1 vwCl (kW E M ++ va_pl [] (fun _ => kC E M 0)) H := by
    show va_P E.1 vwCl (kW E M ++ []) H
    rw [List.append_nil]; exact hP
  have hD0 : va_D A (kW E M ++ va_pl [] (fun _ => kC E M 0)) := by
    show va_D A (kW E M ++ [])
    rw [List.append_nil]; exact hG.D M
  refine va_mna (X := kW E M) (L := []) (f := fun _ => kC E M 0) (ty := .int) (cy := kaI E) (z := (len.toNat, .inl (fun _ => zI 0))) (N' := 2) (K' := len.toNat) S.1 S.2.1 S.2.2.2.1 hcl hK.2.2.1 harr (hK.1.2 0 _ rfl).2 hK.1 hP0 hD0 hS hG.2.2 (neg 2 (by omega) (by omega)) (neg len hlen.1 hlen.2) (by rw [zI_nat (by omega)]; rfl) (by rw [zI_nat (by omega)]) (by omega) (Nat.le_trans (Nat.mul_le_mul_right _ (show len.toNat ≤ 20000 by omega)) (Nat.le_of_ble_eq_true rfl)) (by omega) rfl rfl (by omega) (by omega) (fun c => ?_) hdg (fun q r cA H1 h1 h2 hK1 hP1 hD1 hS1 => ?_)
  · show ({ cls := c, slots := Array.replicate len.toNat (.int (zI 0)), vm := .none } : Cell) = arrV c len.toNat (fun _ => .int (zI 0))
    rw [arrV_new]
  · have ec := kK_cls (k := 1) hK rfl (hK.1.2 1 _ rfl).2 hK1 (fun C q => by cases q)
    subst ec
    have el : va_pl ([] ++ (List.range 2).map r) (vr_up (fun _ => kC E M 0) ((List.range 2).map r) (.inl (kaI E, len.toNat, .inl (fun _ => zI 0)))) = [(r 0, kArI E len.toNat), (r 1, kArI E len.toNat)] := by
      have e0 : (List.range 2).map r = [r 0, r 1] := rfl
      rw [e0]
      unfold va_pl
      show [(r 0, vr_up _ [r 0, r 1] _ (r 0)), (r 1, vr_up _ [r 0, r 1] _ (r 1))] = _
      rw [vr_up_in (by simp), vr_up_in (by simp)]
    rw [el] at hP1 hD1
    -- the three cells, one behind the other
    obtain ⟨E1, hE1⟩ : ∃ E1, E1 = kX E q := ⟨_, rfl⟩
    obtain ⟨E2, hE2⟩ : ∃ E2, E2 = kX E1 (r 0) := ⟨_, rfl⟩
    obtain ⟨E3, hE3⟩ : ∃ E3, E3 = kX E2 (r 1) := ⟨_, rfl⟩
    have n1 : kn E1 = kn E + 1 := by rw [hE1]; rfl
    have n2 : kn E2 = kn E + 2 := by rw [hE2, kX_n, n1]; omega
    have n3 : kn E3 = kn E + 3 := by rw [hE3, kX_n, n2]; omega
    have x1 : kExt E E1 := by rw [hE1]; exact kX_ext E q
    have x2 : kExt E1 E2 := by rw [hE2]; exact kX_ext E1 (r 0)
    have x3 : kExt E2 E3 := by rw [hE3]; exact kX_ext E2 (r 1)
    have a0 : E3.2.2 (kn E) = q := by rw [x3.ad (by omega), x2.ad (by omega), hE1, kX_at]
    have a1 : E3.2.2 (kn E + 1) = r 0 := by rw [x3.ad (by omega), hE2, ← n1, kX_at]
    have a2 : E3.2.2 (kn E + 2) = r 1 := by rw [hE3, ← n2, kX_at]
    obtain ⟨M1, hM1⟩ : ∃ M1, M1 = kNw M (kn E) (kGb (r 0 : Int) (r 1 : Int)) := ⟨_, rfl⟩
    obtain ⟨M2, hM2⟩ : ∃ M2, M2 = kNw M1 (kn E1) (kIa len) := ⟨_, rfl⟩
    obtain ⟨M3, hM3⟩ : ∃ M3, M3 = kNw M2 (kn E2) (kIa len) := ⟨_, rfl⟩
    have k1 : kC (kX E q) M1 (kn E) = .inl (kaG E, 2, .inr (.inr (.inr (.inr (fun i => if i < 2 then some (r i) else none))))) := by
      rw [hM1, kC_G hn (by rw [kNw_hit]; rfl), kNw_hit]
      show (Sum.inl (kaG E, 2, .inr (.inr (.inr (.inr (fun j => kOr (kGb (r 0 : Int) (r 1 : Int) (j : Int))))))) : va_E) = _
      congr 7
      funext j
      unfold kGb
      rw [if_neg (by omega), if_neg (by omega)]
      by_cases j0 : j = 0
      · subst j0
        rw [if_pos (show ((0 : Nat) : Int) = 0 from rfl), if_pos (by omega), kOr_nat]
      · by_cases j1 : j = 1
        · subst j1
          rw [if_neg (by omega), if_pos (show ((1 : Nat) : Int) = 1 from rfl), if_pos (by omega), kOr_nat]
        · rw [if_neg (by omega), if_neg (by omega), if_neg (by omega)]
          rfl
    have w1 : kW E M ++ [(q, .inl (kaG E, 2, .inr (.inr (.inr (.inr (fun i => if i < 2 then some (r i) else none))))))] = kW E1 M1 := by
      rw [hE1]
      exact kW_push hn (fun c hc i => by rw [hM1]; exact kNw_ne (by omega)) k1
    have i1 : kaI E1 = kaI E := by rw [hE1]; rfl
    have i2 : kaI E2 = kaI E := by rw [hE2]; exact i1
    have w2 : kW E1 M1 ++ [(r 0, kArI E len.toNat)] = kW E2 M2 := by
      rw [hE2]
      refine kW_push (by omega) (fun c hc i => by rw [hM2]; exact kNw_ne (by omega)) ?_
      rw [hM2, kC_Ia (by omega), i1]
    have w3 : kW E2 M2 ++ [(r 1, kArI E len.toNat)] = kW E3 M3 := by
      rw [hE3]
      refine kW_push (by omega) (fun c hc i => by rw [hM3]; exact kNw_ne (by omega)) ?_
      rw [hM3, kC_Ia (by omega), i2]
    have wall : (kW E M ++ [(q, .inl (kaG E, 2, .inr (.inr (.inr (.inr (fun i => if i < 2 then some (r i) else none))))))]) ++ [(r 0, kArI E len.toNat), (r 1, kArI E len.toNat)] = kW E3 M3 := by
      rw [w1, ← w3, ← w2, List.append_assoc]; rfl
    rw [wall] at hP1 hD1
    have x : kExt E E3 := x1.tr (x2.tr x3)
    have hP2 : va_P E3.1 vwCl (kW E3 M3) H1 := by rw [x.1]; exact hP1
    have eM : M3 = kNw (kNw (kNw M (kn E) (kGb (E3.2.2 (kn E + 1) : Int) (E3.2.2 (kn E + 2) : Int))) (kn E + 1) (kIa len)) (kn E + 2) (kIa len) := by rw [hM3, hM2, hM1, n1, n2, a1, a2]
    rw [eM] at hP2
    refine W.cs (cells' := cells + 3) (slots' := slots + (2 + 2 * len.toNat)) (by omega) (by omega) ?_
    rw [← a0]
    exact kk E3 H1 x n3 (hK.ext x) (kG.of hD1 hG.2.2) hP2 hS1
/-- a final field of Rows, in its constructor -/
theorem k_putrow (S : CallFix p m c cc nL s args Ts own) (hK : kK E s) (hG : kG A H0.size E) (hP : va_P E.1 vwCl (kW E M) H) (hS : va_S A H0 H locs) (hin : ∀ w ∈ wsX30, w ∈ Ts) (hinit : meth.name = "<init>") (k : Nat) (ty : FieldType) (hk : k < 10) (hk5 : k ≠ 5) (hty : tyX3 k = ty) (hty2 : ty = .array .int ∨ ty = .array (.array .int)) {index : Nat} (hlink : (Cond.fieldLink RX3 index "HemSuffixesLaw$Rows" (TX3 k).2.1 (TX3 k).2.2.1).before args s = true) (hown : own = RX3) (hdg : decode cc pc = .ok (.putfield index, 3)) {x kz : Int} {v : Nat} (hkz : kz = (k : Int)) (hc : 11 ≤ x ∧ x < kn E ∧ M x (-2) = 4)
    (kk : ∀ (H1 : Heap) (locs1 : List Loc), va_P E.1 vwCl (kW E (kU M x kz (v : Int))) H1 → va_S A H0 H1 locs1 → W p l e R s m args below meth c H1 locs1 cells slots Q (F0 m (pc + 3) ls rest)) : W p l e R s m args below meth c H locs cells slots Q (F0 m pc ls (.ref v :: .ref (E.2.2 x) :: rest)) := by
  subst hown
  have key : ∀ e : va_E, kC E (kU M x kz (v : Int)) x = e → va_P E.1 vwCl ((kW E M).set x.toNat (E.2.2 x, e)) = va_P E.1 vwCl (kW E (kU M x kz (v : Int))) := fun e he => by rw [kW_set (by omega) he (fun k hk i => kU_cell hk)]
  have h2 : kU M x kz (v : Int) x (-2) = 4 := by rw [kU_place (by omega)]; exact hc.2.2
  match k, hk, hk5, hty, hlink, hkz with
  | 0, _, _, hty, hlink, hkz =>
    have hkz : kz = 0 := hkz
    subst hkz
    refine va_putF (v := .ref v) (ty := .array .int) (C := RX3) (T := TX3) (N := 10) (ci := 3) S.1 S.2.1 S.2.2.2.2 hin tyX3 tyX3_ok nmX3 S.2.2.2.1 hK.1 hP (hG.D M) hS x.toNat (by rw [kW_get E M (by omega), kC_Rows hc.1 hc.2.2]) rfl 0 (by decide) hlink (fun y hy => hy) rfl hinit rfl rfl rfl rfl (Nat.le_of_ble_eq_true rfl) hdg (fun H1 locs1 h1 _ h3 => kk H1 locs1 ?_ h3)
    rw [key _ (by rw [kC_Rows hc.1 h2, kU_same, kU_place (by decide), kU_place (by decide), kU_place (by decide), kU_place (by decide), kU_place (by decide), kU_place (by decide), kU_place (by decide), kU_place (by decide), kU_place (by decide), kRf_nat]; rfl)] at h1
    exact h1
  | 1, _, _, hty, hlink, hkz =>
    have hkz : kz = 1 := hkz
    subst hkz
    refine va_putF (v := .ref v) (ty := .array .int) (C := RX3) (T := TX3) (N := 10) (ci := 3) S.1 S.2.1 S.2.2.2.2 hin tyX3 tyX3_ok nmX3 S.2.2.2.1 hK.1 hP (hG.D M) hS x.toNat (by rw [kW_get E M (by omega), kC_Rows hc.1 hc.2.2]) rfl 1 (by decide) hlink (fun y hy => hy) rfl hinit rfl rfl rfl rfl (Nat.le_of_ble_eq_true rfl) hdg (fun H1 locs1 h1 _ h3 => kk H1 locs1 ?_ h3)
    rw [key _ (by rw [kC_Rows hc.1 h2, kU_same, kU_place (by decide), kU_place (by decide), kU_place (by decide), kU_place (by decide), kU_place (by decide), kU_place (by decide), kU_place (by decide), kU_place (by decide), kU_place (by decide), kRf_nat]; rfl)] at h1
    exact h1
  | 2, _, _, hty, hlink, hkz =>
    have hkz : kz = 2 := hkz
    subst hkz
    refine va_putF (v := .ref v) (ty := .array (.array .int)) (C := RX3) (T := TX3) (N := 10) (ci := 3) S.1 S.2.1 S.2.2.2.2 hin tyX3 tyX3_ok nmX3 S.2.2.2.1 hK.1 hP (hG.D M) hS x.toNat (by rw [kW_get E M (by omega), kC_Rows hc.1 hc.2.2]) rfl 2 (by decide) hlink (fun y hy => hy) rfl hinit rfl rfl rfl rfl (Nat.le_of_ble_eq_true rfl) hdg (fun H1 locs1 h1 _ h3 => kk H1 locs1 ?_ h3)
    rw [key _ (by rw [kC_Rows hc.1 h2, kU_same, kU_place (by decide), kU_place (by decide), kU_place (by decide), kU_place (by decide), kU_place (by decide), kU_place (by decide), kU_place (by decide), kU_place (by decide), kU_place (by decide), kRf_nat]; rfl)] at h1
    exact h1
  | 3, _, _, hty, hlink, hkz =>
    have hkz : kz = 3 := hkz
    subst hkz
    refine va_putF (v := .ref v) (ty := .array (.array .int)) (C := RX3) (T := TX3) (N := 10) (ci := 3) S.1 S.2.1 S.2.2.2.2 hin tyX3 tyX3_ok nmX3 S.2.2.2.1 hK.1 hP (hG.D M) hS x.toNat (by rw [kW_get E M (by omega), kC_Rows hc.1 hc.2.2]) rfl 3 (by decide) hlink (fun y hy => hy) rfl hinit rfl rfl rfl rfl (Nat.le_of_ble_eq_true rfl) hdg (fun H1 locs1 h1 _ h3 => kk H1 locs1 ?_ h3)
    rw [key _ (by rw [kC_Rows hc.1 h2, kU_same, kU_place (by decide), kU_place (by decide), kU_place (by decide), kU_place (by decide), kU_place (by decide), kU_place (by decide), kU_place (by decide), kU_place (by decide), kU_place (by decide), kRf_nat]; rfl)] at h1
    exact h1
  | 4, _, _, hty, hlink, hkz =>
    have hkz : kz = 4 := hkz
    subst hkz
    refine va_putF (v := .ref v) (ty := .array (.array .int)) (C := RX3) (T := TX3) (N := 10) (ci := 3) S.1 S.2.1 S.2.2.2.2 hin tyX3 tyX3_ok nmX3 S.2.2.2.1 hK.1 hP (hG.D M) hS x.toNat (by rw [kW_get E M (by omega), kC_Rows hc.1 hc.2.2]) rfl 4 (by decide) hlink (fun y hy => hy) rfl hinit rfl rfl rfl rfl (Nat.le_of_ble_eq_true rfl) hdg (fun H1 locs1 h1 _ h3 => kk H1 locs1 ?_ h3)
    rw [key _ (by rw [kC_Rows hc.1 h2, kU_same, kU_place (by decide), kU_place (by decide), kU_place (by decide), kU_place (by decide), kU_place (by decide), kU_place (by decide), kU_place (by decide), kU_place (by decide), kU_place (by decide), kRf_nat]; rfl)] at h1
    exact h1
  | 6, _, _, hty, hlink, hkz =>
    have hkz : kz = 6 := hkz
    subst hkz
    refine va_putF (v := .ref v) (ty := .array (.array .int)) (C := RX3) (T := TX3) (N := 10) (ci := 3) S.1 S.2.1 S.2.2.2.2 hin tyX3 tyX3_ok nmX3 S.2.2.2.1 hK.1 hP (hG.D M) hS x.toNat (by rw [kW_get E M (by omega), kC_Rows hc.1 hc.2.2]) rfl 6 (by decide) hlink (fun y hy => hy) rfl hinit rfl rfl rfl rfl (Nat.le_of_ble_eq_true rfl) hdg (fun H1 locs1 h1 _ h3 => kk H1 locs1 ?_ h3)
    rw [key _ (by rw [kC_Rows hc.1 h2, kU_same, kU_place (by decide), kU_place (by decide), kU_place (by decide), kU_place (by decide), kU_place (by decide), kU_place (by decide), kU_place (by decide), kU_place (by decide), kU_place (by decide), kRf_nat]; rfl)] at h1
    exact h1
  | 7, _, _, hty, hlink, hkz =>
    have hkz : kz = 7 := hkz
    subst hkz
    refine va_putF (v := .ref v) (ty := .array .int) (C := RX3) (T := TX3) (N := 10) (ci := 3) S.1 S.2.1 S.2.2.2.2 hin tyX3 tyX3_ok nmX3 S.2.2.2.1 hK.1 hP (hG.D M) hS x.toNat (by rw [kW_get E M (by omega), kC_Rows hc.1 hc.2.2]) rfl 7 (by decide) hlink (fun y hy => hy) rfl hinit rfl rfl rfl rfl (Nat.le_of_ble_eq_true rfl) hdg (fun H1 locs1 h1 _ h3 => kk H1 locs1 ?_ h3)
    rw [key _ (by rw [kC_Rows hc.1 h2, kU_same, kU_place (by decide), kU_place (by decide), kU_place (by decide), kU_place (by decide), kU_place (by decide), kU_place (by decide), kU_place (by decide), kU_place (by decide), kU_place (by decide), kRf_nat]; rfl)] at h1
    exact h1
  | 8, _, _, hty, hlink, hkz =>
    have hkz : kz = 8 := hkz
    subst hkz
    refine va_putF (v := .ref v) (ty := .array (.array .int)) (C := RX3) (T := TX3) (N := 10) (ci := 3) S.1 S.2.1 S.2.2.2.2 hin tyX3 tyX3_ok nmX3 S.2.2.2.1 hK.1 hP (hG.D M) hS x.toNat (by rw [kW_get E M (by omega), kC_Rows hc.1 hc.2.2]) rfl 8 (by decide) hlink (fun y hy => hy) rfl hinit rfl rfl rfl rfl (Nat.le_of_ble_eq_true rfl) hdg (fun H1 locs1 h1 _ h3 => kk H1 locs1 ?_ h3)
    rw [key _ (by rw [kC_Rows hc.1 h2, kU_same, kU_place (by decide), kU_place (by decide), kU_place (by decide), kU_place (by decide), kU_place (by decide), kU_place (by decide), kU_place (by decide), kU_place (by decide), kU_place (by decide), kRf_nat]; rfl)] at h1
    exact h1
  | 9, _, _, hty, hlink, hkz =>
    have hkz : kz = 9 := hkz
    subst hkz
    refine va_putF (v := .ref v) (ty := .array .int) (C := RX3) (T := TX3) (N := 10) (ci := 3) S.1 S.2.1 S.2.2.2.2 hin tyX3 tyX3_ok nmX3 S.2.2.2.1 hK.1 hP (hG.D M) hS x.toNat (by rw [kW_get E M (by omega), kC_Rows hc.1 hc.2.2]) rfl 9 (by decide) hlink (fun y hy => hy) rfl hinit rfl rfl rfl rfl (Nat.le_of_ble_eq_true rfl) hdg (fun H1 locs1 h1 _ h3 => kk H1 locs1 ?_ h3)
    rw [key _ (by rw [kC_Rows hc.1 h2, kU_same, kU_place (by decide), kU_place (by decide), kU_place (by decide), kU_place (by decide), kU_place (by decide), kU_place (by decide), kU_place (by decide), kU_place (by decide), kU_place (by decide), kRf_nat]; rfl)] at h1
    exact h1
/-- new objects of the law -/
theorem k_newSim (S : CallFix p m c cc nL s args Ts own) (hK : kK E s) (hG : kG A H0.size E) (hP : va_P E.1 vwCl (kW E M) H) (hS : va_S A H0 H locs) (hin : ∀ w ∈ wsX40, w ∈ Ts) (hcl : (Cond.classLink own index RX4).before args s = true) (hinst : (Cond.instantiable RX4 2).before args s = true) (hini : (Cond.initialized RX4).before args s = true) (hcells : cells + 1 ≤ R.cells) (hslots : slots + 2 ≤ R.slots) (hdg : decode cc pc = .ok (.new index, 3))
    (kk : ∀ (E1 : kE) (H1 : Heap), kExt E E1 → kn E1 = kn E + 1 → kK E1 s → kG A H0.size E1 → va_P E1.1 vwCl (kW E1 (kNw M (kn E) kSo)) H1 → va_S A H0 H1 locs → W p l e R s m args below meth c H1 locs (cells + 1) (slots + 2) Q (F0 m (pc + 3) ls (.ref (E1.2.2 (kn E)) :: rest))) : W p l e R s m args below meth c H locs cells slots Q (F0 m pc ls rest) := by
  have hn := hK.2.2.2
  refine va_new (ci := 4) (fs := [.null, .null]) (C := RX4) (T := TX4) (N := 2) S.1 S.2.1 S.2.2.2.2 hin tyX4 tyX4_ok S.2.2.2.1 hcl hinst hini hK.1 hP (hG.D M) hS hG.2.2 rfl (fun j hj => by rcases (show j = 0 ∨ j = 1 by omega) with rfl | rfl <;> rfl) hcells hslots hdg (fun q H1 hP1 hD1 hS1 => ?_)
  have hkc : kC (kX E q) (kNw M (kn E) kSo) (kn E) = .inr (4, [.null, .null]) := by
    rw [kC_Sim hn (by rw [kNw_hit]; rfl), kNw_hit]; rfl
  rw [kW_push hn (M1 := kNw M (kn E) kSo) (fun c hc i => kNw_ne (by omega)) hkc] at hP1 hD1
  have hr : (.ref q : Value) = .ref ((kX E q).2.2 (kn E)) := by rw [kX_at]
  rw [hr]
  exact kk (kX E q) H1 (kX_ext E q) rfl (hK.ext (kX_ext E q)) (kG.of hD1 hG.2.2) hP1 hS1
theorem k_newRows (S : CallFix p m c cc nL s args Ts own) (hK : kK E s) (hG : kG A H0.size E) (hP : va_P E.1 vwCl (kW E M) H) (hS : va_S A H0 H locs) (hin : ∀ w ∈ wsX30, w ∈ Ts) (hcl : (Cond.classLink own index RX3).before args s = true) (hinst : (Cond.instantiable RX3 10).before args s = true) (hini : (Cond.initialized RX3).before args s = true) (hcells : cells + 1 ≤ R.cells) (hslots : slots + 10 ≤ R.slots) (hdg : decode cc pc = .ok (.new index, 3))
    (kk : ∀ (E1 : kE) (H1 : Heap), kExt E E1 → kn E1 = kn E + 1 → kK E1 s → kG A H0.size E1 → va_P E1.1 vwCl (kW E1 (kNw M (kn E) kRo)) H1 → va_S A H0 H1 locs → W p l e R s m args below meth c H1 locs (cells + 1) (slots + 10) Q (F0 m (pc + 3) ls (.ref (E1.2.2 (kn E)) :: rest))) : W p l e R s m args below meth c H locs cells slots Q (F0 m pc ls rest) := by
  have hn := hK.2.2.2
  refine va_new (ci := 3) (fs := [.null, .null, .null, .null, .null, .int (zI 0), .null, .null, .null, .null]) (C := RX3) (T := TX3) (N := 10) S.1 S.2.1 S.2.2.2.2 hin tyX3 tyX3_ok S.2.2.2.1 hcl hinst hini hK.1 hP (hG.D M) hS hG.2.2 rfl (fun j hj => by rcases (show j = 0 ∨ j = 1 ∨ j = 2 ∨ j = 3 ∨ j = 4 ∨ j = 5 ∨ j = 6 ∨ j = 7 ∨ j = 8 ∨ j = 9 by omega) with rfl | rfl | rfl | rfl | rfl | rfl | rfl | rfl | rfl | rfl <;> rfl) hcells hslots hdg (fun q H1 hP1 hD1 hS1 => ?_)
  have hkc : kC (kX E q) (kNw M (kn E) kRo) (kn E) = .inr (3, [.null, .null, .null, .null, .null, .int (zI 0), .null, .null, .null, .null]) := by
    rw [kC_Rows hn (by rw [kNw_hit]; rfl), kNw_hit]; rfl
  rw [kW_push hn (M1 := kNw M (kn E) kRo) (fun c hc i => kNw_ne (by omega)) hkc] at hP1 hD1
  have hr : (.ref q : Value) = .ref ((kX E q).2.2 (kn E)) := by rw [kX_at]
  rw [hr]
  exact kk (kX E q) H1 (kX_ext E q) rfl (hK.ext (kX_ext E q)) (kG.of hD1 hG.2.2) hP1 hS1
end KN
end
