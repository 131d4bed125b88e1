/-! ===== what holds at the law's entry ===== -/
theorem lw_T (i : Nat) {w : Cond} (h : tables_1[i]? = some w) : w ∈ lw_tbl := List.mem_append_right _ (List.mem_of_getElem? h)
theorem k_arr {s : State} {args : Array Value} {ty : FieldType} (h : (Cond.arrayClass ty).before args s = true) : ∃ cA : ClassId, s.vm.findClass ("[" ++ ty.toString) = some cA ∧ ArrOfT s cA ty := by
  obtain ⟨c, k, comp, h1, h2, h3⟩ := Cond.arrayClass_spec h
  exact ⟨c, h1, fun n z => ⟨fun k h => (by cases h), k, h2, comp, h3⟩⟩
theorem k_arr2 {s : State} (h : va_AOA .int s) : ∃ cA : ClassId, s.vm.findClass ("[" ++ (FieldType.array .int).toString) = some cA ∧ ArrOfT s cA (.array .int) := by
  obtain ⟨comp, c, k, -, -, h2, h3, h1⟩ := arrayOver_specB h
  exact ⟨c, h1, fun n z => ⟨fun k h => (by cases h), k, h2, comp, h3⟩⟩
theorem k_str {s : State} {b k : Nat} {tx : String} (h1 : (Cond.stringRef RX2 k tx).before #[Value.ref b] s = true) (h2 : (Cond.exactly (.string RX2 k) "java/lang/String").before #[Value.ref b] s = true) : ∃ sa : Nat, vk_R RX2 k tx sa s := by
  obtain ⟨a, -, -, -, ha, -⟩ := Cond.exactly_spec h2
  exact ⟨a, vk_R.of h1 ha⟩
set_option maxRecDepth 100000 in
theorem lw_str_43 {s : State} {b : Nat} (hts : ∀ w ∈ lw_tbl, w.before #[Value.ref b] s = true) (hg : ∀ c ∈ flatC (Jvm.Cond.and given_1 narrow_1), c.before #[Value.ref b] s = true) : ∃ sa : Nat, vk_R RX2 43 "the hem is full" sa s := k_str (hts _ (lw_T 516 (by decide +kernel))) (hg _ (by decide +kernel))
set_option maxRecDepth 100000 in
theorem lw_str_56 {s : State} {b : Nat} (hts : ∀ w ∈ lw_tbl, w.before #[Value.ref b] s = true) (hg : ∀ c ∈ flatC (Jvm.Cond.and given_1 narrow_1), c.before #[Value.ref b] s = true) : ∃ sa : Nat, vk_R RX2 56 "the hem is empty, or has no room" sa s := k_str (hts _ (lw_T 452 (by decide +kernel))) (hg _ (by decide +kernel))
set_option maxRecDepth 100000 in
theorem lw_str_66 {s : State} {b : Nat} (hts : ∀ w ∈ lw_tbl, w.before #[Value.ref b] s = true) (hg : ∀ c ∈ flatC (Jvm.Cond.and given_1 narrow_1), c.before #[Value.ref b] s = true) : ∃ sa : Nat, vk_R RX2 66 "the sample is full" sa s := k_str (hts _ (lw_T 505 (by decide +kernel))) (hg _ (by decide +kernel))
set_option maxRecDepth 100000 in
theorem lw_xs {s : State} {b : Nat} (hts : ∀ w ∈ lw_tbl, w.before #[Value.ref b] s = true) (hg : ∀ c ∈ flatC (Jvm.Cond.and given_1 narrow_1), c.before #[Value.ref b] s = true) : kXs s := by
  refine ⟨⟨va_Nw.of rfl (hts _ (lw_T 75 (by decide +kernel))), va_Nw.of rfl (hts _ (lw_T 77 (by decide +kernel))), va_Nw.of rfl (hts _ (lw_T 79 (by decide +kernel)))⟩, va_Nw.of rfl (hts _ (lw_T 445 (by decide +kernel))), ?_⟩
  exact List.forall_mem_cons.mpr ⟨lw_str_43 hts hg, List.forall_mem_cons.mpr ⟨lw_str_56 hts hg, List.forall_mem_cons.mpr ⟨lw_str_66 hts hg, fun _ h => absurd h List.not_mem_nil⟩⟩⟩
set_option maxRecDepth 100000 in
theorem lw_aoa {s : State} {b : Nat} (hts : ∀ w ∈ lw_tbl, w.before #[Value.ref b] s = true) : va_AOA .int s := va_AOA.of (hts _ (lw_T 331 (by decide +kernel)))
set_option maxRecDepth 100000 in
theorem lw_kN {s : State} {b : Nat} (hts : ∀ w ∈ lw_tbl, w.before #[Value.ref b] s = true) : kN s := ⟨va_Nw.of rfl (hts _ (lw_T 36 (by decide +kernel))), va_Nw.of rfl (hts _ (lw_T 35 (by decide +kernel))), va_Nw.of rfl (hts _ (lw_T 44 (by decide +kernel))), va_Nw.of rfl (hts _ (lw_T 382 (by decide +kernel))), va_Nw.of rfl (hts _ (lw_T 526 (by decide +kernel)))⟩
set_option maxRecDepth 100000 in
theorem lw_kZ {s : State} {b : Nat} (hts : ∀ w ∈ lw_tbl, w.before #[Value.ref b] s = true) (hg : ∀ c ∈ flatC (Jvm.Cond.and given_1 narrow_1), c.before #[Value.ref b] s = true) {A : Nat → Prop} (hA : ∀ a : Nat, a < s.heap.size → ¬ A a) : kZ A s s.heap :=
  ⟨vx_Zqof (hts _ (lw_T 98 (by decide +kernel))) (hts _ (lw_T 5 (by decide +kernel))) (hg _ (by decide +kernel)) hA, vx_Zqof (hts _ (lw_T 100 (by decide +kernel))) (hts _ (lw_T 5 (by decide +kernel))) (hg _ (by decide +kernel)) hA⟩
set_option maxRecDepth 100000 in
theorem lw_kK {s : State} {b : Nat} (hts : ∀ w ∈ lw_tbl, w.before #[Value.ref b] s = true) : ∃ (D : va_G) (cs : ClassId × ClassId × ClassId), ∀ (n : Int) (ad : Int → Nat), 11 ≤ n → kK (D, (cs, n), ad) s := by
  have ht2 : ∀ w ∈ wsL_law, w.before #[Value.ref b] s = true := fun w h => hts w (wsL_law_in w h)
  obtain ⟨c0, i0, k0⟩ := u_known (C := RX0) (T := TX0) (N := 2) (n := 2) ht2 inlX0 (hts _ (lw_T 22 (by decide +kernel)))
  obtain ⟨c1, i1, k1⟩ := u_known (C := RX1) (T := TX1) (N := 2) (n := 2) ht2 inlX1 (hts _ (lw_T 28 (by decide +kernel)))
  obtain ⟨c2, i2, k2⟩ := u_known (C := RX2) (T := TX2) (N := 3) (n := 3) ht2 inlX2 (hts _ (lw_T 14 (by decide +kernel)))
  obtain ⟨c3, i3, k3⟩ := u_known (C := RX3) (T := TX3) (N := 10) (n := 10) ht2 inlX3 (hts _ (lw_T 325 (by decide +kernel)))
  obtain ⟨c4, i4, k4⟩ := u_known (C := RX4) (T := TX4) (N := 2) (n := 2) ht2 inlX4 (hts _ (lw_T 525 (by decide +kernel)))
  obtain ⟨aI, e1, e2⟩ := k_arr (hts _ (lw_T (w := .arrayClass .int) 42 (by decide +kernel)))
  obtain ⟨aG, e3, e4⟩ := k_arr2 (lw_aoa hts)
  obtain ⟨aZ, e5, e6⟩ := k_arr (hts _ (lw_T (w := .arrayClass .boolean) 544 (by decide +kernel)))
  refine ⟨(fun k => if k = 0 then c0 else if k = 1 then c1 else if k = 2 then c2 else if k = 3 then c3 else c4, fun k => if k = 0 then i0 else if k = 1 then i1 else if k = 2 then i2 else if k = 3 then i3 else i4), (aI, aG, aZ), fun n ad hn => ⟨⟨fun k q hq => ?_, fun k q hq => ?_⟩, lw_kN hts, lw_aoa hts, hn⟩⟩
  · match k, hq with
    | 0, hq => cases hq; exact k0
    | 1, hq => cases hq; exact k1
    | 2, hq => cases hq; exact k2
    | 3, hq => cases hq; exact k3
    | 4, hq => cases hq; exact k4
    | k + 5, hq => simp [vwCl] at hq
  · match k, hq with
    | 0, hq => cases hq; exact ⟨e2, e1⟩
    | 1, hq => cases hq; exact ⟨e4, e3⟩
    | 2, hq => cases hq; exact ⟨e6, e5⟩
    | k + 3, hq => simp at hq
