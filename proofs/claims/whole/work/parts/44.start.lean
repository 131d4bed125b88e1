/-! ===== what holds at the law's entry ===== -/
theorem lw_T (i : Nat) {w : Cond} (h : tables_1[i]? = some w) : w ∈ lw_tbl := List.mem_append_right _ (List.mem_of_getElem? h)
theorem k_arr {s : State} {args : Array Value} {ty : FieldType} (h : (Cond.arrayClass ty).before args s = true) : ∃ cA : ClassId, s.vm.findClass ("[" ++ ty.toString) = some cA ∧ ArrOfT s cA ty := by
  obtain ⟨c, k, comp, h1, h2, h3⟩ := Cond.arrayClass_spec h
  exact ⟨c, h1, fun n z => ⟨fun k h => (by cases h), k, h2, comp, h3⟩⟩
theorem k_arr2 {s : State} (h : va_AOA .int s) : ∃ cA : ClassId, s.vm.findClass ("[" ++ (FieldType.array .int).toString) = some cA ∧ ArrOfT s cA (.array .int) := by
  obtain ⟨comp, c, k, -, -, h2, h3, h1⟩ := arrayOver_specB h
  exact ⟨c, h1, fun n z => ⟨fun k h => (by cases h), k, h2, comp, h3⟩⟩
theorem k_str {s : State} {b k : Nat} {tx : String} (h1 : (Cond.stringRef RX2 k tx).before #[Value.ref b] s = true) (h2 : (Cond.exactly (.string RX2 k) "java/lang/String").before #[Value.ref b] s = true) : ∃ sa : Nat, vk_R RX2 k tx sa s := by
  obtain ⟨a, -, -, -, ha, -⟩ := Cond.exactly_spec h2
  exact ⟨a, vk_R.of h1 ha⟩
set_option maxRecDepth 100000 in
theorem lw_str_94 {s : State} {b : Nat} (hts : ∀ w ∈ lw_tbl, w.before #[Value.ref b] s = true) (hg : ∀ c ∈ flatC (Jvm.Cond.and given_1 narrow_1), c.before #[Value.ref b] s = true) : ∃ sa : Nat, vk_R RX2 94 "what is not 0 to 5" sa s := k_str (hts _ (lw_T 176 (by decide +kernel))) (hg _ (by decide +kernel))
set_option maxRecDepth 100000 in
theorem lw_str_179 {s : State} {b : Nat} (hts : ∀ w ∈ lw_tbl, w.before #[Value.ref b] s = true) (hg : ∀ c ∈ flatC (Jvm.Cond.and given_1 narrow_1), c.before #[Value.ref b] s = true) : ∃ sa : Nat, vk_R RX2 179 "hem is not 0 to 1" sa s := k_str (hts _ (lw_T 215 (by decide +kernel))) (hg _ (by decide +kernel))
set_option maxRecDepth 100000 in
theorem lw_str_110 {s : State} {b : Nat} (hts : ∀ w ∈ lw_tbl, w.before #[Value.ref b] s = true) (hg : ∀ c ∈ flatC (Jvm.Cond.and given_1 narrow_1), c.before #[Value.ref b] s = true) : ∃ sa : Nat, vk_R RX2 110 "what is not 0 to 2" sa s := k_str (hts _ (lw_T 224 (by decide +kernel))) (hg _ (by decide +kernel))
set_option maxRecDepth 100000 in
theorem lw_str_181 {s : State} {b : Nat} (hts : ∀ w ∈ lw_tbl, w.before #[Value.ref b] s = true) (hg : ∀ c ∈ flatC (Jvm.Cond.and given_1 narrow_1), c.before #[Value.ref b] s = true) : ∃ sa : Nat, vk_R RX2 181 "stitch is not 0 to 8" sa s := k_str (hts _ (lw_T 296 (by decide +kernel))) (hg _ (by decide +kernel))
set_option maxRecDepth 100000 in
theorem lw_str_43 {s : State} {b : Nat} (hts : ∀ w ∈ lw_tbl, w.before #[Value.ref b] s = true) (hg : ∀ c ∈ flatC (Jvm.Cond.and given_1 narrow_1), c.before #[Value.ref b] s = true) : ∃ sa : Nat, vk_R RX2 43 "the hem is full" sa s := k_str (hts _ (lw_T 312 (by decide +kernel))) (hg _ (by decide +kernel))
set_option maxRecDepth 100000 in
theorem lw_str_53 {s : State} {b : Nat} (hts : ∀ w ∈ lw_tbl, w.before #[Value.ref b] s = true) (hg : ∀ c ∈ flatC (Jvm.Cond.and given_1 narrow_1), c.before #[Value.ref b] s = true) : ∃ sa : Nat, vk_R RX2 53 "many is not 1 to 40" sa s := k_str (hts _ (lw_T 346 (by decide +kernel))) (hg _ (by decide +kernel))
set_option maxRecDepth 100000 in
theorem lw_str_56 {s : State} {b : Nat} (hts : ∀ w ∈ lw_tbl, w.before #[Value.ref b] s = true) (hg : ∀ c ∈ flatC (Jvm.Cond.and given_1 narrow_1), c.before #[Value.ref b] s = true) : ∃ sa : Nat, vk_R RX2 56 "the hem is empty, or has no room" sa s := k_str (hts _ (lw_T 347 (by decide +kernel))) (hg _ (by decide +kernel))
set_option maxRecDepth 100000 in
theorem lw_str_61 {s : State} {b : Nat} (hts : ∀ w ∈ lw_tbl, w.before #[Value.ref b] s = true) (hg : ∀ c ∈ flatC (Jvm.Cond.and given_1 narrow_1), c.before #[Value.ref b] s = true) : ∃ sa : Nat, vk_R RX2 61 "the hem has not so many stitches" sa s := k_str (hts _ (lw_T 360 (by decide +kernel))) (hg _ (by decide +kernel))
set_option maxRecDepth 100000 in
theorem lw_str_66 {s : State} {b : Nat} (hts : ∀ w ∈ lw_tbl, w.before #[Value.ref b] s = true) (hg : ∀ c ∈ flatC (Jvm.Cond.and given_1 narrow_1), c.before #[Value.ref b] s = true) : ∃ sa : Nat, vk_R RX2 66 "the sample is full" sa s := k_str (hts _ (lw_T 373 (by decide +kernel))) (hg _ (by decide +kernel))
set_option maxRecDepth 100000 in
theorem lw_str_183 {s : State} {b : Nat} (hts : ∀ w ∈ lw_tbl, w.before #[Value.ref b] s = true) (hg : ∀ c ∈ flatC (Jvm.Cond.and given_1 narrow_1), c.before #[Value.ref b] s = true) : ∃ sa : Nat, vk_R RX2 183 "there is no such place" sa s := k_str (hts _ (lw_T 385 (by decide +kernel))) (hg _ (by decide +kernel))
set_option maxRecDepth 100000 in
theorem lw_str_125 {s : State} {b : Nat} (hts : ∀ w ∈ lw_tbl, w.before #[Value.ref b] s = true) (hg : ∀ c ∈ flatC (Jvm.Cond.and given_1 narrow_1), c.before #[Value.ref b] s = true) : ∃ sa : Nat, vk_R RX2 125 "there is no such row" sa s := k_str (hts _ (lw_T 435 (by decide +kernel))) (hg _ (by decide +kernel))
set_option maxRecDepth 100000 in
theorem lw_xs {s : State} {b : Nat} (hts : ∀ w ∈ lw_tbl, w.before #[Value.ref b] s = true) (hg : ∀ c ∈ flatC (Jvm.Cond.and given_1 narrow_1), c.before #[Value.ref b] s = true) : kXs s := by
  refine ⟨⟨va_Nw.of rfl (hts _ (lw_T 139 (by decide +kernel))), va_Nw.of rfl (hts _ (lw_T 141 (by decide +kernel))), va_Nw.of rfl (hts _ (lw_T 143 (by decide +kernel)))⟩, ⟨va_Nw.of rfl (hts _ (lw_T 305 (by decide +kernel))), va_Nw.of rfl (hts _ (lw_T 289 (by decide +kernel))), va_Nw.of rfl (hts _ (lw_T 137 (by decide +kernel)))⟩, ⟨va_Nc.of (hg _ (by decide +kernel)), va_Nc.of (hg _ (by decide +kernel)), va_Nc.of (hg _ (by decide +kernel))⟩, ?_⟩
  exact List.forall_mem_cons.mpr ⟨lw_str_94 hts hg, List.forall_mem_cons.mpr ⟨lw_str_179 hts hg, List.forall_mem_cons.mpr ⟨lw_str_110 hts hg, List.forall_mem_cons.mpr ⟨lw_str_181 hts hg, List.forall_mem_cons.mpr ⟨lw_str_43 hts hg, List.forall_mem_cons.mpr ⟨lw_str_53 hts hg, List.forall_mem_cons.mpr ⟨lw_str_56 hts hg, List.forall_mem_cons.mpr ⟨lw_str_61 hts hg, List.forall_mem_cons.mpr ⟨lw_str_66 hts hg, List.forall_mem_cons.mpr ⟨lw_str_183 hts hg, List.forall_mem_cons.mpr ⟨lw_str_125 hts hg, fun _ h => absurd h List.not_mem_nil⟩⟩⟩⟩⟩⟩⟩⟩⟩⟩⟩
set_option maxRecDepth 100000 in
theorem lw_aoa {s : State} {b : Nat} (hts : ∀ w ∈ lw_tbl, w.before #[Value.ref b] s = true) : va_AOA .int s := va_AOA.of (hts _ (lw_T 493 (by decide +kernel)))
set_option maxRecDepth 100000 in
theorem lw_kN {s : State} {b : Nat} (hts : ∀ w ∈ lw_tbl, w.before #[Value.ref b] s = true) : kN s := ⟨va_Nw.of rfl (hts _ (lw_T 35 (by decide +kernel))), va_Nw.of rfl (hts _ (lw_T 34 (by decide +kernel))), va_Nw.of rfl (hts _ (lw_T 43 (by decide +kernel)))⟩
set_option maxRecDepth 100000 in
theorem lw_kZ {s : State} {b : Nat} (hts : ∀ w ∈ lw_tbl, w.before #[Value.ref b] s = true) (hg : ∀ c ∈ flatC (Jvm.Cond.and given_1 narrow_1), c.before #[Value.ref b] s = true) {A : Nat → Prop} (hA : ∀ a : Nat, a < s.heap.size → ¬ A a) : kZ A s s.heap :=
  ⟨vx_Zqof (hts _ (lw_T 162 (by decide +kernel))) (hts _ (lw_T 5 (by decide +kernel))) (hg _ (by decide +kernel)) hA, vx_Zqof (hts _ (lw_T 164 (by decide +kernel))) (hts _ (lw_T 5 (by decide +kernel))) (hg _ (by decide +kernel)) hA⟩
set_option maxRecDepth 100000 in
theorem lw_kK {s : State} {b : Nat} (hts : ∀ w ∈ lw_tbl, w.before #[Value.ref b] s = true) : ∃ (D : va_G) (cs : ClassId × ClassId × ClassId), ∀ ad : Int → Nat, kK (D, cs, ad) s := by
  have ht2 : ∀ w ∈ wsL_law, w.before #[Value.ref b] s = true := fun w h => hts w (wsL_law_in w h)
  obtain ⟨c0, i0, k0⟩ := u_known (C := RX0) (T := TX0) (N := 2) (n := 2) ht2 inlX0 (hts _ (lw_T 21 (by decide +kernel)))
  obtain ⟨c1, i1, k1⟩ := u_known (C := RX1) (T := TX1) (N := 2) (n := 2) ht2 inlX1 (hts _ (lw_T 27 (by decide +kernel)))
  obtain ⟨c2, i2, k2⟩ := u_known (C := RX2) (T := TX2) (N := 3) (n := 3) ht2 inlX2 (hts _ (lw_T 13 (by decide +kernel)))
  obtain ⟨c3, i3, k3⟩ := u_known (C := RX3) (T := TX3) (N := 8) (n := 8) ht2 inlX3 (hts _ (lw_T 487 (by decide +kernel)))
  obtain ⟨aI, e1, e2⟩ := k_arr (hts _ (lw_T (w := .arrayClass .int) 41 (by decide +kernel)))
  obtain ⟨aG, e3, e4⟩ := k_arr2 (lw_aoa hts)
  obtain ⟨aJ, e5, e6⟩ := k_arr (hts _ (lw_T (w := .arrayClass .long) 722 (by decide +kernel)))
  refine ⟨(fun k => if k = 0 then c0 else if k = 1 then c1 else if k = 2 then c2 else c3, fun k => if k = 0 then i0 else if k = 1 then i1 else if k = 2 then i2 else i3), (aI, aG, aJ), fun ad => ⟨⟨fun k q hq => ?_, fun k q hq => ?_⟩, lw_kN hts⟩⟩
  · match k, hq with
    | 0, hq => cases hq; exact k0
    | 1, hq => cases hq; exact k1
    | 2, hq => cases hq; exact k2
    | 3, hq => cases hq; exact k3
    | k + 4, hq => simp [vwCl] at hq
  · match k, hq with
    | 0, hq => cases hq; exact ⟨e2, e1⟩
    | 1, hq => cases hq; exact ⟨e4, e3⟩
    | 2, hq => cases hq; exact ⟨e6, e5⟩
    | k + 3, hq => simp at hq
