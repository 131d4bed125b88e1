abbrev rL_cell : Room := { frames := 0, cells := 0, slots := 0, locals := 0 }
set_option maxHeartbeats 4000000 in
set_option maxRecDepth 100000 in
/-- a cell of the script: some int -/
theorem c_L_cell (l : Launch) (b L : Nat) (xs : Nat → Int32) (k : Int) (hL : L ≤ 260) (hk : 0 ≤ k ∧ k ≤ 1000) : kSC l yL_cell wsL_cell rL_cell b L xs [.ref b, .int (zI k)] := by
  refine Met.ofW (cc := cL_cell) (maxL := 2) (ret := some .int) (by decide) rfl ?_
  intro p e s m args below meth c s₁ B hml hv
  obtain ⟨rfl, hX, hbl⟩ := hv
  have hx := B.exec
  have hb := B.bytes
  have hr := B.returns
  have hlocks := B.notSynchronized
  have hl := lv_entry [.ref b, .int (zI k)] (n := 2) (Nat.le_of_ble_eq_true rfl)
  rw [lg_entry_eq]
  generalize (lg_sl [Value.ref b, Value.int (zI k)] ++ List.replicate (2 - (lg_sl [Value.ref b, Value.int (zI k)]).length) Slot.unset).toArray = ls at hl ⊢
  have S : CallFix p m c cL_cell 2 s _ wsL_cell RL := ⟨hx, hb, hml, findClass_of_methodNamed B.named, atoms_spec (ws := wsL_cell) B.pre⟩
  have hl : lv_has ls 2 [(0, .ref b), (1, .int (zI k))] := hl
  have ends : ∀ (pc : Nat) (ls : Array Slot) (z : Int), decode cL_cell pc = .ok (.ireturn, 1) → -2147483648 ≤ z ∧ z ≤ 2147483647 → W p l e (headSpec wsL_cell rL_cell).room s m #[Value.ref b, Value.int (zI k)] below meth c s.heap [] 0 0 (MQ below (vp_Si fun r => ∃ z : Int, r = zI z ∧ -2147483648 ≤ z ∧ z ≤ 2147483647) #[Value.ref b, Value.int (zI k)] s 0 0 (fun _ => False)) (F0 m pc ls [.int (zI z)]) := fun pc ls z hdg hp =>
    W.zret (v := zI z) hx hb hr rfl (fun t ht hW => ⟨zI z, rfl, ⟨z, rfl, hp⟩, ht⟩) (fun q hq => absurd hq List.not_mem_nil) hdg hlocks
  refine lv_iload_n hx hb dL_cell_0 rfl (lv_at hl 1 rfl) ?_
  refine lv_aload_n hx hb dL_cell_1 rfl (lv_at hl 0 rfl) ?_
  refine va_slen (A := fun _ => False) hx hb hX hbl id va_S.rf dL_cell_2 ?_
  rw [show Int32.ofNat L = zI (L : Int) by rw [zI, Int32.ofInt_eq_ofNat]]
  refine k_ge (tgt := 12) hx hb dL_cell_3 (by decide) (by omega) (fun c_3 => ?_) (fun c_3 => ?_)
  · refine lv_ldc hx hb S.2.2.2.1 (S.2.2.2.2 (.constant RL 8 (790386105)) (by decide +kernel)) dL_cell_12 ?_
    refine lv_iload_n hx hb dL_cell_14 rfl (lv_at hl 1 rfl) ?_
    refine k_push hx hb dL_cell_15 ?_
    refine lv_iadd hx hb dL_cell_16 ?_
    refine lv_imul hx hb dL_cell_17 ?_
    refine k_any (fun z_17 h_17 => ?_)
    exact ends _ _ z_17 dL_cell_18 h_17
  · refine lv_aload_n hx hb dL_cell_6 rfl (lv_at hl 0 rfl) ?_
    refine lv_iload_n hx hb dL_cell_7 rfl (lv_at hl 1 rfl) ?_
    refine va_sld (A := fun _ => False) hx hb hX hbl id va_S.rf (zI_in (by omega) (by omega)) dL_cell_8 ?_
    refine k_any (fun z_8 h_8 => ?_)
    refine lv_goto (tgt := 18) hx hb dL_cell_9 (by decide) ?_
    exact ends _ _ z_8 dL_cell_18 h_8
