set_option maxHeartbeats 4000000 in
set_option maxRecDepth 100000 in
theorem whole_start {p : Program} {e : Env} {s : State} {m : MethodId} {below : List Frame} {meth : Method} {c : Code} (l : Launch) (hflags : l.flags = flags0) {b L : Nat} {xs : Nat → Int32} (hL : L ≤ 2048) (C0 : lw_At p s m meth c b L xs) : W p l e room_1 s m #[Value.ref b] below meth c s.heap [] 0 0 (lw_Z below #[Value.ref b] s) (entryFrame m ([Value.ref b] : List Value).toArray 9) := by
  obtain ⟨hx, hb, hr, hml, hown, hts, hScr, hbl, hlocks, hgv⟩ := id C0
  have hg := flat_of_before _ hgv
  obtain ⟨D, cs, hKK⟩ := lw_kK hts
  have hXs := lw_xs hts hg
  have hlst : l.stackTraces = false := by
    unfold Launch.stackTraces
    rw [hflags]
    decide
  refine W.base ?_
  have S : CallFix p m c cL_law 9 (s.setDrawn s.drawn) #[Value.ref b] wsL_law RL := ⟨hx, hb, hml, hown, dr_words (fun w h => hts w (wsL_law_in w h)) s.drawn⟩
  obtain ⟨E0, hE0⟩ : ∃ E0 : kE, E0 = (D, cs, fun _ => 0) := ⟨_, rfl⟩
  have hK : kK E0 (s.setDrawn s.drawn) := by rw [hE0]; exact kK.same (u := s) (U := s.setDrawn s.drawn) rfl (hKK _)
  have hAO : va_AOA .int (s.setDrawn s.drawn) := va_AOA.moved (u := s) (U := s.setDrawn s.drawn) (Vm.Alike.refl s.vm) (lw_aoa hts)
  have hP : va_P E0.1 vwCl [] s.heap := fun k q h => by simp at h
  have hD : va_D (fun q : Nat => s.heap.size ≤ q) [] := ⟨fun i j p q h => by simp at h, fun k q h => by simp at h⟩
  have hS : va_S (fun q : Nat => s.heap.size ≤ q) s.heap s.heap [] := va_S.rf
  have hA : ∀ q : Nat, s.heap.size ≤ q → (fun q : Nat => s.heap.size ≤ q) q := fun _ h => h
  have hl := lv_entry ([.ref b]) (n := 9) (Nat.le_of_ble_eq_true rfl)
  rw [lg_entry_eq]
  generalize (lg_sl ([.ref b]) ++ List.replicate (9 - (lg_sl ([.ref b])).length) Slot.unset).toArray = ls at hl ⊢
  have hl : lv_has ls 9 [(0, .ref b)] := hl
  refine va_new (ci := 2) (fs := [.null, .null, .null]) (C := RX2) (T := TX2) (N := 3) hx hb S.2.2.2.2 inlX2 tyX2 tyX2_ok S.2.2.2.1 (dr_words hts s.drawn _ (lw_T 12 (by decide +kernel))) (dr_words hts s.drawn _ (lw_T 13 (by decide +kernel))) (dr_words hts s.drawn _ (lw_T 1 (by decide +kernel))) hK.1 hP hD hS hA rfl (fun j hj => by rcases (show j = 0 ∨ j = 1 ∨ j = 2 by omega) with rfl | rfl | rfl <;> rfl) (Nat.le_of_ble_eq_true rfl) (Nat.le_of_ble_eq_true rfl) dL_law_0 (fun x H hP hD hS => ?_)
  have hP : va_P E0.1 vwCl [(x, .inr (2, [.null, .null, .null]))] H := hP
  have hD : va_D (fun q : Nat => s.heap.size ≤ q) [(x, .inr (2, [.null, .null, .null]))] := hD
  refine lv_dup hx hb dL_law_3 rfl ?_
  refine k_callIN (w := [(x, .inr (2, [.null, .null, .null]))]) (wr := []) (rest := [.ref x]) S hK hP hD hS hA [0] [] rfl rfl (by decide) (by decide) (c_X2_init l E0 x) (cwI 0 S.2.2.2.2 gL_law_X2_init rfl rfl rfl (dr_words hts s.drawn _ (lw_T 1 (by decide +kernel))) (dr_words hts s.drawn _ (lw_T 14 (by decide +kernel))) (dr_words hts s.drawn _ (lw_T 15 (by decide +kernel))) rfl (by decide +kernel) ⟨Nat.le_of_ble_eq_true rfl, Nat.le_of_ble_eq_true rfl⟩) hl.1 rfl (Nat.le_of_ble_eq_true rfl) dL_law_4 ⟨Nat.le_of_ble_eq_true rfl, Nat.le_of_ble_eq_true rfl⟩ (hP.sub [0] rfl) ((hD.sub (ws' := [(x, .inr (2, [.null, .null, .null]))]) [0] (by decide) rfl).weaken (fun _ _ _ _ => trivial)) (fun w1 H locs hw1 hP hD hS => ?_)
  obtain ⟨h, s1, a, o, h2, s2, a2, o2, p9, b9, rfl⟩ := hw1
  have hP : va_P E0.1 vwCl ([(x, .inr (2, [.ref h, .ref h2, .ref p9])), (h, .inr (0, [.ref s1, .ref o])), (s1, .inr (1, [.ref a, .int (zI 0)])), (a, kArI E0 40), (o, kArI E0 40), (h2, .inr (0, [.ref s2, .ref o2])), (s2, .inr (1, [.ref a2, .int (zI 0)])), (a2, kArI E0 40), (o2, kArI E0 40), (p9, .inr (1, [.ref b9, .int (zI 0)])), (b9, kArI E0 40)]) H := hP
  have hD : va_D (fun q : Nat => s.heap.size ≤ q) ([(x, .inr (2, [.ref h, .ref h2, .ref p9])), (h, .inr (0, [.ref s1, .ref o])), (s1, .inr (1, [.ref a, .int (zI 0)])), (a, kArI E0 40), (o, kArI E0 40), (h2, .inr (0, [.ref s2, .ref o2])), (s2, .inr (1, [.ref a2, .int (zI 0)])), (a2, kArI E0 40), (o2, kArI E0 40), (p9, .inr (1, [.ref b9, .int (zI 0)])), (b9, kArI E0 40)]) := hD
  refine lv_astore_n (lv' := [(1, .ref x), (0, .ref b)]) hx hb dL_law_7 rfl hl (by decide) rfl (fun ls hl => ?_)
  refine va_new (ci := 3) (fs := [.int (zI 0), .null, .null, .null, .int (zI 0), .null, .null, .null]) (C := RX3) (T := TX3) (N := 8) hx hb S.2.2.2.2 inlX3 tyX3 tyX3_ok S.2.2.2.1 (dr_words hts s.drawn _ (lw_T 486 (by decide +kernel))) (dr_words hts s.drawn _ (lw_T 487 (by decide +kernel))) (dr_words hts s.drawn _ (lw_T 4 (by decide +kernel))) hK.1 hP hD hS hA rfl (fun j hj => by rcases (show j = 0 ∨ j = 1 ∨ j = 2 ∨ j = 3 ∨ j = 4 ∨ j = 5 ∨ j = 6 ∨ j = 7 by omega) with rfl | rfl | rfl | rfl | rfl | rfl | rfl | rfl <;> rfl) (Nat.le_of_ble_eq_true rfl) (Nat.le_of_ble_eq_true rfl) dL_law_8 (fun y H hP hD hS => ?_)
  have hP : va_P E0.1 vwCl ([(x, .inr (2, [.ref h, .ref h2, .ref p9])), (h, .inr (0, [.ref s1, .ref o])), (s1, .inr (1, [.ref a, .int (zI 0)])), (a, kArI E0 40), (o, kArI E0 40), (h2, .inr (0, [.ref s2, .ref o2])), (s2, .inr (1, [.ref a2, .int (zI 0)])), (a2, kArI E0 40), (o2, kArI E0 40), (p9, .inr (1, [.ref b9, .int (zI 0)])), (b9, kArI E0 40)] ++ [(y, .inr (3, [.int (zI 0), .null, .null, .null, .int (zI 0), .null, .null, .null]))]) H := hP
  have hD : va_D (fun q : Nat => s.heap.size ≤ q) ([(x, .inr (2, [.ref h, .ref h2, .ref p9])), (h, .inr (0, [.ref s1, .ref o])), (s1, .inr (1, [.ref a, .int (zI 0)])), (a, kArI E0 40), (o, kArI E0 40), (h2, .inr (0, [.ref s2, .ref o2])), (s2, .inr (1, [.ref a2, .int (zI 0)])), (a2, kArI E0 40), (o2, kArI E0 40), (p9, .inr (1, [.ref b9, .int (zI 0)])), (b9, kArI E0 40)] ++ [(y, .inr (3, [.int (zI 0), .null, .null, .null, .int (zI 0), .null, .null, .null]))]) := hD
  refine lv_dup hx hb dL_law_11 rfl ?_
  refine k_callINy (w := [(x, .inr (2, [.ref h, .ref h2, .ref p9])), (h, .inr (0, [.ref s1, .ref o])), (s1, .inr (1, [.ref a, .int (zI 0)])), (a, kArI E0 40), (o, kArI E0 40), (h2, .inr (0, [.ref s2, .ref o2])), (s2, .inr (1, [.ref a2, .int (zI 0)])), (a2, kArI E0 40), (o2, kArI E0 40), (p9, .inr (1, [.ref b9, .int (zI 0)])), (b9, kArI E0 40)] ++ [(y, .inr (3, [.int (zI 0), .null, .null, .null, .int (zI 0), .null, .null, .null]))]) (wr := [(x, .inr (2, [.ref h, .ref h2, .ref p9])), (h, .inr (0, [.ref s1, .ref o])), (s1, .inr (1, [.ref a, .int (zI 0)])), (a, kArI E0 40), (o, kArI E0 40), (h2, .inr (0, [.ref s2, .ref o2])), (s2, .inr (1, [.ref a2, .int (zI 0)])), (a2, kArI E0 40), (o2, kArI E0 40), (p9, .inr (1, [.ref b9, .int (zI 0)])), (b9, kArI E0 40)]) (rest := [.ref y]) S hK hAO hP hD hS hA [11] [0, 1, 2, 3, 4, 5, 6, 7, 8, 9, 10] rfl rfl (by decide) (by decide) (c_X3_init l E0 y) (cwI 0 S.2.2.2.2 gL_law_X3_init rfl rfl rfl (dr_words hts s.drawn _ (lw_T 4 (by decide +kernel))) (dr_words hts s.drawn _ (lw_T 488 (by decide +kernel))) (dr_words hts s.drawn _ (lw_T 489 (by decide +kernel))) rfl (by decide +kernel) ⟨Nat.le_of_ble_eq_true rfl, Nat.le_of_ble_eq_true rfl⟩) hl.1 rfl (Nat.le_of_ble_eq_true rfl) dL_law_12 ⟨Nat.le_of_ble_eq_true rfl, Nat.le_of_ble_eq_true rfl⟩ (hP.sub [11] rfl) ((hD.sub (ws' := [(y, .inr (3, [.int (zI 0), .null, .null, .null, .int (zI 0), .null, .null, .null]))]) [11] (by decide) rfl).weaken (fun _ _ _ _ => trivial)) (fun w1 H locs hw1 hP hD hS => ?_)
  obtain ⟨ady, hy, rfl⟩ := hw1
  refine lv_astore_n (lv' := [(2, .ref y), (1, .ref x), (0, .ref b)]) hx hb dL_law_15 rfl hl (by decide) rfl (fun ls hl => ?_)
  refine k_push hx hb dL_law_16 ?_
  refine va_newa (atype := .long) (a0 := (1, .inr (.inl (fun _ => lI 0)))) (N' := 1) hx hb (dr_words hts s.drawn _ (lw_T 722 (by decide +kernel))) rfl hK.1 hP hD hS hA (fun cA => rfl) (by decide) (by decide) (Nat.le_of_ble_eq_true rfl) (Nat.le_of_ble_eq_true rfl) (Nat.le_of_ble_eq_true rfl) dL_law_17 (fun q cJ H hK1 hP hD hS => ?_)
  have ec := kK_long hK hK1
  subst ec
  refine lv_astore_n (lv' := [(3, .ref q), (2, .ref y), (1, .ref x), (0, .ref b)]) hx hb dL_law_19 rfl hl (by decide) rfl (fun ls hl => ?_)
  refine k_push hx hb dL_law_20 ?_
  refine lv_istore (lv' := [(4, .int (zI 0)), (3, .ref q), (2, .ref y), (1, .ref x), (0, .ref b)]) hx hb dL_law_21 hl (by decide) rfl (fun ls hl => ?_)
  obtain ⟨ad, t1, t2, t3, hPw, hDw, hE⟩ := k_kw (E0 := E0) (cs := E0.2.1) rfl x h s1 a o h2 s2 a2 o2 p9 b9 q ady hP hD
  rw [hy] at t2
  have hA2 : ∀ q : Nat, kA (E0.1, E0.2.1, ad) s.heap.size q → s.heap.size ≤ q := fun q hq => by
    rcases hq with ⟨k, k1, k2, rfl⟩ | hq
    · exact hDw.2 _ _ (kW_get (E0.1, E0.2.1, ad) (fun _ _ => 0) (c := k) ⟨k1, k2⟩)
    · exact hq
  have hS2 : va_S (kA (E0.1, E0.2.1, ad) s.heap.size) s.heap H locs := ⟨hS.1, fun q h1 h2 => hS.2.1 q h1 (fun h3 => h2 (Or.inr h3)), fun l9 h9 => Or.inr (hS.2.2 l9 h9)⟩
  have hKf : kK (E0.1, E0.2.1, ad) s := by rw [hE0]; exact hKK ad
  refine lw_loop (E := (E0.1, E0.2.1, ad)) hL C0 hlst hE hKf hXs (lw_kZ hts hg (fun a9 h9 h8 => absurd (hA2 a9 h8) (by omega))) (fun h8 => absurd (hA2 b h8) (by omega)) hA2 (L + 5) 0 (fun _ _ => 0) H locs _ _ s.drawn (by omega) (by omega) (by omega) (Drawn.sameBut.refl s.drawn lw_cs) kI_0 hPw hS2 (by decide) (by decide) ls ?_
  show lv_has ls 9 [(4, .int (zI 0)), (3, .ref (ad 102)), (2, .ref (ad 11)), (1, .ref (ad 10)), (0, .ref b)]
  rw [t1, t2, t3]
  exact hl
