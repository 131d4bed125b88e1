theorem kI0_0 : kI0 (fun _ _ => 0) := by
  refine ⟨fun i _ => ⟨Int.le_refl _, by show (0 : Int) ≤ 40; omega, fun j j1 j2 => ?_⟩, fun h _ => ⟨fun r r1 r2 => ?_, fun r q r1 rq q2 => ?_⟩, by show (0 : Int) ≤ 12; omega⟩
  · have j2 : j < 0 := j2
    omega
  · have r2 : r < 0 := r2
    omega
  · have q2 : q < 0 := q2
    omega
set_option maxHeartbeats 4000000 in
set_option maxRecDepth 100000 in
theorem whole_start {p : Program} {e : Env} {s : State} {m : MethodId} {below : List Frame} {meth : Method} {c : Code} (l : Launch) (hflags : l.flags = flags0) {b L : Nat} {xs : Nat → Int32} (hL : L ≤ 260) (C0 : lw_At p s m meth c b L xs) : W p l e room_1 s m #[Value.ref b] below meth c s.heap [] 0 0 (lw_Z below #[Value.ref b] s) (entryFrame m ([Value.ref b] : List Value).toArray 23) := by
  obtain ⟨hx, hb, hr, hml, hown, hts, hScr, hbl, hlocks, hgv⟩ := id C0
  have hg := flat_of_before _ hgv
  obtain ⟨D, cs, hKK⟩ := lw_kK hts
  have hXs := lw_xs hts hg
  have hlst : l.stackTraces = false := by
    unfold Launch.stackTraces
    rw [hflags]
    decide
  refine W.base ?_
  have S : CallFix p m c cL_law 23 (s.setDrawn s.drawn) #[Value.ref b] wsL_law RL := ⟨hx, hb, hml, hown, dr_words (fun w h => hts w (wsL_law_in w h)) s.drawn⟩
  obtain ⟨E0, hE0⟩ : ∃ E0 : kE, E0 = (D, (cs, 11), fun _ => 0) := ⟨_, rfl⟩
  have hK : kK E0 (s.setDrawn s.drawn) := by rw [hE0]; exact kK.same (u := s) (U := s.setDrawn s.drawn) rfl (hKK 11 _ (by omega))
  have hP : va_P E0.1 vwCl [] s.heap := fun k q h => by simp at h
  have hD : va_D (fun q : Nat => s.heap.size ≤ q) [] := ⟨fun i j p q h => by simp at h, fun k q h => by simp at h⟩
  have hS : va_S (fun q : Nat => s.heap.size ≤ q) s.heap s.heap [] := va_S.rf
  have hA : ∀ q : Nat, s.heap.size ≤ q → (fun q : Nat => s.heap.size ≤ q) q := fun _ h => h
  have hl := lv_entry ([.ref b]) (n := 23) (Nat.le_of_ble_eq_true rfl)
  rw [lg_entry_eq]
  generalize (lg_sl ([.ref b]) ++ List.replicate (23 - (lg_sl ([.ref b])).length) Slot.unset).toArray = ls at hl ⊢
  have hl : lv_has ls 23 [(0, .ref b)] := hl
  refine va_new (ci := 2) (fs := [.null, .null, .null]) (C := RX2) (T := TX2) (N := 3) hx hb S.2.2.2.2 inlX2 tyX2 tyX2_ok S.2.2.2.1 (dr_words hts s.drawn _ (lw_T 13 (by decide +kernel))) (dr_words hts s.drawn _ (lw_T 14 (by decide +kernel))) (dr_words hts s.drawn _ (lw_T 1 (by decide +kernel))) hK.1 hP hD hS hA rfl (fun j hj => by rcases (show j = 0 ∨ j = 1 ∨ j = 2 by omega) with rfl | rfl | rfl <;> rfl) (Nat.le_of_ble_eq_true rfl) (Nat.le_of_ble_eq_true rfl) dL_law_0 (fun x H hP hD hS => ?_)
  have hP : va_P E0.1 vwCl [(x, .inr (2, [.null, .null, .null]))] H := hP
  have hD : va_D (fun q : Nat => s.heap.size ≤ q) [(x, .inr (2, [.null, .null, .null]))] := hD
  refine lv_dup hx hb dL_law_3 rfl ?_
  refine k_callIN (w := [(x, .inr (2, [.null, .null, .null]))]) (wr := []) (rest := [.ref x]) S hK hP hD hS hA [0] [] rfl rfl (by decide) (by decide) (c_X2_init l E0 x) (cwI 0 S.2.2.2.2 gL_law_X2_init rfl rfl rfl (dr_words hts s.drawn _ (lw_T 1 (by decide +kernel))) (dr_words hts s.drawn _ (lw_T 15 (by decide +kernel))) (dr_words hts s.drawn _ (lw_T 16 (by decide +kernel))) rfl (by decide +kernel) ⟨Nat.le_of_ble_eq_true rfl, Nat.le_of_ble_eq_true rfl⟩) hl.1 rfl (Nat.le_of_ble_eq_true rfl) dL_law_4 ⟨Nat.le_of_ble_eq_true rfl, Nat.le_of_ble_eq_true rfl⟩ (hP.sub [0] rfl) ((hD.sub (ws' := [(x, .inr (2, [.null, .null, .null]))]) [0] (by decide) rfl).weaken (fun _ _ _ _ => trivial)) (fun w1 H locs hw1 hP hD hS => ?_)
  obtain ⟨h, s1, a, o, h2, s2, a2, o2, p9, b9, rfl⟩ := hw1
  have hP : va_P E0.1 vwCl ([(x, .inr (2, [.ref h, .ref h2, .ref p9])), (h, .inr (0, [.ref s1, .ref o])), (s1, .inr (1, [.ref a, .int (zI 0)])), (a, kArI E0 40), (o, kArI E0 40), (h2, .inr (0, [.ref s2, .ref o2])), (s2, .inr (1, [.ref a2, .int (zI 0)])), (a2, kArI E0 40), (o2, kArI E0 40), (p9, .inr (1, [.ref b9, .int (zI 0)])), (b9, kArI E0 40)]) H := hP
  have hD : va_D (fun q : Nat => s.heap.size ≤ q) ([(x, .inr (2, [.ref h, .ref h2, .ref p9])), (h, .inr (0, [.ref s1, .ref o])), (s1, .inr (1, [.ref a, .int (zI 0)])), (a, kArI E0 40), (o, kArI E0 40), (h2, .inr (0, [.ref s2, .ref o2])), (s2, .inr (1, [.ref a2, .int (zI 0)])), (a2, kArI E0 40), (o2, kArI E0 40), (p9, .inr (1, [.ref b9, .int (zI 0)])), (b9, kArI E0 40)]) := hD
  refine lv_astore_n (lv' := [(1, .ref x), (0, .ref b)]) hx hb dL_law_7 rfl hl (by decide) rfl (fun ls hl => ?_)
  obtain ⟨ad, t1, hPw, hDw, hE⟩ := k_kw (E0 := E0) (cs := E0.2.1.1) rfl x h s1 a o h2 s2 a2 o2 p9 b9 hP hD
  obtain ⟨E, hEe⟩ : ∃ E : kE, E = (E0.1, (E0.2.1.1, 11), ad) := ⟨_, rfl⟩
  obtain ⟨Z, hZe⟩ : ∃ Z : kE, Z = (E0.1, (E0.2.1.1, 0), ad) := ⟨_, rfl⟩
  rw [← hEe] at hPw hDw hE
  have e1 : E.2.2 10 = x := by rw [hEe]; exact t1
  have hP : va_P E.1 vwCl (kW E (fun _ _ => 0)) H := by
    have q : E.1 = E0.1 := by rw [hEe]
    rw [q]; exact hPw
  have hKs : kK E s := by rw [hEe, hE0]; exact hKK 11 ad (by omega)
  have hKd : kK E (s.setDrawn s.drawn) := kK.same (u := s) (U := s.setDrawn s.drawn) rfl hKs
  have hX : kExt Z E := by rw [hEe, hZe]; exact ⟨rfl, rfl, by show (0 : Int) ≤ 11; omega, fun _ _ => rfl⟩
  have nz : kn Z = 0 := by rw [hZe]
  have nE : kn E = 11 := by rw [hEe]
  have hA2 : ∀ q : Nat, kA Z s.heap.size q → s.heap.size ≤ q := fun q hq => by
    rcases hq with ⟨k, k1, k2, -⟩ | hq
    · omega
    · exact hq
  have hG : kG (kA Z s.heap.size) s.heap.size E := kG.of (M := fun _ _ => 0) ⟨hDw.1, fun k q hk => Or.inr (hDw.2 k q hk)⟩ (fun q hq => Or.inr hq)
  have hS2 : va_S (kA Z s.heap.size) s.heap H locs := ⟨hS.1, fun q h1 h2 => hS.2.1 q h1 (fun h3 => h2 (Or.inr h3)), fun l9 h9 => Or.inr (hS.2.2 l9 h9)⟩
  have hZ : kZ (kA Z s.heap.size) s s.heap := lw_kZ hts hg (fun a9 h9 h8 => absurd (hA2 a9 h8) (by omega))
  have hSc : kScr b L xs (kA Z s.heap.size) s s.heap := ⟨hScr, hbl, fun h8 => absurd (hA2 b h8) (by omega), hL⟩
  have hZd : kZ (kA Z s.heap.size) (s.setDrawn s.drawn) s.heap := kZ.moved (u := s) (U := s.setDrawn s.drawn) (Vm.Alike.refl s.vm) hZ
  have hXd : kXs (s.setDrawn s.drawn) := kXs.same (u := s) (U := s.setDrawn s.drawn) rfl hXs
  have hCd : kScr b L xs (kA Z s.heap.size) (s.setDrawn s.drawn) s.heap := ⟨va_X.moved (u := s) (U := s.setDrawn s.drawn) (Vm.Alike.refl s.vm) hSc.1, hSc.2⟩
  rw [← e1] at hl
  refine lv_aload_n hx hb dL_law_8 rfl (lv_at hl 0 rfl) ?_
  refine lv_aload_n hx hb dL_law_9 rfl (lv_at hl 1 rfl) ?_
  refine k_callXS (As := [.ref (E.2.2 10), .ref b]) (rest := []) S hKd hXd hZd hCd hG hP hS2 (c_L_build l E hG.1 (fun _ _ => 0) hlst b L xs hL kI0_0 (fun _ _ _ => rfl)) (va_cwS 2 S.2.2.2.2 gL_law_L_build rfl rfl rfl (by decide +kernel) ⟨Nat.le_of_ble_eq_true rfl, Nat.le_of_ble_eq_true rfl⟩) rfl hl.1 rfl (Nat.le_of_ble_eq_true rfl) dL_law_10 ⟨Nat.le_of_ble_eq_true rfl, Nat.le_of_ble_eq_true rfl⟩ (fun E1 M1 g H1 locs1 hX1 hK1 hG1 hp hP1 hS1 => ?_)
  obtain ⟨hJ, g1, g2⟩ := hp
  have hl : lv_has ls 23 [(1, .ref (E1.2.2 10)), (0, .ref b)] := by rw [hX1.ad (c := 10) (by omega)]; exact hl
  refine lv_astore_n (lv' := [(2, .ref (E1.2.2 g)), (1, .ref (E1.2.2 10)), (0, .ref b)]) hx hb dL_law_13 rfl hl (by decide) rfl (fun ls hl => ?_)
  refine lv_aload_n hx hb dL_law_14 rfl (lv_at hl 0 rfl) ?_
  refine lv_ifnonnull (tgt := 20) hx hb dL_law_15 (by decide) ?_
  refine k_push hx hb dL_law_20 ?_
  refine lv_istore_n (lv' := [(3, .int (zI 0)), (2, .ref (E1.2.2 g)), (1, .ref (E1.2.2 10)), (0, .ref b)]) hx hb dL_law_21 rfl hl (by decide) rfl (fun ls hl => ?_)
  exact lw_rounds (E0 := Z) (g := g) C0 hlst hXs hZ hSc hA2 13 0 E1 M1 H1 locs1 _ _ s.drawn (by omega) (by omega) (by omega) (Drawn.sameBut.refl s.drawn lw_cs) hJ (kK.same (u := s.setDrawn s.drawn) (U := s) rfl hK1) (hX.tr hX1) hG1 hP1 hS1 (by decide) (by decide) ls (lv_sub hl [3, 2, 1, 0] rfl)
