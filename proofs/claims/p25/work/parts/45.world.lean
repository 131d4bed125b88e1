/-! ===== the world of the law, once the object is made ===== -/
def kXix (k : Nat) : Nat := if k = 10 then 0 else if k = 6 then 1 else if k = 0 then 2 else if k = 3 then 3 else if k = 8 then 4 else if k = 7 then 5 else if k = 1 then 6 else if k = 4 then 7 else if k = 9 then 8 else if k = 2 then 9 else if k = 5 then 10 else k
theorem k_kw {D : va_G} {cs : ClassId × ClassId × ClassId} {A : Nat → Prop} {H : Heap} {E0 : kE} (hE0 : E0.2.1.1 = cs) (x h s a o h2 s2 a2 o2 p b : Nat) (hP : va_P D vwCl ([(x, .inr (2, [.ref h, .ref h2, .ref p])), (h, .inr (0, [.ref s, .ref o])), (s, .inr (1, [.ref a, .int (zI 0)])), (a, kArI E0 40), (o, kArI E0 40), (h2, .inr (0, [.ref s2, .ref o2])), (s2, .inr (1, [.ref a2, .int (zI 0)])), (a2, kArI E0 40), (o2, kArI E0 40), (p, .inr (1, [.ref b, .int (zI 0)])), (b, kArI E0 40)]) H) (hD : va_D A ([(x, .inr (2, [.ref h, .ref h2, .ref p])), (h, .inr (0, [.ref s, .ref o])), (s, .inr (1, [.ref a, .int (zI 0)])), (a, kArI E0 40), (o, kArI E0 40), (h2, .inr (0, [.ref s2, .ref o2])), (s2, .inr (1, [.ref a2, .int (zI 0)])), (a2, kArI E0 40), (o2, kArI E0 40), (p, .inr (1, [.ref b, .int (zI 0)])), (b, kArI E0 40)])) :
    ∃ ad : Int → Nat, ad 10 = x ∧ va_P D vwCl (kW (D, (cs, 11), ad) (fun _ _ => 0)) H ∧ va_D A (kW (D, (cs, 11), ad) (fun _ _ => 0)) ∧ kInj (D, (cs, 11), ad) := by
  subst hE0
  obtain ⟨ad, had⟩ : ∃ ad : Int → Nat, ad = fun c => if c = 10 then x else if c = 6 then h else if c = 0 then s else if c = 3 then a else if c = 8 then o else if c = 7 then h2 else if c = 1 then s2 else if c = 4 then a2 else if c = 9 then o2 else if c = 2 then p else if c = 5 then b else 0 := ⟨_, rfl⟩
  have e10 : ad 10 = x := by rw [had]; rfl
  have e6 : ad 6 = h := by rw [had]; rfl
  have e0 : ad 0 = s := by rw [had]; rfl
  have e3 : ad 3 = a := by rw [had]; rfl
  have e8 : ad 8 = o := by rw [had]; rfl
  have e7 : ad 7 = h2 := by rw [had]; rfl
  have e1 : ad 1 = s2 := by rw [had]; rfl
  have e4 : ad 4 = a2 := by rw [had]; rfl
  have e9 : ad 9 = o2 := by rw [had]; rfl
  have e2 : ad 2 = p := by rw [had]; rfl
  have e5 : ad 5 = b := by rw [had]; rfl
  have key := k_pick (W0 := [(x, .inr (2, [.ref h, .ref h2, .ref p])), (h, .inr (0, [.ref s, .ref o])), (s, .inr (1, [.ref a, .int (zI 0)])), (a, kArI E0 40), (o, kArI E0 40), (h2, .inr (0, [.ref s2, .ref o2])), (s2, .inr (1, [.ref a2, .int (zI 0)])), (a2, kArI E0 40), (o2, kArI E0 40), (p, .inr (1, [.ref b, .int (zI 0)])), (b, kArI E0 40)]) (n := 11) (fun k : Nat => (ad (k : Int), kC (D, (E0.2.1.1, 11), ad) (fun _ _ => 0) (k : Int))) kXix (fun i j hi hj hij => ?_) (fun k hk => ?_) hP hD
  · refine ⟨ad, e10, key.1, key.2, fun i j i1 i2 j1 j2 hij => ?_⟩
    have g1 := kW_get (D, (E0.2.1.1, 11), ad) (fun _ _ => 0) (c := i) ⟨i1, i2⟩
    have g2 := kW_get (D, (E0.2.1.1, 11), ad) (fun _ _ => 0) (c := j) ⟨j1, j2⟩
    have := key.2.1 _ _ _ _ g1 g2 hij
    omega
  · have d : ∀ x : Fin 11, ∀ y : Fin 11, kXix x.1 = kXix y.1 → x.1 = y.1 := by decide +kernel
    exact d ⟨i, hi⟩ ⟨j, hj⟩ hij
  · have hc : k = 0 ∨ k = 1 ∨ k = 2 ∨ k = 3 ∨ k = 4 ∨ k = 5 ∨ k = 6 ∨ k = 7 ∨ k = 8 ∨ k = 9 ∨ k = 10 := by omega
    rcases hc with rfl | rfl | rfl | rfl | rfl | rfl | rfl | rfl | rfl | rfl | rfl
    · show some (s, _) = some (ad 0, kC (D, (E0.2.1.1, 11), ad) (fun _ _ => 0) 0)
      rw [kC_S (by omega), e0]
      show _ = some (s, (Sum.inr (1, [.ref (ad 3), .int (zI 0)]) : va_E))
      rw [e3]
    · show some (s2, _) = some (ad 1, kC (D, (E0.2.1.1, 11), ad) (fun _ _ => 0) 1)
      rw [kC_S (by omega), e1]
      show _ = some (s2, (Sum.inr (1, [.ref (ad 4), .int (zI 0)]) : va_E))
      rw [e4]
    · show some (p, _) = some (ad 2, kC (D, (E0.2.1.1, 11), ad) (fun _ _ => 0) 2)
      rw [kC_S (by omega), e2]
      show _ = some (p, (Sum.inr (1, [.ref (ad 5), .int (zI 0)]) : va_E))
      rw [e5]
    · show some (a, _) = some (ad 3, kC (D, (E0.2.1.1, 11), ad) (fun _ _ => 0) 3)
      rw [kC_A (len := 40) (by unfold kArr; omega), e3]
      rfl
    · show some (a2, _) = some (ad 4, kC (D, (E0.2.1.1, 11), ad) (fun _ _ => 0) 4)
      rw [kC_A (len := 40) (by unfold kArr; omega), e4]
      rfl
    · show some (b, _) = some (ad 5, kC (D, (E0.2.1.1, 11), ad) (fun _ _ => 0) 5)
      rw [kC_A (len := 40) (by unfold kArr; omega), e5]
      rfl
    · show some (h, _) = some (ad 6, kC (D, (E0.2.1.1, 11), ad) (fun _ _ => 0) 6)
      rw [kC_H (by omega), e6]
      show _ = some (h, (Sum.inr (0, [.ref (ad 0), .ref (ad 8)]) : va_E))
      rw [e0, e8]
    · show some (h2, _) = some (ad 7, kC (D, (E0.2.1.1, 11), ad) (fun _ _ => 0) 7)
      rw [kC_H (by omega), e7]
      show _ = some (h2, (Sum.inr (0, [.ref (ad 1), .ref (ad 9)]) : va_E))
      rw [e1, e9]
    · show some (o, _) = some (ad 8, kC (D, (E0.2.1.1, 11), ad) (fun _ _ => 0) 8)
      rw [kC_A (len := 40) (by unfold kArr; omega), e8]
      rfl
    · show some (o2, _) = some (ad 9, kC (D, (E0.2.1.1, 11), ad) (fun _ _ => 0) 9)
      rw [kC_A (len := 40) (by unfold kArr; omega), e9]
      rfl
    · show some (x, _) = some (ad 10, kC (D, (E0.2.1.1, 11), ad) (fun _ _ => 0) 10)
      rw [kC_X, e10]
      show _ = some (x, (Sum.inr (2, [.ref (ad 6), .ref (ad 7), .ref (ad 2)]) : va_E))
      rw [e6, e7, e2]
