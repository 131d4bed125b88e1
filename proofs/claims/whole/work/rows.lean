section
-- ===== PART A: goes FIRST, ahead of the names: the tables' words, and 'selects' of the private methods out of them =====
/-- a private method of a class that the tables say can be made, by its rows of tables_1 -/
def lw_okq (q : MethodName × Nat) : Prop := (q.1.cls ≠ "java/lang/invoke/MethodHandle" ∧ q.1.cls ≠ "java/lang/invoke/VarHandle") ∧ Cond.instantiable q.1.cls q.2 ∈ tables_1 ∧ Cond.privateMethod q.1 ∈ tables_1 ∧ Cond.instanceMethod q.1 ∈ tables_1
theorem lw_p0 : lw_okq (⟨"HemSuffixes$Hem", "rowsFirstAt", "(I)I"⟩, 2) := ⟨⟨by decide +kernel, by decide +kernel⟩, List.mem_of_getElem? (i := 21) (by decide +kernel), List.mem_of_getElem? (i := 115) (by decide +kernel), List.mem_of_getElem? (i := 116) (by decide +kernel)⟩
theorem lw_p1 : lw_okq (⟨"HemSuffixes", "seamPlace", "()I"⟩, 3) := ⟨⟨by decide +kernel, by decide +kernel⟩, List.mem_of_getElem? (i := 13) (by decide +kernel), List.mem_of_getElem? (i := 119) (by decide +kernel), List.mem_of_getElem? (i := 120) (by decide +kernel)⟩
theorem lw_p2 : lw_okq (⟨"HemSuffixes", "seamLengthFrom", "(I)I"⟩, 3) := ⟨⟨by decide +kernel, by decide +kernel⟩, List.mem_of_getElem? (i := 13) (by decide +kernel), List.mem_of_getElem? (i := 124) (by decide +kernel), List.mem_of_getElem? (i := 125) (by decide +kernel)⟩
theorem lw_p3 : lw_okq (⟨"java/lang/Throwable", "fillInStackTrace", "(I)Ljava/lang/Throwable;"⟩, 6) := ⟨⟨by decide +kernel, by decide +kernel⟩, List.mem_of_getElem? (i := 174) (by decide +kernel), List.mem_of_getElem? (i := 172) (by decide +kernel), List.mem_of_getElem? (i := 173) (by decide +kernel)⟩
theorem lw_p4 : lw_okq (⟨"HemSuffixes", "hemMixed", "(JI)J"⟩, 3) := ⟨⟨by decide +kernel, by decide +kernel⟩, List.mem_of_getElem? (i := 13) (by decide +kernel), List.mem_of_getElem? (i := 208) (by decide +kernel), List.mem_of_getElem? (i := 209) (by decide +kernel)⟩
theorem lw_p5 : lw_okq (⟨"HemSuffixes", "hemOf", "(I)LHemSuffixes$Hem;"⟩, 3) := ⟨⟨by decide +kernel, by decide +kernel⟩, List.mem_of_getElem? (i := 13) (by decide +kernel), List.mem_of_getElem? (i := 212) (by decide +kernel), List.mem_of_getElem? (i := 213) (by decide +kernel)⟩
theorem lw_p6 : lw_okq (⟨"HemSuffixes$Stitches", "standsAt", "(ILHemSuffixes$Stitches;II)Z"⟩, 2) := ⟨⟨by decide +kernel, by decide +kernel⟩, List.mem_of_getElem? (i := 27) (by decide +kernel), List.mem_of_getElem? (i := 235) (by decide +kernel), List.mem_of_getElem? (i := 236) (by decide +kernel)⟩
theorem lw_p7 : lw_okq (⟨"HemSuffixes$Stitches", "turnsToLess", "(II)Z"⟩, 2) := ⟨⟨by decide +kernel, by decide +kernel⟩, List.mem_of_getElem? (i := 27) (by decide +kernel), List.mem_of_getElem? (i := 259) (by decide +kernel), List.mem_of_getElem? (i := 260) (by decide +kernel)⟩
theorem lw_p8 : lw_okq (⟨"HemSuffixes$Stitches", "allAround", "(I)I"⟩, 2) := ⟨⟨by decide +kernel, by decide +kernel⟩, List.mem_of_getElem? (i := 27) (by decide +kernel), List.mem_of_getElem? (i := 263) (by decide +kernel), List.mem_of_getElem? (i := 264) (by decide +kernel)⟩
theorem lw_p9 : lw_okq (⟨"HemSuffixes$Hem", "orderEnds", "()V"⟩, 2) := ⟨⟨by decide +kernel, by decide +kernel⟩, List.mem_of_getElem? (i := 21) (by decide +kernel), List.mem_of_getElem? (i := 328) (by decide +kernel), List.mem_of_getElem? (i := 329) (by decide +kernel)⟩
theorem lw_p10 : lw_okq (⟨"HemSuffixes$Hem", "putInOrder", "(II)V"⟩, 2) := ⟨⟨by decide +kernel, by decide +kernel⟩, List.mem_of_getElem? (i := 21) (by decide +kernel), List.mem_of_getElem? (i := 332) (by decide +kernel), List.mem_of_getElem? (i := 333) (by decide +kernel)⟩
theorem lw_p11 : lw_okq (⟨"HemSuffixes$Stitches", "sharedBackwardsFrom", "(I)I"⟩, 2) := ⟨⟨by decide +kernel, by decide +kernel⟩, List.mem_of_getElem? (i := 27) (by decide +kernel), List.mem_of_getElem? (i := 476) (by decide +kernel), List.mem_of_getElem? (i := 477) (by decide +kernel)⟩
theorem lw_p12 : lw_okq (⟨"HemSuffixesModel", "no", "(I)I"⟩, 8) := ⟨⟨by decide +kernel, by decide +kernel⟩, List.mem_of_getElem? (i := 487) (by decide +kernel), List.mem_of_getElem? (i := 534) (by decide +kernel), List.mem_of_getElem? (i := 535) (by decide +kernel)⟩
theorem lw_p13 : lw_okq (⟨"HemSuffixesModel", "isPlace", "(II)Z"⟩, 8) := ⟨⟨by decide +kernel, by decide +kernel⟩, List.mem_of_getElem? (i := 487) (by decide +kernel), List.mem_of_getElem? (i := 561) (by decide +kernel), List.mem_of_getElem? (i := 562) (by decide +kernel)⟩
theorem lw_p14 : lw_okq (⟨"HemSuffixesModel", "counted", "(I)I"⟩, 8) := ⟨⟨by decide +kernel, by decide +kernel⟩, List.mem_of_getElem? (i := 487) (by decide +kernel), List.mem_of_getElem? (i := 569) (by decide +kernel), List.mem_of_getElem? (i := 570) (by decide +kernel)⟩
theorem lw_p15 : lw_okq (⟨"HemSuffixesModel", "differentRows", "(I)I"⟩, 8) := ⟨⟨by decide +kernel, by decide +kernel⟩, List.mem_of_getElem? (i := 487) (by decide +kernel), List.mem_of_getElem? (i := 573) (by decide +kernel), List.mem_of_getElem? (i := 574) (by decide +kernel)⟩
def lw_privs_1 : List (MethodName × Nat) := [(⟨"HemSuffixes$Hem", "rowsFirstAt", "(I)I"⟩, 2), (⟨"HemSuffixes", "seamPlace", "()I"⟩, 3), (⟨"HemSuffixes", "seamLengthFrom", "(I)I"⟩, 3), (⟨"java/lang/Throwable", "fillInStackTrace", "(I)Ljava/lang/Throwable;"⟩, 6), (⟨"HemSuffixes", "hemMixed", "(JI)J"⟩, 3), (⟨"HemSuffixes", "hemOf", "(I)LHemSuffixes$Hem;"⟩, 3), (⟨"HemSuffixes$Stitches", "standsAt", "(ILHemSuffixes$Stitches;II)Z"⟩, 2), (⟨"HemSuffixes$Stitches", "turnsToLess", "(II)Z"⟩, 2), (⟨"HemSuffixes$Stitches", "allAround", "(I)I"⟩, 2), (⟨"HemSuffixes$Hem", "orderEnds", "()V"⟩, 2), (⟨"HemSuffixes$Hem", "putInOrder", "(II)V"⟩, 2), (⟨"HemSuffixes$Stitches", "sharedBackwardsFrom", "(I)I"⟩, 2), (⟨"HemSuffixesModel", "no", "(I)I"⟩, 8), (⟨"HemSuffixesModel", "isPlace", "(II)Z"⟩, 8), (⟨"HemSuffixesModel", "counted", "(I)I"⟩, 8), (⟨"HemSuffixesModel", "differentRows", "(I)I"⟩, 8)]
theorem lw_r1 : ∀ q ∈ lw_privs_1, lw_okq q := List.forall_mem_cons.mpr ⟨lw_p0, List.forall_mem_cons.mpr ⟨lw_p1, List.forall_mem_cons.mpr ⟨lw_p2, List.forall_mem_cons.mpr ⟨lw_p3, List.forall_mem_cons.mpr ⟨lw_p4, List.forall_mem_cons.mpr ⟨lw_p5, List.forall_mem_cons.mpr ⟨lw_p6, List.forall_mem_cons.mpr ⟨lw_p7, List.forall_mem_cons.mpr ⟨lw_p8, List.forall_mem_cons.mpr ⟨lw_p9, List.forall_mem_cons.mpr ⟨lw_p10, List.forall_mem_cons.mpr ⟨lw_p11, List.forall_mem_cons.mpr ⟨lw_p12, List.forall_mem_cons.mpr ⟨lw_p13, List.forall_mem_cons.mpr ⟨lw_p14, List.forall_mem_cons.mpr ⟨lw_p15, fun _ h => absurd h List.not_mem_nil⟩⟩⟩⟩⟩⟩⟩⟩⟩⟩⟩⟩⟩⟩⟩⟩
theorem lw_p16 : lw_okq (⟨"HemSuffixesModel", "look", "(I)V"⟩, 8) := ⟨⟨by decide +kernel, by decide +kernel⟩, List.mem_of_getElem? (i := 487) (by decide +kernel), List.mem_of_getElem? (i := 577) (by decide +kernel), List.mem_of_getElem? (i := 578) (by decide +kernel)⟩
theorem lw_p17 : lw_okq (⟨"HemSuffixesModel", "mostBefore", "(I)I"⟩, 8) := ⟨⟨by decide +kernel, by decide +kernel⟩, List.mem_of_getElem? (i := 487) (by decide +kernel), List.mem_of_getElem? (i := 584) (by decide +kernel), List.mem_of_getElem? (i := 585) (by decide +kernel)⟩
theorem lw_p18 : lw_okq (⟨"HemSuffixesModel", "seamTold", "(I)I"⟩, 8) := ⟨⟨by decide +kernel, by decide +kernel⟩, List.mem_of_getElem? (i := 487) (by decide +kernel), List.mem_of_getElem? (i := 589) (by decide +kernel), List.mem_of_getElem? (i := 590) (by decide +kernel)⟩
theorem lw_p19 : lw_okq (⟨"HemSuffixesModel", "lookAtBoth", "()V"⟩, 8) := ⟨⟨by decide +kernel, by decide +kernel⟩, List.mem_of_getElem? (i := 487) (by decide +kernel), List.mem_of_getElem? (i := 593) (by decide +kernel), List.mem_of_getElem? (i := 594) (by decide +kernel)⟩
theorem lw_p20 : lw_okq (⟨"HemSuffixesModel", "mostAcross", "(I)I"⟩, 8) := ⟨⟨by decide +kernel, by decide +kernel⟩, List.mem_of_getElem? (i := 487) (by decide +kernel), List.mem_of_getElem? (i := 597) (by decide +kernel), List.mem_of_getElem? (i := 598) (by decide +kernel)⟩
theorem lw_p21 : lw_okq (⟨"HemSuffixesModel", "isLess", "(III)Z"⟩, 8) := ⟨⟨by decide +kernel, by decide +kernel⟩, List.mem_of_getElem? (i := 487) (by decide +kernel), List.mem_of_getElem? (i := 601) (by decide +kernel), List.mem_of_getElem? (i := 602) (by decide +kernel)⟩
theorem lw_p22 : lw_okq (⟨"HemSuffixesModel", "order", "(I)V"⟩, 8) := ⟨⟨by decide +kernel, by decide +kernel⟩, List.mem_of_getElem? (i := 487) (by decide +kernel), List.mem_of_getElem? (i := 612) (by decide +kernel), List.mem_of_getElem? (i := 613) (by decide +kernel)⟩
theorem lw_p23 : lw_okq (⟨"HemSuffixesModel", "rankOf", "(II)I"⟩, 8) := ⟨⟨by decide +kernel, by decide +kernel⟩, List.mem_of_getElem? (i := 487) (by decide +kernel), List.mem_of_getElem? (i := 616) (by decide +kernel), List.mem_of_getElem? (i := 617) (by decide +kernel)⟩
theorem lw_p24 : lw_okq (⟨"HemSuffixesModel", "repeatTold", "(II)I"⟩, 8) := ⟨⟨by decide +kernel, by decide +kernel⟩, List.mem_of_getElem? (i := 487) (by decide +kernel), List.mem_of_getElem? (i := 636) (by decide +kernel), List.mem_of_getElem? (i := 637) (by decide +kernel)⟩
theorem lw_p25 : lw_okq (⟨"HemSuffixesModel", "mostBeside", "(II)I"⟩, 8) := ⟨⟨by decide +kernel, by decide +kernel⟩, List.mem_of_getElem? (i := 487) (by decide +kernel), List.mem_of_getElem? (i := 640) (by decide +kernel), List.mem_of_getElem? (i := 641) (by decide +kernel)⟩
theorem lw_p26 : lw_okq (⟨"HemSuffixesModel", "placesOf", "(III)I"⟩, 8) := ⟨⟨by decide +kernel, by decide +kernel⟩, List.mem_of_getElem? (i := 487) (by decide +kernel), List.mem_of_getElem? (i := 644) (by decide +kernel), List.mem_of_getElem? (i := 645) (by decide +kernel)⟩
theorem lw_p27 : lw_okq (⟨"HemSuffixesModel", "firstPlace", "(II)I"⟩, 8) := ⟨⟨by decide +kernel, by decide +kernel⟩, List.mem_of_getElem? (i := 487) (by decide +kernel), List.mem_of_getElem? (i := 652) (by decide +kernel), List.mem_of_getElem? (i := 653) (by decide +kernel)⟩
theorem lw_p28 : lw_okq (⟨"HemSuffixesModel", "foundIn", "(I)I"⟩, 8) := ⟨⟨by decide +kernel, by decide +kernel⟩, List.mem_of_getElem? (i := 487) (by decide +kernel), List.mem_of_getElem? (i := 660) (by decide +kernel), List.mem_of_getElem? (i := 661) (by decide +kernel)⟩
theorem lw_p29 : lw_okq (⟨"HemSuffixesModel", "isSampleAt", "(II)Z"⟩, 8) := ⟨⟨by decide +kernel, by decide +kernel⟩, List.mem_of_getElem? (i := 487) (by decide +kernel), List.mem_of_getElem? (i := 664) (by decide +kernel), List.mem_of_getElem? (i := 665) (by decide +kernel)⟩
theorem lw_p30 : lw_okq (⟨"HemSuffixesModel", "periodOf", "(I)I"⟩, 8) := ⟨⟨by decide +kernel, by decide +kernel⟩, List.mem_of_getElem? (i := 487) (by decide +kernel), List.mem_of_getElem? (i := 676) (by decide +kernel), List.mem_of_getElem? (i := 677) (by decide +kernel)⟩
theorem lw_p31 : lw_okq (⟨"HemSuffixesModel", "isPeriod", "(II)Z"⟩, 8) := ⟨⟨by decide +kernel, by decide +kernel⟩, List.mem_of_getElem? (i := 487) (by decide +kernel), List.mem_of_getElem? (i := 681) (by decide +kernel), List.mem_of_getElem? (i := 682) (by decide +kernel)⟩
def lw_privs_2 : List (MethodName × Nat) := [(⟨"HemSuffixesModel", "look", "(I)V"⟩, 8), (⟨"HemSuffixesModel", "mostBefore", "(I)I"⟩, 8), (⟨"HemSuffixesModel", "seamTold", "(I)I"⟩, 8), (⟨"HemSuffixesModel", "lookAtBoth", "()V"⟩, 8), (⟨"HemSuffixesModel", "mostAcross", "(I)I"⟩, 8), (⟨"HemSuffixesModel", "isLess", "(III)Z"⟩, 8), (⟨"HemSuffixesModel", "order", "(I)V"⟩, 8), (⟨"HemSuffixesModel", "rankOf", "(II)I"⟩, 8), (⟨"HemSuffixesModel", "repeatTold", "(II)I"⟩, 8), (⟨"HemSuffixesModel", "mostBeside", "(II)I"⟩, 8), (⟨"HemSuffixesModel", "placesOf", "(III)I"⟩, 8), (⟨"HemSuffixesModel", "firstPlace", "(II)I"⟩, 8), (⟨"HemSuffixesModel", "foundIn", "(I)I"⟩, 8), (⟨"HemSuffixesModel", "isSampleAt", "(II)Z"⟩, 8), (⟨"HemSuffixesModel", "periodOf", "(I)I"⟩, 8), (⟨"HemSuffixesModel", "isPeriod", "(II)Z"⟩, 8)]
theorem lw_r2 : ∀ q ∈ lw_privs_2, lw_okq q := List.forall_mem_cons.mpr ⟨lw_p16, List.forall_mem_cons.mpr ⟨lw_p17, List.forall_mem_cons.mpr ⟨lw_p18, List.forall_mem_cons.mpr ⟨lw_p19, List.forall_mem_cons.mpr ⟨lw_p20, List.forall_mem_cons.mpr ⟨lw_p21, List.forall_mem_cons.mpr ⟨lw_p22, List.forall_mem_cons.mpr ⟨lw_p23, List.forall_mem_cons.mpr ⟨lw_p24, List.forall_mem_cons.mpr ⟨lw_p25, List.forall_mem_cons.mpr ⟨lw_p26, List.forall_mem_cons.mpr ⟨lw_p27, List.forall_mem_cons.mpr ⟨lw_p28, List.forall_mem_cons.mpr ⟨lw_p29, List.forall_mem_cons.mpr ⟨lw_p30, List.forall_mem_cons.mpr ⟨lw_p31, fun _ h => absurd h List.not_mem_nil⟩⟩⟩⟩⟩⟩⟩⟩⟩⟩⟩⟩⟩⟩⟩⟩
theorem lw_p32 : lw_okq (⟨"HemSuffixesModel", "turnedOf", "(I)I"⟩, 8) := ⟨⟨by decide +kernel, by decide +kernel⟩, List.mem_of_getElem? (i := 487) (by decide +kernel), List.mem_of_getElem? (i := 689) (by decide +kernel), List.mem_of_getElem? (i := 690) (by decide +kernel)⟩
theorem lw_p33 : lw_okq (⟨"HemSuffixesModel", "isLessAround", "(III)Z"⟩, 8) := ⟨⟨by decide +kernel, by decide +kernel⟩, List.mem_of_getElem? (i := 487) (by decide +kernel), List.mem_of_getElem? (i := 693) (by decide +kernel), List.mem_of_getElem? (i := 694) (by decide +kernel)⟩
theorem lw_p34 : lw_okq (⟨"HemSuffixesModel", "more", "(II)I"⟩, 8) := ⟨⟨by decide +kernel, by decide +kernel⟩, List.mem_of_getElem? (i := 487) (by decide +kernel), List.mem_of_getElem? (i := 705) (by decide +kernel), List.mem_of_getElem? (i := 706) (by decide +kernel)⟩
def lw_privs_3 : List (MethodName × Nat) := [(⟨"HemSuffixesModel", "turnedOf", "(I)I"⟩, 8), (⟨"HemSuffixesModel", "isLessAround", "(III)Z"⟩, 8), (⟨"HemSuffixesModel", "more", "(II)I"⟩, 8)]
theorem lw_r3 : ∀ q ∈ lw_privs_3, lw_okq q := List.forall_mem_cons.mpr ⟨lw_p32, List.forall_mem_cons.mpr ⟨lw_p33, List.forall_mem_cons.mpr ⟨lw_p34, fun _ h => absurd h List.not_mem_nil⟩⟩⟩
def lw_privs : List (MethodName × Nat) := lw_privs_1 ++ (lw_privs_2 ++ (lw_privs_3))
def lw_tbl : List Cond := k2_sels lw_privs ++ tables_1
theorem lw_privs_ok : ∀ q ∈ lw_privs, lw_okq q := by
  show ∀ q ∈ lw_privs_1 ++ (lw_privs_2 ++ (lw_privs_3)), lw_okq q
  exact List.forall_mem_append.mpr ⟨lw_r1, List.forall_mem_append.mpr ⟨lw_r2, lw_r3⟩⟩
/-- the streams that the claim lets the run draw from -/
abbrev lw_cs : List Choice := [Jvm.Choice.named "NaN.bits"]
theorem lw_bits : nanBits ∈ lw_cs := by first | decide | exact List.mem_cons_self | simp [lw_cs, nanBits]
end
section
/-! ===== BEGIN words of one list among another's, by their places ===== -/
theorem goodIn_r {big : List Cond} (ws : List Cond) (ps : List Nat) (hp : ws = ps.filterMap (fun i => big[i]?)) (h : ws.all goodWord = true) : GoodIn big ws := by
  intro w hw
  have h1 := List.all_eq_true.mp h w hw
  rw [hp] at hw
  obtain ⟨i, -, hi⟩ := List.mem_filterMap.mp hw
  have hm : w ∈ big := by first | exact List.mem_of_getElem? hi | exact List.getElem?_mem hi
  exact ⟨hm, good_of_word h1⟩
theorem goodIn_app {big a b : List Cond} (ha : GoodIn big a) (hb : GoodIn big b) : GoodIn big (a ++ b) := fun w h => (List.mem_append.mp h).elim (ha w) (hb w)
theorem goodIn_ca {big a b : List Cond} {c : Cond} (ha : GoodIn big (c :: a)) (hb : GoodIn big b) : GoodIn big (c :: (a ++ b)) := fun w h => (List.mem_cons.mp h).elim (fun e => ha w (List.mem_cons.mpr (Or.inl e))) (fun h => (List.mem_append.mp h).elim (fun h => ha w (List.mem_cons.mpr (Or.inr h))) (hb w))
theorem goodIn_sub {big ws : List Cond} (hm : ∀ w ∈ ws, w ∈ big) (h : ws.all goodWord = true) : GoodIn big ws := fun w hw => ⟨hm w hw, good_of_word (List.all_eq_true.mp h w hw)⟩
/-! ===== END ===== -/

/-! ===== BEGIN new T[n][m]: the outer array a place, the inner ones among the pooled ===== -/
/-- the row va_mna of the printed names asks for these words, which no text of the kit has: written here -/
def va_AOA (ty : FieldType) (U : State) : Prop := (Cond.arrayOver (.array ty)).before #[] U = true
theorem va_AOA.of {ty : FieldType} {A : Array Value} {U : State} (h : (Cond.arrayOver (.array ty)).before A U = true) : va_AOA ty U := h
theorem va_AOA.use {ty : FieldType} {A : Array Value} {U : State} (h : va_AOA ty U) : (Cond.arrayOver (.array ty)).before A U = true := h
/-- f, but v at every address of l -/
def vr_up {α : Type} (f : Nat → α) (l : List Nat) (v : α) : Nat → α := fun a => if a ∈ l then v else f a
theorem vr_up_in {α : Type} {f : Nat → α} {l : List Nat} {v : α} {a : Nat} (h : a ∈ l) : vr_up f l v a = v := if_pos h
theorem vr_up_ne {α : Type} {f : Nat → α} {l : List Nat} {v : α} {a : Nat} (h : a ∉ l) : vr_up f l v a = f a := if_neg h
theorem vr_rows {L l : List Nat} {f : Nat → va_E} {e : va_E} (h : ∀ a, a ∈ l → a ∉ L) : va_pl L f ++ l.map (fun a => (a, e)) = va_pl (L ++ l) (vr_up f l e) := by
  unfold va_pl
  rw [List.map_append]
  congr 1
  · apply List.map_congr_left
    intro a ha
    rw [vr_up_ne (fun q => h a q ha)]
  · apply List.map_congr_left
    intro a ha
    rw [vr_up_in ha]
theorem vr_lay {X rows : va_W} {x : Nat × va_E} {pl : va_W} {D : va_G} {cl : List vw_C} {H : Heap} (hP : va_P D cl (((X ++ pl) ++ [x]) ++ rows) H) : va_P D cl ((X ++ [x]) ++ (pl ++ rows)) H := by
  rw [List.append_assoc (X ++ pl)] at hP
  have h := va_P.swap hP
  rw [← List.append_assoc X] at h
  have h2 := va_P.swap h
  rw [List.append_assoc (X ++ [x])] at h2
  exact h2
theorem vr_layD {X rows : va_W} {x : Nat × va_E} {pl : va_W} {A : Nat → Prop} (hD : va_D A (((X ++ pl) ++ [x]) ++ rows)) : va_D A ((X ++ [x]) ++ (pl ++ rows)) := by
  rw [List.append_assoc (X ++ pl)] at hD
  have h := va_D.swap hD
  rw [← List.append_assoc X] at h
  have h2 := va_D.swap h
  rw [List.append_assoc (X ++ [x])] at h2
  exact h2
theorem vr_outer (c : ClassId) (N h0 : Nat) : ∀ i : Nat, Jvm.Free.Multi.outerC c N h0 i = arrV c N (fun j => va_rf (if j < i then some (h0 + 1 + j) else none))
  | 0 => by
    show ({ cls := c, slots := Array.replicate N .null, vm := .none } : Cell) = _
    rw [arrV_new]
    refine congrArg (arrV c N) (funext fun j => ?_)
    simp [va_rf]
  | i + 1 => by
    show (Jvm.Free.Multi.outerC c N h0 i).setSlot i (.ref (h0 + 1 + i)) = _
    rw [vr_outer c N h0 i, arrV_store]
    refine congrArg (arrV c N) (funext fun j => ?_)
    by_cases e : j = i
    · subst e
      simp [updV, va_rf]
    · by_cases h : j < i
      · simp [updV, e, h, Nat.lt_succ_of_lt h]
      · simp [updV, e, h, show ¬ j < i + 1 by omega]
section VGM
variable {p : Program} {l : Launch} {e : Env} {R : Room} {s : State} {m : MethodId} {args : Array Value} {below : List Frame} {meth : Method} {c : Code} {H : Heap} {locs : List Loc} {cells slots : Nat} {Q : State → Prop}
variable {cc : ByteArray} {pc : Nat} {ls : Array Slot} {rest : List Value} {D : va_G} {cl : List vw_C} {A : Nat → Prop} {a : Nat} {tys : List (ClassId × FieldType)} {ws : va_W} {H0 : Heap}
theorem va_mna {X : va_W} {L : List Nat} {f : Nat → va_E} {cc : ByteArray} (hexec : p.tables.exec = Jvm.exec) (hb : c.code = cc) {own : String} {index : Nat} {ty : FieldType} {cy : ClassId} (hown : s.vm.findClass own = some m.cls) (hclink : (Cond.classLink own index ("[" ++ (FieldType.array ty).toString)).before args s = true) (hover : va_AOA ty s) (harr : (Cond.arrayClass ty).before args s = true) (hcy : s.vm.findClass (FieldType.array ty).toString = some cy)
    (hK : va_K D cl tys s) (hP : va_P D cl (X ++ va_pl L f) H) (hD : va_D A (X ++ va_pl L f)) (hS : va_S A H0 H locs) (hA : ∀ q, H0.size ≤ q → A q) {n k : Int32} {N' K' : Nat} {z : vp_A} (hn : ¬ n < 0) (hk : ¬ k < 0) (hN : n.toNatClampNeg = N') (hM : k.toNatClampNeg = K')
    (hb1 : N' * 4 ≤ 536870912) (hb2 : K' * componentBytes ty ≤ 536870912) (hb3 : K' ≤ 536870912) (hdf : fits ty (defaultValue ty) = true) (hdd : (defaultValue ty).isDefault = true) (hcells : cells + (1 + N') ≤ R.cells) (hslots : slots + (N' + N' * K') ≤ R.slots) (hz : ∀ c : ClassId, Jvm.Free.Multi.innerC c K' (defaultValue ty) = vp_cell c z) (hdg : decode cc pc = .ok (.multianewarray index 2, 4))
    (kk : ∀ (q : Nat) (r : Nat → Nat) (cA : ClassId) (H1 : Heap), (∀ i j : Nat, i < N' → j < N' → r i = r j → i = j) → (∀ i : Nat, i < N' → r i ∉ L) → va_K D cl (tys ++ [(cA, .array ty)]) s →
      va_P D cl ((X ++ [(q, .inl (cA, N', .inr (.inr (.inr (.inr (fun i => if i < N' then some (r i) else none))))))]) ++ va_pl (L ++ (List.range N').map r) (vr_up f ((List.range N').map r) (.inl (cy, z)))) H1 → va_D A ((X ++ [(q, .inl (cA, N', .inr (.inr (.inr (.inr (fun i => if i < N' then some (r i) else none))))))]) ++ va_pl (L ++ (List.range N').map r) (vr_up f ((List.range N').map r) (.inl (cy, z)))) → va_S A H0 H1 locs →
      W p l e R s m args below meth c H1 locs (cells + 1 + N') (slots + N' + N' * K') Q (F0 m (pc + 4) ls (.ref q :: rest))) : W p l e R s m args below meth c H locs cells slots Q (F0 m pc ls (.int k :: .int n :: rest)) := by
  subst hN
  subst hM
  intro T hT Xs
  obtain ⟨vm₁, cA, comp, -, fA, fC, hO, -, X', step⟩ := Xs.multianewarray2F hexec hown hclink (va_AOA.use hover) harr (g := F0 m pc ls (.int k :: .int n :: rest)) rfl (by rw [hb]; exact hdg) rfl hn hk hb1 hb2 hb3 hdf hdd hcells hslots
  have ec : some cy = some comp := hcy.symm.trans fC
  cases ec
  generalize hF : Jvm.Free.Multi.fill (T.setVm vm₁) cA cy n.toNatClampNeg k.toNatClampNeg (defaultValue ty) n.toNatClampNeg = F at X' step
  have hTh : (T.setVm vm₁).heap = H := hT
  obtain ⟨f1, f2, -, -⟩ := Jvm.Free.Multi.fill_facts (T.setVm vm₁) cA cy n.toNatClampNeg k.toNatClampNeg (defaultValue ty) n.toNatClampNeg
  rw [hF, hTh] at f1 f2
  have hold : ∀ x : Nat, x < H.size → F.heap[x]? = H[x]? := fun x hx => by
    have := Jvm.Free.Multi.fill_old (T.setVm vm₁) cA cy n.toNatClampNeg k.toNatClampNeg (defaultValue ty) (a := x) (by rw [hTh]; exact hx) n.toNatClampNeg
    rw [hF, hTh] at this
    exact this
  have hrow : ∀ j : Nat, j < n.toNatClampNeg → F.heap[H.size + 1 + j]? = some (vp_cell cy z) := fun j hj => by
    have := Jvm.Free.Multi.fill_inner (T.setVm vm₁) cA cy n.toNatClampNeg k.toNatClampNeg (defaultValue ty) n.toNatClampNeg j hj
    rw [hF, hTh, hz] at this
    exact this
  have hout : Jvm.Free.Multi.outerC cA n.toNatClampNeg H.size n.toNatClampNeg = vp_cell cA (n.toNatClampNeg, .inr (.inr (.inr (.inr (fun i => if i < n.toNatClampNeg then some (H.size + 1 + i) else none))))) := by
    rw [vp_cell_q]
    exact vr_outer cA n.toNatClampNeg H.size n.toNatClampNeg
  rw [hout] at f2
  have hlt : ∀ a, a ∈ L → a < H.size := fun a ha => by
    obtain ⟨k9, hk9⟩ := va_pl_get (X := X) (f := f) ha
    exact (hP k9 _ hk9).lt
  have hnl : ∀ i : Nat, i < n.toNatClampNeg → H.size + 1 + i ∉ L := fun i _ h => by
    have := hlt _ h
    omega
  have hnm : ∀ a, a ∈ (List.range n.toNatClampNeg).map (fun i => H.size + 1 + i) → a ∉ L := fun a ha h => by
    obtain ⟨i, -, rfl⟩ := List.mem_map.mp ha
    have := hlt _ h
    omega
  have hP0 : va_P D cl (X ++ va_pl L f) F.heap := hP.kept (fun k9 x hx => hold x.1 ((hP k9 x hx).lt))
  have hP1 : va_P D cl ((X ++ va_pl L f) ++ [(H.size, .inl (cA, n.toNatClampNeg, .inr (.inr (.inr (.inr (fun i => if i < n.toNatClampNeg then some (H.size + 1 + i) else none))))))]) F.heap := hP0.app (fun k9 x hx => by
    have h0 : k9 < 1 := (List.getElem?_eq_some_iff.mp hx).1
    rw [show k9 = 0 by omega] at hx
    cases hx
    exact f2)
  have hP2 : va_P D cl (((X ++ va_pl L f) ++ [(H.size, .inl (cA, n.toNatClampNeg, .inr (.inr (.inr (.inr (fun i => if i < n.toNatClampNeg then some (H.size + 1 + i) else none))))))]) ++ ((List.range n.toNatClampNeg).map (fun i => H.size + 1 + i)).map (fun a => (a, .inl (cy, z)))) F.heap := hP1.app (fun k9 x hx => by
    obtain ⟨a, ha, rfl⟩ := List.mem_map.mp (List.mem_of_getElem? hx)
    obtain ⟨i, hi, rfl⟩ := List.mem_map.mp ha
    exact hrow i (List.mem_range.mp hi))
  have hD2 : va_D A (((X ++ va_pl L f) ++ [(H.size, .inl (cA, n.toNatClampNeg, .inr (.inr (.inr (.inr (fun i => if i < n.toNatClampNeg then some (H.size + 1 + i) else none))))))]) ++ ((List.range n.toNatClampNeg).map (fun i => H.size + 1 + i)).map (fun a => (a, .inl (cy, z)))) := by
    have hD1 := hD.push (e := .inl (cA, n.toNatClampNeg, .inr (.inr (.inr (.inr (fun i => if i < n.toNatClampNeg then some (H.size + 1 + i) else none)))))) hP rfl (hA _ hS.1)
    generalize hW1 : (X ++ va_pl L f) ++ [(H.size, .inl (cA, n.toNatClampNeg, .inr (.inr (.inr (.inr (fun i => if i < n.toNatClampNeg then some (H.size + 1 + i) else none))))))] = W1 at hD1 hP1 ⊢
    have hle : ∀ (k9 : Nat) (x : Nat × va_E), W1[k9]? = some x → x.1 ≤ H.size := fun k9 x hx => by
      rw [← hW1] at hx
      by_cases hl : k9 < (X ++ va_pl L f).length
      · rw [List.getElem?_append_left hl] at hx
        exact Nat.le_of_lt ((hP k9 x hx).lt)
      · rw [List.getElem?_append_right (by omega)] at hx
        have h0 : k9 - (X ++ va_pl L f).length < 1 := (List.getElem?_eq_some_iff.mp hx).1
        rw [show k9 - (X ++ va_pl L f).length = 0 by omega] at hx
        cases hx
        exact Nat.le_refl _
    have hr : ∀ (k9 : Nat) (x : Nat × va_E), (((List.range n.toNatClampNeg).map (fun i => H.size + 1 + i)).map (fun a => ((a, .inl (cy, z)) : Nat × va_E)))[k9]? = some x → x.1 = H.size + 1 + k9 := fun k9 x hx => by
      rw [List.getElem?_map, List.getElem?_map] at hx
      by_cases h9 : k9 < n.toNatClampNeg
      · rw [List.getElem?_range h9] at hx
        cases hx
        rfl
      · have hn0 : (List.range n.toNatClampNeg)[k9]? = none := List.getElem?_eq_none (by rw [List.length_range]; omega)
        rw [hn0] at hx
        cases hx
    refine ⟨fun i j x y hi hj hxy => ?_, fun k9 x hx => ?_⟩
    · by_cases h1 : i < W1.length <;> by_cases h2 : j < W1.length
      · rw [List.getElem?_append_left h1] at hi
        rw [List.getElem?_append_left h2] at hj
        exact hD1.1 i j x y hi hj hxy
      · rw [List.getElem?_append_left h1] at hi
        rw [List.getElem?_append_right (by omega)] at hj
        have := hle _ _ hi
        have := hr _ _ hj
        omega
      · rw [List.getElem?_append_right (by omega)] at hi
        rw [List.getElem?_append_left h2] at hj
        have := hle _ _ hj
        have := hr _ _ hi
        omega
      · rw [List.getElem?_append_right (by omega)] at hi hj
        have := hr _ _ hi
        have := hr _ _ hj
        omega
    · by_cases h1 : k9 < W1.length
      · rw [List.getElem?_append_left h1] at hx
        exact hD1.2 k9 x hx
      · rw [List.getElem?_append_right (by omega)] at hx
        have := hr _ _ hx
        exact hA _ (by have := hS.1; omega)
  have hAr : ArrOfT s cA (.array ty) := fun N9 z9 => by
    obtain ⟨-, k9, hk9, cm9, hkk9⟩ := (hO 0 0 0).1
    exact ⟨(fun q hq => by cases hq), k9, hk9, cm9, hkk9⟩
  have hK2 : va_K D cl (tys ++ [(cA, .array ty)]) s := ⟨hK.1, fun k9 x hx => by
    by_cases hl : k9 < tys.length
    · rw [List.getElem?_append_left hl] at hx
      exact hK.2 k9 x hx
    · rw [List.getElem?_append_right (by omega)] at hx
      have h0 : k9 - tys.length < 1 := (List.getElem?_eq_some_iff.mp hx).1
      rw [show k9 - tys.length = 0 by omega] at hx
      cases hx
      exact ⟨hAr, fA⟩⟩
  obtain ⟨t, a1, b1⟩ := kk H.size (fun i => H.size + 1 + i) cA F.heap (fun i j _ _ h => by have h9 : H.size + 1 + i = H.size + 1 + j := h; omega) hnl hK2 (by rw [← vr_rows hnm]; exact vr_lay hP2) (by rw [← vr_rows hnm]; exact vr_layD hD2) ⟨by rw [f1]; have := hS.1; omega, fun x h1 h2 => (hold x (Nat.lt_of_lt_of_le h1 hS.1)).trans (hS.2.1 x h1 h2), hS.2.2⟩ F rfl X'
  refine ⟨t, step t ?_, b1⟩
  have e : T.heap.size = H.size := by rw [hT]
  rw [e]
  exact a1
end VGM
/-! ===== END ===== -/

/-! ===== BEGIN exceptions that leave a method, and their catching by the caller (launches without stack traces) ===== -/
section VXA
/-! The laws vx_back, vx_callV, vx_callS, vx_callSW, vx_throw0, vx_throwS follow proofs of the library, with one case more: JvmDerived/Free/Laws.lean (Back.of_free), Shelf42/LK1.lean (callV, callS), Shelf/KitTraced.lean (throwNew0V, throwNewS). -/
/-- where a method has thrown q: the class by its name, the cell, what was written, the world -/
def vx_T (XC : String → State → State → Prop) (st : State) (q : Addr) (t : State) (mc ms : Nat) (free : Addr → Prop) : Prop :=
  ∃ (E : String) (ce : Cell) (L : List Loc), XC E st t ∧ t.heap[q]? = some ce ∧ ce.vm = .none ∧ st.vm.findClass E = some ce.cls ∧ st.WarmedH t.vm ∧ st.sameButNew ({ t with vm := st.vm } : State) L mc ms ∧ ∀ z ∈ L, free z.base
def vx_Q (Qc : Array Value → State → Outcome → State → Prop) (XC : String → State → State → Prop) (mc ms : Nat) (free : Addr → Prop) : Array Value → State → Outcome → State → Prop := fun a st o t =>
  (Qc a st o t ∧ ∃ L, FrameEnd st o t L mc ms ∧ ∀ q ∈ L, free q.base) ∨ ∃ q, o = .threw q ∧ vx_T XC st q t mc ms free
/-- a callee that returns or throws -/
def vx_Met (l : Launch) (y : MethodName) (ws : List Cond) (rm : Room) (Pc : Array Value → State → Prop) (Qc : Array Value → State → Outcome → State → Prop) (XC : String → State → State → Prop) (mc ms : Nat) (free : Addr → Prop) : Prop :=
  MetFree l y (headSpec ws rm) Pc (fun _ _ _ _ _ => True) (vx_Q Qc XC mc ms free)
def vx_Post (XC : String → State → State → Prop) (mc ms : Nat) (free : Addr → Prop) : Pt → Array Value → Addr → Pt → Prop := fun A a q B =>
  ∃ (g : JFrame) (mk : MethodId) (t : State) (L : List Loc) (E : String) (ce : Cell), B.U.heap = t.heap ∧ B.U.vm = t.vm ∧ XC E (A.U.calling g mk a) t ∧ t.heap[q]? = some ce ∧ ce.vm = .none ∧ A.U.vm.findClass E = some ce.cls ∧ B.locs = A.locs ++ L ∧ (∀ z ∈ L, free z.base) ∧ B.cells = A.cells + mc ∧ B.slots = A.slots + ms
def vx_Back (l : Launch) (R : Room) (p : Program) (e : Env) (below : List Frame) (s : State) (sargs : Array Value) (y : MethodName) (len W9 : Nat)
    (Pre : Pt → Array Value → Prop) (Post : Pt → Array Value → Option Value → Pt → Prop) (PostX : Pt → Array Value → Addr → Pt → Prop) : Prop :=
  ∀ (m : MethodId) (meth : Method) (c : Code) (A : Pt) (g : JFrame) (ig : Instr) (mk : MethodId) (a : Array Value),
    Stand p l e R s m sargs below meth c A.U A.locs A.cells A.slots → g.method = m → g.locals.size = c.maxLocals → decode c.code g.pc = .ok (ig, len) →
    2 * g.monitorRoom + (g.stack.map fun v => v.category).sum ≤ W9 → A.U.methodNamed? y = some mk → Pre A a →
    (∃ (v : Option Value) (B : Pt), Stand p l e R s m sargs below meth c B.U B.locs B.cells B.slots ∧ Post A a v B ∧
      Steps p.tables e below (doInvoke e (A.U.setTop g) [] mk a).1 (B.U.setTop { g with pc := g.pc + len, stack := v.toList ++ g.stack })) ∨
    (∃ (q : Addr) (B : Pt), Stand p l e R s m sargs below meth c B.U B.locs B.cells B.slots ∧ PostX A a q B ∧
      Steps p.tables e below (doInvoke e (A.U.setTop g) [] mk a).1 ((B.U.setTop g).pushFrame (.throwing q)))
section Payer
variable {l : Launch} {R : Room} {p : Program} {e : Env} {below : List Frame} {s : State} {sargs : Array Value} {y : MethodName} {len W9 : Nat}
theorem vx_back {ws : List Cond} {rm : Room} {Pc : Array Value → State → Prop} {Qc : Array Value → State → Outcome → State → Prop} {XC : String → State → State → Prop} {mc ms : Nat} {free : Addr → Prop} {bytes : ByteArray} {maxL : Nat} {ret : Option FieldType}
    (hM : vx_Met l y ws rm Pc Qc XC mc ms free) (hblind : FrameBlind Pc) (hrc : rm.cells = mc) (hrs : rm.slots = ms)
    (hframes : rm.frames + 1 ≤ R.frames) (hlocals : W9 + (maxL + 11) + rm.locals ≤ R.locals)
    (hws : ∀ w ∈ ws, ∀ a' U, s.WarmedH U.vm → w.before a' U = true) (hcode : Cond.code y bytes maxL ret ∈ ws) (hinit : ∀ a' U, s.WarmedH U.vm → (Cond.initialized y.cls).before a' U = true) :
    vx_Back l R p e below s sargs y len W9 (PreOf R mc ms Pc) (PostOf Qc mc ms free) (vx_Post XC mc ms free) := by
  intro m meth c A g ig mk a X hg hsize hdg hW hn hp
  have h1 : (headSpec ws rm).pre.before a A.U = true := atoms_intro fun w hw => hws w hw _ _ X.warmed
  have h2 : (Cond.code y bytes maxL ret).before a A.U = true := hws _ hcode _ _ X.warmed
  have h3 : (Cond.initialized y.cls).before a A.U = true := hinit _ _ X.warmed
  have h4 : A.cells + (headSpec ws rm).room.cells ≤ R.cells := by rw [show (headSpec ws rm).room.cells = mc from hrc]; exact hp.1
  have h5 : A.slots + (headSpec ws rm).room.slots ≤ R.slots := by rw [show (headSpec ws rm).room.slots = ms from hrs]; exact hp.2.1
  have hPc : Pc a (A.U.calling g mk a) := hblind _ _ _ _ hp.2.2
  obtain ⟨U, Ls, c0, s0⟩ := A
  dsimp only [Pt.U, Pt.locs, Pt.cells, Pt.slots] at h1 h2 h3 h4 h5 X hn hPc ⊢
  obtain ⟨methY, cY, hmY, hcY, -, hlY, -, -, -, -⟩ := Cond.code_spec hn h2
  obtain ⟨kY, hkY, -⟩ := className_of_methodNamed hn
  have hinitY : kY.init = .initialized := Cond.initialized_spec (findClass_of_methodNamed hn) hkY h3
  have h : At U g.method c below := by rw [hg]; exact X.here
  have hlocals9 : W9 + (maxL + 11) + (headSpec ws rm).room.locals ≤ R.locals := hlocals
  have happ : (headSpec ws rm).appliesLoose y e.platform (U.calling g mk a) = true :=
    Spec.appliesLoose_calling (g := g) h hdg hn hkY hinitY
      (X.room_calling (g := g) (R' := (headSpec ws rm).room) hsize hmY hcY hframes (by rw [hlY]; omega) h4 h5) h1
  obtain ⟨mid, hmid⟩ := h.above
  have hfr : (U.setTop g).frames = (.java g :: mid) ++ below := by rw [State.frames_setTop' g h.top, hmid]; rfl
  obtain ⟨o, s₂, hsteps, -, hend, hq⟩ := Steps.callFree hM p X.admits X.cas X.clock (acts := []) hfr happ hPc trivial
  have hq' : vx_Q Qc XC mc ms free a (U.calling g mk a) o s₂ := hq
  rw [State.frames_setTop' g h.top] at hend
  obtain ⟨g₀, hg0⟩ := Option.isSome_iff_exists.mp h.top
  obtain ⟨r, hr⟩ := State.topJava?_eq_some.mp hg0
  have hr' : (({ U with heap := s₂.heap, slotsUsed := s₂.slotsUsed } : State).setVm s₂.vm).frames = .java g₀ :: r := hr
  rcases hq' with ⟨hqc, L, hfe, hL⟩ | ⟨q, rfl, E, ce, L, hx, hce, hcv, hcl, hW₂, hsm, hL⟩
  · obtain ⟨⟨v, rfl⟩, hW₂, e2, q2, q3, q4, q5, q6⟩ := id hfe
    have e3 : s₂ = ({ (U.calling g mk a).setFrames s₂.frames with heap := s₂.heap, slotsUsed := s₂.slotsUsed } : State).setVm s₂.vm := by
      have : s₂ = ({ s₂ with vm := (U.calling g mk a).vm } : State).setVm s₂.vm := rfl
      rw [e2] at this
      exact this
    obtain ⟨c₂, i₂, len₂, hc₂, hd₂, hf₂⟩ := hend
    have hW' : U.WarmedH s₂.vm := hW₂
    have hcc : c₂ = c := by
      have h1 : s₂.code? g.method = U.code? g.method := by
        rw [State.code?_eq, State.code?_eq, hW'.alike.method?]
      exact Option.some.inj (hc₂.symm.trans (h1.trans h.code))
    subst hcc
    have hlen : len₂ = len := by rw [hdg] at hd₂; cases hd₂; rfl
    subst hlen
    have hs₂ : s₂ = (({ U with heap := s₂.heap, slotsUsed := s₂.slotsUsed } : State).setVm s₂.vm).setTop { g with pc := g.pc + len₂, stack := v.toList ++ g.stack } := by
      refine e3.trans ?_
      rw [hf₂, State.calling_eq h.top, State.setFrames_setFrames, State.setTop_of_frames _ hr', hr]
      rfl
    have hsame : U.sameButNew ({ U with heap := s₂.heap, slotsUsed := s₂.slotsUsed } : State) L mc ms := by
      refine ⟨?_, q2, q3, q4, q5, q6⟩
      obtain ⟨t, ht, -⟩ := State.frames_cons hr
      show ({ U with heap := s₂.heap, slotsUsed := s₂.slotsUsed } : State) = { U.setFrames U.frames with heap := s₂.heap, slotsUsed := s₂.slotsUsed }
      rw [State.setFrames_self ht]
    subst hg
    refine Or.inl ⟨v, ⟨(({ U with heap := s₂.heap, slotsUsed := s₂.slotsUsed } : State).setVm s₂.vm), Ls ++ L, c0 + mc, s0 + ms⟩,
      ⟨X.admits, X.cas, X.clock, X.frames, X.room, X.hears, X.method, X.code, (X.here.setHeapUsed s₂.heap s₂.slotsUsed).setVm hW'.alike, X.tail, State.WarmedH.trans X.warmed hW', X.limits, X.bytes, X.same.trans (hsame.setVm s.vm)⟩,
      ⟨g, mk, s₂, L, rfl, rfl, hqc, rfl, hL, rfl, rfl⟩, ?_⟩
    show Steps p.tables e below _ ((({ U with heap := s₂.heap, slotsUsed := s₂.slotsUsed } : State).setVm s₂.vm).setTop { g with pc := g.pc + len₂, stack := v.toList ++ g.stack })
    rw [← hs₂]
    exact hsteps
  · obtain ⟨e2, q2, q3, q4, q5, q6⟩ := id hsm
    have e3 : s₂ = ({ (U.calling g mk a).setFrames s₂.frames with heap := s₂.heap, slotsUsed := s₂.slotsUsed } : State).setVm s₂.vm := by
      have : s₂ = ({ s₂ with vm := (U.calling g mk a).vm } : State).setVm s₂.vm := rfl
      rw [e2] at this
      exact this
    have hf₂ : s₂.frames = .throwing q :: .java g :: U.frames.tail := hend
    have hW' : U.WarmedH s₂.vm := hW₂
    have hs₂ : s₂ = ((({ U with heap := s₂.heap, slotsUsed := s₂.slotsUsed } : State).setVm s₂.vm).setTop g).pushFrame (.throwing q) := by
      refine e3.trans ?_
      rw [hf₂, State.calling_eq h.top, State.setFrames_setFrames, State.pushFrame, State.frames_setTop _ hr', State.setTop_of_frames _ hr', State.setFrames_setFrames, hr]
      rfl
    have hsame : U.sameButNew ({ U with heap := s₂.heap, slotsUsed := s₂.slotsUsed } : State) L mc ms := by
      refine ⟨?_, q2, q3, q4, q5, q6⟩
      obtain ⟨t, ht, -⟩ := State.frames_cons hr
      show ({ U with heap := s₂.heap, slotsUsed := s₂.slotsUsed } : State) = { U.setFrames U.frames with heap := s₂.heap, slotsUsed := s₂.slotsUsed }
      rw [State.setFrames_self ht]
    subst hg
    refine Or.inr ⟨q, ⟨(({ U with heap := s₂.heap, slotsUsed := s₂.slotsUsed } : State).setVm s₂.vm), Ls ++ L, c0 + mc, s0 + ms⟩,
      ⟨X.admits, X.cas, X.clock, X.frames, X.room, X.hears, X.method, X.code, (X.here.setHeapUsed s₂.heap s₂.slotsUsed).setVm hW'.alike, X.tail, State.WarmedH.trans X.warmed hW', X.limits, X.bytes, X.same.trans (hsame.setVm s.vm)⟩,
      ⟨g, mk, s₂, L, E, ce, rfl, rfl, hx, hce, hcv, hcl, rfl, hL, rfl, rfl⟩, ?_⟩
    show Steps p.tables e below _ (((({ U with heap := s₂.heap, slotsUsed := s₂.slotsUsed } : State).setVm s₂.vm).setTop g).pushFrame (.throwing q))
    rw [← hs₂]
    exact hsteps
end Payer
section Calls
variable {p : Program} {l : Launch} {e : Env} {R : Room} {s : State} {m : MethodId} {args : Array Value} {below : List Frame} {meth : Method} {c : Code} {T : State} {locs : List Loc} {cells slots : Nat}
theorem vx_callV (X : Stand p l e R s m args below meth c T locs cells slots) (hexec : p.tables.exec = Jvm.exec) {own C : String} {index : Nat} {y : MethodName} {bytes : ByteArray} {maxL : Nat} {ret : Option FieldType}
    (hown : s.vm.findClass own = some m.cls) (hlink : (Cond.methodLink own index y).before args s = true) (hinst : (Cond.instanceMethod y).before args s = true) (hsel : (Cond.selects C y y).before args s = true)
    (hcode : (Cond.code y bytes maxL ret).before args s = true) (hy : y.cls ≠ "java/lang/invoke/MethodHandle" ∧ y.cls ≠ "java/lang/invoke/VarHandle")
    {W9 : Nat} {Pre : Pt → Array Value → Prop} {Post : Pt → Array Value → Option Value → Pt → Prop} {PostX : Pt → Array Value → Addr → Pt → Prop} (hK : vx_Back l R p e below s args y 3 W9 Pre Post PostX)
    {b : Addr} {cellB : Cell} (hcell : T.heap[b]? = some cellB) (hobj : cellB.vm.isStatics = false) (hcls : s.vm.findClass C = some cellB.cls)
    {g : JFrame} (hg : g.method = m) (hsize : g.locals.size = c.maxLocals) {argsL rest : List Value} (hlen : ∀ sig, parseMethodDescriptor y.desc = some sig → argsL.length = sig.parameters.length)
    (hstack : g.stack = argsL.reverse ++ .ref b :: rest) (hW : 2 * g.monitorRoom + (rest.map fun v => v.category).sum ≤ W9) (hdg : decode c.code g.pc = .ok (.invokevirtual index, 3))
    (hpre : ∀ vm₁, s.WarmedH vm₁ → Pre ⟨T.setVm vm₁, locs, cells, slots⟩ (Value.ref b :: argsL).toArray) :
    (∃ (v : Option Value) (vm₁ : Vm) (B : Pt), s.WarmedH vm₁ ∧ Stand p l e R s m args below meth c B.U B.locs B.cells B.slots ∧ Post ⟨T.setVm vm₁, locs, cells, slots⟩ (Value.ref b :: argsL).toArray v B ∧
      ∀ target, Steps p.tables e below (B.U.setTop { g with pc := g.pc + 3, stack := v.toList ++ rest }) target → Steps p.tables e below (T.setTop g) target) ∨
    (∃ (q : Addr) (vm₁ : Vm) (B : Pt), s.WarmedH vm₁ ∧ Stand p l e R s m args below meth c B.U B.locs B.cells B.slots ∧ PostX ⟨T.setVm vm₁, locs, cells, slots⟩ (Value.ref b :: argsL).toArray q B ∧
      Steps p.tables e below (T.setTop g) ((B.U.setTop { g with stack := rest }).pushFrame (.throwing q))) := by
  obtain ⟨mk, methM, hnamed, hmethM, hstM, habM⟩ := Cond.instanceMethod_spec hinst
  obtain ⟨methM', cM, hmethM', -, -, -, -, -, -, hsigM⟩ := Cond.code_spec hnamed hcode
  cases hmethM.symm.trans hmethM'
  obtain ⟨c2, r2, m2, q1, q2, q3, q4, kP, hkP, hkPi⟩ := Cond.selects_spec hsel
  cases hcls.symm.trans q1
  cases (State.methodFound?_of_named hnamed hy).symm.trans q2
  cases hnamed.symm.trans q3
  have hselP : selectMethod e.platform s.vm cellB.cls mk = .method mk := by rw [Launch.admits_selectMethod X.admits]; exact q4
  obtain ⟨vm₁, X₁, hstep₁⟩ := X.invokevirtual hexec hown hlink hnamed hmethM hstM hkP hkPi hy (a := b) (cell := cellB) hcell
    (fun z h => by rw [h] at hobj; cases hobj) hselP hmethM habM hkP hkPi (g := g) hg (argsL := argsL) (rest := rest) (hlen _ hsigM) hstack hdg
  rcases hK m meth c ⟨T.setVm vm₁, locs, cells, slots⟩ { g with stack := rest } (.invokevirtual index) mk (Value.ref b :: argsL).toArray X₁ hg hsize hdg hW (X₁.named hnamed) (hpre vm₁ X₁.warmed) with ⟨v, B, X', hpost, hsteps⟩ | ⟨q, B, X', hpost, hsteps⟩
  · exact Or.inl ⟨v, vm₁, B, X₁.warmed, X', hpost, fun target h => hstep₁ _ fun acts => by rw [doInvoke_state]; exact hsteps.trans h⟩
  · exact Or.inr ⟨q, vm₁, B, X₁.warmed, X', hpost, hstep₁ _ fun acts => by rw [doInvoke_state]; exact hsteps⟩
theorem vx_callS (X : Stand p l e R s m args below meth c T locs cells slots) (hexec : p.tables.exec = Jvm.exec) {own : String} {index : Nat} {y : MethodName} {bytes : ByteArray} {maxL : Nat} {ret : Option FieldType}
    (hown : s.vm.findClass own = some m.cls) (hlink : (Cond.methodLink own index y).before args s = true) (hstat : (Cond.static y).before args s = true) (hinit : (Cond.initialized y.cls).before args s = true)
    (hcode : (Cond.code y bytes maxL ret).before args s = true) (hy : y.cls ≠ "java/lang/invoke/MethodHandle" ∧ y.cls ≠ "java/lang/invoke/VarHandle")
    {W9 : Nat} {Pre : Pt → Array Value → Prop} {Post : Pt → Array Value → Option Value → Pt → Prop} {PostX : Pt → Array Value → Addr → Pt → Prop} (hK : vx_Back l R p e below s args y 3 W9 Pre Post PostX)
    {g : JFrame} (hg : g.method = m) (hsize : g.locals.size = c.maxLocals) {argsL rest : List Value} (hlen : ∀ sig, parseMethodDescriptor y.desc = some sig → argsL.length = sig.parameters.length)
    (hstack : g.stack = argsL.reverse ++ rest) (hW : 2 * g.monitorRoom + (rest.map fun v => v.category).sum ≤ W9) (hdg : decode c.code g.pc = .ok (.invokestatic index, 3))
    (hpre : ∀ vm₁, s.WarmedH vm₁ → Pre ⟨T.setVm vm₁, locs, cells, slots⟩ argsL.toArray) :
    (∃ (v : Option Value) (vm₁ : Vm) (B : Pt), s.WarmedH vm₁ ∧ Stand p l e R s m args below meth c B.U B.locs B.cells B.slots ∧ Post ⟨T.setVm vm₁, locs, cells, slots⟩ argsL.toArray v B ∧
      ∀ target, Steps p.tables e below (B.U.setTop { g with pc := g.pc + 3, stack := v.toList ++ rest }) target → Steps p.tables e below (T.setTop g) target) ∨
    (∃ (q : Addr) (vm₁ : Vm) (B : Pt), s.WarmedH vm₁ ∧ Stand p l e R s m args below meth c B.U B.locs B.cells B.slots ∧ PostX ⟨T.setVm vm₁, locs, cells, slots⟩ argsL.toArray q B ∧
      Steps p.tables e below (T.setTop g) ((B.U.setTop { g with stack := rest }).pushFrame (.throwing q))) := by
  obtain ⟨mk, hnamed⟩ := Cond.code_named hcode
  obtain ⟨methM, cM, hmethM, -, -, -, -, -, -, hsigM⟩ := Cond.code_spec hnamed hcode
  have hstatic : methM.isStatic = true := Cond.static_spec hnamed hmethM hstat
  obtain ⟨kP, hkP, -⟩ := className_of_methodNamed hnamed
  have hinitP : kP.init = .initialized := Cond.initialized_spec (findClass_of_methodNamed hnamed) hkP hinit
  obtain ⟨vm₁, X₁, hstep₁⟩ := X.invokestatic hexec hown hlink hnamed hmethM hstatic hkP hinitP hy (g := g) hg (argsL := argsL) (rest := rest) (hlen _ hsigM) hstack hdg
  rcases hK m meth c ⟨T.setVm vm₁, locs, cells, slots⟩ { g with stack := rest } (.invokestatic index) mk argsL.toArray X₁ hg hsize hdg hW (X₁.named hnamed) (hpre vm₁ X₁.warmed) with ⟨v, B, X', hpost, hsteps⟩ | ⟨q, B, X', hpost, hsteps⟩
  · exact Or.inl ⟨v, vm₁, B, X₁.warmed, X', hpost, fun target h => hstep₁ _ fun acts => by rw [doInvoke_state]; exact hsteps.trans h⟩
  · exact Or.inr ⟨q, vm₁, B, X₁.warmed, X', hpost, hstep₁ _ fun acts => by rw [doInvoke_state]; exact hsteps⟩
end Calls
theorem vx_cls {s : State} {T : State} {vm₁ : Vm} {E : String} {k : ClassId} (hW : s.WarmedH vm₁) (h : (T.setVm vm₁).vm.findClass E = some k) : s.vm.findClass E = some k := by
  have h1 : vm₁.findClass E = some k := h
  rw [hW.alike.findClass] at h1
  exact h1
/-- the method's frame g, with q thrown over it -/
def vx_W (p : Program) (l : Launch) (e : Env) (R : Room) (s : State) (m : MethodId) (args : Array Value) (below : List Frame) (meth : Method) (c : Code) (H : Heap) (locs : List Loc) (cells slots : Nat) (Q : State → Prop) (g : JFrame) (q : Addr) : Prop :=
  ∀ T : State, T.heap = H → Stand p l e R s m args below meth c T locs cells slots → ∃ t, Steps p.tables e below ((T.setTop g).pushFrame (.throwing q)) t ∧ Q t
def vx_Run (p : Program) (l : Launch) (e : Env) (R : Room) (s : State) (m : MethodId) (args : Array Value) (below : List Frame) (meth : Method) (c : Code) (H : Heap) (locs : List Loc) (cells slots mc ms : Nat) (g : JFrame) (rest : List Value) (Qa : State → Outcome → State → Prop) (XC : String → State → State → Prop) (free : Addr → Prop) : Prop :=
  ∀ T : State, T.heap = H → Stand p l e R s m args below meth c T locs cells slots →
    (∃ (v : Option Value) (st₀ t T' : State) (L : List Loc), st₀.heap = H ∧ Stand p l e R s m args below meth c T' (locs ++ L) (cells + mc) (slots + ms) ∧ (∀ q ∈ L, free q.base) ∧ T'.heap = t.heap ∧ T'.vm = t.vm ∧ Qa st₀ (.returned v) t ∧
      Goes p e below T g T' { g with pc := g.pc + 3, stack := v.toList ++ rest }) ∨
    (∃ (q : Addr) (st₀ t T' : State) (L : List Loc) (E : String) (ce : Cell), st₀.heap = H ∧ Stand p l e R s m args below meth c T' (locs ++ L) (cells + mc) (slots + ms) ∧ (∀ z ∈ L, free z.base) ∧ T'.heap = t.heap ∧ T'.vm = t.vm ∧ XC E st₀ t ∧ t.heap[q]? = some ce ∧ ce.vm = .none ∧ s.vm.findClass E = some ce.cls ∧
      Steps p.tables e below (T.setTop g) ((T'.setTop { g with stack := rest }).pushFrame (.throwing q)))
def vx_X {S : Type} (px : S → Prop) (B : String → S → State → Prop) (A : Nat → Prop) : String → State → State → Prop := fun E st t => ∃ u : S, px u ∧ B E u t ∧ va_F A st t
section Runs
variable {p : Program} {l : Launch} {e : Env} {R : Room} {s : State} {m : MethodId} {args : Array Value} {below : List Frame} {meth : Method} {c : Code} {H : Heap} {locs : List Loc} {cells slots : Nat}
variable {y : MethodName} {bytes cc : ByteArray} {maxL nL mc ms n index : Nat} {ret : Option FieldType} {ws : List Cond} {rm : Room} {Pc : Array Value → State → Prop} {Qc : Array Value → State → Outcome → State → Prop} {XC : String → State → State → Prop} {free : Addr → Prop} {Ts : List Cond} {own C : String} {b : Addr} {As rest : List Value} {g : JFrame}
theorem vx_callBack (cb : CallB R s args own index y bytes maxL ret ws rm mc ms n) (hM : vx_Met l y ws rm Pc Qc XC mc ms free) (hbl : FrameBlind Pc) : vx_Back l R p e below s args y 3 8 (PreOf R mc ms Pc) (PostOf Qc mc ms free) (vx_Post XC mc ms free) := by
  obtain ⟨hrc, hrs, hfr, hlo, hws, hcw, -, hini, -⟩ := cb
  exact vx_back (bytes := bytes) (maxL := maxL) (ret := ret) hM hbl hrc hrs hfr hlo hws hcw (fun a' U hW => word_at hW (Or.inl (by first | rfl | simp [Cond.onTables, Cond.keeps, Cond.steady])) hini)
theorem vx_runV (S : CallFix p m c cc nL s args Ts own) (hM : vx_Met l y ws rm Pc Qc XC mc ms free) (cw : CallW R s args own C index y bytes maxL ret ws rm mc ms n) (hp : PreV s H C b Pc As)
    (hg : g.method = m) (hn : As.length = n) (hsize : g.locals.size = nL) (hstack : g.stack = As.reverse ++ .ref b :: rest) (hW : 2 * g.monitorRoom + (rest.map fun v => v.category).sum ≤ 8) (hdg : decode cc g.pc = .ok (.invokevirtual index, 3)) (hf : cells + mc ≤ R.cells ∧ slots + ms ≤ R.slots) :
    vx_Run p l e R s m args below meth c H locs cells slots mc ms g rest (Qc (Value.ref b :: As).toArray) XC free := by
  have hK : vx_Back l R p e below s args y 3 8 (PreOf R mc ms Pc) (PostOf Qc mc ms free) (vx_Post XC mc ms free) := vx_callBack cw.1 hM hp.1
  obtain ⟨⟨-, -, -, -, -, -, hcode, -, hy, hlen, hl⟩, hin, hse⟩ := cw
  obtain ⟨hx, hb, hml, ho, -⟩ := S
  obtain ⟨-, ⟨cellB, hcB, hoB, hclB⟩, hPc⟩ := hp
  intro T hT X
  rcases vx_callV X hx (C := C) (bytes := bytes) (maxL := maxL) (ret := ret) ho hl hin hse hcode hy hK (by rw [hT]; exact hcB) hoB hclB hg (hsize.trans hml.symm) (argsL := As) (rest := rest) (fun sig h => hn.trans (hlen sig h)) hstack hW (by rw [hb]; exact hdg)
    (fun vm₁ hW₁ => ⟨hf.1, hf.2, hPc (T.setVm vm₁) hT hW₁⟩) with ⟨v, vm₁, ⟨U', l2, c2, s2⟩, hW₁, X', ⟨g', mk, t, L, e1, e2, hq, h1, hL, h2, h3⟩, st⟩ | ⟨q, vm₁, ⟨U', l2, c2, s2⟩, hW₁, X', ⟨g', mk, t, L, E, ce, e1, e2, hq, hce, hcv, hcl, h1, hL, h2, h3⟩, st⟩
  · dsimp only [Pt.U, Pt.locs, Pt.cells, Pt.slots] at X' e1 e2 h1 h2 h3 st
    subst h1; subst h2; subst h3
    exact Or.inl ⟨v, (T.setVm vm₁).calling g' mk (Value.ref b :: As).toArray, t, U', L, hT, X', hL, e1, e2, hq, st⟩
  · dsimp only [Pt.U, Pt.locs, Pt.cells, Pt.slots] at X' e1 e2 h1 h2 h3 st hcl
    subst h1; subst h2; subst h3
    exact Or.inr ⟨q, (T.setVm vm₁).calling g' mk (Value.ref b :: As).toArray, t, U', L, E, ce, hT, X', hL, e1, e2, hq, hce, hcv, vx_cls hW₁ hcl, st⟩
theorem vx_runS (S : CallFix p m c cc nL s args Ts own) (hM : vx_Met l y ws rm Pc Qc XC mc ms free) (cw : CallB R s args own index y bytes maxL ret ws rm mc ms n ∧ (Cond.static y).before args s = true) (hp : PreS s H Pc As)
    (hg : g.method = m) (hn : As.length = n) (hsize : g.locals.size = nL) (hstack : g.stack = As.reverse ++ rest) (hW : 2 * g.monitorRoom + (rest.map fun v => v.category).sum ≤ 8) (hdg : decode cc g.pc = .ok (.invokestatic index, 3)) (hf : cells + mc ≤ R.cells ∧ slots + ms ≤ R.slots) :
    vx_Run p l e R s m args below meth c H locs cells slots mc ms g rest (Qc As.toArray) XC free := by
  have hK : vx_Back l R p e below s args y 3 8 (PreOf R mc ms Pc) (PostOf Qc mc ms free) (vx_Post XC mc ms free) := vx_callBack cw.1 hM hp.1
  obtain ⟨⟨-, -, -, -, -, -, hcode, hini, hy, hlen, hl⟩, hstt⟩ := cw
  obtain ⟨hx, hb, hml, ho, -⟩ := S
  intro T hT X
  rcases vx_callS X hx (bytes := bytes) (maxL := maxL) (ret := ret) ho hl hstt hini hcode hy hK hg (hsize.trans hml.symm) (argsL := As) (rest := rest) (fun sig h => hn.trans (hlen sig h)) hstack hW (by rw [hb]; exact hdg)
    (fun vm₁ hW₁ => ⟨hf.1, hf.2, hp.2 (T.setVm vm₁) hT hW₁⟩) with ⟨v, vm₁, ⟨U', l2, c2, s2⟩, hW₁, X', ⟨g', mk, t, L, e1, e2, hq, h1, hL, h2, h3⟩, st⟩ | ⟨q, vm₁, ⟨U', l2, c2, s2⟩, hW₁, X', ⟨g', mk, t, L, E, ce, e1, e2, hq, hce, hcv, hcl, h1, hL, h2, h3⟩, st⟩
  · dsimp only [Pt.U, Pt.locs, Pt.cells, Pt.slots] at X' e1 e2 h1 h2 h3 st
    subst h1; subst h2; subst h3
    exact Or.inl ⟨v, (T.setVm vm₁).calling g' mk As.toArray, t, U', L, hT, X', hL, e1, e2, hq, st⟩
  · dsimp only [Pt.U, Pt.locs, Pt.cells, Pt.slots] at X' e1 e2 h1 h2 h3 st hcl
    subst h1; subst h2; subst h3
    exact Or.inr ⟨q, (T.setVm vm₁).calling g' mk As.toArray, t, U', L, E, ce, hT, X', hL, e1, e2, hq, hce, hcv, vx_cls hW₁ hcl, st⟩
end Runs
section Rows
variable {p : Program} {l : Launch} {e : Env} {R : Room} {s : State} {m : MethodId} {args : Array Value} {below : List Frame} {meth : Method} {c : Code} {H : Heap} {locs : List Loc} {cells slots : Nat} {Q : State → Prop}
variable {mc ms : Nat} {free : Addr → Prop} {A0 A1 : Nat → Prop} {H0 : Heap} {a : Array Value} {pc : Nat} {ls : Array Slot} {st0 rest : List Value}
theorem vx_keep {st₀ t T' : State} {L : List Loc} (h0 : st₀.heap = H) (e1 : T'.heap = t.heap) (hS : va_S A0 H0 H locs) (hA : ∀ q, q < H.size → A1 q → A0 q) (hf : ∀ q, free q → A0 q) (hL : ∀ q ∈ L, free q.base) (hF : va_F A1 st₀ t) :
    H.size ≤ T'.heap.size ∧ (∀ q : Nat, q < H.size → ¬ A1 q → T'.heap[q]? = H[q]?) ∧ va_S A0 H0 T'.heap (locs ++ L) := by
  obtain ⟨hz, hk⟩ := hF
  rw [h0] at hz hk
  exact ⟨by rw [e1]; exact hz, fun q h1 h2 => by rw [e1]; exact hk q h1 h2,
    ⟨Nat.le_trans hS.1 (by rw [e1]; exact hz), fun q h1 h2 => by rw [e1, hk q (Nat.lt_of_lt_of_le h1 hS.1) (fun z => h2 (hA q (Nat.lt_of_lt_of_le h1 hS.1) z))]; exact hS.2.1 q h1 h2, fun q hq => by
      rcases List.mem_append.mp hq with h | h
      · exact hS.2.2 q h
      · exact hf _ (hL q h)⟩⟩
theorem vx_calli {S SX : Type} {post : Int32 → S → Prop} {px : SX → Prop} {B : S → State → Prop} {BX : String → SX → State → Prop} {AX : Nat → Prop} (hr : vx_Run p l e R s m args below meth c H locs cells slots mc ms (F0 m pc ls st0) rest (va_Qi post B A1 a) (vx_X px BX AX) free) (hS : va_S A0 H0 H locs) (hA : ∀ q, q < H.size → A1 q → A0 q) (hf : ∀ q, free q → A0 q) (hAX : ∀ q, q < H.size → AX q → A0 q)
    (kx : ∀ (E : String) (ce : Cell) (q9 : Addr) (u : SX) (t : State) (H1 : Heap) (locs1 : List Loc), t.heap = H1 → s.vm.Alike t.vm → px u → BX E u t → H.size ≤ H1.size → (∀ q : Nat, q < H.size → ¬ AX q → H1[q]? = H[q]?) → va_S A0 H0 H1 locs1 → H1[q9]? = some ce → ce.vm = .none → s.vm.findClass E = some ce.cls → vx_W p l e R s m args below meth c H1 locs1 (cells + mc) (slots + ms) Q (F0 m pc ls rest) q9)
    (kk : ∀ (r : Int32) (u : S) (t : State) (H1 : Heap) (locs1 : List Loc), t.heap = H1 → s.vm.Alike t.vm → post r u → B u t → H.size ≤ H1.size → (∀ q : Nat, q < H.size → ¬ A1 q → H1[q]? = H[q]?) → va_S A0 H0 H1 locs1 → W p l e R s m args below meth c H1 locs1 (cells + mc) (slots + ms) Q (F0 m (pc + 3) ls (.int r :: rest))) : W p l e R s m args below meth c H locs cells slots Q (F0 m pc ls st0) := by
  intro T hT X
  rcases hr T hT X with ⟨v, st₀, t, T', L, h0, X', hL, e1, e2, ⟨⟨r, u, hv, hp, hb⟩, hF⟩, st⟩ | ⟨q, st₀, t, T', L, E, ce, h0, X', hL, e1, e2, ⟨u, hp, hb, hF⟩, hce, hcv, hcl, st⟩
  · cases hv
    obtain ⟨k1, k2, k3⟩ := vx_keep h0 e1 hS hA hf hL hF
    obtain ⟨t2, a1, b1⟩ := kk r u t T'.heap (locs ++ L) e1.symm (by rw [← e2]; exact X'.warmed.alike) hp hb k1 k2 k3 T' rfl X'
    exact ⟨t2, st t2 a1, b1⟩
  · obtain ⟨k1, k2, k3⟩ := vx_keep h0 e1 hS hAX hf hL hF
    obtain ⟨t2, a1, b1⟩ := kx E ce q u t T'.heap (locs ++ L) e1.symm (by rw [← e2]; exact X'.warmed.alike) hp hb k1 k2 k3 (by rw [e1]; exact hce) hcv hcl T' rfl X'
    exact ⟨t2, st.trans a1, b1⟩
theorem vx_calll {S SX : Type} {post : Int64 → S → Prop} {px : SX → Prop} {B : S → State → Prop} {BX : String → SX → State → Prop} {AX : Nat → Prop} (hr : vx_Run p l e R s m args below meth c H locs cells slots mc ms (F0 m pc ls st0) rest (va_Ql post B A1 a) (vx_X px BX AX) free) (hS : va_S A0 H0 H locs) (hA : ∀ q, q < H.size → A1 q → A0 q) (hf : ∀ q, free q → A0 q) (hAX : ∀ q, q < H.size → AX q → A0 q)
    (kx : ∀ (E : String) (ce : Cell) (q9 : Addr) (u : SX) (t : State) (H1 : Heap) (locs1 : List Loc), t.heap = H1 → s.vm.Alike t.vm → px u → BX E u t → H.size ≤ H1.size → (∀ q : Nat, q < H.size → ¬ AX q → H1[q]? = H[q]?) → va_S A0 H0 H1 locs1 → H1[q9]? = some ce → ce.vm = .none → s.vm.findClass E = some ce.cls → vx_W p l e R s m args below meth c H1 locs1 (cells + mc) (slots + ms) Q (F0 m pc ls rest) q9)
    (kk : ∀ (r : Int64) (u : S) (t : State) (H1 : Heap) (locs1 : List Loc), t.heap = H1 → s.vm.Alike t.vm → post r u → B u t → H.size ≤ H1.size → (∀ q : Nat, q < H.size → ¬ A1 q → H1[q]? = H[q]?) → va_S A0 H0 H1 locs1 → W p l e R s m args below meth c H1 locs1 (cells + mc) (slots + ms) Q (F0 m (pc + 3) ls (.long r :: rest))) : W p l e R s m args below meth c H locs cells slots Q (F0 m pc ls st0) := by
  intro T hT X
  rcases hr T hT X with ⟨v, st₀, t, T', L, h0, X', hL, e1, e2, ⟨⟨r, u, hv, hp, hb⟩, hF⟩, st⟩ | ⟨q, st₀, t, T', L, E, ce, h0, X', hL, e1, e2, ⟨u, hp, hb, hF⟩, hce, hcv, hcl, st⟩
  · cases hv
    obtain ⟨k1, k2, k3⟩ := vx_keep h0 e1 hS hA hf hL hF
    obtain ⟨t2, a1, b1⟩ := kk r u t T'.heap (locs ++ L) e1.symm (by rw [← e2]; exact X'.warmed.alike) hp hb k1 k2 k3 T' rfl X'
    exact ⟨t2, st t2 a1, b1⟩
  · obtain ⟨k1, k2, k3⟩ := vx_keep h0 e1 hS hAX hf hL hF
    obtain ⟨t2, a1, b1⟩ := kx E ce q u t T'.heap (locs ++ L) e1.symm (by rw [← e2]; exact X'.warmed.alike) hp hb k1 k2 k3 (by rw [e1]; exact hce) hcv hcl T' rfl X'
    exact ⟨t2, st.trans a1, b1⟩
theorem vx_callf {S SX : Type} {post : UInt32 → S → Prop} {px : SX → Prop} {B : S → State → Prop} {BX : String → SX → State → Prop} {AX : Nat → Prop} (hr : vx_Run p l e R s m args below meth c H locs cells slots mc ms (F0 m pc ls st0) rest (va_Qf post B A1 a) (vx_X px BX AX) free) (hS : va_S A0 H0 H locs) (hA : ∀ q, q < H.size → A1 q → A0 q) (hf : ∀ q, free q → A0 q) (hAX : ∀ q, q < H.size → AX q → A0 q)
    (kx : ∀ (E : String) (ce : Cell) (q9 : Addr) (u : SX) (t : State) (H1 : Heap) (locs1 : List Loc), t.heap = H1 → s.vm.Alike t.vm → px u → BX E u t → H.size ≤ H1.size → (∀ q : Nat, q < H.size → ¬ AX q → H1[q]? = H[q]?) → va_S A0 H0 H1 locs1 → H1[q9]? = some ce → ce.vm = .none → s.vm.findClass E = some ce.cls → vx_W p l e R s m args below meth c H1 locs1 (cells + mc) (slots + ms) Q (F0 m pc ls rest) q9)
    (kk : ∀ (r : UInt32) (u : S) (t : State) (H1 : Heap) (locs1 : List Loc), t.heap = H1 → s.vm.Alike t.vm → post r u → B u t → H.size ≤ H1.size → (∀ q : Nat, q < H.size → ¬ A1 q → H1[q]? = H[q]?) → va_S A0 H0 H1 locs1 → W p l e R s m args below meth c H1 locs1 (cells + mc) (slots + ms) Q (F0 m (pc + 3) ls (.float r :: rest))) : W p l e R s m args below meth c H locs cells slots Q (F0 m pc ls st0) := by
  intro T hT X
  rcases hr T hT X with ⟨v, st₀, t, T', L, h0, X', hL, e1, e2, ⟨⟨r, u, hv, hp, hb⟩, hF⟩, st⟩ | ⟨q, st₀, t, T', L, E, ce, h0, X', hL, e1, e2, ⟨u, hp, hb, hF⟩, hce, hcv, hcl, st⟩
  · cases hv
    obtain ⟨k1, k2, k3⟩ := vx_keep h0 e1 hS hA hf hL hF
    obtain ⟨t2, a1, b1⟩ := kk r u t T'.heap (locs ++ L) e1.symm (by rw [← e2]; exact X'.warmed.alike) hp hb k1 k2 k3 T' rfl X'
    exact ⟨t2, st t2 a1, b1⟩
  · obtain ⟨k1, k2, k3⟩ := vx_keep h0 e1 hS hAX hf hL hF
    obtain ⟨t2, a1, b1⟩ := kx E ce q u t T'.heap (locs ++ L) e1.symm (by rw [← e2]; exact X'.warmed.alike) hp hb k1 k2 k3 (by rw [e1]; exact hce) hcv hcl T' rfl X'
    exact ⟨t2, st.trans a1, b1⟩
theorem vx_calld {S SX : Type} {post : UInt64 → S → Prop} {px : SX → Prop} {B : S → State → Prop} {BX : String → SX → State → Prop} {AX : Nat → Prop} (hr : vx_Run p l e R s m args below meth c H locs cells slots mc ms (F0 m pc ls st0) rest (va_Qd post B A1 a) (vx_X px BX AX) free) (hS : va_S A0 H0 H locs) (hA : ∀ q, q < H.size → A1 q → A0 q) (hf : ∀ q, free q → A0 q) (hAX : ∀ q, q < H.size → AX q → A0 q)
    (kx : ∀ (E : String) (ce : Cell) (q9 : Addr) (u : SX) (t : State) (H1 : Heap) (locs1 : List Loc), t.heap = H1 → s.vm.Alike t.vm → px u → BX E u t → H.size ≤ H1.size → (∀ q : Nat, q < H.size → ¬ AX q → H1[q]? = H[q]?) → va_S A0 H0 H1 locs1 → H1[q9]? = some ce → ce.vm = .none → s.vm.findClass E = some ce.cls → vx_W p l e R s m args below meth c H1 locs1 (cells + mc) (slots + ms) Q (F0 m pc ls rest) q9)
    (kk : ∀ (r : UInt64) (u : S) (t : State) (H1 : Heap) (locs1 : List Loc), t.heap = H1 → s.vm.Alike t.vm → post r u → B u t → H.size ≤ H1.size → (∀ q : Nat, q < H.size → ¬ A1 q → H1[q]? = H[q]?) → va_S A0 H0 H1 locs1 → W p l e R s m args below meth c H1 locs1 (cells + mc) (slots + ms) Q (F0 m (pc + 3) ls (.double r :: rest))) : W p l e R s m args below meth c H locs cells slots Q (F0 m pc ls st0) := by
  intro T hT X
  rcases hr T hT X with ⟨v, st₀, t, T', L, h0, X', hL, e1, e2, ⟨⟨r, u, hv, hp, hb⟩, hF⟩, st⟩ | ⟨q, st₀, t, T', L, E, ce, h0, X', hL, e1, e2, ⟨u, hp, hb, hF⟩, hce, hcv, hcl, st⟩
  · cases hv
    obtain ⟨k1, k2, k3⟩ := vx_keep h0 e1 hS hA hf hL hF
    obtain ⟨t2, a1, b1⟩ := kk r u t T'.heap (locs ++ L) e1.symm (by rw [← e2]; exact X'.warmed.alike) hp hb k1 k2 k3 T' rfl X'
    exact ⟨t2, st t2 a1, b1⟩
  · obtain ⟨k1, k2, k3⟩ := vx_keep h0 e1 hS hAX hf hL hF
    obtain ⟨t2, a1, b1⟩ := kx E ce q u t T'.heap (locs ++ L) e1.symm (by rw [← e2]; exact X'.warmed.alike) hp hb k1 k2 k3 (by rw [e1]; exact hce) hcv hcl T' rfl X'
    exact ⟨t2, st.trans a1, b1⟩
theorem vx_callv {S SX : Type} {post : S → Prop} {px : SX → Prop} {B : S → State → Prop} {BX : String → SX → State → Prop} {AX : Nat → Prop} (hr : vx_Run p l e R s m args below meth c H locs cells slots mc ms (F0 m pc ls st0) rest (va_Qv post B A1 a) (vx_X px BX AX) free) (hS : va_S A0 H0 H locs) (hA : ∀ q, q < H.size → A1 q → A0 q) (hf : ∀ q, free q → A0 q) (hAX : ∀ q, q < H.size → AX q → A0 q)
    (kx : ∀ (E : String) (ce : Cell) (q9 : Addr) (u : SX) (t : State) (H1 : Heap) (locs1 : List Loc), t.heap = H1 → s.vm.Alike t.vm → px u → BX E u t → H.size ≤ H1.size → (∀ q : Nat, q < H.size → ¬ AX q → H1[q]? = H[q]?) → va_S A0 H0 H1 locs1 → H1[q9]? = some ce → ce.vm = .none → s.vm.findClass E = some ce.cls → vx_W p l e R s m args below meth c H1 locs1 (cells + mc) (slots + ms) Q (F0 m pc ls rest) q9)
    (kk : ∀ (u : S) (t : State) (H1 : Heap) (locs1 : List Loc), t.heap = H1 → s.vm.Alike t.vm → post u → B u t → H.size ≤ H1.size → (∀ q : Nat, q < H.size → ¬ A1 q → H1[q]? = H[q]?) → va_S A0 H0 H1 locs1 → W p l e R s m args below meth c H1 locs1 (cells + mc) (slots + ms) Q (F0 m (pc + 3) ls (rest))) : W p l e R s m args below meth c H locs cells slots Q (F0 m pc ls st0) := by
  intro T hT X
  rcases hr T hT X with ⟨v, st₀, t, T', L, h0, X', hL, e1, e2, ⟨⟨u, hv, hp, hb⟩, hF⟩, st⟩ | ⟨q, st₀, t, T', L, E, ce, h0, X', hL, e1, e2, ⟨u, hp, hb, hF⟩, hce, hcv, hcl, st⟩
  · cases hv
    obtain ⟨k1, k2, k3⟩ := vx_keep h0 e1 hS hA hf hL hF
    obtain ⟨t2, a1, b1⟩ := kk u t T'.heap (locs ++ L) e1.symm (by rw [← e2]; exact X'.warmed.alike) hp hb k1 k2 k3 T' rfl X'
    exact ⟨t2, st t2 a1, b1⟩
  · obtain ⟨k1, k2, k3⟩ := vx_keep h0 e1 hS hAX hf hL hF
    obtain ⟨t2, a1, b1⟩ := kx E ce q u t T'.heap (locs ++ L) e1.symm (by rw [← e2]; exact X'.warmed.alike) hp hb k1 k2 k3 (by rw [e1]; exact hce) hcv hcl T' rfl X'
    exact ⟨t2, st.trans a1, b1⟩
/-- caught by the row x of this method's table; the rows ahead don't take it -/
theorem vx_catch {own name : String} {E : String} {ce : Cell} {q : Addr} (hown : s.vm.findClass own = some m.cls) (pre : List ExceptionTableEntry) (x : ExceptionTableEntry) (suf : List ExceptionTableEntry) (hsplit : c.exceptionTable.toList = pre ++ x :: suf)
    (hpass : ∀ z ∈ pre, covers z pc = false ∨ (z.catchType ≠ 0 ∧ ∃ nm : String, (Cond.classLink own z.catchType nm).before args s = true ∧ va_Nc E nm s)) (hx : covers x pc = true) (h0 : x.catchType ≠ 0)
    (hlink : (Cond.classLink own x.catchType name).before args s = true) (hcast : (Cond.castable E name).before args s = true) (hcell : H[q]? = some ce) (hv : ce.vm = .none) (hcl : s.vm.findClass E = some ce.cls)
    (kk : W p l e R s m args below meth c H locs cells slots Q (F0 m x.handlerPc ls [.ref q])) : vx_W p l e R s m args below meth c H locs cells slots Q (F0 m pc ls rest) q := by
  intro T hT X
  have hpl : e.platform.magicAccessors = ({} : Platform).magicAccessors := by rw [X.admits.platform]
  obtain ⟨c3, c4, hc3, hc4, hasg⟩ := Cond.castable_spec hcast
  cases Option.some.inj (hc3.symm.trans hcl)
  obtain ⟨c5, hc5, hcl5⟩ := Cond.classLink_spec hown hlink e.platform hpl
  cases Option.some.inj (hc4.symm.trans hc5)
  obtain ⟨vm', X', st⟩ := X.thenCaughtThrough q (g := F0 m pc ls rest) rfl (Steps.refl _) (by rw [hT]; exact hcell) (by rw [hv]; rfl) (by obtain ⟨k9, h9, -⟩ := Vm.findClass_spec hcl; exact ⟨k9, h9⟩) pre x suf hsplit
    (fun z hz => by
      rcases hpass z hz with h | ⟨hz0, nm, hl1, hn1⟩
      · exact Or.inl h
      · obtain ⟨c6, hc6, hcl6⟩ := Cond.classLink_spec hown hl1 e.platform hpl
        obtain ⟨a8, b8, h1, h2, h3⟩ := hn1
        cases Option.some.inj (h1.symm.trans hcl)
        cases Option.some.inj (h2.symm.trans hc6)
        exact Or.inr ⟨hz0, _, hcl6, h3⟩) hx (Or.inr ⟨h0, c4, hcl5, hasg⟩)
  obtain ⟨t, a1, b1⟩ := kk (T.setVm vm') hT X'
  exact ⟨t, st.trans a1, b1⟩
end Rows
section Ends
variable {p : Program} {l : Launch} {e : Env} {R : Room} {s : State} {m : MethodId} {args : Array Value} {below : List Frame} {meth : Method} {c : Code} {H : Heap} {locs : List Loc} {cells slots : Nat} {Q : State → Prop}
variable {mc ms : Nat} {free : Addr → Prop} {A0 A1 : Nat → Prop} {H0 : Heap} {a : Array Value} {ls : Array Slot} {st0 rest : List Value}
variable {Qc : Array Value → State → Outcome → State → Prop} {XC : String → State → State → Prop}
/-- what a body that may throw owes at its end -/
def vx_MQ (below : List Frame) (Qc : Array Value → State → Outcome → State → Prop) (XC : String → State → State → Prop) (a : Array Value) (s : State) (mc ms : Nat) (free : Addr → Prop) : State → Prop := fun t =>
  ∃ o, t.status = .running ∧ Ended t below o ∧ vx_Q Qc XC mc ms free a s o t
theorem vx_ret {g : JFrame} {mc ms : Nat} (k : W p l e R s m args below meth c H locs cells slots (MQ below Qc args s mc ms free) g) : W p l e R s m args below meth c H locs cells slots (vx_MQ below Qc XC args s mc ms free) g := by
  intro T hT X
  obtain ⟨t, a1, o, b1, b2, b3, b4⟩ := k T hT X
  exact ⟨t, a1, o, b1, b2, Or.inl ⟨b3, b4⟩⟩
/-- not caught here: it goes on to the caller -/
theorem vx_widen {g : JFrame} {q : Addr} {k n : Nat} (h1 : cells ≤ k) (h2 : slots ≤ n) (kk : vx_W p l e R s m args below meth c H locs k n Q g q) : vx_W p l e R s m args below meth c H locs cells slots Q g q := fun T hT X => kk T hT (stand_widen X h1 h2)
theorem vx_out {pc : Nat} {E : String} {ce : Cell} {q : Addr} {mc ms : Nat} (hout : ∀ x ∈ c.exceptionTable.toList, covers x pc = false) (hlocks : meth.locks = false) (hcell : H[q]? = some ce) (hv : ce.vm = .none) (hcl : s.vm.findClass E = some ce.cls)
    (hx : ∀ t : State, t.heap = H → s.vm.Alike t.vm → XC E s t) (hf : ∀ z ∈ locs, free z.base) (hc : cells ≤ mc) (hs : slots ≤ ms) :
    vx_W p l e R s m args below meth c H locs cells slots (vx_MQ below Qc XC args s mc ms free) (F0 m pc ls rest) q := by
  intro T hT X
  obtain ⟨st1, hrun, hend, hW, hsm⟩ := X.leaveThrown q (g := F0 m pc ls rest) rfl rfl rfl hout hlocks
  have hcell9 : (T.setFrames (.throwing q :: below)).heap[q]? = some ce := by
    show T.heap[q]? = some ce
    rw [hT]; exact hcell
  exact ⟨_, st1, .threw q, hrun, hend, Or.inr ⟨q, rfl, E, ce, locs, hx _ hT hW.alike, hcell9, hv, hcl, hW, hsm.mono hc hs, hf⟩⟩
theorem vx_frame {U : State} {k n : Nat} (h : s.sameButNew ({ U with vm := s.vm } : State) locs k n) : s.heap.size ≤ U.heap.size ∧ ∀ q : Nat, q < s.heap.size → (∀ z ∈ locs, z.base ≠ q) → U.heap[q]? = s.heap[q]? := by
  obtain ⟨-, h2, -, -, -, h6⟩ := h
  refine ⟨h2, fun q hq hz => ?_⟩
  obtain ⟨c9, e1, e2, e3, e4⟩ := h6 q _ (Array.getElem?_eq_getElem hq)
  have hs : c9.slots = (s.heap[q]).slots := Array.ext_getElem? fun i => e4 i fun hm => hz _ hm rfl
  have h9 : c9 = s.heap[q] := by
    rw [hs] at e2
    exact e2
  have e5 : U.heap[q]? = some c9 := e1
  rw [e5, h9, Array.getElem?_eq_getElem hq]
/-- the words of a throw but the four that speak of the heap -/
def vx_no (w : Cond) : Bool := decide (w ≠ .isRef (.static Bundle.tN "UNASSIGNED_STACK" Bundle.steD)) && decide (w ≠ .isRef (.static Bundle.tN "SUPPRESSED_SENTINEL" Bundle.listD)) && decide (w ≠ .laysStatic Bundle.tN "UNASSIGNED_STACK" Bundle.steD) && decide (w ≠ .laysStatic Bundle.tN "SUPPRESSED_SENTINEL" Bundle.listD)
def vx_at0 (own : String) (ic : Nat) (X : String) (names : List String) : List Cond := (Bundle.ownAtoms0 own ic X names).filter vx_no
def vx_atS (own : String) (ic : Nat) (X : String) (names : List String) : List Cond := (Bundle.ownAtoms own ic X names).filter vx_no
/-- a word that the tables alone decide, or a good one -/
def vx_ot (w : Cond) : Bool := w.onTables || goodWord w
theorem vx_ot_at {args a' : Array Value} {s U : State} {w : Cond} (hW : s.WarmedH U.vm) (hvm : s.vm = U.vm) (hg : vx_ot w = true) (h : w.before args s = true) : w.before a' U = true := by
  simp only [vx_ot, Bool.or_eq_true] at hg
  rcases hg with hg | hg
  · exact va_tabs hg hvm h
  · exact word_at hW (good_of_word hg) h
/-- a list's words: the good ones out of the method's own list, the others by premises of their own -/
theorem vx_hat {args : Array Value} {s : State} {L B : List Cond} (h1 : ∀ w ∈ L.filter goodWord, w.before args s = true) (h2 : ∀ w ∈ L.filter (fun w => !goodWord w), w ∈ B) (h3 : ∀ w ∈ B, w.before args s = true) : ∀ w ∈ L, w.before args s = true := by
  intro w hw
  by_cases g : goodWord w = true
  · exact h1 w (List.mem_filter.mpr ⟨hw, g⟩)
  · refine h3 w (h2 w (List.mem_filter.mpr ⟨hw, ?_⟩))
    show (!goodWord w) = true
    cases hgw : goodWord w
    · rfl
    · exact absurd hgw g
theorem vx_c {args : Array Value} {s : State} {w : Cond} {B : List Cond} (h : w.before args s = true) (t : ∀ w ∈ B, w.before args s = true) : ∀ w' ∈ w :: B, w'.before args s = true := fun w' h' => (List.mem_cons.mp h').elim (fun e => by rw [e]; exact h) (t w')
theorem vx_n {args : Array Value} {s : State} : ∀ w ∈ ([] : List Cond), w.before args s = true := fun _ h => nomatch h
theorem vx_own {args : Array Value} {s : State} {L : List Cond} (h1 : ∀ w ∈ L.filter vx_no, w.before args s = true)
    (hU : (Cond.isRef (.static Bundle.tN "UNASSIGNED_STACK" Bundle.steD)).before args s = true) (hN : (Cond.isRef (.static Bundle.tN "SUPPRESSED_SENTINEL" Bundle.listD)).before args s = true)
    (lU : (Cond.laysStatic Bundle.tN "UNASSIGNED_STACK" Bundle.steD).before args s = true) (lN : (Cond.laysStatic Bundle.tN "SUPPRESSED_SENTINEL" Bundle.listD).before args s = true) : ∀ w ∈ L, w.before args s = true := by
  intro w hw
  by_cases e1 : w = .isRef (.static Bundle.tN "UNASSIGNED_STACK" Bundle.steD)
  · rw [e1]; exact hU
  · by_cases e2 : w = .isRef (.static Bundle.tN "SUPPRESSED_SENTINEL" Bundle.listD)
    · rw [e2]; exact hN
    · by_cases e3 : w = .laysStatic Bundle.tN "UNASSIGNED_STACK" Bundle.steD
      · rw [e3]; exact lU
      · by_cases e4 : w = .laysStatic Bundle.tN "SUPPRESSED_SENTINEL" Bundle.listD
        · rw [e4]; exact lN
        · exact h1 w (List.mem_filter.mpr ⟨hw, by unfold vx_no; rw [decide_eq_true e1, decide_eq_true e2, decide_eq_true e3, decide_eq_true e4]; rfl⟩)
/-- where a static field lies, its class's statics cell in H -/
def vx_L (C n d : String) (A : Nat → Prop) (U : State) (H : Heap) : Prop := ∃ (c : ClassId) (k : Class) (i : Nat) (f : Field) (a : Nat) (cell : Cell), U.vm.findClass C = some c ∧ U.fieldFound? C n d = some (c, k, i, f) ∧ f.isStatic = true ∧ k.statics = some a ∧ H[a]? = some cell ∧ cell.vm.isStatics = true ∧ cell.cls = c ∧ f.slot < cell.slots.size ∧ k.staticTypes[f.slot]? = some f.type ∧ ¬ A a
theorem vx_L.moved {C n d : String} {A : Nat → Prop} {u U : State} {H : Heap} (hvm : u.vm.Alike U.vm) (h : vx_L C n d A u H) : vx_L C n d A U H := by
  obtain ⟨c, k, i, f, a, cell, h1, h2, h3, h4, h5, h6, h7, h8, h9, h10⟩ := h
  obtain ⟨k', hi', he⟩ := State.fieldFound?_setVm hvm h2
  exact ⟨c, k', i, f, a, cell, by rw [hvm.findClass]; exact h1, hi', h3, by rw [he]; exact h4, h5, h6, h7, h8, by rw [he]; exact h9, h10⟩
theorem vx_L.kept {C n d : String} {A : Nat → Prop} {U : State} {H H1 : Heap} (h : vx_L C n d A U H) (hq : ∀ a : Nat, a < H.size → ¬ A a → H1[a]? = H[a]?) : vx_L C n d A U H1 := by
  obtain ⟨c, k, i, f, a, cell, h1, h2, h3, h4, h5, h6, h7, h8, h9, h10⟩ := h
  exact ⟨c, k, i, f, a, cell, h1, h2, h3, h4, by rw [hq a (Array.getElem?_eq_some_iff.mp h5).1 h10]; exact h5, h6, h7, h8, h9, h10⟩
theorem vx_L.narrow {C n d : String} {A B : Nat → Prop} {U : State} {H : Heap} (h : vx_L C n d A U H) (hAB : ∀ q, B q → A q) : vx_L C n d B U H := by
  obtain ⟨c, k, i, f, a, cell, h1, h2, h3, h4, h5, h6, h7, h8, h9, h10⟩ := h
  exact ⟨c, k, i, f, a, cell, h1, h2, h3, h4, h5, h6, h7, h8, h9, fun z => h10 (hAB _ z)⟩
theorem vx_L.word {C n d : String} {A : Nat → Prop} {s : State} {args : Array Value} (h : vx_L C n d A s s.heap) : (Cond.laysStatic C n d).before args s = true := by
  obtain ⟨c, k, i, f, a, cell, h1, h2, h3, h4, h5, h6, h7, h8, h9, -⟩ := h
  show (Cond.laysStatic C n d).holds args s none s [] = true
  exact Cond.laysStatic_of h1 h2 h3 h4 h5 h6 h7 h8 h9
/-- .. and what it holds: null or some reference -/
def vx_Zq (C n d : String) (A : Nat → Prop) (U : State) (H : Heap) : Prop := va_Zq C n d A U H ∧ vx_L C n d A U H
theorem vx_Zq.moved {C n d : String} {A : Nat → Prop} {u U : State} {H : Heap} (hvm : u.vm.Alike U.vm) (h : vx_Zq C n d A u H) : vx_Zq C n d A U H := ⟨va_Zq.moved hvm h.1, vx_L.moved hvm h.2⟩
theorem vx_Zq.kept {C n d : String} {A : Nat → Prop} {U : State} {H H1 : Heap} (h : vx_Zq C n d A U H) (hq : ∀ a : Nat, a < H.size → ¬ A a → H1[a]? = H[a]?) : vx_Zq C n d A U H1 := ⟨va_Zq.kept h.1 hq, vx_L.kept h.2 hq⟩
theorem vx_Zq.narrow {C n d : String} {A B : Nat → Prop} {U : State} {H : Heap} (h : vx_Zq C n d A U H) (hAB : ∀ q, B q → A q) : vx_Zq C n d B U H := ⟨va_Zq.narrow h.1 hAB, vx_L.narrow h.2 hAB⟩
theorem vx_Zqof {args : Array Value} {s : State} {C n d : String} {A : Nat → Prop} (hl : (Cond.laysStatic C n d).before args s = true) (hini : (Cond.initialized C).before args s = true) (h : (Cond.isRef (.static C n d)).before args s = true) (hA : ∀ a : Nat, a < s.heap.size → ¬ A a) : vx_Zq C n d A s s.heap := by
  refine ⟨va_Zqof hl hini h hA, ?_⟩
  obtain ⟨c, k, i, f, a, cell, h1, h2, h3, h4, h5, h6, h7, h8, h9⟩ := Cond.laysStatic_spec hl
  exact ⟨c, k, i, f, a, cell, h1, h2, h3, h4, h5, h6, h7, h8, h9, hA a (Array.getElem?_eq_some_iff.mp h5).1⟩
theorem vx_isRef {C n d : String} {v : Value} {A : Nat → Prop} {s : State} {args : Array Value} (h : va_Z C n d v A s s.heap) (hv : v.isRef = true) : (Cond.isRef (.static C n d)).before args s = true := by
  obtain ⟨cf, kf, fi, f, a, cell, h1, h2, h3, h4, h5, h6, h7, -⟩ := h
  have he : (Term.static C n d).eval args s none [] s = some v := by
    simp [Term.eval, State.fieldNamed?, h1, h2, h4, h5, h6, h7]
  simp only [Cond.before, Cond.holds, Cond.value, he]
  cases v <;> simp_all [Value.isRef]
theorem vx_isRefq {C n d : String} {A : Nat → Prop} {s : State} {args : Array Value} (h : va_Zq C n d A s s.heap) : (Cond.isRef (.static C n d)).before args s = true := by
  rcases h with h | ⟨t, h⟩
  · exact vx_isRef h rfl
  · exact vx_isRef h rfl
/-- the same frame, seen from here: as if the method were called anew in this heap -/
theorem vx_rebase {T : State} (X : Stand p l e R s m args below meth c T locs cells slots) {R' : Room} (hf : R'.frames ≤ R.frames) (hl : R'.locals ≤ R.locals) (hc : cells + R'.cells ≤ R.cells) (hs : slots + R'.slots ≤ R.slots) :
    Stand p l e R' ((T.setVm s.vm).setFrames (.invoking m args :: below)) m args below meth c T [] 0 0 := by
  have htop : (T.setVm s.vm).topJava?.isSome := X.here.top
  have hF : ((T.setVm s.vm).setFrames (.invoking m args :: below)).frames = .invoking m args :: below := State.frames_setFrames _ (State.cur_lt_of_top htop)
  obtain ⟨g₀, hg0⟩ := Option.isSome_iff_exists.mp htop
  obtain ⟨r, hr⟩ := State.topJava?_eq_some.mp hg0
  have hl9 : e.platform.stackLimits (T.setVm s.vm).me = e.platform.stackLimits s.me := X.limits
  have hb9 : (T.setVm s.vm).me.stackBytes = s.me.stackBytes := X.bytes
  refine ⟨X.admits, X.cas, X.clock, hF, ?_, X.hears, X.method, X.code, X.here, X.tail, X.warmed, ?_, ?_, ?_⟩
  · have h := X.room
    have hU : ((T.setVm s.vm).setFrames (.invoking m args :: below)).localsInUse = s.localsInUse := by
      rw [State.localsInUse_invoking hF (meth := meth) (c := c) X.method X.code, State.localsInUse_invoking X.frames X.method X.code]
    simp only [State.hasRoom, Bool.and_eq_true, decide_eq_true_eq] at h ⊢
    obtain ⟨⟨⟨⟨h1, h2, h3, h4, h5, h6⟩, h7⟩, h8⟩, h9⟩ := h
    rw [X.frames, List.length_cons] at h2 h3
    have q1 := X.heapSize
    have q2 := X.used
    simp only [hF, hU, List.length_cons, State.stackLimits_setFrames, State.stackBytes_setFrames, hl9, hb9]
    refine ⟨⟨⟨⟨by omega, by omega, by omega, by omega, by omega, h6⟩, ?_⟩, ?_⟩, X.book⟩
    · show T.heap.size + R'.cells ≤ e.platform.maxCells
      omega
    · show T.slotsUsed + R'.slots ≤ e.platform.maxSlots
      omega
  · rw [State.stackLimits_setFrames]; rfl
  · rw [State.stackBytes_setFrames]; rfl
  · refine ⟨?_, Nat.le_refl _, Nat.le_refl _, ?_, ?_, fun a c9 h9 => ⟨c9, h9, rfl, rfl, fun _ _ => rfl⟩⟩
    · obtain ⟨t, ht, -⟩ := State.frames_cons hr
      show T.setVm s.vm = { ((T.setVm s.vm).setFrames (.invoking m args :: below)).setFrames (T.setVm s.vm).frames with heap := T.heap, slotsUsed := T.slotsUsed }
      rw [State.setFrames_setFrames, State.setFrames_self ht]
      rfl
    · show T.slotsUsed = T.slotsUsed + ((T.heap.toList.drop T.heap.size).map (·.slots.size)).sum
      rw [List.drop_eq_nil_of_le (Nat.le_of_eq Array.length_toList)]
      rfl
    · show ((T.heap.toList.drop T.heap.size).map (·.slots.size)).sum ≤ 0
      rw [List.drop_eq_nil_of_le (Nat.le_of_eq Array.length_toList)]
      exact Nat.le_refl _
/-- 'throw new E()': new; dup; invokespecial; athrow -/
theorem vx_throw0 {cc : ByteArray} {pc : Nat} (hexec : p.tables.exec = Jvm.exec) (hb : c.code = cc) (hl : l.stackTraces = false) {own cls : String} {names : List String} {ik ic mc ms : Nat} {A : Nat → Prop}
    (hown : s.vm.findClass own = some m.cls) (hcls : Bundle.fit cls = true) (hnames : ∀ n ∈ names, Bundle.fit n = true)
    (hk : (Cond.classLink own ik cls).before args s = true) (hini : (Cond.initialized cls).before args s = true) (hat : ∀ w ∈ vx_at0 own ic cls names, w.before args s = true)
    (hgood : ∀ w ∈ Cond.classLink own ik cls :: Cond.initialized cls :: vx_at0 own ic cls names, vx_ot w = true)
    (hU : vx_Zq Bundle.tN "UNASSIGNED_STACK" Bundle.steD A s s.heap) (hN : vx_Zq Bundle.tN "SUPPRESSED_SENTINEL" Bundle.listD A s s.heap) (hS : va_S A s.heap H locs) (hsize : ls.size = c.maxLocals)
    (d0 : decode cc pc = .ok (.new ik, 3)) (d3 : decode cc (pc + 3) = .ok (.dup, 1)) (d4 : decode cc (pc + 4) = .ok (.invokespecial ic, 3)) (d7 : decode cc (pc + 7) = .ok (.athrow, 1))
    (hout : ∀ x ∈ c.exceptionTable.toList, covers x (pc + 7) = false)
    (hRframes : names.length + 3 < R.frames) (hRlocals : (rest.map fun v => v.category).sum + (13 * (names.length + 1) + 42) ≤ R.locals) (hRcells : cells + 1 ≤ R.cells) (hRslots : slots + 6 ≤ R.slots) (hlocks : meth.locks = false)
    (hx : ∀ t : State, s.vm.Alike t.vm → H.size ≤ t.heap.size → (∀ q : Nat, q < H.size → t.heap[q]? = H[q]?) → XC cls s t)
    (hf : ∀ z ∈ locs, free z.base) (hc : cells + 1 ≤ mc) (hs : slots + 6 ≤ ms) :
    W p l e R s m args below meth c H locs cells slots (vx_MQ below Qc XC args s mc ms free) (F0 m pc ls rest) := by
  intro T hT X
  have htr : e.platform.stackTraces = false := (show e.platform.stackTraces = l.stackTraces by rw [X.admits.platform]).trans hl
  have Y := vx_rebase X (R' := { frames := R.frames, locals := R.locals, cells := 1, slots := 6 }) (Nat.le_refl _) (Nat.le_refl _) hRcells hRslots
  obtain ⟨s', hA⟩ : ∃ z, z = (T.setVm s.vm).setFrames (.invoking m args :: below) := ⟨_, rfl⟩
  rw [← hA] at Y
  have hvm : s'.vm = s.vm := by rw [hA]; rfl
  have hhp : s'.heap = H := by rw [hA]; exact hT
  have hW0 : s.WarmedH s'.vm := by rw [hvm]; exact State.WarmedH.refl s
  have hat' : ∀ w ∈ vx_at0 own ic cls names, w.before args s' = true := fun w hw => vx_ot_at hW0 hvm.symm (hgood w (List.mem_cons_of_mem _ (List.mem_cons_of_mem _ hw))) (hat w hw)
  have hk' : (Cond.classLink own ik cls).before args s' = true := vx_ot_at hW0 hvm.symm (hgood _ List.mem_cons_self) hk
  have hini' : (Cond.initialized cls).before args s' = true := vx_ot_at hW0 hvm.symm (hgood _ (List.mem_cons_of_mem _ List.mem_cons_self)) hini
  have hU' : vx_Zq Bundle.tN "UNASSIGNED_STACK" Bundle.steD A s' s'.heap := by rw [hhp]; exact vx_Zq.moved hW0.alike (hU.kept hS.2.1)
  have hN' : vx_Zq Bundle.tN "SUPPRESSED_SENTINEL" Bundle.listD A s' s'.heap := by rw [hhp]; exact vx_Zq.moved hW0.alike (hN.kept hS.2.1)
  have h : ∀ w ∈ Bundle.ownAtoms0 own ic cls names, w.before args s' = true := vx_own hat' (vx_isRefq hU'.1) (vx_isRefq hN'.1) hU'.2.word hN'.2.word
  have hown' : s'.vm.findClass own = some m.cls := by rw [hvm]; exact hown
  have hins : (Cond.instantiable cls 6).before args s' = true := h _ (by simp [Bundle.ownAtoms0])
  obtain ⟨vm₁, cX, kX, hfX, hkX, -, -, X₁, st1⟩ := Y.newCold hexec (own := own) (C := cls) (index := ik) (n := 6) hown' hk' hins hini'
    (g := F0 m pc ls rest) rfl (by rw [hb]; exact d0) (Nat.le_refl _) (Nat.le_refl _)
  generalize hT1 : (T.setVm vm₁).pushCell { cls := cX, slots := kX.instanceTypes.map defaultValue, vm := .none } = T1 at X₁ st1
  have hcat : (Value.ref T.heap.size).category = 1 := rfl
  have hcellA : T1.heap[T.heap.size]? = some (freshCell cX kX) := by rw [← hT1]; exact State.heap_pushCell_size _ _
  have d3' : decode c.code (pc + 3) = .ok (.dup, 1) := by rw [hb]; exact d3
  obtain ⟨U, hsteps, hrun, hend, hW, hsame, ce, hce, hO⟩ := X₁.ctorThrow0 hexec htr (own := own) (cls := cls) (names := names) (ic := ic) hown' hcls hnames h (fun x hx => nomatch hx) hfX hkX hcellA (by rw [hhp, hT]; exact Nat.le_refl _)
    (g := { method := m, pc := pc + 4, locals := ls, stack := .ref T.heap.size :: .ref T.heap.size :: rest, locked := none }) rfl hsize rfl rfl (rest := rest) rfl
    (by rw [hb]; exact d4) (by rw [hb]; exact d7) hout hRframes (by simp only [List.map_cons, List.sum_cons, hcat]; omega) hlocks
  obtain ⟨f1, f2⟩ := vx_frame hsame
  rw [hhp] at f1 f2
  have hWs : s.WarmedH U.vm := State.WarmedH.trans hW0 hW
  have hcl : s.vm.findClass cls = some ce.cls := by
    have h9 := hO.cls
    rw [hvm] at h9
    exact h9
  have hall : s.sameButNew ({ U with vm := s.vm } : State) locs mc ms := by
    subst hA
    obtain ⟨e1, e2⟩ := hsame
    rw [State.setFrames_setFrames] at e1
    have h2 : (T.setVm s.vm).sameButNew ({ U with vm := s.vm } : State) [] (0 + 1) (0 + 6) := ⟨e1, e2⟩
    have h3 := X.same.trans h2
    rw [List.append_nil] at h3
    exact h3.mono hc hs
  refine ⟨U, ?_, .threw T.heap.size, hrun, hend, Or.inr ⟨T.heap.size, rfl, cls, ce, locs, hx U hWs.alike f1 (fun q hq => f2 q hq (fun z hz => nomatch hz)), hce, hO.vm, hcl, hWs, hall, hf⟩⟩
  refine st1 _ ?_
  show Steps p.tables e below (T1.setTop { method := m, pc := pc + 3, locals := ls, stack := .ref T.heap.size :: rest, locked := none }) _
  jvm_step X₁.here [X₁.here.top, hexec, d3', Value.category]
  exact hsteps
/-- 'throw new E("text")': new; dup; ldc; invokespecial; athrow -/
theorem vx_throwS {cc : ByteArray} {pc : Nat} (hexec : p.tables.exec = Jvm.exec) (hb : c.code = cc) (hl : l.stackTraces = false) {own cls text : String} {names : List String} {ik is ic mc ms sa : Nat} {A : Nat → Prop}
    (hown : s.vm.findClass own = some m.cls) (hcls : Bundle.fit cls = true) (hnames : ∀ n ∈ names, Bundle.fit n = true)
    (hk : (Cond.classLink own ik cls).before args s = true) (hini : (Cond.initialized cls).before args s = true) (hstr : vk_R own is text sa s) (hat : ∀ w ∈ vx_atS own ic cls names, w.before args s = true)
    (hgood : ∀ w ∈ Cond.classLink own ik cls :: Cond.initialized cls :: vx_atS own ic cls names, vx_ot w = true)
    (hU : vx_Zq Bundle.tN "UNASSIGNED_STACK" Bundle.steD A s s.heap) (hN : vx_Zq Bundle.tN "SUPPRESSED_SENTINEL" Bundle.listD A s s.heap) (hS : va_S A s.heap H locs) (hsize : ls.size = c.maxLocals)
    (d0 : decode cc pc = .ok (.new ik, 3)) (d3 : decode cc (pc + 3) = .ok (.dup, 1)) (d4 : decode cc (pc + 4) = .ok (.ldc is, 2)) (d6 : decode cc (pc + 6) = .ok (.invokespecial ic, 3)) (d9 : decode cc (pc + 9) = .ok (.athrow, 1))
    (hout : ∀ x ∈ c.exceptionTable.toList, covers x (pc + 9) = false)
    (hRframes : names.length + 3 < R.frames) (hRlocals : (rest.map fun v => v.category).sum + (13 * (names.length + 1) + 43) ≤ R.locals) (hRcells : cells + 1 ≤ R.cells) (hRslots : slots + 6 ≤ R.slots) (hlocks : meth.locks = false)
    (hx : ∀ t : State, s.vm.Alike t.vm → H.size ≤ t.heap.size → (∀ q : Nat, q < H.size → t.heap[q]? = H[q]?) → XC cls s t)
    (hf : ∀ z ∈ locs, free z.base) (hc : cells + 1 ≤ mc) (hs : slots + 6 ≤ ms) :
    W p l e R s m args below meth c H locs cells slots (vx_MQ below Qc XC args s mc ms free) (F0 m pc ls rest) := by
  intro T hT X
  have htr : e.platform.stackTraces = false := (show e.platform.stackTraces = l.stackTraces by rw [X.admits.platform]).trans hl
  have Y := vx_rebase X (R' := { frames := R.frames, locals := R.locals, cells := 1, slots := 6 }) (Nat.le_refl _) (Nat.le_refl _) hRcells hRslots
  obtain ⟨s', hA⟩ : ∃ z, z = (T.setVm s.vm).setFrames (.invoking m args :: below) := ⟨_, rfl⟩
  rw [← hA] at Y
  have hvm : s'.vm = s.vm := by rw [hA]; rfl
  have hhp : s'.heap = H := by rw [hA]; exact hT
  have hW0 : s.WarmedH s'.vm := by rw [hvm]; exact State.WarmedH.refl s
  have hat' : ∀ w ∈ vx_atS own ic cls names, w.before args s' = true := fun w hw => vx_ot_at hW0 hvm.symm (hgood w (List.mem_cons_of_mem _ (List.mem_cons_of_mem _ hw))) (hat w hw)
  have hk' : (Cond.classLink own ik cls).before args s' = true := vx_ot_at hW0 hvm.symm (hgood _ List.mem_cons_self) hk
  have hini' : (Cond.initialized cls).before args s' = true := vx_ot_at hW0 hvm.symm (hgood _ (List.mem_cons_of_mem _ List.mem_cons_self)) hini
  have hU' : vx_Zq Bundle.tN "UNASSIGNED_STACK" Bundle.steD A s' s'.heap := by rw [hhp]; exact vx_Zq.moved hW0.alike (hU.kept hS.2.1)
  have hN' : vx_Zq Bundle.tN "SUPPRESSED_SENTINEL" Bundle.listD A s' s'.heap := by rw [hhp]; exact vx_Zq.moved hW0.alike (hN.kept hS.2.1)
  have h : ∀ w ∈ Bundle.ownAtoms own ic cls names, w.before args s' = true := vx_own hat' (vx_isRefq hU'.1) (vx_isRefq hN'.1) hU'.2.word hN'.2.word
  have hown' : s'.vm.findClass own = some m.cls := by rw [hvm]; exact hown
  have hins : (Cond.instantiable cls 6).before args s' = true := h _ (by simp [Bundle.ownAtoms])
  obtain ⟨vm₁, cX, kX, hfX, hkX, -, -, X₁, st1⟩ := Y.newCold hexec (own := own) (C := cls) (index := ik) (n := 6) hown' hk' hins hini'
    (g := F0 m pc ls rest) rfl (by rw [hb]; exact d0) (Nat.le_refl _) (Nat.le_refl _)
  generalize hT1 : (T.setVm vm₁).pushCell { cls := cX, slots := kX.instanceTypes.map defaultValue, vm := .none } = T1 at X₁ st1
  have hcat : (Value.ref T.heap.size).category = 1 := rfl
  have hcellA : T1.heap[T.heap.size]? = some (freshCell cX kX) := by rw [← hT1]; exact State.heap_pushCell_size _ _
  have d3' : decode c.code (pc + 3) = .ok (.dup, 1) := by rw [hb]; exact d3
  have d4' : decode c.code (pc + 4) = .ok (.ldc is, 2) := by rw [hb]; exact d4
  have hstr' : vk_R own is text sa s' := vk_R.warm hW0 hstr
  obtain ⟨U, hsteps, hrun, hend, hW, hsame, ce, hce, hO⟩ := X₁.ctorThrowS hexec htr (own := own) (cls := cls) (names := names) (ic := ic) hown' hcls hnames h (fun x hx => nomatch hx) hfX hkX hcellA (by rw [hhp, hT]; exact Nat.le_refl _) (msg := .ref sa) rfl
    (g := { method := m, pc := pc + 6, locals := ls, stack := .ref sa :: .ref T.heap.size :: .ref T.heap.size :: rest, locked := none }) rfl hsize rfl rfl (rest := rest) rfl
    (by rw [hb]; exact d6) (by rw [hb]; exact d9) hout hRframes (by simp only [List.map_cons, List.sum_cons, hcat]; omega) hlocks
  obtain ⟨f1, f2⟩ := vx_frame hsame
  rw [hhp] at f1 f2
  have hWs : s.WarmedH U.vm := State.WarmedH.trans hW0 hW
  have hcl : s.vm.findClass cls = some ce.cls := by
    have h9 := hO.cls
    rw [hvm] at h9
    exact h9
  have hall : s.sameButNew ({ U with vm := s.vm } : State) locs mc ms := by
    subst hA
    obtain ⟨e1, e2⟩ := hsame
    rw [State.setFrames_setFrames] at e1
    have h2 : (T.setVm s.vm).sameButNew ({ U with vm := s.vm } : State) [] (0 + 1) (0 + 6) := ⟨e1, e2⟩
    have h3 := X.same.trans h2
    rw [List.append_nil] at h3
    exact h3.mono hc hs
  refine ⟨U, ?_, .threw T.heap.size, hrun, hend, Or.inr ⟨T.heap.size, rfl, cls, ce, locs, hx U hWs.alike f1 (fun q hq => f2 q hq (fun z hz => nomatch hz)), hce, hO.vm, hcl, hWs, hall, hf⟩⟩
  refine st1 _ ?_
  show Steps p.tables e below (T1.setTop { method := m, pc := pc + 3, locals := ls, stack := .ref T.heap.size :: rest, locked := none }) _
  jvm_step X₁.here [X₁.here.top, hexec, d3', Value.category]
  exact X₁.ldcString hexec (own := own) (text := text) (index := is) (a := sa) hown' hstr'.1 hstr'.2
    (g := { method := m, pc := pc + 4, locals := ls, stack := .ref T.heap.size :: .ref T.heap.size :: rest, locked := none }) rfl d4' _ hsteps
/-- 'throw new E("text")', the text by a wide index -/
theorem vx_throwSW {cc : ByteArray} {pc : Nat} (hexec : p.tables.exec = Jvm.exec) (hb : c.code = cc) (hl : l.stackTraces = false) {own cls text : String} {names : List String} {ik is ic mc ms sa : Nat} {A : Nat → Prop}
    (hown : s.vm.findClass own = some m.cls) (hcls : Bundle.fit cls = true) (hnames : ∀ n ∈ names, Bundle.fit n = true)
    (hk : (Cond.classLink own ik cls).before args s = true) (hini : (Cond.initialized cls).before args s = true) (hstr : vk_R own is text sa s) (hat : ∀ w ∈ vx_atS own ic cls names, w.before args s = true)
    (hgood : ∀ w ∈ Cond.classLink own ik cls :: Cond.initialized cls :: vx_atS own ic cls names, vx_ot w = true)
    (hU : vx_Zq Bundle.tN "UNASSIGNED_STACK" Bundle.steD A s s.heap) (hN : vx_Zq Bundle.tN "SUPPRESSED_SENTINEL" Bundle.listD A s s.heap) (hS : va_S A s.heap H locs) (hsize : ls.size = c.maxLocals)
    (d0 : decode cc pc = .ok (.new ik, 3)) (d3 : decode cc (pc + 3) = .ok (.dup, 1)) (d4 : decode cc (pc + 4) = .ok (.ldc_w is, 3)) (d7 : decode cc (pc + 7) = .ok (.invokespecial ic, 3)) (d10 : decode cc (pc + 10) = .ok (.athrow, 1))
    (hout : ∀ x ∈ c.exceptionTable.toList, covers x (pc + 10) = false)
    (hRframes : names.length + 3 < R.frames) (hRlocals : (rest.map fun v => v.category).sum + (13 * (names.length + 1) + 43) ≤ R.locals) (hRcells : cells + 1 ≤ R.cells) (hRslots : slots + 6 ≤ R.slots) (hlocks : meth.locks = false)
    (hx : ∀ t : State, s.vm.Alike t.vm → H.size ≤ t.heap.size → (∀ q : Nat, q < H.size → t.heap[q]? = H[q]?) → XC cls s t)
    (hf : ∀ z ∈ locs, free z.base) (hc : cells + 1 ≤ mc) (hs : slots + 6 ≤ ms) :
    W p l e R s m args below meth c H locs cells slots (vx_MQ below Qc XC args s mc ms free) (F0 m pc ls rest) := by
  intro T hT X
  have htr : e.platform.stackTraces = false := (show e.platform.stackTraces = l.stackTraces by rw [X.admits.platform]).trans hl
  have Y := vx_rebase X (R' := { frames := R.frames, locals := R.locals, cells := 1, slots := 6 }) (Nat.le_refl _) (Nat.le_refl _) hRcells hRslots
  obtain ⟨s', hA⟩ : ∃ z, z = (T.setVm s.vm).setFrames (.invoking m args :: below) := ⟨_, rfl⟩
  rw [← hA] at Y
  have hvm : s'.vm = s.vm := by rw [hA]; rfl
  have hhp : s'.heap = H := by rw [hA]; exact hT
  have hW0 : s.WarmedH s'.vm := by rw [hvm]; exact State.WarmedH.refl s
  have hat' : ∀ w ∈ vx_atS own ic cls names, w.before args s' = true := fun w hw => vx_ot_at hW0 hvm.symm (hgood w (List.mem_cons_of_mem _ (List.mem_cons_of_mem _ hw))) (hat w hw)
  have hk' : (Cond.classLink own ik cls).before args s' = true := vx_ot_at hW0 hvm.symm (hgood _ List.mem_cons_self) hk
  have hini' : (Cond.initialized cls).before args s' = true := vx_ot_at hW0 hvm.symm (hgood _ (List.mem_cons_of_mem _ List.mem_cons_self)) hini
  have hU' : vx_Zq Bundle.tN "UNASSIGNED_STACK" Bundle.steD A s' s'.heap := by rw [hhp]; exact vx_Zq.moved hW0.alike (hU.kept hS.2.1)
  have hN' : vx_Zq Bundle.tN "SUPPRESSED_SENTINEL" Bundle.listD A s' s'.heap := by rw [hhp]; exact vx_Zq.moved hW0.alike (hN.kept hS.2.1)
  have h : ∀ w ∈ Bundle.ownAtoms own ic cls names, w.before args s' = true := vx_own hat' (vx_isRefq hU'.1) (vx_isRefq hN'.1) hU'.2.word hN'.2.word
  have hown' : s'.vm.findClass own = some m.cls := by rw [hvm]; exact hown
  have hins : (Cond.instantiable cls 6).before args s' = true := h _ (by simp [Bundle.ownAtoms])
  obtain ⟨vm₁, cX, kX, hfX, hkX, -, -, X₁, st1⟩ := Y.newCold hexec (own := own) (C := cls) (index := ik) (n := 6) hown' hk' hins hini'
    (g := F0 m pc ls rest) rfl (by rw [hb]; exact d0) (Nat.le_refl _) (Nat.le_refl _)
  generalize hT1 : (T.setVm vm₁).pushCell { cls := cX, slots := kX.instanceTypes.map defaultValue, vm := .none } = T1 at X₁ st1
  have hcat : (Value.ref T.heap.size).category = 1 := rfl
  have hcellA : T1.heap[T.heap.size]? = some (freshCell cX kX) := by rw [← hT1]; exact State.heap_pushCell_size _ _
  have d3' : decode c.code (pc + 3) = .ok (.dup, 1) := by rw [hb]; exact d3
  have d4' : decode c.code (pc + 4) = .ok (.ldc_w is, 3) := by rw [hb]; exact d4
  have hstr' : vk_R own is text sa s' := vk_R.warm hW0 hstr
  obtain ⟨U, hsteps, hrun, hend, hW, hsame, ce, hce, hO⟩ := X₁.ctorThrowS hexec htr (own := own) (cls := cls) (names := names) (ic := ic) hown' hcls hnames h (fun x hx => nomatch hx) hfX hkX hcellA (by rw [hhp, hT]; exact Nat.le_refl _) (msg := .ref sa) rfl
    (g := { method := m, pc := pc + 7, locals := ls, stack := .ref sa :: .ref T.heap.size :: .ref T.heap.size :: rest, locked := none }) rfl hsize rfl rfl (rest := rest) rfl
    (by rw [hb]; exact d7) (by rw [hb]; exact d10) hout hRframes (by simp only [List.map_cons, List.sum_cons, hcat]; omega) hlocks
  obtain ⟨f1, f2⟩ := vx_frame hsame
  rw [hhp] at f1 f2
  have hWs : s.WarmedH U.vm := State.WarmedH.trans hW0 hW
  have hcl : s.vm.findClass cls = some ce.cls := by
    have h9 := hO.cls
    rw [hvm] at h9
    exact h9
  have hall : s.sameButNew ({ U with vm := s.vm } : State) locs mc ms := by
    subst hA
    obtain ⟨e1, e2⟩ := hsame
    rw [State.setFrames_setFrames] at e1
    have h2 : (T.setVm s.vm).sameButNew ({ U with vm := s.vm } : State) [] (0 + 1) (0 + 6) := ⟨e1, e2⟩
    have h3 := X.same.trans h2
    rw [List.append_nil] at h3
    exact h3.mono hc hs
  refine ⟨U, ?_, .threw T.heap.size, hrun, hend, Or.inr ⟨T.heap.size, rfl, cls, ce, locs, hx U hWs.alike f1 (fun q hq => f2 q hq (fun z hz => nomatch hz)), hce, hO.vm, hcl, hWs, hall, hf⟩⟩
  refine st1 _ ?_
  show Steps p.tables e below (T1.setTop { method := m, pc := pc + 3, locals := ls, stack := .ref T.heap.size :: rest, locked := none }) _
  jvm_step X₁.here [X₁.here.top, hexec, d3', Value.category]
  exact X₁.ldcStringW hexec (own := own) (text := text) (index := is) (a := sa) hown' hstr'.1 hstr'.2
    (g := { method := m, pc := pc + 4, locals := ls, stack := .ref T.heap.size :: .ref T.heap.size :: rest, locked := none }) rfl d4' _ hsteps
end Ends
section Bodies
variable {l : Launch}
theorem vx_ofW {y : MethodName} {ws ws' : List Cond} {rm : Room} {Pc : Array Value → State → Prop} {Qc : Array Value → State → Outcome → State → Prop} {XC : String → State → State → Prop} {mc ms : Nat} {free : Addr → Prop} {cc : ByteArray} {maxL : Nat} {ret : Option FieldType}
    (hy : plainName y.cls = true) (hw : ws = Cond.code y cc maxL ret :: ws')
    (body : ∀ p e s m args below meth c s₁, BodyLoose p l y (headSpec ws rm) cc maxL ret e s m args below meth c s₁ → c.maxLocals = maxL → (∀ x ∈ c.exceptionTable.toList, False) → Pc args s →
      W p l e (headSpec ws rm).room s m args below meth c s.heap [] 0 0 (vx_MQ below Qc XC args s mc ms free) (entryFrame m args maxL)) : vx_Met l y ws rm Pc Qc XC mc ms free := by
  refine MetFree.of_bodyS (code := cc) (maxLocals := maxL) (ret := ret) hy ?_ ?_
  · intro args s m h hn
    obtain ⟨meth, c, h1, h2, h3, h4, h5, h6, -, -⟩ := Cond.code_spec hn (atoms_spec (ws := ws) h _ (by rw [hw]; exact List.mem_cons_self))
    exact ⟨meth, c, h1, h2, h3, h4, h5, h6⟩
  · intro p e s m args below meth c s₁ B hml hP _
    have hh0 : s₁.heap = s.heap := by rw [B.state]; rfl
    have ht : ∀ x ∈ c.exceptionTable.toList, False := by
      obtain ⟨meth9, c9, h1, h2, -, -, -, -, h7, -⟩ := Cond.code_spec B.named (atoms_spec (ws := ws) B.pre _ (by rw [hw]; exact List.mem_cons_self))
      cases Option.some.inj (h1.symm.trans B.method)
      cases Option.some.inj (h2.symm.trans (Stand.of_body B).code)
      intro x hx
      rw [Array.isEmpty_iff.mp h7] at hx
      cases hx
    obtain ⟨t, a1, o, b1, b2, b3⟩ := body p e s m args below meth c s₁ B hml ht hP s₁ hh0 (Stand.of_body B)
    exact ⟨t, o, a1, b1, b2, b3⟩
/-- the table of a body with handlers -/
theorem vx_table {p : Program} {x y : MethodName} {S : Spec} {cc bytes : ByteArray} {maxL maxL' : Nat} {ret ret' : Option FieldType} {e : Env} {s s₁ : State} {m : MethodId} {args : Array Value} {below : List Frame} {meth : Method} {c : Code} {hh : List (Nat × Nat × Nat × Nat)}
    (B : BodyLoose p l y S cc maxL ret e s m args below meth c s₁) (h : (Cond.codeWith y bytes maxL' ret' hh).before args s = true) : c.exceptionTable.toList = tableOf hh := by
  obtain ⟨m9, meth9, c9, hn9, h1, h2, -, -, h6, -⟩ := Cond.codeWith_spec h
  cases Option.some.inj (hn9.symm.trans B.named)
  cases Option.some.inj (h1.symm.trans B.method)
  cases Option.some.inj (h2.symm.trans (Stand.of_body B).code)
  rw [← h6, table_eq]
end Bodies
end VXA
/-! ===== END ===== -/
/-! ===== BEGIN a static call of a method with an exception table ===== -/
section VXS
variable {p : Program} {l : Launch} {e : Env} {R : Room} {s : State} {m : MethodId} {args : Array Value} {below : List Frame} {meth : Method} {c : Code} {T : State} {H : Heap} {locs : List Loc} {cells slots : Nat}
abbrev vx_CSW (R : Room) (s : State) (args : Array Value) (own : String) (index : Nat) (y : MethodName) (bytes : ByteArray) (maxL : Nat) (ret : Option FieldType) (hh : List (Nat × Nat × Nat × Nat)) (ws : List Cond) (rm : Room) (mc ms n : Nat) : Prop :=
  (rm.cells = mc ∧ rm.slots = ms ∧ rm.frames + 1 ≤ R.frames ∧ 8 + (maxL + 11) + rm.locals ≤ R.locals ∧ (∀ w ∈ ws, ∀ (a' : Array Value) (U : State), s.WarmedH U.vm → w.before a' U = true) ∧ Cond.codeWith y bytes maxL ret hh ∈ ws) ∧
  (Cond.codeWith y bytes maxL ret hh).before args s = true ∧ (Cond.initialized y.cls).before args s = true ∧ (y.cls ≠ "java/lang/invoke/MethodHandle" ∧ y.cls ≠ "java/lang/invoke/VarHandle") ∧
  (∀ sig, parseMethodDescriptor y.desc = some sig → n = sig.parameters.length) ∧ (Cond.methodLink own index y).before args s = true ∧ (Cond.static y).before args s = true
theorem vx_cwSW {own : String} {index maxL mc ms : Nat} {y : MethodName} {bytes : ByteArray} {ret : Option FieldType} {hh : List (Nat × Nat × Nat × Nat)} {Ts ws ws' : List Cond} {rm : Room} (n : Nat) (ht : ∀ w ∈ Ts, w.before args s = true) (hT : GoodIn Ts (va_wsS own index y ws)) (hw : ws = Cond.codeWith y bytes maxL ret hh :: ws') (hrc : rm.cells = mc) (hrs : rm.slots = ms)
    (hd : y.cls ≠ "java/lang/invoke/MethodHandle" ∧ y.cls ≠ "java/lang/invoke/VarHandle" ∧ (parseMethodDescriptor y.desc).map (fun d => d.parameters.length) = some n) (hR : rm.frames + 1 ≤ R.frames ∧ 8 + (maxL + 11) + rm.locals ≤ R.locals) :
    vx_CSW R s args own index y bytes maxL ret hh ws rm mc ms n := by
  have ok : ∀ w ∈ va_wsS own index y ws, w.before args s = true := fun w h => ht w (hT w h).1
  have hG : GoodIn Ts ws := fun w h => hT w (by unfold va_wsS; exact List.mem_append_right _ h)
  have hc : Cond.codeWith y bytes maxL ret hh ∈ ws := by rw [hw]; exact List.mem_cons_self
  refine ⟨⟨hrc, hrs, hR.1, hR.2, pay_in ht hG, hc⟩, ht _ (hG _ hc).1, ok _ (by simp [va_wsS]), ⟨hd.1, hd.2.1⟩, fun sig h => ?_, ok _ (by simp [va_wsS]), ok _ (by simp [va_wsS])⟩
  have h2 := hd.2.2
  rw [h] at h2
  exact (Option.some.inj h2).symm
theorem vx_callSW (X : Stand p l e R s m args below meth c T locs cells slots) (hexec : p.tables.exec = Jvm.exec) {own : String} {index : Nat} {y : MethodName} {bytes : ByteArray} {maxL : Nat} {ret : Option FieldType} {hh : List (Nat × Nat × Nat × Nat)}
    (hown : s.vm.findClass own = some m.cls) (hlink : (Cond.methodLink own index y).before args s = true) (hstat : (Cond.static y).before args s = true) (hinit : (Cond.initialized y.cls).before args s = true)
    (hcode : (Cond.codeWith y bytes maxL ret hh).before args s = true) (hy : y.cls ≠ "java/lang/invoke/MethodHandle" ∧ y.cls ≠ "java/lang/invoke/VarHandle")
    {W9 : Nat} {Pre : Pt → Array Value → Prop} {Post : Pt → Array Value → Option Value → Pt → Prop} (hK : Back l R p e below s args y 3 W9 Pre Post)
    {g : JFrame} (hg : g.method = m) (hsize : g.locals.size = c.maxLocals) {argsL rest : List Value} (hlen : ∀ sig, parseMethodDescriptor y.desc = some sig → argsL.length = sig.parameters.length)
    (hstack : g.stack = argsL.reverse ++ rest) (hW : 2 * g.monitorRoom + (rest.map fun v => v.category).sum ≤ W9) (hdg : decode c.code g.pc = .ok (.invokestatic index, 3))
    (hpre : ∀ vm₁, s.WarmedH vm₁ → Pre ⟨T.setVm vm₁, locs, cells, slots⟩ argsL.toArray) :
    ∃ (v : Option Value) (vm₁ : Vm) (B : Pt), s.WarmedH vm₁ ∧ Stand p l e R s m args below meth c B.U B.locs B.cells B.slots ∧ Post ⟨T.setVm vm₁, locs, cells, slots⟩ argsL.toArray v B ∧
      ∀ target, Steps p.tables e below (B.U.setTop { g with pc := g.pc + 3, stack := v.toList ++ rest }) target → Steps p.tables e below (T.setTop g) target := by
  obtain ⟨mk, methM, cM, hnamed, hmethM, -, -, -, -, -, -, hsigM⟩ := Cond.codeWith_spec hcode
  have hstatic : methM.isStatic = true := Cond.static_spec hnamed hmethM hstat
  obtain ⟨kP, hkP, -⟩ := className_of_methodNamed hnamed
  have hinitP : kP.init = .initialized := Cond.initialized_spec (findClass_of_methodNamed hnamed) hkP hinit
  obtain ⟨vm₁, X₁, hstep₁⟩ := X.invokestatic hexec hown hlink hnamed hmethM hstatic hkP hinitP hy (g := g) hg (argsL := argsL) (rest := rest) (hlen _ hsigM) hstack hdg
  obtain ⟨v, B, X', hpost, hsteps⟩ := hK m meth c ⟨T.setVm vm₁, locs, cells, slots⟩ { g with stack := rest } (.invokestatic index) mk argsL.toArray X₁ hg hsize hdg hW (X₁.named hnamed) (hpre vm₁ X₁.warmed)
  exact ⟨v, vm₁, B, X₁.warmed, X', hpost, fun target h => hstep₁ _ fun acts => by rw [doInvoke_state]; exact hsteps.trans h⟩
theorem vx_runSW {y : MethodName} {bytes cc : ByteArray} {maxL nL mc ms n index : Nat} {ret : Option FieldType} {hh : List (Nat × Nat × Nat × Nat)} {ws : List Cond} {rm : Room} {Pc : Array Value → State → Prop} {Qc : Array Value → State → Outcome → State → Prop} {free : Addr → Prop} {Ts : List Cond} {own : String} {As rest : List Value} {g : JFrame}
    (S : CallFix p m c cc nL s args Ts own) (hM : Met l y ws rm Pc Qc mc ms free) (cw : vx_CSW R s args own index y bytes maxL ret hh ws rm mc ms n) (hp : PreS s H Pc As)
    (hg : g.method = m) (hn : As.length = n) (hsize : g.locals.size = nL) (hstack : g.stack = As.reverse ++ rest) (hW : 2 * g.monitorRoom + (rest.map fun v => v.category).sum ≤ 8) (hdg : decode cc g.pc = .ok (.invokestatic index, 3)) (hf : cells + mc ≤ R.cells ∧ slots + ms ≤ R.slots) :
    va_Run p l e R s m args below meth c H locs cells slots mc ms g rest (Qc As.toArray) (free) := by
  obtain ⟨⟨hrc, hrs, hfr, hlo, hws, hcw⟩, hcode, hini, hy, hlen, hl, hstt⟩ := cw
  have hK : Back l R p e below s args y 3 8 (PreOf R mc ms Pc) (PostOf Qc mc ms free) := va_backW (hh := hh) (bytes := bytes) (maxL := maxL) (ret := ret) hM hp.1 hrc hrs hfr hlo hws hcw (fun a' U hW => word_at hW (Or.inl (by first | rfl | simp [Cond.onTables, Cond.keeps, Cond.steady])) hini)
  obtain ⟨hx, hb, hml, ho, -⟩ := S
  intro T hT X
  obtain ⟨v, vm₁, ⟨U', l2, c2, s2⟩, hW₁, X', ⟨g', mk, t, L, e1, e2, hq, h1, hL, h2, h3⟩, st⟩ := vx_callSW X hx (hh := hh) (bytes := bytes) (maxL := maxL) (ret := ret) ho hl hstt hini hcode hy hK hg (hsize.trans hml.symm) (argsL := As) (rest := rest) (fun sig h => hn.trans (hlen sig h)) hstack hW (by rw [hb]; exact hdg)
    (fun vm₁ hW₁ => ⟨hf.1, hf.2, hp.2 (T.setVm vm₁) hT hW₁⟩)
  dsimp only [Pt.U, Pt.locs, Pt.cells, Pt.slots] at X' e1 e2 h1 h2 h3 st
  subst h1; subst h2; subst h3
  exact ⟨v, (T.setVm vm₁).calling g' mk As.toArray, t, U', L, hT, X', hL, e1, e2, hq, st⟩
/-- not caught here, past rows that name other classes: it goes on to the caller -/
theorem vx_outP {p : Program} {l : Launch} {e : Env} {R : Room} {s : State} {m : MethodId} {args : Array Value} {below : List Frame} {meth : Method} {c : Code} {H : Heap} {locs : List Loc} {cells slots : Nat} {free : Addr → Prop} {ls : Array Slot} {rest : List Value} {Qc : Array Value → State → Outcome → State → Prop} {XC : String → State → State → Prop}
    {pc : Nat} {own E : String} {ce : Cell} {q : Addr} {mc ms : Nat} (hown : s.vm.findClass own = some m.cls) (hlocks : meth.locks = false)
    (hpass : ∀ z ∈ c.exceptionTable.toList, covers z pc = false ∨ (z.catchType ≠ 0 ∧ ∃ nm : String, (Cond.classLink own z.catchType nm).before args s = true ∧ va_Nc E nm s)) (hcell : H[q]? = some ce) (hv : ce.vm = .none) (hcl : s.vm.findClass E = some ce.cls)
    (hx : ∀ t : State, t.heap = H → s.vm.Alike t.vm → XC E s t) (hf : ∀ z ∈ locs, free z.base) (hc : cells ≤ mc) (hs : slots ≤ ms) :
    vx_W p l e R s m args below meth c H locs cells slots (vx_MQ below Qc XC args s mc ms free) (F0 m pc ls rest) q := by
  intro T hT X
  have hpl : e.platform.magicAccessors = ({} : Platform).magicAccessors := by rw [X.admits.platform]
  obtain ⟨vm', hW', X', st⟩ := X.outThrough hlocks q (g := F0 m pc ls rest) rfl rfl rfl (cell := ce) (by rw [hT]; exact hcell) (by rw [hv]; rfl)
    (by obtain ⟨k9, h9, -⟩ := Vm.findClass_spec hcl; exact ⟨k9, h9⟩) (fun z hz => by
      rcases hpass z hz with h | ⟨hz0, nm, hl1, hn1⟩
      · exact Or.inl h
      · obtain ⟨c6, hc6, hcl6⟩ := Cond.classLink_spec hown hl1 e.platform hpl
        obtain ⟨a8, b8, h1, h2, h3⟩ := hn1
        cases Option.some.inj (h1.symm.trans hcl)
        cases Option.some.inj (h2.symm.trans hc6)
        exact Or.inr ⟨hz0, _, hcl6, h3⟩)
  obtain ⟨g₀, hfr⟩ := X'.frames_eq
  have hcell9 : ((T.setVm vm').setFrames (.throwing q :: below)).heap[q]? = some ce := by
    show T.heap[q]? = some ce
    rw [hT]; exact hcell
  have hend : Ended ((T.setVm vm').setFrames (.throwing q :: below)) below (.threw q) := State.frames_setFrames _ (State.cur_lt_of_frames hfr)
  refine ⟨(T.setVm vm').setFrames (.throwing q :: below), ?_, .threw q, X'.here.running, hend, Or.inr ⟨q, rfl, E, ce, locs, hx _ hT (X'.ends _).1.alike, hcell9, hv, hcl, (X'.ends _).1, (X'.ends _).2.mono hc hs, hf⟩⟩
  rw [X.pushThrowing_eq]
  exact st
/-- a thing of a world lies in the heap -/
theorem vx_lt {D : va_G} {cl : List vw_C} {ws : va_W} {H1 : Heap} (h : va_P D cl ws H1) {k : Nat} {q : Nat × va_E} (hk : ws[k]? = some q) : q.1 < H1.size := (h k q hk).lt
end VXS
/-! ===== END ===== -/
/-! ===== BEGIN methods with a table of their own: called by a name, returning or throwing ===== -/
section VXH
/-! vx_backW, vx_callVX, vx_callSX, vx_callVW, vx_runVW, vx_runVX, vx_runSX, vx_ofWH follow the same proofs as their sisters above (Free/Laws.lean, Shelf42/LK1.lean); vx_outP calls Shelf42/NT130.lean (outThrough). -/
section
variable {l : Launch} {R : Room} {p : Program} {e : Env} {below : List Frame} {s : State} {sargs : Array Value} {y : MethodName} {len W9 : Nat}
theorem vx_backW {ws : List Cond} {rm : Room} {Pc : Array Value → State → Prop} {Qc : Array Value → State → Outcome → State → Prop} {XC : String → State → State → Prop} {mc ms : Nat} {free : Addr → Prop} {bytes : ByteArray} {maxL : Nat} {ret : Option FieldType} {hh : List (Nat × Nat × Nat × Nat)}
    (hM : vx_Met l y ws rm Pc Qc XC mc ms free) (hblind : FrameBlind Pc) (hrc : rm.cells = mc) (hrs : rm.slots = ms)
    (hframes : rm.frames + 1 ≤ R.frames) (hlocals : W9 + (maxL + 11) + rm.locals ≤ R.locals)
    (hws : ∀ w ∈ ws, ∀ a' U, s.WarmedH U.vm → w.before a' U = true) (hcode : Cond.codeWith y bytes maxL ret hh ∈ ws) (hinit : ∀ a' U, s.WarmedH U.vm → (Cond.initialized y.cls).before a' U = true) :
    vx_Back l R p e below s sargs y len W9 (PreOf R mc ms Pc) (PostOf Qc mc ms free) (vx_Post XC mc ms free) := by
  intro m meth c A g ig mk a X hg hsize hdg hW hn hp
  have h1 : (headSpec ws rm).pre.before a A.U = true := atoms_intro fun w hw => hws w hw _ _ X.warmed
  have h2 : (Cond.codeWith y bytes maxL ret hh).before a A.U = true := hws _ hcode _ _ X.warmed
  have h3 : (Cond.initialized y.cls).before a A.U = true := hinit _ _ X.warmed
  have h4 : A.cells + (headSpec ws rm).room.cells ≤ R.cells := by rw [show (headSpec ws rm).room.cells = mc from hrc]; exact hp.1
  have h5 : A.slots + (headSpec ws rm).room.slots ≤ R.slots := by rw [show (headSpec ws rm).room.slots = ms from hrs]; exact hp.2.1
  have hPc : Pc a (A.U.calling g mk a) := hblind _ _ _ _ hp.2.2
  obtain ⟨U, Ls, c0, s0⟩ := A
  dsimp only [Pt.U, Pt.locs, Pt.cells, Pt.slots] at h1 h2 h3 h4 h5 X hn hPc ⊢
  obtain ⟨m9, methY, cY, hn9, hmY, hcY, -, hlY, -⟩ := Cond.codeWith_spec h2
  cases Option.some.inj (hn9.symm.trans hn)
  obtain ⟨kY, hkY, -⟩ := className_of_methodNamed hn
  have hinitY : kY.init = .initialized := Cond.initialized_spec (findClass_of_methodNamed hn) hkY h3
  have h : At U g.method c below := by rw [hg]; exact X.here
  have hlocals9 : W9 + (maxL + 11) + (headSpec ws rm).room.locals ≤ R.locals := hlocals
  have happ : (headSpec ws rm).appliesLoose y e.platform (U.calling g mk a) = true :=
    Spec.appliesLoose_calling (g := g) h hdg hn hkY hinitY
      (X.room_calling (g := g) (R' := (headSpec ws rm).room) hsize hmY hcY hframes (by rw [hlY]; omega) h4 h5) h1
  obtain ⟨mid, hmid⟩ := h.above
  have hfr : (U.setTop g).frames = (.java g :: mid) ++ below := by rw [State.frames_setTop' g h.top, hmid]; rfl
  obtain ⟨o, s₂, hsteps, -, hend, hq⟩ := Steps.callFree hM p X.admits X.cas X.clock (acts := []) hfr happ hPc trivial
  have hq' : vx_Q Qc XC mc ms free a (U.calling g mk a) o s₂ := hq
  rw [State.frames_setTop' g h.top] at hend
  obtain ⟨g₀, hg0⟩ := Option.isSome_iff_exists.mp h.top
  obtain ⟨r, hr⟩ := State.topJava?_eq_some.mp hg0
  have hr' : (({ U with heap := s₂.heap, slotsUsed := s₂.slotsUsed } : State).setVm s₂.vm).frames = .java g₀ :: r := hr
  rcases hq' with ⟨hqc, L, hfe, hL⟩ | ⟨q, rfl, E, ce, L, hx, hce, hcv, hcl, hW₂, hsm, hL⟩
  · obtain ⟨⟨v, rfl⟩, hW₂, e2, q2, q3, q4, q5, q6⟩ := id hfe
    have e3 : s₂ = ({ (U.calling g mk a).setFrames s₂.frames with heap := s₂.heap, slotsUsed := s₂.slotsUsed } : State).setVm s₂.vm := by
      have : s₂ = ({ s₂ with vm := (U.calling g mk a).vm } : State).setVm s₂.vm := rfl
      rw [e2] at this
      exact this
    obtain ⟨c₂, i₂, len₂, hc₂, hd₂, hf₂⟩ := hend
    have hW' : U.WarmedH s₂.vm := hW₂
    have hcc : c₂ = c := by
      have h1 : s₂.code? g.method = U.code? g.method := by
        rw [State.code?_eq, State.code?_eq, hW'.alike.method?]
      exact Option.some.inj (hc₂.symm.trans (h1.trans h.code))
    subst hcc
    have hlen : len₂ = len := by rw [hdg] at hd₂; cases hd₂; rfl
    subst hlen
    have hs₂ : s₂ = (({ U with heap := s₂.heap, slotsUsed := s₂.slotsUsed } : State).setVm s₂.vm).setTop { g with pc := g.pc + len₂, stack := v.toList ++ g.stack } := by
      refine e3.trans ?_
      rw [hf₂, State.calling_eq h.top, State.setFrames_setFrames, State.setTop_of_frames _ hr', hr]
      rfl
    have hsame : U.sameButNew ({ U with heap := s₂.heap, slotsUsed := s₂.slotsUsed } : State) L mc ms := by
      refine ⟨?_, q2, q3, q4, q5, q6⟩
      obtain ⟨t, ht, -⟩ := State.frames_cons hr
      show ({ U with heap := s₂.heap, slotsUsed := s₂.slotsUsed } : State) = { U.setFrames U.frames with heap := s₂.heap, slotsUsed := s₂.slotsUsed }
      rw [State.setFrames_self ht]
    subst hg
    refine Or.inl ⟨v, ⟨(({ U with heap := s₂.heap, slotsUsed := s₂.slotsUsed } : State).setVm s₂.vm), Ls ++ L, c0 + mc, s0 + ms⟩,
      ⟨X.admits, X.cas, X.clock, X.frames, X.room, X.hears, X.method, X.code, (X.here.setHeapUsed s₂.heap s₂.slotsUsed).setVm hW'.alike, X.tail, State.WarmedH.trans X.warmed hW', X.limits, X.bytes, X.same.trans (hsame.setVm s.vm)⟩,
      ⟨g, mk, s₂, L, rfl, rfl, hqc, rfl, hL, rfl, rfl⟩, ?_⟩
    show Steps p.tables e below _ ((({ U with heap := s₂.heap, slotsUsed := s₂.slotsUsed } : State).setVm s₂.vm).setTop { g with pc := g.pc + len₂, stack := v.toList ++ g.stack })
    rw [← hs₂]
    exact hsteps
  · obtain ⟨e2, q2, q3, q4, q5, q6⟩ := id hsm
    have e3 : s₂ = ({ (U.calling g mk a).setFrames s₂.frames with heap := s₂.heap, slotsUsed := s₂.slotsUsed } : State).setVm s₂.vm := by
      have : s₂ = ({ s₂ with vm := (U.calling g mk a).vm } : State).setVm s₂.vm := rfl
      rw [e2] at this
      exact this
    have hf₂ : s₂.frames = .throwing q :: .java g :: U.frames.tail := hend
    have hW' : U.WarmedH s₂.vm := hW₂
    have hs₂ : s₂ = ((({ U with heap := s₂.heap, slotsUsed := s₂.slotsUsed } : State).setVm s₂.vm).setTop g).pushFrame (.throwing q) := by
      refine e3.trans ?_
      rw [hf₂, State.calling_eq h.top, State.setFrames_setFrames, State.pushFrame, State.frames_setTop _ hr', State.setTop_of_frames _ hr', State.setFrames_setFrames, hr]
      rfl
    have hsame : U.sameButNew ({ U with heap := s₂.heap, slotsUsed := s₂.slotsUsed } : State) L mc ms := by
      refine ⟨?_, q2, q3, q4, q5, q6⟩
      obtain ⟨t, ht, -⟩ := State.frames_cons hr
      show ({ U with heap := s₂.heap, slotsUsed := s₂.slotsUsed } : State) = { U.setFrames U.frames with heap := s₂.heap, slotsUsed := s₂.slotsUsed }
      rw [State.setFrames_self ht]
    subst hg
    refine Or.inr ⟨q, ⟨(({ U with heap := s₂.heap, slotsUsed := s₂.slotsUsed } : State).setVm s₂.vm), Ls ++ L, c0 + mc, s0 + ms⟩,
      ⟨X.admits, X.cas, X.clock, X.frames, X.room, X.hears, X.method, X.code, (X.here.setHeapUsed s₂.heap s₂.slotsUsed).setVm hW'.alike, X.tail, State.WarmedH.trans X.warmed hW', X.limits, X.bytes, X.same.trans (hsame.setVm s.vm)⟩,
      ⟨g, mk, s₂, L, E, ce, rfl, rfl, hx, hce, hcv, hcl, rfl, hL, rfl, rfl⟩, ?_⟩
    show Steps p.tables e below _ (((({ U with heap := s₂.heap, slotsUsed := s₂.slotsUsed } : State).setVm s₂.vm).setTop g).pushFrame (.throwing q))
    rw [← hs₂]
    exact hsteps
end
variable {p : Program} {l : Launch} {e : Env} {R : Room} {s : State} {m : MethodId} {args : Array Value} {below : List Frame} {meth : Method} {c : Code} {T : State} {H : Heap} {locs : List Loc} {cells slots : Nat}
theorem vx_callVX (X : Stand p l e R s m args below meth c T locs cells slots) (hexec : p.tables.exec = Jvm.exec) {own C : String} {index : Nat} {y : MethodName} {bytes : ByteArray} {maxL : Nat} {ret : Option FieldType} {hh : List (Nat × Nat × Nat × Nat)}
    (hown : s.vm.findClass own = some m.cls) (hlink : (Cond.methodLink own index y).before args s = true) (hinst : (Cond.instanceMethod y).before args s = true) (hsel : (Cond.selects C y y).before args s = true)
    (hcode : (Cond.codeWith y bytes maxL ret hh).before args s = true) (hy : y.cls ≠ "java/lang/invoke/MethodHandle" ∧ y.cls ≠ "java/lang/invoke/VarHandle")
    {W9 : Nat} {Pre : Pt → Array Value → Prop} {Post : Pt → Array Value → Option Value → Pt → Prop} {PostX : Pt → Array Value → Addr → Pt → Prop} (hK : vx_Back l R p e below s args y 3 W9 Pre Post PostX)
    {b : Addr} {cellB : Cell} (hcell : T.heap[b]? = some cellB) (hobj : cellB.vm.isStatics = false) (hcls : s.vm.findClass C = some cellB.cls)
    {g : JFrame} (hg : g.method = m) (hsize : g.locals.size = c.maxLocals) {argsL rest : List Value} (hlen : ∀ sig, parseMethodDescriptor y.desc = some sig → argsL.length = sig.parameters.length)
    (hstack : g.stack = argsL.reverse ++ .ref b :: rest) (hW : 2 * g.monitorRoom + (rest.map fun v => v.category).sum ≤ W9) (hdg : decode c.code g.pc = .ok (.invokevirtual index, 3))
    (hpre : ∀ vm₁, s.WarmedH vm₁ → Pre ⟨T.setVm vm₁, locs, cells, slots⟩ (Value.ref b :: argsL).toArray) :
    (∃ (v : Option Value) (vm₁ : Vm) (B : Pt), s.WarmedH vm₁ ∧ Stand p l e R s m args below meth c B.U B.locs B.cells B.slots ∧ Post ⟨T.setVm vm₁, locs, cells, slots⟩ (Value.ref b :: argsL).toArray v B ∧
      ∀ target, Steps p.tables e below (B.U.setTop { g with pc := g.pc + 3, stack := v.toList ++ rest }) target → Steps p.tables e below (T.setTop g) target) ∨
    (∃ (q : Addr) (vm₁ : Vm) (B : Pt), s.WarmedH vm₁ ∧ Stand p l e R s m args below meth c B.U B.locs B.cells B.slots ∧ PostX ⟨T.setVm vm₁, locs, cells, slots⟩ (Value.ref b :: argsL).toArray q B ∧
      Steps p.tables e below (T.setTop g) ((B.U.setTop { g with stack := rest }).pushFrame (.throwing q))) := by
  obtain ⟨mk, methM, hnamed, hmethM, hstM, habM⟩ := Cond.instanceMethod_spec hinst
  obtain ⟨m8, methM', cM, hn8, hmethM', -, -, -, -, -, -, hsigM⟩ := Cond.codeWith_spec hcode
  cases Option.some.inj (hn8.symm.trans hnamed)
  cases hmethM.symm.trans hmethM'
  obtain ⟨c2, r2, m2, q1, q2, q3, q4, kP, hkP, hkPi⟩ := Cond.selects_spec hsel
  cases hcls.symm.trans q1
  cases (State.methodFound?_of_named hnamed hy).symm.trans q2
  cases hnamed.symm.trans q3
  have hselP : selectMethod e.platform s.vm cellB.cls mk = .method mk := by rw [Launch.admits_selectMethod X.admits]; exact q4
  obtain ⟨vm₁, X₁, hstep₁⟩ := X.invokevirtual hexec hown hlink hnamed hmethM hstM hkP hkPi hy (a := b) (cell := cellB) hcell
    (fun z h => by rw [h] at hobj; cases hobj) hselP hmethM habM hkP hkPi (g := g) hg (argsL := argsL) (rest := rest) (hlen _ hsigM) hstack hdg
  rcases hK m meth c ⟨T.setVm vm₁, locs, cells, slots⟩ { g with stack := rest } (.invokevirtual index) mk (Value.ref b :: argsL).toArray X₁ hg hsize hdg hW (X₁.named hnamed) (hpre vm₁ X₁.warmed) with ⟨v, B, X', hpost, hsteps⟩ | ⟨q, B, X', hpost, hsteps⟩
  · exact Or.inl ⟨v, vm₁, B, X₁.warmed, X', hpost, fun target h => hstep₁ _ fun acts => by rw [doInvoke_state]; exact hsteps.trans h⟩
  · exact Or.inr ⟨q, vm₁, B, X₁.warmed, X', hpost, hstep₁ _ fun acts => by rw [doInvoke_state]; exact hsteps⟩
theorem vx_callSX (X : Stand p l e R s m args below meth c T locs cells slots) (hexec : p.tables.exec = Jvm.exec) {own : String} {index : Nat} {y : MethodName} {bytes : ByteArray} {maxL : Nat} {ret : Option FieldType} {hh : List (Nat × Nat × Nat × Nat)}
    (hown : s.vm.findClass own = some m.cls) (hlink : (Cond.methodLink own index y).before args s = true) (hstat : (Cond.static y).before args s = true) (hinit : (Cond.initialized y.cls).before args s = true)
    (hcode : (Cond.codeWith y bytes maxL ret hh).before args s = true) (hy : y.cls ≠ "java/lang/invoke/MethodHandle" ∧ y.cls ≠ "java/lang/invoke/VarHandle")
    {W9 : Nat} {Pre : Pt → Array Value → Prop} {Post : Pt → Array Value → Option Value → Pt → Prop} {PostX : Pt → Array Value → Addr → Pt → Prop} (hK : vx_Back l R p e below s args y 3 W9 Pre Post PostX)
    {g : JFrame} (hg : g.method = m) (hsize : g.locals.size = c.maxLocals) {argsL rest : List Value} (hlen : ∀ sig, parseMethodDescriptor y.desc = some sig → argsL.length = sig.parameters.length)
    (hstack : g.stack = argsL.reverse ++ rest) (hW : 2 * g.monitorRoom + (rest.map fun v => v.category).sum ≤ W9) (hdg : decode c.code g.pc = .ok (.invokestatic index, 3))
    (hpre : ∀ vm₁, s.WarmedH vm₁ → Pre ⟨T.setVm vm₁, locs, cells, slots⟩ argsL.toArray) :
    (∃ (v : Option Value) (vm₁ : Vm) (B : Pt), s.WarmedH vm₁ ∧ Stand p l e R s m args below meth c B.U B.locs B.cells B.slots ∧ Post ⟨T.setVm vm₁, locs, cells, slots⟩ argsL.toArray v B ∧
      ∀ target, Steps p.tables e below (B.U.setTop { g with pc := g.pc + 3, stack := v.toList ++ rest }) target → Steps p.tables e below (T.setTop g) target) ∨
    (∃ (q : Addr) (vm₁ : Vm) (B : Pt), s.WarmedH vm₁ ∧ Stand p l e R s m args below meth c B.U B.locs B.cells B.slots ∧ PostX ⟨T.setVm vm₁, locs, cells, slots⟩ argsL.toArray q B ∧
      Steps p.tables e below (T.setTop g) ((B.U.setTop { g with stack := rest }).pushFrame (.throwing q))) := by
  obtain ⟨mk, methM, cM, hnamed, hmethM, -, -, -, -, -, -, hsigM⟩ := Cond.codeWith_spec hcode
  have hstatic : methM.isStatic = true := Cond.static_spec hnamed hmethM hstat
  obtain ⟨kP, hkP, -⟩ := className_of_methodNamed hnamed
  have hinitP : kP.init = .initialized := Cond.initialized_spec (findClass_of_methodNamed hnamed) hkP hinit
  obtain ⟨vm₁, X₁, hstep₁⟩ := X.invokestatic hexec hown hlink hnamed hmethM hstatic hkP hinitP hy (g := g) hg (argsL := argsL) (rest := rest) (hlen _ hsigM) hstack hdg
  rcases hK m meth c ⟨T.setVm vm₁, locs, cells, slots⟩ { g with stack := rest } (.invokestatic index) mk argsL.toArray X₁ hg hsize hdg hW (X₁.named hnamed) (hpre vm₁ X₁.warmed) with ⟨v, B, X', hpost, hsteps⟩ | ⟨q, B, X', hpost, hsteps⟩
  · exact Or.inl ⟨v, vm₁, B, X₁.warmed, X', hpost, fun target h => hstep₁ _ fun acts => by rw [doInvoke_state]; exact hsteps.trans h⟩
  · exact Or.inr ⟨q, vm₁, B, X₁.warmed, X', hpost, hstep₁ _ fun acts => by rw [doInvoke_state]; exact hsteps⟩
theorem vx_callVW (X : Stand p l e R s m args below meth c T locs cells slots) (hexec : p.tables.exec = Jvm.exec) {own C : String} {index : Nat} {y : MethodName} {bytes : ByteArray} {maxL : Nat} {ret : Option FieldType} {hh : List (Nat × Nat × Nat × Nat)}
    (hown : s.vm.findClass own = some m.cls) (hlink : (Cond.methodLink own index y).before args s = true) (hinst : (Cond.instanceMethod y).before args s = true) (hsel : (Cond.selects C y y).before args s = true)
    (hcode : (Cond.codeWith y bytes maxL ret hh).before args s = true) (hy : y.cls ≠ "java/lang/invoke/MethodHandle" ∧ y.cls ≠ "java/lang/invoke/VarHandle")
    {W9 : Nat} {Pre : Pt → Array Value → Prop} {Post : Pt → Array Value → Option Value → Pt → Prop} (hK : Back l R p e below s args y 3 W9 Pre Post)
    {b : Addr} {cellB : Cell} (hcell : T.heap[b]? = some cellB) (hobj : cellB.vm.isStatics = false) (hcls : s.vm.findClass C = some cellB.cls)
    {g : JFrame} (hg : g.method = m) (hsize : g.locals.size = c.maxLocals) {argsL rest : List Value} (hlen : ∀ sig, parseMethodDescriptor y.desc = some sig → argsL.length = sig.parameters.length)
    (hstack : g.stack = argsL.reverse ++ .ref b :: rest) (hW : 2 * g.monitorRoom + (rest.map fun v => v.category).sum ≤ W9) (hdg : decode c.code g.pc = .ok (.invokevirtual index, 3))
    (hpre : ∀ vm₁, s.WarmedH vm₁ → Pre ⟨T.setVm vm₁, locs, cells, slots⟩ (Value.ref b :: argsL).toArray) :
    ∃ (v : Option Value) (vm₁ : Vm) (B : Pt), s.WarmedH vm₁ ∧ Stand p l e R s m args below meth c B.U B.locs B.cells B.slots ∧ Post ⟨T.setVm vm₁, locs, cells, slots⟩ (Value.ref b :: argsL).toArray v B ∧
      ∀ target, Steps p.tables e below (B.U.setTop { g with pc := g.pc + 3, stack := v.toList ++ rest }) target → Steps p.tables e below (T.setTop g) target := by
  obtain ⟨mk, methM, hnamed, hmethM, hstM, habM⟩ := Cond.instanceMethod_spec hinst
  obtain ⟨m8, methM', cM, hn8, hmethM', -, -, -, -, -, -, hsigM⟩ := Cond.codeWith_spec hcode
  cases Option.some.inj (hn8.symm.trans hnamed)
  cases hmethM.symm.trans hmethM'
  obtain ⟨c2, r2, m2, q1, q2, q3, q4, kP, hkP, hkPi⟩ := Cond.selects_spec hsel
  cases hcls.symm.trans q1
  cases (State.methodFound?_of_named hnamed hy).symm.trans q2
  cases hnamed.symm.trans q3
  have hselP : selectMethod e.platform s.vm cellB.cls mk = .method mk := by rw [Launch.admits_selectMethod X.admits]; exact q4
  obtain ⟨vm₁, X₁, hstep₁⟩ := X.invokevirtual hexec hown hlink hnamed hmethM hstM hkP hkPi hy (a := b) (cell := cellB) hcell
    (fun z h => by rw [h] at hobj; cases hobj) hselP hmethM habM hkP hkPi (g := g) hg (argsL := argsL) (rest := rest) (hlen _ hsigM) hstack hdg
  obtain ⟨v, B, X', hpost, hsteps⟩ := hK m meth c ⟨T.setVm vm₁, locs, cells, slots⟩ { g with stack := rest } (.invokevirtual index) mk (Value.ref b :: argsL).toArray X₁ hg hsize hdg hW (X₁.named hnamed) (hpre vm₁ X₁.warmed)
  exact ⟨v, vm₁, B, X₁.warmed, X', hpost, fun target h => hstep₁ _ fun acts => by rw [doInvoke_state]; exact hsteps.trans h⟩
abbrev vx_CVW (R : Room) (s : State) (args : Array Value) (own C : String) (index : Nat) (y : MethodName) (bytes : ByteArray) (maxL : Nat) (ret : Option FieldType) (hh : List (Nat × Nat × Nat × Nat)) (ws : List Cond) (rm : Room) (mc ms n : Nat) : Prop :=
  (rm.cells = mc ∧ rm.slots = ms ∧ rm.frames + 1 ≤ R.frames ∧ 8 + (maxL + 11) + rm.locals ≤ R.locals ∧ (∀ w ∈ ws, ∀ (a' : Array Value) (U : State), s.WarmedH U.vm → w.before a' U = true) ∧ Cond.codeWith y bytes maxL ret hh ∈ ws) ∧
  (Cond.codeWith y bytes maxL ret hh).before args s = true ∧ (Cond.initialized y.cls).before args s = true ∧ (y.cls ≠ "java/lang/invoke/MethodHandle" ∧ y.cls ≠ "java/lang/invoke/VarHandle") ∧
  (∀ sig, parseMethodDescriptor y.desc = some sig → n = sig.parameters.length) ∧ (Cond.methodLink own index y).before args s = true ∧ (Cond.instanceMethod y).before args s = true ∧ (Cond.selects C y y).before args s = true
theorem vx_cwVW {own C : String} {index maxL mc ms : Nat} {y : MethodName} {bytes : ByteArray} {ret : Option FieldType} {hh : List (Nat × Nat × Nat × Nat)} {Ts ws ws' : List Cond} {rm : Room} (n : Nat) (ht : ∀ w ∈ Ts, w.before args s = true) (hT : GoodIn Ts (wsV own index C y ws)) (hw : ws = Cond.codeWith y bytes maxL ret hh :: ws') (hrc : rm.cells = mc) (hrs : rm.slots = ms)
    (hd : y.cls = C ∧ y.cls ≠ "java/lang/invoke/MethodHandle" ∧ y.cls ≠ "java/lang/invoke/VarHandle" ∧ (parseMethodDescriptor y.desc).map (fun d => d.parameters.length) = some n) (hR : rm.frames + 1 ≤ R.frames ∧ 8 + (maxL + 11) + rm.locals ≤ R.locals) :
    vx_CVW R s args own C index y bytes maxL ret hh ws rm mc ms n := by
  obtain ⟨hC, hd⟩ := hd
  subst hC
  have ok : ∀ w ∈ wsV own index y.cls y ws, w.before args s = true := fun w h => ht w (hT w h).1
  have hG : GoodIn Ts ws := fun w h => hT w (by unfold wsV; exact List.mem_append_right _ h)
  have hc : Cond.codeWith y bytes maxL ret hh ∈ ws := by rw [hw]; exact List.mem_cons_self
  refine ⟨⟨hrc, hrs, hR.1, hR.2, pay_in ht hG, hc⟩, ht _ (hG _ hc).1, ok _ (by simp [wsV]), ⟨hd.1, hd.2.1⟩, fun sig h => ?_, ok _ (by simp [wsV]), ok _ (by simp [wsV]), ok _ (by simp [wsV])⟩
  have h2 := hd.2.2
  rw [h] at h2
  exact (Option.some.inj h2).symm
theorem vx_runVW {y : MethodName} {bytes cc : ByteArray} {maxL nL mc ms n index : Nat} {ret : Option FieldType} {hh : List (Nat × Nat × Nat × Nat)} {ws : List Cond} {rm : Room} {Pc : Array Value → State → Prop} {Qc : Array Value → State → Outcome → State → Prop} {free : Addr → Prop} {Ts : List Cond} {own C : String} {b : Addr} {As rest : List Value} {g : JFrame}
    (S : CallFix p m c cc nL s args Ts own) (hM : Met l y ws rm Pc Qc mc ms free) (cw : vx_CVW R s args own C index y bytes maxL ret hh ws rm mc ms n) (hp : PreV s H C b Pc As)
    (hg : g.method = m) (hn : As.length = n) (hsize : g.locals.size = nL) (hstack : g.stack = As.reverse ++ .ref b :: rest) (hW : 2 * g.monitorRoom + (rest.map fun v => v.category).sum ≤ 8) (hdg : decode cc g.pc = .ok (.invokevirtual index, 3)) (hf : cells + mc ≤ R.cells ∧ slots + ms ≤ R.slots) :
    va_Run p l e R s m args below meth c H locs cells slots mc ms g rest (Qc (Value.ref b :: As).toArray) free := by
  obtain ⟨⟨hrc, hrs, hfr, hlo, hws, hcw⟩, hcode, hini, hy, hlen, hl, hin, hse⟩ := cw
  have hK : Back l R p e below s args y 3 8 (PreOf R mc ms Pc) (PostOf Qc mc ms free) := va_backW (hh := hh) (bytes := bytes) (maxL := maxL) (ret := ret) hM hp.1 hrc hrs hfr hlo hws hcw (fun a' U hW => word_at hW (Or.inl (by first | rfl | simp [Cond.onTables, Cond.keeps, Cond.steady])) hini)
  obtain ⟨hx, hb, hml, ho, -⟩ := S
  obtain ⟨-, ⟨cellB, hcB, hoB, hclB⟩, hPc⟩ := hp
  intro T hT X
  obtain ⟨v, vm₁, ⟨U', l2, c2, s2⟩, hW₁, X', ⟨g', mk, t, L, e1, e2, hq, h1, hL, h2, h3⟩, st⟩ := vx_callVW X hx (C := C) (hh := hh) (bytes := bytes) (maxL := maxL) (ret := ret) ho hl hin hse hcode hy hK (by rw [hT]; exact hcB) hoB hclB hg (hsize.trans hml.symm) (argsL := As) (rest := rest) (fun sig h => hn.trans (hlen sig h)) hstack hW (by rw [hb]; exact hdg)
    (fun vm₁ hW₁ => ⟨hf.1, hf.2, hPc (T.setVm vm₁) hT hW₁⟩)
  dsimp only [Pt.U, Pt.locs, Pt.cells, Pt.slots] at X' e1 e2 h1 h2 h3 st
  subst h1; subst h2; subst h3
  exact ⟨v, (T.setVm vm₁).calling g' mk (Value.ref b :: As).toArray, t, U', L, hT, X', hL, e1, e2, hq, st⟩
section
variable {y : MethodName} {bytes cc : ByteArray} {maxL nL mc ms n index : Nat} {ret : Option FieldType} {ws : List Cond} {rm : Room} {Pc : Array Value → State → Prop} {Qc : Array Value → State → Outcome → State → Prop} {XC : String → State → State → Prop} {free : Addr → Prop} {Ts : List Cond} {own C : String} {b : Addr} {As rest : List Value} {g : JFrame}
theorem vx_runVX {hh : List (Nat × Nat × Nat × Nat)} (S : CallFix p m c cc nL s args Ts own) (hM : vx_Met l y ws rm Pc Qc XC mc ms free) (cw : vx_CVW R s args own C index y bytes maxL ret hh ws rm mc ms n) (hp : PreV s H C b Pc As)
    (hg : g.method = m) (hn : As.length = n) (hsize : g.locals.size = nL) (hstack : g.stack = As.reverse ++ .ref b :: rest) (hW : 2 * g.monitorRoom + (rest.map fun v => v.category).sum ≤ 8) (hdg : decode cc g.pc = .ok (.invokevirtual index, 3)) (hf : cells + mc ≤ R.cells ∧ slots + ms ≤ R.slots) :
    vx_Run p l e R s m args below meth c H locs cells slots mc ms g rest (Qc (Value.ref b :: As).toArray) XC free := by
  obtain ⟨⟨hrc, hrs, hfr, hlo, hws, hcw⟩, hcode, hini, hy, hlen, hl, hin, hse⟩ := cw
  have hK : vx_Back l R p e below s args y 3 8 (PreOf R mc ms Pc) (PostOf Qc mc ms free) (vx_Post XC mc ms free) := vx_backW (hh := hh) (bytes := bytes) (maxL := maxL) (ret := ret) hM hp.1 hrc hrs hfr hlo hws hcw (fun a' U hW => word_at hW (Or.inl (by first | rfl | simp [Cond.onTables, Cond.keeps, Cond.steady])) hini)
  obtain ⟨hx, hb, hml, ho, -⟩ := S
  obtain ⟨-, ⟨cellB, hcB, hoB, hclB⟩, hPc⟩ := hp
  intro T hT X
  rcases vx_callVX X hx (C := C) (hh := hh) (bytes := bytes) (maxL := maxL) (ret := ret) ho hl hin hse hcode hy hK (by rw [hT]; exact hcB) hoB hclB hg (hsize.trans hml.symm) (argsL := As) (rest := rest) (fun sig h => hn.trans (hlen sig h)) hstack hW (by rw [hb]; exact hdg)
    (fun vm₁ hW₁ => ⟨hf.1, hf.2, hPc (T.setVm vm₁) hT hW₁⟩) with ⟨v, vm₁, ⟨U', l2, c2, s2⟩, hW₁, X', ⟨g', mk, t, L, e1, e2, hq, h1, hL, h2, h3⟩, st⟩ | ⟨q, vm₁, ⟨U', l2, c2, s2⟩, hW₁, X', ⟨g', mk, t, L, E, ce, e1, e2, hq, hce, hcv, hcl, h1, hL, h2, h3⟩, st⟩
  · dsimp only [Pt.U, Pt.locs, Pt.cells, Pt.slots] at X' e1 e2 h1 h2 h3 st
    subst h1; subst h2; subst h3
    exact Or.inl ⟨v, (T.setVm vm₁).calling g' mk (Value.ref b :: As).toArray, t, U', L, hT, X', hL, e1, e2, hq, st⟩
  · dsimp only [Pt.U, Pt.locs, Pt.cells, Pt.slots] at X' e1 e2 h1 h2 h3 st hcl
    subst h1; subst h2; subst h3
    exact Or.inr ⟨q, (T.setVm vm₁).calling g' mk (Value.ref b :: As).toArray, t, U', L, E, ce, hT, X', hL, e1, e2, hq, hce, hcv, vx_cls hW₁ hcl, st⟩
theorem vx_runSX {hh : List (Nat × Nat × Nat × Nat)} (S : CallFix p m c cc nL s args Ts own) (hM : vx_Met l y ws rm Pc Qc XC mc ms free) (cw : vx_CSW R s args own index y bytes maxL ret hh ws rm mc ms n) (hp : PreS s H Pc As)
    (hg : g.method = m) (hn : As.length = n) (hsize : g.locals.size = nL) (hstack : g.stack = As.reverse ++ rest) (hW : 2 * g.monitorRoom + (rest.map fun v => v.category).sum ≤ 8) (hdg : decode cc g.pc = .ok (.invokestatic index, 3)) (hf : cells + mc ≤ R.cells ∧ slots + ms ≤ R.slots) :
    vx_Run p l e R s m args below meth c H locs cells slots mc ms g rest (Qc As.toArray) XC free := by
  obtain ⟨⟨hrc, hrs, hfr, hlo, hws, hcw⟩, hcode, hini, hy, hlen, hl, hstt⟩ := cw
  have hK : vx_Back l R p e below s args y 3 8 (PreOf R mc ms Pc) (PostOf Qc mc ms free) (vx_Post XC mc ms free) := vx_backW (hh := hh) (bytes := bytes) (maxL := maxL) (ret := ret) hM hp.1 hrc hrs hfr hlo hws hcw (fun a' U hW => word_at hW (Or.inl (by first | rfl | simp [Cond.onTables, Cond.keeps, Cond.steady])) hini)
  obtain ⟨hx, hb, hml, ho, -⟩ := S
  intro T hT X
  rcases vx_callSX X hx (hh := hh) (bytes := bytes) (maxL := maxL) (ret := ret) ho hl hstt hini hcode hy hK hg (hsize.trans hml.symm) (argsL := As) (rest := rest) (fun sig h => hn.trans (hlen sig h)) hstack hW (by rw [hb]; exact hdg)
    (fun vm₁ hW₁ => ⟨hf.1, hf.2, hp.2 (T.setVm vm₁) hT hW₁⟩) with ⟨v, vm₁, ⟨U', l2, c2, s2⟩, hW₁, X', ⟨g', mk, t, L, e1, e2, hq, h1, hL, h2, h3⟩, st⟩ | ⟨q, vm₁, ⟨U', l2, c2, s2⟩, hW₁, X', ⟨g', mk, t, L, E, ce, e1, e2, hq, hce, hcv, hcl, h1, hL, h2, h3⟩, st⟩
  · dsimp only [Pt.U, Pt.locs, Pt.cells, Pt.slots] at X' e1 e2 h1 h2 h3 st
    subst h1; subst h2; subst h3
    exact Or.inl ⟨v, (T.setVm vm₁).calling g' mk As.toArray, t, U', L, hT, X', hL, e1, e2, hq, st⟩
  · dsimp only [Pt.U, Pt.locs, Pt.cells, Pt.slots] at X' e1 e2 h1 h2 h3 st hcl
    subst h1; subst h2; subst h3
    exact Or.inr ⟨q, (T.setVm vm₁).calling g' mk As.toArray, t, U', L, E, ce, hT, X', hL, e1, e2, hq, hce, hcv, vx_cls hW₁ hcl, st⟩
end
end VXH
theorem vx_ofWH {l : Launch} {y : MethodName} {ws ws' : List Cond} {rm : Room} {Pc : Array Value → State → Prop} {Qc : Array Value → State → Outcome → State → Prop} {XC : String → State → State → Prop} {mc ms : Nat} {free : Addr → Prop} {cc : ByteArray} {maxL : Nat} {ret : Option FieldType} {hh : List (Nat × Nat × Nat × Nat)}
    (hy : plainName y.cls = true) (hw : ws = Cond.codeWith y cc maxL ret hh :: ws')
    (body : ∀ p e s m args below meth c s₁, BodyLoose p l y (headSpec ws rm) cc maxL ret e s m args below meth c s₁ → c.maxLocals = maxL → Pc args s →
      W p l e (headSpec ws rm).room s m args below meth c s.heap [] 0 0 (vx_MQ below Qc XC args s mc ms free) (entryFrame m args maxL)) : vx_Met l y ws rm Pc Qc XC mc ms free := by
  refine MetFree.of_bodyS (code := cc) (maxLocals := maxL) (ret := ret) hy ?_ ?_
  · intro args s m h hn
    obtain ⟨m9, meth, c, hn9, h1, h2, h3, h4, -, h5, h6, -⟩ := Cond.codeWith_spec (atoms_spec (ws := ws) h _ (by rw [hw]; exact List.mem_cons_self))
    cases hn.symm.trans hn9
    exact ⟨meth, c, h1, h2, h3, h4, h5, h6⟩
  · intro p e s m args below meth c s₁ B hml hP _
    have hh0 : s₁.heap = s.heap := by rw [B.state]; rfl
    obtain ⟨t, a1, o, b1, b2, b3⟩ := body p e s m args below meth c s₁ B hml hP s₁ hh0 (Stand.of_body B)
    exact ⟨t, o, a1, b1, b2, b3⟩
/-! ===== END ===== -/
end
section
/-! ===== BEGIN printed: names, fields, word lists, decode rows ===== -/
def RX0 : String := "HemSuffixes$Hem"
def TX0 : u_T := fun k => match k with
  | 0 => ("HemSuffixes$Hem", "stitches", "LHemSuffixes$Stitches;", true)
  | _ => ("HemSuffixes$Hem", "placesInOrder", "[I", true)
def tyX0 : Nat → FieldType := fun k => match k with
  | 0 => .object "HemSuffixes$Stitches"
  | _ => .array .int
abbrev wsX00 : List Cond := u_ws RX0 TX0 2
theorem nmX0 : ∀ a, a < 2 → ∀ b, b < 2 → a ≠ b → (TX0 a).2.1 ≠ (TX0 b).2.1 := by decide +kernel
theorem tyX0_ok : ∀ k, k < 2 → parseFieldDescriptor (TX0 k).2.2.1 = some (tyX0 k) := by decide +kernel
abbrev cX0_init : ByteArray := prog_2_method_1_code
def yX0_init : MethodName := ⟨RX0, "<init>", "()V"⟩
abbrev cX0_sewOn : ByteArray := prog_2_method_2_code
def yX0_sewOn : MethodName := ⟨RX0, "sewOn", "(I)V"⟩
abbrev cX0_sewBeginning : ByteArray := prog_2_method_3_code
def yX0_sewBeginning : MethodName := ⟨RX0, "sewBeginning", "(I)V"⟩
abbrev cX0_takeOff : ByteArray := prog_2_method_4_code
def yX0_takeOff : MethodName := ⟨RX0, "takeOff", "(I)V"⟩
abbrev cX0_orderEnds : ByteArray := prog_2_method_5_code
def yX0_orderEnds : MethodName := ⟨RX0, "orderEnds", "()V"⟩
abbrev cX0_putInOrder : ByteArray := prog_2_method_6_code
def yX0_putInOrder : MethodName := ⟨RX0, "putInOrder", "(II)V"⟩
abbrev cX0_placeAt : ByteArray := prog_2_method_7_code
def yX0_placeAt : MethodName := ⟨RX0, "placeAt", "(I)I"⟩
abbrev cX0_rankOf : ByteArray := prog_2_method_8_code
def yX0_rankOf : MethodName := ⟨RX0, "rankOf", "(I)I"⟩
abbrev cX0_sharedWithNext : ByteArray := prog_2_method_9_code
def yX0_sharedWithNext : MethodName := ⟨RX0, "sharedWithNext", "(I)I"⟩
abbrev cX0_neighbourPairs : ByteArray := prog_2_method_10_code
def yX0_neighbourPairs : MethodName := ⟨RX0, "neighbourPairs", "()I"⟩
abbrev cX0_sharedByNeighbours : ByteArray := prog_2_method_11_code
def yX0_sharedByNeighbours : MethodName := ⟨RX0, "sharedByNeighbours", "()I"⟩
abbrev cX0_rowsFirstAt : ByteArray := prog_2_method_12_code
def yX0_rowsFirstAt : MethodName := ⟨RX0, "rowsFirstAt", "(I)I"⟩
abbrev cX0_differentRows : ByteArray := prog_2_method_13_code
def yX0_differentRows : MethodName := ⟨RX0, "differentRows", "()I"⟩
abbrev cX0_rowOfNumber : ByteArray := prog_2_method_14_code
def yX0_rowOfNumber : MethodName := ⟨RX0, "rowOfNumber", "(I)I"⟩
abbrev cX0_repeatRank : ByteArray := prog_2_method_15_code
def yX0_repeatRank : MethodName := ⟨RX0, "repeatRank", "()I"⟩
def RX1 : String := "HemSuffixes$Stitches"
def TX1 : u_T := fun k => match k with
  | 0 => ("HemSuffixes$Stitches", "kinds", "[I", true)
  | _ => ("HemSuffixes$Stitches", "length", "I", false)
def tyX1 : Nat → FieldType := fun k => match k with
  | 0 => .array .int
  | _ => .int
abbrev wsX10 : List Cond := u_ws RX1 TX1 2
theorem nmX1 : ∀ a, a < 2 → ∀ b, b < 2 → a ≠ b → (TX1 a).2.1 ≠ (TX1 b).2.1 := by decide +kernel
theorem tyX1_ok : ∀ k, k < 2 → parseFieldDescriptor (TX1 k).2.2.1 = some (tyX1 k) := by decide +kernel
abbrev cX1_init : ByteArray := prog_3_method_1_code
def yX1_init : MethodName := ⟨RX1, "<init>", "()V"⟩
abbrev cX1_at : ByteArray := prog_3_method_2_code
def yX1_at : MethodName := ⟨RX1, "at", "(I)I"⟩
abbrev cX1_append : ByteArray := prog_3_method_3_code
def yX1_append : MethodName := ⟨RX1, "append", "(I)V"⟩
abbrev cX1_drop : ByteArray := prog_3_method_4_code
def yX1_drop : MethodName := ⟨RX1, "drop", "(I)V"⟩
abbrev cX1_sharedWith : ByteArray := prog_3_method_5_code
def yX1_sharedWith : MethodName := ⟨RX1, "sharedWith", "(ILHemSuffixes$Stitches;I)I"⟩
abbrev cX1_difference : ByteArray := prog_3_method_6_code
def yX1_difference : MethodName := ⟨RX1, "difference", "(ILHemSuffixes$Stitches;I)I"⟩
abbrev cX1_mostSharedWith : ByteArray := prog_3_method_7_code
def yX1_mostSharedWith : MethodName := ⟨RX1, "mostSharedWith", "(ILHemSuffixes$Stitches;)I"⟩
abbrev cX1_standsAt : ByteArray := prog_3_method_8_code
def yX1_standsAt : MethodName := ⟨RX1, "standsAt", "(ILHemSuffixes$Stitches;II)Z"⟩
abbrev cX1_firstPlaceOf : ByteArray := prog_3_method_9_code
def yX1_firstPlaceOf : MethodName := ⟨RX1, "firstPlaceOf", "(LHemSuffixes$Stitches;II)I"⟩
abbrev cX1_placesOf : ByteArray := prog_3_method_10_code
def yX1_placesOf : MethodName := ⟨RX1, "placesOf", "(LHemSuffixes$Stitches;II)I"⟩
abbrev cX1_leastPeriod : ByteArray := prog_3_method_11_code
def yX1_leastPeriod : MethodName := ⟨RX1, "leastPeriod", "()I"⟩
abbrev cX1_bestBeginning : ByteArray := prog_3_method_12_code
def yX1_bestBeginning : MethodName := ⟨RX1, "bestBeginning", "()I"⟩
abbrev cX1_turnsToLess : ByteArray := prog_3_method_13_code
def yX1_turnsToLess : MethodName := ⟨RX1, "turnsToLess", "(II)Z"⟩
abbrev cX1_allAround : ByteArray := prog_3_method_14_code
def yX1_allAround : MethodName := ⟨RX1, "allAround", "(I)I"⟩
abbrev cX1_newRowsBy : ByteArray := prog_3_method_15_code
def yX1_newRowsBy : MethodName := ⟨RX1, "newRowsBy", "(I)I"⟩
abbrev cX1_sharedBackwardsFrom : ByteArray := prog_3_method_16_code
def yX1_sharedBackwardsFrom : MethodName := ⟨RX1, "sharedBackwardsFrom", "(I)I"⟩
def RX2 : String := "HemSuffixes"
def TX2 : u_T := fun k => match k with
  | 0 => ("HemSuffixes", "hemZero", "LHemSuffixes$Hem;", true)
  | 1 => ("HemSuffixes", "hemOne", "LHemSuffixes$Hem;", true)
  | _ => ("HemSuffixes", "sample", "LHemSuffixes$Stitches;", true)
def tyX2 : Nat → FieldType := fun k => match k with
  | 0 => .object "HemSuffixes$Hem"
  | 1 => .object "HemSuffixes$Hem"
  | _ => .object "HemSuffixes$Stitches"
abbrev wsX20 : List Cond := u_ws RX2 TX2 3
theorem nmX2 : ∀ a, a < 3 → ∀ b, b < 3 → a ≠ b → (TX2 a).2.1 ≠ (TX2 b).2.1 := by decide +kernel
theorem tyX2_ok : ∀ k, k < 3 → parseFieldDescriptor (TX2 k).2.2.1 = some (tyX2 k) := by decide +kernel
abbrev cX2_init : ByteArray := prog_1_method_1_code
def yX2_init : MethodName := ⟨RX2, "<init>", "()V"⟩
abbrev cX2_sew : ByteArray := prog_1_method_2_code
def yX2_sew : MethodName := ⟨RX2, "sew", "(II)I"⟩
abbrev cX2_again : ByteArray := prog_1_method_3_code
def yX2_again : MethodName := ⟨RX2, "again", "(II)I"⟩
abbrev cX2_unpick : ByteArray := prog_1_method_4_code
def yX2_unpick : MethodName := ⟨RX2, "unpick", "(II)I"⟩
abbrev cX2_add : ByteArray := prog_1_method_5_code
def yX2_add : MethodName := ⟨RX2, "add", "(I)I"⟩
abbrev cX2_clear : ByteArray := prog_1_method_6_code
def yX2_clear : MethodName := ⟨RX2, "clear", "()I"⟩
abbrev cX2_stitch : ByteArray := prog_1_method_7_code
def yX2_stitch : MethodName := ⟨RX2, "stitch", "(II)I"⟩
abbrev cX2_count : ByteArray := prog_1_method_8_code
def yX2_count : MethodName := ⟨RX2, "count", "(I)I"⟩
abbrev cX2_end : ByteArray := prog_1_method_9_code
def yX2_end : MethodName := ⟨RX2, "end", "(II)I"⟩
abbrev cX2_rank : ByteArray := prog_1_method_10_code
def yX2_rank : MethodName := ⟨RX2, "rank", "(II)I"⟩
abbrev cX2_common : ByteArray := prog_1_method_11_code
def yX2_common : MethodName := ⟨RX2, "common", "(III)I"⟩
abbrev cX2_against : ByteArray := prog_1_method_12_code
def yX2_against : MethodName := ⟨RX2, "against", "(II)I"⟩
abbrev cX2_repeat : ByteArray := prog_1_method_13_code
def yX2_repeat : MethodName := ⟨RX2, "repeat", "(II)I"⟩
abbrev cX2_row : ByteArray := prog_1_method_14_code
def yX2_row : MethodName := ⟨RX2, "row", "(II)I"⟩
abbrev cX2_found : ByteArray := prog_1_method_15_code
def yX2_found : MethodName := ⟨RX2, "found", "(I)I"⟩
abbrev cX2_first : ByteArray := prog_1_method_16_code
def yX2_first : MethodName := ⟨RX2, "first", "(I)I"⟩
abbrev cX2_period : ByteArray := prog_1_method_17_code
def yX2_period : MethodName := ⟨RX2, "period", "(I)I"⟩
abbrev cX2_turned : ByteArray := prog_1_method_18_code
def yX2_turned : MethodName := ⟨RX2, "turned", "(I)I"⟩
abbrev cX2_seam : ByteArray := prog_1_method_19_code
def yX2_seam : MethodName := ⟨RX2, "seam", "(I)I"⟩
abbrev cX2_would : ByteArray := prog_1_method_20_code
def yX2_would : MethodName := ⟨RX2, "would", "(II)I"⟩
abbrev cX2_advise : ByteArray := prog_1_method_21_code
def yX2_advise : MethodName := ⟨RX2, "advise", "(I)I"⟩
abbrev cX2_mean : ByteArray := prog_1_method_22_code
def yX2_mean : MethodName := ⟨RX2, "mean", "()D"⟩
abbrev cX2_digest : ByteArray := prog_1_method_23_code
def yX2_digest : MethodName := ⟨RX2, "digest", "()J"⟩
abbrev cX2_hemMixed : ByteArray := prog_1_method_24_code
def yX2_hemMixed : MethodName := ⟨RX2, "hemMixed", "(JI)J"⟩
abbrev cX2_stitchesMixed : ByteArray := prog_1_method_25_code
def yX2_stitchesMixed : MethodName := ⟨RX2, "stitchesMixed", "(JLHemSuffixes$Stitches;)J"⟩
abbrev cX2_mixed : ByteArray := prog_1_method_26_code
def yX2_mixed : MethodName := ⟨RX2, "mixed", "(JI)J"⟩
abbrev cX2_hemOf : ByteArray := prog_1_method_27_code
def yX2_hemOf : MethodName := ⟨RX2, "hemOf", "(I)LHemSuffixes$Hem;"⟩
abbrev cX2_requireStitch : ByteArray := prog_1_method_28_code
def yX2_requireStitch : MethodName := ⟨RX2, "requireStitch", "(I)V"⟩
abbrev cX2_requirePlace : ByteArray := prog_1_method_29_code
def yX2_requirePlace : MethodName := ⟨RX2, "requirePlace", "(LHemSuffixes$Stitches;I)V"⟩
abbrev cX2_seamPlace : ByteArray := prog_1_method_30_code
def yX2_seamPlace : MethodName := ⟨RX2, "seamPlace", "()I"⟩
abbrev cX2_seamLengthFrom : ByteArray := prog_1_method_31_code
def yX2_seamLengthFrom : MethodName := ⟨RX2, "seamLengthFrom", "(I)I"⟩
def RX3 : String := "HemSuffixesModel"
def TX3 : u_T := fun k => match k with
  | 0 => ("HemSuffixesModel", "thrown", "I", false)
  | 1 => ("HemSuffixesModel", "hem", "[[I", true)
  | 2 => ("HemSuffixesModel", "size", "[I", true)
  | 3 => ("HemSuffixesModel", "sample", "[I", true)
  | 4 => ("HemSuffixesModel", "samples", "I", false)
  | 5 => ("HemSuffixesModel", "same", "[[I", true)
  | 6 => ("HemSuffixesModel", "places", "[I", true)
  | _ => ("HemSuffixesModel", "both", "[[I", true)
def tyX3 : Nat → FieldType := fun k => match k with
  | 0 => .int
  | 1 => .array (.array .int)
  | 2 => .array .int
  | 3 => .array .int
  | 4 => .int
  | 5 => .array (.array .int)
  | 6 => .array .int
  | _ => .array (.array .int)
abbrev wsX30 : List Cond := u_ws RX3 TX3 8
theorem nmX3 : ∀ a, a < 8 → ∀ b, b < 8 → a ≠ b → (TX3 a).2.1 ≠ (TX3 b).2.1 := by decide +kernel
theorem tyX3_ok : ∀ k, k < 8 → parseFieldDescriptor (TX3 k).2.2.1 = some (tyX3 k) := by decide +kernel
abbrev cX3_init : ByteArray := prog_5_method_1_code
def yX3_init : MethodName := ⟨RX3, "<init>", "()V"⟩
abbrev cX3_thrown : ByteArray := prog_5_method_2_code
def yX3_thrown : MethodName := ⟨RX3, "thrown", "()I"⟩
abbrev cX3_no : ByteArray := prog_5_method_3_code
def yX3_no : MethodName := ⟨RX3, "no", "(I)I"⟩
abbrev cX3_isIn : ByteArray := prog_5_method_4_code
def yX3_isIn : MethodName := ⟨RX3, "isIn", "(III)Z"⟩
abbrev cX3_isHem : ByteArray := prog_5_method_5_code
def yX3_isHem : MethodName := ⟨RX3, "isHem", "(I)Z"⟩
abbrev cX3_isStitch : ByteArray := prog_5_method_6_code
def yX3_isStitch : MethodName := ⟨RX3, "isStitch", "(I)Z"⟩
abbrev cX3_isPlace : ByteArray := prog_5_method_7_code
def yX3_isPlace : MethodName := ⟨RX3, "isPlace", "(II)Z"⟩
abbrev cX3_compare : ByteArray := prog_5_method_8_code
def yX3_compare : MethodName := ⟨RX3, "compare", "([II[II[[I)V"⟩
abbrev cX3_by : ByteArray := prog_5_method_9_code
def yX3_by : MethodName := ⟨RX3, "by", "([III[IIII)I"⟩
abbrev cX3_isLess : ByteArray := prog_5_method_10_code
def yX3_isLess : MethodName := ⟨RX3, "isLess", "(III)Z"⟩
abbrev cX3_rankOf : ByteArray := prog_5_method_11_code
def yX3_rankOf : MethodName := ⟨RX3, "rankOf", "(II)I"⟩
abbrev cX3_look : ByteArray := prog_5_method_12_code
def yX3_look : MethodName := ⟨RX3, "look", "(I)V"⟩
abbrev cX3_order : ByteArray := prog_5_method_13_code
def yX3_order : MethodName := ⟨RX3, "order", "(I)V"⟩
abbrev cX3_lookAtBoth : ByteArray := prog_5_method_14_code
def yX3_lookAtBoth : MethodName := ⟨RX3, "lookAtBoth", "()V"⟩
abbrev cX3_mostBefore : ByteArray := prog_5_method_15_code
def yX3_mostBefore : MethodName := ⟨RX3, "mostBefore", "(I)I"⟩
abbrev cX3_differentRows : ByteArray := prog_5_method_16_code
def yX3_differentRows : MethodName := ⟨RX3, "differentRows", "(I)I"⟩
abbrev cX3_mostBeside : ByteArray := prog_5_method_17_code
def yX3_mostBeside : MethodName := ⟨RX3, "mostBeside", "(II)I"⟩
abbrev cX3_firstPlace : ByteArray := prog_5_method_18_code
def yX3_firstPlace : MethodName := ⟨RX3, "firstPlace", "(II)I"⟩
abbrev cX3_placesOf : ByteArray := prog_5_method_19_code
def yX3_placesOf : MethodName := ⟨RX3, "placesOf", "(III)I"⟩
abbrev cX3_repeatTold : ByteArray := prog_5_method_20_code
def yX3_repeatTold : MethodName := ⟨RX3, "repeatTold", "(II)I"⟩
abbrev cX3_mostAcross : ByteArray := prog_5_method_21_code
def yX3_mostAcross : MethodName := ⟨RX3, "mostAcross", "(I)I"⟩
abbrev cX3_seamTold : ByteArray := prog_5_method_22_code
def yX3_seamTold : MethodName := ⟨RX3, "seamTold", "(I)I"⟩
abbrev cX3_isSampleAt : ByteArray := prog_5_method_23_code
def yX3_isSampleAt : MethodName := ⟨RX3, "isSampleAt", "(II)Z"⟩
abbrev cX3_foundIn : ByteArray := prog_5_method_24_code
def yX3_foundIn : MethodName := ⟨RX3, "foundIn", "(I)I"⟩
abbrev cX3_isPeriod : ByteArray := prog_5_method_25_code
def yX3_isPeriod : MethodName := ⟨RX3, "isPeriod", "(II)Z"⟩
abbrev cX3_periodOf : ByteArray := prog_5_method_26_code
def yX3_periodOf : MethodName := ⟨RX3, "periodOf", "(I)I"⟩
abbrev cX3_isLessAround : ByteArray := prog_5_method_27_code
def yX3_isLessAround : MethodName := ⟨RX3, "isLessAround", "(III)Z"⟩
abbrev cX3_turnedOf : ByteArray := prog_5_method_28_code
def yX3_turnedOf : MethodName := ⟨RX3, "turnedOf", "(I)I"⟩
abbrev cX3_more : ByteArray := prog_5_method_29_code
def yX3_more : MethodName := ⟨RX3, "more", "(II)I"⟩
abbrev cX3_sew : ByteArray := prog_5_method_30_code
def yX3_sew : MethodName := ⟨RX3, "sew", "(II)I"⟩
abbrev cX3_again : ByteArray := prog_5_method_31_code
def yX3_again : MethodName := ⟨RX3, "again", "(II)I"⟩
abbrev cX3_unpick : ByteArray := prog_5_method_32_code
def yX3_unpick : MethodName := ⟨RX3, "unpick", "(II)I"⟩
abbrev cX3_add : ByteArray := prog_5_method_33_code
def yX3_add : MethodName := ⟨RX3, "add", "(I)I"⟩
abbrev cX3_clear : ByteArray := prog_5_method_34_code
def yX3_clear : MethodName := ⟨RX3, "clear", "()I"⟩
abbrev cX3_stitch : ByteArray := prog_5_method_35_code
def yX3_stitch : MethodName := ⟨RX3, "stitch", "(II)I"⟩
abbrev cX3_counted : ByteArray := prog_5_method_36_code
def yX3_counted : MethodName := ⟨RX3, "counted", "(I)I"⟩
abbrev cX3_count : ByteArray := prog_5_method_37_code
def yX3_count : MethodName := ⟨RX3, "count", "(I)I"⟩
abbrev cX3_end : ByteArray := prog_5_method_38_code
def yX3_end : MethodName := ⟨RX3, "end", "(II)I"⟩
abbrev cX3_rank : ByteArray := prog_5_method_39_code
def yX3_rank : MethodName := ⟨RX3, "rank", "(II)I"⟩
abbrev cX3_common : ByteArray := prog_5_method_40_code
def yX3_common : MethodName := ⟨RX3, "common", "(III)I"⟩
abbrev cX3_against : ByteArray := prog_5_method_41_code
def yX3_against : MethodName := ⟨RX3, "against", "(II)I"⟩
abbrev cX3_repeat : ByteArray := prog_5_method_42_code
def yX3_repeat : MethodName := ⟨RX3, "repeat", "(II)I"⟩
abbrev cX3_row : ByteArray := prog_5_method_43_code
def yX3_row : MethodName := ⟨RX3, "row", "(II)I"⟩
abbrev cX3_found : ByteArray := prog_5_method_44_code
def yX3_found : MethodName := ⟨RX3, "found", "(I)I"⟩
abbrev cX3_first : ByteArray := prog_5_method_45_code
def yX3_first : MethodName := ⟨RX3, "first", "(I)I"⟩
abbrev cX3_period : ByteArray := prog_5_method_46_code
def yX3_period : MethodName := ⟨RX3, "period", "(I)I"⟩
abbrev cX3_turned : ByteArray := prog_5_method_47_code
def yX3_turned : MethodName := ⟨RX3, "turned", "(I)I"⟩
abbrev cX3_seam : ByteArray := prog_5_method_48_code
def yX3_seam : MethodName := ⟨RX3, "seam", "(I)I"⟩
abbrev cX3_would : ByteArray := prog_5_method_49_code
def yX3_would : MethodName := ⟨RX3, "would", "(II)I"⟩
abbrev cX3_advise : ByteArray := prog_5_method_50_code
def yX3_advise : MethodName := ⟨RX3, "advise", "(I)I"⟩
abbrev cX3_mean : ByteArray := prog_5_method_51_code
def yX3_mean : MethodName := ⟨RX3, "mean", "()D"⟩
abbrev cX3_digest : ByteArray := prog_5_method_52_code
def yX3_digest : MethodName := ⟨RX3, "digest", "()J"⟩
def RJ9 : String := "java/lang/Math"
def TJ9 : u_T := fun k => match k with
  | _ => ("", "", "", false)
def tyJ9 : Nat → FieldType := fun k => match k with
  | _ => .int
abbrev wsJ90 : List Cond := u_ws RJ9 TJ9 0
theorem nmJ9 : ∀ a, a < 0 → ∀ b, b < 0 → a ≠ b → (TJ9 a).2.1 ≠ (TJ9 b).2.1 := by decide +kernel
theorem tyJ9_ok : ∀ k, k < 0 → parseFieldDescriptor (TJ9 k).2.2.1 = some (tyJ9 k) := by decide +kernel
abbrev cJ9_max_7cf53 : ByteArray := prog_10_method_65_code
def yJ9_max_7cf53 : MethodName := ⟨RJ9, "max", "(II)I"⟩
abbrev cJ9_min_7cf53 : ByteArray := prog_10_method_69_code
def yJ9_min_7cf53 : MethodName := ⟨RJ9, "min", "(II)I"⟩
def RJ0 : String := "java/lang/String"
def TJ0 : u_T := fun k => match k with
  | _ => ("", "", "", false)
def tyJ0 : Nat → FieldType := fun k => match k with
  | _ => .int
abbrev wsJ00 : List Cond := u_ws RJ0 TJ0 0
theorem nmJ0 : ∀ a, a < 0 → ∀ b, b < 0 → a ≠ b → (TJ0 a).2.1 ≠ (TJ0 b).2.1 := by decide +kernel
theorem tyJ0_ok : ∀ k, k < 0 → parseFieldDescriptor (TJ0 k).2.2.1 = some (tyJ0 k) := by decide +kernel
def RL : String := "HemSuffixesLaw"
abbrev cL_sew : ByteArray := method_3_code
def yL_sew : MethodName := ⟨RL, "sew", "(LHemSuffixes;II[J)I"⟩
abbrev cL_again : ByteArray := method_4_code
def yL_again : MethodName := ⟨RL, "again", "(LHemSuffixes;II[J)I"⟩
abbrev cL_unpick : ByteArray := method_5_code
def yL_unpick : MethodName := ⟨RL, "unpick", "(LHemSuffixes;II[J)I"⟩
abbrev cL_add : ByteArray := method_6_code
def yL_add : MethodName := ⟨RL, "add", "(LHemSuffixes;I[J)I"⟩
abbrev cL_stitch : ByteArray := method_7_code
def yL_stitch : MethodName := ⟨RL, "stitch", "(LHemSuffixes;II[J)I"⟩
abbrev cL_count : ByteArray := method_8_code
def yL_count : MethodName := ⟨RL, "count", "(LHemSuffixes;I[J)I"⟩
abbrev cL_end : ByteArray := method_9_code
def yL_end : MethodName := ⟨RL, "end", "(LHemSuffixes;II[J)I"⟩
abbrev cL_rank : ByteArray := method_10_code
def yL_rank : MethodName := ⟨RL, "rank", "(LHemSuffixes;II[J)I"⟩
abbrev cL_common : ByteArray := method_11_code
def yL_common : MethodName := ⟨RL, "common", "(LHemSuffixes;III[J)I"⟩
abbrev cL_against : ByteArray := method_12_code
def yL_against : MethodName := ⟨RL, "against", "(LHemSuffixes;II[J)I"⟩
abbrev cL_repeat : ByteArray := method_13_code
def yL_repeat : MethodName := ⟨RL, "repeat", "(LHemSuffixes;II[J)I"⟩
abbrev cL_row : ByteArray := method_14_code
def yL_row : MethodName := ⟨RL, "row", "(LHemSuffixes;II[J)I"⟩
abbrev cL_found : ByteArray := method_15_code
def yL_found : MethodName := ⟨RL, "found", "(LHemSuffixes;I[J)I"⟩
abbrev cL_first : ByteArray := method_16_code
def yL_first : MethodName := ⟨RL, "first", "(LHemSuffixes;I[J)I"⟩
abbrev cL_period : ByteArray := method_17_code
def yL_period : MethodName := ⟨RL, "period", "(LHemSuffixes;I[J)I"⟩
abbrev cL_turned : ByteArray := method_18_code
def yL_turned : MethodName := ⟨RL, "turned", "(LHemSuffixes;I[J)I"⟩
abbrev cL_seam : ByteArray := method_19_code
def yL_seam : MethodName := ⟨RL, "seam", "(LHemSuffixes;I[J)I"⟩
abbrev cL_would : ByteArray := method_20_code
def yL_would : MethodName := ⟨RL, "would", "(LHemSuffixes;II[J)I"⟩
abbrev cL_advise : ByteArray := method_21_code
def yL_advise : MethodName := ⟨RL, "advise", "(LHemSuffixes;I[J)I"⟩
abbrev cL_law : ByteArray := code
def yL_law : MethodName := ⟨RL, "law", "([I)Z"⟩
def wsX1_init : List Cond := .code yX1_init cX1_init 1 none :: ([.methodLink RX1 3 objectInit, .instanceMethod objectInit, .code objectInit ⟨#[0xb1]⟩ 1 none, .arrayClass .int, .fieldLink RX1 9 "HemSuffixes$Stitches" "kinds" "[I", .fieldLink RX1 15 "HemSuffixes$Stitches" "length" "I"] ++ wsX10)
def wsX0_init : List Cond := .code yX0_init cX0_init 1 none :: ([.methodLink RX0 3 objectInit, .instanceMethod objectInit, .code objectInit ⟨#[0xb1]⟩ 1 none, .classLink RX0 9 RX1, .instantiable RX1 2, .initialized RX1, .fieldLink RX0 12 "HemSuffixes$Hem" "stitches" "LHemSuffixes$Stitches;", .arrayClass .int, .fieldLink RX0 18 "HemSuffixes$Hem" "placesInOrder" "[I", .methodLink RX0 11 yX1_init, .instanceMethod yX1_init, .code yX1_init cX1_init 1 none, .methodLink RX1 3 objectInit, .fieldLink RX1 9 "HemSuffixes$Stitches" "kinds" "[I", .fieldLink RX1 15 "HemSuffixes$Stitches" "length" "I"] ++ wsX10 ++ wsX00)
def wsX1_append : List Cond := .code yX1_append cX1_append 2 none :: ([.fieldLink RX1 15 "HemSuffixes$Stitches" "length" "I", .fieldLink RX1 9 "HemSuffixes$Stitches" "kinds" "[I"] ++ wsX10)
def wsX1_at : List Cond := .code yX1_at cX1_at 2 (some .int) :: ([.fieldLink RX1 15 "HemSuffixes$Stitches" "length" "I", .fieldLink RX1 9 "HemSuffixes$Stitches" "kinds" "[I"] ++ wsX10)
def wsX1_sharedWith : List Cond := .code yX1_sharedWith cX1_sharedWith 6 (some .int) :: ([.fieldLink RX1 15 "HemSuffixes$Stitches" "length" "I", .methodLink RX1 19 Lib.Math.min.name, .static Lib.Math.min.name, .initialized "java/lang/Math", .code Lib.Math.min.name Lib.Math.min.code 2 (some .int), .methodLink RX1 25 yX1_at, .instanceMethod yX1_at, .selects RX1 yX1_at yX1_at, .initialized RX1, .code yX1_at cX1_at 2 (some .int), .fieldLink RX1 9 "HemSuffixes$Stitches" "kinds" "[I"] ++ wsX10)
def wsX1_difference : List Cond := .code yX1_difference cX1_difference 7 (some .int) :: ([.methodLink RX1 29 yX1_sharedWith, .instanceMethod yX1_sharedWith, .selects RX1 yX1_sharedWith yX1_sharedWith, .initialized RX1, .code yX1_sharedWith cX1_sharedWith 6 (some .int), .fieldLink RX1 15 "HemSuffixes$Stitches" "length" "I", .methodLink RX1 19 Lib.Math.min.name, .static Lib.Math.min.name, .initialized "java/lang/Math", .code Lib.Math.min.name Lib.Math.min.code 2 (some .int), .methodLink RX1 25 yX1_at, .instanceMethod yX1_at, .selects RX1 yX1_at yX1_at, .code yX1_at cX1_at 2 (some .int), .fieldLink RX1 9 "HemSuffixes$Stitches" "kinds" "[I"] ++ wsX10)
def wsX0_putInOrder : List Cond := .code yX0_putInOrder cX0_putInOrder 4 none :: ([.fieldLink RX0 12 "HemSuffixes$Hem" "stitches" "LHemSuffixes$Stitches;", .fieldLink RX0 18 "HemSuffixes$Hem" "placesInOrder" "[I", .methodLink RX0 44 yX1_difference, .instanceMethod yX1_difference, .selects RX1 yX1_difference yX1_difference, .initialized RX1, .code yX1_difference cX1_difference 7 (some .int), .methodLink RX1 29 yX1_sharedWith, .instanceMethod yX1_sharedWith, .selects RX1 yX1_sharedWith yX1_sharedWith, .code yX1_sharedWith cX1_sharedWith 6 (some .int), .fieldLink RX1 15 "HemSuffixes$Stitches" "length" "I", .methodLink RX1 19 Lib.Math.min.name, .static Lib.Math.min.name, .initialized "java/lang/Math", .code Lib.Math.min.name Lib.Math.min.code 2 (some .int), .methodLink RX1 25 yX1_at, .instanceMethod yX1_at, .selects RX1 yX1_at yX1_at, .code yX1_at cX1_at 2 (some .int), .fieldLink RX1 9 "HemSuffixes$Stitches" "kinds" "[I"] ++ wsX00 ++ wsX10)
def wsX0_orderEnds_r1 : List Cond := [Cond.fieldLink RX0 12 "HemSuffixes$Hem" "stitches" "LHemSuffixes$Stitches;", Cond.fieldLink RX0 18 "HemSuffixes$Hem" "placesInOrder" "[I", Cond.methodLink RX0 40 yX0_putInOrder, Cond.instanceMethod yX0_putInOrder, Cond.selects RX0 yX0_putInOrder yX0_putInOrder, Cond.initialized RX0, Cond.code yX0_putInOrder cX0_putInOrder 4 none, Cond.methodLink RX0 44 yX1_difference, Cond.instanceMethod yX1_difference, Cond.selects RX1 yX1_difference yX1_difference, Cond.initialized RX1, Cond.code yX1_difference cX1_difference 7 (some .int), Cond.methodLink RX1 29 yX1_sharedWith, Cond.instanceMethod yX1_sharedWith, Cond.selects RX1 yX1_sharedWith yX1_sharedWith, Cond.code yX1_sharedWith cX1_sharedWith 6 (some .int), Cond.fieldLink RX1 15 "HemSuffixes$Stitches" "length" "I", Cond.methodLink RX1 19 Lib.Math.min.name, Cond.static Lib.Math.min.name, Cond.initialized "java/lang/Math", Cond.code Lib.Math.min.name Lib.Math.min.code 2 (some .int), Cond.methodLink RX1 25 yX1_at, Cond.instanceMethod yX1_at, Cond.selects RX1 yX1_at yX1_at]
def wsX0_orderEnds_r2 : List Cond := [Cond.code yX1_at cX1_at 2 (some .int), Cond.fieldLink RX1 9 "HemSuffixes$Stitches" "kinds" "[I"]
def wsX0_orderEnds : List Cond := .code yX0_orderEnds cX0_orderEnds 2 none :: ((wsX0_orderEnds_r1 ++ wsX0_orderEnds_r2) ++ wsX00 ++ wsX10)
def wsX0_sewOn_r1 : List Cond := [Cond.fieldLink RX0 12 "HemSuffixes$Hem" "stitches" "LHemSuffixes$Stitches;", Cond.methodLink RX0 22 yX1_append, Cond.instanceMethod yX1_append, Cond.selects RX1 yX1_append yX1_append, Cond.initialized RX1, Cond.code yX1_append cX1_append 2 none, Cond.fieldLink RX1 15 "HemSuffixes$Stitches" "length" "I", Cond.fieldLink RX1 9 "HemSuffixes$Stitches" "kinds" "[I", Cond.methodLink RX0 26 yX0_orderEnds, Cond.instanceMethod yX0_orderEnds, Cond.selects RX0 yX0_orderEnds yX0_orderEnds, Cond.initialized RX0, Cond.code yX0_orderEnds cX0_orderEnds 2 none, Cond.fieldLink RX0 18 "HemSuffixes$Hem" "placesInOrder" "[I", Cond.methodLink RX0 40 yX0_putInOrder, Cond.instanceMethod yX0_putInOrder, Cond.selects RX0 yX0_putInOrder yX0_putInOrder, Cond.code yX0_putInOrder cX0_putInOrder 4 none, Cond.methodLink RX0 44 yX1_difference, Cond.instanceMethod yX1_difference, Cond.selects RX1 yX1_difference yX1_difference, Cond.code yX1_difference cX1_difference 7 (some .int), Cond.methodLink RX1 29 yX1_sharedWith, Cond.instanceMethod yX1_sharedWith]
def wsX0_sewOn_r2 : List Cond := [Cond.selects RX1 yX1_sharedWith yX1_sharedWith, Cond.code yX1_sharedWith cX1_sharedWith 6 (some .int), Cond.methodLink RX1 19 Lib.Math.min.name, Cond.static Lib.Math.min.name, Cond.initialized "java/lang/Math", Cond.code Lib.Math.min.name Lib.Math.min.code 2 (some .int), Cond.methodLink RX1 25 yX1_at, Cond.instanceMethod yX1_at, Cond.selects RX1 yX1_at yX1_at, Cond.code yX1_at cX1_at 2 (some .int)]
def wsX0_sewOn : List Cond := .code yX0_sewOn cX0_sewOn 2 none :: ((wsX0_sewOn_r1 ++ wsX0_sewOn_r2) ++ wsX00 ++ wsX10)
def wsX0_sewBeginning_r1 : List Cond := [Cond.fieldLink RX0 12 "HemSuffixes$Hem" "stitches" "LHemSuffixes$Stitches;", Cond.methodLink RX0 29 yX1_at, Cond.instanceMethod yX1_at, Cond.selects RX1 yX1_at yX1_at, Cond.initialized RX1, Cond.code yX1_at cX1_at 2 (some .int), Cond.fieldLink RX1 15 "HemSuffixes$Stitches" "length" "I", Cond.fieldLink RX1 9 "HemSuffixes$Stitches" "kinds" "[I", Cond.methodLink RX0 22 yX1_append, Cond.instanceMethod yX1_append, Cond.selects RX1 yX1_append yX1_append, Cond.code yX1_append cX1_append 2 none, Cond.methodLink RX0 26 yX0_orderEnds, Cond.instanceMethod yX0_orderEnds, Cond.selects RX0 yX0_orderEnds yX0_orderEnds, Cond.initialized RX0, Cond.code yX0_orderEnds cX0_orderEnds 2 none, Cond.fieldLink RX0 18 "HemSuffixes$Hem" "placesInOrder" "[I", Cond.methodLink RX0 40 yX0_putInOrder, Cond.instanceMethod yX0_putInOrder, Cond.selects RX0 yX0_putInOrder yX0_putInOrder, Cond.code yX0_putInOrder cX0_putInOrder 4 none, Cond.methodLink RX0 44 yX1_difference, Cond.instanceMethod yX1_difference]
def wsX0_sewBeginning_r2 : List Cond := [Cond.selects RX1 yX1_difference yX1_difference, Cond.code yX1_difference cX1_difference 7 (some .int), Cond.methodLink RX1 29 yX1_sharedWith, Cond.instanceMethod yX1_sharedWith, Cond.selects RX1 yX1_sharedWith yX1_sharedWith, Cond.code yX1_sharedWith cX1_sharedWith 6 (some .int), Cond.methodLink RX1 19 Lib.Math.min.name, Cond.static Lib.Math.min.name, Cond.initialized "java/lang/Math", Cond.code Lib.Math.min.name Lib.Math.min.code 2 (some .int), Cond.methodLink RX1 25 yX1_at]
def wsX0_sewBeginning : List Cond := .code yX0_sewBeginning cX0_sewBeginning 3 none :: ((wsX0_sewBeginning_r1 ++ wsX0_sewBeginning_r2) ++ wsX00 ++ wsX10)
def wsX1_drop : List Cond := .code yX1_drop cX1_drop 2 none :: ([.fieldLink RX1 15 "HemSuffixes$Stitches" "length" "I"] ++ wsX10)
def wsX0_takeOff_r1 : List Cond := [Cond.fieldLink RX0 12 "HemSuffixes$Hem" "stitches" "LHemSuffixes$Stitches;", Cond.methodLink RX0 33 yX1_drop, Cond.instanceMethod yX1_drop, Cond.selects RX1 yX1_drop yX1_drop, Cond.initialized RX1, Cond.code yX1_drop cX1_drop 2 none, Cond.fieldLink RX1 15 "HemSuffixes$Stitches" "length" "I", Cond.methodLink RX0 26 yX0_orderEnds, Cond.instanceMethod yX0_orderEnds, Cond.selects RX0 yX0_orderEnds yX0_orderEnds, Cond.initialized RX0, Cond.code yX0_orderEnds cX0_orderEnds 2 none, Cond.fieldLink RX0 18 "HemSuffixes$Hem" "placesInOrder" "[I", Cond.methodLink RX0 40 yX0_putInOrder, Cond.instanceMethod yX0_putInOrder, Cond.selects RX0 yX0_putInOrder yX0_putInOrder, Cond.code yX0_putInOrder cX0_putInOrder 4 none, Cond.methodLink RX0 44 yX1_difference, Cond.instanceMethod yX1_difference, Cond.selects RX1 yX1_difference yX1_difference, Cond.code yX1_difference cX1_difference 7 (some .int), Cond.methodLink RX1 29 yX1_sharedWith, Cond.instanceMethod yX1_sharedWith, Cond.selects RX1 yX1_sharedWith yX1_sharedWith]
def wsX0_takeOff_r2 : List Cond := [Cond.code yX1_sharedWith cX1_sharedWith 6 (some .int), Cond.methodLink RX1 19 Lib.Math.min.name, Cond.static Lib.Math.min.name, Cond.initialized "java/lang/Math", Cond.code Lib.Math.min.name Lib.Math.min.code 2 (some .int), Cond.methodLink RX1 25 yX1_at, Cond.instanceMethod yX1_at, Cond.selects RX1 yX1_at yX1_at, Cond.code yX1_at cX1_at 2 (some .int), Cond.fieldLink RX1 9 "HemSuffixes$Stitches" "kinds" "[I"]
def wsX0_takeOff : List Cond := .code yX0_takeOff cX0_takeOff 2 none :: ((wsX0_takeOff_r1 ++ wsX0_takeOff_r2) ++ wsX00 ++ wsX10)
def wsX0_placeAt : List Cond := .code yX0_placeAt cX0_placeAt 2 (some .int) :: ([.fieldLink RX0 12 "HemSuffixes$Hem" "stitches" "LHemSuffixes$Stitches;", .fieldLink RX0 18 "HemSuffixes$Hem" "placesInOrder" "[I"] ++ wsX00 ++ wsX10)
def wsX0_rankOf : List Cond := .code yX0_rankOf cX0_rankOf 3 (some .int) :: ([.fieldLink RX0 12 "HemSuffixes$Hem" "stitches" "LHemSuffixes$Stitches;", .methodLink RX0 48 yX0_placeAt, .instanceMethod yX0_placeAt, .selects RX0 yX0_placeAt yX0_placeAt, .initialized RX0, .code yX0_placeAt cX0_placeAt 2 (some .int), .fieldLink RX0 18 "HemSuffixes$Hem" "placesInOrder" "[I"] ++ wsX00 ++ wsX10)
def wsX0_sharedWithNext : List Cond := .code yX0_sharedWithNext cX0_sharedWithNext 4 (some .int) :: ([.fieldLink RX0 12 "HemSuffixes$Hem" "stitches" "LHemSuffixes$Stitches;", .methodLink RX0 48 yX0_placeAt, .instanceMethod yX0_placeAt, .selects RX0 yX0_placeAt yX0_placeAt, .initialized RX0, .code yX0_placeAt cX0_placeAt 2 (some .int), .fieldLink RX0 18 "HemSuffixes$Hem" "placesInOrder" "[I", .methodLink RX0 51 yX1_sharedWith, .instanceMethod yX1_sharedWith, .selects RX1 yX1_sharedWith yX1_sharedWith, .initialized RX1, .code yX1_sharedWith cX1_sharedWith 6 (some .int), .fieldLink RX1 15 "HemSuffixes$Stitches" "length" "I", .methodLink RX1 19 Lib.Math.min.name, .static Lib.Math.min.name, .initialized "java/lang/Math", .code Lib.Math.min.name Lib.Math.min.code 2 (some .int), .methodLink RX1 25 yX1_at, .instanceMethod yX1_at, .selects RX1 yX1_at yX1_at, .code yX1_at cX1_at 2 (some .int), .fieldLink RX1 9 "HemSuffixes$Stitches" "kinds" "[I"] ++ wsX00 ++ wsX10)
def wsX0_neighbourPairs : List Cond := .code yX0_neighbourPairs cX0_neighbourPairs 1 (some .int) :: ([.fieldLink RX0 12 "HemSuffixes$Hem" "stitches" "LHemSuffixes$Stitches;"] ++ wsX00 ++ wsX10)
def wsX0_sharedByNeighbours_r1 : List Cond := [Cond.fieldLink RX0 12 "HemSuffixes$Hem" "stitches" "LHemSuffixes$Stitches;", Cond.methodLink RX0 54 yX0_sharedWithNext, Cond.instanceMethod yX0_sharedWithNext, Cond.selects RX0 yX0_sharedWithNext yX0_sharedWithNext, Cond.initialized RX0, Cond.code yX0_sharedWithNext cX0_sharedWithNext 4 (some .int), Cond.methodLink RX0 48 yX0_placeAt, Cond.instanceMethod yX0_placeAt, Cond.selects RX0 yX0_placeAt yX0_placeAt, Cond.code yX0_placeAt cX0_placeAt 2 (some .int), Cond.fieldLink RX0 18 "HemSuffixes$Hem" "placesInOrder" "[I", Cond.methodLink RX0 51 yX1_sharedWith, Cond.instanceMethod yX1_sharedWith, Cond.selects RX1 yX1_sharedWith yX1_sharedWith, Cond.initialized RX1, Cond.code yX1_sharedWith cX1_sharedWith 6 (some .int), Cond.fieldLink RX1 15 "HemSuffixes$Stitches" "length" "I", Cond.methodLink RX1 19 Lib.Math.min.name, Cond.static Lib.Math.min.name, Cond.initialized "java/lang/Math", Cond.code Lib.Math.min.name Lib.Math.min.code 2 (some .int), Cond.methodLink RX1 25 yX1_at, Cond.instanceMethod yX1_at, Cond.selects RX1 yX1_at yX1_at]
def wsX0_sharedByNeighbours_r2 : List Cond := [Cond.code yX1_at cX1_at 2 (some .int), Cond.fieldLink RX1 9 "HemSuffixes$Stitches" "kinds" "[I"]
def wsX0_sharedByNeighbours : List Cond := .code yX0_sharedByNeighbours cX0_sharedByNeighbours 3 (some .int) :: ((wsX0_sharedByNeighbours_r1 ++ wsX0_sharedByNeighbours_r2) ++ wsX00 ++ wsX10)
def wsX0_rowsFirstAt_r1 : List Cond := [Cond.fieldLink RX0 12 "HemSuffixes$Hem" "stitches" "LHemSuffixes$Stitches;", Cond.methodLink RX0 48 yX0_placeAt, Cond.instanceMethod yX0_placeAt, Cond.selects RX0 yX0_placeAt yX0_placeAt, Cond.initialized RX0, Cond.code yX0_placeAt cX0_placeAt 2 (some .int), Cond.fieldLink RX0 18 "HemSuffixes$Hem" "placesInOrder" "[I", Cond.methodLink RX0 54 yX0_sharedWithNext, Cond.instanceMethod yX0_sharedWithNext, Cond.selects RX0 yX0_sharedWithNext yX0_sharedWithNext, Cond.code yX0_sharedWithNext cX0_sharedWithNext 4 (some .int), Cond.methodLink RX0 51 yX1_sharedWith, Cond.instanceMethod yX1_sharedWith, Cond.selects RX1 yX1_sharedWith yX1_sharedWith, Cond.initialized RX1, Cond.code yX1_sharedWith cX1_sharedWith 6 (some .int), Cond.fieldLink RX1 15 "HemSuffixes$Stitches" "length" "I", Cond.methodLink RX1 19 Lib.Math.min.name, Cond.static Lib.Math.min.name, Cond.initialized "java/lang/Math", Cond.code Lib.Math.min.name Lib.Math.min.code 2 (some .int), Cond.methodLink RX1 25 yX1_at, Cond.instanceMethod yX1_at, Cond.selects RX1 yX1_at yX1_at]
def wsX0_rowsFirstAt_r2 : List Cond := [Cond.code yX1_at cX1_at 2 (some .int), Cond.fieldLink RX1 9 "HemSuffixes$Stitches" "kinds" "[I"]
def wsX0_rowsFirstAt : List Cond := .code yX0_rowsFirstAt cX0_rowsFirstAt 2 (some .int) :: ((wsX0_rowsFirstAt_r1 ++ wsX0_rowsFirstAt_r2) ++ wsX00 ++ wsX10)
def wsX0_differentRows_r1 : List Cond := [Cond.fieldLink RX0 12 "HemSuffixes$Hem" "stitches" "LHemSuffixes$Stitches;", Cond.methodLink RX0 57 yX0_rowsFirstAt, Cond.instanceMethod yX0_rowsFirstAt, Cond.selects RX0 yX0_rowsFirstAt yX0_rowsFirstAt, Cond.initialized RX0, Cond.code yX0_rowsFirstAt cX0_rowsFirstAt 2 (some .int), Cond.methodLink RX0 48 yX0_placeAt, Cond.instanceMethod yX0_placeAt, Cond.selects RX0 yX0_placeAt yX0_placeAt, Cond.code yX0_placeAt cX0_placeAt 2 (some .int), Cond.fieldLink RX0 18 "HemSuffixes$Hem" "placesInOrder" "[I", Cond.methodLink RX0 54 yX0_sharedWithNext, Cond.instanceMethod yX0_sharedWithNext, Cond.selects RX0 yX0_sharedWithNext yX0_sharedWithNext, Cond.code yX0_sharedWithNext cX0_sharedWithNext 4 (some .int), Cond.methodLink RX0 51 yX1_sharedWith, Cond.instanceMethod yX1_sharedWith, Cond.selects RX1 yX1_sharedWith yX1_sharedWith, Cond.initialized RX1, Cond.code yX1_sharedWith cX1_sharedWith 6 (some .int), Cond.fieldLink RX1 15 "HemSuffixes$Stitches" "length" "I", Cond.methodLink RX1 19 Lib.Math.min.name, Cond.static Lib.Math.min.name, Cond.initialized "java/lang/Math"]
def wsX0_differentRows_r2 : List Cond := [Cond.code Lib.Math.min.name Lib.Math.min.code 2 (some .int), Cond.methodLink RX1 25 yX1_at, Cond.instanceMethod yX1_at, Cond.selects RX1 yX1_at yX1_at, Cond.code yX1_at cX1_at 2 (some .int), Cond.fieldLink RX1 9 "HemSuffixes$Stitches" "kinds" "[I"]
def wsX0_differentRows : List Cond := .code yX0_differentRows cX0_differentRows 3 (some .int) :: ((wsX0_differentRows_r1 ++ wsX0_differentRows_r2) ++ wsX00 ++ wsX10)
def wsX1_standsAt : List Cond := .code yX1_standsAt cX1_standsAt 5 (some .boolean) :: ([.methodLink RX1 29 yX1_sharedWith, .instanceMethod yX1_sharedWith, .selects RX1 yX1_sharedWith yX1_sharedWith, .initialized RX1, .code yX1_sharedWith cX1_sharedWith 6 (some .int), .fieldLink RX1 15 "HemSuffixes$Stitches" "length" "I", .methodLink RX1 19 Lib.Math.min.name, .static Lib.Math.min.name, .initialized "java/lang/Math", .code Lib.Math.min.name Lib.Math.min.code 2 (some .int), .methodLink RX1 25 yX1_at, .instanceMethod yX1_at, .selects RX1 yX1_at yX1_at, .code yX1_at cX1_at 2 (some .int), .fieldLink RX1 9 "HemSuffixes$Stitches" "kinds" "[I"] ++ wsX10)
def wsX1_firstPlaceOf : List Cond := .code yX1_firstPlaceOf cX1_firstPlaceOf 5 (some .int) :: ([.fieldLink RX1 15 "HemSuffixes$Stitches" "length" "I", .methodLink RX1 36 yX1_standsAt, .instanceMethod yX1_standsAt, .selects RX1 yX1_standsAt yX1_standsAt, .initialized RX1, .code yX1_standsAt cX1_standsAt 5 (some .boolean), .methodLink RX1 29 yX1_sharedWith, .instanceMethod yX1_sharedWith, .selects RX1 yX1_sharedWith yX1_sharedWith, .code yX1_sharedWith cX1_sharedWith 6 (some .int), .methodLink RX1 19 Lib.Math.min.name, .static Lib.Math.min.name, .initialized "java/lang/Math", .code Lib.Math.min.name Lib.Math.min.code 2 (some .int), .methodLink RX1 25 yX1_at, .instanceMethod yX1_at, .selects RX1 yX1_at yX1_at, .code yX1_at cX1_at 2 (some .int), .fieldLink RX1 9 "HemSuffixes$Stitches" "kinds" "[I"] ++ wsX10)
def wsX0_rowOfNumber_r1 : List Cond := [Cond.fieldLink RX0 12 "HemSuffixes$Hem" "stitches" "LHemSuffixes$Stitches;", Cond.methodLink RX0 57 yX0_rowsFirstAt, Cond.instanceMethod yX0_rowsFirstAt, Cond.selects RX0 yX0_rowsFirstAt yX0_rowsFirstAt, Cond.initialized RX0, Cond.code yX0_rowsFirstAt cX0_rowsFirstAt 2 (some .int), Cond.methodLink RX0 48 yX0_placeAt, Cond.instanceMethod yX0_placeAt, Cond.selects RX0 yX0_placeAt yX0_placeAt, Cond.code yX0_placeAt cX0_placeAt 2 (some .int), Cond.fieldLink RX0 18 "HemSuffixes$Hem" "placesInOrder" "[I", Cond.methodLink RX0 54 yX0_sharedWithNext, Cond.instanceMethod yX0_sharedWithNext, Cond.selects RX0 yX0_sharedWithNext yX0_sharedWithNext, Cond.code yX0_sharedWithNext cX0_sharedWithNext 4 (some .int), Cond.methodLink RX0 51 yX1_sharedWith, Cond.instanceMethod yX1_sharedWith, Cond.selects RX1 yX1_sharedWith yX1_sharedWith, Cond.initialized RX1, Cond.code yX1_sharedWith cX1_sharedWith 6 (some .int), Cond.fieldLink RX1 15 "HemSuffixes$Stitches" "length" "I", Cond.methodLink RX1 19 Lib.Math.min.name, Cond.static Lib.Math.min.name, Cond.initialized "java/lang/Math"]
def wsX0_rowOfNumber_r2 : List Cond := [Cond.code Lib.Math.min.name Lib.Math.min.code 2 (some .int), Cond.methodLink RX1 25 yX1_at, Cond.instanceMethod yX1_at, Cond.selects RX1 yX1_at yX1_at, Cond.code yX1_at cX1_at 2 (some .int), Cond.fieldLink RX1 9 "HemSuffixes$Stitches" "kinds" "[I", Cond.methodLink RX0 60 yX1_firstPlaceOf, Cond.instanceMethod yX1_firstPlaceOf, Cond.selects RX1 yX1_firstPlaceOf yX1_firstPlaceOf, Cond.code yX1_firstPlaceOf cX1_firstPlaceOf 5 (some .int), Cond.methodLink RX1 36 yX1_standsAt, Cond.instanceMethod yX1_standsAt, Cond.selects RX1 yX1_standsAt yX1_standsAt, Cond.code yX1_standsAt cX1_standsAt 5 (some .boolean), Cond.methodLink RX1 29 yX1_sharedWith]
def wsX0_rowOfNumber : List Cond := .code yX0_rowOfNumber cX0_rowOfNumber 6 (some .int) :: ((wsX0_rowOfNumber_r1 ++ wsX0_rowOfNumber_r2) ++ wsX00 ++ wsX10)
def wsX0_repeatRank_r1 : List Cond := [Cond.fieldLink RX0 12 "HemSuffixes$Hem" "stitches" "LHemSuffixes$Stitches;", Cond.methodLink RX0 54 yX0_sharedWithNext, Cond.instanceMethod yX0_sharedWithNext, Cond.selects RX0 yX0_sharedWithNext yX0_sharedWithNext, Cond.initialized RX0, Cond.code yX0_sharedWithNext cX0_sharedWithNext 4 (some .int), Cond.methodLink RX0 48 yX0_placeAt, Cond.instanceMethod yX0_placeAt, Cond.selects RX0 yX0_placeAt yX0_placeAt, Cond.code yX0_placeAt cX0_placeAt 2 (some .int), Cond.fieldLink RX0 18 "HemSuffixes$Hem" "placesInOrder" "[I", Cond.methodLink RX0 51 yX1_sharedWith, Cond.instanceMethod yX1_sharedWith, Cond.selects RX1 yX1_sharedWith yX1_sharedWith, Cond.initialized RX1, Cond.code yX1_sharedWith cX1_sharedWith 6 (some .int), Cond.fieldLink RX1 15 "HemSuffixes$Stitches" "length" "I", Cond.methodLink RX1 19 Lib.Math.min.name, Cond.static Lib.Math.min.name, Cond.initialized "java/lang/Math", Cond.code Lib.Math.min.name Lib.Math.min.code 2 (some .int), Cond.methodLink RX1 25 yX1_at, Cond.instanceMethod yX1_at, Cond.selects RX1 yX1_at yX1_at]
def wsX0_repeatRank_r2 : List Cond := [Cond.code yX1_at cX1_at 2 (some .int), Cond.fieldLink RX1 9 "HemSuffixes$Stitches" "kinds" "[I"]
def wsX0_repeatRank : List Cond := .code yX0_repeatRank cX0_repeatRank 5 (some .int) :: ((wsX0_repeatRank_r1 ++ wsX0_repeatRank_r2) ++ wsX00 ++ wsX10)
def wsX1_mostSharedWith : List Cond := .code yX1_mostSharedWith cX1_mostSharedWith 5 (some .int) :: ([.fieldLink RX1 15 "HemSuffixes$Stitches" "length" "I", .methodLink RX1 33 Lib.Math.max.name, .static Lib.Math.max.name, .initialized "java/lang/Math", .code Lib.Math.max.name Lib.Math.max.code 2 (some .int), .methodLink RX1 29 yX1_sharedWith, .instanceMethod yX1_sharedWith, .selects RX1 yX1_sharedWith yX1_sharedWith, .initialized RX1, .code yX1_sharedWith cX1_sharedWith 6 (some .int), .methodLink RX1 19 Lib.Math.min.name, .static Lib.Math.min.name, .code Lib.Math.min.name Lib.Math.min.code 2 (some .int), .methodLink RX1 25 yX1_at, .instanceMethod yX1_at, .selects RX1 yX1_at yX1_at, .code yX1_at cX1_at 2 (some .int), .fieldLink RX1 9 "HemSuffixes$Stitches" "kinds" "[I"] ++ wsX10)
def wsX1_placesOf : List Cond := .code yX1_placesOf cX1_placesOf 6 (some .int) :: ([.fieldLink RX1 15 "HemSuffixes$Stitches" "length" "I", .methodLink RX1 36 yX1_standsAt, .instanceMethod yX1_standsAt, .selects RX1 yX1_standsAt yX1_standsAt, .initialized RX1, .code yX1_standsAt cX1_standsAt 5 (some .boolean), .methodLink RX1 29 yX1_sharedWith, .instanceMethod yX1_sharedWith, .selects RX1 yX1_sharedWith yX1_sharedWith, .code yX1_sharedWith cX1_sharedWith 6 (some .int), .methodLink RX1 19 Lib.Math.min.name, .static Lib.Math.min.name, .initialized "java/lang/Math", .code Lib.Math.min.name Lib.Math.min.code 2 (some .int), .methodLink RX1 25 yX1_at, .instanceMethod yX1_at, .selects RX1 yX1_at yX1_at, .code yX1_at cX1_at 2 (some .int), .fieldLink RX1 9 "HemSuffixes$Stitches" "kinds" "[I"] ++ wsX10)
def wsX1_leastPeriod : List Cond := .code yX1_leastPeriod cX1_leastPeriod 2 (some .int) :: ([.fieldLink RX1 15 "HemSuffixes$Stitches" "length" "I", .methodLink RX1 29 yX1_sharedWith, .instanceMethod yX1_sharedWith, .selects RX1 yX1_sharedWith yX1_sharedWith, .initialized RX1, .code yX1_sharedWith cX1_sharedWith 6 (some .int), .methodLink RX1 19 Lib.Math.min.name, .static Lib.Math.min.name, .initialized "java/lang/Math", .code Lib.Math.min.name Lib.Math.min.code 2 (some .int), .methodLink RX1 25 yX1_at, .instanceMethod yX1_at, .selects RX1 yX1_at yX1_at, .code yX1_at cX1_at 2 (some .int), .fieldLink RX1 9 "HemSuffixes$Stitches" "kinds" "[I"] ++ wsX10)
def wsX1_allAround : List Cond := .code yX1_allAround cX1_allAround 2 (some .int) :: ([.fieldLink RX1 15 "HemSuffixes$Stitches" "length" "I", .methodLink RX1 25 yX1_at, .instanceMethod yX1_at, .selects RX1 yX1_at yX1_at, .initialized RX1, .code yX1_at cX1_at 2 (some .int), .fieldLink RX1 9 "HemSuffixes$Stitches" "kinds" "[I"] ++ wsX10)
def wsX1_turnsToLess : List Cond := .code yX1_turnsToLess cX1_turnsToLess 6 (some .boolean) :: ([.fieldLink RX1 15 "HemSuffixes$Stitches" "length" "I", .methodLink RX1 44 yX1_allAround, .instanceMethod yX1_allAround, .selects RX1 yX1_allAround yX1_allAround, .initialized RX1, .code yX1_allAround cX1_allAround 2 (some .int), .methodLink RX1 25 yX1_at, .instanceMethod yX1_at, .selects RX1 yX1_at yX1_at, .code yX1_at cX1_at 2 (some .int), .fieldLink RX1 9 "HemSuffixes$Stitches" "kinds" "[I"] ++ wsX10)
def wsX1_bestBeginning : List Cond := .code yX1_bestBeginning cX1_bestBeginning 3 (some .int) :: ([.fieldLink RX1 15 "HemSuffixes$Stitches" "length" "I", .methodLink RX1 40 yX1_turnsToLess, .instanceMethod yX1_turnsToLess, .selects RX1 yX1_turnsToLess yX1_turnsToLess, .initialized RX1, .code yX1_turnsToLess cX1_turnsToLess 6 (some .boolean), .methodLink RX1 44 yX1_allAround, .instanceMethod yX1_allAround, .selects RX1 yX1_allAround yX1_allAround, .code yX1_allAround cX1_allAround 2 (some .int), .methodLink RX1 25 yX1_at, .instanceMethod yX1_at, .selects RX1 yX1_at yX1_at, .code yX1_at cX1_at 2 (some .int), .fieldLink RX1 9 "HemSuffixes$Stitches" "kinds" "[I"] ++ wsX10)
def wsX1_sharedBackwardsFrom : List Cond := .code yX1_sharedBackwardsFrom cX1_sharedBackwardsFrom 3 (some .int) :: ([.fieldLink RX1 15 "HemSuffixes$Stitches" "length" "I", .methodLink RX1 25 yX1_at, .instanceMethod yX1_at, .selects RX1 yX1_at yX1_at, .initialized RX1, .code yX1_at cX1_at 2 (some .int), .fieldLink RX1 9 "HemSuffixes$Stitches" "kinds" "[I"] ++ wsX10)
def wsX1_newRowsBy : List Cond := .code yX1_newRowsBy cX1_newRowsBy 4 (some .int) :: ([.fieldLink RX1 15 "HemSuffixes$Stitches" "length" "I", .methodLink RX1 33 Lib.Math.max.name, .static Lib.Math.max.name, .initialized "java/lang/Math", .code Lib.Math.max.name Lib.Math.max.code 2 (some .int), .methodLink RX1 25 yX1_at, .instanceMethod yX1_at, .selects RX1 yX1_at yX1_at, .initialized RX1, .code yX1_at cX1_at 2 (some .int), .fieldLink RX1 9 "HemSuffixes$Stitches" "kinds" "[I", .methodLink RX1 47 yX1_sharedBackwardsFrom, .instanceMethod yX1_sharedBackwardsFrom, .selects RX1 yX1_sharedBackwardsFrom yX1_sharedBackwardsFrom, .code yX1_sharedBackwardsFrom cX1_sharedBackwardsFrom 3 (some .int)] ++ wsX10)
def wsX2_init_r1 : List Cond := [Cond.methodLink RX2 1 objectInit, Cond.instanceMethod objectInit, Cond.code objectInit ⟨#[0xb1]⟩ 1 none, Cond.classLink RX2 7 RX0, Cond.instantiable RX0 2, Cond.initialized RX0, Cond.fieldLink RX2 10 "HemSuffixes" "hemZero" "LHemSuffixes$Hem;", Cond.fieldLink RX2 16 "HemSuffixes" "hemOne" "LHemSuffixes$Hem;", Cond.classLink RX2 19 RX1, Cond.instantiable RX1 2, Cond.initialized RX1, Cond.fieldLink RX2 22 "HemSuffixes" "sample" "LHemSuffixes$Stitches;", Cond.methodLink RX2 9 yX0_init, Cond.instanceMethod yX0_init, Cond.code yX0_init cX0_init 1 none, Cond.methodLink RX0 3 objectInit, Cond.classLink RX0 9 RX1, Cond.fieldLink RX0 12 "HemSuffixes$Hem" "stitches" "LHemSuffixes$Stitches;", Cond.arrayClass .int, Cond.fieldLink RX0 18 "HemSuffixes$Hem" "placesInOrder" "[I", Cond.methodLink RX0 11 yX1_init, Cond.instanceMethod yX1_init, Cond.code yX1_init cX1_init 1 none, Cond.methodLink RX1 3 objectInit]
def wsX2_init_r2 : List Cond := [Cond.fieldLink RX1 9 "HemSuffixes$Stitches" "kinds" "[I", Cond.fieldLink RX1 15 "HemSuffixes$Stitches" "length" "I", Cond.methodLink RX2 21 yX1_init]
def wsX2_init : List Cond := .code yX2_init cX2_init 1 none :: ((wsX2_init_r1 ++ wsX2_init_r2) ++ wsX00 ++ wsX20 ++ wsX10)
def wsX2_hemOf : List Cond := .code yX2_hemOf cX2_hemOf 2 (some (.object "HemSuffixes$Hem")) :: ([.classLink RX2 92 "java/lang/IndexOutOfBoundsException", .initialized "java/lang/IndexOutOfBoundsException", .fieldLink RX2 10 "HemSuffixes" "hemZero" "LHemSuffixes$Hem;", .fieldLink RX2 16 "HemSuffixes" "hemOne" "LHemSuffixes$Hem;"] ++ wsX20 ++ (vx_atS RX2 96 "java/lang/IndexOutOfBoundsException" ["java/lang/RuntimeException", "java/lang/Exception"]).filter goodWord)
def wsX2_requireStitch : List Cond := .code yX2_requireStitch cX2_requireStitch 1 none :: ([.classLink RX2 51 "java/lang/IllegalArgumentException", .initialized "java/lang/IllegalArgumentException"] ++ (vx_atS RX2 55 "java/lang/IllegalArgumentException" ["java/lang/RuntimeException", "java/lang/Exception"]).filter goodWord)
def wsX2_sew_r1 : List Cond := [Cond.classLink RX2 41 "java/lang/IllegalStateException", Cond.initialized "java/lang/IllegalStateException", Cond.methodLink RX2 26 yX2_hemOf, Cond.instanceMethod yX2_hemOf, Cond.selects RX2 yX2_hemOf yX2_hemOf, Cond.initialized RX2, Cond.code yX2_hemOf cX2_hemOf 2 (some (.object "HemSuffixes$Hem")), Cond.classLink RX2 92 "java/lang/IndexOutOfBoundsException", Cond.initialized "java/lang/IndexOutOfBoundsException", Cond.fieldLink RX2 10 "HemSuffixes" "hemZero" "LHemSuffixes$Hem;", Cond.fieldLink RX2 16 "HemSuffixes" "hemOne" "LHemSuffixes$Hem;", Cond.methodLink RX2 30 yX2_requireStitch, Cond.static yX2_requireStitch, Cond.code yX2_requireStitch cX2_requireStitch 1 none, Cond.classLink RX2 51 "java/lang/IllegalArgumentException", Cond.initialized "java/lang/IllegalArgumentException", Cond.methodLink RX2 48 yX0_sewOn, Cond.instanceMethod yX0_sewOn, Cond.selects RX0 yX0_sewOn yX0_sewOn, Cond.initialized RX0, Cond.code yX0_sewOn cX0_sewOn 2 none, Cond.fieldLink RX0 12 "HemSuffixes$Hem" "stitches" "LHemSuffixes$Stitches;", Cond.methodLink RX0 22 yX1_append, Cond.instanceMethod yX1_append]
def wsX2_sew_r2 : List Cond := [Cond.selects RX1 yX1_append yX1_append, Cond.initialized RX1, Cond.code yX1_append cX1_append 2 none, Cond.fieldLink RX1 15 "HemSuffixes$Stitches" "length" "I", Cond.fieldLink RX1 9 "HemSuffixes$Stitches" "kinds" "[I", Cond.methodLink RX0 26 yX0_orderEnds, Cond.instanceMethod yX0_orderEnds, Cond.selects RX0 yX0_orderEnds yX0_orderEnds, Cond.code yX0_orderEnds cX0_orderEnds 2 none, Cond.fieldLink RX0 18 "HemSuffixes$Hem" "placesInOrder" "[I", Cond.methodLink RX0 40 yX0_putInOrder, Cond.instanceMethod yX0_putInOrder, Cond.selects RX0 yX0_putInOrder yX0_putInOrder, Cond.code yX0_putInOrder cX0_putInOrder 4 none, Cond.methodLink RX0 44 yX1_difference, Cond.instanceMethod yX1_difference, Cond.selects RX1 yX1_difference yX1_difference, Cond.code yX1_difference cX1_difference 7 (some .int), Cond.methodLink RX1 29 yX1_sharedWith, Cond.instanceMethod yX1_sharedWith, Cond.selects RX1 yX1_sharedWith yX1_sharedWith, Cond.code yX1_sharedWith cX1_sharedWith 6 (some .int), Cond.methodLink RX1 19 Lib.Math.min.name, Cond.static Lib.Math.min.name]
def wsX2_sew_r3 : List Cond := [Cond.initialized "java/lang/Math", Cond.code Lib.Math.min.name Lib.Math.min.code 2 (some .int), Cond.methodLink RX1 25 yX1_at, Cond.instanceMethod yX1_at, Cond.selects RX1 yX1_at yX1_at, Cond.code yX1_at cX1_at 2 (some .int)]
def wsX2_sew : List Cond := .code yX2_sew cX2_sew 4 (some .int) :: ((wsX2_sew_r1 ++ (wsX2_sew_r2 ++ wsX2_sew_r3)) ++ wsX00 ++ wsX10 ++ wsX20 ++ (vx_atS RX2 45 "java/lang/IllegalStateException" ["java/lang/RuntimeException", "java/lang/Exception"]).filter goodWord ++ (vx_atS RX2 96 "java/lang/IndexOutOfBoundsException" ["java/lang/RuntimeException", "java/lang/Exception"]).filter goodWord ++ (vx_atS RX2 55 "java/lang/IllegalArgumentException" ["java/lang/RuntimeException", "java/lang/Exception"]).filter goodWord)
def wsX2_again_r1 : List Cond := [Cond.classLink RX2 51 "java/lang/IllegalArgumentException", Cond.initialized "java/lang/IllegalArgumentException", Cond.classLink RX2 41 "java/lang/IllegalStateException", Cond.initialized "java/lang/IllegalStateException", Cond.methodLink RX2 26 yX2_hemOf, Cond.instanceMethod yX2_hemOf, Cond.selects RX2 yX2_hemOf yX2_hemOf, Cond.initialized RX2, Cond.code yX2_hemOf cX2_hemOf 2 (some (.object "HemSuffixes$Hem")), Cond.classLink RX2 92 "java/lang/IndexOutOfBoundsException", Cond.initialized "java/lang/IndexOutOfBoundsException", Cond.fieldLink RX2 10 "HemSuffixes" "hemZero" "LHemSuffixes$Hem;", Cond.fieldLink RX2 16 "HemSuffixes" "hemOne" "LHemSuffixes$Hem;", Cond.methodLink RX2 58 yX0_sewBeginning, Cond.instanceMethod yX0_sewBeginning, Cond.selects RX0 yX0_sewBeginning yX0_sewBeginning, Cond.initialized RX0, Cond.code yX0_sewBeginning cX0_sewBeginning 3 none, Cond.fieldLink RX0 12 "HemSuffixes$Hem" "stitches" "LHemSuffixes$Stitches;", Cond.methodLink RX0 29 yX1_at, Cond.instanceMethod yX1_at, Cond.selects RX1 yX1_at yX1_at, Cond.initialized RX1, Cond.code yX1_at cX1_at 2 (some .int)]
def wsX2_again_r2 : List Cond := [Cond.fieldLink RX1 15 "HemSuffixes$Stitches" "length" "I", Cond.fieldLink RX1 9 "HemSuffixes$Stitches" "kinds" "[I", Cond.methodLink RX0 22 yX1_append, Cond.instanceMethod yX1_append, Cond.selects RX1 yX1_append yX1_append, Cond.code yX1_append cX1_append 2 none, Cond.methodLink RX0 26 yX0_orderEnds, Cond.instanceMethod yX0_orderEnds, Cond.selects RX0 yX0_orderEnds yX0_orderEnds, Cond.code yX0_orderEnds cX0_orderEnds 2 none, Cond.fieldLink RX0 18 "HemSuffixes$Hem" "placesInOrder" "[I", Cond.methodLink RX0 40 yX0_putInOrder, Cond.instanceMethod yX0_putInOrder, Cond.selects RX0 yX0_putInOrder yX0_putInOrder, Cond.code yX0_putInOrder cX0_putInOrder 4 none, Cond.methodLink RX0 44 yX1_difference, Cond.instanceMethod yX1_difference, Cond.selects RX1 yX1_difference yX1_difference, Cond.code yX1_difference cX1_difference 7 (some .int), Cond.methodLink RX1 29 yX1_sharedWith, Cond.instanceMethod yX1_sharedWith, Cond.selects RX1 yX1_sharedWith yX1_sharedWith, Cond.code yX1_sharedWith cX1_sharedWith 6 (some .int), Cond.methodLink RX1 19 Lib.Math.min.name]
def wsX2_again_r3 : List Cond := [Cond.static Lib.Math.min.name, Cond.initialized "java/lang/Math", Cond.code Lib.Math.min.name Lib.Math.min.code 2 (some .int), Cond.methodLink RX1 25 yX1_at]
def wsX2_again : List Cond := .code yX2_again cX2_again 5 (some .int) :: ((wsX2_again_r1 ++ (wsX2_again_r2 ++ wsX2_again_r3)) ++ wsX00 ++ wsX10 ++ wsX20 ++ (vx_atS RX2 55 "java/lang/IllegalArgumentException" ["java/lang/RuntimeException", "java/lang/Exception"]).filter goodWord ++ (vx_atS RX2 45 "java/lang/IllegalStateException" ["java/lang/RuntimeException", "java/lang/Exception"]).filter goodWord ++ (vx_atS RX2 96 "java/lang/IndexOutOfBoundsException" ["java/lang/RuntimeException", "java/lang/Exception"]).filter goodWord)
def wsX2_unpick_r1 : List Cond := [Cond.classLink RX2 51 "java/lang/IllegalArgumentException", Cond.initialized "java/lang/IllegalArgumentException", Cond.methodLink RX2 26 yX2_hemOf, Cond.instanceMethod yX2_hemOf, Cond.selects RX2 yX2_hemOf yX2_hemOf, Cond.initialized RX2, Cond.code yX2_hemOf cX2_hemOf 2 (some (.object "HemSuffixes$Hem")), Cond.classLink RX2 92 "java/lang/IndexOutOfBoundsException", Cond.initialized "java/lang/IndexOutOfBoundsException", Cond.fieldLink RX2 10 "HemSuffixes" "hemZero" "LHemSuffixes$Hem;", Cond.fieldLink RX2 16 "HemSuffixes" "hemOne" "LHemSuffixes$Hem;", Cond.methodLink RX2 63 yX0_takeOff, Cond.instanceMethod yX0_takeOff, Cond.selects RX0 yX0_takeOff yX0_takeOff, Cond.initialized RX0, Cond.code yX0_takeOff cX0_takeOff 2 none, Cond.fieldLink RX0 12 "HemSuffixes$Hem" "stitches" "LHemSuffixes$Stitches;", Cond.methodLink RX0 33 yX1_drop, Cond.instanceMethod yX1_drop, Cond.selects RX1 yX1_drop yX1_drop, Cond.initialized RX1, Cond.code yX1_drop cX1_drop 2 none, Cond.fieldLink RX1 15 "HemSuffixes$Stitches" "length" "I", Cond.methodLink RX0 26 yX0_orderEnds]
def wsX2_unpick_r2 : List Cond := [Cond.instanceMethod yX0_orderEnds, Cond.selects RX0 yX0_orderEnds yX0_orderEnds, Cond.code yX0_orderEnds cX0_orderEnds 2 none, Cond.fieldLink RX0 18 "HemSuffixes$Hem" "placesInOrder" "[I", Cond.methodLink RX0 40 yX0_putInOrder, Cond.instanceMethod yX0_putInOrder, Cond.selects RX0 yX0_putInOrder yX0_putInOrder, Cond.code yX0_putInOrder cX0_putInOrder 4 none, Cond.methodLink RX0 44 yX1_difference, Cond.instanceMethod yX1_difference, Cond.selects RX1 yX1_difference yX1_difference, Cond.code yX1_difference cX1_difference 7 (some .int), Cond.methodLink RX1 29 yX1_sharedWith, Cond.instanceMethod yX1_sharedWith, Cond.selects RX1 yX1_sharedWith yX1_sharedWith, Cond.code yX1_sharedWith cX1_sharedWith 6 (some .int), Cond.methodLink RX1 19 Lib.Math.min.name, Cond.static Lib.Math.min.name, Cond.initialized "java/lang/Math", Cond.code Lib.Math.min.name Lib.Math.min.code 2 (some .int), Cond.methodLink RX1 25 yX1_at, Cond.instanceMethod yX1_at, Cond.selects RX1 yX1_at yX1_at, Cond.code yX1_at cX1_at 2 (some .int)]
def wsX2_unpick_r3 : List Cond := [Cond.fieldLink RX1 9 "HemSuffixes$Stitches" "kinds" "[I"]
def wsX2_unpick : List Cond := .code yX2_unpick cX2_unpick 4 (some .int) :: ((wsX2_unpick_r1 ++ (wsX2_unpick_r2 ++ wsX2_unpick_r3)) ++ wsX00 ++ wsX10 ++ wsX20 ++ (vx_atS RX2 55 "java/lang/IllegalArgumentException" ["java/lang/RuntimeException", "java/lang/Exception"]).filter goodWord ++ (vx_atS RX2 96 "java/lang/IndexOutOfBoundsException" ["java/lang/RuntimeException", "java/lang/Exception"]).filter goodWord)
def wsX2_add : List Cond := .code yX2_add cX2_add 2 (some .int) :: ([.classLink RX2 41 "java/lang/IllegalStateException", .initialized "java/lang/IllegalStateException", .fieldLink RX2 22 "HemSuffixes" "sample" "LHemSuffixes$Stitches;", .methodLink RX2 30 yX2_requireStitch, .static yX2_requireStitch, .initialized RX2, .code yX2_requireStitch cX2_requireStitch 1 none, .classLink RX2 51 "java/lang/IllegalArgumentException", .initialized "java/lang/IllegalArgumentException", .methodLink RX2 68 yX1_append, .instanceMethod yX1_append, .selects RX1 yX1_append yX1_append, .initialized RX1, .code yX1_append cX1_append 2 none, .fieldLink RX1 15 "HemSuffixes$Stitches" "length" "I", .fieldLink RX1 9 "HemSuffixes$Stitches" "kinds" "[I"] ++ wsX20 ++ wsX10 ++ (vx_atS RX2 45 "java/lang/IllegalStateException" ["java/lang/RuntimeException", "java/lang/Exception"]).filter goodWord ++ (vx_atS RX2 55 "java/lang/IllegalArgumentException" ["java/lang/RuntimeException", "java/lang/Exception"]).filter goodWord)
def wsX2_clear : List Cond := .code yX2_clear cX2_clear 2 (some .int) :: ([.fieldLink RX2 22 "HemSuffixes" "sample" "LHemSuffixes$Stitches;", .methodLink RX2 71 yX1_drop, .instanceMethod yX1_drop, .selects RX1 yX1_drop yX1_drop, .initialized RX1, .code yX1_drop cX1_drop 2 none, .fieldLink RX1 15 "HemSuffixes$Stitches" "length" "I"] ++ wsX20 ++ wsX10)
def wsX2_requirePlace : List Cond := .code yX2_requirePlace cX2_requirePlace 2 none :: ([.classLink RX2 92 "java/lang/IndexOutOfBoundsException", .initialized "java/lang/IndexOutOfBoundsException"] ++ wsX10 ++ (vx_atS RX2 96 "java/lang/IndexOutOfBoundsException" ["java/lang/RuntimeException", "java/lang/Exception"]).filter goodWord)
def wsX2_stitch : List Cond := .code yX2_stitch cX2_stitch 4 (some .int) :: ([.methodLink RX2 26 yX2_hemOf, .instanceMethod yX2_hemOf, .selects RX2 yX2_hemOf yX2_hemOf, .initialized RX2, .code yX2_hemOf cX2_hemOf 2 (some (.object "HemSuffixes$Hem")), .classLink RX2 92 "java/lang/IndexOutOfBoundsException", .initialized "java/lang/IndexOutOfBoundsException", .fieldLink RX2 10 "HemSuffixes" "hemZero" "LHemSuffixes$Hem;", .fieldLink RX2 16 "HemSuffixes" "hemOne" "LHemSuffixes$Hem;", .methodLink RX2 74 yX2_requirePlace, .static yX2_requirePlace, .code yX2_requirePlace cX2_requirePlace 2 none, .methodLink RX2 78 yX1_at, .instanceMethod yX1_at, .selects RX1 yX1_at yX1_at, .initialized RX1, .code yX1_at cX1_at 2 (some .int), .fieldLink RX1 15 "HemSuffixes$Stitches" "length" "I", .fieldLink RX1 9 "HemSuffixes$Stitches" "kinds" "[I"] ++ wsX00 ++ wsX20 ++ wsX10 ++ (vx_atS RX2 96 "java/lang/IndexOutOfBoundsException" ["java/lang/RuntimeException", "java/lang/Exception"]).filter goodWord)
def wsX2_seamLengthFrom : List Cond := .code yX2_seamLengthFrom cX2_seamLengthFrom 2 (some .int) :: ([.fieldLink RX2 10 "HemSuffixes" "hemZero" "LHemSuffixes$Hem;", .fieldLink RX2 16 "HemSuffixes" "hemOne" "LHemSuffixes$Hem;", .methodLink RX2 185 yX1_mostSharedWith, .instanceMethod yX1_mostSharedWith, .selects RX1 yX1_mostSharedWith yX1_mostSharedWith, .initialized RX1, .code yX1_mostSharedWith cX1_mostSharedWith 5 (some .int), .fieldLink RX1 15 "HemSuffixes$Stitches" "length" "I", .methodLink RX1 33 Lib.Math.max.name, .static Lib.Math.max.name, .initialized "java/lang/Math", .code Lib.Math.max.name Lib.Math.max.code 2 (some .int), .methodLink RX1 29 yX1_sharedWith, .instanceMethod yX1_sharedWith, .selects RX1 yX1_sharedWith yX1_sharedWith, .code yX1_sharedWith cX1_sharedWith 6 (some .int), .methodLink RX1 19 Lib.Math.min.name, .static Lib.Math.min.name, .code Lib.Math.min.name Lib.Math.min.code 2 (some .int), .methodLink RX1 25 yX1_at, .instanceMethod yX1_at, .selects RX1 yX1_at yX1_at, .code yX1_at cX1_at 2 (some .int), .fieldLink RX1 9 "HemSuffixes$Stitches" "kinds" "[I"] ++ wsX20 ++ wsX00 ++ wsX10)
def wsX2_seamPlace_r1 : List Cond := [Cond.fieldLink RX2 10 "HemSuffixes" "hemZero" "LHemSuffixes$Hem;", Cond.methodLink RX2 97 yX0_placeAt, Cond.instanceMethod yX0_placeAt, Cond.selects RX0 yX0_placeAt yX0_placeAt, Cond.initialized RX0, Cond.code yX0_placeAt cX0_placeAt 2 (some .int), Cond.fieldLink RX0 12 "HemSuffixes$Hem" "stitches" "LHemSuffixes$Stitches;", Cond.fieldLink RX0 18 "HemSuffixes$Hem" "placesInOrder" "[I", Cond.methodLink RX2 89 yX2_seamLengthFrom, Cond.instanceMethod yX2_seamLengthFrom, Cond.selects RX2 yX2_seamLengthFrom yX2_seamLengthFrom, Cond.initialized RX2, Cond.code yX2_seamLengthFrom cX2_seamLengthFrom 2 (some .int), Cond.fieldLink RX2 16 "HemSuffixes" "hemOne" "LHemSuffixes$Hem;", Cond.methodLink RX2 185 yX1_mostSharedWith, Cond.instanceMethod yX1_mostSharedWith, Cond.selects RX1 yX1_mostSharedWith yX1_mostSharedWith, Cond.initialized RX1, Cond.code yX1_mostSharedWith cX1_mostSharedWith 5 (some .int), Cond.fieldLink RX1 15 "HemSuffixes$Stitches" "length" "I", Cond.methodLink RX1 33 Lib.Math.max.name, Cond.static Lib.Math.max.name, Cond.initialized "java/lang/Math", Cond.code Lib.Math.max.name Lib.Math.max.code 2 (some .int)]
def wsX2_seamPlace_r2 : List Cond := [Cond.methodLink RX1 29 yX1_sharedWith, Cond.instanceMethod yX1_sharedWith, Cond.selects RX1 yX1_sharedWith yX1_sharedWith, Cond.code yX1_sharedWith cX1_sharedWith 6 (some .int), Cond.methodLink RX1 19 Lib.Math.min.name, Cond.static Lib.Math.min.name, Cond.code Lib.Math.min.name Lib.Math.min.code 2 (some .int), Cond.methodLink RX1 25 yX1_at, Cond.instanceMethod yX1_at, Cond.selects RX1 yX1_at yX1_at, Cond.code yX1_at cX1_at 2 (some .int), Cond.fieldLink RX1 9 "HemSuffixes$Stitches" "kinds" "[I"]
def wsX2_seamPlace : List Cond := .code yX2_seamPlace cX2_seamPlace 6 (some .int) :: ((wsX2_seamPlace_r1 ++ wsX2_seamPlace_r2) ++ wsX20 ++ wsX00 ++ wsX10)
def wsX2_count_r1 : List Cond := [Cond.classLink RX2 92 "java/lang/IndexOutOfBoundsException", Cond.initialized "java/lang/IndexOutOfBoundsException", Cond.fieldLink RX2 10 "HemSuffixes" "hemZero" "LHemSuffixes$Hem;", Cond.fieldLink RX2 16 "HemSuffixes" "hemOne" "LHemSuffixes$Hem;", Cond.fieldLink RX2 22 "HemSuffixes" "sample" "LHemSuffixes$Stitches;", Cond.methodLink RX2 82 yX0_differentRows, Cond.instanceMethod yX0_differentRows, Cond.selects RX0 yX0_differentRows yX0_differentRows, Cond.initialized RX0, Cond.code yX0_differentRows cX0_differentRows 3 (some .int), Cond.fieldLink RX0 12 "HemSuffixes$Hem" "stitches" "LHemSuffixes$Stitches;", Cond.methodLink RX0 57 yX0_rowsFirstAt, Cond.instanceMethod yX0_rowsFirstAt, Cond.selects RX0 yX0_rowsFirstAt yX0_rowsFirstAt, Cond.code yX0_rowsFirstAt cX0_rowsFirstAt 2 (some .int), Cond.methodLink RX0 48 yX0_placeAt, Cond.instanceMethod yX0_placeAt, Cond.selects RX0 yX0_placeAt yX0_placeAt, Cond.code yX0_placeAt cX0_placeAt 2 (some .int), Cond.fieldLink RX0 18 "HemSuffixes$Hem" "placesInOrder" "[I", Cond.methodLink RX0 54 yX0_sharedWithNext, Cond.instanceMethod yX0_sharedWithNext, Cond.selects RX0 yX0_sharedWithNext yX0_sharedWithNext, Cond.code yX0_sharedWithNext cX0_sharedWithNext 4 (some .int)]
def wsX2_count_r2 : List Cond := [Cond.methodLink RX0 51 yX1_sharedWith, Cond.instanceMethod yX1_sharedWith, Cond.selects RX1 yX1_sharedWith yX1_sharedWith, Cond.initialized RX1, Cond.code yX1_sharedWith cX1_sharedWith 6 (some .int), Cond.fieldLink RX1 15 "HemSuffixes$Stitches" "length" "I", Cond.methodLink RX1 19 Lib.Math.min.name, Cond.static Lib.Math.min.name, Cond.initialized "java/lang/Math", Cond.code Lib.Math.min.name Lib.Math.min.code 2 (some .int), Cond.methodLink RX1 25 yX1_at, Cond.instanceMethod yX1_at, Cond.selects RX1 yX1_at yX1_at, Cond.code yX1_at cX1_at 2 (some .int), Cond.fieldLink RX1 9 "HemSuffixes$Stitches" "kinds" "[I", Cond.methodLink RX2 86 yX2_seamPlace, Cond.instanceMethod yX2_seamPlace, Cond.selects RX2 yX2_seamPlace yX2_seamPlace, Cond.initialized RX2, Cond.code yX2_seamPlace cX2_seamPlace 6 (some .int), Cond.methodLink RX2 97 yX0_placeAt, Cond.methodLink RX2 89 yX2_seamLengthFrom, Cond.instanceMethod yX2_seamLengthFrom, Cond.selects RX2 yX2_seamLengthFrom yX2_seamLengthFrom]
def wsX2_count_r3 : List Cond := [Cond.code yX2_seamLengthFrom cX2_seamLengthFrom 2 (some .int), Cond.methodLink RX2 185 yX1_mostSharedWith, Cond.instanceMethod yX1_mostSharedWith, Cond.selects RX1 yX1_mostSharedWith yX1_mostSharedWith, Cond.code yX1_mostSharedWith cX1_mostSharedWith 5 (some .int), Cond.methodLink RX1 33 Lib.Math.max.name, Cond.static Lib.Math.max.name, Cond.code Lib.Math.max.name Lib.Math.max.code 2 (some .int), Cond.methodLink RX1 29 yX1_sharedWith]
def wsX2_count : List Cond := .code yX2_count cX2_count 2 (some .int) :: ((wsX2_count_r1 ++ (wsX2_count_r2 ++ wsX2_count_r3)) ++ wsX20 ++ wsX00 ++ wsX10 ++ (vx_atS RX2 96 "java/lang/IndexOutOfBoundsException" ["java/lang/RuntimeException", "java/lang/Exception"]).filter goodWord)
def wsX2_end : List Cond := .code yX2_end cX2_end 4 (some .int) :: ([.methodLink RX2 26 yX2_hemOf, .instanceMethod yX2_hemOf, .selects RX2 yX2_hemOf yX2_hemOf, .initialized RX2, .code yX2_hemOf cX2_hemOf 2 (some (.object "HemSuffixes$Hem")), .classLink RX2 92 "java/lang/IndexOutOfBoundsException", .initialized "java/lang/IndexOutOfBoundsException", .fieldLink RX2 10 "HemSuffixes" "hemZero" "LHemSuffixes$Hem;", .fieldLink RX2 16 "HemSuffixes" "hemOne" "LHemSuffixes$Hem;", .methodLink RX2 74 yX2_requirePlace, .static yX2_requirePlace, .code yX2_requirePlace cX2_requirePlace 2 none, .methodLink RX2 97 yX0_placeAt, .instanceMethod yX0_placeAt, .selects RX0 yX0_placeAt yX0_placeAt, .initialized RX0, .code yX0_placeAt cX0_placeAt 2 (some .int), .fieldLink RX0 12 "HemSuffixes$Hem" "stitches" "LHemSuffixes$Stitches;", .fieldLink RX0 18 "HemSuffixes$Hem" "placesInOrder" "[I"] ++ wsX00 ++ wsX20 ++ wsX10 ++ (vx_atS RX2 96 "java/lang/IndexOutOfBoundsException" ["java/lang/RuntimeException", "java/lang/Exception"]).filter goodWord)
def wsX2_rank : List Cond := .code yX2_rank cX2_rank 4 (some .int) :: ([.methodLink RX2 26 yX2_hemOf, .instanceMethod yX2_hemOf, .selects RX2 yX2_hemOf yX2_hemOf, .initialized RX2, .code yX2_hemOf cX2_hemOf 2 (some (.object "HemSuffixes$Hem")), .classLink RX2 92 "java/lang/IndexOutOfBoundsException", .initialized "java/lang/IndexOutOfBoundsException", .fieldLink RX2 10 "HemSuffixes" "hemZero" "LHemSuffixes$Hem;", .fieldLink RX2 16 "HemSuffixes" "hemOne" "LHemSuffixes$Hem;", .methodLink RX2 74 yX2_requirePlace, .static yX2_requirePlace, .code yX2_requirePlace cX2_requirePlace 2 none, .methodLink RX2 100 yX0_rankOf, .instanceMethod yX0_rankOf, .selects RX0 yX0_rankOf yX0_rankOf, .initialized RX0, .code yX0_rankOf cX0_rankOf 3 (some .int), .fieldLink RX0 12 "HemSuffixes$Hem" "stitches" "LHemSuffixes$Stitches;", .methodLink RX0 48 yX0_placeAt, .instanceMethod yX0_placeAt, .selects RX0 yX0_placeAt yX0_placeAt, .code yX0_placeAt cX0_placeAt 2 (some .int), .fieldLink RX0 18 "HemSuffixes$Hem" "placesInOrder" "[I"] ++ wsX00 ++ wsX20 ++ wsX10 ++ (vx_atS RX2 96 "java/lang/IndexOutOfBoundsException" ["java/lang/RuntimeException", "java/lang/Exception"]).filter goodWord)
def wsX2_common_r1 : List Cond := [Cond.methodLink RX2 26 yX2_hemOf, Cond.instanceMethod yX2_hemOf, Cond.selects RX2 yX2_hemOf yX2_hemOf, Cond.initialized RX2, Cond.code yX2_hemOf cX2_hemOf 2 (some (.object "HemSuffixes$Hem")), Cond.classLink RX2 92 "java/lang/IndexOutOfBoundsException", Cond.initialized "java/lang/IndexOutOfBoundsException", Cond.fieldLink RX2 10 "HemSuffixes" "hemZero" "LHemSuffixes$Hem;", Cond.fieldLink RX2 16 "HemSuffixes" "hemOne" "LHemSuffixes$Hem;", Cond.methodLink RX2 74 yX2_requirePlace, Cond.static yX2_requirePlace, Cond.code yX2_requirePlace cX2_requirePlace 2 none, Cond.methodLink RX2 103 yX1_sharedWith, Cond.instanceMethod yX1_sharedWith, Cond.selects RX1 yX1_sharedWith yX1_sharedWith, Cond.initialized RX1, Cond.code yX1_sharedWith cX1_sharedWith 6 (some .int), Cond.fieldLink RX1 15 "HemSuffixes$Stitches" "length" "I", Cond.methodLink RX1 19 Lib.Math.min.name, Cond.static Lib.Math.min.name, Cond.initialized "java/lang/Math", Cond.code Lib.Math.min.name Lib.Math.min.code 2 (some .int), Cond.methodLink RX1 25 yX1_at, Cond.instanceMethod yX1_at]
def wsX2_common_r2 : List Cond := [Cond.selects RX1 yX1_at yX1_at, Cond.code yX1_at cX1_at 2 (some .int), Cond.fieldLink RX1 9 "HemSuffixes$Stitches" "kinds" "[I"]
def wsX2_common : List Cond := .code yX2_common cX2_common 5 (some .int) :: ((wsX2_common_r1 ++ wsX2_common_r2) ++ wsX00 ++ wsX20 ++ wsX10 ++ (vx_atS RX2 96 "java/lang/IndexOutOfBoundsException" ["java/lang/RuntimeException", "java/lang/Exception"]).filter goodWord)
def wsX2_against_r1 : List Cond := [Cond.fieldLink RX2 10 "HemSuffixes" "hemZero" "LHemSuffixes$Hem;", Cond.fieldLink RX2 16 "HemSuffixes" "hemOne" "LHemSuffixes$Hem;", Cond.methodLink RX2 74 yX2_requirePlace, Cond.static yX2_requirePlace, Cond.initialized RX2, Cond.code yX2_requirePlace cX2_requirePlace 2 none, Cond.classLink RX2 92 "java/lang/IndexOutOfBoundsException", Cond.initialized "java/lang/IndexOutOfBoundsException", Cond.methodLink RX2 107 yX1_difference, Cond.instanceMethod yX1_difference, Cond.selects RX1 yX1_difference yX1_difference, Cond.initialized RX1, Cond.code yX1_difference cX1_difference 7 (some .int), Cond.methodLink RX1 29 yX1_sharedWith, Cond.instanceMethod yX1_sharedWith, Cond.selects RX1 yX1_sharedWith yX1_sharedWith, Cond.code yX1_sharedWith cX1_sharedWith 6 (some .int), Cond.fieldLink RX1 15 "HemSuffixes$Stitches" "length" "I", Cond.methodLink RX1 19 Lib.Math.min.name, Cond.static Lib.Math.min.name, Cond.initialized "java/lang/Math", Cond.code Lib.Math.min.name Lib.Math.min.code 2 (some .int), Cond.methodLink RX1 25 yX1_at, Cond.instanceMethod yX1_at]
def wsX2_against_r2 : List Cond := [Cond.selects RX1 yX1_at yX1_at, Cond.code yX1_at cX1_at 2 (some .int), Cond.fieldLink RX1 9 "HemSuffixes$Stitches" "kinds" "[I"]
def wsX2_against : List Cond := .code yX2_against cX2_against 3 (some .int) :: ((wsX2_against_r1 ++ wsX2_against_r2) ++ wsX20 ++ wsX00 ++ wsX10 ++ (vx_atS RX2 96 "java/lang/IndexOutOfBoundsException" ["java/lang/RuntimeException", "java/lang/Exception"]).filter goodWord)
def wsX2_repeat_r1 : List Cond := [Cond.classLink RX2 92 "java/lang/IndexOutOfBoundsException", Cond.initialized "java/lang/IndexOutOfBoundsException", Cond.methodLink RX2 26 yX2_hemOf, Cond.instanceMethod yX2_hemOf, Cond.selects RX2 yX2_hemOf yX2_hemOf, Cond.initialized RX2, Cond.code yX2_hemOf cX2_hemOf 2 (some (.object "HemSuffixes$Hem")), Cond.fieldLink RX2 10 "HemSuffixes" "hemZero" "LHemSuffixes$Hem;", Cond.fieldLink RX2 16 "HemSuffixes" "hemOne" "LHemSuffixes$Hem;", Cond.methodLink RX2 112 yX0_repeatRank, Cond.instanceMethod yX0_repeatRank, Cond.selects RX0 yX0_repeatRank yX0_repeatRank, Cond.initialized RX0, Cond.code yX0_repeatRank cX0_repeatRank 5 (some .int), Cond.fieldLink RX0 12 "HemSuffixes$Hem" "stitches" "LHemSuffixes$Stitches;", Cond.methodLink RX0 54 yX0_sharedWithNext, Cond.instanceMethod yX0_sharedWithNext, Cond.selects RX0 yX0_sharedWithNext yX0_sharedWithNext, Cond.code yX0_sharedWithNext cX0_sharedWithNext 4 (some .int), Cond.methodLink RX0 48 yX0_placeAt, Cond.instanceMethod yX0_placeAt, Cond.selects RX0 yX0_placeAt yX0_placeAt, Cond.code yX0_placeAt cX0_placeAt 2 (some .int), Cond.fieldLink RX0 18 "HemSuffixes$Hem" "placesInOrder" "[I"]
def wsX2_repeat_r2 : List Cond := [Cond.methodLink RX0 51 yX1_sharedWith, Cond.instanceMethod yX1_sharedWith, Cond.selects RX1 yX1_sharedWith yX1_sharedWith, Cond.initialized RX1, Cond.code yX1_sharedWith cX1_sharedWith 6 (some .int), Cond.fieldLink RX1 15 "HemSuffixes$Stitches" "length" "I", Cond.methodLink RX1 19 Lib.Math.min.name, Cond.static Lib.Math.min.name, Cond.initialized "java/lang/Math", Cond.code Lib.Math.min.name Lib.Math.min.code 2 (some .int), Cond.methodLink RX1 25 yX1_at, Cond.instanceMethod yX1_at, Cond.selects RX1 yX1_at yX1_at, Cond.code yX1_at cX1_at 2 (some .int), Cond.fieldLink RX1 9 "HemSuffixes$Stitches" "kinds" "[I", Cond.methodLink RX2 115 yX0_sharedWithNext, Cond.methodLink RX2 97 yX0_placeAt, Cond.methodLink RX2 118 yX1_firstPlaceOf, Cond.instanceMethod yX1_firstPlaceOf, Cond.selects RX1 yX1_firstPlaceOf yX1_firstPlaceOf, Cond.code yX1_firstPlaceOf cX1_firstPlaceOf 5 (some .int), Cond.methodLink RX1 36 yX1_standsAt, Cond.instanceMethod yX1_standsAt, Cond.selects RX1 yX1_standsAt yX1_standsAt]
def wsX2_repeat_r3 : List Cond := [Cond.code yX1_standsAt cX1_standsAt 5 (some .boolean), Cond.methodLink RX1 29 yX1_sharedWith, Cond.methodLink RX2 122 yX1_placesOf, Cond.instanceMethod yX1_placesOf, Cond.selects RX1 yX1_placesOf yX1_placesOf, Cond.code yX1_placesOf cX1_placesOf 6 (some .int)]
def wsX2_repeat : List Cond := .code yX2_repeat cX2_repeat 7 (some .int) :: ((wsX2_repeat_r1 ++ (wsX2_repeat_r2 ++ wsX2_repeat_r3)) ++ wsX00 ++ wsX20 ++ wsX10 ++ (vx_atS RX2 96 "java/lang/IndexOutOfBoundsException" ["java/lang/RuntimeException", "java/lang/Exception"]).filter goodWord)
def wsX2_row_r1 : List Cond := [Cond.classLink RX2 92 "java/lang/IndexOutOfBoundsException", Cond.initialized "java/lang/IndexOutOfBoundsException", Cond.methodLink RX2 26 yX2_hemOf, Cond.instanceMethod yX2_hemOf, Cond.selects RX2 yX2_hemOf yX2_hemOf, Cond.initialized RX2, Cond.code yX2_hemOf cX2_hemOf 2 (some (.object "HemSuffixes$Hem")), Cond.fieldLink RX2 10 "HemSuffixes" "hemZero" "LHemSuffixes$Hem;", Cond.fieldLink RX2 16 "HemSuffixes" "hemOne" "LHemSuffixes$Hem;", Cond.methodLink RX2 82 yX0_differentRows, Cond.instanceMethod yX0_differentRows, Cond.selects RX0 yX0_differentRows yX0_differentRows, Cond.initialized RX0, Cond.code yX0_differentRows cX0_differentRows 3 (some .int), Cond.fieldLink RX0 12 "HemSuffixes$Hem" "stitches" "LHemSuffixes$Stitches;", Cond.methodLink RX0 57 yX0_rowsFirstAt, Cond.instanceMethod yX0_rowsFirstAt, Cond.selects RX0 yX0_rowsFirstAt yX0_rowsFirstAt, Cond.code yX0_rowsFirstAt cX0_rowsFirstAt 2 (some .int), Cond.methodLink RX0 48 yX0_placeAt, Cond.instanceMethod yX0_placeAt, Cond.selects RX0 yX0_placeAt yX0_placeAt, Cond.code yX0_placeAt cX0_placeAt 2 (some .int), Cond.fieldLink RX0 18 "HemSuffixes$Hem" "placesInOrder" "[I"]
def wsX2_row_r2 : List Cond := [Cond.methodLink RX0 54 yX0_sharedWithNext, Cond.instanceMethod yX0_sharedWithNext, Cond.selects RX0 yX0_sharedWithNext yX0_sharedWithNext, Cond.code yX0_sharedWithNext cX0_sharedWithNext 4 (some .int), Cond.methodLink RX0 51 yX1_sharedWith, Cond.instanceMethod yX1_sharedWith, Cond.selects RX1 yX1_sharedWith yX1_sharedWith, Cond.initialized RX1, Cond.code yX1_sharedWith cX1_sharedWith 6 (some .int), Cond.fieldLink RX1 15 "HemSuffixes$Stitches" "length" "I", Cond.methodLink RX1 19 Lib.Math.min.name, Cond.static Lib.Math.min.name, Cond.initialized "java/lang/Math", Cond.code Lib.Math.min.name Lib.Math.min.code 2 (some .int), Cond.methodLink RX1 25 yX1_at, Cond.instanceMethod yX1_at, Cond.selects RX1 yX1_at yX1_at, Cond.code yX1_at cX1_at 2 (some .int), Cond.fieldLink RX1 9 "HemSuffixes$Stitches" "kinds" "[I", Cond.methodLink RX2 127 yX0_rowOfNumber, Cond.instanceMethod yX0_rowOfNumber, Cond.selects RX0 yX0_rowOfNumber yX0_rowOfNumber, Cond.code yX0_rowOfNumber cX0_rowOfNumber 6 (some .int), Cond.methodLink RX0 60 yX1_firstPlaceOf]
def wsX2_row_r3 : List Cond := [Cond.instanceMethod yX1_firstPlaceOf, Cond.selects RX1 yX1_firstPlaceOf yX1_firstPlaceOf, Cond.code yX1_firstPlaceOf cX1_firstPlaceOf 5 (some .int), Cond.methodLink RX1 36 yX1_standsAt, Cond.instanceMethod yX1_standsAt, Cond.selects RX1 yX1_standsAt yX1_standsAt, Cond.code yX1_standsAt cX1_standsAt 5 (some .boolean), Cond.methodLink RX1 29 yX1_sharedWith]
def wsX2_row : List Cond := .code yX2_row cX2_row 4 (some .int) :: ((wsX2_row_r1 ++ (wsX2_row_r2 ++ wsX2_row_r3)) ++ wsX20 ++ wsX00 ++ wsX10 ++ (vx_atS RX2 96 "java/lang/IndexOutOfBoundsException" ["java/lang/RuntimeException", "java/lang/Exception"]).filter goodWord)
def wsX2_found_r1 : List Cond := [Cond.fieldLink RX2 22 "HemSuffixes" "sample" "LHemSuffixes$Stitches;", Cond.methodLink RX2 26 yX2_hemOf, Cond.instanceMethod yX2_hemOf, Cond.selects RX2 yX2_hemOf yX2_hemOf, Cond.initialized RX2, Cond.code yX2_hemOf cX2_hemOf 2 (some (.object "HemSuffixes$Hem")), Cond.classLink RX2 92 "java/lang/IndexOutOfBoundsException", Cond.initialized "java/lang/IndexOutOfBoundsException", Cond.fieldLink RX2 10 "HemSuffixes" "hemZero" "LHemSuffixes$Hem;", Cond.fieldLink RX2 16 "HemSuffixes" "hemOne" "LHemSuffixes$Hem;", Cond.methodLink RX2 122 yX1_placesOf, Cond.instanceMethod yX1_placesOf, Cond.selects RX1 yX1_placesOf yX1_placesOf, Cond.initialized RX1, Cond.code yX1_placesOf cX1_placesOf 6 (some .int), Cond.fieldLink RX1 15 "HemSuffixes$Stitches" "length" "I", Cond.methodLink RX1 36 yX1_standsAt, Cond.instanceMethod yX1_standsAt, Cond.selects RX1 yX1_standsAt yX1_standsAt, Cond.code yX1_standsAt cX1_standsAt 5 (some .boolean), Cond.methodLink RX1 29 yX1_sharedWith, Cond.instanceMethod yX1_sharedWith, Cond.selects RX1 yX1_sharedWith yX1_sharedWith, Cond.code yX1_sharedWith cX1_sharedWith 6 (some .int)]
def wsX2_found_r2 : List Cond := [Cond.methodLink RX1 19 Lib.Math.min.name, Cond.static Lib.Math.min.name, Cond.initialized "java/lang/Math", Cond.code Lib.Math.min.name Lib.Math.min.code 2 (some .int), Cond.methodLink RX1 25 yX1_at, Cond.instanceMethod yX1_at, Cond.selects RX1 yX1_at yX1_at, Cond.code yX1_at cX1_at 2 (some .int), Cond.fieldLink RX1 9 "HemSuffixes$Stitches" "kinds" "[I"]
def wsX2_found : List Cond := .code yX2_found cX2_found 2 (some .int) :: ((wsX2_found_r1 ++ wsX2_found_r2) ++ wsX00 ++ wsX20 ++ wsX10 ++ (vx_atS RX2 96 "java/lang/IndexOutOfBoundsException" ["java/lang/RuntimeException", "java/lang/Exception"]).filter goodWord)
def wsX2_first_r1 : List Cond := [Cond.fieldLink RX2 22 "HemSuffixes" "sample" "LHemSuffixes$Stitches;", Cond.methodLink RX2 26 yX2_hemOf, Cond.instanceMethod yX2_hemOf, Cond.selects RX2 yX2_hemOf yX2_hemOf, Cond.initialized RX2, Cond.code yX2_hemOf cX2_hemOf 2 (some (.object "HemSuffixes$Hem")), Cond.classLink RX2 92 "java/lang/IndexOutOfBoundsException", Cond.initialized "java/lang/IndexOutOfBoundsException", Cond.fieldLink RX2 10 "HemSuffixes" "hemZero" "LHemSuffixes$Hem;", Cond.fieldLink RX2 16 "HemSuffixes" "hemOne" "LHemSuffixes$Hem;", Cond.methodLink RX2 118 yX1_firstPlaceOf, Cond.instanceMethod yX1_firstPlaceOf, Cond.selects RX1 yX1_firstPlaceOf yX1_firstPlaceOf, Cond.initialized RX1, Cond.code yX1_firstPlaceOf cX1_firstPlaceOf 5 (some .int), Cond.fieldLink RX1 15 "HemSuffixes$Stitches" "length" "I", Cond.methodLink RX1 36 yX1_standsAt, Cond.instanceMethod yX1_standsAt, Cond.selects RX1 yX1_standsAt yX1_standsAt, Cond.code yX1_standsAt cX1_standsAt 5 (some .boolean), Cond.methodLink RX1 29 yX1_sharedWith, Cond.instanceMethod yX1_sharedWith, Cond.selects RX1 yX1_sharedWith yX1_sharedWith, Cond.code yX1_sharedWith cX1_sharedWith 6 (some .int)]
def wsX2_first_r2 : List Cond := [Cond.methodLink RX1 19 Lib.Math.min.name, Cond.static Lib.Math.min.name, Cond.initialized "java/lang/Math", Cond.code Lib.Math.min.name Lib.Math.min.code 2 (some .int), Cond.methodLink RX1 25 yX1_at, Cond.instanceMethod yX1_at, Cond.selects RX1 yX1_at yX1_at, Cond.code yX1_at cX1_at 2 (some .int), Cond.fieldLink RX1 9 "HemSuffixes$Stitches" "kinds" "[I"]
def wsX2_first : List Cond := .code yX2_first cX2_first 2 (some .int) :: ((wsX2_first_r1 ++ wsX2_first_r2) ++ wsX00 ++ wsX20 ++ wsX10 ++ (vx_atS RX2 96 "java/lang/IndexOutOfBoundsException" ["java/lang/RuntimeException", "java/lang/Exception"]).filter goodWord)
def wsX2_period_r1 : List Cond := [Cond.methodLink RX2 26 yX2_hemOf, Cond.instanceMethod yX2_hemOf, Cond.selects RX2 yX2_hemOf yX2_hemOf, Cond.initialized RX2, Cond.code yX2_hemOf cX2_hemOf 2 (some (.object "HemSuffixes$Hem")), Cond.classLink RX2 92 "java/lang/IndexOutOfBoundsException", Cond.initialized "java/lang/IndexOutOfBoundsException", Cond.fieldLink RX2 10 "HemSuffixes" "hemZero" "LHemSuffixes$Hem;", Cond.fieldLink RX2 16 "HemSuffixes" "hemOne" "LHemSuffixes$Hem;", Cond.methodLink RX2 130 yX1_leastPeriod, Cond.instanceMethod yX1_leastPeriod, Cond.selects RX1 yX1_leastPeriod yX1_leastPeriod, Cond.initialized RX1, Cond.code yX1_leastPeriod cX1_leastPeriod 2 (some .int), Cond.fieldLink RX1 15 "HemSuffixes$Stitches" "length" "I", Cond.methodLink RX1 29 yX1_sharedWith, Cond.instanceMethod yX1_sharedWith, Cond.selects RX1 yX1_sharedWith yX1_sharedWith, Cond.code yX1_sharedWith cX1_sharedWith 6 (some .int), Cond.methodLink RX1 19 Lib.Math.min.name, Cond.static Lib.Math.min.name, Cond.initialized "java/lang/Math", Cond.code Lib.Math.min.name Lib.Math.min.code 2 (some .int), Cond.methodLink RX1 25 yX1_at]
def wsX2_period_r2 : List Cond := [Cond.instanceMethod yX1_at, Cond.selects RX1 yX1_at yX1_at, Cond.code yX1_at cX1_at 2 (some .int), Cond.fieldLink RX1 9 "HemSuffixes$Stitches" "kinds" "[I"]
def wsX2_period : List Cond := .code yX2_period cX2_period 2 (some .int) :: ((wsX2_period_r1 ++ wsX2_period_r2) ++ wsX00 ++ wsX20 ++ wsX10 ++ (vx_atS RX2 96 "java/lang/IndexOutOfBoundsException" ["java/lang/RuntimeException", "java/lang/Exception"]).filter goodWord)
def wsX2_turned_r1 : List Cond := [Cond.methodLink RX2 26 yX2_hemOf, Cond.instanceMethod yX2_hemOf, Cond.selects RX2 yX2_hemOf yX2_hemOf, Cond.initialized RX2, Cond.code yX2_hemOf cX2_hemOf 2 (some (.object "HemSuffixes$Hem")), Cond.classLink RX2 92 "java/lang/IndexOutOfBoundsException", Cond.initialized "java/lang/IndexOutOfBoundsException", Cond.fieldLink RX2 10 "HemSuffixes" "hemZero" "LHemSuffixes$Hem;", Cond.fieldLink RX2 16 "HemSuffixes" "hemOne" "LHemSuffixes$Hem;", Cond.methodLink RX2 133 yX1_bestBeginning, Cond.instanceMethod yX1_bestBeginning, Cond.selects RX1 yX1_bestBeginning yX1_bestBeginning, Cond.initialized RX1, Cond.code yX1_bestBeginning cX1_bestBeginning 3 (some .int), Cond.fieldLink RX1 15 "HemSuffixes$Stitches" "length" "I", Cond.methodLink RX1 40 yX1_turnsToLess, Cond.instanceMethod yX1_turnsToLess, Cond.selects RX1 yX1_turnsToLess yX1_turnsToLess, Cond.code yX1_turnsToLess cX1_turnsToLess 6 (some .boolean), Cond.methodLink RX1 44 yX1_allAround, Cond.instanceMethod yX1_allAround, Cond.selects RX1 yX1_allAround yX1_allAround, Cond.code yX1_allAround cX1_allAround 2 (some .int), Cond.methodLink RX1 25 yX1_at]
def wsX2_turned_r2 : List Cond := [Cond.instanceMethod yX1_at, Cond.selects RX1 yX1_at yX1_at, Cond.code yX1_at cX1_at 2 (some .int), Cond.fieldLink RX1 9 "HemSuffixes$Stitches" "kinds" "[I"]
def wsX2_turned : List Cond := .code yX2_turned cX2_turned 2 (some .int) :: ((wsX2_turned_r1 ++ wsX2_turned_r2) ++ wsX00 ++ wsX20 ++ wsX10 ++ (vx_atS RX2 96 "java/lang/IndexOutOfBoundsException" ["java/lang/RuntimeException", "java/lang/Exception"]).filter goodWord)
def wsX2_seam_r1 : List Cond := [Cond.classLink RX2 92 "java/lang/IndexOutOfBoundsException", Cond.initialized "java/lang/IndexOutOfBoundsException", Cond.fieldLink RX2 10 "HemSuffixes" "hemZero" "LHemSuffixes$Hem;", Cond.fieldLink RX2 16 "HemSuffixes" "hemOne" "LHemSuffixes$Hem;", Cond.methodLink RX2 86 yX2_seamPlace, Cond.instanceMethod yX2_seamPlace, Cond.selects RX2 yX2_seamPlace yX2_seamPlace, Cond.initialized RX2, Cond.code yX2_seamPlace cX2_seamPlace 6 (some .int), Cond.methodLink RX2 97 yX0_placeAt, Cond.instanceMethod yX0_placeAt, Cond.selects RX0 yX0_placeAt yX0_placeAt, Cond.initialized RX0, Cond.code yX0_placeAt cX0_placeAt 2 (some .int), Cond.fieldLink RX0 12 "HemSuffixes$Hem" "stitches" "LHemSuffixes$Stitches;", Cond.fieldLink RX0 18 "HemSuffixes$Hem" "placesInOrder" "[I", Cond.methodLink RX2 89 yX2_seamLengthFrom, Cond.instanceMethod yX2_seamLengthFrom, Cond.selects RX2 yX2_seamLengthFrom yX2_seamLengthFrom, Cond.code yX2_seamLengthFrom cX2_seamLengthFrom 2 (some .int), Cond.methodLink RX2 185 yX1_mostSharedWith, Cond.instanceMethod yX1_mostSharedWith, Cond.selects RX1 yX1_mostSharedWith yX1_mostSharedWith, Cond.initialized RX1]
def wsX2_seam_r2 : List Cond := [Cond.code yX1_mostSharedWith cX1_mostSharedWith 5 (some .int), Cond.fieldLink RX1 15 "HemSuffixes$Stitches" "length" "I", Cond.methodLink RX1 33 Lib.Math.max.name, Cond.static Lib.Math.max.name, Cond.initialized "java/lang/Math", Cond.code Lib.Math.max.name Lib.Math.max.code 2 (some .int), Cond.methodLink RX1 29 yX1_sharedWith, Cond.instanceMethod yX1_sharedWith, Cond.selects RX1 yX1_sharedWith yX1_sharedWith, Cond.code yX1_sharedWith cX1_sharedWith 6 (some .int), Cond.methodLink RX1 19 Lib.Math.min.name, Cond.static Lib.Math.min.name, Cond.code Lib.Math.min.name Lib.Math.min.code 2 (some .int), Cond.methodLink RX1 25 yX1_at, Cond.instanceMethod yX1_at, Cond.selects RX1 yX1_at yX1_at, Cond.code yX1_at cX1_at 2 (some .int), Cond.fieldLink RX1 9 "HemSuffixes$Stitches" "kinds" "[I", Cond.methodLink RX2 118 yX1_firstPlaceOf, Cond.instanceMethod yX1_firstPlaceOf, Cond.selects RX1 yX1_firstPlaceOf yX1_firstPlaceOf, Cond.code yX1_firstPlaceOf cX1_firstPlaceOf 5 (some .int), Cond.methodLink RX1 36 yX1_standsAt, Cond.instanceMethod yX1_standsAt]
def wsX2_seam_r3 : List Cond := [Cond.selects RX1 yX1_standsAt yX1_standsAt, Cond.code yX1_standsAt cX1_standsAt 5 (some .boolean)]
def wsX2_seam : List Cond := .code yX2_seam cX2_seam 5 (some .int) :: ((wsX2_seam_r1 ++ (wsX2_seam_r2 ++ wsX2_seam_r3)) ++ wsX20 ++ wsX00 ++ wsX10 ++ (vx_atS RX2 96 "java/lang/IndexOutOfBoundsException" ["java/lang/RuntimeException", "java/lang/Exception"]).filter goodWord)
def wsX2_would_r1 : List Cond := [Cond.methodLink RX2 26 yX2_hemOf, Cond.instanceMethod yX2_hemOf, Cond.selects RX2 yX2_hemOf yX2_hemOf, Cond.initialized RX2, Cond.code yX2_hemOf cX2_hemOf 2 (some (.object "HemSuffixes$Hem")), Cond.classLink RX2 92 "java/lang/IndexOutOfBoundsException", Cond.initialized "java/lang/IndexOutOfBoundsException", Cond.fieldLink RX2 10 "HemSuffixes" "hemZero" "LHemSuffixes$Hem;", Cond.fieldLink RX2 16 "HemSuffixes" "hemOne" "LHemSuffixes$Hem;", Cond.methodLink RX2 30 yX2_requireStitch, Cond.static yX2_requireStitch, Cond.code yX2_requireStitch cX2_requireStitch 1 none, Cond.classLink RX2 51 "java/lang/IllegalArgumentException", Cond.initialized "java/lang/IllegalArgumentException", Cond.methodLink RX2 136 yX1_newRowsBy, Cond.instanceMethod yX1_newRowsBy, Cond.selects RX1 yX1_newRowsBy yX1_newRowsBy, Cond.initialized RX1, Cond.code yX1_newRowsBy cX1_newRowsBy 4 (some .int), Cond.fieldLink RX1 15 "HemSuffixes$Stitches" "length" "I", Cond.methodLink RX1 33 Lib.Math.max.name, Cond.static Lib.Math.max.name, Cond.initialized "java/lang/Math", Cond.code Lib.Math.max.name Lib.Math.max.code 2 (some .int)]
def wsX2_would_r2 : List Cond := [Cond.methodLink RX1 25 yX1_at, Cond.instanceMethod yX1_at, Cond.selects RX1 yX1_at yX1_at, Cond.code yX1_at cX1_at 2 (some .int), Cond.fieldLink RX1 9 "HemSuffixes$Stitches" "kinds" "[I", Cond.methodLink RX1 47 yX1_sharedBackwardsFrom, Cond.instanceMethod yX1_sharedBackwardsFrom, Cond.selects RX1 yX1_sharedBackwardsFrom yX1_sharedBackwardsFrom, Cond.code yX1_sharedBackwardsFrom cX1_sharedBackwardsFrom 3 (some .int)]
def wsX2_would : List Cond := .code yX2_would cX2_would 4 (some .int) :: ((wsX2_would_r1 ++ wsX2_would_r2) ++ wsX00 ++ wsX20 ++ wsX10 ++ (vx_atS RX2 96 "java/lang/IndexOutOfBoundsException" ["java/lang/RuntimeException", "java/lang/Exception"]).filter goodWord ++ (vx_atS RX2 55 "java/lang/IllegalArgumentException" ["java/lang/RuntimeException", "java/lang/Exception"]).filter goodWord)
def wsX2_advise_r1 : List Cond := [Cond.methodLink RX2 26 yX2_hemOf, Cond.instanceMethod yX2_hemOf, Cond.selects RX2 yX2_hemOf yX2_hemOf, Cond.initialized RX2, Cond.code yX2_hemOf cX2_hemOf 2 (some (.object "HemSuffixes$Hem")), Cond.classLink RX2 92 "java/lang/IndexOutOfBoundsException", Cond.initialized "java/lang/IndexOutOfBoundsException", Cond.fieldLink RX2 10 "HemSuffixes" "hemZero" "LHemSuffixes$Hem;", Cond.fieldLink RX2 16 "HemSuffixes" "hemOne" "LHemSuffixes$Hem;", Cond.methodLink RX2 136 yX1_newRowsBy, Cond.instanceMethod yX1_newRowsBy, Cond.selects RX1 yX1_newRowsBy yX1_newRowsBy, Cond.initialized RX1, Cond.code yX1_newRowsBy cX1_newRowsBy 4 (some .int), Cond.fieldLink RX1 15 "HemSuffixes$Stitches" "length" "I", Cond.methodLink RX1 33 Lib.Math.max.name, Cond.static Lib.Math.max.name, Cond.initialized "java/lang/Math", Cond.code Lib.Math.max.name Lib.Math.max.code 2 (some .int), Cond.methodLink RX1 25 yX1_at, Cond.instanceMethod yX1_at, Cond.selects RX1 yX1_at yX1_at, Cond.code yX1_at cX1_at 2 (some .int), Cond.fieldLink RX1 9 "HemSuffixes$Stitches" "kinds" "[I"]
def wsX2_advise_r2 : List Cond := [Cond.methodLink RX1 47 yX1_sharedBackwardsFrom, Cond.instanceMethod yX1_sharedBackwardsFrom, Cond.selects RX1 yX1_sharedBackwardsFrom yX1_sharedBackwardsFrom, Cond.code yX1_sharedBackwardsFrom cX1_sharedBackwardsFrom 3 (some .int)]
def wsX2_advise : List Cond := .code yX2_advise cX2_advise 7 (some .int) :: ((wsX2_advise_r1 ++ wsX2_advise_r2) ++ wsX00 ++ wsX20 ++ wsX10 ++ (vx_atS RX2 96 "java/lang/IndexOutOfBoundsException" ["java/lang/RuntimeException", "java/lang/Exception"]).filter goodWord)
def wsX2_mean_r1 : List Cond := [Cond.fieldLink RX2 10 "HemSuffixes" "hemZero" "LHemSuffixes$Hem;", Cond.fieldLink RX2 16 "HemSuffixes" "hemOne" "LHemSuffixes$Hem;", Cond.methodLink RX2 139 yX0_neighbourPairs, Cond.instanceMethod yX0_neighbourPairs, Cond.selects RX0 yX0_neighbourPairs yX0_neighbourPairs, Cond.initialized RX0, Cond.code yX0_neighbourPairs cX0_neighbourPairs 1 (some .int), Cond.fieldLink RX0 12 "HemSuffixes$Hem" "stitches" "LHemSuffixes$Stitches;", Cond.methodLink RX2 142 yX0_sharedByNeighbours, Cond.instanceMethod yX0_sharedByNeighbours, Cond.selects RX0 yX0_sharedByNeighbours yX0_sharedByNeighbours, Cond.code yX0_sharedByNeighbours cX0_sharedByNeighbours 3 (some .int), Cond.methodLink RX0 54 yX0_sharedWithNext, Cond.instanceMethod yX0_sharedWithNext, Cond.selects RX0 yX0_sharedWithNext yX0_sharedWithNext, Cond.code yX0_sharedWithNext cX0_sharedWithNext 4 (some .int), Cond.methodLink RX0 48 yX0_placeAt, Cond.instanceMethod yX0_placeAt, Cond.selects RX0 yX0_placeAt yX0_placeAt, Cond.code yX0_placeAt cX0_placeAt 2 (some .int), Cond.fieldLink RX0 18 "HemSuffixes$Hem" "placesInOrder" "[I", Cond.methodLink RX0 51 yX1_sharedWith, Cond.instanceMethod yX1_sharedWith, Cond.selects RX1 yX1_sharedWith yX1_sharedWith]
def wsX2_mean_r2 : List Cond := [Cond.initialized RX1, Cond.code yX1_sharedWith cX1_sharedWith 6 (some .int), Cond.fieldLink RX1 15 "HemSuffixes$Stitches" "length" "I", Cond.methodLink RX1 19 Lib.Math.min.name, Cond.static Lib.Math.min.name, Cond.initialized "java/lang/Math", Cond.code Lib.Math.min.name Lib.Math.min.code 2 (some .int), Cond.methodLink RX1 25 yX1_at, Cond.instanceMethod yX1_at, Cond.selects RX1 yX1_at yX1_at, Cond.code yX1_at cX1_at 2 (some .int), Cond.fieldLink RX1 9 "HemSuffixes$Stitches" "kinds" "[I"]
def wsX2_mean : List Cond := .code yX2_mean cX2_mean 3 (some .double) :: ((wsX2_mean_r1 ++ wsX2_mean_r2) ++ wsX20 ++ wsX00 ++ wsX10)
def wsX2_mixed : List Cond := .code yX2_mixed cX2_mixed 3 (some .long) :: ([.constantLong RX2 177 (31)])
def wsX2_stitchesMixed : List Cond := .code yX2_stitchesMixed cX2_stitchesMixed 6 (some .long) :: ([.methodLink RX2 78 yX1_at, .instanceMethod yX1_at, .selects RX1 yX1_at yX1_at, .initialized RX1, .code yX1_at cX1_at 2 (some .int), .fieldLink RX1 15 "HemSuffixes$Stitches" "length" "I", .fieldLink RX1 9 "HemSuffixes$Stitches" "kinds" "[I", .methodLink RX2 150 yX2_mixed, .static yX2_mixed, .initialized RX2, .code yX2_mixed cX2_mixed 3 (some .long), .constantLong RX2 177 (31)] ++ wsX10)
def wsX2_hemMixed_r1 : List Cond := [Cond.methodLink RX2 26 yX2_hemOf, Cond.instanceMethod yX2_hemOf, Cond.selects RX2 yX2_hemOf yX2_hemOf, Cond.initialized RX2, Cond.code yX2_hemOf cX2_hemOf 2 (some (.object "HemSuffixes$Hem")), Cond.classLink RX2 92 "java/lang/IndexOutOfBoundsException", Cond.initialized "java/lang/IndexOutOfBoundsException", Cond.fieldLink RX2 10 "HemSuffixes" "hemZero" "LHemSuffixes$Hem;", Cond.fieldLink RX2 16 "HemSuffixes" "hemOne" "LHemSuffixes$Hem;", Cond.methodLink RX2 157 yX2_stitchesMixed, Cond.static yX2_stitchesMixed, Cond.code yX2_stitchesMixed cX2_stitchesMixed 6 (some .long), Cond.methodLink RX2 78 yX1_at, Cond.instanceMethod yX1_at, Cond.selects RX1 yX1_at yX1_at, Cond.initialized RX1, Cond.code yX1_at cX1_at 2 (some .int), Cond.fieldLink RX1 15 "HemSuffixes$Stitches" "length" "I", Cond.fieldLink RX1 9 "HemSuffixes$Stitches" "kinds" "[I", Cond.methodLink RX2 150 yX2_mixed, Cond.static yX2_mixed, Cond.code yX2_mixed cX2_mixed 3 (some .long), Cond.constantLong RX2 177 (31), Cond.methodLink RX2 97 yX0_placeAt]
def wsX2_hemMixed_r2 : List Cond := [Cond.instanceMethod yX0_placeAt, Cond.selects RX0 yX0_placeAt yX0_placeAt, Cond.initialized RX0, Cond.code yX0_placeAt cX0_placeAt 2 (some .int), Cond.fieldLink RX0 12 "HemSuffixes$Hem" "stitches" "LHemSuffixes$Stitches;", Cond.fieldLink RX0 18 "HemSuffixes$Hem" "placesInOrder" "[I", Cond.methodLink RX2 164 yX2_repeat, Cond.instanceMethod yX2_repeat, Cond.selects RX2 yX2_repeat yX2_repeat, Cond.code yX2_repeat cX2_repeat 7 (some .int), Cond.methodLink RX2 112 yX0_repeatRank, Cond.instanceMethod yX0_repeatRank, Cond.selects RX0 yX0_repeatRank yX0_repeatRank, Cond.code yX0_repeatRank cX0_repeatRank 5 (some .int), Cond.methodLink RX0 54 yX0_sharedWithNext, Cond.instanceMethod yX0_sharedWithNext, Cond.selects RX0 yX0_sharedWithNext yX0_sharedWithNext, Cond.code yX0_sharedWithNext cX0_sharedWithNext 4 (some .int), Cond.methodLink RX0 48 yX0_placeAt, Cond.methodLink RX0 51 yX1_sharedWith, Cond.instanceMethod yX1_sharedWith, Cond.selects RX1 yX1_sharedWith yX1_sharedWith, Cond.code yX1_sharedWith cX1_sharedWith 6 (some .int), Cond.methodLink RX1 19 Lib.Math.min.name]
def wsX2_hemMixed_r3 : List Cond := [Cond.static Lib.Math.min.name, Cond.initialized "java/lang/Math", Cond.code Lib.Math.min.name Lib.Math.min.code 2 (some .int), Cond.methodLink RX1 25 yX1_at, Cond.methodLink RX2 115 yX0_sharedWithNext, Cond.methodLink RX2 118 yX1_firstPlaceOf, Cond.instanceMethod yX1_firstPlaceOf, Cond.selects RX1 yX1_firstPlaceOf yX1_firstPlaceOf, Cond.code yX1_firstPlaceOf cX1_firstPlaceOf 5 (some .int), Cond.methodLink RX1 36 yX1_standsAt, Cond.instanceMethod yX1_standsAt, Cond.selects RX1 yX1_standsAt yX1_standsAt, Cond.code yX1_standsAt cX1_standsAt 5 (some .boolean), Cond.methodLink RX1 29 yX1_sharedWith, Cond.methodLink RX2 122 yX1_placesOf, Cond.instanceMethod yX1_placesOf, Cond.selects RX1 yX1_placesOf yX1_placesOf, Cond.code yX1_placesOf cX1_placesOf 6 (some .int), Cond.methodLink RX2 168 yX2_period, Cond.instanceMethod yX2_period, Cond.selects RX2 yX2_period yX2_period, Cond.code yX2_period cX2_period 2 (some .int), Cond.methodLink RX2 130 yX1_leastPeriod, Cond.instanceMethod yX1_leastPeriod]
def wsX2_hemMixed_r4 : List Cond := [Cond.selects RX1 yX1_leastPeriod yX1_leastPeriod, Cond.code yX1_leastPeriod cX1_leastPeriod 2 (some .int), Cond.methodLink RX2 171 yX2_turned, Cond.instanceMethod yX2_turned, Cond.selects RX2 yX2_turned yX2_turned, Cond.code yX2_turned cX2_turned 2 (some .int), Cond.methodLink RX2 133 yX1_bestBeginning, Cond.instanceMethod yX1_bestBeginning, Cond.selects RX1 yX1_bestBeginning yX1_bestBeginning, Cond.code yX1_bestBeginning cX1_bestBeginning 3 (some .int), Cond.methodLink RX1 40 yX1_turnsToLess, Cond.instanceMethod yX1_turnsToLess, Cond.selects RX1 yX1_turnsToLess yX1_turnsToLess, Cond.code yX1_turnsToLess cX1_turnsToLess 6 (some .boolean), Cond.methodLink RX1 44 yX1_allAround, Cond.instanceMethod yX1_allAround, Cond.selects RX1 yX1_allAround yX1_allAround, Cond.code yX1_allAround cX1_allAround 2 (some .int), Cond.methodLink RX2 174 yX2_found, Cond.instanceMethod yX2_found, Cond.selects RX2 yX2_found yX2_found, Cond.code yX2_found cX2_found 2 (some .int), Cond.fieldLink RX2 22 "HemSuffixes" "sample" "LHemSuffixes$Stitches;"]
def wsX2_hemMixed : List Cond := .code yX2_hemMixed cX2_hemMixed 8 (some .long) :: ((wsX2_hemMixed_r1 ++ (wsX2_hemMixed_r2 ++ (wsX2_hemMixed_r3 ++ wsX2_hemMixed_r4))) ++ wsX00 ++ wsX10 ++ wsX20 ++ (vx_atS RX2 96 "java/lang/IndexOutOfBoundsException" ["java/lang/RuntimeException", "java/lang/Exception"]).filter goodWord)
def wsX2_digest_r1 : List Cond := [Cond.constantLong RX2 145 (1483), Cond.fieldLink RX2 22 "HemSuffixes" "sample" "LHemSuffixes$Stitches;", Cond.methodLink RX2 147 yX2_count, Cond.instanceMethod yX2_count, Cond.selects RX2 yX2_count yX2_count, Cond.initialized RX2, Cond.code yX2_count cX2_count 2 (some .int), Cond.classLink RX2 92 "java/lang/IndexOutOfBoundsException", Cond.initialized "java/lang/IndexOutOfBoundsException", Cond.fieldLink RX2 10 "HemSuffixes" "hemZero" "LHemSuffixes$Hem;", Cond.fieldLink RX2 16 "HemSuffixes" "hemOne" "LHemSuffixes$Hem;", Cond.methodLink RX2 82 yX0_differentRows, Cond.instanceMethod yX0_differentRows, Cond.selects RX0 yX0_differentRows yX0_differentRows, Cond.initialized RX0, Cond.code yX0_differentRows cX0_differentRows 3 (some .int), Cond.fieldLink RX0 12 "HemSuffixes$Hem" "stitches" "LHemSuffixes$Stitches;", Cond.methodLink RX0 57 yX0_rowsFirstAt, Cond.instanceMethod yX0_rowsFirstAt, Cond.selects RX0 yX0_rowsFirstAt yX0_rowsFirstAt, Cond.code yX0_rowsFirstAt cX0_rowsFirstAt 2 (some .int), Cond.methodLink RX0 48 yX0_placeAt, Cond.instanceMethod yX0_placeAt, Cond.selects RX0 yX0_placeAt yX0_placeAt]
def wsX2_digest_r2 : List Cond := [Cond.code yX0_placeAt cX0_placeAt 2 (some .int), Cond.fieldLink RX0 18 "HemSuffixes$Hem" "placesInOrder" "[I", Cond.methodLink RX0 54 yX0_sharedWithNext, Cond.instanceMethod yX0_sharedWithNext, Cond.selects RX0 yX0_sharedWithNext yX0_sharedWithNext, Cond.code yX0_sharedWithNext cX0_sharedWithNext 4 (some .int), Cond.methodLink RX0 51 yX1_sharedWith, Cond.instanceMethod yX1_sharedWith, Cond.selects RX1 yX1_sharedWith yX1_sharedWith, Cond.initialized RX1, Cond.code yX1_sharedWith cX1_sharedWith 6 (some .int), Cond.fieldLink RX1 15 "HemSuffixes$Stitches" "length" "I", Cond.methodLink RX1 19 Lib.Math.min.name, Cond.static Lib.Math.min.name, Cond.initialized "java/lang/Math", Cond.code Lib.Math.min.name Lib.Math.min.code 2 (some .int), Cond.methodLink RX1 25 yX1_at, Cond.instanceMethod yX1_at, Cond.selects RX1 yX1_at yX1_at, Cond.code yX1_at cX1_at 2 (some .int), Cond.fieldLink RX1 9 "HemSuffixes$Stitches" "kinds" "[I", Cond.methodLink RX2 86 yX2_seamPlace, Cond.instanceMethod yX2_seamPlace, Cond.selects RX2 yX2_seamPlace yX2_seamPlace]
def wsX2_digest_r3 : List Cond := [Cond.code yX2_seamPlace cX2_seamPlace 6 (some .int), Cond.methodLink RX2 97 yX0_placeAt, Cond.methodLink RX2 89 yX2_seamLengthFrom, Cond.instanceMethod yX2_seamLengthFrom, Cond.selects RX2 yX2_seamLengthFrom yX2_seamLengthFrom, Cond.code yX2_seamLengthFrom cX2_seamLengthFrom 2 (some .int), Cond.methodLink RX2 185 yX1_mostSharedWith, Cond.instanceMethod yX1_mostSharedWith, Cond.selects RX1 yX1_mostSharedWith yX1_mostSharedWith, Cond.code yX1_mostSharedWith cX1_mostSharedWith 5 (some .int), Cond.methodLink RX1 33 Lib.Math.max.name, Cond.static Lib.Math.max.name, Cond.code Lib.Math.max.name Lib.Math.max.code 2 (some .int), Cond.methodLink RX1 29 yX1_sharedWith, Cond.methodLink RX2 150 yX2_mixed, Cond.static yX2_mixed, Cond.code yX2_mixed cX2_mixed 3 (some .long), Cond.constantLong RX2 177 (31), Cond.methodLink RX2 154 yX2_hemMixed, Cond.instanceMethod yX2_hemMixed, Cond.selects RX2 yX2_hemMixed yX2_hemMixed, Cond.code yX2_hemMixed cX2_hemMixed 8 (some .long), Cond.methodLink RX2 26 yX2_hemOf, Cond.instanceMethod yX2_hemOf]
def wsX2_digest_r4 : List Cond := [Cond.selects RX2 yX2_hemOf yX2_hemOf, Cond.code yX2_hemOf cX2_hemOf 2 (some (.object "HemSuffixes$Hem")), Cond.methodLink RX2 157 yX2_stitchesMixed, Cond.static yX2_stitchesMixed, Cond.code yX2_stitchesMixed cX2_stitchesMixed 6 (some .long), Cond.methodLink RX2 78 yX1_at, Cond.methodLink RX2 164 yX2_repeat, Cond.instanceMethod yX2_repeat, Cond.selects RX2 yX2_repeat yX2_repeat, Cond.code yX2_repeat cX2_repeat 7 (some .int), Cond.methodLink RX2 112 yX0_repeatRank, Cond.instanceMethod yX0_repeatRank, Cond.selects RX0 yX0_repeatRank yX0_repeatRank, Cond.code yX0_repeatRank cX0_repeatRank 5 (some .int), Cond.methodLink RX2 115 yX0_sharedWithNext, Cond.methodLink RX2 118 yX1_firstPlaceOf, Cond.instanceMethod yX1_firstPlaceOf, Cond.selects RX1 yX1_firstPlaceOf yX1_firstPlaceOf, Cond.code yX1_firstPlaceOf cX1_firstPlaceOf 5 (some .int), Cond.methodLink RX1 36 yX1_standsAt, Cond.instanceMethod yX1_standsAt, Cond.selects RX1 yX1_standsAt yX1_standsAt, Cond.code yX1_standsAt cX1_standsAt 5 (some .boolean), Cond.methodLink RX2 122 yX1_placesOf]
def wsX2_digest_r5 : List Cond := [Cond.instanceMethod yX1_placesOf, Cond.selects RX1 yX1_placesOf yX1_placesOf, Cond.code yX1_placesOf cX1_placesOf 6 (some .int), Cond.methodLink RX2 168 yX2_period, Cond.instanceMethod yX2_period, Cond.selects RX2 yX2_period yX2_period, Cond.code yX2_period cX2_period 2 (some .int), Cond.methodLink RX2 130 yX1_leastPeriod, Cond.instanceMethod yX1_leastPeriod, Cond.selects RX1 yX1_leastPeriod yX1_leastPeriod, Cond.code yX1_leastPeriod cX1_leastPeriod 2 (some .int), Cond.methodLink RX2 171 yX2_turned, Cond.instanceMethod yX2_turned, Cond.selects RX2 yX2_turned yX2_turned, Cond.code yX2_turned cX2_turned 2 (some .int), Cond.methodLink RX2 133 yX1_bestBeginning, Cond.instanceMethod yX1_bestBeginning, Cond.selects RX1 yX1_bestBeginning yX1_bestBeginning, Cond.code yX1_bestBeginning cX1_bestBeginning 3 (some .int), Cond.methodLink RX1 40 yX1_turnsToLess, Cond.instanceMethod yX1_turnsToLess, Cond.selects RX1 yX1_turnsToLess yX1_turnsToLess, Cond.code yX1_turnsToLess cX1_turnsToLess 6 (some .boolean), Cond.methodLink RX1 44 yX1_allAround]
def wsX2_digest_r6 : List Cond := [Cond.instanceMethod yX1_allAround, Cond.selects RX1 yX1_allAround yX1_allAround, Cond.code yX1_allAround cX1_allAround 2 (some .int), Cond.methodLink RX2 174 yX2_found, Cond.instanceMethod yX2_found, Cond.selects RX2 yX2_found yX2_found, Cond.code yX2_found cX2_found 2 (some .int), Cond.methodLink RX2 161 yX2_seam, Cond.instanceMethod yX2_seam, Cond.selects RX2 yX2_seam yX2_seam, Cond.code yX2_seam cX2_seam 5 (some .int)]
def wsX2_digest : List Cond := .code yX2_digest cX2_digest 4 (some .long) :: ((wsX2_digest_r1 ++ (wsX2_digest_r2 ++ (wsX2_digest_r3 ++ (wsX2_digest_r4 ++ (wsX2_digest_r5 ++ wsX2_digest_r6))))) ++ wsX20 ++ wsX00 ++ wsX10 ++ (vx_atS RX2 96 "java/lang/IndexOutOfBoundsException" ["java/lang/RuntimeException", "java/lang/Exception"]).filter goodWord)
def wsX3_init : List Cond := .code yX3_init cX3_init 1 none :: ([.methodLink RX3 1 objectInit, .instanceMethod objectInit, .code objectInit ⟨#[0xb1]⟩ 1 none, .classLink RX3 9 "[[I", .arrayClass .int, .fieldLink RX3 11 "HemSuffixesModel" "hem" "[[I", .fieldLink RX3 14 "HemSuffixesModel" "size" "[I", .fieldLink RX3 18 "HemSuffixesModel" "sample" "[I", .fieldLink RX3 21 "HemSuffixesModel" "same" "[[I", .fieldLink RX3 24 "HemSuffixesModel" "places" "[I", .fieldLink RX3 27 "HemSuffixesModel" "both" "[[I"] ++ wsX30)
def wsX3_thrown : List Cond := .code yX3_thrown cX3_thrown 1 (some .int) :: ([.fieldLink RX3 30 "HemSuffixesModel" "thrown" "I"] ++ wsX30)
def wsX3_no : List Cond := .code yX3_no cX3_no 2 (some .int) :: ([.fieldLink RX3 30 "HemSuffixesModel" "thrown" "I"] ++ wsX30)
def wsX3_isIn : List Cond := .code yX3_isIn cX3_isIn 3 (some .boolean) :: ([])
def wsX3_isHem : List Cond := .code yX3_isHem cX3_isHem 1 (some .boolean) :: ([.methodLink RX3 34 yX3_isIn, .static yX3_isIn, .initialized RX3, .code yX3_isIn cX3_isIn 3 (some .boolean)])
def wsX3_isStitch : List Cond := .code yX3_isStitch cX3_isStitch 1 (some .boolean) :: ([.methodLink RX3 34 yX3_isIn, .static yX3_isIn, .initialized RX3, .code yX3_isIn cX3_isIn 3 (some .boolean)])
def wsX3_isPlace : List Cond := .code yX3_isPlace cX3_isPlace 3 (some .boolean) :: ([.fieldLink RX3 14 "HemSuffixesModel" "size" "[I", .methodLink RX3 38 yX3_isHem, .static yX3_isHem, .initialized RX3, .code yX3_isHem cX3_isHem 1 (some .boolean), .methodLink RX3 34 yX3_isIn, .static yX3_isIn, .code yX3_isIn cX3_isIn 3 (some .boolean)] ++ wsX30)
def wsX3_compare : List Cond := .code yX3_compare cX3_compare 7 none :: ([])
def wsX3_by : List Cond := .code yX3_by cX3_by 8 (some .int) :: ([])
def wsX3_isLess : List Cond := .code yX3_isLess cX3_isLess 4 (some .boolean) :: ([.fieldLink RX3 11 "HemSuffixesModel" "hem" "[[I", .fieldLink RX3 14 "HemSuffixesModel" "size" "[I", .fieldLink RX3 21 "HemSuffixesModel" "same" "[[I", .methodLink RX3 42 yX3_by, .static yX3_by, .initialized RX3, .code yX3_by cX3_by 8 (some .int)] ++ wsX30)
def wsX3_rankOf : List Cond := .code yX3_rankOf cX3_rankOf 5 (some .int) :: ([.fieldLink RX3 14 "HemSuffixesModel" "size" "[I", .methodLink RX3 46 yX3_isLess, .instanceMethod yX3_isLess, .selects RX3 yX3_isLess yX3_isLess, .initialized RX3, .code yX3_isLess cX3_isLess 4 (some .boolean), .fieldLink RX3 11 "HemSuffixesModel" "hem" "[[I", .fieldLink RX3 21 "HemSuffixesModel" "same" "[[I", .methodLink RX3 42 yX3_by, .static yX3_by, .code yX3_by cX3_by 8 (some .int)] ++ wsX30)
def wsX3_look : List Cond := .code yX3_look cX3_look 2 none :: ([.fieldLink RX3 11 "HemSuffixesModel" "hem" "[[I", .fieldLink RX3 14 "HemSuffixesModel" "size" "[I", .fieldLink RX3 21 "HemSuffixesModel" "same" "[[I", .methodLink RX3 49 yX3_compare, .static yX3_compare, .initialized RX3, .code yX3_compare cX3_compare 7 none] ++ wsX30)
def wsX3_order : List Cond := .code yX3_order cX3_order 3 none :: ([.fieldLink RX3 14 "HemSuffixesModel" "size" "[I", .fieldLink RX3 24 "HemSuffixesModel" "places" "[I", .methodLink RX3 53 yX3_look, .instanceMethod yX3_look, .selects RX3 yX3_look yX3_look, .initialized RX3, .code yX3_look cX3_look 2 none, .fieldLink RX3 11 "HemSuffixesModel" "hem" "[[I", .fieldLink RX3 21 "HemSuffixesModel" "same" "[[I", .methodLink RX3 49 yX3_compare, .static yX3_compare, .code yX3_compare cX3_compare 7 none, .methodLink RX3 57 yX3_rankOf, .instanceMethod yX3_rankOf, .selects RX3 yX3_rankOf yX3_rankOf, .code yX3_rankOf cX3_rankOf 5 (some .int), .methodLink RX3 46 yX3_isLess, .instanceMethod yX3_isLess, .selects RX3 yX3_isLess yX3_isLess, .code yX3_isLess cX3_isLess 4 (some .boolean), .methodLink RX3 42 yX3_by, .static yX3_by, .code yX3_by cX3_by 8 (some .int)] ++ wsX30)
def wsX3_lookAtBoth : List Cond := .code yX3_lookAtBoth cX3_lookAtBoth 1 none :: ([.fieldLink RX3 11 "HemSuffixesModel" "hem" "[[I", .fieldLink RX3 14 "HemSuffixesModel" "size" "[I", .fieldLink RX3 27 "HemSuffixesModel" "both" "[[I", .methodLink RX3 49 yX3_compare, .static yX3_compare, .initialized RX3, .code yX3_compare cX3_compare 7 none] ++ wsX30)
def wsX3_mostBefore : List Cond := .code yX3_mostBefore cX3_mostBefore 4 (some .int) :: ([.fieldLink RX3 21 "HemSuffixesModel" "same" "[[I", .methodLink RX3 61 Lib.Math.max.name, .static Lib.Math.max.name, .initialized "java/lang/Math", .code Lib.Math.max.name Lib.Math.max.code 2 (some .int)] ++ wsX30)
def wsX3_differentRows : List Cond := .code yX3_differentRows cX3_differentRows 4 (some .int) :: ([.fieldLink RX3 14 "HemSuffixesModel" "size" "[I", .methodLink RX3 53 yX3_look, .instanceMethod yX3_look, .selects RX3 yX3_look yX3_look, .initialized RX3, .code yX3_look cX3_look 2 none, .fieldLink RX3 11 "HemSuffixesModel" "hem" "[[I", .fieldLink RX3 21 "HemSuffixesModel" "same" "[[I", .methodLink RX3 49 yX3_compare, .static yX3_compare, .code yX3_compare cX3_compare 7 none, .methodLink RX3 66 yX3_mostBefore, .instanceMethod yX3_mostBefore, .selects RX3 yX3_mostBefore yX3_mostBefore, .code yX3_mostBefore cX3_mostBefore 4 (some .int), .methodLink RX3 61 Lib.Math.max.name, .static Lib.Math.max.name, .initialized "java/lang/Math", .code Lib.Math.max.name Lib.Math.max.code 2 (some .int)] ++ wsX30)
def wsX3_mostBeside : List Cond := .code yX3_mostBeside cX3_mostBeside 5 (some .int) :: ([.fieldLink RX3 14 "HemSuffixesModel" "size" "[I", .fieldLink RX3 21 "HemSuffixesModel" "same" "[[I", .methodLink RX3 61 Lib.Math.max.name, .static Lib.Math.max.name, .initialized "java/lang/Math", .code Lib.Math.max.name Lib.Math.max.code 2 (some .int)] ++ wsX30)
def wsX3_firstPlace : List Cond := .code yX3_firstPlace cX3_firstPlace 4 (some .int) :: ([.fieldLink RX3 21 "HemSuffixesModel" "same" "[[I"] ++ wsX30)
def wsX3_placesOf : List Cond := .code yX3_placesOf cX3_placesOf 6 (some .int) :: ([.fieldLink RX3 14 "HemSuffixesModel" "size" "[I", .fieldLink RX3 21 "HemSuffixesModel" "same" "[[I"] ++ wsX30)
def wsX3_repeatTold_r1 : List Cond := [Cond.fieldLink RX3 14 "HemSuffixesModel" "size" "[I", Cond.fieldLink RX3 21 "HemSuffixesModel" "same" "[[I", Cond.methodLink RX3 53 yX3_look, Cond.instanceMethod yX3_look, Cond.selects RX3 yX3_look yX3_look, Cond.initialized RX3, Cond.code yX3_look cX3_look 2 none, Cond.fieldLink RX3 11 "HemSuffixesModel" "hem" "[[I", Cond.methodLink RX3 49 yX3_compare, Cond.static yX3_compare, Cond.code yX3_compare cX3_compare 7 none, Cond.methodLink RX3 70 yX3_mostBeside, Cond.instanceMethod yX3_mostBeside, Cond.selects RX3 yX3_mostBeside yX3_mostBeside, Cond.code yX3_mostBeside cX3_mostBeside 5 (some .int), Cond.methodLink RX3 61 Lib.Math.max.name, Cond.static Lib.Math.max.name, Cond.initialized "java/lang/Math", Cond.code Lib.Math.max.name Lib.Math.max.code 2 (some .int), Cond.methodLink RX3 46 yX3_isLess, Cond.instanceMethod yX3_isLess, Cond.selects RX3 yX3_isLess yX3_isLess, Cond.code yX3_isLess cX3_isLess 4 (some .boolean), Cond.methodLink RX3 42 yX3_by]
def wsX3_repeatTold_r2 : List Cond := [Cond.static yX3_by, Cond.code yX3_by cX3_by 8 (some .int), Cond.methodLink RX3 73 yX3_placesOf, Cond.instanceMethod yX3_placesOf, Cond.selects RX3 yX3_placesOf yX3_placesOf, Cond.code yX3_placesOf cX3_placesOf 6 (some .int)]
def wsX3_repeatTold : List Cond := .code yX3_repeatTold cX3_repeatTold 7 (some .int) :: ((wsX3_repeatTold_r1 ++ wsX3_repeatTold_r2) ++ wsX30)
def wsX3_mostAcross : List Cond := .code yX3_mostAcross cX3_mostAcross 4 (some .int) :: ([.fieldLink RX3 14 "HemSuffixesModel" "size" "[I", .fieldLink RX3 27 "HemSuffixesModel" "both" "[[I", .methodLink RX3 61 Lib.Math.max.name, .static Lib.Math.max.name, .initialized "java/lang/Math", .code Lib.Math.max.name Lib.Math.max.code 2 (some .int)] ++ wsX30)
def wsX3_seamTold_r1 : List Cond := [Cond.fieldLink RX3 14 "HemSuffixesModel" "size" "[I", Cond.fieldLink RX3 21 "HemSuffixesModel" "same" "[[I", Cond.fieldLink RX3 27 "HemSuffixesModel" "both" "[[I", Cond.methodLink RX3 53 yX3_look, Cond.instanceMethod yX3_look, Cond.selects RX3 yX3_look yX3_look, Cond.initialized RX3, Cond.code yX3_look cX3_look 2 none, Cond.fieldLink RX3 11 "HemSuffixesModel" "hem" "[[I", Cond.methodLink RX3 49 yX3_compare, Cond.static yX3_compare, Cond.code yX3_compare cX3_compare 7 none, Cond.methodLink RX3 77 yX3_lookAtBoth, Cond.instanceMethod yX3_lookAtBoth, Cond.selects RX3 yX3_lookAtBoth yX3_lookAtBoth, Cond.code yX3_lookAtBoth cX3_lookAtBoth 1 none, Cond.methodLink RX3 80 yX3_mostAcross, Cond.instanceMethod yX3_mostAcross, Cond.selects RX3 yX3_mostAcross yX3_mostAcross, Cond.code yX3_mostAcross cX3_mostAcross 4 (some .int), Cond.methodLink RX3 61 Lib.Math.max.name, Cond.static Lib.Math.max.name, Cond.initialized "java/lang/Math", Cond.code Lib.Math.max.name Lib.Math.max.code 2 (some .int)]
def wsX3_seamTold_r2 : List Cond := [Cond.methodLink RX3 46 yX3_isLess, Cond.instanceMethod yX3_isLess, Cond.selects RX3 yX3_isLess yX3_isLess, Cond.code yX3_isLess cX3_isLess 4 (some .boolean), Cond.methodLink RX3 42 yX3_by, Cond.static yX3_by, Cond.code yX3_by cX3_by 8 (some .int)]
def wsX3_seamTold : List Cond := .code yX3_seamTold cX3_seamTold 6 (some .int) :: ((wsX3_seamTold_r1 ++ wsX3_seamTold_r2) ++ wsX30)
def wsX3_isSampleAt : List Cond := .code yX3_isSampleAt cX3_isSampleAt 4 (some .boolean) :: ([.fieldLink RX3 83 "HemSuffixesModel" "samples" "I", .fieldLink RX3 14 "HemSuffixesModel" "size" "[I", .fieldLink RX3 11 "HemSuffixesModel" "hem" "[[I", .fieldLink RX3 18 "HemSuffixesModel" "sample" "[I"] ++ wsX30)
def wsX3_foundIn : List Cond := .code yX3_foundIn cX3_foundIn 4 (some .int) :: ([.fieldLink RX3 14 "HemSuffixesModel" "size" "[I", .methodLink RX3 86 yX3_isSampleAt, .instanceMethod yX3_isSampleAt, .selects RX3 yX3_isSampleAt yX3_isSampleAt, .initialized RX3, .code yX3_isSampleAt cX3_isSampleAt 4 (some .boolean), .fieldLink RX3 83 "HemSuffixesModel" "samples" "I", .fieldLink RX3 11 "HemSuffixesModel" "hem" "[[I", .fieldLink RX3 18 "HemSuffixesModel" "sample" "[I"] ++ wsX30)
def wsX3_isPeriod : List Cond := .code yX3_isPeriod cX3_isPeriod 4 (some .boolean) :: ([.fieldLink RX3 14 "HemSuffixesModel" "size" "[I", .fieldLink RX3 11 "HemSuffixesModel" "hem" "[[I"] ++ wsX30)
def wsX3_periodOf : List Cond := .code yX3_periodOf cX3_periodOf 3 (some .int) :: ([.fieldLink RX3 14 "HemSuffixesModel" "size" "[I", .methodLink RX3 90 Lib.Math.min.name, .static Lib.Math.min.name, .initialized "java/lang/Math", .code Lib.Math.min.name Lib.Math.min.code 2 (some .int), .methodLink RX3 93 yX3_isPeriod, .instanceMethod yX3_isPeriod, .selects RX3 yX3_isPeriod yX3_isPeriod, .initialized RX3, .code yX3_isPeriod cX3_isPeriod 4 (some .boolean), .fieldLink RX3 11 "HemSuffixesModel" "hem" "[[I"] ++ wsX30)
def wsX3_isLessAround : List Cond := .code yX3_isLessAround cX3_isLessAround 8 (some .boolean) :: ([.fieldLink RX3 14 "HemSuffixesModel" "size" "[I", .fieldLink RX3 11 "HemSuffixesModel" "hem" "[[I"] ++ wsX30)
def wsX3_turnedOf : List Cond := .code yX3_turnedOf cX3_turnedOf 4 (some .int) :: ([.fieldLink RX3 14 "HemSuffixesModel" "size" "[I", .methodLink RX3 96 yX3_isLessAround, .instanceMethod yX3_isLessAround, .selects RX3 yX3_isLessAround yX3_isLessAround, .initialized RX3, .code yX3_isLessAround cX3_isLessAround 8 (some .boolean), .fieldLink RX3 11 "HemSuffixesModel" "hem" "[[I"] ++ wsX30)
def wsX3_more : List Cond := .code yX3_more cX3_more 7 (some .int) :: ([.fieldLink RX3 14 "HemSuffixesModel" "size" "[I", .fieldLink RX3 11 "HemSuffixesModel" "hem" "[[I", .methodLink RX3 61 Lib.Math.max.name, .static Lib.Math.max.name, .initialized "java/lang/Math", .code Lib.Math.max.name Lib.Math.max.code 2 (some .int)] ++ wsX30)
def wsX3_sew : List Cond := .code yX3_sew cX3_sew 3 (some .int) :: ([.fieldLink RX3 30 "HemSuffixesModel" "thrown" "I", .fieldLink RX3 14 "HemSuffixesModel" "size" "[I", .fieldLink RX3 11 "HemSuffixesModel" "hem" "[[I", .methodLink RX3 38 yX3_isHem, .static yX3_isHem, .initialized RX3, .code yX3_isHem cX3_isHem 1 (some .boolean), .methodLink RX3 34 yX3_isIn, .static yX3_isIn, .code yX3_isIn cX3_isIn 3 (some .boolean), .methodLink RX3 99 yX3_no, .instanceMethod yX3_no, .selects RX3 yX3_no yX3_no, .code yX3_no cX3_no 2 (some .int), .methodLink RX3 102 yX3_isStitch, .static yX3_isStitch, .code yX3_isStitch cX3_isStitch 1 (some .boolean)] ++ wsX30)
def wsX3_again : List Cond := .code yX3_again cX3_again 5 (some .int) :: ([.fieldLink RX3 30 "HemSuffixesModel" "thrown" "I", .fieldLink RX3 14 "HemSuffixesModel" "size" "[I", .fieldLink RX3 11 "HemSuffixesModel" "hem" "[[I", .methodLink RX3 38 yX3_isHem, .static yX3_isHem, .initialized RX3, .code yX3_isHem cX3_isHem 1 (some .boolean), .methodLink RX3 34 yX3_isIn, .static yX3_isIn, .code yX3_isIn cX3_isIn 3 (some .boolean), .methodLink RX3 99 yX3_no, .instanceMethod yX3_no, .selects RX3 yX3_no yX3_no, .code yX3_no cX3_no 2 (some .int)] ++ wsX30)
def wsX3_unpick : List Cond := .code yX3_unpick cX3_unpick 3 (some .int) :: ([.fieldLink RX3 30 "HemSuffixesModel" "thrown" "I", .fieldLink RX3 14 "HemSuffixesModel" "size" "[I", .methodLink RX3 38 yX3_isHem, .static yX3_isHem, .initialized RX3, .code yX3_isHem cX3_isHem 1 (some .boolean), .methodLink RX3 34 yX3_isIn, .static yX3_isIn, .code yX3_isIn cX3_isIn 3 (some .boolean), .methodLink RX3 99 yX3_no, .instanceMethod yX3_no, .selects RX3 yX3_no yX3_no, .code yX3_no cX3_no 2 (some .int)] ++ wsX30)
def wsX3_add : List Cond := .code yX3_add cX3_add 2 (some .int) :: ([.fieldLink RX3 30 "HemSuffixesModel" "thrown" "I", .fieldLink RX3 83 "HemSuffixesModel" "samples" "I", .fieldLink RX3 18 "HemSuffixesModel" "sample" "[I", .methodLink RX3 102 yX3_isStitch, .static yX3_isStitch, .initialized RX3, .code yX3_isStitch cX3_isStitch 1 (some .boolean), .methodLink RX3 34 yX3_isIn, .static yX3_isIn, .code yX3_isIn cX3_isIn 3 (some .boolean), .methodLink RX3 99 yX3_no, .instanceMethod yX3_no, .selects RX3 yX3_no yX3_no, .code yX3_no cX3_no 2 (some .int)] ++ wsX30)
def wsX3_clear : List Cond := .code yX3_clear cX3_clear 2 (some .int) :: ([.fieldLink RX3 30 "HemSuffixesModel" "thrown" "I", .fieldLink RX3 83 "HemSuffixesModel" "samples" "I"] ++ wsX30)
def wsX3_stitch : List Cond := .code yX3_stitch cX3_stitch 3 (some .int) :: ([.fieldLink RX3 30 "HemSuffixesModel" "thrown" "I", .fieldLink RX3 11 "HemSuffixesModel" "hem" "[[I", .methodLink RX3 105 yX3_isPlace, .instanceMethod yX3_isPlace, .selects RX3 yX3_isPlace yX3_isPlace, .initialized RX3, .code yX3_isPlace cX3_isPlace 3 (some .boolean), .fieldLink RX3 14 "HemSuffixesModel" "size" "[I", .methodLink RX3 38 yX3_isHem, .static yX3_isHem, .code yX3_isHem cX3_isHem 1 (some .boolean), .methodLink RX3 34 yX3_isIn, .static yX3_isIn, .code yX3_isIn cX3_isIn 3 (some .boolean), .methodLink RX3 99 yX3_no, .instanceMethod yX3_no, .selects RX3 yX3_no yX3_no, .code yX3_no cX3_no 2 (some .int)] ++ wsX30)
def wsX3_counted_r1 : List Cond := [Cond.fieldLink RX3 14 "HemSuffixesModel" "size" "[I", Cond.fieldLink RX3 83 "HemSuffixesModel" "samples" "I", Cond.methodLink RX3 108 yX3_differentRows, Cond.instanceMethod yX3_differentRows, Cond.selects RX3 yX3_differentRows yX3_differentRows, Cond.initialized RX3, Cond.code yX3_differentRows cX3_differentRows 4 (some .int), Cond.methodLink RX3 53 yX3_look, Cond.instanceMethod yX3_look, Cond.selects RX3 yX3_look yX3_look, Cond.code yX3_look cX3_look 2 none, Cond.fieldLink RX3 11 "HemSuffixesModel" "hem" "[[I", Cond.fieldLink RX3 21 "HemSuffixesModel" "same" "[[I", Cond.methodLink RX3 49 yX3_compare, Cond.static yX3_compare, Cond.code yX3_compare cX3_compare 7 none, Cond.methodLink RX3 66 yX3_mostBefore, Cond.instanceMethod yX3_mostBefore, Cond.selects RX3 yX3_mostBefore yX3_mostBefore, Cond.code yX3_mostBefore cX3_mostBefore 4 (some .int), Cond.methodLink RX3 61 Lib.Math.max.name, Cond.static Lib.Math.max.name, Cond.initialized "java/lang/Math", Cond.code Lib.Math.max.name Lib.Math.max.code 2 (some .int)]
def wsX3_counted_r2 : List Cond := [Cond.methodLink RX3 111 yX3_seamTold, Cond.instanceMethod yX3_seamTold, Cond.selects RX3 yX3_seamTold yX3_seamTold, Cond.code yX3_seamTold cX3_seamTold 6 (some .int), Cond.fieldLink RX3 27 "HemSuffixesModel" "both" "[[I", Cond.methodLink RX3 77 yX3_lookAtBoth, Cond.instanceMethod yX3_lookAtBoth, Cond.selects RX3 yX3_lookAtBoth yX3_lookAtBoth, Cond.code yX3_lookAtBoth cX3_lookAtBoth 1 none, Cond.methodLink RX3 80 yX3_mostAcross, Cond.instanceMethod yX3_mostAcross, Cond.selects RX3 yX3_mostAcross yX3_mostAcross, Cond.code yX3_mostAcross cX3_mostAcross 4 (some .int), Cond.methodLink RX3 46 yX3_isLess, Cond.instanceMethod yX3_isLess, Cond.selects RX3 yX3_isLess yX3_isLess, Cond.code yX3_isLess cX3_isLess 4 (some .boolean), Cond.methodLink RX3 42 yX3_by, Cond.static yX3_by, Cond.code yX3_by cX3_by 8 (some .int)]
def wsX3_counted : List Cond := .code yX3_counted cX3_counted 2 (some .int) :: ((wsX3_counted_r1 ++ wsX3_counted_r2) ++ wsX30)
def wsX3_count_r1 : List Cond := [Cond.fieldLink RX3 30 "HemSuffixesModel" "thrown" "I", Cond.methodLink RX3 34 yX3_isIn, Cond.static yX3_isIn, Cond.initialized RX3, Cond.code yX3_isIn cX3_isIn 3 (some .boolean), Cond.methodLink RX3 114 yX3_counted, Cond.instanceMethod yX3_counted, Cond.selects RX3 yX3_counted yX3_counted, Cond.code yX3_counted cX3_counted 2 (some .int), Cond.fieldLink RX3 14 "HemSuffixesModel" "size" "[I", Cond.fieldLink RX3 83 "HemSuffixesModel" "samples" "I", Cond.methodLink RX3 108 yX3_differentRows, Cond.instanceMethod yX3_differentRows, Cond.selects RX3 yX3_differentRows yX3_differentRows, Cond.code yX3_differentRows cX3_differentRows 4 (some .int), Cond.methodLink RX3 53 yX3_look, Cond.instanceMethod yX3_look, Cond.selects RX3 yX3_look yX3_look, Cond.code yX3_look cX3_look 2 none, Cond.fieldLink RX3 11 "HemSuffixesModel" "hem" "[[I", Cond.fieldLink RX3 21 "HemSuffixesModel" "same" "[[I", Cond.methodLink RX3 49 yX3_compare, Cond.static yX3_compare, Cond.code yX3_compare cX3_compare 7 none]
def wsX3_count_r2 : List Cond := [Cond.methodLink RX3 66 yX3_mostBefore, Cond.instanceMethod yX3_mostBefore, Cond.selects RX3 yX3_mostBefore yX3_mostBefore, Cond.code yX3_mostBefore cX3_mostBefore 4 (some .int), Cond.methodLink RX3 61 Lib.Math.max.name, Cond.static Lib.Math.max.name, Cond.initialized "java/lang/Math", Cond.code Lib.Math.max.name Lib.Math.max.code 2 (some .int), Cond.methodLink RX3 111 yX3_seamTold, Cond.instanceMethod yX3_seamTold, Cond.selects RX3 yX3_seamTold yX3_seamTold, Cond.code yX3_seamTold cX3_seamTold 6 (some .int), Cond.fieldLink RX3 27 "HemSuffixesModel" "both" "[[I", Cond.methodLink RX3 77 yX3_lookAtBoth, Cond.instanceMethod yX3_lookAtBoth, Cond.selects RX3 yX3_lookAtBoth yX3_lookAtBoth, Cond.code yX3_lookAtBoth cX3_lookAtBoth 1 none, Cond.methodLink RX3 80 yX3_mostAcross, Cond.instanceMethod yX3_mostAcross, Cond.selects RX3 yX3_mostAcross yX3_mostAcross, Cond.code yX3_mostAcross cX3_mostAcross 4 (some .int), Cond.methodLink RX3 46 yX3_isLess, Cond.instanceMethod yX3_isLess, Cond.selects RX3 yX3_isLess yX3_isLess]
def wsX3_count_r3 : List Cond := [Cond.code yX3_isLess cX3_isLess 4 (some .boolean), Cond.methodLink RX3 42 yX3_by, Cond.static yX3_by, Cond.code yX3_by cX3_by 8 (some .int), Cond.methodLink RX3 99 yX3_no, Cond.instanceMethod yX3_no, Cond.selects RX3 yX3_no yX3_no, Cond.code yX3_no cX3_no 2 (some .int)]
def wsX3_count : List Cond := .code yX3_count cX3_count 2 (some .int) :: ((wsX3_count_r1 ++ (wsX3_count_r2 ++ wsX3_count_r3)) ++ wsX30)
def wsX3_end_r1 : List Cond := [Cond.fieldLink RX3 30 "HemSuffixesModel" "thrown" "I", Cond.fieldLink RX3 24 "HemSuffixesModel" "places" "[I", Cond.methodLink RX3 105 yX3_isPlace, Cond.instanceMethod yX3_isPlace, Cond.selects RX3 yX3_isPlace yX3_isPlace, Cond.initialized RX3, Cond.code yX3_isPlace cX3_isPlace 3 (some .boolean), Cond.fieldLink RX3 14 "HemSuffixesModel" "size" "[I", Cond.methodLink RX3 38 yX3_isHem, Cond.static yX3_isHem, Cond.code yX3_isHem cX3_isHem 1 (some .boolean), Cond.methodLink RX3 34 yX3_isIn, Cond.static yX3_isIn, Cond.code yX3_isIn cX3_isIn 3 (some .boolean), Cond.methodLink RX3 99 yX3_no, Cond.instanceMethod yX3_no, Cond.selects RX3 yX3_no yX3_no, Cond.code yX3_no cX3_no 2 (some .int), Cond.methodLink RX3 117 yX3_order, Cond.instanceMethod yX3_order, Cond.selects RX3 yX3_order yX3_order, Cond.code yX3_order cX3_order 3 none, Cond.methodLink RX3 53 yX3_look, Cond.instanceMethod yX3_look]
def wsX3_end_r2 : List Cond := [Cond.selects RX3 yX3_look yX3_look, Cond.code yX3_look cX3_look 2 none, Cond.fieldLink RX3 11 "HemSuffixesModel" "hem" "[[I", Cond.fieldLink RX3 21 "HemSuffixesModel" "same" "[[I", Cond.methodLink RX3 49 yX3_compare, Cond.static yX3_compare, Cond.code yX3_compare cX3_compare 7 none, Cond.methodLink RX3 57 yX3_rankOf, Cond.instanceMethod yX3_rankOf, Cond.selects RX3 yX3_rankOf yX3_rankOf, Cond.code yX3_rankOf cX3_rankOf 5 (some .int), Cond.methodLink RX3 46 yX3_isLess, Cond.instanceMethod yX3_isLess, Cond.selects RX3 yX3_isLess yX3_isLess, Cond.code yX3_isLess cX3_isLess 4 (some .boolean), Cond.methodLink RX3 42 yX3_by, Cond.static yX3_by, Cond.code yX3_by cX3_by 8 (some .int)]
def wsX3_end : List Cond := .code yX3_end cX3_end 3 (some .int) :: ((wsX3_end_r1 ++ wsX3_end_r2) ++ wsX30)
def wsX3_rank_r1 : List Cond := [Cond.fieldLink RX3 30 "HemSuffixesModel" "thrown" "I", Cond.methodLink RX3 105 yX3_isPlace, Cond.instanceMethod yX3_isPlace, Cond.selects RX3 yX3_isPlace yX3_isPlace, Cond.initialized RX3, Cond.code yX3_isPlace cX3_isPlace 3 (some .boolean), Cond.fieldLink RX3 14 "HemSuffixesModel" "size" "[I", Cond.methodLink RX3 38 yX3_isHem, Cond.static yX3_isHem, Cond.code yX3_isHem cX3_isHem 1 (some .boolean), Cond.methodLink RX3 34 yX3_isIn, Cond.static yX3_isIn, Cond.code yX3_isIn cX3_isIn 3 (some .boolean), Cond.methodLink RX3 99 yX3_no, Cond.instanceMethod yX3_no, Cond.selects RX3 yX3_no yX3_no, Cond.code yX3_no cX3_no 2 (some .int), Cond.methodLink RX3 53 yX3_look, Cond.instanceMethod yX3_look, Cond.selects RX3 yX3_look yX3_look, Cond.code yX3_look cX3_look 2 none, Cond.fieldLink RX3 11 "HemSuffixesModel" "hem" "[[I", Cond.fieldLink RX3 21 "HemSuffixesModel" "same" "[[I", Cond.methodLink RX3 49 yX3_compare]
def wsX3_rank_r2 : List Cond := [Cond.static yX3_compare, Cond.code yX3_compare cX3_compare 7 none, Cond.methodLink RX3 57 yX3_rankOf, Cond.instanceMethod yX3_rankOf, Cond.selects RX3 yX3_rankOf yX3_rankOf, Cond.code yX3_rankOf cX3_rankOf 5 (some .int), Cond.methodLink RX3 46 yX3_isLess, Cond.instanceMethod yX3_isLess, Cond.selects RX3 yX3_isLess yX3_isLess, Cond.code yX3_isLess cX3_isLess 4 (some .boolean), Cond.methodLink RX3 42 yX3_by, Cond.static yX3_by, Cond.code yX3_by cX3_by 8 (some .int)]
def wsX3_rank : List Cond := .code yX3_rank cX3_rank 3 (some .int) :: ((wsX3_rank_r1 ++ wsX3_rank_r2) ++ wsX30)
def wsX3_common_r1 : List Cond := [Cond.fieldLink RX3 30 "HemSuffixesModel" "thrown" "I", Cond.fieldLink RX3 21 "HemSuffixesModel" "same" "[[I", Cond.methodLink RX3 105 yX3_isPlace, Cond.instanceMethod yX3_isPlace, Cond.selects RX3 yX3_isPlace yX3_isPlace, Cond.initialized RX3, Cond.code yX3_isPlace cX3_isPlace 3 (some .boolean), Cond.fieldLink RX3 14 "HemSuffixesModel" "size" "[I", Cond.methodLink RX3 38 yX3_isHem, Cond.static yX3_isHem, Cond.code yX3_isHem cX3_isHem 1 (some .boolean), Cond.methodLink RX3 34 yX3_isIn, Cond.static yX3_isIn, Cond.code yX3_isIn cX3_isIn 3 (some .boolean), Cond.methodLink RX3 99 yX3_no, Cond.instanceMethod yX3_no, Cond.selects RX3 yX3_no yX3_no, Cond.code yX3_no cX3_no 2 (some .int), Cond.methodLink RX3 53 yX3_look, Cond.instanceMethod yX3_look, Cond.selects RX3 yX3_look yX3_look, Cond.code yX3_look cX3_look 2 none, Cond.fieldLink RX3 11 "HemSuffixesModel" "hem" "[[I", Cond.methodLink RX3 49 yX3_compare]
def wsX3_common_r2 : List Cond := [Cond.static yX3_compare, Cond.code yX3_compare cX3_compare 7 none]
def wsX3_common : List Cond := .code yX3_common cX3_common 4 (some .int) :: ((wsX3_common_r1 ++ wsX3_common_r2) ++ wsX30)
def wsX3_against_r1 : List Cond := [Cond.fieldLink RX3 30 "HemSuffixesModel" "thrown" "I", Cond.fieldLink RX3 11 "HemSuffixesModel" "hem" "[[I", Cond.fieldLink RX3 14 "HemSuffixesModel" "size" "[I", Cond.fieldLink RX3 27 "HemSuffixesModel" "both" "[[I", Cond.methodLink RX3 105 yX3_isPlace, Cond.instanceMethod yX3_isPlace, Cond.selects RX3 yX3_isPlace yX3_isPlace, Cond.initialized RX3, Cond.code yX3_isPlace cX3_isPlace 3 (some .boolean), Cond.methodLink RX3 38 yX3_isHem, Cond.static yX3_isHem, Cond.code yX3_isHem cX3_isHem 1 (some .boolean), Cond.methodLink RX3 34 yX3_isIn, Cond.static yX3_isIn, Cond.code yX3_isIn cX3_isIn 3 (some .boolean), Cond.methodLink RX3 99 yX3_no, Cond.instanceMethod yX3_no, Cond.selects RX3 yX3_no yX3_no, Cond.code yX3_no cX3_no 2 (some .int), Cond.methodLink RX3 77 yX3_lookAtBoth, Cond.instanceMethod yX3_lookAtBoth, Cond.selects RX3 yX3_lookAtBoth yX3_lookAtBoth, Cond.code yX3_lookAtBoth cX3_lookAtBoth 1 none, Cond.methodLink RX3 49 yX3_compare]
def wsX3_against_r2 : List Cond := [Cond.static yX3_compare, Cond.code yX3_compare cX3_compare 7 none, Cond.methodLink RX3 42 yX3_by, Cond.static yX3_by, Cond.code yX3_by cX3_by 8 (some .int)]
def wsX3_against : List Cond := .code yX3_against cX3_against 3 (some .int) :: ((wsX3_against_r1 ++ wsX3_against_r2) ++ wsX30)
def wsX3_repeat_r1 : List Cond := [Cond.fieldLink RX3 30 "HemSuffixesModel" "thrown" "I", Cond.methodLink RX3 38 yX3_isHem, Cond.static yX3_isHem, Cond.initialized RX3, Cond.code yX3_isHem cX3_isHem 1 (some .boolean), Cond.methodLink RX3 34 yX3_isIn, Cond.static yX3_isIn, Cond.code yX3_isIn cX3_isIn 3 (some .boolean), Cond.methodLink RX3 120 yX3_repeatTold, Cond.instanceMethod yX3_repeatTold, Cond.selects RX3 yX3_repeatTold yX3_repeatTold, Cond.code yX3_repeatTold cX3_repeatTold 7 (some .int), Cond.fieldLink RX3 14 "HemSuffixesModel" "size" "[I", Cond.fieldLink RX3 21 "HemSuffixesModel" "same" "[[I", Cond.methodLink RX3 53 yX3_look, Cond.instanceMethod yX3_look, Cond.selects RX3 yX3_look yX3_look, Cond.code yX3_look cX3_look 2 none, Cond.fieldLink RX3 11 "HemSuffixesModel" "hem" "[[I", Cond.methodLink RX3 49 yX3_compare, Cond.static yX3_compare, Cond.code yX3_compare cX3_compare 7 none, Cond.methodLink RX3 70 yX3_mostBeside, Cond.instanceMethod yX3_mostBeside]
def wsX3_repeat_r2 : List Cond := [Cond.selects RX3 yX3_mostBeside yX3_mostBeside, Cond.code yX3_mostBeside cX3_mostBeside 5 (some .int), Cond.methodLink RX3 61 Lib.Math.max.name, Cond.static Lib.Math.max.name, Cond.initialized "java/lang/Math", Cond.code Lib.Math.max.name Lib.Math.max.code 2 (some .int), Cond.methodLink RX3 46 yX3_isLess, Cond.instanceMethod yX3_isLess, Cond.selects RX3 yX3_isLess yX3_isLess, Cond.code yX3_isLess cX3_isLess 4 (some .boolean), Cond.methodLink RX3 42 yX3_by, Cond.static yX3_by, Cond.code yX3_by cX3_by 8 (some .int), Cond.methodLink RX3 73 yX3_placesOf, Cond.instanceMethod yX3_placesOf, Cond.selects RX3 yX3_placesOf yX3_placesOf, Cond.code yX3_placesOf cX3_placesOf 6 (some .int), Cond.methodLink RX3 99 yX3_no, Cond.instanceMethod yX3_no, Cond.selects RX3 yX3_no yX3_no, Cond.code yX3_no cX3_no 2 (some .int)]
def wsX3_repeat : List Cond := .code yX3_repeat cX3_repeat 3 (some .int) :: ((wsX3_repeat_r1 ++ wsX3_repeat_r2) ++ wsX30)
def wsX3_row_r1 : List Cond := [Cond.fieldLink RX3 30 "HemSuffixesModel" "thrown" "I", Cond.fieldLink RX3 14 "HemSuffixesModel" "size" "[I", Cond.fieldLink RX3 24 "HemSuffixesModel" "places" "[I", Cond.fieldLink RX3 21 "HemSuffixesModel" "same" "[[I", Cond.methodLink RX3 38 yX3_isHem, Cond.static yX3_isHem, Cond.initialized RX3, Cond.code yX3_isHem cX3_isHem 1 (some .boolean), Cond.methodLink RX3 34 yX3_isIn, Cond.static yX3_isIn, Cond.code yX3_isIn cX3_isIn 3 (some .boolean), Cond.methodLink RX3 99 yX3_no, Cond.instanceMethod yX3_no, Cond.selects RX3 yX3_no yX3_no, Cond.code yX3_no cX3_no 2 (some .int), Cond.methodLink RX3 117 yX3_order, Cond.instanceMethod yX3_order, Cond.selects RX3 yX3_order yX3_order, Cond.code yX3_order cX3_order 3 none, Cond.methodLink RX3 53 yX3_look, Cond.instanceMethod yX3_look, Cond.selects RX3 yX3_look yX3_look, Cond.code yX3_look cX3_look 2 none, Cond.fieldLink RX3 11 "HemSuffixesModel" "hem" "[[I"]
def wsX3_row_r2 : List Cond := [Cond.methodLink RX3 49 yX3_compare, Cond.static yX3_compare, Cond.code yX3_compare cX3_compare 7 none, Cond.methodLink RX3 57 yX3_rankOf, Cond.instanceMethod yX3_rankOf, Cond.selects RX3 yX3_rankOf yX3_rankOf, Cond.code yX3_rankOf cX3_rankOf 5 (some .int), Cond.methodLink RX3 46 yX3_isLess, Cond.instanceMethod yX3_isLess, Cond.selects RX3 yX3_isLess yX3_isLess, Cond.code yX3_isLess cX3_isLess 4 (some .boolean), Cond.methodLink RX3 42 yX3_by, Cond.static yX3_by, Cond.code yX3_by cX3_by 8 (some .int), Cond.methodLink RX3 123 yX3_firstPlace, Cond.instanceMethod yX3_firstPlace, Cond.selects RX3 yX3_firstPlace yX3_firstPlace, Cond.code yX3_firstPlace cX3_firstPlace 4 (some .int)]
def wsX3_row : List Cond := .code yX3_row cX3_row 8 (some .int) :: ((wsX3_row_r1 ++ wsX3_row_r2) ++ wsX30)
def wsX3_found : List Cond := .code yX3_found cX3_found 2 (some .int) :: ([.fieldLink RX3 30 "HemSuffixesModel" "thrown" "I", .methodLink RX3 38 yX3_isHem, .static yX3_isHem, .initialized RX3, .code yX3_isHem cX3_isHem 1 (some .boolean), .methodLink RX3 34 yX3_isIn, .static yX3_isIn, .code yX3_isIn cX3_isIn 3 (some .boolean), .methodLink RX3 126 yX3_foundIn, .instanceMethod yX3_foundIn, .selects RX3 yX3_foundIn yX3_foundIn, .code yX3_foundIn cX3_foundIn 4 (some .int), .fieldLink RX3 14 "HemSuffixesModel" "size" "[I", .methodLink RX3 86 yX3_isSampleAt, .instanceMethod yX3_isSampleAt, .selects RX3 yX3_isSampleAt yX3_isSampleAt, .code yX3_isSampleAt cX3_isSampleAt 4 (some .boolean), .fieldLink RX3 83 "HemSuffixesModel" "samples" "I", .fieldLink RX3 11 "HemSuffixesModel" "hem" "[[I", .fieldLink RX3 18 "HemSuffixesModel" "sample" "[I", .methodLink RX3 99 yX3_no, .instanceMethod yX3_no, .selects RX3 yX3_no yX3_no, .code yX3_no cX3_no 2 (some .int)] ++ wsX30)
def wsX3_first : List Cond := .code yX3_first cX3_first 3 (some .int) :: ([.fieldLink RX3 30 "HemSuffixesModel" "thrown" "I", .fieldLink RX3 14 "HemSuffixesModel" "size" "[I", .methodLink RX3 38 yX3_isHem, .static yX3_isHem, .initialized RX3, .code yX3_isHem cX3_isHem 1 (some .boolean), .methodLink RX3 34 yX3_isIn, .static yX3_isIn, .code yX3_isIn cX3_isIn 3 (some .boolean), .methodLink RX3 99 yX3_no, .instanceMethod yX3_no, .selects RX3 yX3_no yX3_no, .code yX3_no cX3_no 2 (some .int), .methodLink RX3 86 yX3_isSampleAt, .instanceMethod yX3_isSampleAt, .selects RX3 yX3_isSampleAt yX3_isSampleAt, .code yX3_isSampleAt cX3_isSampleAt 4 (some .boolean), .fieldLink RX3 83 "HemSuffixesModel" "samples" "I", .fieldLink RX3 11 "HemSuffixesModel" "hem" "[[I", .fieldLink RX3 18 "HemSuffixesModel" "sample" "[I"] ++ wsX30)
def wsX3_period_r1 : List Cond := [Cond.fieldLink RX3 30 "HemSuffixesModel" "thrown" "I", Cond.methodLink RX3 38 yX3_isHem, Cond.static yX3_isHem, Cond.initialized RX3, Cond.code yX3_isHem cX3_isHem 1 (some .boolean), Cond.methodLink RX3 34 yX3_isIn, Cond.static yX3_isIn, Cond.code yX3_isIn cX3_isIn 3 (some .boolean), Cond.methodLink RX3 129 yX3_periodOf, Cond.instanceMethod yX3_periodOf, Cond.selects RX3 yX3_periodOf yX3_periodOf, Cond.code yX3_periodOf cX3_periodOf 3 (some .int), Cond.fieldLink RX3 14 "HemSuffixesModel" "size" "[I", Cond.methodLink RX3 90 Lib.Math.min.name, Cond.static Lib.Math.min.name, Cond.initialized "java/lang/Math", Cond.code Lib.Math.min.name Lib.Math.min.code 2 (some .int), Cond.methodLink RX3 93 yX3_isPeriod, Cond.instanceMethod yX3_isPeriod, Cond.selects RX3 yX3_isPeriod yX3_isPeriod, Cond.code yX3_isPeriod cX3_isPeriod 4 (some .boolean), Cond.fieldLink RX3 11 "HemSuffixesModel" "hem" "[[I", Cond.methodLink RX3 99 yX3_no, Cond.instanceMethod yX3_no]
def wsX3_period_r2 : List Cond := [Cond.selects RX3 yX3_no yX3_no, Cond.code yX3_no cX3_no 2 (some .int)]
def wsX3_period : List Cond := .code yX3_period cX3_period 2 (some .int) :: ((wsX3_period_r1 ++ wsX3_period_r2) ++ wsX30)
def wsX3_turned : List Cond := .code yX3_turned cX3_turned 2 (some .int) :: ([.fieldLink RX3 30 "HemSuffixesModel" "thrown" "I", .methodLink RX3 38 yX3_isHem, .static yX3_isHem, .initialized RX3, .code yX3_isHem cX3_isHem 1 (some .boolean), .methodLink RX3 34 yX3_isIn, .static yX3_isIn, .code yX3_isIn cX3_isIn 3 (some .boolean), .methodLink RX3 132 yX3_turnedOf, .instanceMethod yX3_turnedOf, .selects RX3 yX3_turnedOf yX3_turnedOf, .code yX3_turnedOf cX3_turnedOf 4 (some .int), .fieldLink RX3 14 "HemSuffixesModel" "size" "[I", .methodLink RX3 96 yX3_isLessAround, .instanceMethod yX3_isLessAround, .selects RX3 yX3_isLessAround yX3_isLessAround, .code yX3_isLessAround cX3_isLessAround 8 (some .boolean), .fieldLink RX3 11 "HemSuffixesModel" "hem" "[[I", .methodLink RX3 99 yX3_no, .instanceMethod yX3_no, .selects RX3 yX3_no yX3_no, .code yX3_no cX3_no 2 (some .int)] ++ wsX30)
def wsX3_seam_r1 : List Cond := [Cond.fieldLink RX3 30 "HemSuffixesModel" "thrown" "I", Cond.methodLink RX3 34 yX3_isIn, Cond.static yX3_isIn, Cond.initialized RX3, Cond.code yX3_isIn cX3_isIn 3 (some .boolean), Cond.methodLink RX3 111 yX3_seamTold, Cond.instanceMethod yX3_seamTold, Cond.selects RX3 yX3_seamTold yX3_seamTold, Cond.code yX3_seamTold cX3_seamTold 6 (some .int), Cond.fieldLink RX3 14 "HemSuffixesModel" "size" "[I", Cond.fieldLink RX3 21 "HemSuffixesModel" "same" "[[I", Cond.fieldLink RX3 27 "HemSuffixesModel" "both" "[[I", Cond.methodLink RX3 53 yX3_look, Cond.instanceMethod yX3_look, Cond.selects RX3 yX3_look yX3_look, Cond.code yX3_look cX3_look 2 none, Cond.fieldLink RX3 11 "HemSuffixesModel" "hem" "[[I", Cond.methodLink RX3 49 yX3_compare, Cond.static yX3_compare, Cond.code yX3_compare cX3_compare 7 none, Cond.methodLink RX3 77 yX3_lookAtBoth, Cond.instanceMethod yX3_lookAtBoth, Cond.selects RX3 yX3_lookAtBoth yX3_lookAtBoth, Cond.code yX3_lookAtBoth cX3_lookAtBoth 1 none]
def wsX3_seam_r2 : List Cond := [Cond.methodLink RX3 80 yX3_mostAcross, Cond.instanceMethod yX3_mostAcross, Cond.selects RX3 yX3_mostAcross yX3_mostAcross, Cond.code yX3_mostAcross cX3_mostAcross 4 (some .int), Cond.methodLink RX3 61 Lib.Math.max.name, Cond.static Lib.Math.max.name, Cond.initialized "java/lang/Math", Cond.code Lib.Math.max.name Lib.Math.max.code 2 (some .int), Cond.methodLink RX3 46 yX3_isLess, Cond.instanceMethod yX3_isLess, Cond.selects RX3 yX3_isLess yX3_isLess, Cond.code yX3_isLess cX3_isLess 4 (some .boolean), Cond.methodLink RX3 42 yX3_by, Cond.static yX3_by, Cond.code yX3_by cX3_by 8 (some .int), Cond.methodLink RX3 99 yX3_no, Cond.instanceMethod yX3_no, Cond.selects RX3 yX3_no yX3_no, Cond.code yX3_no cX3_no 2 (some .int)]
def wsX3_seam : List Cond := .code yX3_seam cX3_seam 2 (some .int) :: ((wsX3_seam_r1 ++ wsX3_seam_r2) ++ wsX30)
def wsX3_would_r1 : List Cond := [Cond.fieldLink RX3 30 "HemSuffixesModel" "thrown" "I", Cond.methodLink RX3 38 yX3_isHem, Cond.static yX3_isHem, Cond.initialized RX3, Cond.code yX3_isHem cX3_isHem 1 (some .boolean), Cond.methodLink RX3 34 yX3_isIn, Cond.static yX3_isIn, Cond.code yX3_isIn cX3_isIn 3 (some .boolean), Cond.methodLink RX3 99 yX3_no, Cond.instanceMethod yX3_no, Cond.selects RX3 yX3_no yX3_no, Cond.code yX3_no cX3_no 2 (some .int), Cond.methodLink RX3 102 yX3_isStitch, Cond.static yX3_isStitch, Cond.code yX3_isStitch cX3_isStitch 1 (some .boolean), Cond.methodLink RX3 135 yX3_more, Cond.instanceMethod yX3_more, Cond.selects RX3 yX3_more yX3_more, Cond.code yX3_more cX3_more 7 (some .int), Cond.fieldLink RX3 14 "HemSuffixesModel" "size" "[I", Cond.fieldLink RX3 11 "HemSuffixesModel" "hem" "[[I", Cond.methodLink RX3 61 Lib.Math.max.name, Cond.static Lib.Math.max.name, Cond.initialized "java/lang/Math"]
def wsX3_would_r2 : List Cond := [Cond.code Lib.Math.max.name Lib.Math.max.code 2 (some .int)]
def wsX3_would : List Cond := .code yX3_would cX3_would 3 (some .int) :: ((wsX3_would_r1 ++ wsX3_would_r2) ++ wsX30)
def wsX3_advise : List Cond := .code yX3_advise cX3_advise 4 (some .int) :: ([.fieldLink RX3 30 "HemSuffixesModel" "thrown" "I", .methodLink RX3 38 yX3_isHem, .static yX3_isHem, .initialized RX3, .code yX3_isHem cX3_isHem 1 (some .boolean), .methodLink RX3 34 yX3_isIn, .static yX3_isIn, .code yX3_isIn cX3_isIn 3 (some .boolean), .methodLink RX3 99 yX3_no, .instanceMethod yX3_no, .selects RX3 yX3_no yX3_no, .code yX3_no cX3_no 2 (some .int), .methodLink RX3 135 yX3_more, .instanceMethod yX3_more, .selects RX3 yX3_more yX3_more, .code yX3_more cX3_more 7 (some .int), .fieldLink RX3 14 "HemSuffixesModel" "size" "[I", .fieldLink RX3 11 "HemSuffixesModel" "hem" "[[I", .methodLink RX3 61 Lib.Math.max.name, .static Lib.Math.max.name, .initialized "java/lang/Math", .code Lib.Math.max.name Lib.Math.max.code 2 (some .int)] ++ wsX30)
def wsX3_mean_r1 : List Cond := [Cond.fieldLink RX3 30 "HemSuffixesModel" "thrown" "I", Cond.fieldLink RX3 14 "HemSuffixesModel" "size" "[I", Cond.fieldLink RX3 21 "HemSuffixesModel" "same" "[[I", Cond.fieldLink RX3 24 "HemSuffixesModel" "places" "[I", Cond.methodLink RX3 117 yX3_order, Cond.instanceMethod yX3_order, Cond.selects RX3 yX3_order yX3_order, Cond.initialized RX3, Cond.code yX3_order cX3_order 3 none, Cond.methodLink RX3 53 yX3_look, Cond.instanceMethod yX3_look, Cond.selects RX3 yX3_look yX3_look, Cond.code yX3_look cX3_look 2 none, Cond.fieldLink RX3 11 "HemSuffixesModel" "hem" "[[I", Cond.methodLink RX3 49 yX3_compare, Cond.static yX3_compare, Cond.code yX3_compare cX3_compare 7 none, Cond.methodLink RX3 57 yX3_rankOf, Cond.instanceMethod yX3_rankOf, Cond.selects RX3 yX3_rankOf yX3_rankOf, Cond.code yX3_rankOf cX3_rankOf 5 (some .int), Cond.methodLink RX3 46 yX3_isLess, Cond.instanceMethod yX3_isLess, Cond.selects RX3 yX3_isLess yX3_isLess]
def wsX3_mean_r2 : List Cond := [Cond.code yX3_isLess cX3_isLess 4 (some .boolean), Cond.methodLink RX3 42 yX3_by, Cond.static yX3_by, Cond.code yX3_by cX3_by 8 (some .int)]
def wsX3_mean : List Cond := .code yX3_mean cX3_mean 5 (some .double) :: ((wsX3_mean_r1 ++ wsX3_mean_r2) ++ wsX30)
def wsX3_digest_r1 : List Cond := [Cond.fieldLink RX3 30 "HemSuffixesModel" "thrown" "I", Cond.constantLong RX3 138 (1483), Cond.constantLong RX3 140 (31), Cond.fieldLink RX3 14 "HemSuffixesModel" "size" "[I", Cond.fieldLink RX3 11 "HemSuffixesModel" "hem" "[[I", Cond.fieldLink RX3 24 "HemSuffixesModel" "places" "[I", Cond.fieldLink RX3 83 "HemSuffixesModel" "samples" "I", Cond.fieldLink RX3 18 "HemSuffixesModel" "sample" "[I", Cond.methodLink RX3 114 yX3_counted, Cond.instanceMethod yX3_counted, Cond.selects RX3 yX3_counted yX3_counted, Cond.initialized RX3, Cond.code yX3_counted cX3_counted 2 (some .int), Cond.methodLink RX3 108 yX3_differentRows, Cond.instanceMethod yX3_differentRows, Cond.selects RX3 yX3_differentRows yX3_differentRows, Cond.code yX3_differentRows cX3_differentRows 4 (some .int), Cond.methodLink RX3 53 yX3_look, Cond.instanceMethod yX3_look, Cond.selects RX3 yX3_look yX3_look, Cond.code yX3_look cX3_look 2 none, Cond.fieldLink RX3 21 "HemSuffixesModel" "same" "[[I", Cond.methodLink RX3 49 yX3_compare, Cond.static yX3_compare]
def wsX3_digest_r2 : List Cond := [Cond.code yX3_compare cX3_compare 7 none, Cond.methodLink RX3 66 yX3_mostBefore, Cond.instanceMethod yX3_mostBefore, Cond.selects RX3 yX3_mostBefore yX3_mostBefore, Cond.code yX3_mostBefore cX3_mostBefore 4 (some .int), Cond.methodLink RX3 61 Lib.Math.max.name, Cond.static Lib.Math.max.name, Cond.initialized "java/lang/Math", Cond.code Lib.Math.max.name Lib.Math.max.code 2 (some .int), Cond.methodLink RX3 111 yX3_seamTold, Cond.instanceMethod yX3_seamTold, Cond.selects RX3 yX3_seamTold yX3_seamTold, Cond.code yX3_seamTold cX3_seamTold 6 (some .int), Cond.fieldLink RX3 27 "HemSuffixesModel" "both" "[[I", Cond.methodLink RX3 77 yX3_lookAtBoth, Cond.instanceMethod yX3_lookAtBoth, Cond.selects RX3 yX3_lookAtBoth yX3_lookAtBoth, Cond.code yX3_lookAtBoth cX3_lookAtBoth 1 none, Cond.methodLink RX3 80 yX3_mostAcross, Cond.instanceMethod yX3_mostAcross, Cond.selects RX3 yX3_mostAcross yX3_mostAcross, Cond.code yX3_mostAcross cX3_mostAcross 4 (some .int), Cond.methodLink RX3 46 yX3_isLess, Cond.instanceMethod yX3_isLess]
def wsX3_digest_r3 : List Cond := [Cond.selects RX3 yX3_isLess yX3_isLess, Cond.code yX3_isLess cX3_isLess 4 (some .boolean), Cond.methodLink RX3 42 yX3_by, Cond.static yX3_by, Cond.code yX3_by cX3_by 8 (some .int), Cond.methodLink RX3 117 yX3_order, Cond.instanceMethod yX3_order, Cond.selects RX3 yX3_order yX3_order, Cond.code yX3_order cX3_order 3 none, Cond.methodLink RX3 57 yX3_rankOf, Cond.instanceMethod yX3_rankOf, Cond.selects RX3 yX3_rankOf yX3_rankOf, Cond.code yX3_rankOf cX3_rankOf 5 (some .int), Cond.methodLink RX3 120 yX3_repeatTold, Cond.instanceMethod yX3_repeatTold, Cond.selects RX3 yX3_repeatTold yX3_repeatTold, Cond.code yX3_repeatTold cX3_repeatTold 7 (some .int), Cond.methodLink RX3 70 yX3_mostBeside, Cond.instanceMethod yX3_mostBeside, Cond.selects RX3 yX3_mostBeside yX3_mostBeside, Cond.code yX3_mostBeside cX3_mostBeside 5 (some .int), Cond.methodLink RX3 73 yX3_placesOf, Cond.instanceMethod yX3_placesOf, Cond.selects RX3 yX3_placesOf yX3_placesOf]
def wsX3_digest_r4 : List Cond := [Cond.code yX3_placesOf cX3_placesOf 6 (some .int), Cond.methodLink RX3 129 yX3_periodOf, Cond.instanceMethod yX3_periodOf, Cond.selects RX3 yX3_periodOf yX3_periodOf, Cond.code yX3_periodOf cX3_periodOf 3 (some .int), Cond.methodLink RX3 90 Lib.Math.min.name, Cond.static Lib.Math.min.name, Cond.code Lib.Math.min.name Lib.Math.min.code 2 (some .int), Cond.methodLink RX3 93 yX3_isPeriod, Cond.instanceMethod yX3_isPeriod, Cond.selects RX3 yX3_isPeriod yX3_isPeriod, Cond.code yX3_isPeriod cX3_isPeriod 4 (some .boolean), Cond.methodLink RX3 132 yX3_turnedOf, Cond.instanceMethod yX3_turnedOf, Cond.selects RX3 yX3_turnedOf yX3_turnedOf, Cond.code yX3_turnedOf cX3_turnedOf 4 (some .int), Cond.methodLink RX3 96 yX3_isLessAround, Cond.instanceMethod yX3_isLessAround, Cond.selects RX3 yX3_isLessAround yX3_isLessAround, Cond.code yX3_isLessAround cX3_isLessAround 8 (some .boolean), Cond.methodLink RX3 126 yX3_foundIn, Cond.instanceMethod yX3_foundIn, Cond.selects RX3 yX3_foundIn yX3_foundIn, Cond.code yX3_foundIn cX3_foundIn 4 (some .int)]
def wsX3_digest_r5 : List Cond := [Cond.methodLink RX3 86 yX3_isSampleAt, Cond.instanceMethod yX3_isSampleAt, Cond.selects RX3 yX3_isSampleAt yX3_isSampleAt, Cond.code yX3_isSampleAt cX3_isSampleAt 4 (some .boolean)]
def wsX3_digest : List Cond := .code yX3_digest cX3_digest 5 (some .long) :: ((wsX3_digest_r1 ++ (wsX3_digest_r2 ++ (wsX3_digest_r3 ++ (wsX3_digest_r4 ++ wsX3_digest_r5)))) ++ wsX30)
def wsJ9_max_7cf53 : List Cond := .code yJ9_max_7cf53 cJ9_max_7cf53 2 (some .int) :: ([])
def wsJ9_min_7cf53 : List Cond := .code yJ9_min_7cf53 cJ9_min_7cf53 2 (some .int) :: ([])
def wsL_sew_r1 : List Cond := [Cond.classLink RL 13 "java/lang/IndexOutOfBoundsException", Cond.classLink RL 15 "java/lang/IllegalArgumentException", Cond.classLink RL 17 "java/lang/IllegalStateException", Cond.methodLink RL 7 yX2_sew, Cond.instanceMethod yX2_sew, Cond.selects RX2 yX2_sew yX2_sew, Cond.initialized RX2, Cond.code yX2_sew cX2_sew 4 (some .int), Cond.classLink RX2 41 "java/lang/IllegalStateException", Cond.initialized "java/lang/IllegalStateException", Cond.methodLink RX2 26 yX2_hemOf, Cond.instanceMethod yX2_hemOf, Cond.selects RX2 yX2_hemOf yX2_hemOf, Cond.code yX2_hemOf cX2_hemOf 2 (some (.object "HemSuffixes$Hem")), Cond.classLink RX2 92 "java/lang/IndexOutOfBoundsException", Cond.initialized "java/lang/IndexOutOfBoundsException", Cond.fieldLink RX2 10 "HemSuffixes" "hemZero" "LHemSuffixes$Hem;", Cond.fieldLink RX2 16 "HemSuffixes" "hemOne" "LHemSuffixes$Hem;", Cond.methodLink RX2 30 yX2_requireStitch, Cond.static yX2_requireStitch, Cond.code yX2_requireStitch cX2_requireStitch 1 none, Cond.classLink RX2 51 "java/lang/IllegalArgumentException", Cond.initialized "java/lang/IllegalArgumentException", Cond.methodLink RX2 48 yX0_sewOn]
def wsL_sew_r2 : List Cond := [Cond.instanceMethod yX0_sewOn, Cond.selects RX0 yX0_sewOn yX0_sewOn, Cond.initialized RX0, Cond.code yX0_sewOn cX0_sewOn 2 none, Cond.fieldLink RX0 12 "HemSuffixes$Hem" "stitches" "LHemSuffixes$Stitches;", Cond.methodLink RX0 22 yX1_append, Cond.instanceMethod yX1_append, Cond.selects RX1 yX1_append yX1_append, Cond.initialized RX1, Cond.code yX1_append cX1_append 2 none, Cond.fieldLink RX1 15 "HemSuffixes$Stitches" "length" "I", Cond.fieldLink RX1 9 "HemSuffixes$Stitches" "kinds" "[I", Cond.methodLink RX0 26 yX0_orderEnds, Cond.instanceMethod yX0_orderEnds, Cond.selects RX0 yX0_orderEnds yX0_orderEnds, Cond.code yX0_orderEnds cX0_orderEnds 2 none, Cond.fieldLink RX0 18 "HemSuffixes$Hem" "placesInOrder" "[I", Cond.methodLink RX0 40 yX0_putInOrder, Cond.instanceMethod yX0_putInOrder, Cond.selects RX0 yX0_putInOrder yX0_putInOrder, Cond.code yX0_putInOrder cX0_putInOrder 4 none, Cond.methodLink RX0 44 yX1_difference, Cond.instanceMethod yX1_difference, Cond.selects RX1 yX1_difference yX1_difference]
def wsL_sew_r3 : List Cond := [Cond.code yX1_difference cX1_difference 7 (some .int), Cond.methodLink RX1 29 yX1_sharedWith, Cond.instanceMethod yX1_sharedWith, Cond.selects RX1 yX1_sharedWith yX1_sharedWith, Cond.code yX1_sharedWith cX1_sharedWith 6 (some .int), Cond.methodLink RX1 19 Lib.Math.min.name, Cond.static Lib.Math.min.name, Cond.initialized "java/lang/Math", Cond.code Lib.Math.min.name Lib.Math.min.code 2 (some .int), Cond.methodLink RX1 25 yX1_at, Cond.instanceMethod yX1_at, Cond.selects RX1 yX1_at yX1_at, Cond.code yX1_at cX1_at 2 (some .int)]
def wsL_sew : List Cond := .codeWith yL_sew cL_sew 5 (some .int) [(0, 10, 13, 13), (0, 10, 17, 15), (0, 10, 21, 17)] :: ((wsL_sew_r1 ++ (wsL_sew_r2 ++ wsL_sew_r3)) ++ wsX00 ++ wsX10 ++ wsX20 ++ (vx_atS RX2 45 "java/lang/IllegalStateException" ["java/lang/RuntimeException", "java/lang/Exception"]).filter goodWord ++ (vx_atS RX2 96 "java/lang/IndexOutOfBoundsException" ["java/lang/RuntimeException", "java/lang/Exception"]).filter goodWord ++ (vx_atS RX2 55 "java/lang/IllegalArgumentException" ["java/lang/RuntimeException", "java/lang/Exception"]).filter goodWord)
def wsL_again_r1 : List Cond := [Cond.classLink RL 13 "java/lang/IndexOutOfBoundsException", Cond.classLink RL 15 "java/lang/IllegalArgumentException", Cond.classLink RL 17 "java/lang/IllegalStateException", Cond.methodLink RL 19 yX2_again, Cond.instanceMethod yX2_again, Cond.selects RX2 yX2_again yX2_again, Cond.initialized RX2, Cond.code yX2_again cX2_again 5 (some .int), Cond.classLink RX2 51 "java/lang/IllegalArgumentException", Cond.initialized "java/lang/IllegalArgumentException", Cond.classLink RX2 41 "java/lang/IllegalStateException", Cond.initialized "java/lang/IllegalStateException", Cond.methodLink RX2 26 yX2_hemOf, Cond.instanceMethod yX2_hemOf, Cond.selects RX2 yX2_hemOf yX2_hemOf, Cond.code yX2_hemOf cX2_hemOf 2 (some (.object "HemSuffixes$Hem")), Cond.classLink RX2 92 "java/lang/IndexOutOfBoundsException", Cond.initialized "java/lang/IndexOutOfBoundsException", Cond.fieldLink RX2 10 "HemSuffixes" "hemZero" "LHemSuffixes$Hem;", Cond.fieldLink RX2 16 "HemSuffixes" "hemOne" "LHemSuffixes$Hem;", Cond.methodLink RX2 58 yX0_sewBeginning, Cond.instanceMethod yX0_sewBeginning, Cond.selects RX0 yX0_sewBeginning yX0_sewBeginning, Cond.initialized RX0]
def wsL_again_r2 : List Cond := [Cond.code yX0_sewBeginning cX0_sewBeginning 3 none, Cond.fieldLink RX0 12 "HemSuffixes$Hem" "stitches" "LHemSuffixes$Stitches;", Cond.methodLink RX0 29 yX1_at, Cond.instanceMethod yX1_at, Cond.selects RX1 yX1_at yX1_at, Cond.initialized RX1, Cond.code yX1_at cX1_at 2 (some .int), Cond.fieldLink RX1 15 "HemSuffixes$Stitches" "length" "I", Cond.fieldLink RX1 9 "HemSuffixes$Stitches" "kinds" "[I", Cond.methodLink RX0 22 yX1_append, Cond.instanceMethod yX1_append, Cond.selects RX1 yX1_append yX1_append, Cond.code yX1_append cX1_append 2 none, Cond.methodLink RX0 26 yX0_orderEnds, Cond.instanceMethod yX0_orderEnds, Cond.selects RX0 yX0_orderEnds yX0_orderEnds, Cond.code yX0_orderEnds cX0_orderEnds 2 none, Cond.fieldLink RX0 18 "HemSuffixes$Hem" "placesInOrder" "[I", Cond.methodLink RX0 40 yX0_putInOrder, Cond.instanceMethod yX0_putInOrder, Cond.selects RX0 yX0_putInOrder yX0_putInOrder, Cond.code yX0_putInOrder cX0_putInOrder 4 none, Cond.methodLink RX0 44 yX1_difference, Cond.instanceMethod yX1_difference]
def wsL_again_r3 : List Cond := [Cond.selects RX1 yX1_difference yX1_difference, Cond.code yX1_difference cX1_difference 7 (some .int), Cond.methodLink RX1 29 yX1_sharedWith, Cond.instanceMethod yX1_sharedWith, Cond.selects RX1 yX1_sharedWith yX1_sharedWith, Cond.code yX1_sharedWith cX1_sharedWith 6 (some .int), Cond.methodLink RX1 19 Lib.Math.min.name, Cond.static Lib.Math.min.name, Cond.initialized "java/lang/Math", Cond.code Lib.Math.min.name Lib.Math.min.code 2 (some .int), Cond.methodLink RX1 25 yX1_at]
def wsL_again : List Cond := .codeWith yL_again cL_again 5 (some .int) [(0, 10, 13, 13), (0, 10, 17, 15), (0, 10, 21, 17)] :: ((wsL_again_r1 ++ (wsL_again_r2 ++ wsL_again_r3)) ++ wsX00 ++ wsX10 ++ wsX20 ++ (vx_atS RX2 55 "java/lang/IllegalArgumentException" ["java/lang/RuntimeException", "java/lang/Exception"]).filter goodWord ++ (vx_atS RX2 45 "java/lang/IllegalStateException" ["java/lang/RuntimeException", "java/lang/Exception"]).filter goodWord ++ (vx_atS RX2 96 "java/lang/IndexOutOfBoundsException" ["java/lang/RuntimeException", "java/lang/Exception"]).filter goodWord)
def wsL_unpick_r1 : List Cond := [Cond.classLink RL 13 "java/lang/IndexOutOfBoundsException", Cond.classLink RL 15 "java/lang/IllegalArgumentException", Cond.methodLink RL 22 yX2_unpick, Cond.instanceMethod yX2_unpick, Cond.selects RX2 yX2_unpick yX2_unpick, Cond.initialized RX2, Cond.code yX2_unpick cX2_unpick 4 (some .int), Cond.classLink RX2 51 "java/lang/IllegalArgumentException", Cond.initialized "java/lang/IllegalArgumentException", Cond.methodLink RX2 26 yX2_hemOf, Cond.instanceMethod yX2_hemOf, Cond.selects RX2 yX2_hemOf yX2_hemOf, Cond.code yX2_hemOf cX2_hemOf 2 (some (.object "HemSuffixes$Hem")), Cond.classLink RX2 92 "java/lang/IndexOutOfBoundsException", Cond.initialized "java/lang/IndexOutOfBoundsException", Cond.fieldLink RX2 10 "HemSuffixes" "hemZero" "LHemSuffixes$Hem;", Cond.fieldLink RX2 16 "HemSuffixes" "hemOne" "LHemSuffixes$Hem;", Cond.methodLink RX2 63 yX0_takeOff, Cond.instanceMethod yX0_takeOff, Cond.selects RX0 yX0_takeOff yX0_takeOff, Cond.initialized RX0, Cond.code yX0_takeOff cX0_takeOff 2 none, Cond.fieldLink RX0 12 "HemSuffixes$Hem" "stitches" "LHemSuffixes$Stitches;", Cond.methodLink RX0 33 yX1_drop]
def wsL_unpick_r2 : List Cond := [Cond.instanceMethod yX1_drop, Cond.selects RX1 yX1_drop yX1_drop, Cond.initialized RX1, Cond.code yX1_drop cX1_drop 2 none, Cond.fieldLink RX1 15 "HemSuffixes$Stitches" "length" "I", Cond.methodLink RX0 26 yX0_orderEnds, Cond.instanceMethod yX0_orderEnds, Cond.selects RX0 yX0_orderEnds yX0_orderEnds, Cond.code yX0_orderEnds cX0_orderEnds 2 none, Cond.fieldLink RX0 18 "HemSuffixes$Hem" "placesInOrder" "[I", Cond.methodLink RX0 40 yX0_putInOrder, Cond.instanceMethod yX0_putInOrder, Cond.selects RX0 yX0_putInOrder yX0_putInOrder, Cond.code yX0_putInOrder cX0_putInOrder 4 none, Cond.methodLink RX0 44 yX1_difference, Cond.instanceMethod yX1_difference, Cond.selects RX1 yX1_difference yX1_difference, Cond.code yX1_difference cX1_difference 7 (some .int), Cond.methodLink RX1 29 yX1_sharedWith, Cond.instanceMethod yX1_sharedWith, Cond.selects RX1 yX1_sharedWith yX1_sharedWith, Cond.code yX1_sharedWith cX1_sharedWith 6 (some .int), Cond.methodLink RX1 19 Lib.Math.min.name, Cond.static Lib.Math.min.name]
def wsL_unpick_r3 : List Cond := [Cond.initialized "java/lang/Math", Cond.code Lib.Math.min.name Lib.Math.min.code 2 (some .int), Cond.methodLink RX1 25 yX1_at, Cond.instanceMethod yX1_at, Cond.selects RX1 yX1_at yX1_at, Cond.code yX1_at cX1_at 2 (some .int), Cond.fieldLink RX1 9 "HemSuffixes$Stitches" "kinds" "[I"]
def wsL_unpick : List Cond := .codeWith yL_unpick cL_unpick 5 (some .int) [(0, 10, 13, 13), (0, 10, 17, 15)] :: ((wsL_unpick_r1 ++ (wsL_unpick_r2 ++ wsL_unpick_r3)) ++ wsX00 ++ wsX10 ++ wsX20 ++ (vx_atS RX2 55 "java/lang/IllegalArgumentException" ["java/lang/RuntimeException", "java/lang/Exception"]).filter goodWord ++ (vx_atS RX2 96 "java/lang/IndexOutOfBoundsException" ["java/lang/RuntimeException", "java/lang/Exception"]).filter goodWord)
def wsL_add : List Cond := .codeWith yL_add cL_add 4 (some .int) [(0, 9, 12, 15), (0, 9, 15, 17)] :: ([.classLink RL 15 "java/lang/IllegalArgumentException", .classLink RL 17 "java/lang/IllegalStateException", .methodLink RL 25 yX2_add, .instanceMethod yX2_add, .selects RX2 yX2_add yX2_add, .initialized RX2, .code yX2_add cX2_add 2 (some .int), .classLink RX2 41 "java/lang/IllegalStateException", .initialized "java/lang/IllegalStateException", .fieldLink RX2 22 "HemSuffixes" "sample" "LHemSuffixes$Stitches;", .methodLink RX2 30 yX2_requireStitch, .static yX2_requireStitch, .code yX2_requireStitch cX2_requireStitch 1 none, .classLink RX2 51 "java/lang/IllegalArgumentException", .initialized "java/lang/IllegalArgumentException", .methodLink RX2 68 yX1_append, .instanceMethod yX1_append, .selects RX1 yX1_append yX1_append, .initialized RX1, .code yX1_append cX1_append 2 none, .fieldLink RX1 15 "HemSuffixes$Stitches" "length" "I", .fieldLink RX1 9 "HemSuffixes$Stitches" "kinds" "[I"] ++ wsX20 ++ wsX10 ++ (vx_atS RX2 45 "java/lang/IllegalStateException" ["java/lang/RuntimeException", "java/lang/Exception"]).filter goodWord ++ (vx_atS RX2 55 "java/lang/IllegalArgumentException" ["java/lang/RuntimeException", "java/lang/Exception"]).filter goodWord)
def wsL_stitch : List Cond := .codeWith yL_stitch cL_stitch 5 (some .int) [(0, 10, 13, 13)] :: ([.classLink RL 13 "java/lang/IndexOutOfBoundsException", .methodLink RL 29 yX2_stitch, .instanceMethod yX2_stitch, .selects RX2 yX2_stitch yX2_stitch, .initialized RX2, .code yX2_stitch cX2_stitch 4 (some .int), .methodLink RX2 26 yX2_hemOf, .instanceMethod yX2_hemOf, .selects RX2 yX2_hemOf yX2_hemOf, .code yX2_hemOf cX2_hemOf 2 (some (.object "HemSuffixes$Hem")), .classLink RX2 92 "java/lang/IndexOutOfBoundsException", .initialized "java/lang/IndexOutOfBoundsException", .fieldLink RX2 10 "HemSuffixes" "hemZero" "LHemSuffixes$Hem;", .fieldLink RX2 16 "HemSuffixes" "hemOne" "LHemSuffixes$Hem;", .methodLink RX2 74 yX2_requirePlace, .static yX2_requirePlace, .code yX2_requirePlace cX2_requirePlace 2 none, .methodLink RX2 78 yX1_at, .instanceMethod yX1_at, .selects RX1 yX1_at yX1_at, .initialized RX1, .code yX1_at cX1_at 2 (some .int), .fieldLink RX1 15 "HemSuffixes$Stitches" "length" "I", .fieldLink RX1 9 "HemSuffixes$Stitches" "kinds" "[I"] ++ wsX00 ++ wsX20 ++ wsX10 ++ (vx_atS RX2 96 "java/lang/IndexOutOfBoundsException" ["java/lang/RuntimeException", "java/lang/Exception"]).filter goodWord)
def wsL_count_r1 : List Cond := [Cond.classLink RL 13 "java/lang/IndexOutOfBoundsException", Cond.methodLink RL 32 yX2_count, Cond.instanceMethod yX2_count, Cond.selects RX2 yX2_count yX2_count, Cond.initialized RX2, Cond.code yX2_count cX2_count 2 (some .int), Cond.classLink RX2 92 "java/lang/IndexOutOfBoundsException", Cond.initialized "java/lang/IndexOutOfBoundsException", Cond.fieldLink RX2 10 "HemSuffixes" "hemZero" "LHemSuffixes$Hem;", Cond.fieldLink RX2 16 "HemSuffixes" "hemOne" "LHemSuffixes$Hem;", Cond.fieldLink RX2 22 "HemSuffixes" "sample" "LHemSuffixes$Stitches;", Cond.methodLink RX2 82 yX0_differentRows, Cond.instanceMethod yX0_differentRows, Cond.selects RX0 yX0_differentRows yX0_differentRows, Cond.initialized RX0, Cond.code yX0_differentRows cX0_differentRows 3 (some .int), Cond.fieldLink RX0 12 "HemSuffixes$Hem" "stitches" "LHemSuffixes$Stitches;", Cond.methodLink RX0 57 yX0_rowsFirstAt, Cond.instanceMethod yX0_rowsFirstAt, Cond.selects RX0 yX0_rowsFirstAt yX0_rowsFirstAt, Cond.code yX0_rowsFirstAt cX0_rowsFirstAt 2 (some .int), Cond.methodLink RX0 48 yX0_placeAt, Cond.instanceMethod yX0_placeAt, Cond.selects RX0 yX0_placeAt yX0_placeAt]
def wsL_count_r2 : List Cond := [Cond.code yX0_placeAt cX0_placeAt 2 (some .int), Cond.fieldLink RX0 18 "HemSuffixes$Hem" "placesInOrder" "[I", Cond.methodLink RX0 54 yX0_sharedWithNext, Cond.instanceMethod yX0_sharedWithNext, Cond.selects RX0 yX0_sharedWithNext yX0_sharedWithNext, Cond.code yX0_sharedWithNext cX0_sharedWithNext 4 (some .int), Cond.methodLink RX0 51 yX1_sharedWith, Cond.instanceMethod yX1_sharedWith, Cond.selects RX1 yX1_sharedWith yX1_sharedWith, Cond.initialized RX1, Cond.code yX1_sharedWith cX1_sharedWith 6 (some .int), Cond.fieldLink RX1 15 "HemSuffixes$Stitches" "length" "I", Cond.methodLink RX1 19 Lib.Math.min.name, Cond.static Lib.Math.min.name, Cond.initialized "java/lang/Math", Cond.code Lib.Math.min.name Lib.Math.min.code 2 (some .int), Cond.methodLink RX1 25 yX1_at, Cond.instanceMethod yX1_at, Cond.selects RX1 yX1_at yX1_at, Cond.code yX1_at cX1_at 2 (some .int), Cond.fieldLink RX1 9 "HemSuffixes$Stitches" "kinds" "[I", Cond.methodLink RX2 86 yX2_seamPlace, Cond.instanceMethod yX2_seamPlace, Cond.selects RX2 yX2_seamPlace yX2_seamPlace]
def wsL_count_r3 : List Cond := [Cond.code yX2_seamPlace cX2_seamPlace 6 (some .int), Cond.methodLink RX2 97 yX0_placeAt, Cond.methodLink RX2 89 yX2_seamLengthFrom, Cond.instanceMethod yX2_seamLengthFrom, Cond.selects RX2 yX2_seamLengthFrom yX2_seamLengthFrom, Cond.code yX2_seamLengthFrom cX2_seamLengthFrom 2 (some .int), Cond.methodLink RX2 185 yX1_mostSharedWith, Cond.instanceMethod yX1_mostSharedWith, Cond.selects RX1 yX1_mostSharedWith yX1_mostSharedWith, Cond.code yX1_mostSharedWith cX1_mostSharedWith 5 (some .int), Cond.methodLink RX1 33 Lib.Math.max.name, Cond.static Lib.Math.max.name, Cond.code Lib.Math.max.name Lib.Math.max.code 2 (some .int), Cond.methodLink RX1 29 yX1_sharedWith]
def wsL_count : List Cond := .codeWith yL_count cL_count 4 (some .int) [(0, 9, 12, 13)] :: ((wsL_count_r1 ++ (wsL_count_r2 ++ wsL_count_r3)) ++ wsX20 ++ wsX00 ++ wsX10 ++ (vx_atS RX2 96 "java/lang/IndexOutOfBoundsException" ["java/lang/RuntimeException", "java/lang/Exception"]).filter goodWord)
def wsL_end : List Cond := .codeWith yL_end cL_end 5 (some .int) [(0, 10, 13, 13)] :: ([.classLink RL 13 "java/lang/IndexOutOfBoundsException", .methodLink RL 35 yX2_end, .instanceMethod yX2_end, .selects RX2 yX2_end yX2_end, .initialized RX2, .code yX2_end cX2_end 4 (some .int), .methodLink RX2 26 yX2_hemOf, .instanceMethod yX2_hemOf, .selects RX2 yX2_hemOf yX2_hemOf, .code yX2_hemOf cX2_hemOf 2 (some (.object "HemSuffixes$Hem")), .classLink RX2 92 "java/lang/IndexOutOfBoundsException", .initialized "java/lang/IndexOutOfBoundsException", .fieldLink RX2 10 "HemSuffixes" "hemZero" "LHemSuffixes$Hem;", .fieldLink RX2 16 "HemSuffixes" "hemOne" "LHemSuffixes$Hem;", .methodLink RX2 74 yX2_requirePlace, .static yX2_requirePlace, .code yX2_requirePlace cX2_requirePlace 2 none, .methodLink RX2 97 yX0_placeAt, .instanceMethod yX0_placeAt, .selects RX0 yX0_placeAt yX0_placeAt, .initialized RX0, .code yX0_placeAt cX0_placeAt 2 (some .int), .fieldLink RX0 12 "HemSuffixes$Hem" "stitches" "LHemSuffixes$Stitches;", .fieldLink RX0 18 "HemSuffixes$Hem" "placesInOrder" "[I"] ++ wsX00 ++ wsX20 ++ wsX10 ++ (vx_atS RX2 96 "java/lang/IndexOutOfBoundsException" ["java/lang/RuntimeException", "java/lang/Exception"]).filter goodWord)
def wsL_rank_r1 : List Cond := [Cond.classLink RL 13 "java/lang/IndexOutOfBoundsException", Cond.methodLink RL 38 yX2_rank, Cond.instanceMethod yX2_rank, Cond.selects RX2 yX2_rank yX2_rank, Cond.initialized RX2, Cond.code yX2_rank cX2_rank 4 (some .int), Cond.methodLink RX2 26 yX2_hemOf, Cond.instanceMethod yX2_hemOf, Cond.selects RX2 yX2_hemOf yX2_hemOf, Cond.code yX2_hemOf cX2_hemOf 2 (some (.object "HemSuffixes$Hem")), Cond.classLink RX2 92 "java/lang/IndexOutOfBoundsException", Cond.initialized "java/lang/IndexOutOfBoundsException", Cond.fieldLink RX2 10 "HemSuffixes" "hemZero" "LHemSuffixes$Hem;", Cond.fieldLink RX2 16 "HemSuffixes" "hemOne" "LHemSuffixes$Hem;", Cond.methodLink RX2 74 yX2_requirePlace, Cond.static yX2_requirePlace, Cond.code yX2_requirePlace cX2_requirePlace 2 none, Cond.methodLink RX2 100 yX0_rankOf, Cond.instanceMethod yX0_rankOf, Cond.selects RX0 yX0_rankOf yX0_rankOf, Cond.initialized RX0, Cond.code yX0_rankOf cX0_rankOf 3 (some .int), Cond.fieldLink RX0 12 "HemSuffixes$Hem" "stitches" "LHemSuffixes$Stitches;", Cond.methodLink RX0 48 yX0_placeAt]
def wsL_rank_r2 : List Cond := [Cond.instanceMethod yX0_placeAt, Cond.selects RX0 yX0_placeAt yX0_placeAt, Cond.code yX0_placeAt cX0_placeAt 2 (some .int), Cond.fieldLink RX0 18 "HemSuffixes$Hem" "placesInOrder" "[I"]
def wsL_rank : List Cond := .codeWith yL_rank cL_rank 5 (some .int) [(0, 10, 13, 13)] :: ((wsL_rank_r1 ++ wsL_rank_r2) ++ wsX00 ++ wsX20 ++ wsX10 ++ (vx_atS RX2 96 "java/lang/IndexOutOfBoundsException" ["java/lang/RuntimeException", "java/lang/Exception"]).filter goodWord)
def wsL_common_r1 : List Cond := [Cond.classLink RL 13 "java/lang/IndexOutOfBoundsException", Cond.methodLink RL 41 yX2_common, Cond.instanceMethod yX2_common, Cond.selects RX2 yX2_common yX2_common, Cond.initialized RX2, Cond.code yX2_common cX2_common 5 (some .int), Cond.methodLink RX2 26 yX2_hemOf, Cond.instanceMethod yX2_hemOf, Cond.selects RX2 yX2_hemOf yX2_hemOf, Cond.code yX2_hemOf cX2_hemOf 2 (some (.object "HemSuffixes$Hem")), Cond.classLink RX2 92 "java/lang/IndexOutOfBoundsException", Cond.initialized "java/lang/IndexOutOfBoundsException", Cond.fieldLink RX2 10 "HemSuffixes" "hemZero" "LHemSuffixes$Hem;", Cond.fieldLink RX2 16 "HemSuffixes" "hemOne" "LHemSuffixes$Hem;", Cond.methodLink RX2 74 yX2_requirePlace, Cond.static yX2_requirePlace, Cond.code yX2_requirePlace cX2_requirePlace 2 none, Cond.methodLink RX2 103 yX1_sharedWith, Cond.instanceMethod yX1_sharedWith, Cond.selects RX1 yX1_sharedWith yX1_sharedWith, Cond.initialized RX1, Cond.code yX1_sharedWith cX1_sharedWith 6 (some .int), Cond.fieldLink RX1 15 "HemSuffixes$Stitches" "length" "I", Cond.methodLink RX1 19 Lib.Math.min.name]
def wsL_common_r2 : List Cond := [Cond.static Lib.Math.min.name, Cond.initialized "java/lang/Math", Cond.code Lib.Math.min.name Lib.Math.min.code 2 (some .int), Cond.methodLink RX1 25 yX1_at, Cond.instanceMethod yX1_at, Cond.selects RX1 yX1_at yX1_at, Cond.code yX1_at cX1_at 2 (some .int), Cond.fieldLink RX1 9 "HemSuffixes$Stitches" "kinds" "[I"]
def wsL_common : List Cond := .codeWith yL_common cL_common 6 (some .int) [(0, 12, 15, 13)] :: ((wsL_common_r1 ++ wsL_common_r2) ++ wsX00 ++ wsX20 ++ wsX10 ++ (vx_atS RX2 96 "java/lang/IndexOutOfBoundsException" ["java/lang/RuntimeException", "java/lang/Exception"]).filter goodWord)
def wsL_against_r1 : List Cond := [Cond.classLink RL 13 "java/lang/IndexOutOfBoundsException", Cond.methodLink RL 45 yX2_against, Cond.instanceMethod yX2_against, Cond.selects RX2 yX2_against yX2_against, Cond.initialized RX2, Cond.code yX2_against cX2_against 3 (some .int), Cond.fieldLink RX2 10 "HemSuffixes" "hemZero" "LHemSuffixes$Hem;", Cond.fieldLink RX2 16 "HemSuffixes" "hemOne" "LHemSuffixes$Hem;", Cond.methodLink RX2 74 yX2_requirePlace, Cond.static yX2_requirePlace, Cond.code yX2_requirePlace cX2_requirePlace 2 none, Cond.classLink RX2 92 "java/lang/IndexOutOfBoundsException", Cond.initialized "java/lang/IndexOutOfBoundsException", Cond.methodLink RX2 107 yX1_difference, Cond.instanceMethod yX1_difference, Cond.selects RX1 yX1_difference yX1_difference, Cond.initialized RX1, Cond.code yX1_difference cX1_difference 7 (some .int), Cond.methodLink RX1 29 yX1_sharedWith, Cond.instanceMethod yX1_sharedWith, Cond.selects RX1 yX1_sharedWith yX1_sharedWith, Cond.code yX1_sharedWith cX1_sharedWith 6 (some .int), Cond.fieldLink RX1 15 "HemSuffixes$Stitches" "length" "I", Cond.methodLink RX1 19 Lib.Math.min.name]
def wsL_against_r2 : List Cond := [Cond.static Lib.Math.min.name, Cond.initialized "java/lang/Math", Cond.code Lib.Math.min.name Lib.Math.min.code 2 (some .int), Cond.methodLink RX1 25 yX1_at, Cond.instanceMethod yX1_at, Cond.selects RX1 yX1_at yX1_at, Cond.code yX1_at cX1_at 2 (some .int), Cond.fieldLink RX1 9 "HemSuffixes$Stitches" "kinds" "[I"]
def wsL_against : List Cond := .codeWith yL_against cL_against 5 (some .int) [(0, 10, 13, 13)] :: ((wsL_against_r1 ++ wsL_against_r2) ++ wsX20 ++ wsX00 ++ wsX10 ++ (vx_atS RX2 96 "java/lang/IndexOutOfBoundsException" ["java/lang/RuntimeException", "java/lang/Exception"]).filter goodWord)
def wsL_repeat_r1 : List Cond := [Cond.classLink RL 13 "java/lang/IndexOutOfBoundsException", Cond.methodLink RL 48 yX2_repeat, Cond.instanceMethod yX2_repeat, Cond.selects RX2 yX2_repeat yX2_repeat, Cond.initialized RX2, Cond.code yX2_repeat cX2_repeat 7 (some .int), Cond.classLink RX2 92 "java/lang/IndexOutOfBoundsException", Cond.initialized "java/lang/IndexOutOfBoundsException", Cond.methodLink RX2 26 yX2_hemOf, Cond.instanceMethod yX2_hemOf, Cond.selects RX2 yX2_hemOf yX2_hemOf, Cond.code yX2_hemOf cX2_hemOf 2 (some (.object "HemSuffixes$Hem")), Cond.fieldLink RX2 10 "HemSuffixes" "hemZero" "LHemSuffixes$Hem;", Cond.fieldLink RX2 16 "HemSuffixes" "hemOne" "LHemSuffixes$Hem;", Cond.methodLink RX2 112 yX0_repeatRank, Cond.instanceMethod yX0_repeatRank, Cond.selects RX0 yX0_repeatRank yX0_repeatRank, Cond.initialized RX0, Cond.code yX0_repeatRank cX0_repeatRank 5 (some .int), Cond.fieldLink RX0 12 "HemSuffixes$Hem" "stitches" "LHemSuffixes$Stitches;", Cond.methodLink RX0 54 yX0_sharedWithNext, Cond.instanceMethod yX0_sharedWithNext, Cond.selects RX0 yX0_sharedWithNext yX0_sharedWithNext, Cond.code yX0_sharedWithNext cX0_sharedWithNext 4 (some .int)]
def wsL_repeat_r2 : List Cond := [Cond.methodLink RX0 48 yX0_placeAt, Cond.instanceMethod yX0_placeAt, Cond.selects RX0 yX0_placeAt yX0_placeAt, Cond.code yX0_placeAt cX0_placeAt 2 (some .int), Cond.fieldLink RX0 18 "HemSuffixes$Hem" "placesInOrder" "[I", Cond.methodLink RX0 51 yX1_sharedWith, Cond.instanceMethod yX1_sharedWith, Cond.selects RX1 yX1_sharedWith yX1_sharedWith, Cond.initialized RX1, Cond.code yX1_sharedWith cX1_sharedWith 6 (some .int), Cond.fieldLink RX1 15 "HemSuffixes$Stitches" "length" "I", Cond.methodLink RX1 19 Lib.Math.min.name, Cond.static Lib.Math.min.name, Cond.initialized "java/lang/Math", Cond.code Lib.Math.min.name Lib.Math.min.code 2 (some .int), Cond.methodLink RX1 25 yX1_at, Cond.instanceMethod yX1_at, Cond.selects RX1 yX1_at yX1_at, Cond.code yX1_at cX1_at 2 (some .int), Cond.fieldLink RX1 9 "HemSuffixes$Stitches" "kinds" "[I", Cond.methodLink RX2 115 yX0_sharedWithNext, Cond.methodLink RX2 97 yX0_placeAt, Cond.methodLink RX2 118 yX1_firstPlaceOf, Cond.instanceMethod yX1_firstPlaceOf]
def wsL_repeat_r3 : List Cond := [Cond.selects RX1 yX1_firstPlaceOf yX1_firstPlaceOf, Cond.code yX1_firstPlaceOf cX1_firstPlaceOf 5 (some .int), Cond.methodLink RX1 36 yX1_standsAt, Cond.instanceMethod yX1_standsAt, Cond.selects RX1 yX1_standsAt yX1_standsAt, Cond.code yX1_standsAt cX1_standsAt 5 (some .boolean), Cond.methodLink RX1 29 yX1_sharedWith, Cond.methodLink RX2 122 yX1_placesOf, Cond.instanceMethod yX1_placesOf, Cond.selects RX1 yX1_placesOf yX1_placesOf, Cond.code yX1_placesOf cX1_placesOf 6 (some .int)]
def wsL_repeat : List Cond := .codeWith yL_repeat cL_repeat 5 (some .int) [(0, 10, 13, 13)] :: ((wsL_repeat_r1 ++ (wsL_repeat_r2 ++ wsL_repeat_r3)) ++ wsX00 ++ wsX20 ++ wsX10 ++ (vx_atS RX2 96 "java/lang/IndexOutOfBoundsException" ["java/lang/RuntimeException", "java/lang/Exception"]).filter goodWord)
def wsL_row_r1 : List Cond := [Cond.classLink RL 13 "java/lang/IndexOutOfBoundsException", Cond.methodLink RL 51 yX2_row, Cond.instanceMethod yX2_row, Cond.selects RX2 yX2_row yX2_row, Cond.initialized RX2, Cond.code yX2_row cX2_row 4 (some .int), Cond.classLink RX2 92 "java/lang/IndexOutOfBoundsException", Cond.initialized "java/lang/IndexOutOfBoundsException", Cond.methodLink RX2 26 yX2_hemOf, Cond.instanceMethod yX2_hemOf, Cond.selects RX2 yX2_hemOf yX2_hemOf, Cond.code yX2_hemOf cX2_hemOf 2 (some (.object "HemSuffixes$Hem")), Cond.fieldLink RX2 10 "HemSuffixes" "hemZero" "LHemSuffixes$Hem;", Cond.fieldLink RX2 16 "HemSuffixes" "hemOne" "LHemSuffixes$Hem;", Cond.methodLink RX2 82 yX0_differentRows, Cond.instanceMethod yX0_differentRows, Cond.selects RX0 yX0_differentRows yX0_differentRows, Cond.initialized RX0, Cond.code yX0_differentRows cX0_differentRows 3 (some .int), Cond.fieldLink RX0 12 "HemSuffixes$Hem" "stitches" "LHemSuffixes$Stitches;", Cond.methodLink RX0 57 yX0_rowsFirstAt, Cond.instanceMethod yX0_rowsFirstAt, Cond.selects RX0 yX0_rowsFirstAt yX0_rowsFirstAt, Cond.code yX0_rowsFirstAt cX0_rowsFirstAt 2 (some .int)]
def wsL_row_r2 : List Cond := [Cond.methodLink RX0 48 yX0_placeAt, Cond.instanceMethod yX0_placeAt, Cond.selects RX0 yX0_placeAt yX0_placeAt, Cond.code yX0_placeAt cX0_placeAt 2 (some .int), Cond.fieldLink RX0 18 "HemSuffixes$Hem" "placesInOrder" "[I", Cond.methodLink RX0 54 yX0_sharedWithNext, Cond.instanceMethod yX0_sharedWithNext, Cond.selects RX0 yX0_sharedWithNext yX0_sharedWithNext, Cond.code yX0_sharedWithNext cX0_sharedWithNext 4 (some .int), Cond.methodLink RX0 51 yX1_sharedWith, Cond.instanceMethod yX1_sharedWith, Cond.selects RX1 yX1_sharedWith yX1_sharedWith, Cond.initialized RX1, Cond.code yX1_sharedWith cX1_sharedWith 6 (some .int), Cond.fieldLink RX1 15 "HemSuffixes$Stitches" "length" "I", Cond.methodLink RX1 19 Lib.Math.min.name, Cond.static Lib.Math.min.name, Cond.initialized "java/lang/Math", Cond.code Lib.Math.min.name Lib.Math.min.code 2 (some .int), Cond.methodLink RX1 25 yX1_at, Cond.instanceMethod yX1_at, Cond.selects RX1 yX1_at yX1_at, Cond.code yX1_at cX1_at 2 (some .int), Cond.fieldLink RX1 9 "HemSuffixes$Stitches" "kinds" "[I"]
def wsL_row_r3 : List Cond := [Cond.methodLink RX2 127 yX0_rowOfNumber, Cond.instanceMethod yX0_rowOfNumber, Cond.selects RX0 yX0_rowOfNumber yX0_rowOfNumber, Cond.code yX0_rowOfNumber cX0_rowOfNumber 6 (some .int), Cond.methodLink RX0 60 yX1_firstPlaceOf, Cond.instanceMethod yX1_firstPlaceOf, Cond.selects RX1 yX1_firstPlaceOf yX1_firstPlaceOf, Cond.code yX1_firstPlaceOf cX1_firstPlaceOf 5 (some .int), Cond.methodLink RX1 36 yX1_standsAt, Cond.instanceMethod yX1_standsAt, Cond.selects RX1 yX1_standsAt yX1_standsAt, Cond.code yX1_standsAt cX1_standsAt 5 (some .boolean), Cond.methodLink RX1 29 yX1_sharedWith]
def wsL_row : List Cond := .codeWith yL_row cL_row 5 (some .int) [(0, 10, 13, 13)] :: ((wsL_row_r1 ++ (wsL_row_r2 ++ wsL_row_r3)) ++ wsX20 ++ wsX00 ++ wsX10 ++ (vx_atS RX2 96 "java/lang/IndexOutOfBoundsException" ["java/lang/RuntimeException", "java/lang/Exception"]).filter goodWord)
def wsL_found_r1 : List Cond := [Cond.classLink RL 13 "java/lang/IndexOutOfBoundsException", Cond.methodLink RL 54 yX2_found, Cond.instanceMethod yX2_found, Cond.selects RX2 yX2_found yX2_found, Cond.initialized RX2, Cond.code yX2_found cX2_found 2 (some .int), Cond.fieldLink RX2 22 "HemSuffixes" "sample" "LHemSuffixes$Stitches;", Cond.methodLink RX2 26 yX2_hemOf, Cond.instanceMethod yX2_hemOf, Cond.selects RX2 yX2_hemOf yX2_hemOf, Cond.code yX2_hemOf cX2_hemOf 2 (some (.object "HemSuffixes$Hem")), Cond.classLink RX2 92 "java/lang/IndexOutOfBoundsException", Cond.initialized "java/lang/IndexOutOfBoundsException", Cond.fieldLink RX2 10 "HemSuffixes" "hemZero" "LHemSuffixes$Hem;", Cond.fieldLink RX2 16 "HemSuffixes" "hemOne" "LHemSuffixes$Hem;", Cond.methodLink RX2 122 yX1_placesOf, Cond.instanceMethod yX1_placesOf, Cond.selects RX1 yX1_placesOf yX1_placesOf, Cond.initialized RX1, Cond.code yX1_placesOf cX1_placesOf 6 (some .int), Cond.fieldLink RX1 15 "HemSuffixes$Stitches" "length" "I", Cond.methodLink RX1 36 yX1_standsAt, Cond.instanceMethod yX1_standsAt, Cond.selects RX1 yX1_standsAt yX1_standsAt]
def wsL_found_r2 : List Cond := [Cond.code yX1_standsAt cX1_standsAt 5 (some .boolean), Cond.methodLink RX1 29 yX1_sharedWith, Cond.instanceMethod yX1_sharedWith, Cond.selects RX1 yX1_sharedWith yX1_sharedWith, Cond.code yX1_sharedWith cX1_sharedWith 6 (some .int), Cond.methodLink RX1 19 Lib.Math.min.name, Cond.static Lib.Math.min.name, Cond.initialized "java/lang/Math", Cond.code Lib.Math.min.name Lib.Math.min.code 2 (some .int), Cond.methodLink RX1 25 yX1_at, Cond.instanceMethod yX1_at, Cond.selects RX1 yX1_at yX1_at, Cond.code yX1_at cX1_at 2 (some .int), Cond.fieldLink RX1 9 "HemSuffixes$Stitches" "kinds" "[I"]
def wsL_found : List Cond := .codeWith yL_found cL_found 4 (some .int) [(0, 9, 12, 13)] :: ((wsL_found_r1 ++ wsL_found_r2) ++ wsX00 ++ wsX20 ++ wsX10 ++ (vx_atS RX2 96 "java/lang/IndexOutOfBoundsException" ["java/lang/RuntimeException", "java/lang/Exception"]).filter goodWord)
def wsL_first_r1 : List Cond := [Cond.classLink RL 13 "java/lang/IndexOutOfBoundsException", Cond.methodLink RL 57 yX2_first, Cond.instanceMethod yX2_first, Cond.selects RX2 yX2_first yX2_first, Cond.initialized RX2, Cond.code yX2_first cX2_first 2 (some .int), Cond.fieldLink RX2 22 "HemSuffixes" "sample" "LHemSuffixes$Stitches;", Cond.methodLink RX2 26 yX2_hemOf, Cond.instanceMethod yX2_hemOf, Cond.selects RX2 yX2_hemOf yX2_hemOf, Cond.code yX2_hemOf cX2_hemOf 2 (some (.object "HemSuffixes$Hem")), Cond.classLink RX2 92 "java/lang/IndexOutOfBoundsException", Cond.initialized "java/lang/IndexOutOfBoundsException", Cond.fieldLink RX2 10 "HemSuffixes" "hemZero" "LHemSuffixes$Hem;", Cond.fieldLink RX2 16 "HemSuffixes" "hemOne" "LHemSuffixes$Hem;", Cond.methodLink RX2 118 yX1_firstPlaceOf, Cond.instanceMethod yX1_firstPlaceOf, Cond.selects RX1 yX1_firstPlaceOf yX1_firstPlaceOf, Cond.initialized RX1, Cond.code yX1_firstPlaceOf cX1_firstPlaceOf 5 (some .int), Cond.fieldLink RX1 15 "HemSuffixes$Stitches" "length" "I", Cond.methodLink RX1 36 yX1_standsAt, Cond.instanceMethod yX1_standsAt, Cond.selects RX1 yX1_standsAt yX1_standsAt]
def wsL_first_r2 : List Cond := [Cond.code yX1_standsAt cX1_standsAt 5 (some .boolean), Cond.methodLink RX1 29 yX1_sharedWith, Cond.instanceMethod yX1_sharedWith, Cond.selects RX1 yX1_sharedWith yX1_sharedWith, Cond.code yX1_sharedWith cX1_sharedWith 6 (some .int), Cond.methodLink RX1 19 Lib.Math.min.name, Cond.static Lib.Math.min.name, Cond.initialized "java/lang/Math", Cond.code Lib.Math.min.name Lib.Math.min.code 2 (some .int), Cond.methodLink RX1 25 yX1_at, Cond.instanceMethod yX1_at, Cond.selects RX1 yX1_at yX1_at, Cond.code yX1_at cX1_at 2 (some .int), Cond.fieldLink RX1 9 "HemSuffixes$Stitches" "kinds" "[I"]
def wsL_first : List Cond := .codeWith yL_first cL_first 4 (some .int) [(0, 9, 12, 13)] :: ((wsL_first_r1 ++ wsL_first_r2) ++ wsX00 ++ wsX20 ++ wsX10 ++ (vx_atS RX2 96 "java/lang/IndexOutOfBoundsException" ["java/lang/RuntimeException", "java/lang/Exception"]).filter goodWord)
def wsL_period_r1 : List Cond := [Cond.classLink RL 13 "java/lang/IndexOutOfBoundsException", Cond.methodLink RL 60 yX2_period, Cond.instanceMethod yX2_period, Cond.selects RX2 yX2_period yX2_period, Cond.initialized RX2, Cond.code yX2_period cX2_period 2 (some .int), Cond.methodLink RX2 26 yX2_hemOf, Cond.instanceMethod yX2_hemOf, Cond.selects RX2 yX2_hemOf yX2_hemOf, Cond.code yX2_hemOf cX2_hemOf 2 (some (.object "HemSuffixes$Hem")), Cond.classLink RX2 92 "java/lang/IndexOutOfBoundsException", Cond.initialized "java/lang/IndexOutOfBoundsException", Cond.fieldLink RX2 10 "HemSuffixes" "hemZero" "LHemSuffixes$Hem;", Cond.fieldLink RX2 16 "HemSuffixes" "hemOne" "LHemSuffixes$Hem;", Cond.methodLink RX2 130 yX1_leastPeriod, Cond.instanceMethod yX1_leastPeriod, Cond.selects RX1 yX1_leastPeriod yX1_leastPeriod, Cond.initialized RX1, Cond.code yX1_leastPeriod cX1_leastPeriod 2 (some .int), Cond.fieldLink RX1 15 "HemSuffixes$Stitches" "length" "I", Cond.methodLink RX1 29 yX1_sharedWith, Cond.instanceMethod yX1_sharedWith, Cond.selects RX1 yX1_sharedWith yX1_sharedWith, Cond.code yX1_sharedWith cX1_sharedWith 6 (some .int)]
def wsL_period_r2 : List Cond := [Cond.methodLink RX1 19 Lib.Math.min.name, Cond.static Lib.Math.min.name, Cond.initialized "java/lang/Math", Cond.code Lib.Math.min.name Lib.Math.min.code 2 (some .int), Cond.methodLink RX1 25 yX1_at, Cond.instanceMethod yX1_at, Cond.selects RX1 yX1_at yX1_at, Cond.code yX1_at cX1_at 2 (some .int), Cond.fieldLink RX1 9 "HemSuffixes$Stitches" "kinds" "[I"]
def wsL_period : List Cond := .codeWith yL_period cL_period 4 (some .int) [(0, 9, 12, 13)] :: ((wsL_period_r1 ++ wsL_period_r2) ++ wsX00 ++ wsX20 ++ wsX10 ++ (vx_atS RX2 96 "java/lang/IndexOutOfBoundsException" ["java/lang/RuntimeException", "java/lang/Exception"]).filter goodWord)
def wsL_turned_r1 : List Cond := [Cond.classLink RL 13 "java/lang/IndexOutOfBoundsException", Cond.methodLink RL 63 yX2_turned, Cond.instanceMethod yX2_turned, Cond.selects RX2 yX2_turned yX2_turned, Cond.initialized RX2, Cond.code yX2_turned cX2_turned 2 (some .int), Cond.methodLink RX2 26 yX2_hemOf, Cond.instanceMethod yX2_hemOf, Cond.selects RX2 yX2_hemOf yX2_hemOf, Cond.code yX2_hemOf cX2_hemOf 2 (some (.object "HemSuffixes$Hem")), Cond.classLink RX2 92 "java/lang/IndexOutOfBoundsException", Cond.initialized "java/lang/IndexOutOfBoundsException", Cond.fieldLink RX2 10 "HemSuffixes" "hemZero" "LHemSuffixes$Hem;", Cond.fieldLink RX2 16 "HemSuffixes" "hemOne" "LHemSuffixes$Hem;", Cond.methodLink RX2 133 yX1_bestBeginning, Cond.instanceMethod yX1_bestBeginning, Cond.selects RX1 yX1_bestBeginning yX1_bestBeginning, Cond.initialized RX1, Cond.code yX1_bestBeginning cX1_bestBeginning 3 (some .int), Cond.fieldLink RX1 15 "HemSuffixes$Stitches" "length" "I", Cond.methodLink RX1 40 yX1_turnsToLess, Cond.instanceMethod yX1_turnsToLess, Cond.selects RX1 yX1_turnsToLess yX1_turnsToLess, Cond.code yX1_turnsToLess cX1_turnsToLess 6 (some .boolean)]
def wsL_turned_r2 : List Cond := [Cond.methodLink RX1 44 yX1_allAround, Cond.instanceMethod yX1_allAround, Cond.selects RX1 yX1_allAround yX1_allAround, Cond.code yX1_allAround cX1_allAround 2 (some .int), Cond.methodLink RX1 25 yX1_at, Cond.instanceMethod yX1_at, Cond.selects RX1 yX1_at yX1_at, Cond.code yX1_at cX1_at 2 (some .int), Cond.fieldLink RX1 9 "HemSuffixes$Stitches" "kinds" "[I"]
def wsL_turned : List Cond := .codeWith yL_turned cL_turned 4 (some .int) [(0, 9, 12, 13)] :: ((wsL_turned_r1 ++ wsL_turned_r2) ++ wsX00 ++ wsX20 ++ wsX10 ++ (vx_atS RX2 96 "java/lang/IndexOutOfBoundsException" ["java/lang/RuntimeException", "java/lang/Exception"]).filter goodWord)
def wsL_seam_r1 : List Cond := [Cond.classLink RL 13 "java/lang/IndexOutOfBoundsException", Cond.methodLink RL 66 yX2_seam, Cond.instanceMethod yX2_seam, Cond.selects RX2 yX2_seam yX2_seam, Cond.initialized RX2, Cond.code yX2_seam cX2_seam 5 (some .int), Cond.classLink RX2 92 "java/lang/IndexOutOfBoundsException", Cond.initialized "java/lang/IndexOutOfBoundsException", Cond.fieldLink RX2 10 "HemSuffixes" "hemZero" "LHemSuffixes$Hem;", Cond.fieldLink RX2 16 "HemSuffixes" "hemOne" "LHemSuffixes$Hem;", Cond.methodLink RX2 86 yX2_seamPlace, Cond.instanceMethod yX2_seamPlace, Cond.selects RX2 yX2_seamPlace yX2_seamPlace, Cond.code yX2_seamPlace cX2_seamPlace 6 (some .int), Cond.methodLink RX2 97 yX0_placeAt, Cond.instanceMethod yX0_placeAt, Cond.selects RX0 yX0_placeAt yX0_placeAt, Cond.initialized RX0, Cond.code yX0_placeAt cX0_placeAt 2 (some .int), Cond.fieldLink RX0 12 "HemSuffixes$Hem" "stitches" "LHemSuffixes$Stitches;", Cond.fieldLink RX0 18 "HemSuffixes$Hem" "placesInOrder" "[I", Cond.methodLink RX2 89 yX2_seamLengthFrom, Cond.instanceMethod yX2_seamLengthFrom, Cond.selects RX2 yX2_seamLengthFrom yX2_seamLengthFrom]
def wsL_seam_r2 : List Cond := [Cond.code yX2_seamLengthFrom cX2_seamLengthFrom 2 (some .int), Cond.methodLink RX2 185 yX1_mostSharedWith, Cond.instanceMethod yX1_mostSharedWith, Cond.selects RX1 yX1_mostSharedWith yX1_mostSharedWith, Cond.initialized RX1, Cond.code yX1_mostSharedWith cX1_mostSharedWith 5 (some .int), Cond.fieldLink RX1 15 "HemSuffixes$Stitches" "length" "I", Cond.methodLink RX1 33 Lib.Math.max.name, Cond.static Lib.Math.max.name, Cond.initialized "java/lang/Math", Cond.code Lib.Math.max.name Lib.Math.max.code 2 (some .int), Cond.methodLink RX1 29 yX1_sharedWith, Cond.instanceMethod yX1_sharedWith, Cond.selects RX1 yX1_sharedWith yX1_sharedWith, Cond.code yX1_sharedWith cX1_sharedWith 6 (some .int), Cond.methodLink RX1 19 Lib.Math.min.name, Cond.static Lib.Math.min.name, Cond.code Lib.Math.min.name Lib.Math.min.code 2 (some .int), Cond.methodLink RX1 25 yX1_at, Cond.instanceMethod yX1_at, Cond.selects RX1 yX1_at yX1_at, Cond.code yX1_at cX1_at 2 (some .int), Cond.fieldLink RX1 9 "HemSuffixes$Stitches" "kinds" "[I", Cond.methodLink RX2 118 yX1_firstPlaceOf]
def wsL_seam_r3 : List Cond := [Cond.instanceMethod yX1_firstPlaceOf, Cond.selects RX1 yX1_firstPlaceOf yX1_firstPlaceOf, Cond.code yX1_firstPlaceOf cX1_firstPlaceOf 5 (some .int), Cond.methodLink RX1 36 yX1_standsAt, Cond.instanceMethod yX1_standsAt, Cond.selects RX1 yX1_standsAt yX1_standsAt, Cond.code yX1_standsAt cX1_standsAt 5 (some .boolean)]
def wsL_seam : List Cond := .codeWith yL_seam cL_seam 4 (some .int) [(0, 9, 12, 13)] :: ((wsL_seam_r1 ++ (wsL_seam_r2 ++ wsL_seam_r3)) ++ wsX20 ++ wsX00 ++ wsX10 ++ (vx_atS RX2 96 "java/lang/IndexOutOfBoundsException" ["java/lang/RuntimeException", "java/lang/Exception"]).filter goodWord)
def wsL_would_r1 : List Cond := [Cond.classLink RL 13 "java/lang/IndexOutOfBoundsException", Cond.classLink RL 15 "java/lang/IllegalArgumentException", Cond.methodLink RL 69 yX2_would, Cond.instanceMethod yX2_would, Cond.selects RX2 yX2_would yX2_would, Cond.initialized RX2, Cond.code yX2_would cX2_would 4 (some .int), Cond.methodLink RX2 26 yX2_hemOf, Cond.instanceMethod yX2_hemOf, Cond.selects RX2 yX2_hemOf yX2_hemOf, Cond.code yX2_hemOf cX2_hemOf 2 (some (.object "HemSuffixes$Hem")), Cond.classLink RX2 92 "java/lang/IndexOutOfBoundsException", Cond.initialized "java/lang/IndexOutOfBoundsException", Cond.fieldLink RX2 10 "HemSuffixes" "hemZero" "LHemSuffixes$Hem;", Cond.fieldLink RX2 16 "HemSuffixes" "hemOne" "LHemSuffixes$Hem;", Cond.methodLink RX2 30 yX2_requireStitch, Cond.static yX2_requireStitch, Cond.code yX2_requireStitch cX2_requireStitch 1 none, Cond.classLink RX2 51 "java/lang/IllegalArgumentException", Cond.initialized "java/lang/IllegalArgumentException", Cond.methodLink RX2 136 yX1_newRowsBy, Cond.instanceMethod yX1_newRowsBy, Cond.selects RX1 yX1_newRowsBy yX1_newRowsBy, Cond.initialized RX1]
def wsL_would_r2 : List Cond := [Cond.code yX1_newRowsBy cX1_newRowsBy 4 (some .int), Cond.fieldLink RX1 15 "HemSuffixes$Stitches" "length" "I", Cond.methodLink RX1 33 Lib.Math.max.name, Cond.static Lib.Math.max.name, Cond.initialized "java/lang/Math", Cond.code Lib.Math.max.name Lib.Math.max.code 2 (some .int), Cond.methodLink RX1 25 yX1_at, Cond.instanceMethod yX1_at, Cond.selects RX1 yX1_at yX1_at, Cond.code yX1_at cX1_at 2 (some .int), Cond.fieldLink RX1 9 "HemSuffixes$Stitches" "kinds" "[I", Cond.methodLink RX1 47 yX1_sharedBackwardsFrom, Cond.instanceMethod yX1_sharedBackwardsFrom, Cond.selects RX1 yX1_sharedBackwardsFrom yX1_sharedBackwardsFrom, Cond.code yX1_sharedBackwardsFrom cX1_sharedBackwardsFrom 3 (some .int)]
def wsL_would : List Cond := .codeWith yL_would cL_would 5 (some .int) [(0, 10, 13, 13), (0, 10, 17, 15)] :: ((wsL_would_r1 ++ wsL_would_r2) ++ wsX00 ++ wsX20 ++ wsX10 ++ (vx_atS RX2 96 "java/lang/IndexOutOfBoundsException" ["java/lang/RuntimeException", "java/lang/Exception"]).filter goodWord ++ (vx_atS RX2 55 "java/lang/IllegalArgumentException" ["java/lang/RuntimeException", "java/lang/Exception"]).filter goodWord)
def wsL_advise_r1 : List Cond := [Cond.classLink RL 13 "java/lang/IndexOutOfBoundsException", Cond.methodLink RL 72 yX2_advise, Cond.instanceMethod yX2_advise, Cond.selects RX2 yX2_advise yX2_advise, Cond.initialized RX2, Cond.code yX2_advise cX2_advise 7 (some .int), Cond.methodLink RX2 26 yX2_hemOf, Cond.instanceMethod yX2_hemOf, Cond.selects RX2 yX2_hemOf yX2_hemOf, Cond.code yX2_hemOf cX2_hemOf 2 (some (.object "HemSuffixes$Hem")), Cond.classLink RX2 92 "java/lang/IndexOutOfBoundsException", Cond.initialized "java/lang/IndexOutOfBoundsException", Cond.fieldLink RX2 10 "HemSuffixes" "hemZero" "LHemSuffixes$Hem;", Cond.fieldLink RX2 16 "HemSuffixes" "hemOne" "LHemSuffixes$Hem;", Cond.methodLink RX2 136 yX1_newRowsBy, Cond.instanceMethod yX1_newRowsBy, Cond.selects RX1 yX1_newRowsBy yX1_newRowsBy, Cond.initialized RX1, Cond.code yX1_newRowsBy cX1_newRowsBy 4 (some .int), Cond.fieldLink RX1 15 "HemSuffixes$Stitches" "length" "I", Cond.methodLink RX1 33 Lib.Math.max.name, Cond.static Lib.Math.max.name, Cond.initialized "java/lang/Math", Cond.code Lib.Math.max.name Lib.Math.max.code 2 (some .int)]
def wsL_advise_r2 : List Cond := [Cond.methodLink RX1 25 yX1_at, Cond.instanceMethod yX1_at, Cond.selects RX1 yX1_at yX1_at, Cond.code yX1_at cX1_at 2 (some .int), Cond.fieldLink RX1 9 "HemSuffixes$Stitches" "kinds" "[I", Cond.methodLink RX1 47 yX1_sharedBackwardsFrom, Cond.instanceMethod yX1_sharedBackwardsFrom, Cond.selects RX1 yX1_sharedBackwardsFrom yX1_sharedBackwardsFrom, Cond.code yX1_sharedBackwardsFrom cX1_sharedBackwardsFrom 3 (some .int)]
def wsL_advise : List Cond := .codeWith yL_advise cL_advise 4 (some .int) [(0, 9, 12, 13)] :: ((wsL_advise_r1 ++ wsL_advise_r2) ++ wsX00 ++ wsX20 ++ wsX10 ++ (vx_atS RX2 96 "java/lang/IndexOutOfBoundsException" ["java/lang/RuntimeException", "java/lang/Exception"]).filter goodWord)
def wsL_law0_r1 : List Cond := [Cond.classLink RL 8 RX2, Cond.instantiable RX2 3, Cond.initialized RX2, Cond.classLink RL 76 RX3, Cond.instantiable RX3 8, Cond.initialized RX3, Cond.arrayClass .long, Cond.methodLink RL 75 yX2_init, Cond.instanceMethod yX2_init, Cond.code yX2_init cX2_init 1 none, Cond.methodLink RX2 1 objectInit, Cond.instanceMethod objectInit, Cond.code objectInit ⟨#[0xb1]⟩ 1 none, Cond.classLink RX2 7 RX0, Cond.instantiable RX0 2, Cond.initialized RX0, Cond.fieldLink RX2 10 "HemSuffixes" "hemZero" "LHemSuffixes$Hem;", Cond.fieldLink RX2 16 "HemSuffixes" "hemOne" "LHemSuffixes$Hem;", Cond.classLink RX2 19 RX1, Cond.instantiable RX1 2, Cond.initialized RX1, Cond.fieldLink RX2 22 "HemSuffixes" "sample" "LHemSuffixes$Stitches;", Cond.methodLink RX2 9 yX0_init, Cond.instanceMethod yX0_init]
def wsL_law0_r2 : List Cond := [Cond.code yX0_init cX0_init 1 none, Cond.methodLink RX0 3 objectInit, Cond.classLink RX0 9 RX1, Cond.fieldLink RX0 12 "HemSuffixes$Hem" "stitches" "LHemSuffixes$Stitches;", Cond.arrayClass .int, Cond.fieldLink RX0 18 "HemSuffixes$Hem" "placesInOrder" "[I", Cond.methodLink RX0 11 yX1_init, Cond.instanceMethod yX1_init, Cond.code yX1_init cX1_init 1 none, Cond.methodLink RX1 3 objectInit, Cond.fieldLink RX1 9 "HemSuffixes$Stitches" "kinds" "[I", Cond.fieldLink RX1 15 "HemSuffixes$Stitches" "length" "I", Cond.methodLink RX2 21 yX1_init, Cond.methodLink RL 78 yX3_init, Cond.instanceMethod yX3_init, Cond.code yX3_init cX3_init 1 none, Cond.methodLink RX3 1 objectInit, Cond.classLink RX3 9 "[[I", Cond.fieldLink RX3 11 "HemSuffixesModel" "hem" "[[I", Cond.fieldLink RX3 14 "HemSuffixesModel" "size" "[I", Cond.fieldLink RX3 18 "HemSuffixesModel" "sample" "[I", Cond.fieldLink RX3 21 "HemSuffixesModel" "same" "[[I", Cond.fieldLink RX3 24 "HemSuffixesModel" "places" "[I", Cond.fieldLink RX3 27 "HemSuffixesModel" "both" "[[I"]
def wsL_law0_r3 : List Cond := [Cond.methodLink RL 79 yL_sew, Cond.static yL_sew, Cond.initialized RL, Cond.codeWith yL_sew cL_sew 5 (some .int) [(0, 10, 13, 13), (0, 10, 17, 15), (0, 10, 21, 17)], Cond.classLink RL 13 "java/lang/IndexOutOfBoundsException", Cond.classLink RL 15 "java/lang/IllegalArgumentException", Cond.classLink RL 17 "java/lang/IllegalStateException", Cond.methodLink RL 7 yX2_sew, Cond.instanceMethod yX2_sew, Cond.selects RX2 yX2_sew yX2_sew, Cond.code yX2_sew cX2_sew 4 (some .int), Cond.classLink RX2 41 "java/lang/IllegalStateException", Cond.initialized "java/lang/IllegalStateException", Cond.methodLink RX2 26 yX2_hemOf, Cond.instanceMethod yX2_hemOf, Cond.selects RX2 yX2_hemOf yX2_hemOf, Cond.code yX2_hemOf cX2_hemOf 2 (some (.object "HemSuffixes$Hem")), Cond.classLink RX2 92 "java/lang/IndexOutOfBoundsException", Cond.initialized "java/lang/IndexOutOfBoundsException", Cond.methodLink RX2 30 yX2_requireStitch, Cond.static yX2_requireStitch, Cond.code yX2_requireStitch cX2_requireStitch 1 none, Cond.classLink RX2 51 "java/lang/IllegalArgumentException", Cond.initialized "java/lang/IllegalArgumentException"]
def wsL_law0_r4 : List Cond := [Cond.methodLink RX2 48 yX0_sewOn, Cond.instanceMethod yX0_sewOn, Cond.selects RX0 yX0_sewOn yX0_sewOn, Cond.code yX0_sewOn cX0_sewOn 2 none, Cond.methodLink RX0 22 yX1_append, Cond.instanceMethod yX1_append, Cond.selects RX1 yX1_append yX1_append, Cond.code yX1_append cX1_append 2 none, Cond.methodLink RX0 26 yX0_orderEnds, Cond.instanceMethod yX0_orderEnds, Cond.selects RX0 yX0_orderEnds yX0_orderEnds, Cond.code yX0_orderEnds cX0_orderEnds 2 none, Cond.methodLink RX0 40 yX0_putInOrder, Cond.instanceMethod yX0_putInOrder, Cond.selects RX0 yX0_putInOrder yX0_putInOrder, Cond.code yX0_putInOrder cX0_putInOrder 4 none, Cond.methodLink RX0 44 yX1_difference, Cond.instanceMethod yX1_difference, Cond.selects RX1 yX1_difference yX1_difference, Cond.code yX1_difference cX1_difference 7 (some .int), Cond.methodLink RX1 29 yX1_sharedWith, Cond.instanceMethod yX1_sharedWith, Cond.selects RX1 yX1_sharedWith yX1_sharedWith, Cond.code yX1_sharedWith cX1_sharedWith 6 (some .int)]
def wsL_law0_r5 : List Cond := [Cond.methodLink RX1 19 Lib.Math.min.name, Cond.static Lib.Math.min.name, Cond.initialized "java/lang/Math", Cond.code Lib.Math.min.name Lib.Math.min.code 2 (some .int), Cond.methodLink RX1 25 yX1_at, Cond.instanceMethod yX1_at, Cond.selects RX1 yX1_at yX1_at, Cond.code yX1_at cX1_at 2 (some .int), Cond.methodLink RL 84 yX3_sew, Cond.instanceMethod yX3_sew, Cond.selects RX3 yX3_sew yX3_sew, Cond.code yX3_sew cX3_sew 3 (some .int), Cond.fieldLink RX3 30 "HemSuffixesModel" "thrown" "I", Cond.methodLink RX3 38 yX3_isHem, Cond.static yX3_isHem, Cond.code yX3_isHem cX3_isHem 1 (some .boolean), Cond.methodLink RX3 34 yX3_isIn, Cond.static yX3_isIn, Cond.code yX3_isIn cX3_isIn 3 (some .boolean), Cond.methodLink RX3 99 yX3_no, Cond.instanceMethod yX3_no, Cond.selects RX3 yX3_no yX3_no, Cond.code yX3_no cX3_no 2 (some .int), Cond.methodLink RX3 102 yX3_isStitch]
def wsL_law0_r6 : List Cond := [Cond.static yX3_isStitch, Cond.code yX3_isStitch cX3_isStitch 1 (some .boolean), Cond.methodLink RL 85 yX3_thrown, Cond.instanceMethod yX3_thrown, Cond.selects RX3 yX3_thrown yX3_thrown, Cond.code yX3_thrown cX3_thrown 1 (some .int), Cond.methodLink RL 89 yL_again, Cond.static yL_again, Cond.codeWith yL_again cL_again 5 (some .int) [(0, 10, 13, 13), (0, 10, 17, 15), (0, 10, 21, 17)], Cond.methodLink RL 19 yX2_again, Cond.instanceMethod yX2_again, Cond.selects RX2 yX2_again yX2_again, Cond.code yX2_again cX2_again 5 (some .int), Cond.methodLink RX2 58 yX0_sewBeginning, Cond.instanceMethod yX0_sewBeginning, Cond.selects RX0 yX0_sewBeginning yX0_sewBeginning, Cond.code yX0_sewBeginning cX0_sewBeginning 3 none, Cond.methodLink RX0 29 yX1_at, Cond.methodLink RL 91 yX3_again, Cond.instanceMethod yX3_again, Cond.selects RX3 yX3_again yX3_again, Cond.code yX3_again cX3_again 5 (some .int), Cond.methodLink RL 92 yL_unpick, Cond.static yL_unpick]
def wsL_law0_r7 : List Cond := [Cond.codeWith yL_unpick cL_unpick 5 (some .int) [(0, 10, 13, 13), (0, 10, 17, 15)], Cond.methodLink RL 22 yX2_unpick, Cond.instanceMethod yX2_unpick, Cond.selects RX2 yX2_unpick yX2_unpick, Cond.code yX2_unpick cX2_unpick 4 (some .int), Cond.methodLink RX2 63 yX0_takeOff, Cond.instanceMethod yX0_takeOff, Cond.selects RX0 yX0_takeOff yX0_takeOff, Cond.code yX0_takeOff cX0_takeOff 2 none, Cond.methodLink RX0 33 yX1_drop, Cond.instanceMethod yX1_drop, Cond.selects RX1 yX1_drop yX1_drop, Cond.code yX1_drop cX1_drop 2 none, Cond.methodLink RL 94 yX3_unpick, Cond.instanceMethod yX3_unpick, Cond.selects RX3 yX3_unpick yX3_unpick, Cond.code yX3_unpick cX3_unpick 3 (some .int), Cond.methodLink RL 95 yL_add, Cond.static yL_add, Cond.codeWith yL_add cL_add 4 (some .int) [(0, 9, 12, 15), (0, 9, 15, 17)], Cond.methodLink RL 25 yX2_add, Cond.instanceMethod yX2_add, Cond.selects RX2 yX2_add yX2_add, Cond.code yX2_add cX2_add 2 (some .int)]
def wsL_law0_r8 : List Cond := [Cond.methodLink RX2 68 yX1_append, Cond.methodLink RL 98 yX3_add, Cond.instanceMethod yX3_add, Cond.selects RX3 yX3_add yX3_add, Cond.code yX3_add cX3_add 2 (some .int), Cond.fieldLink RX3 83 "HemSuffixesModel" "samples" "I", Cond.methodLink RL 99 yX2_clear, Cond.instanceMethod yX2_clear, Cond.selects RX2 yX2_clear yX2_clear, Cond.code yX2_clear cX2_clear 2 (some .int), Cond.methodLink RX2 71 yX1_drop, Cond.methodLink RL 102 yX3_clear, Cond.instanceMethod yX3_clear, Cond.selects RX3 yX3_clear yX3_clear, Cond.code yX3_clear cX3_clear 2 (some .int), Cond.methodLink RL 103 yL_stitch, Cond.static yL_stitch, Cond.codeWith yL_stitch cL_stitch 5 (some .int) [(0, 10, 13, 13)], Cond.methodLink RL 29 yX2_stitch, Cond.instanceMethod yX2_stitch, Cond.selects RX2 yX2_stitch yX2_stitch, Cond.code yX2_stitch cX2_stitch 4 (some .int), Cond.methodLink RX2 74 yX2_requirePlace, Cond.static yX2_requirePlace]
def wsL_law0_r9 : List Cond := [Cond.code yX2_requirePlace cX2_requirePlace 2 none, Cond.methodLink RX2 78 yX1_at, Cond.methodLink RL 105 yX3_stitch, Cond.instanceMethod yX3_stitch, Cond.selects RX3 yX3_stitch yX3_stitch, Cond.code yX3_stitch cX3_stitch 3 (some .int), Cond.methodLink RX3 105 yX3_isPlace, Cond.instanceMethod yX3_isPlace, Cond.selects RX3 yX3_isPlace yX3_isPlace, Cond.code yX3_isPlace cX3_isPlace 3 (some .boolean), Cond.methodLink RL 106 yL_count, Cond.static yL_count, Cond.codeWith yL_count cL_count 4 (some .int) [(0, 9, 12, 13)], Cond.methodLink RL 32 yX2_count, Cond.instanceMethod yX2_count, Cond.selects RX2 yX2_count yX2_count, Cond.code yX2_count cX2_count 2 (some .int), Cond.methodLink RX2 82 yX0_differentRows, Cond.instanceMethod yX0_differentRows, Cond.selects RX0 yX0_differentRows yX0_differentRows, Cond.code yX0_differentRows cX0_differentRows 3 (some .int), Cond.methodLink RX0 57 yX0_rowsFirstAt, Cond.instanceMethod yX0_rowsFirstAt, Cond.selects RX0 yX0_rowsFirstAt yX0_rowsFirstAt]
def wsL_law0_r10 : List Cond := [Cond.code yX0_rowsFirstAt cX0_rowsFirstAt 2 (some .int), Cond.methodLink RX0 48 yX0_placeAt, Cond.instanceMethod yX0_placeAt, Cond.selects RX0 yX0_placeAt yX0_placeAt, Cond.code yX0_placeAt cX0_placeAt 2 (some .int), Cond.methodLink RX0 54 yX0_sharedWithNext, Cond.instanceMethod yX0_sharedWithNext, Cond.selects RX0 yX0_sharedWithNext yX0_sharedWithNext, Cond.code yX0_sharedWithNext cX0_sharedWithNext 4 (some .int), Cond.methodLink RX0 51 yX1_sharedWith, Cond.methodLink RX2 86 yX2_seamPlace, Cond.instanceMethod yX2_seamPlace, Cond.selects RX2 yX2_seamPlace yX2_seamPlace, Cond.code yX2_seamPlace cX2_seamPlace 6 (some .int), Cond.methodLink RX2 97 yX0_placeAt, Cond.methodLink RX2 89 yX2_seamLengthFrom, Cond.instanceMethod yX2_seamLengthFrom, Cond.selects RX2 yX2_seamLengthFrom yX2_seamLengthFrom, Cond.code yX2_seamLengthFrom cX2_seamLengthFrom 2 (some .int), Cond.methodLink RX2 185 yX1_mostSharedWith, Cond.instanceMethod yX1_mostSharedWith, Cond.selects RX1 yX1_mostSharedWith yX1_mostSharedWith, Cond.code yX1_mostSharedWith cX1_mostSharedWith 5 (some .int), Cond.methodLink RX1 33 Lib.Math.max.name]
def wsL_law0_r11 : List Cond := [Cond.static Lib.Math.max.name, Cond.code Lib.Math.max.name Lib.Math.max.code 2 (some .int), Cond.methodLink RL 108 yX3_count, Cond.instanceMethod yX3_count, Cond.selects RX3 yX3_count yX3_count, Cond.code yX3_count cX3_count 2 (some .int), Cond.methodLink RX3 114 yX3_counted, Cond.instanceMethod yX3_counted, Cond.selects RX3 yX3_counted yX3_counted, Cond.code yX3_counted cX3_counted 2 (some .int), Cond.methodLink RX3 108 yX3_differentRows, Cond.instanceMethod yX3_differentRows, Cond.selects RX3 yX3_differentRows yX3_differentRows, Cond.code yX3_differentRows cX3_differentRows 4 (some .int), Cond.methodLink RX3 53 yX3_look, Cond.instanceMethod yX3_look, Cond.selects RX3 yX3_look yX3_look, Cond.code yX3_look cX3_look 2 none, Cond.methodLink RX3 49 yX3_compare, Cond.static yX3_compare, Cond.code yX3_compare cX3_compare 7 none, Cond.methodLink RX3 66 yX3_mostBefore, Cond.instanceMethod yX3_mostBefore, Cond.selects RX3 yX3_mostBefore yX3_mostBefore]
def wsL_law0_r12 : List Cond := [Cond.code yX3_mostBefore cX3_mostBefore 4 (some .int), Cond.methodLink RX3 61 Lib.Math.max.name, Cond.methodLink RX3 111 yX3_seamTold, Cond.instanceMethod yX3_seamTold, Cond.selects RX3 yX3_seamTold yX3_seamTold, Cond.code yX3_seamTold cX3_seamTold 6 (some .int), Cond.methodLink RX3 77 yX3_lookAtBoth, Cond.instanceMethod yX3_lookAtBoth, Cond.selects RX3 yX3_lookAtBoth yX3_lookAtBoth, Cond.code yX3_lookAtBoth cX3_lookAtBoth 1 none, Cond.methodLink RX3 80 yX3_mostAcross, Cond.instanceMethod yX3_mostAcross, Cond.selects RX3 yX3_mostAcross yX3_mostAcross, Cond.code yX3_mostAcross cX3_mostAcross 4 (some .int), Cond.methodLink RX3 46 yX3_isLess, Cond.instanceMethod yX3_isLess, Cond.selects RX3 yX3_isLess yX3_isLess, Cond.code yX3_isLess cX3_isLess 4 (some .boolean), Cond.methodLink RX3 42 yX3_by, Cond.static yX3_by, Cond.code yX3_by cX3_by 8 (some .int), Cond.methodLink RL 109 yL_end, Cond.static yL_end, Cond.codeWith yL_end cL_end 5 (some .int) [(0, 10, 13, 13)]]
def wsL_law0_r13 : List Cond := [Cond.methodLink RL 35 yX2_end, Cond.instanceMethod yX2_end, Cond.selects RX2 yX2_end yX2_end, Cond.code yX2_end cX2_end 4 (some .int), Cond.methodLink RL 111 yX3_end, Cond.instanceMethod yX3_end, Cond.selects RX3 yX3_end yX3_end, Cond.code yX3_end cX3_end 3 (some .int), Cond.methodLink RX3 117 yX3_order, Cond.instanceMethod yX3_order, Cond.selects RX3 yX3_order yX3_order, Cond.code yX3_order cX3_order 3 none, Cond.methodLink RX3 57 yX3_rankOf, Cond.instanceMethod yX3_rankOf, Cond.selects RX3 yX3_rankOf yX3_rankOf, Cond.code yX3_rankOf cX3_rankOf 5 (some .int), Cond.methodLink RL 112 yL_rank, Cond.static yL_rank, Cond.codeWith yL_rank cL_rank 5 (some .int) [(0, 10, 13, 13)], Cond.methodLink RL 38 yX2_rank, Cond.instanceMethod yX2_rank, Cond.selects RX2 yX2_rank yX2_rank, Cond.code yX2_rank cX2_rank 4 (some .int), Cond.methodLink RX2 100 yX0_rankOf]
def wsL_law0_r14 : List Cond := [Cond.instanceMethod yX0_rankOf, Cond.selects RX0 yX0_rankOf yX0_rankOf, Cond.code yX0_rankOf cX0_rankOf 3 (some .int), Cond.methodLink RL 114 yX3_rank, Cond.instanceMethod yX3_rank, Cond.selects RX3 yX3_rank yX3_rank, Cond.code yX3_rank cX3_rank 3 (some .int), Cond.methodLink RL 115 yL_common, Cond.static yL_common, Cond.codeWith yL_common cL_common 6 (some .int) [(0, 12, 15, 13)], Cond.methodLink RL 41 yX2_common, Cond.instanceMethod yX2_common, Cond.selects RX2 yX2_common yX2_common, Cond.code yX2_common cX2_common 5 (some .int), Cond.methodLink RX2 103 yX1_sharedWith, Cond.methodLink RL 118 yX3_common, Cond.instanceMethod yX3_common, Cond.selects RX3 yX3_common yX3_common, Cond.code yX3_common cX3_common 4 (some .int), Cond.methodLink RL 119 yL_against, Cond.static yL_against, Cond.codeWith yL_against cL_against 5 (some .int) [(0, 10, 13, 13)], Cond.methodLink RL 45 yX2_against, Cond.instanceMethod yX2_against]
def wsL_law0_r15 : List Cond := [Cond.selects RX2 yX2_against yX2_against, Cond.code yX2_against cX2_against 3 (some .int), Cond.methodLink RX2 107 yX1_difference, Cond.methodLink RL 121 yX3_against, Cond.instanceMethod yX3_against, Cond.selects RX3 yX3_against yX3_against, Cond.code yX3_against cX3_against 3 (some .int), Cond.methodLink RL 122 yL_repeat, Cond.static yL_repeat, Cond.codeWith yL_repeat cL_repeat 5 (some .int) [(0, 10, 13, 13)], Cond.methodLink RL 48 yX2_repeat, Cond.instanceMethod yX2_repeat, Cond.selects RX2 yX2_repeat yX2_repeat, Cond.code yX2_repeat cX2_repeat 7 (some .int), Cond.methodLink RX2 112 yX0_repeatRank, Cond.instanceMethod yX0_repeatRank, Cond.selects RX0 yX0_repeatRank yX0_repeatRank, Cond.code yX0_repeatRank cX0_repeatRank 5 (some .int), Cond.methodLink RX2 115 yX0_sharedWithNext, Cond.methodLink RX2 118 yX1_firstPlaceOf, Cond.instanceMethod yX1_firstPlaceOf, Cond.selects RX1 yX1_firstPlaceOf yX1_firstPlaceOf, Cond.code yX1_firstPlaceOf cX1_firstPlaceOf 5 (some .int), Cond.methodLink RX1 36 yX1_standsAt]
def wsL_law0_r16 : List Cond := [Cond.instanceMethod yX1_standsAt, Cond.selects RX1 yX1_standsAt yX1_standsAt, Cond.code yX1_standsAt cX1_standsAt 5 (some .boolean), Cond.methodLink RX2 122 yX1_placesOf, Cond.instanceMethod yX1_placesOf, Cond.selects RX1 yX1_placesOf yX1_placesOf, Cond.code yX1_placesOf cX1_placesOf 6 (some .int), Cond.methodLink RL 124 yX3_repeat, Cond.instanceMethod yX3_repeat, Cond.selects RX3 yX3_repeat yX3_repeat, Cond.code yX3_repeat cX3_repeat 3 (some .int), Cond.methodLink RX3 120 yX3_repeatTold, Cond.instanceMethod yX3_repeatTold, Cond.selects RX3 yX3_repeatTold yX3_repeatTold, Cond.code yX3_repeatTold cX3_repeatTold 7 (some .int), Cond.methodLink RX3 70 yX3_mostBeside, Cond.instanceMethod yX3_mostBeside, Cond.selects RX3 yX3_mostBeside yX3_mostBeside, Cond.code yX3_mostBeside cX3_mostBeside 5 (some .int), Cond.methodLink RX3 73 yX3_placesOf, Cond.instanceMethod yX3_placesOf, Cond.selects RX3 yX3_placesOf yX3_placesOf, Cond.code yX3_placesOf cX3_placesOf 6 (some .int), Cond.methodLink RL 125 yL_row]
def wsL_law0_r17 : List Cond := [Cond.static yL_row, Cond.codeWith yL_row cL_row 5 (some .int) [(0, 10, 13, 13)], Cond.methodLink RL 51 yX2_row, Cond.instanceMethod yX2_row, Cond.selects RX2 yX2_row yX2_row, Cond.code yX2_row cX2_row 4 (some .int), Cond.methodLink RX2 127 yX0_rowOfNumber, Cond.instanceMethod yX0_rowOfNumber, Cond.selects RX0 yX0_rowOfNumber yX0_rowOfNumber, Cond.code yX0_rowOfNumber cX0_rowOfNumber 6 (some .int), Cond.methodLink RX0 60 yX1_firstPlaceOf, Cond.methodLink RL 127 yX3_row, Cond.instanceMethod yX3_row, Cond.selects RX3 yX3_row yX3_row, Cond.code yX3_row cX3_row 8 (some .int), Cond.methodLink RX3 123 yX3_firstPlace, Cond.instanceMethod yX3_firstPlace, Cond.selects RX3 yX3_firstPlace yX3_firstPlace, Cond.code yX3_firstPlace cX3_firstPlace 4 (some .int), Cond.methodLink RL 128 yL_found, Cond.static yL_found, Cond.codeWith yL_found cL_found 4 (some .int) [(0, 9, 12, 13)], Cond.methodLink RL 54 yX2_found, Cond.instanceMethod yX2_found]
def wsL_law0_r18 : List Cond := [Cond.selects RX2 yX2_found yX2_found, Cond.code yX2_found cX2_found 2 (some .int), Cond.methodLink RL 130 yX3_found, Cond.instanceMethod yX3_found, Cond.selects RX3 yX3_found yX3_found, Cond.code yX3_found cX3_found 2 (some .int), Cond.methodLink RX3 126 yX3_foundIn, Cond.instanceMethod yX3_foundIn, Cond.selects RX3 yX3_foundIn yX3_foundIn, Cond.code yX3_foundIn cX3_foundIn 4 (some .int), Cond.methodLink RX3 86 yX3_isSampleAt, Cond.instanceMethod yX3_isSampleAt, Cond.selects RX3 yX3_isSampleAt yX3_isSampleAt, Cond.code yX3_isSampleAt cX3_isSampleAt 4 (some .boolean), Cond.methodLink RL 131 yL_first, Cond.static yL_first, Cond.codeWith yL_first cL_first 4 (some .int) [(0, 9, 12, 13)], Cond.methodLink RL 57 yX2_first, Cond.instanceMethod yX2_first, Cond.selects RX2 yX2_first yX2_first, Cond.code yX2_first cX2_first 2 (some .int), Cond.methodLink RL 133 yX3_first, Cond.instanceMethod yX3_first, Cond.selects RX3 yX3_first yX3_first]
def wsL_law0_r19 : List Cond := [Cond.code yX3_first cX3_first 3 (some .int), Cond.methodLink RL 134 yL_period, Cond.static yL_period, Cond.codeWith yL_period cL_period 4 (some .int) [(0, 9, 12, 13)], Cond.methodLink RL 60 yX2_period, Cond.instanceMethod yX2_period, Cond.selects RX2 yX2_period yX2_period, Cond.code yX2_period cX2_period 2 (some .int), Cond.methodLink RX2 130 yX1_leastPeriod, Cond.instanceMethod yX1_leastPeriod, Cond.selects RX1 yX1_leastPeriod yX1_leastPeriod, Cond.code yX1_leastPeriod cX1_leastPeriod 2 (some .int), Cond.methodLink RL 136 yX3_period, Cond.instanceMethod yX3_period, Cond.selects RX3 yX3_period yX3_period, Cond.code yX3_period cX3_period 2 (some .int), Cond.methodLink RX3 129 yX3_periodOf, Cond.instanceMethod yX3_periodOf, Cond.selects RX3 yX3_periodOf yX3_periodOf, Cond.code yX3_periodOf cX3_periodOf 3 (some .int), Cond.methodLink RX3 90 Lib.Math.min.name, Cond.methodLink RX3 93 yX3_isPeriod, Cond.instanceMethod yX3_isPeriod, Cond.selects RX3 yX3_isPeriod yX3_isPeriod]
def wsL_law0_r20 : List Cond := [Cond.code yX3_isPeriod cX3_isPeriod 4 (some .boolean), Cond.methodLink RL 137 yL_turned, Cond.static yL_turned, Cond.codeWith yL_turned cL_turned 4 (some .int) [(0, 9, 12, 13)], Cond.methodLink RL 63 yX2_turned, Cond.instanceMethod yX2_turned, Cond.selects RX2 yX2_turned yX2_turned, Cond.code yX2_turned cX2_turned 2 (some .int), Cond.methodLink RX2 133 yX1_bestBeginning, Cond.instanceMethod yX1_bestBeginning, Cond.selects RX1 yX1_bestBeginning yX1_bestBeginning, Cond.code yX1_bestBeginning cX1_bestBeginning 3 (some .int), Cond.methodLink RX1 40 yX1_turnsToLess, Cond.instanceMethod yX1_turnsToLess, Cond.selects RX1 yX1_turnsToLess yX1_turnsToLess, Cond.code yX1_turnsToLess cX1_turnsToLess 6 (some .boolean), Cond.methodLink RX1 44 yX1_allAround, Cond.instanceMethod yX1_allAround, Cond.selects RX1 yX1_allAround yX1_allAround, Cond.code yX1_allAround cX1_allAround 2 (some .int), Cond.methodLink RL 139 yX3_turned, Cond.instanceMethod yX3_turned, Cond.selects RX3 yX3_turned yX3_turned, Cond.code yX3_turned cX3_turned 2 (some .int)]
def wsL_law0_r21 : List Cond := [Cond.methodLink RX3 132 yX3_turnedOf, Cond.instanceMethod yX3_turnedOf, Cond.selects RX3 yX3_turnedOf yX3_turnedOf, Cond.code yX3_turnedOf cX3_turnedOf 4 (some .int), Cond.methodLink RX3 96 yX3_isLessAround, Cond.instanceMethod yX3_isLessAround, Cond.selects RX3 yX3_isLessAround yX3_isLessAround, Cond.code yX3_isLessAround cX3_isLessAround 8 (some .boolean), Cond.methodLink RL 140 yL_seam, Cond.static yL_seam, Cond.codeWith yL_seam cL_seam 4 (some .int) [(0, 9, 12, 13)], Cond.methodLink RL 66 yX2_seam, Cond.instanceMethod yX2_seam, Cond.selects RX2 yX2_seam yX2_seam, Cond.code yX2_seam cX2_seam 5 (some .int), Cond.methodLink RL 142 yX3_seam, Cond.instanceMethod yX3_seam, Cond.selects RX3 yX3_seam yX3_seam, Cond.code yX3_seam cX3_seam 2 (some .int), Cond.methodLink RL 143 yL_would, Cond.static yL_would, Cond.codeWith yL_would cL_would 5 (some .int) [(0, 10, 13, 13), (0, 10, 17, 15)], Cond.methodLink RL 69 yX2_would, Cond.instanceMethod yX2_would]
def wsL_law0_r22 : List Cond := [Cond.selects RX2 yX2_would yX2_would, Cond.code yX2_would cX2_would 4 (some .int), Cond.methodLink RX2 136 yX1_newRowsBy, Cond.instanceMethod yX1_newRowsBy, Cond.selects RX1 yX1_newRowsBy yX1_newRowsBy, Cond.code yX1_newRowsBy cX1_newRowsBy 4 (some .int), Cond.methodLink RX1 47 yX1_sharedBackwardsFrom, Cond.instanceMethod yX1_sharedBackwardsFrom, Cond.selects RX1 yX1_sharedBackwardsFrom yX1_sharedBackwardsFrom, Cond.code yX1_sharedBackwardsFrom cX1_sharedBackwardsFrom 3 (some .int), Cond.methodLink RL 145 yX3_would, Cond.instanceMethod yX3_would, Cond.selects RX3 yX3_would yX3_would, Cond.code yX3_would cX3_would 3 (some .int), Cond.methodLink RX3 135 yX3_more, Cond.instanceMethod yX3_more, Cond.selects RX3 yX3_more yX3_more, Cond.code yX3_more cX3_more 7 (some .int), Cond.methodLink RL 146 yL_advise, Cond.static yL_advise, Cond.codeWith yL_advise cL_advise 4 (some .int) [(0, 9, 12, 13)], Cond.methodLink RL 72 yX2_advise, Cond.instanceMethod yX2_advise, Cond.selects RX2 yX2_advise yX2_advise]
def wsL_law0_r23 : List Cond := [Cond.code yX2_advise cX2_advise 7 (some .int), Cond.methodLink RL 148 yX3_advise, Cond.instanceMethod yX3_advise, Cond.selects RX3 yX3_advise yX3_advise, Cond.code yX3_advise cX3_advise 4 (some .int), Cond.methodLink RL 149 yX2_mean, Cond.instanceMethod yX2_mean, Cond.selects RX2 yX2_mean yX2_mean, Cond.code yX2_mean cX2_mean 3 (some .double), Cond.methodLink RX2 139 yX0_neighbourPairs, Cond.instanceMethod yX0_neighbourPairs, Cond.selects RX0 yX0_neighbourPairs yX0_neighbourPairs, Cond.code yX0_neighbourPairs cX0_neighbourPairs 1 (some .int), Cond.methodLink RX2 142 yX0_sharedByNeighbours, Cond.instanceMethod yX0_sharedByNeighbours, Cond.selects RX0 yX0_sharedByNeighbours yX0_sharedByNeighbours, Cond.code yX0_sharedByNeighbours cX0_sharedByNeighbours 3 (some .int), Cond.methodLink RL 153 yX3_mean, Cond.instanceMethod yX3_mean, Cond.selects RX3 yX3_mean yX3_mean, Cond.code yX3_mean cX3_mean 5 (some .double), Cond.methodLink RL 154 yX2_digest, Cond.instanceMethod yX2_digest, Cond.selects RX2 yX2_digest yX2_digest]
def wsL_law0_r24 : List Cond := [Cond.code yX2_digest cX2_digest 4 (some .long), Cond.constantLong RX2 145 (1483), Cond.methodLink RX2 147 yX2_count, Cond.methodLink RX2 150 yX2_mixed, Cond.static yX2_mixed, Cond.code yX2_mixed cX2_mixed 3 (some .long), Cond.constantLong RX2 177 (31), Cond.methodLink RX2 154 yX2_hemMixed, Cond.instanceMethod yX2_hemMixed, Cond.selects RX2 yX2_hemMixed yX2_hemMixed, Cond.code yX2_hemMixed cX2_hemMixed 8 (some .long), Cond.methodLink RX2 157 yX2_stitchesMixed, Cond.static yX2_stitchesMixed, Cond.code yX2_stitchesMixed cX2_stitchesMixed 6 (some .long), Cond.methodLink RX2 164 yX2_repeat, Cond.methodLink RX2 168 yX2_period, Cond.methodLink RX2 171 yX2_turned, Cond.methodLink RX2 174 yX2_found, Cond.methodLink RX2 161 yX2_seam, Cond.methodLink RL 158 yX3_digest, Cond.instanceMethod yX3_digest, Cond.selects RX3 yX3_digest yX3_digest, Cond.code yX3_digest cX3_digest 5 (some .long), Cond.constantLong RX3 138 (1483)]
def wsL_law0_r25 : List Cond := [Cond.constantLong RX3 140 (31)]
def wsL_law0 : List Cond := (wsL_law0_r1 ++ (wsL_law0_r2 ++ (wsL_law0_r3 ++ (wsL_law0_r4 ++ (wsL_law0_r5 ++ (wsL_law0_r6 ++ (wsL_law0_r7 ++ (wsL_law0_r8 ++ (wsL_law0_r9 ++ (wsL_law0_r10 ++ (wsL_law0_r11 ++ (wsL_law0_r12 ++ (wsL_law0_r13 ++ (wsL_law0_r14 ++ (wsL_law0_r15 ++ (wsL_law0_r16 ++ (wsL_law0_r17 ++ (wsL_law0_r18 ++ (wsL_law0_r19 ++ (wsL_law0_r20 ++ (wsL_law0_r21 ++ (wsL_law0_r22 ++ (wsL_law0_r23 ++ (wsL_law0_r24 ++ wsL_law0_r25)))))))))))))))))))))))) ++ wsX20 ++ wsX30 ++ wsX00 ++ wsX10 ++ ([] : List Cond)
def wsL_law : List Cond := wsL_law0 ++ (vx_atS RX2 45 "java/lang/IllegalStateException" ["java/lang/RuntimeException", "java/lang/Exception"]).filter goodWord ++ (vx_atS RX2 96 "java/lang/IndexOutOfBoundsException" ["java/lang/RuntimeException", "java/lang/Exception"]).filter goodWord ++ (vx_atS RX2 55 "java/lang/IllegalArgumentException" ["java/lang/RuntimeException", "java/lang/Exception"]).filter goodWord
abbrev vwCl : List vw_C := [(RX0, TX0, 2), (RX1, TX1, 2), (RX2, TX2, 3), (RX3, TX3, 8)]
end
section
set_option maxRecDepth 20000 in
theorem wsL_law0_r1_in : ∀ w ∈ wsL_law0_r1, w ∈ lw_tbl := fun w h => (goodIn_p wsL_law0_r1 [51, 54] (by decide +kernel) (by decide +kernel) w h).1
set_option maxRecDepth 20000 in
theorem wsL_law0_r2_in : ∀ w ∈ wsL_law0_r2, w ∈ lw_tbl := fun w h => (goodIn_p wsL_law0_r2 [59, 65, 525] (by decide +kernel) (by decide +kernel) w h).1
set_option maxRecDepth 20000 in
theorem wsL_law0_r3_in : ∀ w ∈ wsL_law0_r3, w ∈ lw_tbl := fun w h => (goodIn_p wsL_law0_r3 [318, 249, 321] (by decide +kernel) (by decide +kernel) w h).1
set_option maxRecDepth 20000 in
theorem wsL_law0_r4_in : ∀ w ∈ wsL_law0_r4, w ∈ lw_tbl := fun w h => (goodIn_p wsL_law0_r4 [357, 361, 365, 369, 373, 128] (by decide +kernel) (by decide +kernel) w h).1
set_option maxRecDepth 20000 in
theorem wsL_law0_r5_in : ∀ w ∈ wsL_law0_r5, w ∈ lw_tbl := fun w h => (goodIn_p wsL_law0_r5 [131, 135, 561, 564, 567, 571] (by decide +kernel) (by decide +kernel) w h).1
set_option maxRecDepth 20000 in
theorem wsL_law0_r6_in : ∀ w ∈ wsL_law0_r6, w ∈ lw_tbl := fun w h => (goodIn_p wsL_law0_r6 [574, 557, 380, 386, 578] (by decide +kernel) (by decide +kernel) w h).1
set_option maxRecDepth 20000 in
theorem wsL_law0_r7_in : ∀ w ∈ wsL_law0_r7, w ∈ lw_tbl := fun w h => (goodIn_p wsL_law0_r7 [394, 399, 104, 582, 407] (by decide +kernel) (by decide +kernel) w h).1
set_option maxRecDepth 20000 in
theorem wsL_law0_r8_in : ∀ w ∈ wsL_law0_r8, w ∈ lw_tbl := fun w h => (goodIn_p wsL_law0_r8 [586, 100, 590, 416] (by decide +kernel) (by decide +kernel) w h).1
set_option maxRecDepth 20000 in
theorem wsL_law0_r9_in : ∀ w ∈ wsL_law0_r9, w ∈ lw_tbl := fun w h => (goodIn_p wsL_law0_r9 [419, 594, 598, 144, 148] (by decide +kernel) (by decide +kernel) w h).1
set_option maxRecDepth 20000 in
theorem wsL_law0_r10_in : ∀ w ∈ wsL_law0_r10, w ∈ lw_tbl := fun w h => (goodIn_p wsL_law0_r10 [152, 124, 120, 156, 161, 165] (by decide +kernel) (by decide +kernel) w h).1
set_option maxRecDepth 20000 in
theorem wsL_law0_r11_in : ∀ w ∈ wsL_law0_r11, w ∈ lw_tbl := fun w h => (goodIn_p wsL_law0_r11 [169, 602, 606, 610, 614, 617] (by decide +kernel) (by decide +kernel) w h).1
set_option maxRecDepth 20000 in
theorem wsL_law0_r12_in : ∀ w ∈ wsL_law0_r12, w ∈ lw_tbl := fun w h => (goodIn_p wsL_law0_r12 [621, 626, 630, 634, 638, 641] (by decide +kernel) (by decide +kernel) w h).1
set_option maxRecDepth 20000 in
theorem wsL_law0_r13_in : ∀ w ∈ wsL_law0_r13, w ∈ lw_tbl := fun w h => (goodIn_p wsL_law0_r13 [431, 645, 649, 653, 438] (by decide +kernel) (by decide +kernel) w h).1
set_option maxRecDepth 20000 in
theorem wsL_law0_r14_in : ∀ w ∈ wsL_law0_r14, w ∈ lw_tbl := fun w h => (goodIn_p wsL_law0_r14 [442, 657, 449, 661] (by decide +kernel) (by decide +kernel) w h).1
set_option maxRecDepth 20000 in
theorem wsL_law0_r15_in : ∀ w ∈ wsL_law0_r15, w ∈ lw_tbl := fun w h => (goodIn_p wsL_law0_r15 [457, 665, 258, 263, 268] (by decide +kernel) (by decide +kernel) w h).1
set_option maxRecDepth 20000 in
theorem wsL_law0_r16_in : ∀ w ∈ wsL_law0_r16, w ∈ lw_tbl := fun w h => (goodIn_p wsL_law0_r16 [272, 276, 669, 673, 677, 681] (by decide +kernel) (by decide +kernel) w h).1
set_option maxRecDepth 20000 in
theorem wsL_law0_r17_in : ∀ w ∈ wsL_law0_r17, w ∈ lw_tbl := fun w h => (goodIn_p wsL_law0_r17 [469, 474, 685, 689] (by decide +kernel) (by decide +kernel) w h).1
set_option maxRecDepth 20000 in
theorem wsL_law0_r18_in : ∀ w ∈ wsL_law0_r18, w ∈ lw_tbl := fun w h => (goodIn_p wsL_law0_r18 [304, 693, 697, 701, 486] (by decide +kernel) (by decide +kernel) w h).1
set_option maxRecDepth 20000 in
theorem wsL_law0_r19_in : ∀ w ∈ wsL_law0_r19, w ∈ lw_tbl := fun w h => (goodIn_p wsL_law0_r19 [705, 280, 284, 709, 713] (by decide +kernel) (by decide +kernel) w h).1
set_option maxRecDepth 20000 in
theorem wsL_law0_r20_in : ∀ w ∈ wsL_law0_r20, w ∈ lw_tbl := fun w h => (goodIn_p wsL_law0_r20 [718, 288, 292, 296, 300, 722] (by decide +kernel) (by decide +kernel) w h).1
set_option maxRecDepth 20000 in
theorem wsL_law0_r21_in : ∀ w ∈ wsL_law0_r21, w ∈ lw_tbl := fun w h => (goodIn_p wsL_law0_r21 [726, 730, 308, 734] (by decide +kernel) (by decide +kernel) w h).1
set_option maxRecDepth 20000 in
theorem wsL_law0_r22_in : ∀ w ∈ wsL_law0_r22, w ∈ lw_tbl := fun w h => (goodIn_p wsL_law0_r22 [505, 509, 513, 738, 742] (by decide +kernel) (by decide +kernel) w h).1
set_option maxRecDepth 20000 in
theorem wsL_law0_r23_in : ∀ w ∈ wsL_law0_r23, w ∈ lw_tbl := fun w h => (goodIn_p wsL_law0_r23 [520, 746, 108, 112, 116, 750] (by decide +kernel) (by decide +kernel) w h).1
set_option maxRecDepth 20000 in
theorem wsL_law0_r24_in : ∀ w ∈ wsL_law0_r24, w ∈ lw_tbl := fun w h => (goodIn_p wsL_law0_r24 [139, 240, 245, 253, 754] (by decide +kernel) (by decide +kernel) w h).1
set_option maxRecDepth 20000 in
theorem wsL_law0_r25_in : ∀ w ∈ wsL_law0_r25, w ∈ lw_tbl := fun w h => (goodIn_p wsL_law0_r25 [] (by decide +kernel) (by decide +kernel) w h).1
set_option maxRecDepth 20000 in
theorem wsL_law_wsX20_in : ∀ w ∈ wsX20, w ∈ lw_tbl := fun w h => (goodIn_p wsX20 [] (by decide +kernel) (by decide +kernel) w h).1
set_option maxRecDepth 20000 in
theorem wsL_law_wsX30_in : ∀ w ∈ wsX30, w ∈ lw_tbl := fun w h => (goodIn_p wsX30 [] (by decide +kernel) (by decide +kernel) w h).1
set_option maxRecDepth 20000 in
theorem wsL_law_wsX00_in : ∀ w ∈ wsX00, w ∈ lw_tbl := fun w h => (goodIn_p wsX00 [] (by decide +kernel) (by decide +kernel) w h).1
set_option maxRecDepth 20000 in
theorem wsL_law_wsX10_in : ∀ w ∈ wsX10, w ∈ lw_tbl := fun w h => (goodIn_p wsX10 [] (by decide +kernel) (by decide +kernel) w h).1
theorem wsL_law_in0 : ∀ w ∈ wsL_law0, w ∈ lw_tbl := List.forall_mem_append.mpr ⟨List.forall_mem_append.mpr ⟨List.forall_mem_append.mpr ⟨List.forall_mem_append.mpr ⟨List.forall_mem_append.mpr ⟨List.forall_mem_append.mpr ⟨wsL_law0_r1_in, List.forall_mem_append.mpr ⟨wsL_law0_r2_in, List.forall_mem_append.mpr ⟨wsL_law0_r3_in, List.forall_mem_append.mpr ⟨wsL_law0_r4_in, List.forall_mem_append.mpr ⟨wsL_law0_r5_in, List.forall_mem_append.mpr ⟨wsL_law0_r6_in, List.forall_mem_append.mpr ⟨wsL_law0_r7_in, List.forall_mem_append.mpr ⟨wsL_law0_r8_in, List.forall_mem_append.mpr ⟨wsL_law0_r9_in, List.forall_mem_append.mpr ⟨wsL_law0_r10_in, List.forall_mem_append.mpr ⟨wsL_law0_r11_in, List.forall_mem_append.mpr ⟨wsL_law0_r12_in, List.forall_mem_append.mpr ⟨wsL_law0_r13_in, List.forall_mem_append.mpr ⟨wsL_law0_r14_in, List.forall_mem_append.mpr ⟨wsL_law0_r15_in, List.forall_mem_append.mpr ⟨wsL_law0_r16_in, List.forall_mem_append.mpr ⟨wsL_law0_r17_in, List.forall_mem_append.mpr ⟨wsL_law0_r18_in, List.forall_mem_append.mpr ⟨wsL_law0_r19_in, List.forall_mem_append.mpr ⟨wsL_law0_r20_in, List.forall_mem_append.mpr ⟨wsL_law0_r21_in, List.forall_mem_append.mpr ⟨wsL_law0_r22_in, List.forall_mem_append.mpr ⟨wsL_law0_r23_in, List.forall_mem_append.mpr ⟨wsL_law0_r24_in, wsL_law0_r25_in⟩⟩⟩⟩⟩⟩⟩⟩⟩⟩⟩⟩⟩⟩⟩⟩⟩⟩⟩⟩⟩⟩⟩⟩, wsL_law_wsX20_in⟩, wsL_law_wsX30_in⟩, wsL_law_wsX00_in⟩, wsL_law_wsX10_in⟩, (fun _ h => absurd h List.not_mem_nil)⟩
end
section
theorem wsL_law_x0 : ∀ w ∈ (vx_atS RX2 45 "java/lang/IllegalStateException" ["java/lang/RuntimeException", "java/lang/Exception"]).filter goodWord, w ∈ lw_tbl := by decide +kernel
theorem wsL_law_x1 : ∀ w ∈ (vx_atS RX2 96 "java/lang/IndexOutOfBoundsException" ["java/lang/RuntimeException", "java/lang/Exception"]).filter goodWord, w ∈ lw_tbl := by decide +kernel
theorem wsL_law_x2 : ∀ w ∈ (vx_atS RX2 55 "java/lang/IllegalArgumentException" ["java/lang/RuntimeException", "java/lang/Exception"]).filter goodWord, w ∈ lw_tbl := by decide +kernel
theorem wsL_law_in : ∀ w ∈ wsL_law, w ∈ lw_tbl := fun w h => (List.mem_append.mp h).elim (fun h => (List.mem_append.mp h).elim (fun h => (List.mem_append.mp h).elim (fun h => wsL_law_in0 w h) (fun h => wsL_law_x0 w h)) (fun h => wsL_law_x1 w h)) (fun h => wsL_law_x2 w h)
theorem inlX0 : ∀ w ∈ wsX00, w ∈ wsL_law := fun _ h => List.mem_append_left _ (List.mem_append_left _ (List.mem_append_left _ (List.mem_append_left _ (List.mem_append_left _ (List.mem_append_right _ h)))))
theorem inX0 : ∀ w ∈ wsX00, w ∈ lw_tbl := fun w h => wsL_law_in w (inlX0 w h)
theorem inlX1 : ∀ w ∈ wsX10, w ∈ wsL_law := fun _ h => List.mem_append_left _ (List.mem_append_left _ (List.mem_append_left _ (List.mem_append_left _ (List.mem_append_right _ h))))
theorem inX1 : ∀ w ∈ wsX10, w ∈ lw_tbl := fun w h => wsL_law_in w (inlX1 w h)
theorem inlX2 : ∀ w ∈ wsX20, w ∈ wsL_law := fun _ h => List.mem_append_left _ (List.mem_append_left _ (List.mem_append_left _ (List.mem_append_left _ (List.mem_append_left _ (List.mem_append_left _ (List.mem_append_left _ (List.mem_append_right _ h)))))))
theorem inX2 : ∀ w ∈ wsX20, w ∈ lw_tbl := fun w h => wsL_law_in w (inlX2 w h)
theorem inlX3 : ∀ w ∈ wsX30, w ∈ wsL_law := fun _ h => List.mem_append_left _ (List.mem_append_left _ (List.mem_append_left _ (List.mem_append_left _ (List.mem_append_left _ (List.mem_append_left _ (List.mem_append_right _ h))))))
theorem inX3 : ∀ w ∈ wsX30, w ∈ lw_tbl := fun w h => wsL_law_in w (inlX3 w h)
theorem inJ9 : ∀ w ∈ wsJ90, w ∈ lw_tbl := by decide +kernel
theorem inJ0 : ∀ w ∈ wsJ00, w ∈ lw_tbl := by decide +kernel
end
section
/-! ===== numbers: every int of the walks is zI of a whole number ===== -/
def zI (z : Int) : Int32 := Int32.ofInt z
theorem zI_add (a b : Int) : zI a + zI b = zI (a + b) := (Int32.ofInt_add a b).symm
theorem zI_sub (a b : Int) : zI a - zI b = zI (a - b) := (Int32.ofInt_sub a b).symm
theorem zI_mul (a b : Int) : zI a * zI b = zI (a * b) := (Int32.ofInt_mul a b).symm
theorem zI_neg (a : Int) : -zI a = zI (-a) := (Int32.ofInt_neg a).symm
theorem zI_of (x : Int32) : x = zI x.toInt := (Int32.ofInt_toInt x).symm
theorem zI_toInt {a : Int} (h : -2147483648 ≤ a ∧ a ≤ 2147483647) : (zI a).toInt = a := Int32.toInt_ofInt_of_le (by omega) (by omega)
theorem zI_nat {a : Int} (h : 0 ≤ a ∧ a ≤ 2147483647) : (zI a).toNatClampNeg = a.toNat := Int32.toNatClampNeg_ofInt_of_le (by omega) (by omega)
theorem zI_0 : (0 : Int32) = zI 0 := rfl
theorem zI_eq {a b : Int} (h : -2147483648 ≤ a ∧ a ≤ 2147483647 ∧ -2147483648 ≤ b ∧ b ≤ 2147483647) : zI a = zI b ↔ a = b :=
  ⟨fun q => by have := congrArg Int32.toInt q; rwa [zI_toInt ⟨h.1, h.2.1⟩, zI_toInt ⟨h.2.2.1, h.2.2.2⟩] at this, fun q => by rw [q]⟩
theorem zI_lt {a b : Int} (h : -2147483648 ≤ a ∧ a ≤ 2147483647 ∧ -2147483648 ≤ b ∧ b ≤ 2147483647) : zI a < zI b ↔ a < b := by
  rw [Int32.lt_iff_toInt_lt, zI_toInt ⟨h.1, h.2.1⟩, zI_toInt ⟨h.2.2.1, h.2.2.2⟩]
theorem zI_le {a b : Int} (h : -2147483648 ≤ a ∧ a ≤ 2147483647 ∧ -2147483648 ≤ b ∧ b ≤ 2147483647) : zI a ≤ zI b ↔ a ≤ b := by
  rw [Int32.le_iff_toInt_le, zI_toInt ⟨h.1, h.2.1⟩, zI_toInt ⟨h.2.2.1, h.2.2.2⟩]
theorem zI_in {a : Int} {n : Nat} (h : 0 ≤ a ∧ a < (n : Int)) (h2 : a ≤ 2147483647) : vp_in (zI a) n := by
  rw [vp_in_iff, zI_toInt ⟨by omega, h2⟩]
  exact h
theorem zI_rng (x : Int32) : -2147483648 ≤ x.toInt ∧ x.toInt ≤ 2147483647 := by
  have h1 := Int32.le_toInt x
  have h2 := Int32.toInt_lt x
  omega
def lI (z : Int) : Int64 := Int64.ofInt z
theorem lI_add (a b : Int) : lI a + lI b = lI (a + b) := (Int64.ofInt_add a b).symm
theorem lI_mul (a b : Int) : lI a * lI b = lI (a * b) := (Int64.ofInt_mul a b).symm
theorem zI_long {a : Int} (h : -2147483648 ≤ a ∧ a ≤ 2147483647) : (zI a).toInt64 = lI a := by
  apply Int64.toInt_inj.mp
  rw [Int32.toInt_toInt64, zI_toInt h]
  exact (Int64.toInt_ofInt_of_le (by omega) (by omega)).symm
theorem zI_rem {a b : Int} (h : 0 ≤ a ∧ a ≤ 2147483647 ∧ 0 < b ∧ b ≤ 2147483647) : zI a - zI a / zI b * zI b = zI (a % b) := by
  have ea : zI a = nI a.toNat := by
    rw [nI, zI]; rw [← Int32.ofInt_eq_ofNat]; congr 1; omega
  have eb : zI b = nI b.toNat := by
    rw [nI, zI]; rw [← Int32.ofInt_eq_ofNat]; congr 1; omega
  rw [ea, eb, pk_rem (by omega) (by omega) (by omega)]
  have e1 : a = (a.toNat : Int) := by omega
  have e2 : b = (b.toNat : Int) := by omega
  rw [nI, zI, ← Int32.ofInt_eq_ofNat]
  congr 1
  rw [Int.natCast_emod, ← e1, ← e2]
/-! ===== the world: 103 cells, each known by a number; its ints are M cell place ===== -/
abbrev kE : Type := va_G × (ClassId × ClassId × ClassId) × (Int → Nat)
abbrev kM : Type := Int → Int → Int
def kU (M : kM) (c j v : Int) : kM := fun k i => if k = c ∧ i = j then v else M k i
theorem kU_same (M : kM) (c j v : Int) : kU M c j v c j = v := if_pos ⟨rfl, rfl⟩
theorem kU_cell {M : kM} {c j v k i : Int} (h : k ≠ c) : kU M c j v k i = M k i := if_neg (fun q => h q.1)
theorem kU_place {M : kM} {c j v k i : Int} (h : i ≠ j) : kU M c j v k i = M k i := if_neg (fun q => h q.2)
theorem kU_at {M : kM} {c j v k i : Int} : kU M c j v k i = if k = c ∧ i = j then v else M k i := rfl
/-- which cells are arrays of ints, and how long they are -/
def kArr (c : Int) (n : Nat) : Prop := (3 ≤ c ∧ c < 6 ∧ n = 40) ∨ (8 ≤ c ∧ c < 10 ∧ n = 40) ∨ (13 ≤ c ∧ c < 15 ∧ n = 40) ∨ (c = 15 ∧ n = 2) ∨ (c = 16 ∧ n = 12) ∨ (18 ≤ c ∧ c < 59 ∧ n = 41) ∨ (c = 59 ∧ n = 40) ∨ (61 ≤ c ∧ c < 102 ∧ n = 41)
def kLen (c : Int) : Nat := if c < 15 then 40 else if c = 15 then 2 else if c = 16 then 12 else if c = 59 then 40 else 41
theorem kArr_len {c : Int} {n : Nat} (h : kArr c n) : kLen c = n := by
  unfold kArr at h
  unfold kLen
  split
  · omega
  split
  · omega
  split
  · omega
  split
  · omega
  omega
/-- arrays of arrays: cell c, its first row is r0, n rows -/
def kRows (ad : Int → Nat) (r0 : Int) (n : Nat) : Nat → Option Nat := fun j => if j < n then some (ad (r0 + (j : Int))) else none
def kC (E : kE) (M : kM) (c : Int) : va_E :=
  if c < 3 then .inr (1, [.ref (E.2.2 (c + 3)), .int (zI (M c 1))])
  else if 6 ≤ c ∧ c < 8 then .inr (0, [.ref (E.2.2 (c - 6)), .ref (E.2.2 (c + 2))])
  else if c = 10 then .inr (2, [.ref (E.2.2 6), .ref (E.2.2 7), .ref (E.2.2 2)])
  else if c = 11 then .inr (3, [.int (zI (M 11 0)), .ref (E.2.2 12), .ref (E.2.2 15), .ref (E.2.2 16), .int (zI (M 11 4)), .ref (E.2.2 17), .ref (E.2.2 59), .ref (E.2.2 60)])
  else if c = 12 then .inl (E.2.1.2.1, 2, .inr (.inr (.inr (.inr (kRows E.2.2 13 2)))))
  else if c = 17 then .inl (E.2.1.2.1, 41, .inr (.inr (.inr (.inr (kRows E.2.2 18 41)))))
  else if c = 60 then .inl (E.2.1.2.1, 41, .inr (.inr (.inr (.inr (kRows E.2.2 61 41)))))
  else if c = 102 then .inl (E.2.1.2.2, 1, .inr (.inl (fun j => lI (M 102 (j : Int)))))
  else .inl (E.2.1.1, kLen c, .inl (fun j => zI (M c (j : Int))))
def kW (E : kE) (M : kM) : va_W := (List.range 103).map (fun k : Nat => (E.2.2 (k : Int), kC E M (k : Int)))
abbrev kT (E : kE) : List (ClassId × FieldType) := [(E.2.1.1, .int), (E.2.1.2.1, .array .int), (E.2.1.2.2, .long)]
def kInj (E : kE) : Prop := ∀ i j : Int, 0 ≤ i → i < 103 → 0 ≤ j → j < 103 → E.2.2 i = E.2.2 j → i = j
def kA (E : kE) (sz : Nat) : Nat → Prop := fun q => (∃ c : Int, 0 ≤ c ∧ c < 103 ∧ q = E.2.2 c) ∨ sz ≤ q
theorem kC_congr {E : kE} {M M' : kM} {c : Int} (hc : 0 ≤ c ∧ c < 103) (h : ∀ i, M' c i = M c i) : kC E M' c = kC E M c := by
  unfold kC
  by_cases h1 : c = 11
  · subst h1; simp [h]
  by_cases h2 : c = 102
  · subst h2; simp [h]
  simp only [h, h1, h2, if_false]
theorem kW_len (E : kE) (M : kM) : (kW E M).length = 103 := by simp [kW]
theorem kW_get (E : kE) (M : kM) {c : Int} (h : 0 ≤ c ∧ c < 103) : (kW E M)[c.toNat]? = some (E.2.2 c, kC E M c) := by
  have h1 : c.toNat < 103 := by omega
  have h2 : ((c.toNat : Nat) : Int) = c := by omega
  simp only [kW, List.getElem?_map, List.getElem?_range h1, Option.map_some, h2]
theorem kW_inv {E : kE} {M : kM} {k : Nat} {q : Nat × va_E} (h : (kW E M)[k]? = some q) : k < 103 ∧ q = (E.2.2 (k : Int), kC E M (k : Int)) := by
  have h1 : k < 103 := by rw [← kW_len E M]; exact (List.getElem?_eq_some_iff.mp h).1
  refine ⟨h1, ?_⟩
  have h2 := kW_get E M (c := (k : Int)) (by omega)
  rw [Int.toNat_natCast, h] at h2
  exact Option.some.inj h2
theorem kW_set {E : kE} {M M' : kM} {c : Int} {e : va_E} (hc : 0 ≤ c ∧ c < 103) (he : kC E M' c = e) (ho : ∀ k : Int, k ≠ c → ∀ i, M' k i = M k i) : (kW E M).set c.toNat (E.2.2 c, e) = kW E M' := by
  apply List.ext_getElem?
  intro k
  by_cases hk : k < 103
  · have g := kW_get E M' (c := (k : Int)) (by omega)
    rw [Int.toNat_natCast] at g
    rw [g]
    by_cases e1 : k = c.toNat
    · subst e1
      have h2 : ((c.toNat : Nat) : Int) = c := by omega
      rw [List.getElem?_set_self (by rw [kW_len]; exact hk), h2, he]
    · rw [List.getElem?_set_ne (Ne.symm e1)]
      have g2 := kW_get E M (c := (k : Int)) (by omega)
      rw [Int.toNat_natCast] at g2
      rw [g2, kC_congr (by omega) (ho (k : Int) (by omega))]
  · rw [List.getElem?_eq_none (by rw [List.length_set, kW_len]; omega), List.getElem?_eq_none (by rw [kW_len]; omega)]
theorem kW_D {E : kE} (hE : kInj E) (M : kM) {A : Nat → Prop} (hA : ∀ c : Int, 0 ≤ c → c < 103 → A (E.2.2 c)) : va_D A (kW E M) := by
  refine ⟨fun i j x y hi hj hxy => ?_, fun k q hk => ?_⟩
  · obtain ⟨h1, rfl⟩ := kW_inv hi
    obtain ⟨h2, rfl⟩ := kW_inv hj
    have := hE (i : Int) (j : Int) (by omega) (by omega) (by omega) (by omega) hxy
    omega
  · obtain ⟨h1, rfl⟩ := kW_inv hk
    exact hA _ (by omega) (by omega)
theorem kW_DA {E : kE} (hE : kInj E) (M : kM) (sz : Nat) : va_D (kA E sz) (kW E M) := kW_D hE M (fun c h1 h2 => Or.inl ⟨c, h1, h2, rfl⟩)
theorem kC_S {E : kE} {M : kM} {c : Int} (h : 0 ≤ c ∧ c < 3) : kC E M c = .inr (1, [.ref (E.2.2 (c + 3)), .int (zI (M c 1))]) := if_pos h.2
theorem kC_H {E : kE} {M : kM} {c : Int} (h : 6 ≤ c ∧ c < 8) : kC E M c = .inr (0, [.ref (E.2.2 (c - 6)), .ref (E.2.2 (c + 2))]) := by
  unfold kC
  rw [if_neg (by omega), if_pos h]
theorem kC_X {E : kE} {M : kM} : kC E M 10 = .inr (2, [.ref (E.2.2 6), .ref (E.2.2 7), .ref (E.2.2 2)]) := by simp [kC]
theorem kC_Y {E : kE} {M : kM} : kC E M 11 = .inr (3, [.int (zI (M 11 0)), .ref (E.2.2 12), .ref (E.2.2 15), .ref (E.2.2 16), .int (zI (M 11 4)), .ref (E.2.2 17), .ref (E.2.2 59), .ref (E.2.2 60)]) := by simp [kC]
theorem kC_L {E : kE} {M : kM} : kC E M 102 = .inl (E.2.1.2.2, 1, .inr (.inl (fun j => lI (M 102 (j : Int))))) := by simp [kC]
theorem kC_A {E : kE} {M : kM} {c : Int} {n : Nat} (h : kArr c n) : kC E M c = .inl (E.2.1.1, n, .inl (fun j => zI (M c (j : Int)))) := by
  have hl := kArr_len h
  unfold kArr at h
  unfold kC
  rw [if_neg (by omega), if_neg (by omega), if_neg (by omega), if_neg (by omega), if_neg (by omega), if_neg (by omega), if_neg (by omega), if_neg (by omega), hl]
theorem kArr_rng {c : Int} {n : Nat} (h : kArr c n) : 0 ≤ c ∧ c < 103 ∧ (n : Int) ≤ 41 := by
  unfold kArr at h
  omega
/-- a row of an array of arrays -/
def kRow (c r i : Int) (n : Nat) : Prop := (c = 12 ∧ r = 13 + i ∧ 0 ≤ i ∧ i < 2 ∧ n = 2) ∨ (c = 17 ∧ r = 18 + i ∧ 0 ≤ i ∧ i < 41 ∧ n = 41) ∨ (c = 60 ∧ r = 61 + i ∧ 0 ≤ i ∧ i < 41 ∧ n = 41)
theorem kC_G {E : kE} {M : kM} {c r i : Int} {n : Nat} (h : kRow c r i n) : ∃ f : Nat → Option Nat, kC E M c = .inl (E.2.1.2.1, n, .inr (.inr (.inr (.inr f)))) ∧ f i.toNat = some (E.2.2 r) := by
  rcases h with ⟨rfl, rfl, h1, h2, rfl⟩ | ⟨rfl, rfl, h1, h2, rfl⟩ | ⟨rfl, rfl, h1, h2, rfl⟩
  · exact ⟨kRows E.2.2 13 2, by simp [kC], by rw [kRows, if_pos (by omega), show ((i.toNat : Nat) : Int) = i by omega]⟩
  · exact ⟨kRows E.2.2 18 41, by simp [kC], by rw [kRows, if_pos (by omega), show ((i.toNat : Nat) : Int) = i by omega]⟩
  · exact ⟨kRows E.2.2 61 41, by simp [kC], by rw [kRows, if_pos (by omega), show ((i.toNat : Nat) : Int) = i by omega]⟩
end
section
section KY
variable {p : Program} {l : Launch} {e : Env} {R : Room} {s : State} {m : MethodId} {args : Array Value} {below : List Frame} {meth : Method} {c : Code} {H : Heap} {locs : List Loc} {cells slots : Nat} {Q : State → Prop}
variable {cc : ByteArray} {pc : Nat} {ls : Array Slot} {rest : List Value} {E : kE} {M : kM} {nL : Nat} {Ts : List Cond} {own : String}
/-! numbers -/
theorem k_push (hx : p.tables.exec = Jvm.exec) (hb : c.code = cc) {n : Int} (hdg : decode cc pc = .ok (.iconst n, 1)) (k : W p l e R s m args below meth c H locs cells slots Q (F0 m (pc + 1) ls (.int (zI n) :: rest))) : W p l e R s m args below meth c H locs cells slots Q (F0 m pc ls rest) := lv_iconst hx hb hdg rfl k
theorem k_bpush (hx : p.tables.exec = Jvm.exec) (hb : c.code = cc) {n : Int} (hdg : decode cc pc = .ok (.bipush n, 2)) (hv : (Int8.ofInt n).toInt32 = zI n) (k : W p l e R s m args below meth c H locs cells slots Q (F0 m (pc + 2) ls (.int (zI n) :: rest))) : W p l e R s m args below meth c H locs cells slots Q (F0 m pc ls rest) := lv_bipush hx hb hdg hv k
theorem k_add (hx : p.tables.exec = Jvm.exec) (hb : c.code = cc) {a b : Int} (hdg : decode cc pc = .ok (.iadd, 1)) (k : W p l e R s m args below meth c H locs cells slots Q (F0 m (pc + 1) ls (.int (zI (a + b)) :: rest))) : W p l e R s m args below meth c H locs cells slots Q (F0 m pc ls (.int (zI b) :: .int (zI a) :: rest)) := lv_iadd hx hb hdg (by rw [zI_add]; exact k)
theorem k_sub (hx : p.tables.exec = Jvm.exec) (hb : c.code = cc) {a b : Int} (hdg : decode cc pc = .ok (.isub, 1)) (k : W p l e R s m args below meth c H locs cells slots Q (F0 m (pc + 1) ls (.int (zI (a - b)) :: rest))) : W p l e R s m args below meth c H locs cells slots Q (F0 m pc ls (.int (zI b) :: .int (zI a) :: rest)) := lv_isub hx hb hdg (by rw [zI_sub]; exact k)
theorem k_mul (hx : p.tables.exec = Jvm.exec) (hb : c.code = cc) {a b : Int} (hdg : decode cc pc = .ok (.imul, 1)) (k : W p l e R s m args below meth c H locs cells slots Q (F0 m (pc + 1) ls (.int (zI (a * b)) :: rest))) : W p l e R s m args below meth c H locs cells slots Q (F0 m pc ls (.int (zI b) :: .int (zI a) :: rest)) := lv_imul hx hb hdg (by rw [zI_mul]; exact k)
theorem k_rem (hx : p.tables.exec = Jvm.exec) (hb : c.code = cc) {a b : Int} (hdg : decode cc pc = .ok (.irem, 1)) (h : 0 ≤ a ∧ a ≤ 2147483647 ∧ 0 < b ∧ b ≤ 2147483647) (k : W p l e R s m args below meth c H locs cells slots Q (F0 m (pc + 1) ls (.int (zI (a % b)) :: rest))) : W p l e R s m args below meth c H locs cells slots Q (F0 m pc ls (.int (zI b) :: .int (zI a) :: rest)) :=
  lv_irem hx hb hdg (fun q => by have := (zI_eq (a := b) (b := 0) (by omega)).mp q; omega) (by rw [zI_rem h]; exact k)
theorem k_neg (hx : p.tables.exec = Jvm.exec) (hb : c.code = cc) {a : Int} (hdg : decode cc pc = .ok (.ineg, 1)) (k : W p l e R s m args below meth c H locs cells slots Q (F0 m (pc + 1) ls (.int (zI (-a)) :: rest))) : W p l e R s m args below meth c H locs cells slots Q (F0 m pc ls (.int (zI a) :: rest)) := lv_ineg hx hb hdg (by rw [zI_neg]; exact k)
theorem k_i2l (hx : p.tables.exec = Jvm.exec) (hb : c.code = cc) {a : Int} (hdg : decode cc pc = .ok (.i2l, 1)) (h : -2147483648 ≤ a ∧ a ≤ 2147483647) (k : W p l e R s m args below meth c H locs cells slots Q (F0 m (pc + 1) ls (.long (lI a) :: rest))) : W p l e R s m args below meth c H locs cells slots Q (F0 m pc ls (.int (zI a) :: rest)) := lv_i2l hx hb hdg (zI_long h) k
theorem k_ladd (hx : p.tables.exec = Jvm.exec) (hb : c.code = cc) {a b : Int} (hdg : decode cc pc = .ok (.ladd, 1)) (k : W p l e R s m args below meth c H locs cells slots Q (F0 m (pc + 1) ls (.long (lI (a + b)) :: rest))) : W p l e R s m args below meth c H locs cells slots Q (F0 m pc ls (.long (lI b) :: .long (lI a) :: rest)) := lv_ladd hx hb hdg (by rw [lI_add]; exact k)
theorem k_lmul (hx : p.tables.exec = Jvm.exec) (hb : c.code = cc) {a b : Int} (hdg : decode cc pc = .ok (.lmul, 1)) (k : W p l e R s m args below meth c H locs cells slots Q (F0 m (pc + 1) ls (.long (lI (a * b)) :: rest))) : W p l e R s m args below meth c H locs cells slots Q (F0 m pc ls (.long (lI b) :: .long (lI a) :: rest)) := lv_lmul hx hb hdg (by rw [lI_mul]; exact k)
theorem k_inc (hx : p.tables.exec = Jvm.exec) (hb : c.code = cc) {i k : Nat} {n a : Int} {lv lv' : List (Nat × Value)} (hdg : decode cc pc = .ok (.iinc i n, 3)) (h : lv_has ls nL lv) (hk : lv[k]? = some (i, .int (zI a))) (hn : i < nL) (hl : (i, Value.int (zI (a + n))) :: lv.filter (fun q => !(q.1 == i) && !(q.1 + 1 == i && q.2.category == 2)) = lv')
    (kk : ∀ ls' : Array Slot, lv_has ls' nL lv' → W p l e R s m args below meth c H locs cells slots Q (F0 m (pc + 3) ls' rest)) : W p l e R s m args below meth c H locs cells slots Q (F0 m pc ls rest) :=
  lv_iinc (v := zI (a + n)) hx hb hdg h hk (zI_add a n) hn hl kk
/-! branches -/
theorem k_lt (hx : p.tables.exec = Jvm.exec) (hb : c.code = cc) {a b : Int} {off : Int} {tgt : Nat} (hdg : decode cc pc = .ok (.if_icmp .lt off, 3)) (ht : (pc : Int) + off = (tgt : Int)) (h : -2147483648 ≤ a ∧ a ≤ 2147483647 ∧ -2147483648 ≤ b ∧ b ≤ 2147483647)
    (kt : a < b → W p l e R s m args below meth c H locs cells slots Q (F0 m tgt ls rest)) (kf : b ≤ a → W p l e R s m args below meth c H locs cells slots Q (F0 m (pc + 3) ls rest)) : W p l e R s m args below meth c H locs cells slots Q (F0 m pc ls (.int (zI b) :: .int (zI a) :: rest)) :=
  lv_icmp_lt hx hb hdg ht (fun q => kt ((zI_lt h).mp q)) (fun q => kf (by rw [zI_lt h] at q; omega))
theorem k_le (hx : p.tables.exec = Jvm.exec) (hb : c.code = cc) {a b : Int} {off : Int} {tgt : Nat} (hdg : decode cc pc = .ok (.if_icmp .le off, 3)) (ht : (pc : Int) + off = (tgt : Int)) (h : -2147483648 ≤ a ∧ a ≤ 2147483647 ∧ -2147483648 ≤ b ∧ b ≤ 2147483647)
    (kt : a ≤ b → W p l e R s m args below meth c H locs cells slots Q (F0 m tgt ls rest)) (kf : b < a → W p l e R s m args below meth c H locs cells slots Q (F0 m (pc + 3) ls rest)) : W p l e R s m args below meth c H locs cells slots Q (F0 m pc ls (.int (zI b) :: .int (zI a) :: rest)) :=
  lv_icmp_le hx hb hdg ht (fun q => kt ((zI_le h).mp q)) (fun q => kf (by rw [zI_le h] at q; omega))
theorem k_gt (hx : p.tables.exec = Jvm.exec) (hb : c.code = cc) {a b : Int} {off : Int} {tgt : Nat} (hdg : decode cc pc = .ok (.if_icmp .gt off, 3)) (ht : (pc : Int) + off = (tgt : Int)) (h : -2147483648 ≤ a ∧ a ≤ 2147483647 ∧ -2147483648 ≤ b ∧ b ≤ 2147483647)
    (kt : b < a → W p l e R s m args below meth c H locs cells slots Q (F0 m tgt ls rest)) (kf : a ≤ b → W p l e R s m args below meth c H locs cells slots Q (F0 m (pc + 3) ls rest)) : W p l e R s m args below meth c H locs cells slots Q (F0 m pc ls (.int (zI b) :: .int (zI a) :: rest)) :=
  lv_icmp_gt hx hb hdg ht (fun q => kt ((zI_lt (by omega)).mp q)) (fun q => kf (by rw [zI_lt (by omega)] at q; omega))
theorem k_ge (hx : p.tables.exec = Jvm.exec) (hb : c.code = cc) {a b : Int} {off : Int} {tgt : Nat} (hdg : decode cc pc = .ok (.if_icmp .ge off, 3)) (ht : (pc : Int) + off = (tgt : Int)) (h : -2147483648 ≤ a ∧ a ≤ 2147483647 ∧ -2147483648 ≤ b ∧ b ≤ 2147483647)
    (kt : b ≤ a → W p l e R s m args below meth c H locs cells slots Q (F0 m tgt ls rest)) (kf : a < b → W p l e R s m args below meth c H locs cells slots Q (F0 m (pc + 3) ls rest)) : W p l e R s m args below meth c H locs cells slots Q (F0 m pc ls (.int (zI b) :: .int (zI a) :: rest)) :=
  lv_icmp_ge hx hb hdg ht (fun q => kt ((zI_le (by omega)).mp q)) (fun q => kf (by rw [zI_le (by omega)] at q; omega))
theorem k_eq (hx : p.tables.exec = Jvm.exec) (hb : c.code = cc) {a b : Int} {off : Int} {tgt : Nat} (hdg : decode cc pc = .ok (.if_icmp .eq off, 3)) (ht : (pc : Int) + off = (tgt : Int)) (h : -2147483648 ≤ a ∧ a ≤ 2147483647 ∧ -2147483648 ≤ b ∧ b ≤ 2147483647)
    (kt : a = b → W p l e R s m args below meth c H locs cells slots Q (F0 m tgt ls rest)) (kf : a ≠ b → W p l e R s m args below meth c H locs cells slots Q (F0 m (pc + 3) ls rest)) : W p l e R s m args below meth c H locs cells slots Q (F0 m pc ls (.int (zI b) :: .int (zI a) :: rest)) :=
  lv_icmp_eq hx hb hdg ht (fun q => kt ((zI_eq h).mp q)) (fun q => kf (fun z => q ((zI_eq h).mpr z)))
theorem k_ne (hx : p.tables.exec = Jvm.exec) (hb : c.code = cc) {a b : Int} {off : Int} {tgt : Nat} (hdg : decode cc pc = .ok (.if_icmp .ne off, 3)) (ht : (pc : Int) + off = (tgt : Int)) (h : -2147483648 ≤ a ∧ a ≤ 2147483647 ∧ -2147483648 ≤ b ∧ b ≤ 2147483647)
    (kt : a ≠ b → W p l e R s m args below meth c H locs cells slots Q (F0 m tgt ls rest)) (kf : a = b → W p l e R s m args below meth c H locs cells slots Q (F0 m (pc + 3) ls rest)) : W p l e R s m args below meth c H locs cells slots Q (F0 m pc ls (.int (zI b) :: .int (zI a) :: rest)) :=
  lv_icmp_ne hx hb hdg ht (fun q => kt (fun z => q ((zI_eq h).mpr z))) (fun q => kf ((zI_eq h).mp q))
theorem k_lt0 (hx : p.tables.exec = Jvm.exec) (hb : c.code = cc) {a : Int} {off : Int} {tgt : Nat} (hdg : decode cc pc = .ok (.ifCond .lt off, 3)) (ht : (pc : Int) + off = (tgt : Int)) (h : -2147483648 ≤ a ∧ a ≤ 2147483647)
    (kt : a < 0 → W p l e R s m args below meth c H locs cells slots Q (F0 m tgt ls rest)) (kf : 0 ≤ a → W p l e R s m args below meth c H locs cells slots Q (F0 m (pc + 3) ls rest)) : W p l e R s m args below meth c H locs cells slots Q (F0 m pc ls (.int (zI a) :: rest)) :=
  lv_if_lt hx hb hdg ht (fun q => kt ((zI_lt (b := 0) (by omega)).mp q)) (fun q => kf (by rw [zI_0, zI_lt (by omega)] at q; omega))
theorem k_le0 (hx : p.tables.exec = Jvm.exec) (hb : c.code = cc) {a : Int} {off : Int} {tgt : Nat} (hdg : decode cc pc = .ok (.ifCond .le off, 3)) (ht : (pc : Int) + off = (tgt : Int)) (h : -2147483648 ≤ a ∧ a ≤ 2147483647)
    (kt : a ≤ 0 → W p l e R s m args below meth c H locs cells slots Q (F0 m tgt ls rest)) (kf : 0 < a → W p l e R s m args below meth c H locs cells slots Q (F0 m (pc + 3) ls rest)) : W p l e R s m args below meth c H locs cells slots Q (F0 m pc ls (.int (zI a) :: rest)) :=
  lv_if_le hx hb hdg ht (fun q => kt ((zI_le (b := 0) (by omega)).mp q)) (fun q => kf (by rw [zI_0, zI_le (by omega)] at q; omega))
theorem k_gt0 (hx : p.tables.exec = Jvm.exec) (hb : c.code = cc) {a : Int} {off : Int} {tgt : Nat} (hdg : decode cc pc = .ok (.ifCond .gt off, 3)) (ht : (pc : Int) + off = (tgt : Int)) (h : -2147483648 ≤ a ∧ a ≤ 2147483647)
    (kt : 0 < a → W p l e R s m args below meth c H locs cells slots Q (F0 m tgt ls rest)) (kf : a ≤ 0 → W p l e R s m args below meth c H locs cells slots Q (F0 m (pc + 3) ls rest)) : W p l e R s m args below meth c H locs cells slots Q (F0 m pc ls (.int (zI a) :: rest)) :=
  lv_if_gt hx hb hdg ht (fun q => kt ((zI_lt (a := 0) (by omega)).mp q)) (fun q => kf (by rw [zI_0, zI_lt (by omega)] at q; omega))
theorem k_ge0 (hx : p.tables.exec = Jvm.exec) (hb : c.code = cc) {a : Int} {off : Int} {tgt : Nat} (hdg : decode cc pc = .ok (.ifCond .ge off, 3)) (ht : (pc : Int) + off = (tgt : Int)) (h : -2147483648 ≤ a ∧ a ≤ 2147483647)
    (kt : 0 ≤ a → W p l e R s m args below meth c H locs cells slots Q (F0 m tgt ls rest)) (kf : a < 0 → W p l e R s m args below meth c H locs cells slots Q (F0 m (pc + 3) ls rest)) : W p l e R s m args below meth c H locs cells slots Q (F0 m pc ls (.int (zI a) :: rest)) :=
  lv_if_ge hx hb hdg ht (fun q => kt ((zI_le (a := 0) (by omega)).mp q)) (fun q => kf (by rw [zI_0, zI_le (by omega)] at q; omega))
theorem k_eq0 (hx : p.tables.exec = Jvm.exec) (hb : c.code = cc) {a : Int} {off : Int} {tgt : Nat} (hdg : decode cc pc = .ok (.ifCond .eq off, 3)) (ht : (pc : Int) + off = (tgt : Int)) (h : -2147483648 ≤ a ∧ a ≤ 2147483647)
    (kt : a = 0 → W p l e R s m args below meth c H locs cells slots Q (F0 m tgt ls rest)) (kf : a ≠ 0 → W p l e R s m args below meth c H locs cells slots Q (F0 m (pc + 3) ls rest)) : W p l e R s m args below meth c H locs cells slots Q (F0 m pc ls (.int (zI a) :: rest)) :=
  lv_if_eq hx hb hdg ht (fun q => kt ((zI_eq (b := 0) (by omega)).mp q)) (fun q => kf (fun z => q (by rw [z]; rfl)))
theorem k_ne0 (hx : p.tables.exec = Jvm.exec) (hb : c.code = cc) {a : Int} {off : Int} {tgt : Nat} (hdg : decode cc pc = .ok (.ifCond .ne off, 3)) (ht : (pc : Int) + off = (tgt : Int)) (h : -2147483648 ≤ a ∧ a ≤ 2147483647)
    (kt : a ≠ 0 → W p l e R s m args below meth c H locs cells slots Q (F0 m tgt ls rest)) (kf : a = 0 → W p l e R s m args below meth c H locs cells slots Q (F0 m (pc + 3) ls rest)) : W p l e R s m args below meth c H locs cells slots Q (F0 m pc ls (.int (zI a) :: rest)) :=
  lv_if_ne hx hb hdg ht (fun q => kt (fun z => q (by rw [z]; rfl))) (fun q => kf ((zI_eq (b := 0) (by omega)).mp q))
/-! fields: the classes of the world are 0 Hem, 1 Stitches, 2 HemSuffixes, 3 HemSuffixesModel -/
theorem k_get (S : CallFix p m c cc nL s args Ts own) (hK : va_K E.1 vwCl (kT E) s) (hP : va_P E.1 vwCl (kW E M) H) {x : Int} (hx : 0 ≤ x ∧ x < 103) {C ref : String} {T : u_T} {N ci index : Nat} {fs : List Value} (he : kC E M x = .inr (ci, fs)) (hc : vwCl[ci]? = some (C, T, N)) (hin : ∀ w ∈ u_ws C T N, w ∈ Ts) (k : Nat) (hk : k < N)
    (hlink : (Cond.fieldLink own index ref (T k).2.1 (T k).2.2.1).before args s = true) (hsame : (T k).1 = ref) {v : Value} (hv : fs[k]? = some v) (hdg : decode cc pc = .ok (.getfield index, 3)) (kk : W p l e R s m args below meth c H locs cells slots Q (F0 m (pc + 3) ls (v :: rest))) : W p l e R s m args below meth c H locs cells slots Q (F0 m pc ls (.ref (E.2.2 x) :: rest)) :=
  va_get S.1 S.2.1 S.2.2.2.2 hin S.2.2.2.1 hK hP x.toNat (by rw [kW_get E M hx, he]) hc k hk hlink (fun y hy => by rw [← hsame]; exact hy) hv hdg kk
theorem k_kinds (S : CallFix p m c cc nL s args Ts own) (hK : va_K E.1 vwCl (kT E) s) (hP : va_P E.1 vwCl (kW E M) H) (hin : ∀ w ∈ wsX10, w ∈ Ts) {index : Nat} (hlink : (Cond.fieldLink own index "HemSuffixes$Stitches" "kinds" "[I").before args s = true) (hdg : decode cc pc = .ok (.getfield index, 3)) {x : Int} (hc : 0 ≤ x ∧ x < 3)
    (kk : W p l e R s m args below meth c H locs cells slots Q (F0 m (pc + 3) ls (.ref (E.2.2 (x + 3)) :: rest))) : W p l e R s m args below meth c H locs cells slots Q (F0 m pc ls (.ref (E.2.2 x) :: rest)) :=
  k_get (C := RX1) (T := TX1) S hK hP (by omega) (kC_S hc) rfl hin 0 (by decide) hlink rfl rfl hdg kk
theorem k_length (S : CallFix p m c cc nL s args Ts own) (hK : va_K E.1 vwCl (kT E) s) (hP : va_P E.1 vwCl (kW E M) H) (hin : ∀ w ∈ wsX10, w ∈ Ts) {index : Nat} (hlink : (Cond.fieldLink own index "HemSuffixes$Stitches" "length" "I").before args s = true) (hdg : decode cc pc = .ok (.getfield index, 3)) {x : Int} (hc : 0 ≤ x ∧ x < 3)
    (kk : W p l e R s m args below meth c H locs cells slots Q (F0 m (pc + 3) ls (.int (zI (M x 1)) :: rest))) : W p l e R s m args below meth c H locs cells slots Q (F0 m pc ls (.ref (E.2.2 x) :: rest)) :=
  k_get (C := RX1) (T := TX1) S hK hP (by omega) (kC_S hc) rfl hin 1 (by decide) hlink rfl rfl hdg kk
theorem k_stitches (S : CallFix p m c cc nL s args Ts own) (hK : va_K E.1 vwCl (kT E) s) (hP : va_P E.1 vwCl (kW E M) H) (hin : ∀ w ∈ wsX00, w ∈ Ts) {index : Nat} (hlink : (Cond.fieldLink own index "HemSuffixes$Hem" "stitches" "LHemSuffixes$Stitches;").before args s = true) (hdg : decode cc pc = .ok (.getfield index, 3)) {x : Int} (hc : 6 ≤ x ∧ x < 8) (y : Int) (hy : y = x - 6)
    (kk : W p l e R s m args below meth c H locs cells slots Q (F0 m (pc + 3) ls (.ref (E.2.2 y) :: rest))) : W p l e R s m args below meth c H locs cells slots Q (F0 m pc ls (.ref (E.2.2 x) :: rest)) := by
  subst hy
  exact k_get (C := RX0) (T := TX0) S hK hP (by omega) (kC_H hc) rfl hin 0 (by decide) hlink rfl rfl hdg kk
theorem k_order (S : CallFix p m c cc nL s args Ts own) (hK : va_K E.1 vwCl (kT E) s) (hP : va_P E.1 vwCl (kW E M) H) (hin : ∀ w ∈ wsX00, w ∈ Ts) {index : Nat} (hlink : (Cond.fieldLink own index "HemSuffixes$Hem" "placesInOrder" "[I").before args s = true) (hdg : decode cc pc = .ok (.getfield index, 3)) {x : Int} (hc : 6 ≤ x ∧ x < 8) (y : Int) (hy : y = x + 2)
    (kk : W p l e R s m args below meth c H locs cells slots Q (F0 m (pc + 3) ls (.ref (E.2.2 y) :: rest))) : W p l e R s m args below meth c H locs cells slots Q (F0 m pc ls (.ref (E.2.2 x) :: rest)) := by
  subst hy
  exact k_get (C := RX0) (T := TX0) S hK hP (by omega) (kC_H hc) rfl hin 1 (by decide) hlink rfl rfl hdg kk
/-- a reference held by the HemSuffixes object: field k leads to cell y -/
theorem k_own (S : CallFix p m c cc nL s args Ts own) (hK : va_K E.1 vwCl (kT E) s) (hP : va_P E.1 vwCl (kW E M) H) (hin : ∀ w ∈ wsX20, w ∈ Ts) (k : Nat) (hk : k < 3) {index : Nat} (hlink : (Cond.fieldLink own index "HemSuffixes" (TX2 k).2.1 (TX2 k).2.2.1).before args s = true) (hdg : decode cc pc = .ok (.getfield index, 3)) {x : Int} (hc : x = 10) (y : Int) (hy : ([.ref (E.2.2 6), .ref (E.2.2 7), .ref (E.2.2 2)] : List Value)[k]? = some (.ref (E.2.2 y))) (hs : (TX2 k).1 = "HemSuffixes")
    (kk : W p l e R s m args below meth c H locs cells slots Q (F0 m (pc + 3) ls (.ref (E.2.2 y) :: rest))) : W p l e R s m args below meth c H locs cells slots Q (F0 m pc ls (.ref (E.2.2 x) :: rest)) := by
  subst hc
  exact k_get (C := RX2) (T := TX2) S hK hP (by omega) kC_X rfl hin k hk hlink hs hy hdg kk
/-- what the model holds: field k, a reference or an int -/
theorem k_mod (S : CallFix p m c cc nL s args Ts own) (hK : va_K E.1 vwCl (kT E) s) (hP : va_P E.1 vwCl (kW E M) H) (hin : ∀ w ∈ wsX30, w ∈ Ts) (k : Nat) (hk : k < 8) {index : Nat} (hlink : (Cond.fieldLink own index "HemSuffixesModel" (TX3 k).2.1 (TX3 k).2.2.1).before args s = true) (hdg : decode cc pc = .ok (.getfield index, 3)) {x : Int} (hc : x = 11) (v : Value)
    (hy : ([.int (zI (M 11 0)), .ref (E.2.2 12), .ref (E.2.2 15), .ref (E.2.2 16), .int (zI (M 11 4)), .ref (E.2.2 17), .ref (E.2.2 59), .ref (E.2.2 60)] : List Value)[k]? = some v) (hs : (TX3 k).1 = "HemSuffixesModel")
    (kk : W p l e R s m args below meth c H locs cells slots Q (F0 m (pc + 3) ls (v :: rest))) : W p l e R s m args below meth c H locs cells slots Q (F0 m pc ls (.ref (E.2.2 x) :: rest)) := by
  subst hc
  exact k_get (C := RX3) (T := TX3) S hK hP (by omega) kC_Y rfl hin k hk hlink hs hy hdg kk
/-! stores into fields: a world's number changes -/
theorem k_putlength (S : CallFix p m c cc nL s args Ts own) (hK : va_K E.1 vwCl (kT E) s) (hE : kInj E) {sz : Nat} {H0 : Heap} (hP : va_P E.1 vwCl (kW E M) H) (hS : va_S (kA E sz) H0 H locs) (hin : ∀ w ∈ wsX10, w ∈ Ts) {index : Nat} (hlink : (Cond.fieldLink own index "HemSuffixes$Stitches" "length" "I").before args s = true) (hdg : decode cc pc = .ok (.putfield index, 3)) {x v : Int} (hc : 0 ≤ x ∧ x < 3)
    (kk : ∀ (H1 : Heap) (locs1 : List Loc), va_P E.1 vwCl (kW E (kU M x 1 v)) H1 → va_S (kA E sz) H0 H1 locs1 → W p l e R s m args below meth c H1 locs1 cells slots Q (F0 m (pc + 3) ls rest)) : W p l e R s m args below meth c H locs cells slots Q (F0 m pc ls (.int (zI v) :: .ref (E.2.2 x) :: rest)) := by
  refine va_put (ty := .int) (C := RX1) (T := TX1) (N := 2) (ci := 1) S.1 S.2.1 S.2.2.2.2 hin tyX1 tyX1_ok nmX1 S.2.2.2.1 hK hP (kW_DA hE M sz) hS x.toNat (by rw [kW_get E M (by omega), kC_S hc]) rfl 1 (by decide) hlink (fun y hy => hy) rfl rfl rfl rfl (Nat.le_of_ble_eq_true rfl) hdg (fun H1 locs1 h1 _ h3 => kk H1 locs1 ?_ h3)
  rw [kW_set (M' := kU M x 1 v) (by omega) (by rw [kC_S hc, kU_same]; rfl) (fun k hk i => kU_cell hk)] at h1
  exact h1
theorem k_putmod (S : CallFix p m c cc nL s args Ts own) (hK : va_K E.1 vwCl (kT E) s) (hE : kInj E) {sz : Nat} {H0 : Heap} (hP : va_P E.1 vwCl (kW E M) H) (hS : va_S (kA E sz) H0 H locs) (hin : ∀ w ∈ wsX30, w ∈ Ts) (k : Nat) (hk0 : k = 0 ∨ k = 4) {index : Nat} (hlink : (Cond.fieldLink own index "HemSuffixesModel" (TX3 k).2.1 (TX3 k).2.2.1).before args s = true) (hdg : decode cc pc = .ok (.putfield index, 3)) {x v : Int} (hc : x = 11)
    (kk : ∀ (H1 : Heap) (locs1 : List Loc), va_P E.1 vwCl (kW E (kU M 11 (k : Int) v)) H1 → va_S (kA E sz) H0 H1 locs1 → W p l e R s m args below meth c H1 locs1 cells slots Q (F0 m (pc + 3) ls rest)) : W p l e R s m args below meth c H locs cells slots Q (F0 m pc ls (.int (zI v) :: .ref (E.2.2 x) :: rest)) := by
  subst hc
  rcases hk0 with rfl | rfl
  · refine va_put (ty := .int) (C := RX3) (T := TX3) (N := 8) (ci := 3) S.1 S.2.1 S.2.2.2.2 hin tyX3 tyX3_ok nmX3 S.2.2.2.1 hK hP (kW_DA hE M sz) hS 11 (by rw [show (11 : Nat) = (11 : Int).toNat from rfl, kW_get E M (by omega), kC_Y]) rfl 0 (by decide) hlink (fun y hy => hy) rfl rfl rfl rfl (Nat.le_of_ble_eq_true rfl) hdg (fun H1 locs1 h1 _ h3 => kk H1 locs1 ?_ h3)
    rw [show (11 : Nat) = (11 : Int).toNat from rfl, kW_set (M' := kU M 11 0 v) (by omega) (by rw [kC_Y, kU_same, kU_place (by decide)]; rfl) (fun k hk i => kU_cell hk)] at h1
    exact h1
  · refine va_put (ty := .int) (C := RX3) (T := TX3) (N := 8) (ci := 3) S.1 S.2.1 S.2.2.2.2 hin tyX3 tyX3_ok nmX3 S.2.2.2.1 hK hP (kW_DA hE M sz) hS 11 (by rw [show (11 : Nat) = (11 : Int).toNat from rfl, kW_get E M (by omega), kC_Y]) rfl 4 (by decide) hlink (fun y hy => hy) rfl rfl rfl rfl (Nat.le_of_ble_eq_true rfl) hdg (fun H1 locs1 h1 _ h3 => kk H1 locs1 ?_ h3)
    rw [show (11 : Nat) = (11 : Int).toNat from rfl, kW_set (M' := kU M 11 4 v) (by omega) (by rw [kC_Y, kU_same, kU_place (by decide)]; rfl) (fun k hk i => kU_cell hk)] at h1
    exact h1
/-! arrays -/
theorem k_ald (S : CallFix p m c cc nL s args Ts own) (hK : va_K E.1 vwCl (kT E) s) (hP : va_P E.1 vwCl (kW E M) H) {x i : Int} (n : Nat) (hc : kArr x n) (hi : 0 ≤ i ∧ i < (n : Int)) (hdg : decode cc pc = .ok (.iaload, 1))
    (kk : W p l e R s m args below meth c H locs cells slots Q (F0 m (pc + 1) ls (.int (zI (M x i)) :: rest))) : W p l e R s m args below meth c H locs cells slots Q (F0 m pc ls (.int (zI i) :: .ref (E.2.2 x) :: rest)) := by
  have hr := kArr_rng hc
  refine va_iald S.1 S.2.1 hK hP x.toNat 0 (by rw [kW_get E M (by omega), kC_A hc]) rfl (zI_in hi (by omega)) hdg ?_
  rw [zI_nat (by omega), show ((i.toNat : Nat) : Int) = i by omega]
  exact kk
theorem k_ast (S : CallFix p m c cc nL s args Ts own) (hK : va_K E.1 vwCl (kT E) s) (hE : kInj E) {sz : Nat} {H0 : Heap} (hP : va_P E.1 vwCl (kW E M) H) (hS : va_S (kA E sz) H0 H locs) {x i v : Int} (n : Nat) (hc : kArr x n) (hi : 0 ≤ i ∧ i < (n : Int)) (hdg : decode cc pc = .ok (.iastore, 1))
    (kk : ∀ (H1 : Heap) (locs1 : List Loc), va_P E.1 vwCl (kW E (kU M x i v)) H1 → va_S (kA E sz) H0 H1 locs1 → W p l e R s m args below meth c H1 locs1 cells slots Q (F0 m (pc + 1) ls rest)) : W p l e R s m args below meth c H locs cells slots Q (F0 m pc ls (.int (zI v) :: .int (zI i) :: .ref (E.2.2 x) :: rest)) := by
  have hr := kArr_rng hc
  refine va_iast S.1 S.2.1 hK hP (kW_DA hE M sz) hS x.toNat 0 (by rw [kW_get E M (by omega), kC_A hc]) rfl (zI_in hi (by omega)) hdg (fun H1 locs1 h1 _ h3 => kk H1 locs1 ?_ h3)
  rw [kW_set (M' := kU M x i v) (by omega) ?_ (fun k hk i => kU_cell hk)] at h1
  · exact h1
  · rw [kC_A hc, zI_nat (by omega)]
    congr 4
    funext j
    unfold upd
    split
    · rename_i h
      rw [h, show ((i.toNat : Nat) : Int) = i by omega, kU_same]
    · rw [kU_place (by omega)]
theorem k_alen (S : CallFix p m c cc nL s args Ts own) (hK : va_K E.1 vwCl (kT E) s) (hP : va_P E.1 vwCl (kW E M) H) {x : Int} (n : Nat) (hc : kArr x n) (hdg : decode cc pc = .ok (.arraylength, 1))
    (kk : W p l e R s m args below meth c H locs cells slots Q (F0 m (pc + 1) ls (.int (zI (n : Int)) :: rest))) : W p l e R s m args below meth c H locs cells slots Q (F0 m pc ls (.ref (E.2.2 x) :: rest)) := by
  have hr := kArr_rng hc
  exact va_alen (v := zI (n : Int)) S.1 S.2.1 hK hP x.toNat 0 (by rw [kW_get E M (by omega), kC_A hc]) rfl (by rw [zI]; exact (Int32.ofInt_eq_ofNat).symm) hdg kk
theorem k_aald (S : CallFix p m c cc nL s args Ts own) (hK : va_K E.1 vwCl (kT E) s) (hP : va_P E.1 vwCl (kW E M) H) {x i : Int} (r : Int) (n : Nat) (hc : kRow x r i n) (hdg : decode cc pc = .ok (.aaload, 1))
    (kk : W p l e R s m args below meth c H locs cells slots Q (F0 m (pc + 1) ls (.ref (E.2.2 r) :: rest))) : W p l e R s m args below meth c H locs cells slots Q (F0 m pc ls (.int (zI i) :: .ref (E.2.2 x) :: rest)) := by
  obtain ⟨f, h1, h2⟩ := kC_G (E := E) (M := M) hc
  have hr : 0 ≤ x ∧ x < 103 ∧ 0 ≤ i ∧ i < (n : Int) ∧ n ≤ 41 := by unfold kRow at hc; omega
  have hlt : (zI i).toNatClampNeg < n := by rw [zI_nat (by omega)]; omega
  have hin : vp_in (zI i) n := zI_in (by omega) (by omega)
  have ha : (kW E M)[x.toNat]? = some (E.2.2 x, .inl (E.2.1.2.1, n, .inr (.inr (.inr (.inr f))))) := by rw [kW_get E M (by omega), h1]
  refine W.aald (v := .ref (E.2.2 r)) (ty := .array .int) S.1 S.2.1 (hP x.toNat _ ha) ((hK.2 1 (E.2.1.2.1, .array .int) rfl).1 n (fun j => va_rf (f j))) rfl (fun q => by cases q) (by show ¬ (zI i < 0 ∨ (arrV _ _ _).slots.size ≤ _); rw [arrV_size]; exact hin) ?_ rfl rfl hdg kk
  show (arrV _ _ _).slots[_]? = _
  rw [arrV_read _ _ hlt, zI_nat (by omega), h2]
  rfl
end KY
end
section
/-! contracts over the world of 103 cells: kRO reads alone (an int), kROl (a long), kRW (an int, the world changes), kRV (nothing comes back) -/
def kPre (E : kE) (M : kM) (av : List Value) : Array Value → State → Prop := va_Pc av (fun U => va_P E.1 vwCl (kW E M) U.heap ∧ va_K E.1 vwCl (kT E) U)
def kPreW (E : kE) (M : kM) (sz : Nat) (av : List Value) : Array Value → State → Prop := va_Pc av (fun U => U.heap.size = sz ∧ va_P E.1 vwCl (kW E M) U.heap ∧ va_K E.1 vwCl (kT E) U)
def kRO (l : Launch) (y : MethodName) (ws : List Cond) (rm : Room) (E : kE) (M : kM) (av : List Value) (post : Int → Prop) : Prop := Met l y ws rm (kPre E M av) (vp_Si (fun r => ∃ z : Int, r = zI z ∧ post z)) 0 0 (fun _ => False)
def kROl (l : Launch) (y : MethodName) (ws : List Cond) (rm : Room) (E : kE) (M : kM) (av : List Value) (post : Int → Prop) : Prop := Met l y ws rm (kPre E M av) (vp_Sl (fun r => ∃ z : Int, r = lI z ∧ post z)) 0 0 (fun _ => False)
def kRW (l : Launch) (y : MethodName) (ws : List Cond) (rm : Room) (E : kE) (M : kM) (av : List Value) (post : Int → kM → Prop) : Prop := ∀ sz : Nat, Met l y ws rm (kPreW E M sz av) (va_Qi (fun r (u : Int × kM) => r = zI u.1 ∧ post u.1 u.2) (fun u t => va_P E.1 vwCl (kW E u.2) t.heap) (kA E sz)) 0 0 (kA E sz)
def kRWl (l : Launch) (y : MethodName) (ws : List Cond) (rm : Room) (E : kE) (M : kM) (av : List Value) (post : Int → kM → Prop) : Prop := ∀ sz : Nat, Met l y ws rm (kPreW E M sz av) (va_Ql (fun r (u : Int × kM) => r = lI u.1 ∧ post u.1 u.2) (fun u t => va_P E.1 vwCl (kW E u.2) t.heap) (kA E sz)) 0 0 (kA E sz)
def kRV (l : Launch) (y : MethodName) (ws : List Cond) (rm : Room) (E : kE) (M : kM) (av : List Value) (post : kM → Prop) : Prop := ∀ sz : Nat, Met l y ws rm (kPreW E M sz av) (va_Qv (fun u : kM => post u) (fun u t => va_P E.1 vwCl (kW E u) t.heap) (kA E sz)) 0 0 (kA E sz)
theorem kPre_blind {E : kE} {M : kM} {av : List Value} : FrameBlind (kPre E M av) := fun a U g mk q => ⟨q.1, q.2.1, va_K.moved (u := U) (U := U.calling g mk a) (Vm.Alike.refl U.vm) q.2.2⟩
theorem kPreW_blind {E : kE} {M : kM} {sz : Nat} {av : List Value} : FrameBlind (kPreW E M sz av) := fun a U g mk q => ⟨q.1, q.2.1, q.2.2.1, va_K.moved (u := U) (U := U.calling g mk a) (Vm.Alike.refl U.vm) q.2.2.2⟩
/-! a body, from its entry: Q is whatever is owed at the end; 'ends' pays it -/
theorem kRO_of {l : Launch} {y : MethodName} {ws ws' : List Cond} {rm : Room} {E : kE} {M : kM} {av : List Value} {post : Int → Prop} {cc : ByteArray} {maxL : Nat} {rt : FieldType} (own : String) (hy : plainName y.cls = true) (hw : ws = Cond.code y cc maxL (some rt) :: ws') (ho : y.cls = own) (hlen : (lg_sl av).length ≤ maxL)
    (hrt : ∀ z : Int, post z → narrow rt (.int (zI z)) = .int (zI z))
    (body : ∀ (p : Program) (e : Env) (s : State) (m : MethodId) (args : Array Value) (below : List Frame) (meth : Method) (c : Code) (ls : Array Slot) (Q : State → Prop), CallFix p m c cc maxL s args ws own → va_P E.1 vwCl (kW E M) s.heap → va_K E.1 vwCl (kT E) s →
      (∀ (pc : Nat) (ls : Array Slot) (z : Int), decode cc pc = .ok (.ireturn, 1) → post z → W p l e rm s m args below meth c s.heap [] 0 0 Q (F0 m pc ls [.int (zI z)])) → lv_has ls maxL (lv_args 0 av) → W p l e rm s m args below meth c s.heap [] 0 0 Q (F0 m 0 ls [])) : kRO l y ws rm E M av post := by
  refine Met.ofW (cc := cc) (maxL := maxL) (ret := some rt) hy hw ?_
  intro p e s m args below meth c s₁ B hml hv
  obtain ⟨rfl, hP, hK⟩ := hv
  have hx := B.exec
  have hb := B.bytes
  have hr := B.returns
  have hlocks := B.notSynchronized
  have hl := lv_entry av (n := maxL) hlen
  rw [lg_entry_eq]
  generalize (lg_sl av ++ List.replicate (maxL - (lg_sl av).length) Slot.unset).toArray = ls at hl ⊢
  refine body p e s m _ below meth c ls _ ⟨hx, hb, hml, by rw [← ho]; exact findClass_of_methodNamed B.named, atoms_spec (ws := ws) B.pre⟩ hP hK (fun pc ls z hdg hp => ?_) hl
  exact W.zret (v := zI z) hx hb hr (hrt z hp) (fun t ht hW => ⟨zI z, rfl, ⟨z, rfl, hp⟩, ht⟩) (fun q hq => absurd hq List.not_mem_nil) hdg hlocks
theorem kROl_of {l : Launch} {y : MethodName} {ws ws' : List Cond} {rm : Room} {E : kE} {M : kM} {av : List Value} {post : Int → Prop} {cc : ByteArray} {maxL : Nat} (own : String) (hy : plainName y.cls = true) (hw : ws = Cond.code y cc maxL (some .long) :: ws') (ho : y.cls = own) (hlen : (lg_sl av).length ≤ maxL)
    (body : ∀ (p : Program) (e : Env) (s : State) (m : MethodId) (args : Array Value) (below : List Frame) (meth : Method) (c : Code) (ls : Array Slot) (Q : State → Prop), CallFix p m c cc maxL s args ws own → va_P E.1 vwCl (kW E M) s.heap → va_K E.1 vwCl (kT E) s →
      (∀ (pc : Nat) (ls : Array Slot) (z : Int), decode cc pc = .ok (.lreturn, 1) → post z → W p l e rm s m args below meth c s.heap [] 0 0 Q (F0 m pc ls [.long (lI z)])) → lv_has ls maxL (lv_args 0 av) → W p l e rm s m args below meth c s.heap [] 0 0 Q (F0 m 0 ls [])) : kROl l y ws rm E M av post := by
  refine Met.ofW (cc := cc) (maxL := maxL) (ret := some .long) hy hw ?_
  intro p e s m args below meth c s₁ B hml hv
  obtain ⟨rfl, hP, hK⟩ := hv
  have hx := B.exec
  have hb := B.bytes
  have hr := B.returns
  have hlocks := B.notSynchronized
  have hl := lv_entry av (n := maxL) hlen
  rw [lg_entry_eq]
  generalize (lg_sl av ++ List.replicate (maxL - (lg_sl av).length) Slot.unset).toArray = ls at hl ⊢
  refine body p e s m _ below meth c ls _ ⟨hx, hb, hml, by rw [← ho]; exact findClass_of_methodNamed B.named, atoms_spec (ws := ws) B.pre⟩ hP hK (fun pc ls z hdg hp => ?_) hl
  exact W.lret (v := lI z) hx hb hr (fun t ht hW => ⟨lI z, rfl, ⟨z, rfl, hp⟩, ht⟩) (fun q hq => absurd hq List.not_mem_nil) hdg hlocks
theorem kRW_of {l : Launch} {y : MethodName} {ws ws' : List Cond} {rm : Room} {E : kE} {M : kM} {av : List Value} {post : Int → kM → Prop} {cc : ByteArray} {maxL : Nat} {rt : FieldType} (own : String) (hy : plainName y.cls = true) (hw : ws = Cond.code y cc maxL (some rt) :: ws') (ho : y.cls = own) (hlen : (lg_sl av).length ≤ maxL)
    (hrt : ∀ (z : Int) (M1 : kM), post z M1 → narrow rt (.int (zI z)) = .int (zI z))
    (body : ∀ (p : Program) (e : Env) (s : State) (m : MethodId) (args : Array Value) (below : List Frame) (meth : Method) (c : Code) (ls : Array Slot) (Q : State → Prop), CallFix p m c cc maxL s args ws own → va_P E.1 vwCl (kW E M) s.heap → va_S (kA E s.heap.size) s.heap s.heap [] → va_K E.1 vwCl (kT E) s →
      (∀ (pc : Nat) (ls : Array Slot) (z : Int) (M1 : kM) (H : Heap) (locs : List Loc), decode cc pc = .ok (.ireturn, 1) → va_P E.1 vwCl (kW E M1) H → va_S (kA E s.heap.size) s.heap H locs → post z M1 → W p l e rm s m args below meth c H locs 0 0 Q (F0 m pc ls [.int (zI z)])) → lv_has ls maxL (lv_args 0 av) → W p l e rm s m args below meth c s.heap [] 0 0 Q (F0 m 0 ls [])) : kRW l y ws rm E M av post := by
  intro sz
  refine Met.ofW (cc := cc) (maxL := maxL) (ret := some rt) hy hw ?_
  intro p e s m args below meth c s₁ B hml hv
  obtain ⟨rfl, rfl, hP, hK⟩ := hv
  have hx := B.exec
  have hb := B.bytes
  have hr := B.returns
  have hlocks := B.notSynchronized
  have hl := lv_entry av (n := maxL) hlen
  rw [lg_entry_eq]
  generalize (lg_sl av ++ List.replicate (maxL - (lg_sl av).length) Slot.unset).toArray = ls at hl ⊢
  refine body p e s m _ below meth c ls _ ⟨hx, hb, hml, by rw [← ho]; exact findClass_of_methodNamed B.named, atoms_spec (ws := ws) B.pre⟩ hP va_S.rf hK (fun pc ls z M1 H locs hdg hP1 hS hp => ?_) hl
  exact W.zret (v := zI z) hx hb hr (hrt z M1 hp) (fun t ht hW => ⟨⟨zI z, (z, M1), rfl, ⟨rfl, hp⟩, by subst ht; exact hP1⟩, hS.F ht⟩) hS.2.2 hdg hlocks
theorem kRWl_of {l : Launch} {y : MethodName} {ws ws' : List Cond} {rm : Room} {E : kE} {M : kM} {av : List Value} {post : Int → kM → Prop} {cc : ByteArray} {maxL : Nat} (own : String) (hy : plainName y.cls = true) (hw : ws = Cond.code y cc maxL (some .long) :: ws') (ho : y.cls = own) (hlen : (lg_sl av).length ≤ maxL)
    (body : ∀ (p : Program) (e : Env) (s : State) (m : MethodId) (args : Array Value) (below : List Frame) (meth : Method) (c : Code) (ls : Array Slot) (Q : State → Prop), CallFix p m c cc maxL s args ws own → va_P E.1 vwCl (kW E M) s.heap → va_S (kA E s.heap.size) s.heap s.heap [] → va_K E.1 vwCl (kT E) s →
      (∀ (pc : Nat) (ls : Array Slot) (z : Int) (M1 : kM) (H : Heap) (locs : List Loc), decode cc pc = .ok (.lreturn, 1) → va_P E.1 vwCl (kW E M1) H → va_S (kA E s.heap.size) s.heap H locs → post z M1 → W p l e rm s m args below meth c H locs 0 0 Q (F0 m pc ls [.long (lI z)])) → lv_has ls maxL (lv_args 0 av) → W p l e rm s m args below meth c s.heap [] 0 0 Q (F0 m 0 ls [])) : kRWl l y ws rm E M av post := by
  intro sz
  refine Met.ofW (cc := cc) (maxL := maxL) (ret := some .long) hy hw ?_
  intro p e s m args below meth c s₁ B hml hv
  obtain ⟨rfl, rfl, hP, hK⟩ := hv
  have hx := B.exec
  have hb := B.bytes
  have hr := B.returns
  have hlocks := B.notSynchronized
  have hl := lv_entry av (n := maxL) hlen
  rw [lg_entry_eq]
  generalize (lg_sl av ++ List.replicate (maxL - (lg_sl av).length) Slot.unset).toArray = ls at hl ⊢
  refine body p e s m _ below meth c ls _ ⟨hx, hb, hml, by rw [← ho]; exact findClass_of_methodNamed B.named, atoms_spec (ws := ws) B.pre⟩ hP va_S.rf hK (fun pc ls z M1 H locs hdg hP1 hS hp => ?_) hl
  exact W.lret (v := lI z) hx hb hr (fun t ht hW => ⟨⟨lI z, (z, M1), rfl, ⟨rfl, hp⟩, by subst ht; exact hP1⟩, hS.F ht⟩) hS.2.2 hdg hlocks
theorem kRV_of {l : Launch} {y : MethodName} {ws ws' : List Cond} {rm : Room} {E : kE} {M : kM} {av : List Value} {post : kM → Prop} {cc : ByteArray} {maxL : Nat} (own : String) (hy : plainName y.cls = true) (hw : ws = Cond.code y cc maxL none :: ws') (ho : y.cls = own) (hlen : (lg_sl av).length ≤ maxL)
    (body : ∀ (p : Program) (e : Env) (s : State) (m : MethodId) (args : Array Value) (below : List Frame) (meth : Method) (c : Code) (ls : Array Slot) (Q : State → Prop), CallFix p m c cc maxL s args ws own → va_P E.1 vwCl (kW E M) s.heap → va_S (kA E s.heap.size) s.heap s.heap [] → va_K E.1 vwCl (kT E) s →
      (∀ (pc : Nat) (ls : Array Slot) (M1 : kM) (H : Heap) (locs : List Loc), decode cc pc = .ok (.return_, 1) → va_P E.1 vwCl (kW E M1) H → va_S (kA E s.heap.size) s.heap H locs → post M1 → W p l e rm s m args below meth c H locs 0 0 Q (F0 m pc ls [])) → lv_has ls maxL (lv_args 0 av) → W p l e rm s m args below meth c s.heap [] 0 0 Q (F0 m 0 ls [])) : kRV l y ws rm E M av post := by
  intro sz
  refine Met.ofW (cc := cc) (maxL := maxL) (ret := none) hy hw ?_
  intro p e s m args below meth c s₁ B hml hv
  obtain ⟨rfl, rfl, hP, hK⟩ := hv
  have hx := B.exec
  have hb := B.bytes
  have hr := B.returns
  have hlocks := B.notSynchronized
  have hl := lv_entry av (n := maxL) hlen
  rw [lg_entry_eq]
  generalize (lg_sl av ++ List.replicate (maxL - (lg_sl av).length) Slot.unset).toArray = ls at hl ⊢
  refine body p e s m _ below meth c ls _ ⟨hx, hb, hml, by rw [← ho]; exact findClass_of_methodNamed B.named, atoms_spec (ws := ws) B.pre⟩ hP va_S.rf hK (fun pc ls M1 H locs hdg hP1 hS hp => ?_) hl
  exact W.vret hx hb hr (fun t ht hW => ⟨⟨M1, rfl, hp, by subst ht; exact hP1⟩, hS.F ht⟩) hS.2.2 hdg hlocks
/-- an int that is a truth value, or any int -/
theorem k_nari {post : Int → Prop} : ∀ z : Int, post z → narrow .int (.int (zI z)) = .int (zI z) := fun _ _ => rfl
theorem k_nariW {post : Int → kM → Prop} : ∀ (z : Int) (M1 : kM), post z M1 → narrow .int (.int (zI z)) = .int (zI z) := fun _ _ _ => rfl
theorem k_narb {z : Int} (h : z = 0 ∨ z = 1) : narrow .boolean (.int (zI z)) = .int (zI z) := by
  rcases h with rfl | rfl <;> decide
section KC
variable {p : Program} {l : Launch} {e : Env} {R : Room} {s : State} {m : MethodId} {args : Array Value} {below : List Frame} {meth : Method} {c : Code} {H H0 : Heap} {locs : List Loc} {cells slots : Nat} {Q : State → Prop}
variable {cc bytes : ByteArray} {pc : Nat} {ls : Array Slot} {rest st : List Value} {E : kE} {M : kM} {nL maxL index n : Nat} {Ts ws : List Cond} {own C : String} {y : MethodName} {ret : Option FieldType} {rm : Room} {As : List Value} {b : Nat}
theorem k_rS (hK : va_K E.1 vwCl (kT E) s) (hP : va_P E.1 vwCl (kW E M) H) {x : Int} (h : 0 ≤ x ∧ x < 3) : ∃ cell : Cell, H[E.2.2 x]? = some cell ∧ cell.vm.isStatics = false ∧ s.vm.findClass RX1 = some cell.cls :=
  va_recv (q := (RX1, TX1, 2)) hK hP (ci := 1) (q0 := x.toNat) rfl (by rw [kW_get E M (by omega), kC_S h])
theorem k_rH (hK : va_K E.1 vwCl (kT E) s) (hP : va_P E.1 vwCl (kW E M) H) {x : Int} (h : 6 ≤ x ∧ x < 8) : ∃ cell : Cell, H[E.2.2 x]? = some cell ∧ cell.vm.isStatics = false ∧ s.vm.findClass RX0 = some cell.cls :=
  va_recv (q := (RX0, TX0, 2)) hK hP (ci := 0) (q0 := x.toNat) rfl (by rw [kW_get E M (by omega), kC_H h])
theorem k_rX (hK : va_K E.1 vwCl (kT E) s) (hP : va_P E.1 vwCl (kW E M) H) {x : Int} (h : x = 10) : ∃ cell : Cell, H[E.2.2 x]? = some cell ∧ cell.vm.isStatics = false ∧ s.vm.findClass RX2 = some cell.cls := by
  subst h
  exact va_recv (q := (RX2, TX2, 3)) hK hP (ci := 2) (q0 := (10 : Int).toNat) rfl (by rw [kW_get E M (by omega), kC_X])
theorem k_rY (hK : va_K E.1 vwCl (kT E) s) (hP : va_P E.1 vwCl (kW E M) H) {x : Int} (h : x = 11) : ∃ cell : Cell, H[E.2.2 x]? = some cell ∧ cell.vm.isStatics = false ∧ s.vm.findClass RX3 = some cell.cls := by
  subst h
  exact va_recv (q := (RX3, TX3, 8)) hK hP (ci := 3) (q0 := (11 : Int).toNat) rfl (by rw [kW_get E M (by omega), kC_Y])
theorem k_max (S : CallFix p m c cc nL s args Ts own) (hsz : ls.size = nL) (hlink : (Cond.methodLink own index Lib.Math.max.name).before args s = true) (hstat : (Cond.static Lib.Math.max.name).before args s = true) (hini : (Cond.initialized "java/lang/Math").before args s = true) (hcode : (Cond.code Lib.Math.max.name Lib.Math.max.code 2 (some .int)).before args s = true)
    (hR : 1 ≤ R.frames ∧ (rest.map fun v => v.category).sum + 13 ≤ R.locals) (hf : cells ≤ R.cells ∧ slots ≤ R.slots) {a b : Int} (h : -2147483648 ≤ a ∧ a ≤ 2147483647 ∧ -2147483648 ≤ b ∧ b ≤ 2147483647) (hdg : decode cc pc = .ok (.invokestatic index, 3))
    (kk : ∀ z : Int, (a < b ∧ z = b) ∨ (b ≤ a ∧ z = a) → W p l e R s m args below meth c H locs cells slots Q (F0 m (pc + 3) ls (.int (zI z) :: rest))) : W p l e R s m args below meth c H locs cells slots Q (F0 m pc ls (.int (zI b) :: .int (zI a) :: rest)) := by
  refine va_mmax S.1 S.2.1 (S.2.2.1.trans hsz.symm) S.2.2.2.1 hlink hstat hini hcode hR.1 hR.2 hf.1 hf.2 hdg ?_
  split
  · rename_i q
    exact kk b (Or.inl ⟨(zI_lt h).mp q, rfl⟩)
  · rename_i q
    exact kk a (Or.inr ⟨by rw [zI_lt h] at q; omega, rfl⟩)
theorem k_min (S : CallFix p m c cc nL s args Ts own) (hsz : ls.size = nL) (hlink : (Cond.methodLink own index Lib.Math.min.name).before args s = true) (hstat : (Cond.static Lib.Math.min.name).before args s = true) (hini : (Cond.initialized "java/lang/Math").before args s = true) (hcode : (Cond.code Lib.Math.min.name Lib.Math.min.code 2 (some .int)).before args s = true)
    (hR : 1 ≤ R.frames ∧ (rest.map fun v => v.category).sum + 13 ≤ R.locals) (hf : cells ≤ R.cells ∧ slots ≤ R.slots) {a b : Int} (h : -2147483648 ≤ a ∧ a ≤ 2147483647 ∧ -2147483648 ≤ b ∧ b ≤ 2147483647) (hdg : decode cc pc = .ok (.invokestatic index, 3))
    (kk : ∀ z : Int, (b < a ∧ z = b) ∨ (a ≤ b ∧ z = a) → W p l e R s m args below meth c H locs cells slots Q (F0 m (pc + 3) ls (.int (zI z) :: rest))) : W p l e R s m args below meth c H locs cells slots Q (F0 m pc ls (.int (zI b) :: .int (zI a) :: rest)) := by
  refine va_mmin S.1 S.2.1 (S.2.2.1.trans hsz.symm) S.2.2.2.1 hlink hstat hini hcode hR.1 hR.2 hf.1 hf.2 hdg ?_
  split
  · rename_i q
    exact kk b (Or.inl ⟨(zI_lt (by omega)).mp q, rfl⟩)
  · rename_i q
    exact kk a (Or.inr ⟨by rw [zI_lt (by omega)] at q; omega, rfl⟩)
/-! calls -/
theorem k_callV {post : Int → Prop} (S : CallFix p m c cc nL s args Ts own) (hK : va_K E.1 vwCl (kT E) s) (hP : va_P E.1 vwCl (kW E M) H) (hM : kRO l y ws rm E M (.ref b :: As) post) (cw : CallW R s args own C index y bytes maxL ret ws rm 0 0 n)
    (hrecv : ∃ cellB : Cell, H[b]? = some cellB ∧ cellB.vm.isStatics = false ∧ s.vm.findClass C = some cellB.cls) (hn : As.length = n) (hsz : ls.size = nL) (hst : st = As.reverse ++ .ref b :: rest) (hw : (rest.map fun v => v.category).sum ≤ 8) (hdg : decode cc pc = .ok (.invokevirtual index, 3)) (hf : cells + 0 ≤ R.cells ∧ slots + 0 ≤ R.slots)
    (kk : ∀ z : Int, post z → W p l e R s m args below meth c H locs cells slots Q (F0 m (pc + 3) ls (.int (zI z) :: rest))) : W p l e R s m args below meth c H locs cells slots Q (F0 m pc ls st) := by
  refine vp_callSi (W.runV S hM cw ⟨kPre_blind, hrecv, fun U hU hW => ⟨rfl, by rw [hU]; exact hP, va_K.moved hW.alike hK⟩⟩ rfl hn hsz hst (lv_room hw) hdg hf) (fun r hr => ?_)
  obtain ⟨z, rfl, hz⟩ := hr
  exact kk z hz
theorem k_callS {post : Int → Prop} (S : CallFix p m c cc nL s args Ts own) (hK : va_K E.1 vwCl (kT E) s) (hP : va_P E.1 vwCl (kW E M) H) (hM : kRO l y ws rm E M As post) (cw : CallB R s args own index y bytes maxL ret ws rm 0 0 n ∧ (Cond.static y).before args s = true)
    (hn : As.length = n) (hsz : ls.size = nL) (hst : st = As.reverse ++ rest) (hw : (rest.map fun v => v.category).sum ≤ 8) (hdg : decode cc pc = .ok (.invokestatic index, 3)) (hf : cells + 0 ≤ R.cells ∧ slots + 0 ≤ R.slots)
    (kk : ∀ z : Int, post z → W p l e R s m args below meth c H locs cells slots Q (F0 m (pc + 3) ls (.int (zI z) :: rest))) : W p l e R s m args below meth c H locs cells slots Q (F0 m pc ls st) := by
  refine vp_callSi (W.runS S hM cw ⟨kPre_blind, fun U hU hW => ⟨rfl, by rw [hU]; exact hP, va_K.moved hW.alike hK⟩⟩ rfl hn hsz hst (lv_room hw) hdg hf) (fun r hr => ?_)
  obtain ⟨z, rfl, hz⟩ := hr
  exact kk z hz
theorem k_callVl {post : Int → Prop} (S : CallFix p m c cc nL s args Ts own) (hK : va_K E.1 vwCl (kT E) s) (hP : va_P E.1 vwCl (kW E M) H) (hM : kROl l y ws rm E M (.ref b :: As) post) (cw : CallW R s args own C index y bytes maxL ret ws rm 0 0 n)
    (hrecv : ∃ cellB : Cell, H[b]? = some cellB ∧ cellB.vm.isStatics = false ∧ s.vm.findClass C = some cellB.cls) (hn : As.length = n) (hsz : ls.size = nL) (hst : st = As.reverse ++ .ref b :: rest) (hw : (rest.map fun v => v.category).sum ≤ 8) (hdg : decode cc pc = .ok (.invokevirtual index, 3)) (hf : cells + 0 ≤ R.cells ∧ slots + 0 ≤ R.slots)
    (kk : ∀ z : Int, post z → W p l e R s m args below meth c H locs cells slots Q (F0 m (pc + 3) ls (.long (lI z) :: rest))) : W p l e R s m args below meth c H locs cells slots Q (F0 m pc ls st) := by
  refine vp_callSl (W.runV S hM cw ⟨kPre_blind, hrecv, fun U hU hW => ⟨rfl, by rw [hU]; exact hP, va_K.moved hW.alike hK⟩⟩ rfl hn hsz hst (lv_room hw) hdg hf) (fun r hr => ?_)
  obtain ⟨z, rfl, hz⟩ := hr
  exact kk z hz
theorem k_callSl {post : Int → Prop} (S : CallFix p m c cc nL s args Ts own) (hK : va_K E.1 vwCl (kT E) s) (hP : va_P E.1 vwCl (kW E M) H) (hM : kROl l y ws rm E M As post) (cw : CallB R s args own index y bytes maxL ret ws rm 0 0 n ∧ (Cond.static y).before args s = true)
    (hn : As.length = n) (hsz : ls.size = nL) (hst : st = As.reverse ++ rest) (hw : (rest.map fun v => v.category).sum ≤ 8) (hdg : decode cc pc = .ok (.invokestatic index, 3)) (hf : cells + 0 ≤ R.cells ∧ slots + 0 ≤ R.slots)
    (kk : ∀ z : Int, post z → W p l e R s m args below meth c H locs cells slots Q (F0 m (pc + 3) ls (.long (lI z) :: rest))) : W p l e R s m args below meth c H locs cells slots Q (F0 m pc ls st) := by
  refine vp_callSl (W.runS S hM cw ⟨kPre_blind, fun U hU hW => ⟨rfl, by rw [hU]; exact hP, va_K.moved hW.alike hK⟩⟩ rfl hn hsz hst (lv_room hw) hdg hf) (fun r hr => ?_)
  obtain ⟨z, rfl, hz⟩ := hr
  exact kk z hz
theorem kA_le {sz sz0 : Nat} (h : sz0 ≤ sz) : ∀ q, kA E sz q → kA E sz0 q := fun q hq => hq.elim Or.inl (fun h2 => Or.inr (Nat.le_trans h h2))
theorem k_callVW {post : Int → kM → Prop} (S : CallFix p m c cc nL s args Ts own) (hK : va_K E.1 vwCl (kT E) s) (hP : va_P E.1 vwCl (kW E M) H) (hS : va_S (kA E H0.size) H0 H locs) (hM : kRW l y ws rm E M (.ref b :: As) post) (cw : CallW R s args own C index y bytes maxL ret ws rm 0 0 n)
    (hrecv : ∃ cellB : Cell, H[b]? = some cellB ∧ cellB.vm.isStatics = false ∧ s.vm.findClass C = some cellB.cls) (hn : As.length = n) (hsz : ls.size = nL) (hst : st = As.reverse ++ .ref b :: rest) (hw : (rest.map fun v => v.category).sum ≤ 8) (hdg : decode cc pc = .ok (.invokevirtual index, 3)) (hf : cells + 0 ≤ R.cells ∧ slots + 0 ≤ R.slots)
    (kk : ∀ (z : Int) (M1 : kM) (H1 : Heap) (locs1 : List Loc), post z M1 → va_P E.1 vwCl (kW E M1) H1 → va_S (kA E H0.size) H0 H1 locs1 → W p l e R s m args below meth c H1 locs1 cells slots Q (F0 m (pc + 3) ls (.int (zI z) :: rest))) : W p l e R s m args below meth c H locs cells slots Q (F0 m pc ls st) := by
  refine va_calli (va_runV S (hM H.size) cw ⟨kPreW_blind, hrecv, fun U hU hW => ⟨rfl, by rw [hU], by rw [hU]; exact hP, va_K.moved hW.alike hK⟩⟩ rfl hn hsz hst (lv_room hw) hdg hf) hS (fun q _ h => kA_le hS.1 q h) (kA_le hS.1) (fun r u t H1 locs1 ht hvm hw hB hz hk hS1 => ?_)
  obtain ⟨rfl, hz⟩ := hw
  rw [ht] at hB
  exact kk u.1 u.2 H1 locs1 hz hB hS1
theorem k_callSW {post : Int → kM → Prop} (S : CallFix p m c cc nL s args Ts own) (hK : va_K E.1 vwCl (kT E) s) (hP : va_P E.1 vwCl (kW E M) H) (hS : va_S (kA E H0.size) H0 H locs) (hM : kRW l y ws rm E M As post) (cw : CallB R s args own index y bytes maxL ret ws rm 0 0 n ∧ (Cond.static y).before args s = true)
    (hn : As.length = n) (hsz : ls.size = nL) (hst : st = As.reverse ++ rest) (hw : (rest.map fun v => v.category).sum ≤ 8) (hdg : decode cc pc = .ok (.invokestatic index, 3)) (hf : cells + 0 ≤ R.cells ∧ slots + 0 ≤ R.slots)
    (kk : ∀ (z : Int) (M1 : kM) (H1 : Heap) (locs1 : List Loc), post z M1 → va_P E.1 vwCl (kW E M1) H1 → va_S (kA E H0.size) H0 H1 locs1 → W p l e R s m args below meth c H1 locs1 cells slots Q (F0 m (pc + 3) ls (.int (zI z) :: rest))) : W p l e R s m args below meth c H locs cells slots Q (F0 m pc ls st) := by
  refine va_calli (va_runS S (hM H.size) cw ⟨kPreW_blind, fun U hU hW => ⟨rfl, by rw [hU], by rw [hU]; exact hP, va_K.moved hW.alike hK⟩⟩ rfl hn hsz hst (lv_room hw) hdg hf) hS (fun q _ h => kA_le hS.1 q h) (kA_le hS.1) (fun r u t H1 locs1 ht hvm hw hB hz hk hS1 => ?_)
  obtain ⟨rfl, hz⟩ := hw
  rw [ht] at hB
  exact kk u.1 u.2 H1 locs1 hz hB hS1
theorem k_callVWl {post : Int → kM → Prop} (S : CallFix p m c cc nL s args Ts own) (hK : va_K E.1 vwCl (kT E) s) (hP : va_P E.1 vwCl (kW E M) H) (hS : va_S (kA E H0.size) H0 H locs) (hM : kRWl l y ws rm E M (.ref b :: As) post) (cw : CallW R s args own C index y bytes maxL ret ws rm 0 0 n)
    (hrecv : ∃ cellB : Cell, H[b]? = some cellB ∧ cellB.vm.isStatics = false ∧ s.vm.findClass C = some cellB.cls) (hn : As.length = n) (hsz : ls.size = nL) (hst : st = As.reverse ++ .ref b :: rest) (hw : (rest.map fun v => v.category).sum ≤ 8) (hdg : decode cc pc = .ok (.invokevirtual index, 3)) (hf : cells + 0 ≤ R.cells ∧ slots + 0 ≤ R.slots)
    (kk : ∀ (z : Int) (M1 : kM) (H1 : Heap) (locs1 : List Loc), post z M1 → va_P E.1 vwCl (kW E M1) H1 → va_S (kA E H0.size) H0 H1 locs1 → W p l e R s m args below meth c H1 locs1 cells slots Q (F0 m (pc + 3) ls (.long (lI z) :: rest))) : W p l e R s m args below meth c H locs cells slots Q (F0 m pc ls st) := by
  refine va_calll (va_runV S (hM H.size) cw ⟨kPreW_blind, hrecv, fun U hU hW => ⟨rfl, by rw [hU], by rw [hU]; exact hP, va_K.moved hW.alike hK⟩⟩ rfl hn hsz hst (lv_room hw) hdg hf) hS (fun q _ h => kA_le hS.1 q h) (kA_le hS.1) (fun r u t H1 locs1 ht hvm hw hB hz hk hS1 => ?_)
  obtain ⟨rfl, hz⟩ := hw
  rw [ht] at hB
  exact kk u.1 u.2 H1 locs1 hz hB hS1
theorem k_callVV {post : kM → Prop} (S : CallFix p m c cc nL s args Ts own) (hK : va_K E.1 vwCl (kT E) s) (hP : va_P E.1 vwCl (kW E M) H) (hS : va_S (kA E H0.size) H0 H locs) (hM : kRV l y ws rm E M (.ref b :: As) post) (cw : CallW R s args own C index y bytes maxL ret ws rm 0 0 n)
    (hrecv : ∃ cellB : Cell, H[b]? = some cellB ∧ cellB.vm.isStatics = false ∧ s.vm.findClass C = some cellB.cls) (hn : As.length = n) (hsz : ls.size = nL) (hst : st = As.reverse ++ .ref b :: rest) (hw : (rest.map fun v => v.category).sum ≤ 8) (hdg : decode cc pc = .ok (.invokevirtual index, 3)) (hf : cells + 0 ≤ R.cells ∧ slots + 0 ≤ R.slots)
    (kk : ∀ (M1 : kM) (H1 : Heap) (locs1 : List Loc), post M1 → va_P E.1 vwCl (kW E M1) H1 → va_S (kA E H0.size) H0 H1 locs1 → W p l e R s m args below meth c H1 locs1 cells slots Q (F0 m (pc + 3) ls rest)) : W p l e R s m args below meth c H locs cells slots Q (F0 m pc ls st) := by
  refine va_callv (va_runV S (hM H.size) cw ⟨kPreW_blind, hrecv, fun U hU hW => ⟨rfl, by rw [hU], by rw [hU]; exact hP, va_K.moved hW.alike hK⟩⟩ rfl hn hsz hst (lv_room hw) hdg hf) hS (fun q _ h => kA_le hS.1 q h) (kA_le hS.1) (fun u t H1 locs1 ht hvm hw hB hz hk hS1 => ?_)
  rw [ht] at hB
  exact kk u H1 locs1 hw hB hS1
theorem k_callSV {post : kM → Prop} (S : CallFix p m c cc nL s args Ts own) (hK : va_K E.1 vwCl (kT E) s) (hP : va_P E.1 vwCl (kW E M) H) (hS : va_S (kA E H0.size) H0 H locs) (hM : kRV l y ws rm E M As post) (cw : CallB R s args own index y bytes maxL ret ws rm 0 0 n ∧ (Cond.static y).before args s = true)
    (hn : As.length = n) (hsz : ls.size = nL) (hst : st = As.reverse ++ rest) (hw : (rest.map fun v => v.category).sum ≤ 8) (hdg : decode cc pc = .ok (.invokestatic index, 3)) (hf : cells + 0 ≤ R.cells ∧ slots + 0 ≤ R.slots)
    (kk : ∀ (M1 : kM) (H1 : Heap) (locs1 : List Loc), post M1 → va_P E.1 vwCl (kW E M1) H1 → va_S (kA E H0.size) H0 H1 locs1 → W p l e R s m args below meth c H1 locs1 cells slots Q (F0 m (pc + 3) ls rest)) : W p l e R s m args below meth c H locs cells slots Q (F0 m pc ls st) := by
  refine va_callv (va_runS S (hM H.size) cw ⟨kPreW_blind, fun U hU hW => ⟨rfl, by rw [hU], by rw [hU]; exact hP, va_K.moved hW.alike hK⟩⟩ rfl hn hsz hst (lv_room hw) hdg hf) hS (fun q _ h => kA_le hS.1 q h) (kA_le hS.1) (fun u t H1 locs1 ht hvm hw hB hz hk hS1 => ?_)
  rw [ht] at hB
  exact kk u H1 locs1 hw hB hS1
end KC
end
