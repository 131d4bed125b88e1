section
-- ===== PART A: goes FIRST, ahead of the names: the tables' words, and 'selects' of the private methods out of them =====
/-- a private method of a class that the tables say can be made, by its rows of tables_1 -/
def lw_okq (q : MethodName × Nat) : Prop := (q.1.cls ≠ "java/lang/invoke/MethodHandle" ∧ q.1.cls ≠ "java/lang/invoke/VarHandle") ∧ Cond.instantiable q.1.cls q.2 ∈ tables_1 ∧ Cond.privateMethod q.1 ∈ tables_1 ∧ Cond.instanceMethod q.1 ∈ tables_1
theorem lw_p0 : lw_okq (⟨"HemSuffixes$Hem", "rowsFirstAt", "(I)I"⟩, 2) := ⟨⟨by decide +kernel, by decide +kernel⟩, List.mem_of_getElem? (i := 21) (by decide +kernel), List.mem_of_getElem? (i := 115) (by decide +kernel), List.mem_of_getElem? (i := 116) (by decide +kernel)⟩
theorem lw_p1 : lw_okq (⟨"HemSuffixes", "seamPlace", "()I"⟩, 3) := ⟨⟨by decide +kernel, by decide +kernel⟩, List.mem_of_getElem? (i := 13) (by decide +kernel), List.mem_of_getElem? (i := 119) (by decide +kernel), List.mem_of_getElem? (i := 120) (by decide +kernel)⟩
theorem lw_p2 : lw_okq (⟨"HemSuffixes", "seamLengthFrom", "(I)I"⟩, 3) := ⟨⟨by decide +kernel, by decide +kernel⟩, List.mem_of_getElem? (i := 13) (by decide +kernel), List.mem_of_getElem? (i := 124) (by decide +kernel), List.mem_of_getElem? (i := 125) (by decide +kernel)⟩
theorem lw_p3 : lw_okq (⟨"java/lang/Throwable", "fillInStackTrace", "(I)Ljava/lang/Throwable;"⟩, 6) := ⟨⟨by decide +kernel, by decide +kernel⟩, List.mem_of_getElem? (i := 174) (by decide +kernel), List.mem_of_getElem? (i := 172) (by decide +kernel), List.mem_of_getElem? (i := 173) (by decide +kernel)⟩
theorem lw_p4 : lw_okq (⟨"HemSuffixes", "hemMixed", "(JI)J"⟩, 3) := ⟨⟨by decide +kernel, by decide +kernel⟩, List.mem_of_getElem? (i := 13) (by decide +kernel), List.mem_of_getElem? (i := 208) (by decide +kernel), List.mem_of_getElem? (i := 209) (by decide +kernel)⟩
theorem lw_p5 : lw_okq (⟨"HemSuffixes", "hemOf", "(I)LHemSuffixes$Hem;"⟩, 3) := ⟨⟨by decide +kernel, by decide +kernel⟩, List.mem_of_getElem? (i := 13) (by decide +kernel), List.mem_of_getElem? (i := 212) (by decide +kernel), List.mem_of_getElem? (i := 213) (by decide +kernel)⟩
theorem lw_p6 : lw_okq (⟨"HemSuffixes$Stitches", "standsAt", "(ILHemSuffixes$Stitches;II)Z"⟩, 2) := ⟨⟨by decide +kernel, by decide +kernel⟩, List.mem_of_getElem? (i := 27) (by decide +kernel), List.mem_of_getElem? (i := 235) (by decide +kernel), List.mem_of_getElem? (i := 236) (by decide +kernel)⟩
theorem lw_p7 : lw_okq (⟨"HemSuffixes$Stitches", "turnsToLess", "(II)Z"⟩, 2) := ⟨⟨by decide +kernel, by decide +kernel⟩, List.mem_of_getElem? (i := 27) (by decide +kernel), List.mem_of_getElem? (i := 259) (by decide +kernel), List.mem_of_getElem? (i := 260) (by decide +kernel)⟩
theorem lw_p8 : lw_okq (⟨"HemSuffixes$Stitches", "allAround", "(I)I"⟩, 2) := ⟨⟨by decide +kernel, by decide +kernel⟩, List.mem_of_getElem? (i := 27) (by decide +kernel), List.mem_of_getElem? (i := 263) (by decide +kernel), List.mem_of_getElem? (i := 264) (by decide +kernel)⟩
theorem lw_p9 : lw_okq (⟨"HemSuffixes$Hem", "orderEnds", "()V"⟩, 2) := ⟨⟨by decide +kernel, by decide +kernel⟩, List.mem_of_getElem? (i := 21) (by decide +kernel), List.mem_of_getElem? (i := 328) (by decide +kernel), List.mem_of_getElem? (i := 329) (by decide +kernel)⟩
theorem lw_p10 : lw_okq (⟨"HemSuffixes$Hem", "putInOrder", "(II)V"⟩, 2) := ⟨⟨by decide +kernel, by decide +kernel⟩, List.mem_of_getElem? (i := 21) (by decide +kernel), List.mem_of_getElem? (i := 332) (by decide +kernel), List.mem_of_getElem? (i := 333) (by decide +kernel)⟩
theorem lw_p11 : lw_okq (⟨"HemSuffixes$Stitches", "sharedBackwardsFrom", "(I)I"⟩, 2) := ⟨⟨by decide +kernel, by decide +kernel⟩, List.mem_of_getElem? (i := 27) (by decide +kernel), List.mem_of_getElem? (i := 476) (by decide +kernel), List.mem_of_getElem? (i := 477) (by decide +kernel)⟩
theorem lw_p12 : lw_okq (⟨"HemSuffixesModel", "no", "(I)I"⟩, 8) := ⟨⟨by decide +kernel, by decide +kernel⟩, List.mem_of_getElem? (i := 487) (by decide +kernel), List.mem_of_getElem? (i := 534) (by decide +kernel), List.mem_of_getElem? (i := 535) (by decide +kernel)⟩
theorem lw_p13 : lw_okq (⟨"HemSuffixesModel", "isPlace", "(II)Z"⟩, 8) := ⟨⟨by decide +kernel, by decide +kernel⟩, List.mem_of_getElem? (i := 487) (by decide +kernel), List.mem_of_getElem? (i := 561) (by decide +kernel), List.mem_of_getElem? (i := 562) (by decide +kernel)⟩
theorem lw_p14 : lw_okq (⟨"HemSuffixesModel", "counted", "(I)I"⟩, 8) := ⟨⟨by decide +kernel, by decide +kernel⟩, List.mem_of_getElem? (i := 487) (by decide +kernel), List.mem_of_getElem? (i := 569) (by decide +kernel), List.mem_of_getElem? (i := 570) (by decide +kernel)⟩
theorem lw_p15 : lw_okq (⟨"HemSuffixesModel", "differentRows", "(I)I"⟩, 8) := ⟨⟨by decide +kernel, by decide +kernel⟩, List.mem_of_getElem? (i := 487) (by decide +kernel), List.mem_of_getElem? (i := 573) (by decide +kernel), List.mem_of_getElem? (i := 574) (by decide +kernel)⟩
def lw_privs_1 : List (MethodName × Nat) := [(⟨"HemSuffixes$Hem", "rowsFirstAt", "(I)I"⟩, 2), (⟨"HemSuffixes", "seamPlace", "()I"⟩, 3), (⟨"HemSuffixes", "seamLengthFrom", "(I)I"⟩, 3), (⟨"java/lang/Throwable", "fillInStackTrace", "(I)Ljava/lang/Throwable;"⟩, 6), (⟨"HemSuffixes", "hemMixed", "(JI)J"⟩, 3), (⟨"HemSuffixes", "hemOf", "(I)LHemSuffixes$Hem;"⟩, 3), (⟨"HemSuffixes$Stitches", "standsAt", "(ILHemSuffixes$Stitches;II)Z"⟩, 2), (⟨"HemSuffixes$Stitches", "turnsToLess", "(II)Z"⟩, 2), (⟨"HemSuffixes$Stitches", "allAround", "(I)I"⟩, 2), (⟨"HemSuffixes$Hem", "orderEnds", "()V"⟩, 2), (⟨"HemSuffixes$Hem", "putInOrder", "(II)V"⟩, 2), (⟨"HemSuffixes$Stitches", "sharedBackwardsFrom", "(I)I"⟩, 2), (⟨"HemSuffixesModel", "no", "(I)I"⟩, 8), (⟨"HemSuffixesModel", "isPlace", "(II)Z"⟩, 8), (⟨"HemSuffixesModel", "counted", "(I)I"⟩, 8), (⟨"HemSuffixesModel", "differentRows", "(I)I"⟩, 8)]
theorem lw_r1 : ∀ q ∈ lw_privs_1, lw_okq q := List.forall_mem_cons.mpr ⟨lw_p0, List.forall_mem_cons.mpr ⟨lw_p1, List.forall_mem_cons.mpr ⟨lw_p2, List.forall_mem_cons.mpr ⟨lw_p3, List.forall_mem_cons.mpr ⟨lw_p4, List.forall_mem_cons.mpr ⟨lw_p5, List.forall_mem_cons.mpr ⟨lw_p6, List.forall_mem_cons.mpr ⟨lw_p7, List.forall_mem_cons.mpr ⟨lw_p8, List.forall_mem_cons.mpr ⟨lw_p9, List.forall_mem_cons.mpr ⟨lw_p10, List.forall_mem_cons.mpr ⟨lw_p11, List.forall_mem_cons.mpr ⟨lw_p12, List.forall_mem_cons.mpr ⟨lw_p13, List.forall_mem_cons.mpr ⟨lw_p14, List.forall_mem_cons.mpr ⟨lw_p15, fun _ h => absurd h List.not_mem_nil⟩⟩⟩⟩⟩⟩⟩⟩⟩⟩⟩⟩⟩⟩⟩⟩
theorem lw_p16 : lw_okq (⟨"HemSuffixesModel", "look", "(I)V"⟩, 8) := ⟨⟨by decide +kernel, by decide +kernel⟩, List.mem_of_getElem? (i := 487) (by decide +kernel), List.mem_of_getElem? (i := 577) (by decide +kernel), List.mem_of_getElem? (i := 578) (by decide +kernel)⟩
theorem lw_p17 : lw_okq (⟨"HemSuffixesModel", "mostBefore", "(I)I"⟩, 8) := ⟨⟨by decide +kernel, by decide +kernel⟩, List.mem_of_getElem? (i := 487) (by decide +kernel), List.mem_of_getElem? (i := 584) (by decide +kernel), List.mem_of_getElem? (i := 585) (by decide +kernel)⟩
theorem lw_p18 : lw_okq (⟨"HemSuffixesModel", "seamTold", "(I)I"⟩, 8) := ⟨⟨by decide +kernel, by decide +kernel⟩, List.mem_of_getElem? (i := 487) (by decide +kernel), List.mem_of_getElem? (i := 589) (by decide +kernel), List.mem_of_getElem? (i := 590) (by decide +kernel)⟩
theorem lw_p19 : lw_okq (⟨"HemSuffixesModel", "lookAtBoth", "()V"⟩, 8) := ⟨⟨by decide +kernel, by decide +kernel⟩, List.mem_of_getElem? (i := 487) (by decide +kernel), List.mem_of_getElem? (i := 593) (by decide +kernel), List.mem_of_getElem? (i := 594) (by decide +kernel)⟩
theorem lw_p20 : lw_okq (⟨"HemSuffixesModel", "mostAcross", "(I)I"⟩, 8) := ⟨⟨by decide +kernel, by decide +kernel⟩, List.mem_of_getElem? (i := 487) (by decide +kernel), List.mem_of_getElem? (i := 597) (by decide +kernel), List.mem_of_getElem? (i := 598) (by decide +kernel)⟩
theorem lw_p21 : lw_okq (⟨"HemSuffixesModel", "isLess", "(III)Z"⟩, 8) := ⟨⟨by decide +kernel, by decide +kernel⟩, List.mem_of_getElem? (i := 487) (by decide +kernel), List.mem_of_getElem? (i := 601) (by decide +kernel), List.mem_of_getElem? (i := 602) (by decide +kernel)⟩
theorem lw_p22 : lw_okq (⟨"HemSuffixesModel", "order", "(I)V"⟩, 8) := ⟨⟨by decide +kernel, by decide +kernel⟩, List.mem_of_getElem? (i := 487) (by decide +kernel), List.mem_of_getElem? (i := 612) (by decide +kernel), List.mem_of_getElem? (i := 613) (by decide +kernel)⟩
theorem lw_p23 : lw_okq (⟨"HemSuffixesModel", "rankOf", "(II)I"⟩, 8) := ⟨⟨by decide +kernel, by decide +kernel⟩, List.mem_of_getElem? (i := 487) (by decide +kernel), List.mem_of_getElem? (i := 616) (by decide +kernel), List.mem_of_getElem? (i := 617) (by decide +kernel)⟩
theorem lw_p24 : lw_okq (⟨"HemSuffixesModel", "repeatTold", "(II)I"⟩, 8) := ⟨⟨by decide +kernel, by decide +kernel⟩, List.mem_of_getElem? (i := 487) (by decide +kernel), List.mem_of_getElem? (i := 636) (by decide +kernel), List.mem_of_getElem? (i := 637) (by decide +kernel)⟩
theorem lw_p25 : lw_okq (⟨"HemSuffixesModel", "mostBeside", "(II)I"⟩, 8) := ⟨⟨by decide +kernel, by decide +kernel⟩, List.mem_of_getElem? (i := 487) (by decide +kernel), List.mem_of_getElem? (i := 640) (by decide +kernel), List.mem_of_getElem? (i := 641) (by decide +kernel)⟩
theorem lw_p26 : lw_okq (⟨"HemSuffixesModel", "placesOf", "(III)I"⟩, 8) := ⟨⟨by decide +kernel, by decide +kernel⟩, List.mem_of_getElem? (i := 487) (by decide +kernel), List.mem_of_getElem? (i := 644) (by decide +kernel), List.mem_of_getElem? (i := 645) (by decide +kernel)⟩
theorem lw_p27 : lw_okq (⟨"HemSuffixesModel", "firstPlace", "(II)I"⟩, 8) := ⟨⟨by decide +kernel, by decide +kernel⟩, List.mem_of_getElem? (i := 487) (by decide +kernel), List.mem_of_getElem? (i := 652) (by decide +kernel), List.mem_of_getElem? (i := 653) (by decide +kernel)⟩
theorem lw_p28 : lw_okq (⟨"HemSuffixesModel", "foundIn", "(I)I"⟩, 8) := ⟨⟨by decide +kernel, by decide +kernel⟩, List.mem_of_getElem? (i := 487) (by decide +kernel), List.mem_of_getElem? (i := 660) (by decide +kernel), List.mem_of_getElem? (i := 661) (by decide +kernel)⟩
theorem lw_p29 : lw_okq (⟨"HemSuffixesModel", "isSampleAt", "(II)Z"⟩, 8) := ⟨⟨by decide +kernel, by decide +kernel⟩, List.mem_of_getElem? (i := 487) (by decide +kernel), List.mem_of_getElem? (i := 664) (by decide +kernel), List.mem_of_getElem? (i := 665) (by decide +kernel)⟩
theorem lw_p30 : lw_okq (⟨"HemSuffixesModel", "periodOf", "(I)I"⟩, 8) := ⟨⟨by decide +kernel, by decide +kernel⟩, List.mem_of_getElem? (i := 487) (by decide +kernel), List.mem_of_getElem? (i := 676) (by decide +kernel), List.mem_of_getElem? (i := 677) (by decide +kernel)⟩
theorem lw_p31 : lw_okq (⟨"HemSuffixesModel", "isPeriod", "(II)Z"⟩, 8) := ⟨⟨by decide +kernel, by decide +kernel⟩, List.mem_of_getElem? (i := 487) (by decide +kernel), List.mem_of_getElem? (i := 681) (by decide +kernel), List.mem_of_getElem? (i := 682) (by decide +kernel)⟩
def lw_privs_2 : List (MethodName × Nat) := [(⟨"HemSuffixesModel", "look", "(I)V"⟩, 8), (⟨"HemSuffixesModel", "mostBefore", "(I)I"⟩, 8), (⟨"HemSuffixesModel", "seamTold", "(I)I"⟩, 8), (⟨"HemSuffixesModel", "lookAtBoth", "()V"⟩, 8), (⟨"HemSuffixesModel", "mostAcross", "(I)I"⟩, 8), (⟨"HemSuffixesModel", "isLess", "(III)Z"⟩, 8), (⟨"HemSuffixesModel", "order", "(I)V"⟩, 8), (⟨"HemSuffixesModel", "rankOf", "(II)I"⟩, 8), (⟨"HemSuffixesModel", "repeatTold", "(II)I"⟩, 8), (⟨"HemSuffixesModel", "mostBeside", "(II)I"⟩, 8), (⟨"HemSuffixesModel", "placesOf", "(III)I"⟩, 8), (⟨"HemSuffixesModel", "firstPlace", "(II)I"⟩, 8), (⟨"HemSuffixesModel", "foundIn", "(I)I"⟩, 8), (⟨"HemSuffixesModel", "isSampleAt", "(II)Z"⟩, 8), (⟨"HemSuffixesModel", "periodOf", "(I)I"⟩, 8), (⟨"HemSuffixesModel", "isPeriod", "(II)Z"⟩, 8)]
theorem lw_r2 : ∀ q ∈ lw_privs_2, lw_okq q := List.forall_mem_cons.mpr ⟨lw_p16, List.forall_mem_cons.mpr ⟨lw_p17, List.forall_mem_cons.mpr ⟨lw_p18, List.forall_mem_cons.mpr ⟨lw_p19, List.forall_mem_cons.mpr ⟨lw_p20, List.forall_mem_cons.mpr ⟨lw_p21, List.forall_mem_cons.mpr ⟨lw_p22, List.forall_mem_cons.mpr ⟨lw_p23, List.forall_mem_cons.mpr ⟨lw_p24, List.forall_mem_cons.mpr ⟨lw_p25, List.forall_mem_cons.mpr ⟨lw_p26, List.forall_mem_cons.mpr ⟨lw_p27, List.forall_mem_cons.mpr ⟨lw_p28, List.forall_mem_cons.mpr ⟨lw_p29, List.forall_mem_cons.mpr ⟨lw_p30, List.forall_mem_cons.mpr ⟨lw_p31, fun _ h => absurd h List.not_mem_nil⟩⟩⟩⟩⟩⟩⟩⟩⟩⟩⟩⟩⟩⟩⟩⟩
theorem lw_p32 : lw_okq (⟨"HemSuffixesModel", "turnedOf", "(I)I"⟩, 8) := ⟨⟨by decide +kernel, by decide +kernel⟩, List.mem_of_getElem? (i := 487) (by decide +kernel), List.mem_of_getElem? (i := 689) (by decide +kernel), List.mem_of_getElem? (i := 690) (by decide +kernel)⟩
theorem lw_p33 : lw_okq (⟨"HemSuffixesModel", "isLessAround", "(III)Z"⟩, 8) := ⟨⟨by decide +kernel, by decide +kernel⟩, List.mem_of_getElem? (i := 487) (by decide +kernel), List.mem_of_getElem? (i := 693) (by decide +kernel), List.mem_of_getElem? (i := 694) (by decide +kernel)⟩
theorem lw_p34 : lw_okq (⟨"HemSuffixesModel", "more", "(II)I"⟩, 8) := ⟨⟨by decide +kernel, by decide +kernel⟩, List.mem_of_getElem? (i := 487) (by decide +kernel), List.mem_of_getElem? (i := 705) (by decide +kernel), List.mem_of_getElem? (i := 706) (by decide +kernel)⟩
def lw_privs_3 : List (MethodName × Nat) := [(⟨"HemSuffixesModel", "turnedOf", "(I)I"⟩, 8), (⟨"HemSuffixesModel", "isLessAround", "(III)Z"⟩, 8), (⟨"HemSuffixesModel", "more", "(II)I"⟩, 8)]
theorem lw_r3 : ∀ q ∈ lw_privs_3, lw_okq q := List.forall_mem_cons.mpr ⟨lw_p32, List.forall_mem_cons.mpr ⟨lw_p33, List.forall_mem_cons.mpr ⟨lw_p34, fun _ h => absurd h List.not_mem_nil⟩⟩⟩
def lw_privs : List (MethodName × Nat) := lw_privs_1 ++ (lw_privs_2 ++ (lw_privs_3))
def lw_tbl : List Cond := k2_sels lw_privs ++ tables_1
theorem lw_privs_ok : ∀ q ∈ lw_privs, lw_okq q := by
  show ∀ q ∈ lw_privs_1 ++ (lw_privs_2 ++ (lw_privs_3)), lw_okq q
  exact List.forall_mem_append.mpr ⟨lw_r1, List.forall_mem_append.mpr ⟨lw_r2, lw_r3⟩⟩
/-- the streams that the claim lets the run draw from -/
abbrev lw_cs : List Choice := [Jvm.Choice.named "NaN.bits"]
theorem lw_bits : nanBits ∈ lw_cs := by first | decide | exact List.mem_cons_self | simp [lw_cs, nanBits]
end
section
/-! ===== BEGIN words of one list among another's, by their places ===== -/
theorem goodIn_r {big : List Cond} (ws : List Cond) (ps : List Nat) (hp : ws = ps.filterMap (fun i => big[i]?)) (h : ws.all goodWord = true) : GoodIn big ws := by
  intro w hw
  have h1 := List.all_eq_true.mp h w hw
  rw [hp] at hw
  obtain ⟨i, -, hi⟩ := List.mem_filterMap.mp hw
  have hm : w ∈ big := by first | exact List.mem_of_getElem? hi | exact List.getElem?_mem hi
  exact ⟨hm, good_of_word h1⟩
theorem goodIn_app {big a b : List Cond} (ha : GoodIn big a) (hb : GoodIn big b) : GoodIn big (a ++ b) := fun w h => (List.mem_append.mp h).elim (ha w) (hb w)
theorem goodIn_ca {big a b : List Cond} {c : Cond} (ha : GoodIn big (c :: a)) (hb : GoodIn big b) : GoodIn big (c :: (a ++ b)) := fun w h => (List.mem_cons.mp h).elim (fun e => ha w (List.mem_cons.mpr (Or.inl e))) (fun h => (List.mem_append.mp h).elim (fun h => ha w (List.mem_cons.mpr (Or.inr h))) (hb w))
theorem goodIn_sub {big ws : List Cond} (hm : ∀ w ∈ ws, w ∈ big) (h : ws.all goodWord = true) : GoodIn big ws := fun w hw => ⟨hm w hw, good_of_word (List.all_eq_true.mp h w hw)⟩
/-! ===== END ===== -/

/-! ===== BEGIN new T[n][m]: the outer array a place, the inner ones among the pooled ===== -/
/-- the row va_mna of the printed names asks for these words, which no text of the kit has: written here -/
def va_AOA (ty : FieldType) (U : State) : Prop := (Cond.arrayOver (.array ty)).before #[] U = true
theorem va_AOA.of {ty : FieldType} {A : Array Value} {U : State} (h : (Cond.arrayOver (.array ty)).before A U = true) : va_AOA ty U := h
theorem va_AOA.use {ty : FieldType} {A : Array Value} {U : State} (h : va_AOA ty U) : (Cond.arrayOver (.array ty)).before A U = true := h
/-- f, but v at every address of l -/
def vr_up {α : Type} (f : Nat → α) (l : List Nat) (v : α) : Nat → α := fun a => if a ∈ l then v else f a
theorem vr_up_in {α : Type} {f : Nat → α} {l : List Nat} {v : α} {a : Nat} (h : a ∈ l) : vr_up f l v a = v := if_pos h
theorem vr_up_ne {α : Type} {f : Nat → α} {l : List Nat} {v : α} {a : Nat} (h : a ∉ l) : vr_up f l v a = f a := if_neg h
theorem vr_rows {L l : List Nat} {f : Nat → va_E} {e : va_E} (h : ∀ a, a ∈ l → a ∉ L) : va_pl L f ++ l.map (fun a => (a, e)) = va_pl (L ++ l) (vr_up f l e) := by
  unfold va_pl
  rw [List.map_append]
  congr 1
  · apply List.map_congr_left
    intro a ha
    rw [vr_up_ne (fun q => h a q ha)]
  · apply List.map_congr_left
    intro a ha
    rw [vr_up_in ha]
theorem vr_lay {X rows : va_W} {x : Nat × va_E} {pl : va_W} {D : va_G} {cl : List vw_C} {H : Heap} (hP : va_P D cl (((X ++ pl) ++ [x]) ++ rows) H) : va_P D cl ((X ++ [x]) ++ (pl ++ rows)) H := by
  rw [List.append_assoc (X ++ pl)] at hP
  have h := va_P.swap hP
  rw [← List.append_assoc X] at h
  have h2 := va_P.swap h
  rw [List.append_assoc (X ++ [x])] at h2
  exact h2
theorem vr_layD {X rows : va_W} {x : Nat × va_E} {pl : va_W} {A : Nat → Prop} (hD : va_D A (((X ++ pl) ++ [x]) ++ rows)) : va_D A ((X ++ [x]) ++ (pl ++ rows)) := by
  rw [List.append_assoc (X ++ pl)] at hD
  have h := va_D.swap hD
  rw [← List.append_assoc X] at h
  have h2 := va_D.swap h
  rw [List.append_assoc (X ++ [x])] at h2
  exact h2
theorem vr_outer (c : ClassId) (N h0 : Nat) : ∀ i : Nat, Jvm.Free.Multi.outerC c N h0 i = arrV c N (fun j => va_rf (if j < i then some (h0 + 1 + j) else none))
  | 0 => by
    show ({ cls := c, slots := Array.replicate N .null, vm := .none } : Cell) = _
    rw [arrV_new]
    refine congrArg (arrV c N) (funext fun j => ?_)
    simp [va_rf]
  | i + 1 => by
    show (Jvm.Free.Multi.outerC c N h0 i).setSlot i (.ref (h0 + 1 + i)) = _
    rw [vr_outer c N h0 i, arrV_store]
    refine congrArg (arrV c N) (funext fun j => ?_)
    by_cases e : j = i
    · subst e
      simp [updV, va_rf]
    · by_cases h : j < i
      · simp [updV, e, h, Nat.lt_succ_of_lt h]
      · simp [updV, e, h, show ¬ j < i + 1 by omega]
section VGM
variable {p : Program} {l : Launch} {e : Env} {R : Room} {s : State} {m : MethodId} {args : Array Value} {below : List Frame} {meth : Method} {c : Code} {H : Heap} {locs : List Loc} {cells slots : Nat} {Q : State → Prop}
variable {cc : ByteArray} {pc : Nat} {ls : Array Slot} {rest : List Value} {D : va_G} {cl : List vw_C} {A : Nat → Prop} {a : Nat} {tys : List (ClassId × FieldType)} {ws : va_W} {H0 : Heap}
theorem va_mna {X : va_W} {L : List Nat} {f : Nat → va_E} {cc : ByteArray} (hexec : p.tables.exec = Jvm.exec) (hb : c.code = cc) {own : String} {index : Nat} {ty : FieldType} {cy : ClassId} (hown : s.vm.findClass own = some m.cls) (hclink : (Cond.classLink own index ("[" ++ (FieldType.array ty).toString)).before args s = true) (hover : va_AOA ty s) (harr : (Cond.arrayClass ty).before args s = true) (hcy : s.vm.findClass (FieldType.array ty).toString = some cy)
    (hK : va_K D cl tys s) (hP : va_P D cl (X ++ va_pl L f) H) (hD : va_D A (X ++ va_pl L f)) (hS : va_S A H0 H locs) (hA : ∀ q, H0.size ≤ q → A q) {n k : Int32} {N' K' : Nat} {z : vp_A} (hn : ¬ n < 0) (hk : ¬ k < 0) (hN : n.toNatClampNeg = N') (hM : k.toNatClampNeg = K')
    (hb1 : N' * 4 ≤ 536870912) (hb2 : K' * componentBytes ty ≤ 536870912) (hb3 : K' ≤ 536870912) (hdf : fits ty (defaultValue ty) = true) (hdd : (defaultValue ty).isDefault = true) (hcells : cells + (1 + N') ≤ R.cells) (hslots : slots + (N' + N' * K') ≤ R.slots) (hz : ∀ c : ClassId, Jvm.Free.Multi.innerC c K' (defaultValue ty) = vp_cell c z) (hdg : decode cc pc = .ok (.multianewarray index 2, 4))
    (kk : ∀ (q : Nat) (r : Nat → Nat) (cA : ClassId) (H1 : Heap), (∀ i j : Nat, i < N' → j < N' → r i = r j → i = j) → (∀ i : Nat, i < N' → r i ∉ L) → va_K D cl (tys ++ [(cA, .array ty)]) s →
      va_P D cl ((X ++ [(q, .inl (cA, N', .inr (.inr (.inr (.inr (fun i => if i < N' then some (r i) else none))))))]) ++ va_pl (L ++ (List.range N').map r) (vr_up f ((List.range N').map r) (.inl (cy, z)))) H1 → va_D A ((X ++ [(q, .inl (cA, N', .inr (.inr (.inr (.inr (fun i => if i < N' then some (r i) else none))))))]) ++ va_pl (L ++ (List.range N').map r) (vr_up f ((List.range N').map r) (.inl (cy, z)))) → va_S A H0 H1 locs →
      W p l e R s m args below meth c H1 locs (cells + 1 + N') (slots + N' + N' * K') Q (F0 m (pc + 4) ls (.ref q :: rest))) : W p l e R s m args below meth c H locs cells slots Q (F0 m pc ls (.int k :: .int n :: rest)) := by
  subst hN
  subst hM
  intro T hT Xs
  obtain ⟨vm₁, cA, comp, -, fA, fC, hO, -, X', step⟩ := Xs.multianewarray2F hexec hown hclink (va_AOA.use hover) harr (g := F0 m pc ls (.int k :: .int n :: rest)) rfl (by rw [hb]; exact hdg) rfl hn hk hb1 hb2 hb3 hdf hdd hcells hslots
  have ec : some cy = some comp := hcy.symm.trans fC
  cases ec
  generalize hF : Jvm.Free.Multi.fill (T.setVm vm₁) cA cy n.toNatClampNeg k.toNatClampNeg (defaultValue ty) n.toNatClampNeg = F at X' step
  have hTh : (T.setVm vm₁).heap = H := hT
  obtain ⟨f1, f2, -, -⟩ := Jvm.Free.Multi.fill_facts (T.setVm vm₁) cA cy n.toNatClampNeg k.toNatClampNeg (defaultValue ty) n.toNatClampNeg
  rw [hF, hTh] at f1 f2
  have hold : ∀ x : Nat, x < H.size → F.heap[x]? = H[x]? := fun x hx => by
    have := Jvm.Free.Multi.fill_old (T.setVm vm₁) cA cy n.toNatClampNeg k.toNatClampNeg (defaultValue ty) (a := x) (by rw [hTh]; exact hx) n.toNatClampNeg
    rw [hF, hTh] at this
    exact this
  have hrow : ∀ j : Nat, j < n.toNatClampNeg → F.heap[H.size + 1 + j]? = some (vp_cell cy z) := fun j hj => by
    have := Jvm.Free.Multi.fill_inner (T.setVm vm₁) cA cy n.toNatClampNeg k.toNatClampNeg (defaultValue ty) n.toNatClampNeg j hj
    rw [hF, hTh, hz] at this
    exact this
  have hout : Jvm.Free.Multi.outerC cA n.toNatClampNeg H.size n.toNatClampNeg = vp_cell cA (n.toNatClampNeg, .inr (.inr (.inr (.inr (fun i => if i < n.toNatClampNeg then some (H.size + 1 + i) else none))))) := by
    rw [vp_cell_q]
    exact vr_outer cA n.toNatClampNeg H.size n.toNatClampNeg
  rw [hout] at f2
  have hlt : ∀ a, a ∈ L → a < H.size := fun a ha => by
    obtain ⟨k9, hk9⟩ := va_pl_get (X := X) (f := f) ha
    exact (hP k9 _ hk9).lt
  have hnl : ∀ i : Nat, i < n.toNatClampNeg → H.size + 1 + i ∉ L := fun i _ h => by
    have := hlt _ h
    omega
  have hnm : ∀ a, a ∈ (List.range n.toNatClampNeg).map (fun i => H.size + 1 + i) → a ∉ L := fun a ha h => by
    obtain ⟨i, -, rfl⟩ := List.mem_map.mp ha
    have := hlt _ h
    omega
  have hP0 : va_P D cl (X ++ va_pl L f) F.heap := hP.kept (fun k9 x hx => hold x.1 ((hP k9 x hx).lt))
  have hP1 : va_P D cl ((X ++ va_pl L f) ++ [(H.size, .inl (cA, n.toNatClampNeg, .inr (.inr (.inr (.inr (fun i => if i < n.toNatClampNeg then some (H.size + 1 + i) else none))))))]) F.heap := hP0.app (fun k9 x hx => by
    have h0 : k9 < 1 := (List.getElem?_eq_some_iff.mp hx).1
    rw [show k9 = 0 by omega] at hx
    cases hx
    exact f2)
  have hP2 : va_P D cl (((X ++ va_pl L f) ++ [(H.size, .inl (cA, n.toNatClampNeg, .inr (.inr (.inr (.inr (fun i => if i < n.toNatClampNeg then some (H.size + 1 + i) else none))))))]) ++ ((List.range n.toNatClampNeg).map (fun i => H.size + 1 + i)).map (fun a => (a, .inl (cy, z)))) F.heap := hP1.app (fun k9 x hx => by
    obtain ⟨a, ha, rfl⟩ := List.mem_map.mp (List.mem_of_getElem? hx)
    obtain ⟨i, hi, rfl⟩ := List.mem_map.mp ha
    exact hrow i (List.mem_range.mp hi))
  have hD2 : va_D A (((X ++ va_pl L f) ++ [(H.size, .inl (cA, n.toNatClampNeg, .inr (.inr (.inr (.inr (fun i => if i < n.toNatClampNeg then some (H.size + 1 + i) else none))))))]) ++ ((List.range n.toNatClampNeg).map (fun i => H.size + 1 + i)).map (fun a => (a, .inl (cy, z)))) := by
    have hD1 := hD.push (e := .inl (cA, n.toNatClampNeg, .inr (.inr (.inr (.inr (fun i => if i < n.toNatClampNeg then some (H.size + 1 + i) else none)))))) hP rfl (hA _ hS.1)
    generalize hW1 : (X ++ va_pl L f) ++ [(H.size, .inl (cA, n.toNatClampNeg, .inr (.inr (.inr (.inr (fun i => if i < n.toNatClampNeg then some (H.size + 1 + i) else none))))))] = W1 at hD1 hP1 ⊢
    have hle : ∀ (k9 : Nat) (x : Nat × va_E), W1[k9]? = some x → x.1 ≤ H.size := fun k9 x hx => by
      rw [← hW1] at hx
      by_cases hl : k9 < (X ++ va_pl L f).length
      · rw [List.getElem?_append_left hl] at hx
        exact Nat.le_of_lt ((hP k9 x hx).lt)
      · rw [List.getElem?_append_right (by omega)] at hx
        have h0 : k9 - (X ++ va_pl L f).length < 1 := (List.getElem?_eq_some_iff.mp hx).1
        rw [show k9 - (X ++ va_pl L f).length = 0 by omega] at hx
        cases hx
        exact Nat.le_refl _
    have hr : ∀ (k9 : Nat) (x : Nat × va_E), (((List.range n.toNatClampNeg).map (fun i => H.size + 1 + i)).map (fun a => ((a, .inl (cy, z)) : Nat × va_E)))[k9]? = some x → x.1 = H.size + 1 + k9 := fun k9 x hx => by
      rw [List.getElem?_map, List.getElem?_map] at hx
      by_cases h9 : k9 < n.toNatClampNeg
      · rw [List.getElem?_range h9] at hx
        cases hx
        rfl
      · have hn0 : (List.range n.toNatClampNeg)[k9]? = none := List.getElem?_eq_none (by rw [List.length_range]; omega)
        rw [hn0] at hx
        cases hx
    refine ⟨fun i j x y hi hj hxy => ?_, fun k9 x hx => ?_⟩
    · by_cases h1 : i < W1.length <;> by_cases h2 : j < W1.length
      · rw [List.getElem?_append_left h1] at hi
        rw [List.getElem?_append_left h2] at hj
        exact hD1.1 i j x y hi hj hxy
      · rw [List.getElem?_append_left h1] at hi
        rw [List.getElem?_append_right (by omega)] at hj
        have := hle _ _ hi
        have := hr _ _ hj
        omega
      · rw [List.getElem?_append_right (by omega)] at hi
        rw [List.getElem?_append_left h2] at hj
        have := hle _ _ hj
        have := hr _ _ hi
        omega
      · rw [List.getElem?_append_right (by omega)] at hi hj
        have := hr _ _ hi
        have := hr _ _ hj
        omega
    · by_cases h1 : k9 < W1.length
      · rw [List.getElem?_append_left h1] at hx
        exact hD1.2 k9 x hx
      · rw [List.getElem?_append_right (by omega)] at hx
        have := hr _ _ hx
        exact hA _ (by have := hS.1; omega)
  have hAr : ArrOfT s cA (.array ty) := fun N9 z9 => by
    obtain ⟨-, k9, hk9, cm9, hkk9⟩ := (hO 0 0 0).1
    exact ⟨(fun q hq => by cases hq), k9, hk9, cm9, hkk9⟩
  have hK2 : va_K D cl (tys ++ [(cA, .array ty)]) s := ⟨hK.1, fun k9 x hx => by
    by_cases hl : k9 < tys.length
    · rw [List.getElem?_append_left hl] at hx
      exact hK.2 k9 x hx
    · rw [List.getElem?_append_right (by omega)] at hx
      have h0 : k9 - tys.length < 1 := (List.getElem?_eq_some_iff.mp hx).1
      rw [show k9 - tys.length = 0 by omega] at hx
      cases hx
      exact ⟨hAr, fA⟩⟩
  obtain ⟨t, a1, b1⟩ := kk H.size (fun i => H.size + 1 + i) cA F.heap (fun i j _ _ h => by have h9 : H.size + 1 + i = H.size + 1 + j := h; omega) hnl hK2 (by rw [← vr_rows hnm]; exact vr_lay hP2) (by rw [← vr_rows hnm]; exact vr_layD hD2) ⟨by rw [f1]; have := hS.1; omega, fun x h1 h2 => (hold x (Nat.lt_of_lt_of_le h1 hS.1)).trans (hS.2.1 x h1 h2), hS.2.2⟩ F rfl X'
  refine ⟨t, step t ?_, b1⟩
  have e : T.heap.size = H.size := by rw [hT]
  rw [e]
  exact a1
end VGM
/-! ===== END ===== -/

/-! ===== BEGIN exceptions that leave a method, and their catching by the caller (launches without stack traces) ===== -/
section VXA
/-! The laws vx_back, vx_callV, vx_callS, vx_callSW, vx_throw0, vx_throwS follow proofs of the library, with one case more: JvmDerived/Free/Laws.lean (Back.of_free), Shelf42/LK1.lean (callV, callS), Shelf/KitTraced.lean (throwNew0V, throwNewS). -/
/-- where a method has thrown q: the class by its name, the cell, what was written, the world -/
def vx_T (XC : String → State → State → Prop) (st : State) (q : Addr) (t : State) (mc ms : Nat) (free : Addr → Prop) : Prop :=
  ∃ (E : String) (ce : Cell) (L : List Loc), XC E st t ∧ t.heap[q]? = some ce ∧ ce.vm = .none ∧ st.vm.findClass E = some ce.cls ∧ st.WarmedH t.vm ∧ st.sameButNew ({ t with vm := st.vm } : State) L mc ms ∧ ∀ z ∈ L, free z.base
def vx_Q (Qc : Array Value → State → Outcome → State → Prop) (XC : String → State → State → Prop) (mc ms : Nat) (free : Addr → Prop) : Array Value → State → Outcome → State → Prop := fun a st o t =>
  (Qc a st o t ∧ ∃ L, FrameEnd st o t L mc ms ∧ ∀ q ∈ L, free q.base) ∨ ∃ q, o = .threw q ∧ vx_T XC st q t mc ms free
/-- a callee that returns or throws -/
def vx_Met (l : Launch) (y : MethodName) (ws : List Cond) (rm : Room) (Pc : Array Value → State → Prop) (Qc : Array Value → State → Outcome → State → Prop) (XC : String → State → State → Prop) (mc ms : Nat) (free : Addr → Prop) : Prop :=
  MetFree l y (headSpec ws rm) Pc (fun _ _ _ _ _ => True) (vx_Q Qc XC mc ms free)
def vx_Post (XC : String → State → State → Prop) (mc ms : Nat) (free : Addr → Prop) : Pt → Array Value → Addr → Pt → Prop := fun A a q B =>
  ∃ (g : JFrame) (mk : MethodId) (t : State) (L : List Loc) (E : String) (ce : Cell), B.U.heap = t.heap ∧ B.U.vm = t.vm ∧ XC E (A.U.calling g mk a) t ∧ t.heap[q]? = some ce ∧ ce.vm = .none ∧ A.U.vm.findClass E = some ce.cls ∧ B.locs = A.locs ++ L ∧ (∀ z ∈ L, free z.base) ∧ B.cells = A.cells + mc ∧ B.slots = A.slots + ms
def vx_Back (l : Launch) (R : Room) (p : Program) (e : Env) (below : List Frame) (s : State) (sargs : Array Value) (y : MethodName) (len W9 : Nat)
    (Pre : Pt → Array Value → Prop) (Post : Pt → Array Value → Option Value → Pt → Prop) (PostX : Pt → Array Value → Addr → Pt → Prop) : Prop :=
  ∀ (m : MethodId) (meth : Method) (c : Code) (A : Pt) (g : JFrame) (ig : Instr) (mk : MethodId) (a : Array Value),
    Stand p l e R s m sargs below meth c A.U A.locs A.cells A.slots → g.method = m → g.locals.size = c.maxLocals → decode c.code g.pc = .ok (ig, len) →
    2 * g.monitorRoom + (g.stack.map fun v => v.category).sum ≤ W9 → A.U.methodNamed? y = some mk → Pre A a →
    (∃ (v : Option Value) (B : Pt), Stand p l e R s m sargs below meth c B.U B.locs B.cells B.slots ∧ Post A a v B ∧
      Steps p.tables e below (doInvoke e (A.U.setTop g) [] mk a).1 (B.U.setTop { g with pc := g.pc + len, stack := v.toList ++ g.stack })) ∨
    (∃ (q : Addr) (B : Pt), Stand p l e R s m sargs below meth c B.U B.locs B.cells B.slots ∧ PostX A a q B ∧
      Steps p.tables e below (doInvoke e (A.U.setTop g) [] mk a).1 ((B.U.setTop g).pushFrame (.throwing q)))
section Payer
variable {l : Launch} {R : Room} {p : Program} {e : Env} {below : List Frame} {s : State} {sargs : Array Value} {y : MethodName} {len W9 : Nat}
theorem vx_back {ws : List Cond} {rm : Room} {Pc : Array Value → State → Prop} {Qc : Array Value → State → Outcome → State → Prop} {XC : String → State → State → Prop} {mc ms : Nat} {free : Addr → Prop} {bytes : ByteArray} {maxL : Nat} {ret : Option FieldType}
    (hM : vx_Met l y ws rm Pc Qc XC mc ms free) (hblind : FrameBlind Pc) (hrc : rm.cells = mc) (hrs : rm.slots = ms)
    (hframes : rm.frames + 1 ≤ R.frames) (hlocals : W9 + (maxL + 11) + rm.locals ≤ R.locals)
    (hws : ∀ w ∈ ws, ∀ a' U, s.WarmedH U.vm → w.before a' U = true) (hcode : Cond.code y bytes maxL ret ∈ ws) (hinit : ∀ a' U, s.WarmedH U.vm → (Cond.initialized y.cls).before a' U = true) :
    vx_Back l R p e below s sargs y len W9 (PreOf R mc ms Pc) (PostOf Qc mc ms free) (vx_Post XC mc ms free) := by
  intro m meth c A g ig mk a X hg hsize hdg hW hn hp
  have h1 : (headSpec ws rm).pre.before a A.U = true := atoms_intro fun w hw => hws w hw _ _ X.warmed
  have h2 : (Cond.code y bytes maxL ret).before a A.U = true := hws _ hcode _ _ X.warmed
  have h3 : (Cond.initialized y.cls).before a A.U = true := hinit _ _ X.warmed
  have h4 : A.cells + (headSpec ws rm).room.cells ≤ R.cells := by rw [show (headSpec ws rm).room.cells = mc from hrc]; exact hp.1
  have h5 : A.slots + (headSpec ws rm).room.slots ≤ R.slots := by rw [show (headSpec ws rm).room.slots = ms from hrs]; exact hp.2.1
  have hPc : Pc a (A.U.calling g mk a) := hblind _ _ _ _ hp.2.2
  obtain ⟨U, Ls, c0, s0⟩ := A
  dsimp only [Pt.U, Pt.locs, Pt.cells, Pt.slots] at h1 h2 h3 h4 h5 X hn hPc ⊢
  obtain ⟨methY, cY, hmY, hcY, -, hlY, -, -, -, -⟩ := Cond.code_spec hn h2
  obtain ⟨kY, hkY, -⟩ := className_of_methodNamed hn
  have hinitY : kY.init = .initialized := Cond.initialized_spec (findClass_of_methodNamed hn) hkY h3
  have h : At U g.method c below := by rw [hg]; exact X.here
  have hlocals9 : W9 + (maxL + 11) + (headSpec ws rm).room.locals ≤ R.locals := hlocals
  have happ : (headSpec ws rm).appliesLoose y e.platform (U.calling g mk a) = true :=
    Spec.appliesLoose_calling (g := g) h hdg hn hkY hinitY
      (X.room_calling (g := g) (R' := (headSpec ws rm).room) hsize hmY hcY hframes (by rw [hlY]; omega) h4 h5) h1
  obtain ⟨mid, hmid⟩ := h.above
  have hfr : (U.setTop g).frames = (.java g :: mid) ++ below := by rw [State.frames_setTop' g h.top, hmid]; rfl
  obtain ⟨o, s₂, hsteps, -, hend, hq⟩ := Steps.callFree hM p X.admits X.cas X.clock (acts := []) hfr happ hPc trivial
  have hq' : vx_Q Qc XC mc ms free a (U.calling g mk a) o s₂ := hq
  rw [State.frames_setTop' g h.top] at hend
  obtain ⟨g₀, hg0⟩ := Option.isSome_iff_exists.mp h.top
  obtain ⟨r, hr⟩ := State.topJava?_eq_some.mp hg0
  have hr' : (({ U with heap := s₂.heap, slotsUsed := s₂.slotsUsed } : State).setVm s₂.vm).frames = .java g₀ :: r := hr
  rcases hq' with ⟨hqc, L, hfe, hL⟩ | ⟨q, rfl, E, ce, L, hx, hce, hcv, hcl, hW₂, hsm, hL⟩
  · obtain ⟨⟨v, rfl⟩, hW₂, e2, q2, q3, q4, q5, q6⟩ := id hfe
    have e3 : s₂ = ({ (U.calling g mk a).setFrames s₂.frames with heap := s₂.heap, slotsUsed := s₂.slotsUsed } : State).setVm s₂.vm := by
      have : s₂ = ({ s₂ with vm := (U.calling g mk a).vm } : State).setVm s₂.vm := rfl
      rw [e2] at this
      exact this
    obtain ⟨c₂, i₂, len₂, hc₂, hd₂, hf₂⟩ := hend
    have hW' : U.WarmedH s₂.vm := hW₂
    have hcc : c₂ = c := by
      have h1 : s₂.code? g.method = U.code? g.method := by
        rw [State.code?_eq, State.code?_eq, hW'.alike.method?]
      exact Option.some.inj (hc₂.symm.trans (h1.trans h.code))
    subst hcc
    have hlen : len₂ = len := by rw [hdg] at hd₂; cases hd₂; rfl
    subst hlen
    have hs₂ : s₂ = (({ U with heap := s₂.heap, slotsUsed := s₂.slotsUsed } : State).setVm s₂.vm).setTop { g with pc := g.pc + len₂, stack := v.toList ++ g.stack } := by
      refine e3.trans ?_
      rw [hf₂, State.calling_eq h.top, State.setFrames_setFrames, State.setTop_of_frames _ hr', hr]
      rfl
    have hsame : U.sameButNew ({ U with heap := s₂.heap, slotsUsed := s₂.slotsUsed } : State) L mc ms := by
      refine ⟨?_, q2, q3, q4, q5, q6⟩
      obtain ⟨t, ht, -⟩ := State.frames_cons hr
      show ({ U with heap := s₂.heap, slotsUsed := s₂.slotsUsed } : State) = { U.setFrames U.frames with heap := s₂.heap, slotsUsed := s₂.slotsUsed }
      rw [State.setFrames_self ht]
    subst hg
    refine Or.inl ⟨v, ⟨(({ U with heap := s₂.heap, slotsUsed := s₂.slotsUsed } : State).setVm s₂.vm), Ls ++ L, c0 + mc, s0 + ms⟩,
      ⟨X.admits, X.cas, X.clock, X.frames, X.room, X.hears, X.method, X.code, (X.here.setHeapUsed s₂.heap s₂.slotsUsed).setVm hW'.alike, X.tail, State.WarmedH.trans X.warmed hW', X.limits, X.bytes, X.same.trans (hsame.setVm s.vm)⟩,
      ⟨g, mk, s₂, L, rfl, rfl, hqc, rfl, hL, rfl, rfl⟩, ?_⟩
    show Steps p.tables e below _ ((({ U with heap := s₂.heap, slotsUsed := s₂.slotsUsed } : State).setVm s₂.vm).setTop { g with pc := g.pc + len₂, stack := v.toList ++ g.stack })
    rw [← hs₂]
    exact hsteps
  · obtain ⟨e2, q2, q3, q4, q5, q6⟩ := id hsm
    have e3 : s₂ = ({ (U.calling g mk a).setFrames s₂.frames with heap := s₂.heap, slotsUsed := s₂.slotsUsed } : State).setVm s₂.vm := by
      have : s₂ = ({ s₂ with vm := (U.calling g mk a).vm } : State).setVm s₂.vm := rfl
      rw [e2] at this
      exact this
    have hf₂ : s₂.frames = .throwing q :: .java g :: U.frames.tail := hend
    have hW' : U.WarmedH s₂.vm := hW₂
    have hs₂ : s₂ = ((({ U with heap := s₂.heap, slotsUsed := s₂.slotsUsed } : State).setVm s₂.vm).setTop g).pushFrame (.throwing q) := by
      refine e3.trans ?_
      rw [hf₂, State.calling_eq h.top, State.setFrames_setFrames, State.pushFrame, State.frames_setTop _ hr', State.setTop_of_frames _ hr', State.setFrames_setFrames, hr]
      rfl
    have hsame : U.sameButNew ({ U with heap := s₂.heap, slotsUsed := s₂.slotsUsed } : State) L mc ms := by
      refine ⟨?_, q2, q3, q4, q5, q6⟩
      obtain ⟨t, ht, -⟩ := State.frames_cons hr
      show ({ U with heap := s₂.heap, slotsUsed := s₂.slotsUsed } : State) = { U.setFrames U.frames with heap := s₂.heap, slotsUsed := s₂.slotsUsed }
      rw [State.setFrames_self ht]
    subst hg
    refine Or.inr ⟨q, ⟨(({ U with heap := s₂.heap, slotsUsed := s₂.slotsUsed } : State).setVm s₂.vm), Ls ++ L, c0 + mc, s0 + ms⟩,
      ⟨X.admits, X.cas, X.clock, X.frames, X.room, X.hears, X.method, X.code, (X.here.setHeapUsed s₂.heap s₂.slotsUsed).setVm hW'.alike, X.tail, State.WarmedH.trans X.warmed hW', X.limits, X.bytes, X.same.trans (hsame.setVm s.vm)⟩,
      ⟨g, mk, s₂, L, E, ce, rfl, rfl, hx, hce, hcv, hcl, rfl, hL, rfl, rfl⟩, ?_⟩
    show Steps p.tables e below _ (((({ U with heap := s₂.heap, slotsUsed := s₂.slotsUsed } : State).setVm s₂.vm).setTop g).pushFrame (.throwing q))
    rw [← hs₂]
    exact hsteps
end Payer
section Calls
variable {p : Program} {l : Launch} {e : Env} {R : Room} {s : State} {m : MethodId} {args : Array Value} {below : List Frame} {meth : Method} {c : Code} {T : State} {locs : List Loc} {cells slots : Nat}
theorem vx_callV (X : Stand p l e R s m args below meth c T locs cells slots) (hexec : p.tables.exec = Jvm.exec) {own C : String} {index : Nat} {y : MethodName} {bytes : ByteArray} {maxL : Nat} {ret : Option FieldType}
    (hown : s.vm.findClass own = some m.cls) (hlink : (Cond.methodLink own index y).before args s = true) (hinst : (Cond.instanceMethod y).before args s = true) (hsel : (Cond.selects C y y).before args s = true)
    (hcode : (Cond.code y bytes maxL ret).before args s = true) (hy : y.cls ≠ "java/lang/invoke/MethodHandle" ∧ y.cls ≠ "java/lang/invoke/VarHandle")
    {W9 : Nat} {Pre : Pt → Array Value → Prop} {Post : Pt → Array Value → Option Value → Pt → Prop} {PostX : Pt → Array Value → Addr → Pt → Prop} (hK : vx_Back l R p e below s args y 3 W9 Pre Post PostX)
    {b : Addr} {cellB : Cell} (hcell : T.heap[b]? = some cellB) (hobj : cellB.vm.isStatics = false) (hcls : s.vm.findClass C = some cellB.cls)
    {g : JFrame} (hg : g.method = m) (hsize : g.locals.size = c.maxLocals) {argsL rest : List Value} (hlen : ∀ sig, parseMethodDescriptor y.desc = some sig → argsL.length = sig.parameters.length)
    (hstack : g.stack = argsL.reverse ++ .ref b :: rest) (hW : 2 * g.monitorRoom + (rest.map fun v => v.category).sum ≤ W9) (hdg : decode c.code g.pc = .ok (.invokevirtual index, 3))
    (hpre : ∀ vm₁, s.WarmedH vm₁ → Pre ⟨T.setVm vm₁, locs, cells, slots⟩ (Value.ref b :: argsL).toArray) :
    (∃ (v : Option Value) (vm₁ : Vm) (B : Pt), s.WarmedH vm₁ ∧ Stand p l e R s m args below meth c B.U B.locs B.cells B.slots ∧ Post ⟨T.setVm vm₁, locs, cells, slots⟩ (Value.ref b :: argsL).toArray v B ∧
      ∀ target, Steps p.tables e below (B.U.setTop { g with pc := g.pc + 3, stack := v.toList ++ rest }) target → Steps p.tables e below (T.setTop g) target) ∨
    (∃ (q : Addr) (vm₁ : Vm) (B : Pt), s.WarmedH vm₁ ∧ Stand p l e R s m args below meth c B.U B.locs B.cells B.slots ∧ PostX ⟨T.setVm vm₁, locs, cells, slots⟩ (Value.ref b :: argsL).toArray q B ∧
      Steps p.tables e below (T.setTop g) ((B.U.setTop { g with stack := rest }).pushFrame (.throwing q))) := by
  obtain ⟨mk, methM, hnamed, hmethM, hstM, habM⟩ := Cond.instanceMethod_spec hinst
  obtain ⟨methM', cM, hmethM', -, -, -, -, -, -, hsigM⟩ := Cond.code_spec hnamed hcode
  cases hmethM.symm.trans hmethM'
  obtain ⟨c2, r2, m2, q1, q2, q3, q4, kP, hkP, hkPi⟩ := Cond.selects_spec hsel
  cases hcls.symm.trans q1
  cases (State.methodFound?_of_named hnamed hy).symm.trans q2
  cases hnamed.symm.trans q3
  have hselP : selectMethod e.platform s.vm cellB.cls mk = .method mk := by rw [Launch.admits_selectMethod X.admits]; exact q4
  obtain ⟨vm₁, X₁, hstep₁⟩ := X.invokevirtual hexec hown hlink hnamed hmethM hstM hkP hkPi hy (a := b) (cell := cellB) hcell
    (fun z h => by rw [h] at hobj; cases hobj) hselP hmethM habM hkP hkPi (g := g) hg (argsL := argsL) (rest := rest) (hlen _ hsigM) hstack hdg
  rcases hK m meth c ⟨T.setVm vm₁, locs, cells, slots⟩ { g with stack := rest } (.invokevirtual index) mk (Value.ref b :: argsL).toArray X₁ hg hsize hdg hW (X₁.named hnamed) (hpre vm₁ X₁.warmed) with ⟨v, B, X', hpost, hsteps⟩ | ⟨q, B, X', hpost, hsteps⟩
  · exact Or.inl ⟨v, vm₁, B, X₁.warmed, X', hpost, fun target h => hstep₁ _ fun acts => by rw [doInvoke_state]; exact hsteps.trans h⟩
  · exact Or.inr ⟨q, vm₁, B, X₁.warmed, X', hpost, hstep₁ _ fun acts => by rw [doInvoke_state]; exact hsteps⟩
theorem vx_callS (X : Stand p l e R s m args below meth c T locs cells slots) (hexec : p.tables.exec = Jvm.exec) {own : String} {index : Nat} {y : MethodName} {bytes : ByteArray} {maxL : Nat} {ret : Option FieldType}
    (hown : s.vm.findClass own = some m.cls) (hlink : (Cond.methodLink own index y).before args s = true) (hstat : (Cond.static y).before args s = true) (hinit : (Cond.initialized y.cls).before args s = true)
    (hcode : (Cond.code y bytes maxL ret).before args s = true) (hy : y.cls ≠ "java/lang/invoke/MethodHandle" ∧ y.cls ≠ "java/lang/invoke/VarHandle")
    {W9 : Nat} {Pre : Pt → Array Value → Prop} {Post : Pt → Array Value → Option Value → Pt → Prop} {PostX : Pt → Array Value → Addr → Pt → Prop} (hK : vx_Back l R p e below s args y 3 W9 Pre Post PostX)
    {g : JFrame} (hg : g.method = m) (hsize : g.locals.size = c.maxLocals) {argsL rest : List Value} (hlen : ∀ sig, parseMethodDescriptor y.desc = some sig → argsL.length = sig.parameters.length)
    (hstack : g.stack = argsL.reverse ++ rest) (hW : 2 * g.monitorRoom + (rest.map fun v => v.category).sum ≤ W9) (hdg : decode c.code g.pc = .ok (.invokestatic index, 3))
    (hpre : ∀ vm₁, s.WarmedH vm₁ → Pre ⟨T.setVm vm₁, locs, cells, slots⟩ argsL.toArray) :
    (∃ (v : Option Value) (vm₁ : Vm) (B : Pt), s.WarmedH vm₁ ∧ Stand p l e R s m args below meth c B.U B.locs B.cells B.slots ∧ Post ⟨T.setVm vm₁, locs, cells, slots⟩ argsL.toArray v B ∧
      ∀ target, Steps p.tables e below (B.U.setTop { g with pc := g.pc + 3, stack := v.toList ++ rest }) target → Steps p.tables e below (T.setTop g) target) ∨
    (∃ (q : Addr) (vm₁ : Vm) (B : Pt), s.WarmedH vm₁ ∧ Stand p l e R s m args below meth c B.U B.locs B.cells B.slots ∧ PostX ⟨T.setVm vm₁, locs, cells, slots⟩ argsL.toArray q B ∧
      Steps p.tables e below (T.setTop g) ((B.U.setTop { g with stack := rest }).pushFrame (.throwing q))) := by
  obtain ⟨mk, hnamed⟩ := Cond.code_named hcode
  obtain ⟨methM, cM, hmethM, -, -, -, -, -, -, hsigM⟩ := Cond.code_spec hnamed hcode
  have hstatic : methM.isStatic = true := Cond.static_spec hnamed hmethM hstat
  obtain ⟨kP, hkP, -⟩ := className_of_methodNamed hnamed
  have hinitP : kP.init = .initialized := Cond.initialized_spec (findClass_of_methodNamed hnamed) hkP hinit
  obtain ⟨vm₁, X₁, hstep₁⟩ := X.invokestatic hexec hown hlink hnamed hmethM hstatic hkP hinitP hy (g := g) hg (argsL := argsL) (rest := rest) (hlen _ hsigM) hstack hdg
  rcases hK m meth c ⟨T.setVm vm₁, locs, cells, slots⟩ { g with stack := rest } (.invokestatic index) mk argsL.toArray X₁ hg hsize hdg hW (X₁.named hnamed) (hpre vm₁ X₁.warmed) with ⟨v, B, X', hpost, hsteps⟩ | ⟨q, B, X', hpost, hsteps⟩
  · exact Or.inl ⟨v, vm₁, B, X₁.warmed, X', hpost, fun target h => hstep₁ _ fun acts => by rw [doInvoke_state]; exact hsteps.trans h⟩
  · exact Or.inr ⟨q, vm₁, B, X₁.warmed, X', hpost, hstep₁ _ fun acts => by rw [doInvoke_state]; exact hsteps⟩
end Calls
theorem vx_cls {s : State} {T : State} {vm₁ : Vm} {E : String} {k : ClassId} (hW : s.WarmedH vm₁) (h : (T.setVm vm₁).vm.findClass E = some k) : s.vm.findClass E = some k := by
  have h1 : vm₁.findClass E = some k := h
  rw [hW.alike.findClass] at h1
  exact h1
/-- the method's frame g, with q thrown over it -/
def vx_W (p : Program) (l : Launch) (e : Env) (R : Room) (s : State) (m : MethodId) (args : Array Value) (below : List Frame) (meth : Method) (c : Code) (H : Heap) (locs : List Loc) (cells slots : Nat) (Q : State → Prop) (g : JFrame) (q : Addr) : Prop :=
  ∀ T : State, T.heap = H → Stand p l e R s m args below meth c T locs cells slots → ∃ t, Steps p.tables e below ((T.setTop g).pushFrame (.throwing q)) t ∧ Q t
def vx_Run (p : Program) (l : Launch) (e : Env) (R : Room) (s : State) (m : MethodId) (args : Array Value) (below : List Frame) (meth : Method) (c : Code) (H : Heap) (locs : List Loc) (cells slots mc ms : Nat) (g : JFrame) (rest : List Value) (Qa : State → Outcome → State → Prop) (XC : String → State → State → Prop) (free : Addr → Prop) : Prop :=
  ∀ T : State, T.heap = H → Stand p l e R s m args below meth c T locs cells slots →
    (∃ (v : Option Value) (st₀ t T' : State) (L : List Loc), st₀.heap = H ∧ Stand p l e R s m args below meth c T' (locs ++ L) (cells + mc) (slots + ms) ∧ (∀ q ∈ L, free q.base) ∧ T'.heap = t.heap ∧ T'.vm = t.vm ∧ Qa st₀ (.returned v) t ∧
      Goes p e below T g T' { g with pc := g.pc + 3, stack := v.toList ++ rest }) ∨
    (∃ (q : Addr) (st₀ t T' : State) (L : List Loc) (E : String) (ce : Cell), st₀.heap = H ∧ Stand p l e R s m args below meth c T' (locs ++ L) (cells + mc) (slots + ms) ∧ (∀ z ∈ L, free z.base) ∧ T'.heap = t.heap ∧ T'.vm = t.vm ∧ XC E st₀ t ∧ t.heap[q]? = some ce ∧ ce.vm = .none ∧ s.vm.findClass E = some ce.cls ∧
      Steps p.tables e below (T.setTop g) ((T'.setTop { g with stack := rest }).pushFrame (.throwing q)))
def vx_X {S : Type} (px : S → Prop) (B : String → S → State → Prop) (A : Nat → Prop) : String → State → State → Prop := fun E st t => ∃ u : S, px u ∧ B E u t ∧ va_F A st t
section Runs
variable {p : Program} {l : Launch} {e : Env} {R : Room} {s : State} {m : MethodId} {args : Array Value} {below : List Frame} {meth : Method} {c : Code} {H : Heap} {locs : List Loc} {cells slots : Nat}
variable {y : MethodName} {bytes cc : ByteArray} {maxL nL mc ms n index : Nat} {ret : Option FieldType} {ws : List Cond} {rm : Room} {Pc : Array Value → State → Prop} {Qc : Array Value → State → Outcome → State → Prop} {XC : String → State → State → Prop} {free : Addr → Prop} {Ts : List Cond} {own C : String} {b : Addr} {As rest : List Value} {g : JFrame}
theorem vx_callBack (cb : CallB R s args own index y bytes maxL ret ws rm mc ms n) (hM : vx_Met l y ws rm Pc Qc XC mc ms free) (hbl : FrameBlind Pc) : vx_Back l R p e below s args y 3 8 (PreOf R mc ms Pc) (PostOf Qc mc ms free) (vx_Post XC mc ms free) := by
  obtain ⟨hrc, hrs, hfr, hlo, hws, hcw, -, hini, -⟩ := cb
  exact vx_back (bytes := bytes) (maxL := maxL) (ret := ret) hM hbl hrc hrs hfr hlo hws hcw (fun a' U hW => word_at hW (Or.inl (by first | rfl | simp [Cond.onTables, Cond.keeps, Cond.steady])) hini)
theorem vx_runV (S : CallFix p m c cc nL s args Ts own) (hM : vx_Met l y ws rm Pc Qc XC mc ms free) (cw : CallW R s args own C index y bytes maxL ret ws rm mc ms n) (hp : PreV s H C b Pc As)
    (hg : g.method = m) (hn : As.length = n) (hsize : g.locals.size = nL) (hstack : g.stack = As.reverse ++ .ref b :: rest) (hW : 2 * g.monitorRoom + (rest.map fun v => v.category).sum ≤ 8) (hdg : decode cc g.pc = .ok (.invokevirtual index, 3)) (hf : cells + mc ≤ R.cells ∧ slots + ms ≤ R.slots) :
    vx_Run p l e R s m args below meth c H locs cells slots mc ms g rest (Qc (Value.ref b :: As).toArray) XC free := by
  have hK : vx_Back l R p e below s args y 3 8 (PreOf R mc ms Pc) (PostOf Qc mc ms free) (vx_Post XC mc ms free) := vx_callBack cw.1 hM hp.1
  obtain ⟨⟨-, -, -, -, -, -, hcode, -, hy, hlen, hl⟩, hin, hse⟩ := cw
  obtain ⟨hx, hb, hml, ho, -⟩ := S
  obtain ⟨-, ⟨cellB, hcB, hoB, hclB⟩, hPc⟩ := hp
  intro T hT X
  rcases vx_callV X hx (C := C) (bytes := bytes) (maxL := maxL) (ret := ret) ho hl hin hse hcode hy hK (by rw [hT]; exact hcB) hoB hclB hg (hsize.trans hml.symm) (argsL := As) (rest := rest) (fun sig h => hn.trans (hlen sig h)) hstack hW (by rw [hb]; exact hdg)
    (fun vm₁ hW₁ => ⟨hf.1, hf.2, hPc (T.setVm vm₁) hT hW₁⟩) with ⟨v, vm₁, ⟨U', l2, c2, s2⟩, hW₁, X', ⟨g', mk, t, L, e1, e2, hq, h1, hL, h2, h3⟩, st⟩ | ⟨q, vm₁, ⟨U', l2, c2, s2⟩, hW₁, X', ⟨g', mk, t, L, E, ce, e1, e2, hq, hce, hcv, hcl, h1, hL, h2, h3⟩, st⟩
  · dsimp only [Pt.U, Pt.locs, Pt.cells, Pt.slots] at X' e1 e2 h1 h2 h3 st
    subst h1; subst h2; subst h3
    exact Or.inl ⟨v, (T.setVm vm₁).calling g' mk (Value.ref b :: As).toArray, t, U', L, hT, X', hL, e1, e2, hq, st⟩
  · dsimp only [Pt.U, Pt.locs, Pt.cells, Pt.slots] at X' e1 e2 h1 h2 h3 st hcl
    subst h1; subst h2; subst h3
    exact Or.inr ⟨q, (T.setVm vm₁).calling g' mk (Value.ref b :: As).toArray, t, U', L, E, ce, hT, X', hL, e1, e2, hq, hce, hcv, vx_cls hW₁ hcl, st⟩
theorem vx_runS (S : CallFix p m c cc nL s args Ts own) (hM : vx_Met l y ws rm Pc Qc XC mc ms free) (cw : CallB R s args own index y bytes maxL ret ws rm mc ms n ∧ (Cond.static y).before args s = true) (hp : PreS s H Pc As)
    (hg : g.method = m) (hn : As.length = n) (hsize : g.locals.size = nL) (hstack : g.stack = As.reverse ++ rest) (hW : 2 * g.monitorRoom + (rest.map fun v => v.category).sum ≤ 8) (hdg : decode cc g.pc = .ok (.invokestatic index, 3)) (hf : cells + mc ≤ R.cells ∧ slots + ms ≤ R.slots) :
    vx_Run p l e R s m args below meth c H locs cells slots mc ms g rest (Qc As.toArray) XC free := by
  have hK : vx_Back l R p e below s args y 3 8 (PreOf R mc ms Pc) (PostOf Qc mc ms free) (vx_Post XC mc ms free) := vx_callBack cw.1 hM hp.1
  obtain ⟨⟨-, -, -, -, -, -, hcode, hini, hy, hlen, hl⟩, hstt⟩ := cw
  obtain ⟨hx, hb, hml, ho, -⟩ := S
  intro T hT X
  rcases vx_callS X hx (bytes := bytes) (maxL := maxL) (ret := ret) ho hl hstt hini hcode hy hK hg (hsize.trans hml.symm) (argsL := As) (rest := rest) (fun sig h => hn.trans (hlen sig h)) hstack hW (by rw [hb]; exact hdg)
    (fun vm₁ hW₁ => ⟨hf.1, hf.2, hp.2 (T.setVm vm₁) hT hW₁⟩) with ⟨v, vm₁, ⟨U', l2, c2, s2⟩, hW₁, X', ⟨g', mk, t, L, e1, e2, hq, h1, hL, h2, h3⟩, st⟩ | ⟨q, vm₁, ⟨U', l2, c2, s2⟩, hW₁, X', ⟨g', mk, t, L, E, ce, e1, e2, hq, hce, hcv, hcl, h1, hL, h2, h3⟩, st⟩
  · dsimp only [Pt.U, Pt.locs, Pt.cells, Pt.slots] at X' e1 e2 h1 h2 h3 st
    subst h1; subst h2; subst h3
    exact Or.inl ⟨v, (T.setVm vm₁).calling g' mk As.toArray, t, U', L, hT, X', hL, e1, e2, hq, st⟩
  · dsimp only [Pt.U, Pt.locs, Pt.cells, Pt.slots] at X' e1 e2 h1 h2 h3 st hcl
    subst h1; subst h2; subst h3
    exact Or.inr ⟨q, (T.setVm vm₁).calling g' mk As.toArray, t, U', L, E, ce, hT, X', hL, e1, e2, hq, hce, hcv, vx_cls hW₁ hcl, st⟩
end Runs
section Rows
variable {p : Program} {l : Launch} {e : Env} {R : Room} {s : State} {m : MethodId} {args : Array Value} {below : List Frame} {meth : Method} {c : Code} {H : Heap} {locs : List Loc} {cells slots : Nat} {Q : State → Prop}
variable {mc ms : Nat} {free : Addr → Prop} {A0 A1 : Nat → Prop} {H0 : Heap} {a : Array Value} {pc : Nat} {ls : Array Slot} {st0 rest : List Value}
theorem vx_keep {st₀ t T' : State} {L : List Loc} (h0 : st₀.heap = H) (e1 : T'.heap = t.heap) (hS : va_S A0 H0 H locs) (hA : ∀ q, q < H.size → A1 q → A0 q) (hf : ∀ q, free q → A0 q) (hL : ∀ q ∈ L, free q.base) (hF : va_F A1 st₀ t) :
    H.size ≤ T'.heap.size ∧ (∀ q : Nat, q < H.size → ¬ A1 q → T'.heap[q]? = H[q]?) ∧ va_S A0 H0 T'.heap (locs ++ L) := by
  obtain ⟨hz, hk⟩ := hF
  rw [h0] at hz hk
  exact ⟨by rw [e1]; exact hz, fun q h1 h2 => by rw [e1]; exact hk q h1 h2,
    ⟨Nat.le_trans hS.1 (by rw [e1]; exact hz), fun q h1 h2 => by rw [e1, hk q (Nat.lt_of_lt_of_le h1 hS.1) (fun z => h2 (hA q (Nat.lt_of_lt_of_le h1 hS.1) z))]; exact hS.2.1 q h1 h2, fun q hq => by
      rcases List.mem_append.mp hq with h | h
      · exact hS.2.2 q h
      · exact hf _ (hL q h)⟩⟩
theorem vx_calli {S SX : Type} {post : Int32 → S → Prop} {px : SX → Prop} {B : S → State → Prop} {BX : String → SX → State → Prop} {AX : Nat → Prop} (hr : vx_Run p l e R s m args below meth c H locs cells slots mc ms (F0 m pc ls st0) rest (va_Qi post B A1 a) (vx_X px BX AX) free) (hS : va_S A0 H0 H locs) (hA : ∀ q, q < H.size → A1 q → A0 q) (hf : ∀ q, free q → A0 q) (hAX : ∀ q, q < H.size → AX q → A0 q)
    (kx : ∀ (E : String) (ce : Cell) (q9 : Addr) (u : SX) (t : State) (H1 : Heap) (locs1 : List Loc), t.heap = H1 → s.vm.Alike t.vm → px u → BX E u t → H.size ≤ H1.size → (∀ q : Nat, q < H.size → ¬ AX q → H1[q]? = H[q]?) → va_S A0 H0 H1 locs1 → H1[q9]? = some ce → ce.vm = .none → s.vm.findClass E = some ce.cls → vx_W p l e R s m args below meth c H1 locs1 (cells + mc) (slots + ms) Q (F0 m pc ls rest) q9)
    (kk : ∀ (r : Int32) (u : S) (t : State) (H1 : Heap) (locs1 : List Loc), t.heap = H1 → s.vm.Alike t.vm → post r u → B u t → H.size ≤ H1.size → (∀ q : Nat, q < H.size → ¬ A1 q → H1[q]? = H[q]?) → va_S A0 H0 H1 locs1 → W p l e R s m args below meth c H1 locs1 (cells + mc) (slots + ms) Q (F0 m (pc + 3) ls (.int r :: rest))) : W p l e R s m args below meth c H locs cells slots Q (F0 m pc ls st0) := by
  intro T hT X
  rcases hr T hT X with ⟨v, st₀, t, T', L, h0, X', hL, e1, e2, ⟨⟨r, u, hv, hp, hb⟩, hF⟩, st⟩ | ⟨q, st₀, t, T', L, E, ce, h0, X', hL, e1, e2, ⟨u, hp, hb, hF⟩, hce, hcv, hcl, st⟩
  · cases hv
    obtain ⟨k1, k2, k3⟩ := vx_keep h0 e1 hS hA hf hL hF
    obtain ⟨t2, a1, b1⟩ := kk r u t T'.heap (locs ++ L) e1.symm (by rw [← e2]; exact X'.warmed.alike) hp hb k1 k2 k3 T' rfl X'
    exact ⟨t2, st t2 a1, b1⟩
  · obtain ⟨k1, k2, k3⟩ := vx_keep h0 e1 hS hAX hf hL hF
    obtain ⟨t2, a1, b1⟩ := kx E ce q u t T'.heap (locs ++ L) e1.symm (by rw [← e2]; exact X'.warmed.alike) hp hb k1 k2 k3 (by rw [e1]; exact hce) hcv hcl T' rfl X'
    exact ⟨t2, st.trans a1, b1⟩
theorem vx_calll {S SX : Type} {post : Int64 → S → Prop} {px : SX → Prop} {B : S → State → Prop} {BX : String → SX → State → Prop} {AX : Nat → Prop} (hr : vx_Run p l e R s m args below meth c H locs cells slots mc ms (F0 m pc ls st0) rest (va_Ql post B A1 a) (vx_X px BX AX) free) (hS : va_S A0 H0 H locs) (hA : ∀ q, q < H.size → A1 q → A0 q) (hf : ∀ q, free q → A0 q) (hAX : ∀ q, q < H.size → AX q → A0 q)
    (kx : ∀ (E : String) (ce : Cell) (q9 : Addr) (u : SX) (t : State) (H1 : Heap) (locs1 : List Loc), t.heap = H1 → s.vm.Alike t.vm → px u → BX E u t → H.size ≤ H1.size → (∀ q : Nat, q < H.size → ¬ AX q → H1[q]? = H[q]?) → va_S A0 H0 H1 locs1 → H1[q9]? = some ce → ce.vm = .none → s.vm.findClass E = some ce.cls → vx_W p l e R s m args below meth c H1 locs1 (cells + mc) (slots + ms) Q (F0 m pc ls rest) q9)
    (kk : ∀ (r : Int64) (u : S) (t : State) (H1 : Heap) (locs1 : List Loc), t.heap = H1 → s.vm.Alike t.vm → post r u → B u t → H.size ≤ H1.size → (∀ q : Nat, q < H.size → ¬ A1 q → H1[q]? = H[q]?) → va_S A0 H0 H1 locs1 → W p l e R s m args below meth c H1 locs1 (cells + mc) (slots + ms) Q (F0 m (pc + 3) ls (.long r :: rest))) : W p l e R s m args below meth c H locs cells slots Q (F0 m pc ls st0) := by
  intro T hT X
  rcases hr T hT X with ⟨v, st₀, t, T', L, h0, X', hL, e1, e2, ⟨⟨r, u, hv, hp, hb⟩, hF⟩, st⟩ | ⟨q, st₀, t, T', L, E, ce, h0, X', hL, e1, e2, ⟨u, hp, hb, hF⟩, hce, hcv, hcl, st⟩
  · cases hv
    obtain ⟨k1, k2, k3⟩ := vx_keep h0 e1 hS hA hf hL hF
    obtain ⟨t2, a1, b1⟩ := kk r u t T'.heap (locs ++ L) e1.symm (by rw [← e2]; exact X'.warmed.alike) hp hb k1 k2 k3 T' rfl X'
    exact ⟨t2, st t2 a1, b1⟩
  · obtain ⟨k1, k2, k3⟩ := vx_keep h0 e1 hS hAX hf hL hF
    obtain ⟨t2, a1, b1⟩ := kx E ce q u t T'.heap (locs ++ L) e1.symm (by rw [← e2]; exact X'.warmed.alike) hp hb k1 k2 k3 (by rw [e1]; exact hce) hcv hcl T' rfl X'
    exact ⟨t2, st.trans a1, b1⟩
theorem vx_callf {S SX : Type} {post : UInt32 → S → Prop} {px : SX → Prop} {B : S → State → Prop} {BX : String → SX → State → Prop} {AX : Nat → Prop} (hr : vx_Run p l e R s m args below meth c H locs cells slots mc ms (F0 m pc ls st0) rest (va_Qf post B A1 a) (vx_X px BX AX) free) (hS : va_S A0 H0 H locs) (hA : ∀ q, q < H.size → A1 q → A0 q) (hf : ∀ q, free q → A0 q) (hAX : ∀ q, q < H.size → AX q → A0 q)
    (kx : ∀ (E : String) (ce : Cell) (q9 : Addr) (u : SX) (t : State) (H1 : Heap) (locs1 : List Loc), t.heap = H1 → s.vm.Alike t.vm → px u → BX E u t → H.size ≤ H1.size → (∀ q : Nat, q < H.size → ¬ AX q → H1[q]? = H[q]?) → va_S A0 H0 H1 locs1 → H1[q9]? = some ce → ce.vm = .none → s.vm.findClass E = some ce.cls → vx_W p l e R s m args below meth c H1 locs1 (cells + mc) (slots + ms) Q (F0 m pc ls rest) q9)
    (kk : ∀ (r : UInt32) (u : S) (t : State) (H1 : Heap) (locs1 : List Loc), t.heap = H1 → s.vm.Alike t.vm → post r u → B u t → H.size ≤ H1.size → (∀ q : Nat, q < H.size → ¬ A1 q → H1[q]? = H[q]?) → va_S A0 H0 H1 locs1 → W p l e R s m args below meth c H1 locs1 (cells + mc) (slots + ms) Q (F0 m (pc + 3) ls (.float r :: rest))) : W p l e R s m args below meth c H locs cells slots Q (F0 m pc ls st0) := by
  intro T hT X
  rcases hr T hT X with ⟨v, st₀, t, T', L, h0, X', hL, e1, e2, ⟨⟨r, u, hv, hp, hb⟩, hF⟩, st⟩ | ⟨q, st₀, t, T', L, E, ce, h0, X', hL, e1, e2, ⟨u, hp, hb, hF⟩, hce, hcv, hcl, st⟩
  · cases hv
    obtain ⟨k1, k2, k3⟩ := vx_keep h0 e1 hS hA hf hL hF
    obtain ⟨t2, a1, b1⟩ := kk r u t T'.heap (locs ++ L) e1.symm (by rw [← e2]; exact X'.warmed.alike) hp hb k1 k2 k3 T' rfl X'
    exact ⟨t2, st t2 a1, b1⟩
  · obtain ⟨k1, k2, k3⟩ := vx_keep h0 e1 hS hAX hf hL hF
    obtain ⟨t2, a1, b1⟩ := kx E ce q u t T'.heap (locs ++ L) e1.symm (by rw [← e2]; exact X'.warmed.alike) hp hb k1 k2 k3 (by rw [e1]; exact hce) hcv hcl T' rfl X'
    exact ⟨t2, st.trans a1, b1⟩
theorem vx_calld {S SX : Type} {post : UInt64 → S → Prop} {px : SX → Prop} {B : S → State → Prop} {BX : String → SX → State → Prop} {AX : Nat → Prop} (hr : vx_Run p l e R s m args below meth c H locs cells slots mc ms (F0 m pc ls st0) rest (va_Qd post B A1 a) (vx_X px BX AX) free) (hS : va_S A0 H0 H locs) (hA : ∀ q, q < H.size → A1 q → A0 q) (hf : ∀ q, free q → A0 q) (hAX : ∀ q, q < H.size → AX q → A0 q)
    (kx : ∀ (E : String) (ce : Cell) (q9 : Addr) (u : SX) (t : State) (H1 : Heap) (locs1 : List Loc), t.heap = H1 → s.vm.Alike t.vm → px u → BX E u t → H.size ≤ H1.size → (∀ q : Nat, q < H.size → ¬ AX q → H1[q]? = H[q]?) → va_S A0 H0 H1 locs1 → H1[q9]? = some ce → ce.vm = .none → s.vm.findClass E = some ce.cls → vx_W p l e R s m args below meth c H1 locs1 (cells + mc) (slots + ms) Q (F0 m pc ls rest) q9)
    (kk : ∀ (r : UInt64) (u : S) (t : State) (H1 : Heap) (locs1 : List Loc), t.heap = H1 → s.vm.Alike t.vm → post r u → B u t → H.size ≤ H1.size → (∀ q : Nat, q < H.size → ¬ A1 q → H1[q]? = H[q]?) → va_S A0 H0 H1 locs1 → W p l e R s m args below meth c H1 locs1 (cells + mc) (slots + ms) Q (F0 m (pc + 3) ls (.double r :: rest))) : W p l e R s m args below meth c H locs cells slots Q (F0 m pc ls st0) := by
  intro T hT X
  rcases hr T hT X with ⟨v, st₀, t, T', L, h0, X', hL, e1, e2, ⟨⟨r, u, hv, hp, hb⟩, hF⟩, st⟩ | ⟨q, st₀, t, T', L, E, ce, h0, X', hL, e1, e2, ⟨u, hp, hb, hF⟩, hce, hcv, hcl, st⟩
  · cases hv
    obtain ⟨k1, k2, k3⟩ := vx_keep h0 e1 hS hA hf hL hF
    obtain ⟨t2, a1, b1⟩ := kk r u t T'.heap (locs ++ L) e1.symm (by rw [← e2]; exact X'.warmed.alike) hp hb k1 k2 k3 T' rfl X'
    exact ⟨t2, st t2 a1, b1⟩
  · obtain ⟨k1, k2, k3⟩ := vx_keep h0 e1 hS hAX hf hL hF
    obtain ⟨t2, a1, b1⟩ := kx E ce q u t T'.heap (locs ++ L) e1.symm (by rw [← e2]; exact X'.warmed.alike) hp hb k1 k2 k3 (by rw [e1]; exact hce) hcv hcl T' rfl X'
    exact ⟨t2, st.trans a1, b1⟩
theorem vx_callv {S SX : Type} {post : S → Prop} {px : SX → Prop} {B : S → State → Prop} {BX : String → SX → State → Prop} {AX : Nat → Prop} (hr : vx_Run p l e R s m args below meth c H locs cells slots mc ms (F0 m pc ls st0) rest (va_Qv post B A1 a) (vx_X px BX AX) free) (hS : va_S A0 H0 H locs) (hA : ∀ q, q < H.size → A1 q → A0 q) (hf : ∀ q, free q → A0 q) (hAX : ∀ q, q < H.size → AX q → A0 q)
    (kx : ∀ (E : String) (ce : Cell) (q9 : Addr) (u : SX) (t : State) (H1 : Heap) (locs1 : List Loc), t.heap = H1 → s.vm.Alike t.vm → px u → BX E u t → H.size ≤ H1.size → (∀ q : Nat, q < H.size → ¬ AX q → H1[q]? = H[q]?) → va_S A0 H0 H1 locs1 → H1[q9]? = some ce → ce.vm = .none → s.vm.findClass E = some ce.cls → vx_W p l e R s m args below meth c H1 locs1 (cells + mc) (slots + ms) Q (F0 m pc ls rest) q9)
    (kk : ∀ (u : S) (t : State) (H1 : Heap) (locs1 : List Loc), t.heap = H1 → s.vm.Alike t.vm → post u → B u t → H.size ≤ H1.size → (∀ q : Nat, q < H.size → ¬ A1 q → H1[q]? = H[q]?) → va_S A0 H0 H1 locs1 → W p l e R s m args below meth c H1 locs1 (cells + mc) (slots + ms) Q (F0 m (pc + 3) ls (rest))) : W p l e R s m args below meth c H locs cells slots Q (F0 m pc ls st0) := by
  intro T hT X
  rcases hr T hT X with ⟨v, st₀, t, T', L, h0, X', hL, e1, e2, ⟨⟨u, hv, hp, hb⟩, hF⟩, st⟩ | ⟨q, st₀, t, T', L, E, ce, h0, X', hL, e1, e2, ⟨u, hp, hb, hF⟩, hce, hcv, hcl, st⟩
  · cases hv
    obtain ⟨k1, k2, k3⟩ := vx_keep h0 e1 hS hA hf hL hF
    obtain ⟨t2, a1, b1⟩ := kk u t T'.heap (locs ++ L) e1.symm (by rw [← e2]; exact X'.warmed.alike) hp hb k1 k2 k3 T' rfl X'
    exact ⟨t2, st t2 a1, b1⟩
  · obtain ⟨k1, k2, k3⟩ := vx_keep h0 e1 hS hAX hf hL hF
    obtain ⟨t2, a1, b1⟩ := kx E ce q u t T'.heap (locs ++ L) e1.symm (by rw [← e2]; exact X'.warmed.alike) hp hb k1 k2 k3 (by rw [e1]; exact hce) hcv hcl T' rfl X'
    exact ⟨t2, st.trans a1, b1⟩
/-- caught by the row x of this method's table; the rows ahead don't take it -/
theorem vx_catch {own name : String} {E : String} {ce : Cell} {q : Addr} (hown : s.vm.findClass own = some m.cls) (pre : List ExceptionTableEntry) (x : ExceptionTableEntry) (suf : List ExceptionTableEntry) (hsplit : c.exceptionTable.toList = pre ++ x :: suf)
    (hpass : ∀ z ∈ pre, covers z pc = false ∨ (z.catchType ≠ 0 ∧ ∃ nm : String, (Cond.classLink own z.catchType nm).before args s = true ∧ va_Nc E nm s)) (hx : covers x pc = true) (h0 : x.catchType ≠ 0)
    (hlink : (Cond.classLink own x.catchType name).before args s = true) (hcast : (Cond.castable E name).before args s = true) (hcell : H[q]? = some ce) (hv : ce.vm = .none) (hcl : s.vm.findClass E = some ce.cls)
    (kk : W p l e R s m args below meth c H locs cells slots Q (F0 m x.handlerPc ls [.ref q])) : vx_W p l e R s m args below meth c H locs cells slots Q (F0 m pc ls rest) q := by
  intro T hT X
  have hpl : e.platform.magicAccessors = ({} : Platform).magicAccessors := by rw [X.admits.platform]
  obtain ⟨c3, c4, hc3, hc4, hasg⟩ := Cond.castable_spec hcast
  cases Option.some.inj (hc3.symm.trans hcl)
  obtain ⟨c5, hc5, hcl5⟩ := Cond.classLink_spec hown hlink e.platform hpl
  cases Option.some.inj (hc4.symm.trans hc5)
  obtain ⟨vm', X', st⟩ := X.thenCaughtThrough q (g := F0 m pc ls rest) rfl (Steps.refl _) (by rw [hT]; exact hcell) (by rw [hv]; rfl) (by obtain ⟨k9, h9, -⟩ := Vm.findClass_spec hcl; exact ⟨k9, h9⟩) pre x suf hsplit
    (fun z hz => by
      rcases hpass z hz with h | ⟨hz0, nm, hl1, hn1⟩
      · exact Or.inl h
      · obtain ⟨c6, hc6, hcl6⟩ := Cond.classLink_spec hown hl1 e.platform hpl
        obtain ⟨a8, b8, h1, h2, h3⟩ := hn1
        cases Option.some.inj (h1.symm.trans hcl)
        cases Option.some.inj (h2.symm.trans hc6)
        exact Or.inr ⟨hz0, _, hcl6, h3⟩) hx (Or.inr ⟨h0, c4, hcl5, hasg⟩)
  obtain ⟨t, a1, b1⟩ := kk (T.setVm vm') hT X'
  exact ⟨t, st.trans a1, b1⟩
end Rows
section Ends
variable {p : Program} {l : Launch} {e : Env} {R : Room} {s : State} {m : MethodId} {args : Array Value} {below : List Frame} {meth : Method} {c : Code} {H : Heap} {locs : List Loc} {cells slots : Nat} {Q : State → Prop}
variable {mc ms : Nat} {free : Addr → Prop} {A0 A1 : Nat → Prop} {H0 : Heap} {a : Array Value} {ls : Array Slot} {st0 rest : List Value}
variable {Qc : Array Value → State → Outcome → State → Prop} {XC : String → State → State → Prop}
/-- what a body that may throw owes at its end -/
def vx_MQ (below : List Frame) (Qc : Array Value → State → Outcome → State → Prop) (XC : String → State → State → Prop) (a : Array Value) (s : State) (mc ms : Nat) (free : Addr → Prop) : State → Prop := fun t =>
  ∃ o, t.status = .running ∧ Ended t below o ∧ vx_Q Qc XC mc ms free a s o t
theorem vx_ret {g : JFrame} {mc ms : Nat} (k : W p l e R s m args below meth c H locs cells slots (MQ below Qc args s mc ms free) g) : W p l e R s m args below meth c H locs cells slots (vx_MQ below Qc XC args s mc ms free) g := by
  intro T hT X
  obtain ⟨t, a1, o, b1, b2, b3, b4⟩ := k T hT X
  exact ⟨t, a1, o, b1, b2, Or.inl ⟨b3, b4⟩⟩
/-- not caught here: it goes on to the caller -/
theorem vx_widen {g : JFrame} {q : Addr} {k n : Nat} (h1 : cells ≤ k) (h2 : slots ≤ n) (kk : vx_W p l e R s m args below meth c H locs k n Q g q) : vx_W p l e R s m args below meth c H locs cells slots Q g q := fun T hT X => kk T hT (stand_widen X h1 h2)
theorem vx_out {pc : Nat} {E : String} {ce : Cell} {q : Addr} {mc ms : Nat} (hout : ∀ x ∈ c.exceptionTable.toList, covers x pc = false) (hlocks : meth.locks = false) (hcell : H[q]? = some ce) (hv : ce.vm = .none) (hcl : s.vm.findClass E = some ce.cls)
    (hx : ∀ t : State, t.heap = H → s.vm.Alike t.vm → XC E s t) (hf : ∀ z ∈ locs, free z.base) (hc : cells ≤ mc) (hs : slots ≤ ms) :
    vx_W p l e R s m args below meth c H locs cells slots (vx_MQ below Qc XC args s mc ms free) (F0 m pc ls rest) q := by
  intro T hT X
  obtain ⟨st1, hrun, hend, hW, hsm⟩ := X.leaveThrown q (g := F0 m pc ls rest) rfl rfl rfl hout hlocks
  have hcell9 : (T.setFrames (.throwing q :: below)).heap[q]? = some ce := by
    show T.heap[q]? = some ce
    rw [hT]; exact hcell
  exact ⟨_, st1, .threw q, hrun, hend, Or.inr ⟨q, rfl, E, ce, locs, hx _ hT hW.alike, hcell9, hv, hcl, hW, hsm.mono hc hs, hf⟩⟩
theorem vx_frame {U : State} {k n : Nat} (h : s.sameButNew ({ U with vm := s.vm } : State) locs k n) : s.heap.size ≤ U.heap.size ∧ ∀ q : Nat, q < s.heap.size → (∀ z ∈ locs, z.base ≠ q) → U.heap[q]? = s.heap[q]? := by
  obtain ⟨-, h2, -, -, -, h6⟩ := h
  refine ⟨h2, fun q hq hz => ?_⟩
  obtain ⟨c9, e1, e2, e3, e4⟩ := h6 q _ (Array.getElem?_eq_getElem hq)
  have hs : c9.slots = (s.heap[q]).slots := Array.ext_getElem? fun i => e4 i fun hm => hz _ hm rfl
  have h9 : c9 = s.heap[q] := by
    rw [hs] at e2
    exact e2
  have e5 : U.heap[q]? = some c9 := e1
  rw [e5, h9, Array.getElem?_eq_getElem hq]
/-- the words of a throw but the four that speak of the heap -/
def vx_no (w : Cond) : Bool := decide (w ≠ .isRef (.static Bundle.tN "UNASSIGNED_STACK" Bundle.steD)) && decide (w ≠ .isRef (.static Bundle.tN "SUPPRESSED_SENTINEL" Bundle.listD)) && decide (w ≠ .laysStatic Bundle.tN "UNASSIGNED_STACK" Bundle.steD) && decide (w ≠ .laysStatic Bundle.tN "SUPPRESSED_SENTINEL" Bundle.listD)
def vx_at0 (own : String) (ic : Nat) (X : String) (names : List String) : List Cond := (Bundle.ownAtoms0 own ic X names).filter vx_no
def vx_atS (own : String) (ic : Nat) (X : String) (names : List String) : List Cond := (Bundle.ownAtoms own ic X names).filter vx_no
/-- a word that the tables alone decide, or a good one -/
def vx_ot (w : Cond) : Bool := w.onTables || goodWord w
theorem vx_ot_at {args a' : Array Value} {s U : State} {w : Cond} (hW : s.WarmedH U.vm) (hvm : s.vm = U.vm) (hg : vx_ot w = true) (h : w.before args s = true) : w.before a' U = true := by
  simp only [vx_ot, Bool.or_eq_true] at hg
  rcases hg with hg | hg
  · exact va_tabs hg hvm h
  · exact word_at hW (good_of_word hg) h
/-- a list's words: the good ones out of the method's own list, the others by premises of their own -/
theorem vx_hat {args : Array Value} {s : State} {L B : List Cond} (h1 : ∀ w ∈ L.filter goodWord, w.before args s = true) (h2 : ∀ w ∈ L.filter (fun w => !goodWord w), w ∈ B) (h3 : ∀ w ∈ B, w.before args s = true) : ∀ w ∈ L, w.before args s = true := by
  intro w hw
  by_cases g : goodWord w = true
  · exact h1 w (List.mem_filter.mpr ⟨hw, g⟩)
  · refine h3 w (h2 w (List.mem_filter.mpr ⟨hw, ?_⟩))
    show (!goodWord w) = true
    cases hgw : goodWord w
    · rfl
    · exact absurd hgw g
theorem vx_c {args : Array Value} {s : State} {w : Cond} {B : List Cond} (h : w.before args s = true) (t : ∀ w ∈ B, w.before args s = true) : ∀ w' ∈ w :: B, w'.before args s = true := fun w' h' => (List.mem_cons.mp h').elim (fun e => by rw [e]; exact h) (t w')
theorem vx_n {args : Array Value} {s : State} : ∀ w ∈ ([] : List Cond), w.before args s = true := fun _ h => nomatch h
theorem vx_own {args : Array Value} {s : State} {L : List Cond} (h1 : ∀ w ∈ L.filter vx_no, w.before args s = true)
    (hU : (Cond.isRef (.static Bundle.tN "UNASSIGNED_STACK" Bundle.steD)).before args s = true) (hN : (Cond.isRef (.static Bundle.tN "SUPPRESSED_SENTINEL" Bundle.listD)).before args s = true)
    (lU : (Cond.laysStatic Bundle.tN "UNASSIGNED_STACK" Bundle.steD).before args s = true) (lN : (Cond.laysStatic Bundle.tN "SUPPRESSED_SENTINEL" Bundle.listD).before args s = true) : ∀ w ∈ L, w.before args s = true := by
  intro w hw
  by_cases e1 : w = .isRef (.static Bundle.tN "UNASSIGNED_STACK" Bundle.steD)
  · rw [e1]; exact hU
  · by_cases e2 : w = .isRef (.static Bundle.tN "SUPPRESSED_SENTINEL" Bundle.listD)
    · rw [e2]; exact hN
    · by_cases e3 : w = .laysStatic Bundle.tN "UNASSIGNED_STACK" Bundle.steD
      · rw [e3]; exact lU
      · by_cases e4 : w = .laysStatic Bundle.tN "SUPPRESSED_SENTINEL" Bundle.listD
        · rw [e4]; exact lN
        · exact h1 w (List.mem_filter.mpr ⟨hw, by unfold vx_no; rw [decide_eq_true e1, decide_eq_true e2, decide_eq_true e3, decide_eq_true e4]; rfl⟩)
/-- where a static field lies, its class's statics cell in H -/
def vx_L (C n d : String) (A : Nat → Prop) (U : State) (H : Heap) : Prop := ∃ (c : ClassId) (k : Class) (i : Nat) (f : Field) (a : Nat) (cell : Cell), U.vm.findClass C = some c ∧ U.fieldFound? C n d = some (c, k, i, f) ∧ f.isStatic = true ∧ k.statics = some a ∧ H[a]? = some cell ∧ cell.vm.isStatics = true ∧ cell.cls = c ∧ f.slot < cell.slots.size ∧ k.staticTypes[f.slot]? = some f.type ∧ ¬ A a
theorem vx_L.moved {C n d : String} {A : Nat → Prop} {u U : State} {H : Heap} (hvm : u.vm.Alike U.vm) (h : vx_L C n d A u H) : vx_L C n d A U H := by
  obtain ⟨c, k, i, f, a, cell, h1, h2, h3, h4, h5, h6, h7, h8, h9, h10⟩ := h
  obtain ⟨k', hi', he⟩ := State.fieldFound?_setVm hvm h2
  exact ⟨c, k', i, f, a, cell, by rw [hvm.findClass]; exact h1, hi', h3, by rw [he]; exact h4, h5, h6, h7, h8, by rw [he]; exact h9, h10⟩
theorem vx_L.kept {C n d : String} {A : Nat → Prop} {U : State} {H H1 : Heap} (h : vx_L C n d A U H) (hq : ∀ a : Nat, a < H.size → ¬ A a → H1[a]? = H[a]?) : vx_L C n d A U H1 := by
  obtain ⟨c, k, i, f, a, cell, h1, h2, h3, h4, h5, h6, h7, h8, h9, h10⟩ := h
  exact ⟨c, k, i, f, a, cell, h1, h2, h3, h4, by rw [hq a (Array.getElem?_eq_some_iff.mp h5).1 h10]; exact h5, h6, h7, h8, h9, h10⟩
theorem vx_L.narrow {C n d : String} {A B : Nat → Prop} {U : State} {H : Heap} (h : vx_L C n d A U H) (hAB : ∀ q, B q → A q) : vx_L C n d B U H := by
  obtain ⟨c, k, i, f, a, cell, h1, h2, h3, h4, h5, h6, h7, h8, h9, h10⟩ := h
  exact ⟨c, k, i, f, a, cell, h1, h2, h3, h4, h5, h6, h7, h8, h9, fun z => h10 (hAB _ z)⟩
theorem vx_L.word {C n d : String} {A : Nat → Prop} {s : State} {args : Array Value} (h : vx_L C n d A s s.heap) : (Cond.laysStatic C n d).before args s = true := by
  obtain ⟨c, k, i, f, a, cell, h1, h2, h3, h4, h5, h6, h7, h8, h9, -⟩ := h
  show (Cond.laysStatic C n d).holds args s none s [] = true
  exact Cond.laysStatic_of h1 h2 h3 h4 h5 h6 h7 h8 h9
/-- .. and what it holds: null or some reference -/
def vx_Zq (C n d : String) (A : Nat → Prop) (U : State) (H : Heap) : Prop := va_Zq C n d A U H ∧ vx_L C n d A U H
theorem vx_Zq.moved {C n d : String} {A : Nat → Prop} {u U : State} {H : Heap} (hvm : u.vm.Alike U.vm) (h : vx_Zq C n d A u H) : vx_Zq C n d A U H := ⟨va_Zq.moved hvm h.1, vx_L.moved hvm h.2⟩
theorem vx_Zq.kept {C n d : String} {A : Nat → Prop} {U : State} {H H1 : Heap} (h : vx_Zq C n d A U H) (hq : ∀ a : Nat, a < H.size → ¬ A a → H1[a]? = H[a]?) : vx_Zq C n d A U H1 := ⟨va_Zq.kept h.1 hq, vx_L.kept h.2 hq⟩
theorem vx_Zq.narrow {C n d : String} {A B : Nat → Prop} {U : State} {H : Heap} (h : vx_Zq C n d A U H) (hAB : ∀ q, B q → A q) : vx_Zq C n d B U H := ⟨va_Zq.narrow h.1 hAB, vx_L.narrow h.2 hAB⟩
theorem vx_Zqof {args : Array Value} {s : State} {C n d : String} {A : Nat → Prop} (hl : (Cond.laysStatic C n d).before args s = true) (hini : (Cond.initialized C).before args s = true) (h : (Cond.isRef (.static C n d)).before args s = true) (hA : ∀ a : Nat, a < s.heap.size → ¬ A a) : vx_Zq C n d A s s.heap := by
  refine ⟨va_Zqof hl hini h hA, ?_⟩
  obtain ⟨c, k, i, f, a, cell, h1, h2, h3, h4, h5, h6, h7, h8, h9⟩ := Cond.laysStatic_spec hl
  exact ⟨c, k, i, f, a, cell, h1, h2, h3, h4, h5, h6, h7, h8, h9, hA a (Array.getElem?_eq_some_iff.mp h5).1⟩
theorem vx_isRef {C n d : String} {v : Value} {A : Nat → Prop} {s : State} {args : Array Value} (h : va_Z C n d v A s s.heap) (hv : v.isRef = true) : (Cond.isRef (.static C n d)).before args s = true := by
  obtain ⟨cf, kf, fi, f, a, cell, h1, h2, h3, h4, h5, h6, h7, -⟩ := h
  have he : (Term.static C n d).eval args s none [] s = some v := by
    simp [Term.eval, State.fieldNamed?, h1, h2, h4, h5, h6, h7]
  simp only [Cond.before, Cond.holds, Cond.value, he]
  cases v <;> simp_all [Value.isRef]
theorem vx_isRefq {C n d : String} {A : Nat → Prop} {s : State} {args : Array Value} (h : va_Zq C n d A s s.heap) : (Cond.isRef (.static C n d)).before args s = true := by
  rcases h with h | ⟨t, h⟩
  · exact vx_isRef h rfl
  · exact vx_isRef h rfl
/-- the same frame, seen from here: as if the method were called anew in this heap -/
theorem vx_rebase {T : State} (X : Stand p l e R s m args below meth c T locs cells slots) {R' : Room} (hf : R'.frames ≤ R.frames) (hl : R'.locals ≤ R.locals) (hc : cells + R'.cells ≤ R.cells) (hs : slots + R'.slots ≤ R.slots) :
    Stand p l e R' ((T.setVm s.vm).setFrames (.invoking m args :: below)) m args below meth c T [] 0 0 := by
  have htop : (T.setVm s.vm).topJava?.isSome := X.here.top
  have hF : ((T.setVm s.vm).setFrames (.invoking m args :: below)).frames = .invoking m args :: below := State.frames_setFrames _ (State.cur_lt_of_top htop)
  obtain ⟨g₀, hg0⟩ := Option.isSome_iff_exists.mp htop
  obtain ⟨r, hr⟩ := State.topJava?_eq_some.mp hg0
  have hl9 : e.platform.stackLimits (T.setVm s.vm).me = e.platform.stackLimits s.me := X.limits
  have hb9 : (T.setVm s.vm).me.stackBytes = s.me.stackBytes := X.bytes
  refine ⟨X.admits, X.cas, X.clock, hF, ?_, X.hears, X.method, X.code, X.here, X.tail, X.warmed, ?_, ?_, ?_⟩
  · have h := X.room
    have hU : ((T.setVm s.vm).setFrames (.invoking m args :: below)).localsInUse = s.localsInUse := by
      rw [State.localsInUse_invoking hF (meth := meth) (c := c) X.method X.code, State.localsInUse_invoking X.frames X.method X.code]
    simp only [State.hasRoom, Bool.and_eq_true, decide_eq_true_eq] at h ⊢
    obtain ⟨⟨⟨⟨h1, h2, h3, h4, h5, h6⟩, h7⟩, h8⟩, h9⟩ := h
    rw [X.frames, List.length_cons] at h2 h3
    have q1 := X.heapSize
    have q2 := X.used
    simp only [hF, hU, List.length_cons, State.stackLimits_setFrames, State.stackBytes_setFrames, hl9, hb9]
    refine ⟨⟨⟨⟨by omega, by omega, by omega, by omega, by omega, h6⟩, ?_⟩, ?_⟩, X.book⟩
    · show T.heap.size + R'.cells ≤ e.platform.maxCells
      omega
    · show T.slotsUsed + R'.slots ≤ e.platform.maxSlots
      omega
  · rw [State.stackLimits_setFrames]; rfl
  · rw [State.stackBytes_setFrames]; rfl
  · refine ⟨?_, Nat.le_refl _, Nat.le_refl _, ?_, ?_, fun a c9 h9 => ⟨c9, h9, rfl, rfl, fun _ _ => rfl⟩⟩
    · obtain ⟨t, ht, -⟩ := State.frames_cons hr
      show T.setVm s.vm = { ((T.setVm s.vm).setFrames (.invoking m args :: below)).setFrames (T.setVm s.vm).frames with heap := T.heap, slotsUsed := T.slotsUsed }
      rw [State.setFrames_setFrames, State.setFrames_self ht]
      rfl
    · show T.slotsUsed = T.slotsUsed + ((T.heap.toList.drop T.heap.size).map (·.slots.size)).sum
      rw [List.drop_eq_nil_of_le (Nat.le_of_eq Array.length_toList)]
      rfl
    · show ((T.heap.toList.drop T.heap.size).map (·.slots.size)).sum ≤ 0
      rw [List.drop_eq_nil_of_le (Nat.le_of_eq Array.length_toList)]
      exact Nat.le_refl _
/-- 'throw new E()': new; dup; invokespecial; athrow -/
theorem vx_throw0 {cc : ByteArray} {pc : Nat} (hexec : p.tables.exec = Jvm.exec) (hb : c.code = cc) (hl : l.stackTraces = false) {own cls : String} {names : List String} {ik ic mc ms : Nat} {A : Nat → Prop}
    (hown : s.vm.findClass own = some m.cls) (hcls : Bundle.fit cls = true) (hnames : ∀ n ∈ names, Bundle.fit n = true)
    (hk : (Cond.classLink own ik cls).before args s = true) (hini : (Cond.initialized cls).before args s = true) (hat : ∀ w ∈ vx_at0 own ic cls names, w.before args s = true)
    (hgood : ∀ w ∈ Cond.classLink own ik cls :: Cond.initialized cls :: vx_at0 own ic cls names, vx_ot w = true)
    (hU : vx_Zq Bundle.tN "UNASSIGNED_STACK" Bundle.steD A s s.heap) (hN : vx_Zq Bundle.tN "SUPPRESSED_SENTINEL" Bundle.listD A s s.heap) (hS : va_S A s.heap H locs) (hsize : ls.size = c.maxLocals)
    (d0 : decode cc pc = .ok (.new ik, 3)) (d3 : decode cc (pc + 3) = .ok (.dup, 1)) (d4 : decode cc (pc + 4) = .ok (.invokespecial ic, 3)) (d7 : decode cc (pc + 7) = .ok (.athrow, 1))
    (hout : ∀ x ∈ c.exceptionTable.toList, covers x (pc + 7) = false)
    (hRframes : names.length + 3 < R.frames) (hRlocals : (rest.map fun v => v.category).sum + (13 * (names.length + 1) + 42) ≤ R.locals) (hRcells : cells + 1 ≤ R.cells) (hRslots : slots + 6 ≤ R.slots) (hlocks : meth.locks = false)
    (hx : ∀ t : State, s.vm.Alike t.vm → H.size ≤ t.heap.size → (∀ q : Nat, q < H.size → t.heap[q]? = H[q]?) → XC cls s t)
    (hf : ∀ z ∈ locs, free z.base) (hc : cells + 1 ≤ mc) (hs : slots + 6 ≤ ms) :
    W p l e R s m args below meth c H locs cells slots (vx_MQ below Qc XC args s mc ms free) (F0 m pc ls rest) := by
  intro T hT X
  have htr : e.platform.stackTraces = false := (show e.platform.stackTraces = l.stackTraces by rw [X.admits.platform]).trans hl
  have Y := vx_rebase X (R' := { frames := R.frames, locals := R.locals, cells := 1, slots := 6 }) (Nat.le_refl _) (Nat.le_refl _) hRcells hRslots
  obtain ⟨s', hA⟩ : ∃ z, z = (T.setVm s.vm).setFrames (.invoking m args :: below) := ⟨_, rfl⟩
  rw [← hA] at Y
  have hvm : s'.vm = s.vm := by rw [hA]; rfl
  have hhp : s'.heap = H := by rw [hA]; exact hT
  have hW0 : s.WarmedH s'.vm := by rw [hvm]; exact State.WarmedH.refl s
  have hat' : ∀ w ∈ vx_at0 own ic cls names, w.before args s' = true := fun w hw => vx_ot_at hW0 hvm.symm (hgood w (List.mem_cons_of_mem _ (List.mem_cons_of_mem _ hw))) (hat w hw)
  have hk' : (Cond.classLink own ik cls).before args s' = true := vx_ot_at hW0 hvm.symm (hgood _ List.mem_cons_self) hk
  have hini' : (Cond.initialized cls).before args s' = true := vx_ot_at hW0 hvm.symm (hgood _ (List.mem_cons_of_mem _ List.mem_cons_self)) hini
  have hU' : vx_Zq Bundle.tN "UNASSIGNED_STACK" Bundle.steD A s' s'.heap := by rw [hhp]; exact vx_Zq.moved hW0.alike (hU.kept hS.2.1)
  have hN' : vx_Zq Bundle.tN "SUPPRESSED_SENTINEL" Bundle.listD A s' s'.heap := by rw [hhp]; exact vx_Zq.moved hW0.alike (hN.kept hS.2.1)
  have h : ∀ w ∈ Bundle.ownAtoms0 own ic cls names, w.before args s' = true := vx_own hat' (vx_isRefq hU'.1) (vx_isRefq hN'.1) hU'.2.word hN'.2.word
  have hown' : s'.vm.findClass own = some m.cls := by rw [hvm]; exact hown
  have hins : (Cond.instantiable cls 6).before args s' = true := h _ (by simp [Bundle.ownAtoms0])
  obtain ⟨vm₁, cX, kX, hfX, hkX, -, -, X₁, st1⟩ := Y.newCold hexec (own := own) (C := cls) (index := ik) (n := 6) hown' hk' hins hini'
    (g := F0 m pc ls rest) rfl (by rw [hb]; exact d0) (Nat.le_refl _) (Nat.le_refl _)
  generalize hT1 : (T.setVm vm₁).pushCell { cls := cX, slots := kX.instanceTypes.map defaultValue, vm := .none } = T1 at X₁ st1
  have hcat : (Value.ref T.heap.size).category = 1 := rfl
  have hcellA : T1.heap[T.heap.size]? = some (freshCell cX kX) := by rw [← hT1]; exact State.heap_pushCell_size _ _
  have d3' : decode c.code (pc + 3) = .ok (.dup, 1) := by rw [hb]; exact d3
  obtain ⟨U, hsteps, hrun, hend, hW, hsame, ce, hce, hO⟩ := X₁.ctorThrow0 hexec htr (own := own) (cls := cls) (names := names) (ic := ic) hown' hcls hnames h (fun x hx => nomatch hx) hfX hkX hcellA (by rw [hhp, hT]; exact Nat.le_refl _)
    (g := { method := m, pc := pc + 4, locals := ls, stack := .ref T.heap.size :: .ref T.heap.size :: rest, locked := none }) rfl hsize rfl rfl (rest := rest) rfl
    (by rw [hb]; exact d4) (by rw [hb]; exact d7) hout hRframes (by simp only [List.map_cons, List.sum_cons, hcat]; omega) hlocks
  obtain ⟨f1, f2⟩ := vx_frame hsame
  rw [hhp] at f1 f2
  have hWs : s.WarmedH U.vm := State.WarmedH.trans hW0 hW
  have hcl : s.vm.findClass cls = some ce.cls := by
    have h9 := hO.cls
    rw [hvm] at h9
    exact h9
  have hall : s.sameButNew ({ U with vm := s.vm } : State) locs mc ms := by
    subst hA
    obtain ⟨e1, e2⟩ := hsame
    rw [State.setFrames_setFrames] at e1
    have h2 : (T.setVm s.vm).sameButNew ({ U with vm := s.vm } : State) [] (0 + 1) (0 + 6) := ⟨e1, e2⟩
    have h3 := X.same.trans h2
    rw [List.append_nil] at h3
    exact h3.mono hc hs
  refine ⟨U, ?_, .threw T.heap.size, hrun, hend, Or.inr ⟨T.heap.size, rfl, cls, ce, locs, hx U hWs.alike f1 (fun q hq => f2 q hq (fun z hz => nomatch hz)), hce, hO.vm, hcl, hWs, hall, hf⟩⟩
  refine st1 _ ?_
  show Steps p.tables e below (T1.setTop { method := m, pc := pc + 3, locals := ls, stack := .ref T.heap.size :: rest, locked := none }) _
  jvm_step X₁.here [X₁.here.top, hexec, d3', Value.category]
  exact hsteps
/-- 'throw new E("text")': new; dup; ldc; invokespecial; athrow -/
theorem vx_throwS {cc : ByteArray} {pc : Nat} (hexec : p.tables.exec = Jvm.exec) (hb : c.code = cc) (hl : l.stackTraces = false) {own cls text : String} {names : List String} {ik is ic mc ms sa : Nat} {A : Nat → Prop}
    (hown : s.vm.findClass own = some m.cls) (hcls : Bundle.fit cls = true) (hnames : ∀ n ∈ names, Bundle.fit n = true)
    (hk : (Cond.classLink own ik cls).before args s = true) (hini : (Cond.initialized cls).before args s = true) (hstr : vk_R own is text sa s) (hat : ∀ w ∈ vx_atS own ic cls names, w.before args s = true)
    (hgood : ∀ w ∈ Cond.classLink own ik cls :: Cond.initialized cls :: vx_atS own ic cls names, vx_ot w = true)
    (hU : vx_Zq Bundle.tN "UNASSIGNED_STACK" Bundle.steD A s s.heap) (hN : vx_Zq Bundle.tN "SUPPRESSED_SENTINEL" Bundle.listD A s s.heap) (hS : va_S A s.heap H locs) (hsize : ls.size = c.maxLocals)
    (d0 : decode cc pc = .ok (.new ik, 3)) (d3 : decode cc (pc + 3) = .ok (.dup, 1)) (d4 : decode cc (pc + 4) = .ok (.ldc is, 2)) (d6 : decode cc (pc + 6) = .ok (.invokespecial ic, 3)) (d9 : decode cc (pc + 9) = .ok (.athrow, 1))
    (hout : ∀ x ∈ c.exceptionTable.toList, covers x (pc + 9) = false)
    (hRframes : names.length + 3 < R.frames) (hRlocals : (rest.map fun v => v.category).sum + (13 * (names.length + 1) + 43) ≤ R.locals) (hRcells : cells + 1 ≤ R.cells) (hRslots : slots + 6 ≤ R.slots) (hlocks : meth.locks = false)
    (hx : ∀ t : State, s.vm.Alike t.vm → H.size ≤ t.heap.size → (∀ q : Nat, q < H.size → t.heap[q]? = H[q]?) → XC cls s t)
    (hf : ∀ z ∈ locs, free z.base) (hc : cells + 1 ≤ mc) (hs : slots + 6 ≤ ms) :
    W p l e R s m args below meth c H locs cells slots (vx_MQ below Qc XC args s mc ms free) (F0 m pc ls rest) := by
  intro T hT X
  have htr : e.platform.stackTraces = false := (show e.platform.stackTraces = l.stackTraces by rw [X.admits.platform]).trans hl
  have Y := vx_rebase X (R' := { frames := R.frames, locals := R.locals, cells := 1, slots := 6 }) (Nat.le_refl _) (Nat.le_refl _) hRcells hRslots
  obtain ⟨s', hA⟩ : ∃ z, z = (T.setVm s.vm).setFrames (.invoking m args :: below) := ⟨_, rfl⟩
  rw [← hA] at Y
  have hvm : s'.vm = s.vm := by rw [hA]; rfl
  have hhp : s'.heap = H := by rw [hA]; exact hT
  have hW0 : s.WarmedH s'.vm := by rw [hvm]; exact State.WarmedH.refl s
  have hat' : ∀ w ∈ vx_atS own ic cls names, w.before args s' = true := fun w hw => vx_ot_at hW0 hvm.symm (hgood w (List.mem_cons_of_mem _ (List.mem_cons_of_mem _ hw))) (hat w hw)
  have hk' : (Cond.classLink own ik cls).before args s' = true := vx_ot_at hW0 hvm.symm (hgood _ List.mem_cons_self) hk
  have hini' : (Cond.initialized cls).before args s' = true := vx_ot_at hW0 hvm.symm (hgood _ (List.mem_cons_of_mem _ List.mem_cons_self)) hini
  have hU' : vx_Zq Bundle.tN "UNASSIGNED_STACK" Bundle.steD A s' s'.heap := by rw [hhp]; exact vx_Zq.moved hW0.alike (hU.kept hS.2.1)
  have hN' : vx_Zq Bundle.tN "SUPPRESSED_SENTINEL" Bundle.listD A s' s'.heap := by rw [hhp]; exact vx_Zq.moved hW0.alike (hN.kept hS.2.1)
  have h : ∀ w ∈ Bundle.ownAtoms own ic cls names, w.before args s' = true := vx_own hat' (vx_isRefq hU'.1) (vx_isRefq hN'.1) hU'.2.word hN'.2.word
  have hown' : s'.vm.findClass own = some m.cls := by rw [hvm]; exact hown
  have hins : (Cond.instantiable cls 6).before args s' = true := h _ (by simp [Bundle.ownAtoms])
  obtain ⟨vm₁, cX, kX, hfX, hkX, -, -, X₁, st1⟩ := Y.newCold hexec (own := own) (C := cls) (index := ik) (n := 6) hown' hk' hins hini'
    (g := F0 m pc ls rest) rfl (by rw [hb]; exact d0) (Nat.le_refl _) (Nat.le_refl _)
  generalize hT1 : (T.setVm vm₁).pushCell { cls := cX, slots := kX.instanceTypes.map defaultValue, vm := .none } = T1 at X₁ st1
  have hcat : (Value.ref T.heap.size).category = 1 := rfl
  have hcellA : T1.heap[T.heap.size]? = some (freshCell cX kX) := by rw [← hT1]; exact State.heap_pushCell_size _ _
  have d3' : decode c.code (pc + 3) = .ok (.dup, 1) := by rw [hb]; exact d3
  have d4' : decode c.code (pc + 4) = .ok (.ldc is, 2) := by rw [hb]; exact d4
  have hstr' : vk_R own is text sa s' := vk_R.warm hW0 hstr
  obtain ⟨U, hsteps, hrun, hend, hW, hsame, ce, hce, hO⟩ := X₁.ctorThrowS hexec htr (own := own) (cls := cls) (names := names) (ic := ic) hown' hcls hnames h (fun x hx => nomatch hx) hfX hkX hcellA (by rw [hhp, hT]; exact Nat.le_refl _) (msg := .ref sa) rfl
    (g := { method := m, pc := pc + 6, locals := ls, stack := .ref sa :: .ref T.heap.size :: .ref T.heap.size :: rest, locked := none }) rfl hsize rfl rfl (rest := rest) rfl
    (by rw [hb]; exact d6) (by rw [hb]; exact d9) hout hRframes (by simp only [List.map_cons, List.sum_cons, hcat]; omega) hlocks
  obtain ⟨f1, f2⟩ := vx_frame hsame
  rw [hhp] at f1 f2
  have hWs : s.WarmedH U.vm := State.WarmedH.trans hW0 hW
  have hcl : s.vm.findClass cls = some ce.cls := by
    have h9 := hO.cls
    rw [hvm] at h9
    exact h9
  have hall : s.sameButNew ({ U with vm := s.vm } : State) locs mc ms := by
    subst hA
    obtain ⟨e1, e2⟩ := hsame
    rw [State.setFrames_setFrames] at e1
    have h2 : (T.setVm s.vm).sameButNew ({ U with vm := s.vm } : State) [] (0 + 1) (0 + 6) := ⟨e1, e2⟩
    have h3 := X.same.trans h2
    rw [List.append_nil] at h3
    exact h3.mono hc hs
  refine ⟨U, ?_, .threw T.heap.size, hrun, hend, Or.inr ⟨T.heap.size, rfl, cls, ce, locs, hx U hWs.alike f1 (fun q hq => f2 q hq (fun z hz => nomatch hz)), hce, hO.vm, hcl, hWs, hall, hf⟩⟩
  refine st1 _ ?_
  show Steps p.tables e below (T1.setTop { method := m, pc := pc + 3, locals := ls, stack := .ref T.heap.size :: rest, locked := none }) _
  jvm_step X₁.here [X₁.here.top, hexec, d3', Value.category]
  exact X₁.ldcString hexec (own := own) (text := text) (index := is) (a := sa) hown' hstr'.1 hstr'.2
    (g := { method := m, pc := pc + 4, locals := ls, stack := .ref T.heap.size :: .ref T.heap.size :: rest, locked := none }) rfl d4' _ hsteps
/-- 'throw new E("text")', the text by a wide index -/
theorem vx_throwSW {cc : ByteArray} {pc : Nat} (hexec : p.tables.exec = Jvm.exec) (hb : c.code = cc) (hl : l.stackTraces = false) {own cls text : String} {names : List String} {ik is ic mc ms sa : Nat} {A : Nat → Prop}
    (hown : s.vm.findClass own = some m.cls) (hcls : Bundle.fit cls = true) (hnames : ∀ n ∈ names, Bundle.fit n = true)
    (hk : (Cond.classLink own ik cls).before args s = true) (hini : (Cond.initialized cls).before args s = true) (hstr : vk_R own is text sa s) (hat : ∀ w ∈ vx_atS own ic cls names, w.before args s = true)
    (hgood : ∀ w ∈ Cond.classLink own ik cls :: Cond.initialized cls :: vx_atS own ic cls names, vx_ot w = true)
    (hU : vx_Zq Bundle.tN "UNASSIGNED_STACK" Bundle.steD A s s.heap) (hN : vx_Zq Bundle.tN "SUPPRESSED_SENTINEL" Bundle.listD A s s.heap) (hS : va_S A s.heap H locs) (hsize : ls.size = c.maxLocals)
    (d0 : decode cc pc = .ok (.new ik, 3)) (d3 : decode cc (pc + 3) = .ok (.dup, 1)) (d4 : decode cc (pc + 4) = .ok (.ldc_w is, 3)) (d7 : decode cc (pc + 7) = .ok (.invokespecial ic, 3)) (d10 : decode cc (pc + 10) = .ok (.athrow, 1))
    (hout : ∀ x ∈ c.exceptionTable.toList, covers x (pc + 10) = false)
    (hRframes : names.length + 3 < R.frames) (hRlocals : (rest.map fun v => v.category).sum + (13 * (names.length + 1) + 43) ≤ R.locals) (hRcells : cells + 1 ≤ R.cells) (hRslots : slots + 6 ≤ R.slots) (hlocks : meth.locks = false)
    (hx : ∀ t : State, s.vm.Alike t.vm → H.size ≤ t.heap.size → (∀ q : Nat, q < H.size → t.heap[q]? = H[q]?) → XC cls s t)
    (hf : ∀ z ∈ locs, free z.base) (hc : cells + 1 ≤ mc) (hs : slots + 6 ≤ ms) :
    W p l e R s m args below meth c H locs cells slots (vx_MQ below Qc XC args s mc ms free) (F0 m pc ls rest) := by
  intro T hT X
  have htr : e.platform.stackTraces = false := (show e.platform.stackTraces = l.stackTraces by rw [X.admits.platform]).trans hl
  have Y := vx_rebase X (R' := { frames := R.frames, locals := R.locals, cells := 1, slots := 6 }) (Nat.le_refl _) (Nat.le_refl _) hRcells hRslots
  obtain ⟨s', hA⟩ : ∃ z, z = (T.setVm s.vm).setFrames (.invoking m args :: below) := ⟨_, rfl⟩
  rw [← hA] at Y
  have hvm : s'.vm = s.vm := by rw [hA]; rfl
  have hhp : s'.heap = H := by rw [hA]; exact hT
  have hW0 : s.WarmedH s'.vm := by rw [hvm]; exact State.WarmedH.refl s
  have hat' : ∀ w ∈ vx_atS own ic cls names, w.before args s' = true := fun w hw => vx_ot_at hW0 hvm.symm (hgood w (List.mem_cons_of_mem _ (List.mem_cons_of_mem _ hw))) (hat w hw)
  have hk' : (Cond.classLink own ik cls).before args s' = true := vx_ot_at hW0 hvm.symm (hgood _ List.mem_cons_self) hk
  have hini' : (Cond.initialized cls).before args s' = true := vx_ot_at hW0 hvm.symm (hgood _ (List.mem_cons_of_mem _ List.mem_cons_self)) hini
  have hU' : vx_Zq Bundle.tN "UNASSIGNED_STACK" Bundle.steD A s' s'.heap := by rw [hhp]; exact vx_Zq.moved hW0.alike (hU.kept hS.2.1)
  have hN' : vx_Zq Bundle.tN "SUPPRESSED_SENTINEL" Bundle.listD A s' s'.heap := by rw [hhp]; exact vx_Zq.moved hW0.alike (hN.kept hS.2.1)
  have h : ∀ w ∈ Bundle.ownAtoms own ic cls names, w.before args s' = true := vx_own hat' (vx_isRefq hU'.1) (vx_isRefq hN'.1) hU'.2.word hN'.2.word
  have hown' : s'.vm.findClass own = some m.cls := by rw [hvm]; exact hown
  have hins : (Cond.instantiable cls 6).before args s' = true := h _ (by simp [Bundle.ownAtoms])
  obtain ⟨vm₁, cX, kX, hfX, hkX, -, -, X₁, st1⟩ := Y.newCold hexec (own := own) (C := cls) (index := ik) (n := 6) hown' hk' hins hini'
    (g := F0 m pc ls rest) rfl (by rw [hb]; exact d0) (Nat.le_refl _) (Nat.le_refl _)
  generalize hT1 : (T.setVm vm₁).pushCell { cls := cX, slots := kX.instanceTypes.map defaultValue, vm := .none } = T1 at X₁ st1
  have hcat : (Value.ref T.heap.size).category = 1 := rfl
  have hcellA : T1.heap[T.heap.size]? = some (freshCell cX kX) := by rw [← hT1]; exact State.heap_pushCell_size _ _
  have d3' : decode c.code (pc + 3) = .ok (.dup, 1) := by rw [hb]; exact d3
  have d4' : decode c.code (pc + 4) = .ok (.ldc_w is, 3) := by rw [hb]; exact d4
  have hstr' : vk_R own is text sa s' := vk_R.warm hW0 hstr
  obtain ⟨U, hsteps, hrun, hend, hW, hsame, ce, hce, hO⟩ := X₁.ctorThrowS hexec htr (own := own) (cls := cls) (names := names) (ic := ic) hown' hcls hnames h (fun x hx => nomatch hx) hfX hkX hcellA (by rw [hhp, hT]; exact Nat.le_refl _) (msg := .ref sa) rfl
    (g := { method := m, pc := pc + 7, locals := ls, stack := .ref sa :: .ref T.heap.size :: .ref T.heap.size :: rest, locked := none }) rfl hsize rfl rfl (rest := rest) rfl
    (by rw [hb]; exact d7) (by rw [hb]; exact d10) hout hRframes (by simp only [List.map_cons, List.sum_cons, hcat]; omega) hlocks
  obtain ⟨f1, f2⟩ := vx_frame hsame
  rw [hhp] at f1 f2
  have hWs : s.WarmedH U.vm := State.WarmedH.trans hW0 hW
  have hcl : s.vm.findClass cls = some ce.cls := by
    have h9 := hO.cls
    rw [hvm] at h9
    exact h9
  have hall : s.sameButNew ({ U with vm := s.vm } : State) locs mc ms := by
    subst hA
    obtain ⟨e1, e2⟩ := hsame
    rw [State.setFrames_setFrames] at e1
    have h2 : (T.setVm s.vm).sameButNew ({ U with vm := s.vm } : State) [] (0 + 1) (0 + 6) := ⟨e1, e2⟩
    have h3 := X.same.trans h2
    rw [List.append_nil] at h3
    exact h3.mono hc hs
  refine ⟨U, ?_, .threw T.heap.size, hrun, hend, Or.inr ⟨T.heap.size, rfl, cls, ce, locs, hx U hWs.alike f1 (fun q hq => f2 q hq (fun z hz => nomatch hz)), hce, hO.vm, hcl, hWs, hall, hf⟩⟩
  refine st1 _ ?_
  show Steps p.tables e below (T1.setTop { method := m, pc := pc + 3, locals := ls, stack := .ref T.heap.size :: rest, locked := none }) _
  jvm_step X₁.here [X₁.here.top, hexec, d3', Value.category]
  exact X₁.ldcStringW hexec (own := own) (text := text) (index := is) (a := sa) hown' hstr'.1 hstr'.2
    (g := { method := m, pc := pc + 4, locals := ls, stack := .ref T.heap.size :: .ref T.heap.size :: rest, locked := none }) rfl d4' _ hsteps
end Ends
section Bodies
variable {l : Launch}
theorem vx_ofW {y : MethodName} {ws ws' : List Cond} {rm : Room} {Pc : Array Value → State → Prop} {Qc : Array Value → State → Outcome → State → Prop} {XC : String → State → State → Prop} {mc ms : Nat} {free : Addr → Prop} {cc : ByteArray} {maxL : Nat} {ret : Option FieldType}
    (hy : plainName y.cls = true) (hw : ws = Cond.code y cc maxL ret :: ws')
    (body : ∀ p e s m args below meth c s₁, BodyLoose p l y (headSpec ws rm) cc maxL ret e s m args below meth c s₁ → c.maxLocals = maxL → (∀ x ∈ c.exceptionTable.toList, False) → Pc args s →
      W p l e (headSpec ws rm).room s m args below meth c s.heap [] 0 0 (vx_MQ below Qc XC args s mc ms free) (entryFrame m args maxL)) : vx_Met l y ws rm Pc Qc XC mc ms free := by
  refine MetFree.of_bodyS (code := cc) (maxLocals := maxL) (ret := ret) hy ?_ ?_
  · intro args s m h hn
    obtain ⟨meth, c, h1, h2, h3, h4, h5, h6, -, -⟩ := Cond.code_spec hn (atoms_spec (ws := ws) h _ (by rw [hw]; exact List.mem_cons_self))
    exact ⟨meth, c, h1, h2, h3, h4, h5, h6⟩
  · intro p e s m args below meth c s₁ B hml hP _
    have hh0 : s₁.heap = s.heap := by rw [B.state]; rfl
    have ht : ∀ x ∈ c.exceptionTable.toList, False := by
      obtain ⟨meth9, c9, h1, h2, -, -, -, -, h7, -⟩ := Cond.code_spec B.named (atoms_spec (ws := ws) B.pre _ (by rw [hw]; exact List.mem_cons_self))
      cases Option.some.inj (h1.symm.trans B.method)
      cases Option.some.inj (h2.symm.trans (Stand.of_body B).code)
      intro x hx
      rw [Array.isEmpty_iff.mp h7] at hx
      cases hx
    obtain ⟨t, a1, o, b1, b2, b3⟩ := body p e s m args below meth c s₁ B hml ht hP s₁ hh0 (Stand.of_body B)
    exact ⟨t, o, a1, b1, b2, b3⟩
/-- the table of a body with handlers -/
theorem vx_table {p : Program} {x y : MethodName} {S : Spec} {cc bytes : ByteArray} {maxL maxL' : Nat} {ret ret' : Option FieldType} {e : Env} {s s₁ : State} {m : MethodId} {args : Array Value} {below : List Frame} {meth : Method} {c : Code} {hh : List (Nat × Nat × Nat × Nat)}
    (B : BodyLoose p l y S cc maxL ret e s m args below meth c s₁) (h : (Cond.codeWith y bytes maxL' ret' hh).before args s = true) : c.exceptionTable.toList = tableOf hh := by
  obtain ⟨m9, meth9, c9, hn9, h1, h2, -, -, h6, -⟩ := Cond.codeWith_spec h
  cases Option.some.inj (hn9.symm.trans B.named)
  cases Option.some.inj (h1.symm.trans B.method)
  cases Option.some.inj (h2.symm.trans (Stand.of_body B).code)
  rw [← h6, table_eq]
end Bodies
end VXA
/-! ===== END ===== -/
/-! ===== BEGIN a static call of a method with an exception table ===== -/
section VXS
variable {p : Program} {l : Launch} {e : Env} {R : Room} {s : State} {m : MethodId} {args : Array Value} {below : List Frame} {meth : Method} {c : Code} {T : State} {H : Heap} {locs : List Loc} {cells slots : Nat}
abbrev vx_CSW (R : Room) (s : State) (args : Array Value) (own : String) (index : Nat) (y : MethodName) (bytes : ByteArray) (maxL : Nat) (ret : Option FieldType) (hh : List (Nat × Nat × Nat × Nat)) (ws : List Cond) (rm : Room) (mc ms n : Nat) : Prop :=
  (rm.cells = mc ∧ rm.slots = ms ∧ rm.frames + 1 ≤ R.frames ∧ 8 + (maxL + 11) + rm.locals ≤ R.locals ∧ (∀ w ∈ ws, ∀ (a' : Array Value) (U : State), s.WarmedH U.vm → w.before a' U = true) ∧ Cond.codeWith y bytes maxL ret hh ∈ ws) ∧
  (Cond.codeWith y bytes maxL ret hh).before args s = true ∧ (Cond.initialized y.cls).before args s = true ∧ (y.cls ≠ "java/lang/invoke/MethodHandle" ∧ y.cls ≠ "java/lang/invoke/VarHandle") ∧
  (∀ sig, parseMethodDescriptor y.desc = some sig → n = sig.parameters.length) ∧ (Cond.methodLink own index y).before args s = true ∧ (Cond.static y).before args s = true
theorem vx_cwSW {own : String} {index maxL mc ms : Nat} {y : MethodName} {bytes : ByteArray} {ret : Option FieldType} {hh : List (Nat × Nat × Nat × Nat)} {Ts ws ws' : List Cond} {rm : Room} (n : Nat) (ht : ∀ w ∈ Ts, w.before args s = true) (hT : GoodIn Ts (va_wsS own index y ws)) (hw : ws = Cond.codeWith y bytes maxL ret hh :: ws') (hrc : rm.cells = mc) (hrs : rm.slots = ms)
    (hd : y.cls ≠ "java/lang/invoke/MethodHandle" ∧ y.cls ≠ "java/lang/invoke/VarHandle" ∧ (parseMethodDescriptor y.desc).map (fun d => d.parameters.length) = some n) (hR : rm.frames + 1 ≤ R.frames ∧ 8 + (maxL + 11) + rm.locals ≤ R.locals) :
    vx_CSW R s args own index y bytes maxL ret hh ws rm mc ms n := by
  have ok : ∀ w ∈ va_wsS own index y ws, w.before args s = true := fun w h => ht w (hT w h).1
  have hG : GoodIn Ts ws := fun w h => hT w (by unfold va_wsS; exact List.mem_append_right _ h)
  have hc : Cond.codeWith y bytes maxL ret hh ∈ ws := by rw [hw]; exact List.mem_cons_self
  refine ⟨⟨hrc, hrs, hR.1, hR.2, pay_in ht hG, hc⟩, ht _ (hG _ hc).1, ok _ (by simp [va_wsS]), ⟨hd.1, hd.2.1⟩, fun sig h => ?_, ok _ (by simp [va_wsS]), ok _ (by simp [va_wsS])⟩
  have h2 := hd.2.2
  rw [h] at h2
  exact (Option.some.inj h2).symm
theorem vx_callSW (X : Stand p l e R s m args below meth c T locs cells slots) (hexec : p.tables.exec = Jvm.exec) {own : String} {index : Nat} {y : MethodName} {bytes : ByteArray} {maxL : Nat} {ret : Option FieldType} {hh : List (Nat × Nat × Nat × Nat)}
    (hown : s.vm.findClass own = some m.cls) (hlink : (Cond.methodLink own index y).before args s = true) (hstat : (Cond.static y).before args s = true) (hinit : (Cond.initialized y.cls).before args s = true)
    (hcode : (Cond.codeWith y bytes maxL ret hh).before args s = true) (hy : y.cls ≠ "java/lang/invoke/MethodHandle" ∧ y.cls ≠ "java/lang/invoke/VarHandle")
    {W9 : Nat} {Pre : Pt → Array Value → Prop} {Post : Pt → Array Value → Option Value → Pt → Prop} (hK : Back l R p e below s args y 3 W9 Pre Post)
    {g : JFrame} (hg : g.method = m) (hsize : g.locals.size = c.maxLocals) {argsL rest : List Value} (hlen : ∀ sig, parseMethodDescriptor y.desc = some sig → argsL.length = sig.parameters.length)
    (hstack : g.stack = argsL.reverse ++ rest) (hW : 2 * g.monitorRoom + (rest.map fun v => v.category).sum ≤ W9) (hdg : decode c.code g.pc = .ok (.invokestatic index, 3))
    (hpre : ∀ vm₁, s.WarmedH vm₁ → Pre ⟨T.setVm vm₁, locs, cells, slots⟩ argsL.toArray) :
    ∃ (v : Option Value) (vm₁ : Vm) (B : Pt), s.WarmedH vm₁ ∧ Stand p l e R s m args below meth c B.U B.locs B.cells B.slots ∧ Post ⟨T.setVm vm₁, locs, cells, slots⟩ argsL.toArray v B ∧
      ∀ target, Steps p.tables e below (B.U.setTop { g with pc := g.pc + 3, stack := v.toList ++ rest }) target → Steps p.tables e below (T.setTop g) target := by
  obtain ⟨mk, methM, cM, hnamed, hmethM, -, -, -, -, -, -, hsigM⟩ := Cond.codeWith_spec hcode
  have hstatic : methM.isStatic = true := Cond.static_spec hnamed hmethM hstat
  obtain ⟨kP, hkP, -⟩ := className_of_methodNamed hnamed
  have hinitP : kP.init = .initialized := Cond.initialized_spec (findClass_of_methodNamed hnamed) hkP hinit
  obtain ⟨vm₁, X₁, hstep₁⟩ := X.invokestatic hexec hown hlink hnamed hmethM hstatic hkP hinitP hy (g := g) hg (argsL := argsL) (rest := rest) (hlen _ hsigM) hstack hdg
  obtain ⟨v, B, X', hpost, hsteps⟩ := hK m meth c ⟨T.setVm vm₁, locs, cells, slots⟩ { g with stack := rest } (.invokestatic index) mk argsL.toArray X₁ hg hsize hdg hW (X₁.named hnamed) (hpre vm₁ X₁.warmed)
  exact ⟨v, vm₁, B, X₁.warmed, X', hpost, fun target h => hstep₁ _ fun acts => by rw [doInvoke_state]; exact hsteps.trans h⟩
theorem vx_runSW {y : MethodName} {bytes cc : ByteArray} {maxL nL mc ms n index : Nat} {ret : Option FieldType} {hh : List (Nat × Nat × Nat × Nat)} {ws : List Cond} {rm : Room} {Pc : Array Value → State → Prop} {Qc : Array Value → State → Outcome → State → Prop} {free : Addr → Prop} {Ts : List Cond} {own : String} {As rest : List Value} {g : JFrame}
    (S : CallFix p m c cc nL s args Ts own) (hM : Met l y ws rm Pc Qc mc ms free) (cw : vx_CSW R s args own index y bytes maxL ret hh ws rm mc ms n) (hp : PreS s H Pc As)
    (hg : g.method = m) (hn : As.length = n) (hsize : g.locals.size = nL) (hstack : g.stack = As.reverse ++ rest) (hW : 2 * g.monitorRoom + (rest.map fun v => v.category).sum ≤ 8) (hdg : decode cc g.pc = .ok (.invokestatic index, 3)) (hf : cells + mc ≤ R.cells ∧ slots + ms ≤ R.slots) :
    va_Run p l e R s m args below meth c H locs cells slots mc ms g rest (Qc As.toArray) (free) := by
  obtain ⟨⟨hrc, hrs, hfr, hlo, hws, hcw⟩, hcode, hini, hy, hlen, hl, hstt⟩ := cw
  have hK : Back l R p e below s args y 3 8 (PreOf R mc ms Pc) (PostOf Qc mc ms free) := va_backW (hh := hh) (bytes := bytes) (maxL := maxL) (ret := ret) hM hp.1 hrc hrs hfr hlo hws hcw (fun a' U hW => word_at hW (Or.inl (by first | rfl | simp [Cond.onTables, Cond.keeps, Cond.steady])) hini)
  obtain ⟨hx, hb, hml, ho, -⟩ := S
  intro T hT X
  obtain ⟨v, vm₁, ⟨U', l2, c2, s2⟩, hW₁, X', ⟨g', mk, t, L, e1, e2, hq, h1, hL, h2, h3⟩, st⟩ := vx_callSW X hx (hh := hh) (bytes := bytes) (maxL := maxL) (ret := ret) ho hl hstt hini hcode hy hK hg (hsize.trans hml.symm) (argsL := As) (rest := rest) (fun sig h => hn.trans (hlen sig h)) hstack hW (by rw [hb]; exact hdg)
    (fun vm₁ hW₁ => ⟨hf.1, hf.2, hp.2 (T.setVm vm₁) hT hW₁⟩)
  dsimp only [Pt.U, Pt.locs, Pt.cells, Pt.slots] at X' e1 e2 h1 h2 h3 st
  subst h1; subst h2; subst h3
  exact ⟨v, (T.setVm vm₁).calling g' mk As.toArray, t, U', L, hT, X', hL, e1, e2, hq, st⟩
/-- not caught here, past rows that name other classes: it goes on to the caller -/
theorem vx_outP {p : Program} {l : Launch} {e : Env} {R : Room} {s : State} {m : MethodId} {args : Array Value} {below : List Frame} {meth : Method} {c : Code} {H : Heap} {locs : List Loc} {cells slots : Nat} {free : Addr → Prop} {ls : Array Slot} {rest : List Value} {Qc : Array Value → State → Outcome → State → Prop} {XC : String → State → State → Prop}
    {pc : Nat} {own E : String} {ce : Cell} {q : Addr} {mc ms : Nat} (hown : s.vm.findClass own = some m.cls) (hlocks : meth.locks = false)
    (hpass : ∀ z ∈ c.exceptionTable.toList, covers z pc = false ∨ (z.catchType ≠ 0 ∧ ∃ nm : String, (Cond.classLink own z.catchType nm).before args s = true ∧ va_Nc E nm s)) (hcell : H[q]? = some ce) (hv : ce.vm = .none) (hcl : s.vm.findClass E = some ce.cls)
    (hx : ∀ t : State, t.heap = H → s.vm.Alike t.vm → XC E s t) (hf : ∀ z ∈ locs, free z.base) (hc : cells ≤ mc) (hs : slots ≤ ms) :
    vx_W p l e R s m args below meth c H locs cells slots (vx_MQ below Qc XC args s mc ms free) (F0 m pc ls rest) q := by
  intro T hT X
  have hpl : e.platform.magicAccessors = ({} : Platform).magicAccessors := by rw [X.admits.platform]
  obtain ⟨vm', hW', X', st⟩ := X.outThrough hlocks q (g := F0 m pc ls rest) rfl rfl rfl (cell := ce) (by rw [hT]; exact hcell) (by rw [hv]; rfl)
    (by obtain ⟨k9, h9, -⟩ := Vm.findClass_spec hcl; exact ⟨k9, h9⟩) (fun z hz => by
      rcases hpass z hz with h | ⟨hz0, nm, hl1, hn1⟩
      · exact Or.inl h
      · obtain ⟨c6, hc6, hcl6⟩ := Cond.classLink_spec hown hl1 e.platform hpl
        obtain ⟨a8, b8, h1, h2, h3⟩ := hn1
        cases Option.some.inj (h1.symm.trans hcl)
        cases Option.some.inj (h2.symm.trans hc6)
        exact Or.inr ⟨hz0, _, hcl6, h3⟩)
  obtain ⟨g₀, hfr⟩ := X'.frames_eq
  have hcell9 : ((T.setVm vm').setFrames (.throwing q :: below)).heap[q]? = some ce := by
    show T.heap[q]? = some ce
    rw [hT]; exact hcell
  have hend : Ended ((T.setVm vm').setFrames (.throwing q :: below)) below (.threw q) := State.frames_setFrames _ (State.cur_lt_of_frames hfr)
  refine ⟨(T.setVm vm').setFrames (.throwing q :: below), ?_, .threw q, X'.here.running, hend, Or.inr ⟨q, rfl, E, ce, locs, hx _ hT (X'.ends _).1.alike, hcell9, hv, hcl, (X'.ends _).1, (X'.ends _).2.mono hc hs, hf⟩⟩
  rw [X.pushThrowing_eq]
  exact st
/-- a thing of a world lies in the heap -/
theorem vx_lt {D : va_G} {cl : List vw_C} {ws : va_W} {H1 : Heap} (h : va_P D cl ws H1) {k : Nat} {q : Nat × va_E} (hk : ws[k]? = some q) : q.1 < H1.size := (h k q hk).lt
end VXS
/-! ===== END ===== -/
/-! ===== BEGIN methods with a table of their own: called by a name, returning or throwing ===== -/
section VXH
/-! vx_backW, vx_callVX, vx_callSX, vx_callVW, vx_runVW, vx_runVX, vx_runSX, vx_ofWH follow the same proofs as their sisters above (Free/Laws.lean, Shelf42/LK1.lean); vx_outP calls Shelf42/NT130.lean (outThrough). -/
section
variable {l : Launch} {R : Room} {p : Program} {e : Env} {below : List Frame} {s : State} {sargs : Array Value} {y : MethodName} {len W9 : Nat}
theorem vx_backW {ws : List Cond} {rm : Room} {Pc : Array Value → State → Prop} {Qc : Array Value → State → Outcome → State → Prop} {XC : String → State → State → Prop} {mc ms : Nat} {free : Addr → Prop} {bytes : ByteArray} {maxL : Nat} {ret : Option FieldType} {hh : List (Nat × Nat × Nat × Nat)}
    (hM : vx_Met l y ws rm Pc Qc XC mc ms free) (hblind : FrameBlind Pc) (hrc : rm.cells = mc) (hrs : rm.slots = ms)
    (hframes : rm.frames + 1 ≤ R.frames) (hlocals : W9 + (maxL + 11) + rm.locals ≤ R.locals)
    (hws : ∀ w ∈ ws, ∀ a' U, s.WarmedH U.vm → w.before a' U = true) (hcode : Cond.codeWith y bytes maxL ret hh ∈ ws) (hinit : ∀ a' U, s.WarmedH U.vm → (Cond.initialized y.cls).before a' U = true) :
    vx_Back l R p e below s sargs y len W9 (PreOf R mc ms Pc) (PostOf Qc mc ms free) (vx_Post XC mc ms free) := by
  intro m meth c A g ig mk a X hg hsize hdg hW hn hp
  have h1 : (headSpec ws rm).pre.before a A.U = true := atoms_intro fun w hw => hws w hw _ _ X.warmed
  have h2 : (Cond.codeWith y bytes maxL ret hh).before a A.U = true := hws _ hcode _ _ X.warmed
  have h3 : (Cond.initialized y.cls).before a A.U = true := hinit _ _ X.warmed
  have h4 : A.cells + (headSpec ws rm).room.cells ≤ R.cells := by rw [show (headSpec ws rm).room.cells = mc from hrc]; exact hp.1
  have h5 : A.slots + (headSpec ws rm).room.slots ≤ R.slots := by rw [show (headSpec ws rm).room.slots = ms from hrs]; exact hp.2.1
  have hPc : Pc a (A.U.calling g mk a) := hblind _ _ _ _ hp.2.2
  obtain ⟨U, Ls, c0, s0⟩ := A
  dsimp only [Pt.U, Pt.locs, Pt.cells, Pt.slots] at h1 h2 h3 h4 h5 X hn hPc ⊢
  obtain ⟨m9, methY, cY, hn9, hmY, hcY, -, hlY, -⟩ := Cond.codeWith_spec h2
  cases Option.some.inj (hn9.symm.trans hn)
  obtain ⟨kY, hkY, -⟩ := className_of_methodNamed hn
  have hinitY : kY.init = .initialized := Cond.initialized_spec (findClass_of_methodNamed hn) hkY h3
  have h : At U g.method c below := by rw [hg]; exact X.here
  have hlocals9 : W9 + (maxL + 11) + (headSpec ws rm).room.locals ≤ R.locals := hlocals
  have happ : (headSpec ws rm).appliesLoose y e.platform (U.calling g mk a) = true :=
    Spec.appliesLoose_calling (g := g) h hdg hn hkY hinitY
      (X.room_calling (g := g) (R' := (headSpec ws rm).room) hsize hmY hcY hframes (by rw [hlY]; omega) h4 h5) h1
  obtain ⟨mid, hmid⟩ := h.above
  have hfr : (U.setTop g).frames = (.java g :: mid) ++ below := by rw [State.frames_setTop' g h.top, hmid]; rfl
  obtain ⟨o, s₂, hsteps, -, hend, hq⟩ := Steps.callFree hM p X.admits X.cas X.clock (acts := []) hfr happ hPc trivial
  have hq' : vx_Q Qc XC mc ms free a (U.calling g mk a) o s₂ := hq
  rw [State.frames_setTop' g h.top] at hend
  obtain ⟨g₀, hg0⟩ := Option.isSome_iff_exists.mp h.top
  obtain ⟨r, hr⟩ := State.topJava?_eq_some.mp hg0
  have hr' : (({ U with heap := s₂.heap, slotsUsed := s₂.slotsUsed } : State).setVm s₂.vm).frames = .java g₀ :: r := hr
  rcases hq' with ⟨hqc, L, hfe, hL⟩ | ⟨q, rfl, E, ce, L, hx, hce, hcv, hcl, hW₂, hsm, hL⟩
  · obtain ⟨⟨v, rfl⟩, hW₂, e2, q2, q3, q4, q5, q6⟩ := id hfe
    have e3 : s₂ = ({ (U.calling g mk a).setFrames s₂.frames with heap := s₂.heap, slotsUsed := s₂.slotsUsed } : State).setVm s₂.vm := by
      have : s₂ = ({ s₂ with vm := (U.calling g mk a).vm } : State).setVm s₂.vm := rfl
      rw [e2] at this
      exact this
    obtain ⟨c₂, i₂, len₂, hc₂, hd₂, hf₂⟩ := hend
    have hW' : U.WarmedH s₂.vm := hW₂
    have hcc : c₂ = c := by
      have h1 : s₂.code? g.method = U.code? g.method := by
        rw [State.code?_eq, State.code?_eq, hW'.alike.method?]
      exact Option.some.inj (hc₂.symm.trans (h1.trans h.code))
    subst hcc
    have hlen : len₂ = len := by rw [hdg] at hd₂; cases hd₂; rfl
    subst hlen
    have hs₂ : s₂ = (({ U with heap := s₂.heap, slotsUsed := s₂.slotsUsed } : State).setVm s₂.vm).setTop { g with pc := g.pc + len₂, stack := v.toList ++ g.stack } := by
      refine e3.trans ?_
      rw [hf₂, State.calling_eq h.top, State.setFrames_setFrames, State.setTop_of_frames _ hr', hr]
      rfl
    have hsame : U.sameButNew ({ U with heap := s₂.heap, slotsUsed := s₂.slotsUsed } : State) L mc ms := by
      refine ⟨?_, q2, q3, q4, q5, q6⟩
      obtain ⟨t, ht, -⟩ := State.frames_cons hr
      show ({ U with heap := s₂.heap, slotsUsed := s₂.slotsUsed } : State) = { U.setFrames U.frames with heap := s₂.heap, slotsUsed := s₂.slotsUsed }
      rw [State.setFrames_self ht]
    subst hg
    refine Or.inl ⟨v, ⟨(({ U with heap := s₂.heap, slotsUsed := s₂.slotsUsed } : State).setVm s₂.vm), Ls ++ L, c0 + mc, s0 + ms⟩,
      ⟨X.admits, X.cas, X.clock, X.frames, X.room, X.hears, X.method, X.code, (X.here.setHeapUsed s₂.heap s₂.slotsUsed).setVm hW'.alike, X.tail, State.WarmedH.trans X.warmed hW', X.limits, X.bytes, X.same.trans (hsame.setVm s.vm)⟩,
      ⟨g, mk, s₂, L, rfl, rfl, hqc, rfl, hL, rfl, rfl⟩, ?_⟩
    show Steps p.tables e below _ ((({ U with heap := s₂.heap, slotsUsed := s₂.slotsUsed } : State).setVm s₂.vm).setTop { g with pc := g.pc + len₂, stack := v.toList ++ g.stack })
    rw [← hs₂]
    exact hsteps
  · obtain ⟨e2, q2, q3, q4, q5, q6⟩ := id hsm
    have e3 : s₂ = ({ (U.calling g mk a).setFrames s₂.frames with heap := s₂.heap, slotsUsed := s₂.slotsUsed } : State).setVm s₂.vm := by
      have : s₂ = ({ s₂ with vm := (U.calling g mk a).vm } : State).setVm s₂.vm := rfl
      rw [e2] at this
      exact this
    have hf₂ : s₂.frames = .throwing q :: .java g :: U.frames.tail := hend
    have hW' : U.WarmedH s₂.vm := hW₂
    have hs₂ : s₂ = ((({ U with heap := s₂.heap, slotsUsed := s₂.slotsUsed } : State).setVm s₂.vm).setTop g).pushFrame (.throwing q) := by
      refine e3.trans ?_
      rw [hf₂, State.calling_eq h.top, State.setFrames_setFrames, State.pushFrame, State.frames_setTop _ hr', State.setTop_of_frames _ hr', State.setFrames_setFrames, hr]
      rfl
    have hsame : U.sameButNew ({ U with heap := s₂.heap, slotsUsed := s₂.slotsUsed } : State) L mc ms := by
      refine ⟨?_, q2, q3, q4, q5, q6⟩
      obtain ⟨t, ht, -⟩ := State.frames_cons hr
      show ({ U with heap := s₂.heap, slotsUsed := s₂.slotsUsed } : State) = { U.setFrames U.frames with heap := s₂.heap, slotsUsed := s₂.slotsUsed }
      rw [State.setFrames_self ht]
    subst hg
    refine Or.inr ⟨q, ⟨(({ U with heap := s₂.heap, slotsUsed := s₂.slotsUsed } : State).setVm s₂.vm), Ls ++ L, c0 + mc, s0 + ms⟩,
      ⟨X.admits, X.cas, X.clock, X.frames, X.room, X.hears, X.method, X.code, (X.here.setHeapUsed s₂.heap s₂.slotsUsed).setVm hW'.alike, X.tail, State.WarmedH.trans X.warmed hW', X.limits, X.bytes, X.same.trans (hsame.setVm s.vm)⟩,
      ⟨g, mk, s₂, L, E, ce, rfl, rfl, hx, hce, hcv, hcl, rfl, hL, rfl, rfl⟩, ?_⟩
    show Steps p.tables e below _ (((({ U with heap := s₂.heap, slotsUsed := s₂.slotsUsed } : State).setVm s₂.vm).setTop g).pushFrame (.throwing q))
    rw [← hs₂]
    exact hsteps
end
variable {p : Program} {l : Launch} {e : Env} {R : Room} {s : State} {m : MethodId} {args : Array Value} {below : List Frame} {meth : Method} {c : Code} {T : State} {H : Heap} {locs : List Loc} {cells slots : Nat}
theorem vx_callVX (X : Stand p l e R s m args below meth c T locs cells slots) (hexec : p.tables.exec = Jvm.exec) {own C : String} {index : Nat} {y : MethodName} {bytes : ByteArray} {maxL : Nat} {ret : Option FieldType} {hh : List (Nat × Nat × Nat × Nat)}
    (hown : s.vm.findClass own = some m.cls) (hlink : (Cond.methodLink own index y).before args s = true) (hinst : (Cond.instanceMethod y).before args s = true) (hsel : (Cond.selects C y y).before args s = true)
    (hcode : (Cond.codeWith y bytes maxL ret hh).before args s = true) (hy : y.cls ≠ "java/lang/invoke/MethodHandle" ∧ y.cls ≠ "java/lang/invoke/VarHandle")
    {W9 : Nat} {Pre : Pt → Array Value → Prop} {Post : Pt → Array Value → Option Value → Pt → Prop} {PostX : Pt → Array Value → Addr → Pt → Prop} (hK : vx_Back l R p e below s args y 3 W9 Pre Post PostX)
    {b : Addr} {cellB : Cell} (hcell : T.heap[b]? = some cellB) (hobj : cellB.vm.isStatics = false) (hcls : s.vm.findClass C = some cellB.cls)
    {g : JFrame} (hg : g.method = m) (hsize : g.locals.size = c.maxLocals) {argsL rest : List Value} (hlen : ∀ sig, parseMethodDescriptor y.desc = some sig → argsL.length = sig.parameters.length)
    (hstack : g.stack = argsL.reverse ++ .ref b :: rest) (hW : 2 * g.monitorRoom + (rest.map fun v => v.category).sum ≤ W9) (hdg : decode c.code g.pc = .ok (.invokevirtual index, 3))
    (hpre : ∀ vm₁, s.WarmedH vm₁ → Pre ⟨T.setVm vm₁, locs, cells, slots⟩ (Value.ref b :: argsL).toArray) :
    (∃ (v : Option Value) (vm₁ : Vm) (B : Pt), s.WarmedH vm₁ ∧ Stand p l e R s m args below meth c B.U B.locs B.cells B.slots ∧ Post ⟨T.setVm vm₁, locs, cells, slots⟩ (Value.ref b :: argsL).toArray v B ∧
      ∀ target, Steps p.tables e below (B.U.setTop { g with pc := g.pc + 3, stack := v.toList ++ rest }) target → Steps p.tables e below (T.setTop g) target) ∨
    (∃ (q : Addr) (vm₁ : Vm) (B : Pt), s.WarmedH vm₁ ∧ Stand p l e R s m args below meth c B.U B.locs B.cells B.slots ∧ PostX ⟨T.setVm vm₁, locs, cells, slots⟩ (Value.ref b :: argsL).toArray q B ∧
      Steps p.tables e below (T.setTop g) ((B.U.setTop { g with stack := rest }).pushFrame (.throwing q))) := by
  obtain ⟨mk, methM, hnamed, hmethM, hstM, habM⟩ := Cond.instanceMethod_spec hinst
  obtain ⟨m8, methM', cM, hn8, hmethM', -, -, -, -, -, -, hsigM⟩ := Cond.codeWith_spec hcode
  cases Option.some.inj (hn8.symm.trans hnamed)
  cases hmethM.symm.trans hmethM'
  obtain ⟨c2, r2, m2, q1, q2, q3, q4, kP, hkP, hkPi⟩ := Cond.selects_spec hsel
  cases hcls.symm.trans q1
  cases (State.methodFound?_of_named hnamed hy).symm.trans q2
  cases hnamed.symm.trans q3
  have hselP : selectMethod e.platform s.vm cellB.cls mk = .method mk := by rw [Launch.admits_selectMethod X.admits]; exact q4
  obtain ⟨vm₁, X₁, hstep₁⟩ := X.invokevirtual hexec hown hlink hnamed hmethM hstM hkP hkPi hy (a := b) (cell := cellB) hcell
    (fun z h => by rw [h] at hobj; cases hobj) hselP hmethM habM hkP hkPi (g := g) hg (argsL := argsL) (rest := rest) (hlen _ hsigM) hstack hdg
  rcases hK m meth c ⟨T.setVm vm₁, locs, cells, slots⟩ { g with stack := rest } (.invokevirtual index) mk (Value.ref b :: argsL).toArray X₁ hg hsize hdg hW (X₁.named hnamed) (hpre vm₁ X₁.warmed) with ⟨v, B, X', hpost, hsteps⟩ | ⟨q, B, X', hpost, hsteps⟩
  · exact Or.inl ⟨v, vm₁, B, X₁.warmed, X', hpost, fun target h => hstep₁ _ fun acts => by rw [doInvoke_state]; exact hsteps.trans h⟩
  · exact Or.inr ⟨q, vm₁, B, X₁.warmed, X', hpost, hstep₁ _ fun acts => by rw [doInvoke_state]; exact hsteps⟩
theorem vx_callSX (X : Stand p l e R s m args below meth c T locs cells slots) (hexec : p.tables.exec = Jvm.exec) {own : String} {index : Nat} {y : MethodName} {bytes : ByteArray} {maxL : Nat} {ret : Option FieldType} {hh : List (Nat × Nat × Nat × Nat)}
    (hown : s.vm.findClass own = some m.cls) (hlink : (Cond.methodLink own index y).before args s = true) (hstat : (Cond.static y).before args s = true) (hinit : (Cond.initialized y.cls).before args s = true)
    (hcode : (Cond.codeWith y bytes maxL ret hh).before args s = true) (hy : y.cls ≠ "java/lang/invoke/MethodHandle" ∧ y.cls ≠ "java/lang/invoke/VarHandle")
    {W9 : Nat} {Pre : Pt → Array Value → Prop} {Post : Pt → Array Value → Option Value → Pt → Prop} {PostX : Pt → Array Value → Addr → Pt → Prop} (hK : vx_Back l R p e below s args y 3 W9 Pre Post PostX)
    {g : JFrame} (hg : g.method = m) (hsize : g.locals.size = c.maxLocals) {argsL rest : List Value} (hlen : ∀ sig, parseMethodDescriptor y.desc = some sig → argsL.length = sig.parameters.length)
    (hstack : g.stack = argsL.reverse ++ rest) (hW : 2 * g.monitorRoom + (rest.map fun v => v.category).sum ≤ W9) (hdg : decode c.code g.pc = .ok (.invokestatic index, 3))
    (hpre : ∀ vm₁, s.WarmedH vm₁ → Pre ⟨T.setVm vm₁, locs, cells, slots⟩ argsL.toArray) :
    (∃ (v : Option Value) (vm₁ : Vm) (B : Pt), s.WarmedH vm₁ ∧ Stand p l e R s m args below meth c B.U B.locs B.cells B.slots ∧ Post ⟨T.setVm vm₁, locs, cells, slots⟩ argsL.toArray v B ∧
      ∀ target, Steps p.tables e below (B.U.setTop { g with pc := g.pc + 3, stack := v.toList ++ rest }) target → Steps p.tables e below (T.setTop g) target) ∨
    (∃ (q : Addr) (vm₁ : Vm) (B : Pt), s.WarmedH vm₁ ∧ Stand p l e R s m args below meth c B.U B.locs B.cells B.slots ∧ PostX ⟨T.setVm vm₁, locs, cells, slots⟩ argsL.toArray q B ∧
      Steps p.tables e below (T.setTop g) ((B.U.setTop { g with stack := rest }).pushFrame (.throwing q))) := by
  obtain ⟨mk, methM, cM, hnamed, hmethM, -, -, -, -, -, -, hsigM⟩ := Cond.codeWith_spec hcode
  have hstatic : methM.isStatic = true := Cond.static_spec hnamed hmethM hstat
  obtain ⟨kP, hkP, -⟩ := className_of_methodNamed hnamed
  have hinitP : kP.init = .initialized := Cond.initialized_spec (findClass_of_methodNamed hnamed) hkP hinit
  obtain ⟨vm₁, X₁, hstep₁⟩ := X.invokestatic hexec hown hlink hnamed hmethM hstatic hkP hinitP hy (g := g) hg (argsL := argsL) (rest := rest) (hlen _ hsigM) hstack hdg
  rcases hK m meth c ⟨T.setVm vm₁, locs, cells, slots⟩ { g with stack := rest } (.invokestatic index) mk argsL.toArray X₁ hg hsize hdg hW (X₁.named hnamed) (hpre vm₁ X₁.warmed) with ⟨v, B, X', hpost, hsteps⟩ | ⟨q, B, X', hpost, hsteps⟩
  · exact Or.inl ⟨v, vm₁, B, X₁.warmed, X', hpost, fun target h => hstep₁ _ fun acts => by rw [doInvoke_state]; exact hsteps.trans h⟩
  · exact Or.inr ⟨q, vm₁, B, X₁.warmed, X', hpost, hstep₁ _ fun acts => by rw [doInvoke_state]; exact hsteps⟩
theorem vx_callVW (X : Stand p l e R s m args below meth c T locs cells slots) (hexec : p.tables.exec = Jvm.exec) {own C : String} {index : Nat} {y : MethodName} {bytes : ByteArray} {maxL : Nat} {ret : Option FieldType} {hh : List (Nat × Nat × Nat × Nat)}
    (hown : s.vm.findClass own = some m.cls) (hlink : (Cond.methodLink own index y).before args s = true) (hinst : (Cond.instanceMethod y).before args s = true) (hsel : (Cond.selects C y y).before args s = true)
    (hcode : (Cond.codeWith y bytes maxL ret hh).before args s = true) (hy : y.cls ≠ "java/lang/invoke/MethodHandle" ∧ y.cls ≠ "java/lang/invoke/VarHandle")
    {W9 : Nat} {Pre : Pt → Array Value → Prop} {Post : Pt → Array Value → Option Value → Pt → Prop} (hK : Back l R p e below s args y 3 W9 Pre Post)
    {b : Addr} {cellB : Cell} (hcell : T.heap[b]? = some cellB) (hobj : cellB.vm.isStatics = false) (hcls : s.vm.findClass C = some cellB.cls)
    {g : JFrame} (hg : g.method = m) (hsize : g.locals.size = c.maxLocals) {argsL rest : List Value} (hlen : ∀ sig, parseMethodDescriptor y.desc = some sig → argsL.length = sig.parameters.length)
    (hstack : g.stack = argsL.reverse ++ .ref b :: rest) (hW : 2 * g.monitorRoom + (rest.map fun v => v.category).sum ≤ W9) (hdg : decode c.code g.pc = .ok (.invokevirtual index, 3))
    (hpre : ∀ vm₁, s.WarmedH vm₁ → Pre ⟨T.setVm vm₁, locs, cells, slots⟩ (Value.ref b :: argsL).toArray) :
    ∃ (v : Option Value) (vm₁ : Vm) (B : Pt), s.WarmedH vm₁ ∧ Stand p l e R s m args below meth c B.U B.locs B.cells B.slots ∧ Post ⟨T.setVm vm₁, locs, cells, slots⟩ (Value.ref b :: argsL).toArray v B ∧
      ∀ target, Steps p.tables e below (B.U.setTop { g with pc := g.pc + 3, stack := v.toList ++ rest }) target → Steps p.tables e below (T.setTop g) target := by
  obtain ⟨mk, methM, hnamed, hmethM, hstM, habM⟩ := Cond.instanceMethod_spec hinst
  obtain ⟨m8, methM', cM, hn8, hmethM', -, -, -, -, -, -, hsigM⟩ := Cond.codeWith_spec hcode
  cases Option.some.inj (hn8.symm.trans hnamed)
  cases hmethM.symm.trans hmethM'
  obtain ⟨c2, r2, m2, q1, q2, q3, q4, kP, hkP, hkPi⟩ := Cond.selects_spec hsel
  cases hcls.symm.trans q1
  cases (State.methodFound?_of_named hnamed hy).symm.trans q2
  cases hnamed.symm.trans q3
  have hselP : selectMethod e.platform s.vm cellB.cls mk = .method mk := by rw [Launch.admits_selectMethod X.admits]; exact q4
  obtain ⟨vm₁, X₁, hstep₁⟩ := X.invokevirtual hexec hown hlink hnamed hmethM hstM hkP hkPi hy (a := b) (cell := cellB) hcell
    (fun z h => by rw [h] at hobj; cases hobj) hselP hmethM habM hkP hkPi (g := g) hg (argsL := argsL) (rest := rest) (hlen _ hsigM) hstack hdg
  obtain ⟨v, B, X', hpost, hsteps⟩ := hK m meth c ⟨T.setVm vm₁, locs, cells, slots⟩ { g with stack := rest } (.invokevirtual index) mk (Value.ref b :: argsL).toArray X₁ hg hsize hdg hW (X₁.named hnamed) (hpre vm₁ X₁.warmed)
  exact ⟨v, vm₁, B, X₁.warmed, X', hpost, fun target h => hstep₁ _ fun acts => by rw [doInvoke_state]; exact hsteps.trans h⟩
abbrev vx_CVW (R : Room) (s : State) (args : Array Value) (own C : String) (index : Nat) (y : MethodName) (bytes : ByteArray) (maxL : Nat) (ret : Option FieldType) (hh : List (Nat × Nat × Nat × Nat)) (ws : List Cond) (rm : Room) (mc ms n : Nat) : Prop :=
  (rm.cells = mc ∧ rm.slots = ms ∧ rm.frames + 1 ≤ R.frames ∧ 8 + (maxL + 11) + rm.locals ≤ R.locals ∧ (∀ w ∈ ws, ∀ (a' : Array Value) (U : State), s.WarmedH U.vm → w.before a' U = true) ∧ Cond.codeWith y bytes maxL ret hh ∈ ws) ∧
  (Cond.codeWith y bytes maxL ret hh).before args s = true ∧ (Cond.initialized y.cls).before args s = true ∧ (y.cls ≠ "java/lang/invoke/MethodHandle" ∧ y.cls ≠ "java/lang/invoke/VarHandle") ∧
  (∀ sig, parseMethodDescriptor y.desc = some sig → n = sig.parameters.length) ∧ (Cond.methodLink own index y).before args s = true ∧ (Cond.instanceMethod y).before args s = true ∧ (Cond.selects C y y).before args s = true
theorem vx_cwVW {own C : String} {index maxL mc ms : Nat} {y : MethodName} {bytes : ByteArray} {ret : Option FieldType} {hh : List (Nat × Nat × Nat × Nat)} {Ts ws ws' : List Cond} {rm : Room} (n : Nat) (ht : ∀ w ∈ Ts, w.before args s = true) (hT : GoodIn Ts (wsV own index C y ws)) (hw : ws = Cond.codeWith y bytes maxL ret hh :: ws') (hrc : rm.cells = mc) (hrs : rm.slots = ms)
    (hd : y.cls = C ∧ y.cls ≠ "java/lang/invoke/MethodHandle" ∧ y.cls ≠ "java/lang/invoke/VarHandle" ∧ (parseMethodDescriptor y.desc).map (fun d => d.parameters.length) = some n) (hR : rm.frames + 1 ≤ R.frames ∧ 8 + (maxL + 11) + rm.locals ≤ R.locals) :
    vx_CVW R s args own C index y bytes maxL ret hh ws rm mc ms n := by
  obtain ⟨hC, hd⟩ := hd
  subst hC
  have ok : ∀ w ∈ wsV own index y.cls y ws, w.before args s = true := fun w h => ht w (hT w h).1
  have hG : GoodIn Ts ws := fun w h => hT w (by unfold wsV; exact List.mem_append_right _ h)
  have hc : Cond.codeWith y bytes maxL ret hh ∈ ws := by rw [hw]; exact List.mem_cons_self
  refine ⟨⟨hrc, hrs, hR.1, hR.2, pay_in ht hG, hc⟩, ht _ (hG _ hc).1, ok _ (by simp [wsV]), ⟨hd.1, hd.2.1⟩, fun sig h => ?_, ok _ (by simp [wsV]), ok _ (by simp [wsV]), ok _ (by simp [wsV])⟩
  have h2 := hd.2.2
  rw [h] at h2
  exact (Option.some.inj h2).symm
theorem vx_runVW {y : MethodName} {bytes cc : ByteArray} {maxL nL mc ms n index : Nat} {ret : Option FieldType} {hh : List (Nat × Nat × Nat × Nat)} {ws : List Cond} {rm : Room} {Pc : Array Value → State → Prop} {Qc : Array Value → State → Outcome → State → Prop} {free : Addr → Prop} {Ts : List Cond} {own C : String} {b : Addr} {As rest : List Value} {g : JFrame}
    (S : CallFix p m c cc nL s args Ts own) (hM : Met l y ws rm Pc Qc mc ms free) (cw : vx_CVW R s args own C index y bytes maxL ret hh ws rm mc ms n) (hp : PreV s H C b Pc As)
    (hg : g.method = m) (hn : As.length = n) (hsize : g.locals.size = nL) (hstack : g.stack = As.reverse ++ .ref b :: rest) (hW : 2 * g.monitorRoom + (rest.map fun v => v.category).sum ≤ 8) (hdg : decode cc g.pc = .ok (.invokevirtual index, 3)) (hf : cells + mc ≤ R.cells ∧ slots + ms ≤ R.slots) :
    va_Run p l e R s m args below meth c H locs cells slots mc ms g rest (Qc (Value.ref b :: As).toArray) free := by
  obtain ⟨⟨hrc, hrs, hfr, hlo, hws, hcw⟩, hcode, hini, hy, hlen, hl, hin, hse⟩ := cw
  have hK : Back l R p e below s args y 3 8 (PreOf R mc ms Pc) (PostOf Qc mc ms free) := va_backW (hh := hh) (bytes := bytes) (maxL := maxL) (ret := ret) hM hp.1 hrc hrs hfr hlo hws hcw (fun a' U hW => word_at hW (Or.inl (by first | rfl | simp [Cond.onTables, Cond.keeps, Cond.steady])) hini)
  obtain ⟨hx, hb, hml, ho, -⟩ := S
  obtain ⟨-, ⟨cellB, hcB, hoB, hclB⟩, hPc⟩ := hp
  intro T hT X
  obtain ⟨v, vm₁, ⟨U', l2, c2, s2⟩, hW₁, X', ⟨g', mk, t, L, e1, e2, hq, h1, hL, h2, h3⟩, st⟩ := vx_callVW X hx (C := C) (hh := hh) (bytes := bytes) (maxL := maxL) (ret := ret) ho hl hin hse hcode hy hK (by rw [hT]; exact hcB) hoB hclB hg (hsize.trans hml.symm) (argsL := As) (rest := rest) (fun sig h => hn.trans (hlen sig h)) hstack hW (by rw [hb]; exact hdg)
    (fun vm₁ hW₁ => ⟨hf.1, hf.2, hPc (T.setVm vm₁) hT hW₁⟩)
  dsimp only [Pt.U, Pt.locs, Pt.cells, Pt.slots] at X' e1 e2 h1 h2 h3 st
  subst h1; subst h2; subst h3
  exact ⟨v, (T.setVm vm₁).calling g' mk (Value.ref b :: As).toArray, t, U', L, hT, X', hL, e1, e2, hq, st⟩
section
variable {y : MethodName} {bytes cc : ByteArray} {maxL nL mc ms n index : Nat} {ret : Option FieldType} {ws : List Cond} {rm : Room} {Pc : Array Value → State → Prop} {Qc : Array Value → State → Outcome → State → Prop} {XC : String → State → State → Prop} {free : Addr → Prop} {Ts : List Cond} {own C : String} {b : Addr} {As rest : List Value} {g : JFrame}
theorem vx_runVX {hh : List (Nat × Nat × Nat × Nat)} (S : CallFix p m c cc nL s args Ts own) (hM : vx_Met l y ws rm Pc Qc XC mc ms free) (cw : vx_CVW R s args own C index y bytes maxL ret hh ws rm mc ms n) (hp : PreV s H C b Pc As)
    (hg : g.method = m) (hn : As.length = n) (hsize : g.locals.size = nL) (hstack : g.stack = As.reverse ++ .ref b :: rest) (hW : 2 * g.monitorRoom + (rest.map fun v => v.category).sum ≤ 8) (hdg : decode cc g.pc = .ok (.invokevirtual index, 3)) (hf : cells + mc ≤ R.cells ∧ slots + ms ≤ R.slots) :
    vx_Run p l e R s m args below meth c H locs cells slots mc ms g rest (Qc (Value.ref b :: As).toArray) XC free := by
  obtain ⟨⟨hrc, hrs, hfr, hlo, hws, hcw⟩, hcode, hini, hy, hlen, hl, hin, hse⟩ := cw
  have hK : vx_Back l R p e below s args y 3 8 (PreOf R mc ms Pc) (PostOf Qc mc ms free) (vx_Post XC mc ms free) := vx_backW (hh := hh) (bytes := bytes) (maxL := maxL) (ret := ret) hM hp.1 hrc hrs hfr hlo hws hcw (fun a' U hW => word_at hW (Or.inl (by first | rfl | simp [Cond.onTables, Cond.keeps, Cond.steady])) hini)
  obtain ⟨hx, hb, hml, ho, -⟩ := S
  obtain ⟨-, ⟨cellB, hcB, hoB, hclB⟩, hPc⟩ := hp
  intro T hT X
  rcases vx_callVX X hx (C := C) (hh := hh) (bytes := bytes) (maxL := maxL) (ret := ret) ho hl hin hse hcode hy hK (by rw [hT]; exact hcB) hoB hclB hg (hsize.trans hml.symm) (argsL := As) (rest := rest) (fun sig h => hn.trans (hlen sig h)) hstack hW (by rw [hb]; exact hdg)
    (fun vm₁ hW₁ => ⟨hf.1, hf.2, hPc (T.setVm vm₁) hT hW₁⟩) with ⟨v, vm₁, ⟨U', l2, c2, s2⟩, hW₁, X', ⟨g', mk, t, L, e1, e2, hq, h1, hL, h2, h3⟩, st⟩ | ⟨q, vm₁, ⟨U', l2, c2, s2⟩, hW₁, X', ⟨g', mk, t, L, E, ce, e1, e2, hq, hce, hcv, hcl, h1, hL, h2, h3⟩, st⟩
  · dsimp only [Pt.U, Pt.locs, Pt.cells, Pt.slots] at X' e1 e2 h1 h2 h3 st
    subst h1; subst h2; subst h3
    exact Or.inl ⟨v, (T.setVm vm₁).calling g' mk (Value.ref b :: As).toArray, t, U', L, hT, X', hL, e1, e2, hq, st⟩
  · dsimp only [Pt.U, Pt.locs, Pt.cells, Pt.slots] at X' e1 e2 h1 h2 h3 st hcl
    subst h1; subst h2; subst h3
    exact Or.inr ⟨q, (T.setVm vm₁).calling g' mk (Value.ref b :: As).toArray, t, U', L, E, ce, hT, X', hL, e1, e2, hq, hce, hcv, vx_cls hW₁ hcl, st⟩
theorem vx_runSX {hh : List (Nat × Nat × Nat × Nat)} (S : CallFix p m c cc nL s args Ts own) (hM : vx_Met l y ws rm Pc Qc XC mc ms free) (cw : vx_CSW R s args own index y bytes maxL ret hh ws rm mc ms n) (hp : PreS s H Pc As)
    (hg : g.method = m) (hn : As.length = n) (hsize : g.locals.size = nL) (hstack : g.stack = As.reverse ++ rest) (hW : 2 * g.monitorRoom + (rest.map fun v => v.category).sum ≤ 8) (hdg : decode cc g.pc = .ok (.invokestatic index, 3)) (hf : cells + mc ≤ R.cells ∧ slots + ms ≤ R.slots) :
    vx_Run p l e R s m args below meth c H locs cells slots mc ms g rest (Qc As.toArray) XC free := by
  obtain ⟨⟨hrc, hrs, hfr, hlo, hws, hcw⟩, hcode, hini, hy, hlen, hl, hstt⟩ := cw
  have hK : vx_Back l R p e below s args y 3 8 (PreOf R mc ms Pc) (PostOf Qc mc ms free) (vx_Post XC mc ms free) := vx_backW (hh := hh) (bytes := bytes) (maxL := maxL) (ret := ret) hM hp.1 hrc hrs hfr hlo hws hcw (fun a' U hW => word_at hW (Or.inl (by first | rfl | simp [Cond.onTables, Cond.keeps, Cond.steady])) hini)
  obtain ⟨hx, hb, hml, ho, -⟩ := S
  intro T hT X
  rcases vx_callSX X hx (hh := hh) (bytes := bytes) (maxL := maxL) (ret := ret) ho hl hstt hini hcode hy hK hg (hsize.trans hml.symm) (argsL := As) (rest := rest) (fun sig h => hn.trans (hlen sig h)) hstack hW (by rw [hb]; exact hdg)
    (fun vm₁ hW₁ => ⟨hf.1, hf.2, hp.2 (T.setVm vm₁) hT hW₁⟩) with ⟨v, vm₁, ⟨U', l2, c2, s2⟩, hW₁, X', ⟨g', mk, t, L, e1, e2, hq, h1, hL, h2, h3⟩, st⟩ | ⟨q, vm₁, ⟨U', l2, c2, s2⟩, hW₁, X', ⟨g', mk, t, L, E, ce, e1, e2, hq, hce, hcv, hcl, h1, hL, h2, h3⟩, st⟩
  · dsimp only [Pt.U, Pt.locs, Pt.cells, Pt.slots] at X' e1 e2 h1 h2 h3 st
    subst h1; subst h2; subst h3
    exact Or.inl ⟨v, (T.setVm vm₁).calling g' mk As.toArray, t, U', L, hT, X', hL, e1, e2, hq, st⟩
  · dsimp only [Pt.U, Pt.locs, Pt.cells, Pt.slots] at X' e1 e2 h1 h2 h3 st hcl
    subst h1; subst h2; subst h3
    exact Or.inr ⟨q, (T.setVm vm₁).calling g' mk As.toArray, t, U', L, E, ce, hT, X', hL, e1, e2, hq, hce, hcv, vx_cls hW₁ hcl, st⟩
end
end VXH
theorem vx_ofWH {l : Launch} {y : MethodName} {ws ws' : List Cond} {rm : Room} {Pc : Array Value → State → Prop} {Qc : Array Value → State → Outcome → State → Prop} {XC : String → State → State → Prop} {mc ms : Nat} {free : Addr → Prop} {cc : ByteArray} {maxL : Nat} {ret : Option FieldType} {hh : List (Nat × Nat × Nat × Nat)}
    (hy : plainName y.cls = true) (hw : ws = Cond.codeWith y cc maxL ret hh :: ws')
    (body : ∀ p e s m args below meth c s₁, BodyLoose p l y (headSpec ws rm) cc maxL ret e s m args below meth c s₁ → c.maxLocals = maxL → Pc args s →
      W p l e (headSpec ws rm).room s m args below meth c s.heap [] 0 0 (vx_MQ below Qc XC args s mc ms free) (entryFrame m args maxL)) : vx_Met l y ws rm Pc Qc XC mc ms free := by
  refine MetFree.of_bodyS (code := cc) (maxLocals := maxL) (ret := ret) hy ?_ ?_
  · intro args s m h hn
    obtain ⟨m9, meth, c, hn9, h1, h2, h3, h4, -, h5, h6, -⟩ := Cond.codeWith_spec (atoms_spec (ws := ws) h _ (by rw [hw]; exact List.mem_cons_self))
    cases hn.symm.trans hn9
    exact ⟨meth, c, h1, h2, h3, h4, h5, h6⟩
  · intro p e s m args below meth c s₁ B hml hP _
    have hh0 : s₁.heap = s.heap := by rw [B.state]; rfl
    obtain ⟨t, a1, o, b1, b2, b3⟩ := body p e s m args below meth c s₁ B hml hP s₁ hh0 (Stand.of_body B)
    exact ⟨t, o, a1, b1, b2, b3⟩
/-! ===== END ===== -/
end
section
/-! ===== BEGIN printed: names, fields, word lists, decode rows ===== -/
def RX0 : String := "HemSuffixes$Hem"
def TX0 : u_T := fun k => match k with
  | 0 => ("HemSuffixes$Hem", "stitches", "LHemSuffixes$Stitches;", true)
  | _ => ("HemSuffixes$Hem", "placesInOrder", "[I", true)
def tyX0 : Nat → FieldType := fun k => match k with
  | 0 => .object "HemSuffixes$Stitches"
  | _ => .array .int
abbrev wsX00 : List Cond := u_ws RX0 TX0 2
theorem nmX0 : ∀ a, a < 2 → ∀ b, b < 2 → a ≠ b → (TX0 a).2.1 ≠ (TX0 b).2.1 := by decide +kernel
theorem tyX0_ok : ∀ k, k < 2 → parseFieldDescriptor (TX0 k).2.2.1 = some (tyX0 k) := by decide +kernel
abbrev cX0_init : ByteArray := prog_2_method_1_code
def yX0_init : MethodName := ⟨RX0, "<init>", "()V"⟩
abbrev cX0_sewOn : ByteArray := prog_2_method_2_code
def yX0_sewOn : MethodName := ⟨RX0, "sewOn", "(I)V"⟩
abbrev cX0_sewBeginning : ByteArray := prog_2_method_3_code
def yX0_sewBeginning : MethodName := ⟨RX0, "sewBeginning", "(I)V"⟩
abbrev cX0_takeOff : ByteArray := prog_2_method_4_code
def yX0_takeOff : MethodName := ⟨RX0, "takeOff", "(I)V"⟩
abbrev cX0_orderEnds : ByteArray := prog_2_method_5_code
def yX0_orderEnds : MethodName := ⟨RX0, "orderEnds", "()V"⟩
abbrev cX0_putInOrder : ByteArray := prog_2_method_6_code
def yX0_putInOrder : MethodName := ⟨RX0, "putInOrder", "(II)V"⟩
abbrev cX0_placeAt : ByteArray := prog_2_method_7_code
def yX0_placeAt : MethodName := ⟨RX0, "placeAt", "(I)I"⟩
abbrev cX0_rankOf : ByteArray := prog_2_method_8_code
def yX0_rankOf : MethodName := ⟨RX0, "rankOf", "(I)I"⟩
abbrev cX0_sharedWithNext : ByteArray := prog_2_method_9_code
def yX0_sharedWithNext : MethodName := ⟨RX0, "sharedWithNext", "(I)I"⟩
abbrev cX0_neighbourPairs : ByteArray := prog_2_method_10_code
def yX0_neighbourPairs : MethodName := ⟨RX0, "neighbourPairs", "()I"⟩
abbrev cX0_sharedByNeighbours : ByteArray := prog_2_method_11_code
def yX0_sharedByNeighbours : MethodName := ⟨RX0, "sharedByNeighbours", "()I"⟩
abbrev cX0_rowsFirstAt : ByteArray := prog_2_method_12_code
def yX0_rowsFirstAt : MethodName := ⟨RX0, "rowsFirstAt", "(I)I"⟩
abbrev cX0_differentRows : ByteArray := prog_2_method_13_code
def yX0_differentRows : MethodName := ⟨RX0, "differentRows", "()I"⟩
abbrev cX0_rowOfNumber : ByteArray := prog_2_method_14_code
def yX0_rowOfNumber : MethodName := ⟨RX0, "rowOfNumber", "(I)I"⟩
abbrev cX0_repeatRank : ByteArray := prog_2_method_15_code
def yX0_repeatRank : MethodName := ⟨RX0, "repeatRank", "()I"⟩
def RX1 : String := "HemSuffixes$Stitches"
def TX1 : u_T := fun k => match k with
  | 0 => ("HemSuffixes$Stitches", "kinds", "[I", true)
  | _ => ("HemSuffixes$Stitches", "length", "I", false)
def tyX1 : Nat → FieldType := fun k => match k with
  | 0 => .array .int
  | _ => .int
abbrev wsX10 : List Cond := u_ws RX1 TX1 2
theorem nmX1 : ∀ a, a < 2 → ∀ b, b < 2 → a ≠ b → (TX1 a).2.1 ≠ (TX1 b).2.1 := by decide +kernel
theorem tyX1_ok : ∀ k, k < 2 → parseFieldDescriptor (TX1 k).2.2.1 = some (tyX1 k) := by decide +kernel
abbrev cX1_init : ByteArray := prog_3_method_1_code
def yX1_init : MethodName := ⟨RX1, "<init>", "()V"⟩
abbrev cX1_at : ByteArray := prog_3_method_2_code
def yX1_at : MethodName := ⟨RX1, "at", "(I)I"⟩
abbrev cX1_append : ByteArray := prog_3_method_3_code
def yX1_append : MethodName := ⟨RX1, "append", "(I)V"⟩
abbrev cX1_drop : ByteArray := prog_3_method_4_code
def yX1_drop : MethodName := ⟨RX1, "drop", "(I)V"⟩
abbrev cX1_sharedWith : ByteArray := prog_3_method_5_code
def yX1_sharedWith : MethodName := ⟨RX1, "sharedWith", "(ILHemSuffixes$Stitches;I)I"⟩
abbrev cX1_difference : ByteArray := prog_3_method_6_code
def yX1_difference : MethodName := ⟨RX1, "difference", "(ILHemSuffixes$Stitches;I)I"⟩
abbrev cX1_mostSharedWith : ByteArray := prog_3_method_7_code
def yX1_mostSharedWith : MethodName := ⟨RX1, "mostSharedWith", "(ILHemSuffixes$Stitches;)I"⟩
abbrev cX1_standsAt : ByteArray := prog_3_method_8_code
def yX1_standsAt : MethodName := ⟨RX1, "standsAt", "(ILHemSuffixes$Stitches;II)Z"⟩
abbrev cX1_firstPlaceOf : ByteArray := prog_3_method_9_code
def yX1_firstPlaceOf : MethodName := ⟨RX1, "firstPlaceOf", "(LHemSuffixes$Stitches;II)I"⟩
abbrev cX1_placesOf : ByteArray := prog_3_method_10_code
def yX1_placesOf : MethodName := ⟨RX1, "placesOf", "(LHemSuffixes$Stitches;II)I"⟩
abbrev cX1_leastPeriod : ByteArray := prog_3_method_11_code
def yX1_leastPeriod : MethodName := ⟨RX1, "leastPeriod", "()I"⟩
abbrev cX1_bestBeginning : ByteArray := prog_3_method_12_code
def yX1_bestBeginning : MethodName := ⟨RX1, "bestBeginning", "()I"⟩
abbrev cX1_turnsToLess : ByteArray := prog_3_method_13_code
def yX1_turnsToLess : MethodName := ⟨RX1, "turnsToLess", "(II)Z"⟩
abbrev cX1_allAround : ByteArray := prog_3_method_14_code
def yX1_allAround : MethodName := ⟨RX1, "allAround", "(I)I"⟩
abbrev cX1_newRowsBy : ByteArray := prog_3_method_15_code
def yX1_newRowsBy : MethodName := ⟨RX1, "newRowsBy", "(I)I"⟩
abbrev cX1_sharedBackwardsFrom : ByteArray := prog_3_method_16_code
def yX1_sharedBackwardsFrom : MethodName := ⟨RX1, "sharedBackwardsFrom", "(I)I"⟩
def RX2 : String := "HemSuffixes"
def TX2 : u_T := fun k => match k with
  | 0 => ("HemSuffixes", "hemZero", "LHemSuffixes$Hem;", true)
  | 1 => ("HemSuffixes", "hemOne", "LHemSuffixes$Hem;", true)
  | _ => ("HemSuffixes", "sample", "LHemSuffixes$Stitches;", true)
def tyX2 : Nat → FieldType := fun k => match k with
  | 0 => .object "HemSuffixes$Hem"
  | 1 => .object "HemSuffixes$Hem"
  | _ => .object "HemSuffixes$Stitches"
abbrev wsX20 : List Cond := u_ws RX2 TX2 3
theorem nmX2 : ∀ a, a < 3 → ∀ b, b < 3 → a ≠ b → (TX2 a).2.1 ≠ (TX2 b).2.1 := by decide +kernel
theorem tyX2_ok : ∀ k, k < 3 → parseFieldDescriptor (TX2 k).2.2.1 = some (tyX2 k) := by decide +kernel
abbrev cX2_init : ByteArray := prog_1_method_1_code
def yX2_init : MethodName := ⟨RX2, "<init>", "()V"⟩
abbrev cX2_sew : ByteArray := prog_1_method_2_code
def yX2_sew : MethodName := ⟨RX2, "sew", "(II)I"⟩
abbrev cX2_again : ByteArray := prog_1_method_3_code
def yX2_again : MethodName := ⟨RX2, "again", "(II)I"⟩
abbrev cX2_unpick : ByteArray := prog_1_method_4_code
def yX2_unpick : MethodName := ⟨RX2, "unpick", "(II)I"⟩
abbrev cX2_add : ByteArray := prog_1_method_5_code
def yX2_add : MethodName := ⟨RX2, "add", "(I)I"⟩
abbrev cX2_clear : ByteArray := prog_1_method_6_code
def yX2_clear : MethodName := ⟨RX2, "clear", "()I"⟩
abbrev cX2_stitch : ByteArray := prog_1_method_7_code
def yX2_stitch : MethodName := ⟨RX2, "stitch", "(II)I"⟩
abbrev cX2_count : ByteArray := prog_1_method_8_code
def yX2_count : MethodName := ⟨RX2, "count", "(I)I"⟩
abbrev cX2_end : ByteArray := prog_1_method_9_code
def yX2_end : MethodName := ⟨RX2, "end", "(II)I"⟩
abbrev cX2_rank : ByteArray := prog_1_method_10_code
def yX2_rank : MethodName := ⟨RX2, "rank", "(II)I"⟩
abbrev cX2_common : ByteArray := prog_1_method_11_code
def yX2_common : MethodName := ⟨RX2, "common", "(III)I"⟩
abbrev cX2_against : ByteArray := prog_1_method_12_code
def yX2_against : MethodName := ⟨RX2, "against", "(II)I"⟩
abbrev cX2_repeat : ByteArray := prog_1_method_13_code
def yX2_repeat : MethodName := ⟨RX2, "repeat", "(II)I"⟩
abbrev cX2_row : ByteArray := prog_1_method_14_code
def yX2_row : MethodName := ⟨RX2, "row", "(II)I"⟩
abbrev cX2_found : ByteArray := prog_1_method_15_code
def yX2_found : MethodName := ⟨RX2, "found", "(I)I"⟩
abbrev cX2_first : ByteArray := prog_1_method_16_code
def yX2_first : MethodName := ⟨RX2, "first", "(I)I"⟩
abbrev cX2_period : ByteArray := prog_1_method_17_code
def yX2_period : MethodName := ⟨RX2, "period", "(I)I"⟩
abbrev cX2_turned : ByteArray := prog_1_method_18_code
def yX2_turned : MethodName := ⟨RX2, "turned", "(I)I"⟩
abbrev cX2_seam : ByteArray := prog_1_method_19_code
def yX2_seam : MethodName := ⟨RX2, "seam", "(I)I"⟩
abbrev cX2_would : ByteArray := prog_1_method_20_code
def yX2_would : MethodName := ⟨RX2, "would", "(II)I"⟩
abbrev cX2_advise : ByteArray := prog_1_method_21_code
def yX2_advise : MethodName := ⟨RX2, "advise", "(I)I"⟩
abbrev cX2_mean : ByteArray := prog_1_method_22_code
def yX2_mean : MethodName := ⟨RX2, "mean", "()D"⟩
abbrev cX2_digest : ByteArray := prog_1_method_23_code
def yX2_digest : MethodName := ⟨RX2, "digest", "()J"⟩
abbrev cX2_hemMixed : ByteArray := prog_1_method_24_code
def yX2_hemMixed : MethodName := ⟨RX2, "hemMixed", "(JI)J"⟩
abbrev cX2_stitchesMixed : ByteArray := prog_1_method_25_code
def yX2_stitchesMixed : MethodName := ⟨RX2, "stitchesMixed", "(JLHemSuffixes$Stitches;)J"⟩
abbrev cX2_mixed : ByteArray := prog_1_method_26_code
def yX2_mixed : MethodName := ⟨RX2, "mixed", "(JI)J"⟩
abbrev cX2_hemOf : ByteArray := prog_1_method_27_code
def yX2_hemOf : MethodName := ⟨RX2, "hemOf", "(I)LHemSuffixes$Hem;"⟩
abbrev cX2_requireStitch : ByteArray := prog_1_method_28_code
def yX2_requireStitch : MethodName := ⟨RX2, "requireStitch", "(I)V"⟩
abbrev cX2_requirePlace : ByteArray := prog_1_method_29_code
def yX2_requirePlace : MethodName := ⟨RX2, "requirePlace", "(LHemSuffixes$Stitches;I)V"⟩
abbrev cX2_seamPlace : ByteArray := prog_1_method_30_code
def yX2_seamPlace : MethodName := ⟨RX2, "seamPlace", "()I"⟩
abbrev cX2_seamLengthFrom : ByteArray := prog_1_method_31_code
def yX2_seamLengthFrom : MethodName := ⟨RX2, "seamLengthFrom", "(I)I"⟩
def RX3 : String := "HemSuffixesModel"
def TX3 : u_T := fun k => match k with
  | 0 => ("HemSuffixesModel", "thrown", "I", false)
  | 1 => ("HemSuffixesModel", "hem", "[[I", true)
  | 2 => ("HemSuffixesModel", "size", "[I", true)
  | 3 => ("HemSuffixesModel", "sample", "[I", true)
  | 4 => ("HemSuffixesModel", "samples", "I", false)
  | 5 => ("HemSuffixesModel", "same", "[[I", true)
  | 6 => ("HemSuffixesModel", "places", "[I", true)
  | _ => ("HemSuffixesModel", "both", "[[I", true)
def tyX3 : Nat → FieldType := fun k => match k with
  | 0 => .int
  | 1 => .array (.array .int)
  | 2 => .array .int
  | 3 => .array .int
  | 4 => .int
  | 5 => .array (.array .int)
  | 6 => .array .int
  | _ => .array (.array .int)
abbrev wsX30 : List Cond := u_ws RX3 TX3 8
theorem nmX3 : ∀ a, a < 8 → ∀ b, b < 8 → a ≠ b → (TX3 a).2.1 ≠ (TX3 b).2.1 := by decide +kernel
theorem tyX3_ok : ∀ k, k < 8 → parseFieldDescriptor (TX3 k).2.2.1 = some (tyX3 k) := by decide +kernel
abbrev cX3_init : ByteArray := prog_5_method_1_code
def yX3_init : MethodName := ⟨RX3, "<init>", "()V"⟩
abbrev cX3_thrown : ByteArray := prog_5_method_2_code
def yX3_thrown : MethodName := ⟨RX3, "thrown", "()I"⟩
abbrev cX3_no : ByteArray := prog_5_method_3_code
def yX3_no : MethodName := ⟨RX3, "no", "(I)I"⟩
abbrev cX3_isIn : ByteArray := prog_5_method_4_code
def yX3_isIn : MethodName := ⟨RX3, "isIn", "(III)Z"⟩
abbrev cX3_isHem : ByteArray := prog_5_method_5_code
def yX3_isHem : MethodName := ⟨RX3, "isHem", "(I)Z"⟩
abbrev cX3_isStitch : ByteArray := prog_5_method_6_code
def yX3_isStitch : MethodName := ⟨RX3, "isStitch", "(I)Z"⟩
abbrev cX3_isPlace : ByteArray := prog_5_method_7_code
def yX3_isPlace : MethodName := ⟨RX3, "isPlace", "(II)Z"⟩
abbrev cX3_compare : ByteArray := prog_5_method_8_code
def yX3_compare : MethodName := ⟨RX3, "compare", "([II[II[[I)V"⟩
abbrev cX3_by : ByteArray := prog_5_method_9_code
def yX3_by : MethodName := ⟨RX3, "by", "([III[IIII)I"⟩
abbrev cX3_isLess : ByteArray := prog_5_method_10_code
def yX3_isLess : MethodName := ⟨RX3, "isLess", "(III)Z"⟩
abbrev cX3_rankOf : ByteArray := prog_5_method_11_code
def yX3_rankOf : MethodName := ⟨RX3, "rankOf", "(II)I"⟩
abbrev cX3_look : ByteArray := prog_5_method_12_code
def yX3_look : MethodName := ⟨RX3, "look", "(I)V"⟩
abbrev cX3_order : ByteArray := prog_5_method_13_code
def yX3_order : MethodName := ⟨RX3, "order", "(I)V"⟩
abbrev cX3_lookAtBoth : ByteArray := prog_5_method_14_code
def yX3_lookAtBoth : MethodName := ⟨RX3, "lookAtBoth", "()V"⟩
abbrev cX3_mostBefore : ByteArray := prog_5_method_15_code
def yX3_mostBefore : MethodName := ⟨RX3, "mostBefore", "(I)I"⟩
abbrev cX3_differentRows : ByteArray := prog_5_method_16_code
def yX3_differentRows : MethodName := ⟨RX3, "differentRows", "(I)I"⟩
abbrev cX3_mostBeside : ByteArray := prog_5_method_17_code
def yX3_mostBeside : MethodName := ⟨RX3, "mostBeside", "(II)I"⟩
abbrev cX3_firstPlace : ByteArray := prog_5_method_18_code
def yX3_firstPlace : MethodName := ⟨RX3, "firstPlace", "(II)I"⟩
abbrev cX3_placesOf : ByteArray := prog_5_method_19_code
def yX3_placesOf : MethodName := ⟨RX3, "placesOf", "(III)I"⟩
abbrev cX3_repeatTold : ByteArray := prog_5_method_20_code
def yX3_repeatTold : MethodName := ⟨RX3, "repeatTold", "(II)I"⟩
abbrev cX3_mostAcross : ByteArray := prog_5_method_21_code
def yX3_mostAcross : MethodName := ⟨RX3, "mostAcross", "(I)I"⟩
abbrev cX3_seamTold : ByteArray := prog_5_method_22_code
def yX3_seamTold : MethodName := ⟨RX3, "seamTold", "(I)I"⟩
abbrev cX3_isSampleAt : ByteArray := prog_5_method_23_code
def yX3_isSampleAt : MethodName := ⟨RX3, "isSampleAt", "(II)Z"⟩
abbrev cX3_foundIn : ByteArray := prog_5_method_24_code
def yX3_foundIn : MethodName := ⟨RX3, "foundIn", "(I)I"⟩
abbrev cX3_isPeriod : ByteArray := prog_5_method_25_code
def yX3_isPeriod : MethodName := ⟨RX3, "isPeriod", "(II)Z"⟩
abbrev cX3_periodOf : ByteArray := prog_5_method_26_code
def yX3_periodOf : MethodName := ⟨RX3, "periodOf", "(I)I"⟩
abbrev cX3_isLessAround : ByteArray := prog_5_method_27_code
def yX3_isLessAround : MethodName := ⟨RX3, "isLessAround", "(III)Z"⟩
abbrev cX3_turnedOf : ByteArray := prog_5_method_28_code
def yX3_turnedOf : MethodName := ⟨RX3, "turnedOf", "(I)I"⟩
abbrev cX3_more : ByteArray := prog_5_method_29_code
def yX3_more : MethodName := ⟨RX3, "more", "(II)I"⟩
abbrev cX3_sew : ByteArray := prog_5_method_30_code
def yX3_sew : MethodName := ⟨RX3, "sew", "(II)I"⟩
abbrev cX3_again : ByteArray := prog_5_method_31_code
def yX3_again : MethodName := ⟨RX3, "again", "(II)I"⟩
abbrev cX3_unpick : ByteArray := prog_5_method_32_code
def yX3_unpick : MethodName := ⟨RX3, "unpick", "(II)I"⟩
abbrev cX3_add : ByteArray := prog_5_method_33_code
def yX3_add : MethodName := ⟨RX3, "add", "(I)I"⟩
abbrev cX3_clear : ByteArray := prog_5_method_34_code
def yX3_clear : MethodName := ⟨RX3, "clear", "()I"⟩
abbrev cX3_stitch : ByteArray := prog_5_method_35_code
def yX3_stitch : MethodName := ⟨RX3, "stitch", "(II)I"⟩
abbrev cX3_counted : ByteArray := prog_5_method_36_code
def yX3_counted : MethodName := ⟨RX3, "counted", "(I)I"⟩
abbrev cX3_count : ByteArray := prog_5_method_37_code
def yX3_count : MethodName := ⟨RX3, "count", "(I)I"⟩
abbrev cX3_end : ByteArray := prog_5_method_38_code
def yX3_end : MethodName := ⟨RX3, "end", "(II)I"⟩
abbrev cX3_rank : ByteArray := prog_5_method_39_code
def yX3_rank : MethodName := ⟨RX3, "rank", "(II)I"⟩
abbrev cX3_common : ByteArray := prog_5_method_40_code
def yX3_common : MethodName := ⟨RX3, "common", "(III)I"⟩
abbrev cX3_against : ByteArray := prog_5_method_41_code
def yX3_against : MethodName := ⟨RX3, "against", "(II)I"⟩
abbrev cX3_repeat : ByteArray := prog_5_method_42_code
def yX3_repeat : MethodName := ⟨RX3, "repeat", "(II)I"⟩
abbrev cX3_row : ByteArray := prog_5_method_43_code
def yX3_row : MethodName := ⟨RX3, "row", "(II)I"⟩
abbrev cX3_found : ByteArray := prog_5_method_44_code
def yX3_found : MethodName := ⟨RX3, "found", "(I)I"⟩
abbrev cX3_first : ByteArray := prog_5_method_45_code
def yX3_first : MethodName := ⟨RX3, "first", "(I)I"⟩
abbrev cX3_period : ByteArray := prog_5_method_46_code
def yX3_period : MethodName := ⟨RX3, "period", "(I)I"⟩
abbrev cX3_turned : ByteArray := prog_5_method_47_code
def yX3_turned : MethodName := ⟨RX3, "turned", "(I)I"⟩
abbrev cX3_seam : ByteArray := prog_5_method_48_code
def yX3_seam : MethodName := ⟨RX3, "seam", "(I)I"⟩
abbrev cX3_would : ByteArray := prog_5_method_49_code
def yX3_would : MethodName := ⟨RX3, "would", "(II)I"⟩
abbrev cX3_advise : ByteArray := prog_5_method_50_code
def yX3_advise : MethodName := ⟨RX3, "advise", "(I)I"⟩
abbrev cX3_mean : ByteArray := prog_5_method_51_code
def yX3_mean : MethodName := ⟨RX3, "mean", "()D"⟩
abbrev cX3_digest : ByteArray := prog_5_method_52_code
def yX3_digest : MethodName := ⟨RX3, "digest", "()J"⟩
def RJ9 : String := "java/lang/Math"
def TJ9 : u_T := fun k => match k with
  | _ => ("", "", "", false)
def tyJ9 : Nat → FieldType := fun k => match k with
  | _ => .int
abbrev wsJ90 : List Cond := u_ws RJ9 TJ9 0
theorem nmJ9 : ∀ a, a < 0 → ∀ b, b < 0 → a ≠ b → (TJ9 a).2.1 ≠ (TJ9 b).2.1 := by decide +kernel
theorem tyJ9_ok : ∀ k, k < 0 → parseFieldDescriptor (TJ9 k).2.2.1 = some (tyJ9 k) := by decide +kernel
abbrev cJ9_max_7cf53 : ByteArray := prog_10_method_65_code
def yJ9_max_7cf53 : MethodName := ⟨RJ9, "max", "(II)I"⟩
abbrev cJ9_min_7cf53 : ByteArray := prog_10_method_69_code
def yJ9_min_7cf53 : MethodName := ⟨RJ9, "min", "(II)I"⟩
def RJ0 : String := "java/lang/String"
def TJ0 : u_T := fun k => match k with
  | _ => ("", "", "", false)
def tyJ0 : Nat → FieldType := fun k => match k with
  | _ => .int
abbrev wsJ00 : List Cond := u_ws RJ0 TJ0 0
theorem nmJ0 : ∀ a, a < 0 → ∀ b, b < 0 → a ≠ b → (TJ0 a).2.1 ≠ (TJ0 b).2.1 := by decide +kernel
theorem tyJ0_ok : ∀ k, k < 0 → parseFieldDescriptor (TJ0 k).2.2.1 = some (tyJ0 k) := by decide +kernel
def RL : String := "HemSuffixesLaw"
abbrev cL_sew : ByteArray := method_3_code
def yL_sew : MethodName := ⟨RL, "sew", "(LHemSuffixes;II[J)I"⟩
abbrev cL_again : ByteArray := method_4_code
def yL_again : MethodName := ⟨RL, "again", "(LHemSuffixes;II[J)I"⟩
abbrev cL_unpick : ByteArray := method_5_code
def yL_unpick : MethodName := ⟨RL, "unpick", "(LHemSuffixes;II[J)I"⟩
abbrev cL_add : ByteArray := method_6_code
def yL_add : MethodName := ⟨RL, "add", "(LHemSuffixes;I[J)I"⟩
abbrev cL_stitch : ByteArray := method_7_code
def yL_stitch : MethodName := ⟨RL, "stitch", "(LHemSuffixes;II[J)I"⟩
abbrev cL_count : ByteArray := method_8_code
def yL_count : MethodName := ⟨RL, "count", "(LHemSuffixes;I[J)I"⟩
abbrev cL_end : ByteArray := method_9_code
def yL_end : MethodName := ⟨RL, "end", "(LHemSuffixes;II[J)I"⟩
abbrev cL_rank : ByteArray := method_10_code
def yL_rank : MethodName := ⟨RL, "rank", "(LHemSuffixes;II[J)I"⟩
abbrev cL_common : ByteArray := method_11_code
def yL_common : MethodName := ⟨RL, "common", "(LHemSuffixes;III[J)I"⟩
abbrev cL_against : ByteArray := method_12_code
def yL_against : MethodName := ⟨RL, "against", "(LHemSuffixes;II[J)I"⟩
abbrev cL_repeat : ByteArray := method_13_code
def yL_repeat : MethodName := ⟨RL, "repeat", "(LHemSuffixes;II[J)I"⟩
abbrev cL_row : ByteArray := method_14_code
def yL_row : MethodName := ⟨RL, "row", "(LHemSuffixes;II[J)I"⟩
abbrev cL_found : ByteArray := method_15_code
def yL_found : MethodName := ⟨RL, "found", "(LHemSuffixes;I[J)I"⟩
abbrev cL_first : ByteArray := method_16_code
def yL_first : MethodName := ⟨RL, "first", "(LHemSuffixes;I[J)I"⟩
abbrev cL_period : ByteArray := method_17_code
def yL_period : MethodName := ⟨RL, "period", "(LHemSuffixes;I[J)I"⟩
abbrev cL_turned : ByteArray := method_18_code
def yL_turned : MethodName := ⟨RL, "turned", "(LHemSuffixes;I[J)I"⟩
abbrev cL_seam : ByteArray := method_19_code
def yL_seam : MethodName := ⟨RL, "seam", "(LHemSuffixes;I[J)I"⟩
abbrev cL_would : ByteArray := method_20_code
def yL_would : MethodName := ⟨RL, "would", "(LHemSuffixes;II[J)I"⟩
abbrev cL_advise : ByteArray := method_21_code
def yL_advise : MethodName := ⟨RL, "advise", "(LHemSuffixes;I[J)I"⟩
abbrev cL_law : ByteArray := code
def yL_law : MethodName := ⟨RL, "law", "([I)Z"⟩
def wsX1_init : List Cond := .code yX1_init cX1_init 1 none :: ([.methodLink RX1 3 objectInit, .instanceMethod objectInit, .code objectInit ⟨#[0xb1]⟩ 1 none, .arrayClass .int, .fieldLink RX1 9 "HemSuffixes$Stitches" "kinds" "[I", .fieldLink RX1 15 "HemSuffixes$Stitches" "length" "I"] ++ wsX10)
def wsX0_init : List Cond := .code yX0_init cX0_init 1 none :: ([.methodLink RX0 3 objectInit, .instanceMethod objectInit, .code objectInit ⟨#[0xb1]⟩ 1 none, .classLink RX0 9 RX1, .instantiable RX1 2, .initialized RX1, .fieldLink RX0 12 "HemSuffixes$Hem" "stitches" "LHemSuffixes$Stitches;", .arrayClass .int, .fieldLink RX0 18 "HemSuffixes$Hem" "placesInOrder" "[I", .methodLink RX0 11 yX1_init, .instanceMethod yX1_init, .code yX1_init cX1_init 1 none, .methodLink RX1 3 objectInit, .fieldLink RX1 9 "HemSuffixes$Stitches" "kinds" "[I", .fieldLink RX1 15 "HemSuffixes$Stitches" "length" "I"] ++ wsX10 ++ wsX00)
def wsX1_append : List Cond := .code yX1_append cX1_append 2 none :: ([.fieldLink RX1 15 "HemSuffixes$Stitches" "length" "I", .fieldLink RX1 9 "HemSuffixes$Stitches" "kinds" "[I"] ++ wsX10)
def wsX1_at : List Cond := .code yX1_at cX1_at 2 (some .int) :: ([.fieldLink RX1 15 "HemSuffixes$Stitches" "length" "I", .fieldLink RX1 9 "HemSuffixes$Stitches" "kinds" "[I"] ++ wsX10)
def wsX1_sharedWith : List Cond := .code yX1_sharedWith cX1_sharedWith 6 (some .int) :: ([.fieldLink RX1 15 "HemSuffixes$Stitches" "length" "I", .methodLink RX1 19 Lib.Math.min.name, .static Lib.Math.min.name, .initialized "java/lang/Math", .code Lib.Math.min.name Lib.Math.min.code 2 (some .int), .methodLink RX1 25 yX1_at, .instanceMethod yX1_at, .selects RX1 yX1_at yX1_at, .initialized RX1, .code yX1_at cX1_at 2 (some .int), .fieldLink RX1 9 "HemSuffixes$Stitches" "kinds" "[I"] ++ wsX10)
def wsX1_difference : List Cond := .code yX1_difference cX1_difference 7 (some .int) :: ([.methodLink RX1 29 yX1_sharedWith, .instanceMethod yX1_sharedWith, .selects RX1 yX1_sharedWith yX1_sharedWith, .initialized RX1, .code yX1_sharedWith cX1_sharedWith 6 (some .int), .fieldLink RX1 15 "HemSuffixes$Stitches" "length" "I", .methodLink RX1 19 Lib.Math.min.name, .static Lib.Math.min.name, .initialized "java/lang/Math", .code Lib.Math.min.name Lib.Math.min.code 2 (some .int), .methodLink RX1 25 yX1_at, .instanceMethod yX1_at, .selects RX1 yX1_at yX1_at, .code yX1_at cX1_at 2 (some .int), .fieldLink RX1 9 "HemSuffixes$Stitches" "kinds" "[I"] ++ wsX10)
def wsX0_putInOrder : List Cond := .code yX0_putInOrder cX0_putInOrder 4 none :: ([.fieldLink RX0 12 "HemSuffixes$Hem" "stitches" "LHemSuffixes$Stitches;", .fieldLink RX0 18 "HemSuffixes$Hem" "placesInOrder" "[I", .methodLink RX0 44 yX1_difference, .instanceMethod yX1_difference, .selects RX1 yX1_difference yX1_difference, .initialized RX1, .code yX1_difference cX1_difference 7 (some .int), .methodLink RX1 29 yX1_sharedWith, .instanceMethod yX1_sharedWith, .selects RX1 yX1_sharedWith yX1_sharedWith, .code yX1_sharedWith cX1_sharedWith 6 (some .int), .fieldLink RX1 15 "HemSuffixes$Stitches" "length" "I", .methodLink RX1 19 Lib.Math.min.name, .static Lib.Math.min.name, .initialized "java/lang/Math", .code Lib.Math.min.name Lib.Math.min.code 2 (some .int), .methodLink RX1 25 yX1_at, .instanceMethod yX1_at, .selects RX1 yX1_at yX1_at, .code yX1_at cX1_at 2 (some .int), .fieldLink RX1 9 "HemSuffixes$Stitches" "kinds" "[I"] ++ wsX00 ++ wsX10)
def wsX0_orderEnds_r1 : List Cond := [Cond.fieldLink RX0 12 "HemSuffixes$Hem" "stitches" "LHemSuffixes$Stitches;", Cond.fieldLink RX0 18 "HemSuffixes$Hem" "placesInOrder" "[I", Cond.methodLink RX0 40 yX0_putInOrder, Cond.instanceMethod yX0_putInOrder, Cond.selects RX0 yX0_putInOrder yX0_putInOrder, Cond.initialized RX0, Cond.code yX0_putInOrder cX0_putInOrder 4 none, Cond.methodLink RX0 44 yX1_difference, Cond.instanceMethod yX1_difference, Cond.selects RX1 yX1_difference yX1_difference, Cond.initialized RX1, Cond.code yX1_difference cX1_difference 7 (some .int), Cond.methodLink RX1 29 yX1_sharedWith, Cond.instanceMethod yX1_sharedWith, Cond.selects RX1 yX1_sharedWith yX1_sharedWith, Cond.code yX1_sharedWith cX1_sharedWith 6 (some .int), Cond.fieldLink RX1 15 "HemSuffixes$Stitches" "length" "I", Cond.methodLink RX1 19 Lib.Math.min.name, Cond.static Lib.Math.min.name, Cond.initialized "java/lang/Math", Cond.code Lib.Math.min.name Lib.Math.min.code 2 (some .int), Cond.methodLink RX1 25 yX1_at, Cond.instanceMethod yX1_at, Cond.selects RX1 yX1_at yX1_at]
def wsX0_orderEnds_r2 : List Cond := [Cond.code yX1_at cX1_at 2 (some .int), Cond.fieldLink RX1 9 "HemSuffixes$Stitches" "kinds" "[I"]
def wsX0_orderEnds : List Cond := .code yX0_orderEnds cX0_orderEnds 2 none :: ((wsX0_orderEnds_r1 ++ wsX0_orderEnds_r2) ++ wsX00 ++ wsX10)
def wsX0_sewOn_r1 : List Cond := [Cond.fieldLink RX0 12 "HemSuffixes$Hem" "stitches" "LHemSuffixes$Stitches;", Cond.methodLink RX0 22 yX1_append, Cond.instanceMethod yX1_append, Cond.selects RX1 yX1_append yX1_append, Cond.initialized RX1, Cond.code yX1_append cX1_append 2 none, Cond.fieldLink RX1 15 "HemSuffixes$Stitches" "length" "I", Cond.fieldLink RX1 9 "HemSuffixes$Stitches" "kinds" "[I", Cond.methodLink RX0 26 yX0_orderEnds, Cond.instanceMethod yX0_orderEnds, Cond.selects RX0 yX0_orderEnds yX0_orderEnds, Cond.initialized RX0, Cond.code yX0_orderEnds cX0_orderEnds 2 none, Cond.fieldLink RX0 18 "HemSuffixes$Hem" "placesInOrder" "[I", Cond.methodLink RX0 40 yX0_putInOrder, Cond.instanceMethod yX0_putInOrder, Cond.selects RX0 yX0_putInOrder yX0_putInOrder, Cond.code yX0_putInOrder cX0_putInOrder 4 none, Cond.methodLink RX0 44 yX1_difference, Cond.instanceMethod yX1_difference, Cond.selects RX1 yX1_difference yX1_difference, Cond.code yX1_difference cX1_difference 7 (some .int), Cond.methodLink RX1 29 yX1_sharedWith, Cond.instanceMethod yX1_sharedWith]
def wsX0_sewOn_r2 : List Cond := [Cond.selects RX1 yX1_sharedWith yX1_sharedWith, Cond.code yX1_sharedWith cX1_sharedWith 6 (some .int), Cond.methodLink RX1 19 Lib.Math.min.name, Cond.static Lib.Math.min.name, Cond.initialized "java/lang/Math", Cond.code Lib.Math.min.name Lib.Math.min.code 2 (some .int), Cond.methodLink RX1 25 yX1_at, Cond.instanceMethod yX1_at, Cond.selects RX1 yX1_at yX1_at, Cond.code yX1_at cX1_at 2 (some .int)]
def wsX0_sewOn : List Cond := .code yX0_sewOn cX0_sewOn 2 none :: ((wsX0_sewOn_r1 ++ wsX0_sewOn_r2) ++ wsX00 ++ wsX10)
def wsX0_sewBeginning_r1 : List Cond := [Cond.fieldLink RX0 12 "HemSuffixes$Hem" "stitches" "LHemSuffixes$Stitches;", Cond.methodLink RX0 29 yX1_at, Cond.instanceMethod yX1_at, Cond.selects RX1 yX1_at yX1_at, Cond.initialized RX1, Cond.code yX1_at cX1_at 2 (some .int), Cond.fieldLink RX1 15 "HemSuffixes$Stitches" "length" "I", Cond.fieldLink RX1 9 "HemSuffixes$Stitches" "kinds" "[I", Cond.methodLink RX0 22 yX1_append, Cond.instanceMethod yX1_append, Cond.selects RX1 yX1_append yX1_append, Cond.code yX1_append cX1_append 2 none, Cond.methodLink RX0 26 yX0_orderEnds, Cond.instanceMethod yX0_orderEnds, Cond.selects RX0 yX0_orderEnds yX0_orderEnds, Cond.initialized RX0, Cond.code yX0_orderEnds cX0_orderEnds 2 none, Cond.fieldLink RX0 18 "HemSuffixes$Hem" "placesInOrder" "[I", Cond.methodLink RX0 40 yX0_putInOrder, Cond.instanceMethod yX0_putInOrder, Cond.selects RX0 yX0_putInOrder yX0_putInOrder, Cond.code yX0_putInOrder cX0_putInOrder 4 none, Cond.methodLink RX0 44 yX1_difference, Cond.instanceMethod yX1_difference]
def wsX0_sewBeginning_r2 : List Cond := [Cond.selects RX1 yX1_difference yX1_difference, Cond.code yX1_difference cX1_difference 7 (some .int), Cond.methodLink RX1 29 yX1_sharedWith, Cond.instanceMethod yX1_sharedWith, Cond.selects RX1 yX1_sharedWith yX1_sharedWith, Cond.code yX1_sharedWith cX1_sharedWith 6 (some .int), Cond.methodLink RX1 19 Lib.Math.min.name, Cond.static Lib.Math.min.name, Cond.initialized "java/lang/Math", Cond.code Lib.Math.min.name Lib.Math.min.code 2 (some .int), Cond.methodLink RX1 25 yX1_at]
def wsX0_sewBeginning : List Cond := .code yX0_sewBeginning cX0_sewBeginning 3 none :: ((wsX0_sewBeginning_r1 ++ wsX0_sewBeginning_r2) ++ wsX00 ++ wsX10)
def wsX1_drop : List Cond := .code yX1_drop cX1_drop 2 none :: ([.fieldLink RX1 15 "HemSuffixes$Stitches" "length" "I"] ++ wsX10)
def wsX0_takeOff_r1 : List Cond := [Cond.fieldLink RX0 12 "HemSuffixes$Hem" "stitches" "LHemSuffixes$Stitches;", Cond.methodLink RX0 33 yX1_drop, Cond.instanceMethod yX1_drop, Cond.selects RX1 yX1_drop yX1_drop, Cond.initialized RX1, Cond.code yX1_drop cX1_drop 2 none, Cond.fieldLink RX1 15 "HemSuffixes$Stitches" "length" "I", Cond.methodLink RX0 26 yX0_orderEnds, Cond.instanceMethod yX0_orderEnds, Cond.selects RX0 yX0_orderEnds yX0_orderEnds, Cond.initialized RX0, Cond.code yX0_orderEnds cX0_orderEnds 2 none, Cond.fieldLink RX0 18 "HemSuffixes$Hem" "placesInOrder" "[I", Cond.methodLink RX0 40 yX0_putInOrder, Cond.instanceMethod yX0_putInOrder, Cond.selects RX0 yX0_putInOrder yX0_putInOrder, Cond.code yX0_putInOrder cX0_putInOrder 4 none, Cond.methodLink RX0 44 yX1_difference, Cond.instanceMethod yX1_difference, Cond.selects RX1 yX1_difference yX1_difference, Cond.code yX1_difference cX1_difference 7 (some .int), Cond.methodLink RX1 29 yX1_sharedWith, Cond.instanceMethod yX1_sharedWith, Cond.selects RX1 yX1_sharedWith yX1_sharedWith]
def wsX0_takeOff_r2 : List Cond := [Cond.code yX1_sharedWith cX1_sharedWith 6 (some .int), Cond.methodLink RX1 19 Lib.Math.min.name, Cond.static Lib.Math.min.name, Cond.initialized "java/lang/Math", Cond.code Lib.Math.min.name Lib.Math.min.code 2 (some .int), Cond.methodLink RX1 25 yX1_at, Cond.instanceMethod yX1_at, Cond.selects RX1 yX1_at yX1_at, Cond.code yX1_at cX1_at 2 (some .int), Cond.fieldLink RX1 9 "HemSuffixes$Stitches" "kinds" "[I"]
def wsX0_takeOff : List Cond := .code yX0_takeOff cX0_takeOff 2 none :: ((wsX0_takeOff_r1 ++ wsX0_takeOff_r2) ++ wsX00 ++ wsX10)
def wsX0_placeAt : List Cond := .code yX0_placeAt cX0_placeAt 2 (some .int) :: ([.fieldLink RX0 12 "HemSuffixes$Hem" "stitches" "LHemSuffixes$Stitches;", .fieldLink RX0 18 "HemSuffixes$Hem" "placesInOrder" "[I"] ++ wsX00 ++ wsX10)
def wsX0_rankOf : List Cond := .code yX0_rankOf cX0_rankOf 3 (some .int) :: ([.fieldLink RX0 12 "HemSuffixes$Hem" "stitches" "LHemSuffixes$Stitches;", .methodLink RX0 48 yX0_placeAt, .instanceMethod yX0_placeAt, .selects RX0 yX0_placeAt yX0_placeAt, .initialized RX0, .code yX0_placeAt cX0_placeAt 2 (some .int), .fieldLink RX0 18 "HemSuffixes$Hem" "placesInOrder" "[I"] ++ wsX00 ++ wsX10)
def wsX0_sharedWithNext : List Cond := .code yX0_sharedWithNext cX0_sharedWithNext 4 (some .int) :: ([.fieldLink RX0 12 "HemSuffixes$Hem" "stitches" "LHemSuffixes$Stitches;", .methodLink RX0 48 yX0_placeAt, .instanceMethod yX0_placeAt, .selects RX0 yX0_placeAt yX0_placeAt, .initialized RX0, .code yX0_placeAt cX0_placeAt 2 (some .int), .fieldLink RX0 18 "HemSuffixes$Hem" "placesInOrder" "[I", .methodLink RX0 51 yX1_sharedWith, .instanceMethod yX1_sharedWith, .selects RX1 yX1_sharedWith yX1_sharedWith, .initialized RX1, .code yX1_sharedWith cX1_sharedWith 6 (some .int), .fieldLink RX1 15 "HemSuffixes$Stitches" "length" "I", .methodLink RX1 19 Lib.Math.min.name, .static Lib.Math.min.name, .initialized "java/lang/Math", .code Lib.Math.min.name Lib.Math.min.code 2 (some .int), .methodLink RX1 25 yX1_at, .instanceMethod yX1_at, .selects RX1 yX1_at yX1_at, .code yX1_at cX1_at 2 (some .int), .fieldLink RX1 9 "HemSuffixes$Stitches" "kinds" "[I"] ++ wsX00 ++ wsX10)
def wsX0_neighbourPairs : List Cond := .code yX0_neighbourPairs cX0_neighbourPairs 1 (some .int) :: ([.fieldLink RX0 12 "HemSuffixes$Hem" "stitches" "LHemSuffixes$Stitches;"] ++ wsX00 ++ wsX10)
def wsX0_sharedByNeighbours_r1 : List Cond := [Cond.fieldLink RX0 12 "HemSuffixes$Hem" "stitches" "LHemSuffixes$Stitches;", Cond.methodLink RX0 54 yX0_sharedWithNext, Cond.instanceMethod yX0_sharedWithNext, Cond.selects RX0 yX0_sharedWithNext yX0_sharedWithNext, Cond.initialized RX0, Cond.code yX0_sharedWithNext cX0_sharedWithNext 4 (some .int), Cond.methodLink RX0 48 yX0_placeAt, Cond.instanceMethod yX0_placeAt, Cond.selects RX0 yX0_placeAt yX0_placeAt, Cond.code yX0_placeAt cX0_placeAt 2 (some .int), Cond.fieldLink RX0 18 "HemSuffixes$Hem" "placesInOrder" "[I", Cond.methodLink RX0 51 yX1_sharedWith, Cond.instanceMethod yX1_sharedWith, Cond.selects RX1 yX1_sharedWith yX1_sharedWith, Cond.initialized RX1, Cond.code yX1_sharedWith cX1_sharedWith 6 (some .int), Cond.fieldLink RX1 15 "HemSuffixes$Stitches" "length" "I", Cond.methodLink RX1 19 Lib.Math.min.name, Cond.static Lib.Math.min.name, Cond.initialized "java/lang/Math", Cond.code Lib.Math.min.name Lib.Math.min.code 2 (some .int), Cond.methodLink RX1 25 yX1_at, Cond.instanceMethod yX1_at, Cond.selects RX1 yX1_at yX1_at]
def wsX0_sharedByNeighbours_r2 : List Cond := [Cond.code yX1_at cX1_at 2 (some .int), Cond.fieldLink RX1 9 "HemSuffixes$Stitches" "kinds" "[I"]
def wsX0_sharedByNeighbours : List Cond := .code yX0_sharedByNeighbours cX0_sharedByNeighbours 3 (some .int) :: ((wsX0_sharedByNeighbours_r1 ++ wsX0_sharedByNeighbours_r2) ++ wsX00 ++ wsX10)
def wsX0_rowsFirstAt_r1 : List Cond := [Cond.fieldLink RX0 12 "HemSuffixes$Hem" "stitches" "LHemSuffixes$Stitches;", Cond.methodLink RX0 48 yX0_placeAt, Cond.instanceMethod yX0_placeAt, Cond.selects RX0 yX0_placeAt yX0_placeAt, Cond.initialized RX0, Cond.code yX0_placeAt cX0_placeAt 2 (some .int), Cond.fieldLink RX0 18 "HemSuffixes$Hem" "placesInOrder" "[I", Cond.methodLink RX0 54 yX0_sharedWithNext, Cond.instanceMethod yX0_sharedWithNext, Cond.selects RX0 yX0_sharedWithNext yX0_sharedWithNext, Cond.code yX0_sharedWithNext cX0_sharedWithNext 4 (some .int), Cond.methodLink RX0 51 yX1_sharedWith, Cond.instanceMethod yX1_sharedWith, Cond.selects RX1 yX1_sharedWith yX1_sharedWith, Cond.initialized RX1, Cond.code yX1_sharedWith cX1_sharedWith 6 (some .int), Cond.fieldLink RX1 15 "HemSuffixes$Stitches" "length" "I", Cond.methodLink RX1 19 Lib.Math.min.name, Cond.static Lib.Math.min.name, Cond.initialized "java/lang/Math", Cond.code Lib.Math.min.name Lib.Math.min.code 2 (some .int), Cond.methodLink RX1 25 yX1_at, Cond.instanceMethod yX1_at, Cond.selects RX1 yX1_at yX1_at]
def wsX0_rowsFirstAt_r2 : List Cond := [Cond.code yX1_at cX1_at 2 (some .int), Cond.fieldLink RX1 9 "HemSuffixes$Stitches" "kinds" "[I"]
def wsX0_rowsFirstAt : List Cond := .code yX0_rowsFirstAt cX0_rowsFirstAt 2 (some .int) :: ((wsX0_rowsFirstAt_r1 ++ wsX0_rowsFirstAt_r2) ++ wsX00 ++ wsX10)
def wsX0_differentRows_r1 : List Cond := [Cond.fieldLink RX0 12 "HemSuffixes$Hem" "stitches" "LHemSuffixes$Stitches;", Cond.methodLink RX0 57 yX0_rowsFirstAt, Cond.instanceMethod yX0_rowsFirstAt, Cond.selects RX0 yX0_rowsFirstAt yX0_rowsFirstAt, Cond.initialized RX0, Cond.code yX0_rowsFirstAt cX0_rowsFirstAt 2 (some .int), Cond.methodLink RX0 48 yX0_placeAt, Cond.instanceMethod yX0_placeAt, Cond.selects RX0 yX0_placeAt yX0_placeAt, Cond.code yX0_placeAt cX0_placeAt 2 (some .int), Cond.fieldLink RX0 18 "HemSuffixes$Hem" "placesInOrder" "[I", Cond.methodLink RX0 54 yX0_sharedWithNext, Cond.instanceMethod yX0_sharedWithNext, Cond.selects RX0 yX0_sharedWithNext yX0_sharedWithNext, Cond.code yX0_sharedWithNext cX0_sharedWithNext 4 (some .int), Cond.methodLink RX0 51 yX1_sharedWith, Cond.instanceMethod yX1_sharedWith, Cond.selects RX1 yX1_sharedWith yX1_sharedWith, Cond.initialized RX1, Cond.code yX1_sharedWith cX1_sharedWith 6 (some .int), Cond.fieldLink RX1 15 "HemSuffixes$Stitches" "length" "I", Cond.methodLink RX1 19 Lib.Math.min.name, Cond.static Lib.Math.min.name, Cond.initialized "java/lang/Math"]
def wsX0_differentRows_r2 : List Cond := [Cond.code Lib.Math.min.name Lib.Math.min.code 2 (some .int), Cond.methodLink RX1 25 yX1_at, Cond.instanceMethod yX1_at, Cond.selects RX1 yX1_at yX1_at, Cond.code yX1_at cX1_at 2 (some .int), Cond.fieldLink RX1 9 "HemSuffixes$Stitches" "kinds" "[I"]
def wsX0_differentRows : List Cond := .code yX0_differentRows cX0_differentRows 3 (some .int) :: ((wsX0_differentRows_r1 ++ wsX0_differentRows_r2) ++ wsX00 ++ wsX10)
def wsX1_standsAt : List Cond := .code yX1_standsAt cX1_standsAt 5 (some .boolean) :: ([.methodLink RX1 29 yX1_sharedWith, .instanceMethod yX1_sharedWith, .selects RX1 yX1_sharedWith yX1_sharedWith, .initialized RX1, .code yX1_sharedWith cX1_sharedWith 6 (some .int), .fieldLink RX1 15 "HemSuffixes$Stitches" "length" "I", .methodLink RX1 19 Lib.Math.min.name, .static Lib.Math.min.name, .initialized "java/lang/Math", .code Lib.Math.min.name Lib.Math.min.code 2 (some .int), .methodLink RX1 25 yX1_at, .instanceMethod yX1_at, .selects RX1 yX1_at yX1_at, .code yX1_at cX1_at 2 (some .int), .fieldLink RX1 9 "HemSuffixes$Stitches" "kinds" "[I"] ++ wsX10)
def wsX1_firstPlaceOf : List Cond := .code yX1_firstPlaceOf cX1_firstPlaceOf 5 (some .int) :: ([.fieldLink RX1 15 "HemSuffixes$Stitches" "length" "I", .methodLink RX1 36 yX1_standsAt, .instanceMethod yX1_standsAt, .selects RX1 yX1_standsAt yX1_standsAt, .initialized RX1, .code yX1_standsAt cX1_standsAt 5 (some .boolean), .methodLink RX1 29 yX1_sharedWith, .instanceMethod yX1_sharedWith, .selects RX1 yX1_sharedWith yX1_sharedWith, .code yX1_sharedWith cX1_sharedWith 6 (some .int), .methodLink RX1 19 Lib.Math.min.name, .static Lib.Math.min.name, .initialized "java/lang/Math", .code Lib.Math.min.name Lib.Math.min.code 2 (some .int), .methodLink RX1 25 yX1_at, .instanceMethod yX1_at, .selects RX1 yX1_at yX1_at, .code yX1_at cX1_at 2 (some .int), .fieldLink RX1 9 "HemSuffixes$Stitches" "kinds" "[I"] ++ wsX10)
def wsX0_rowOfNumber_r1 : List Cond := [Cond.fieldLink RX0 12 "HemSuffixes$Hem" "stitches" "LHemSuffixes$Stitches;", Cond.methodLink RX0 57 yX0_rowsFirstAt, Cond.instanceMethod yX0_rowsFirstAt, Cond.selects RX0 yX0_rowsFirstAt yX0_rowsFirstAt, Cond.initialized RX0, Cond.code yX0_rowsFirstAt cX0_rowsFirstAt 2 (some .int), Cond.methodLink RX0 48 yX0_placeAt, Cond.instanceMethod yX0_placeAt, Cond.selects RX0 yX0_placeAt yX0_placeAt, Cond.code yX0_placeAt cX0_placeAt 2 (some .int), Cond.fieldLink RX0 18 "HemSuffixes$Hem" "placesInOrder" "[I", Cond.methodLink RX0 54 yX0_sharedWithNext, Cond.instanceMethod yX0_sharedWithNext, Cond.selects RX0 yX0_sharedWithNext yX0_sharedWithNext, Cond.code yX0_sharedWithNext cX0_sharedWithNext 4 (some .int), Cond.methodLink RX0 51 yX1_sharedWith, Cond.instanceMethod yX1_sharedWith, Cond.selects RX1 yX1_sharedWith yX1_sharedWith, Cond.initialized RX1, Cond.code yX1_sharedWith cX1_sharedWith 6 (some .int), Cond.fieldLink RX1 15 "HemSuffixes$Stitches" "length" "I", Cond.methodLink RX1 19 Lib.Math.min.name, Cond.static Lib.Math.min.name, Cond.initialized "java/lang/Math"]
def wsX0_rowOfNumber_r2 : List Cond := [Cond.code Lib.Math.min.name Lib.Math.min.code 2 (some .int), Cond.methodLink RX1 25 yX1_at, Cond.instanceMethod yX1_at, Cond.selects RX1 yX1_at yX1_at, Cond.code yX1_at cX1_at 2 (some .int), Cond.fieldLink RX1 9 "HemSuffixes$Stitches" "kinds" "[I", Cond.methodLink RX0 60 yX1_firstPlaceOf, Cond.instanceMethod yX1_firstPlaceOf, Cond.selects RX1 yX1_firstPlaceOf yX1_firstPlaceOf, Cond.code yX1_firstPlaceOf cX1_firstPlaceOf 5 (some .int), Cond.methodLink RX1 36 yX1_standsAt, Cond.instanceMethod yX1_standsAt, Cond.selects RX1 yX1_standsAt yX1_standsAt, Cond.code yX1_standsAt cX1_standsAt 5 (some .boolean), Cond.methodLink RX1 29 yX1_sharedWith]
def wsX0_rowOfNumber : List Cond := .code yX0_rowOfNumber cX0_rowOfNumber 6 (some .int) :: ((wsX0_rowOfNumber_r1 ++ wsX0_rowOfNumber_r2) ++ wsX00 ++ wsX10)
def wsX0_repeatRank_r1 : List Cond := [Cond.fieldLink RX0 12 "HemSuffixes$Hem" "stitches" "LHemSuffixes$Stitches;", Cond.methodLink RX0 54 yX0_sharedWithNext, Cond.instanceMethod yX0_sharedWithNext, Cond.selects RX0 yX0_sharedWithNext yX0_sharedWithNext, Cond.initialized RX0, Cond.code yX0_sharedWithNext cX0_sharedWithNext 4 (some .int), Cond.methodLink RX0 48 yX0_placeAt, Cond.instanceMethod yX0_placeAt, Cond.selects RX0 yX0_placeAt yX0_placeAt, Cond.code yX0_placeAt cX0_placeAt 2 (some .int), Cond.fieldLink RX0 18 "HemSuffixes$Hem" "placesInOrder" "[I", Cond.methodLink RX0 51 yX1_sharedWith, Cond.instanceMethod yX1_sharedWith, Cond.selects RX1 yX1_sharedWith yX1_sharedWith, Cond.initialized RX1, Cond.code yX1_sharedWith cX1_sharedWith 6 (some .int), Cond.fieldLink RX1 15 "HemSuffixes$Stitches" "length" "I", Cond.methodLink RX1 19 Lib.Math.min.name, Cond.static Lib.Math.min.name, Cond.initialized "java/lang/Math", Cond.code Lib.Math.min.name Lib.Math.min.code 2 (some .int), Cond.methodLink RX1 25 yX1_at, Cond.instanceMethod yX1_at, Cond.selects RX1 yX1_at yX1_at]
def wsX0_repeatRank_r2 : List Cond := [Cond.code yX1_at cX1_at 2 (some .int), Cond.fieldLink RX1 9 "HemSuffixes$Stitches" "kinds" "[I"]
def wsX0_repeatRank : List Cond := .code yX0_repeatRank cX0_repeatRank 5 (some .int) :: ((wsX0_repeatRank_r1 ++ wsX0_repeatRank_r2) ++ wsX00 ++ wsX10)
def wsX1_mostSharedWith : List Cond := .code yX1_mostSharedWith cX1_mostSharedWith 5 (some .int) :: ([.fieldLink RX1 15 "HemSuffixes$Stitches" "length" "I", .methodLink RX1 33 Lib.Math.max.name, .static Lib.Math.max.name, .initialized "java/lang/Math", .code Lib.Math.max.name Lib.Math.max.code 2 (some .int), .methodLink RX1 29 yX1_sharedWith, .instanceMethod yX1_sharedWith, .selects RX1 yX1_sharedWith yX1_sharedWith, .initialized RX1, .code yX1_sharedWith cX1_sharedWith 6 (some .int), .methodLink RX1 19 Lib.Math.min.name, .static Lib.Math.min.name, .code Lib.Math.min.name Lib.Math.min.code 2 (some .int), .methodLink RX1 25 yX1_at, .instanceMethod yX1_at, .selects RX1 yX1_at yX1_at, .code yX1_at cX1_at 2 (some .int), .fieldLink RX1 9 "HemSuffixes$Stitches" "kinds" "[I"] ++ wsX10)
def wsX1_placesOf : List Cond := .code yX1_placesOf cX1_placesOf 6 (some .int) :: ([.fieldLink RX1 15 "HemSuffixes$Stitches" "length" "I", .methodLink RX1 36 yX1_standsAt, .instanceMethod yX1_standsAt, .selects RX1 yX1_standsAt yX1_standsAt, .initialized RX1, .code yX1_standsAt cX1_standsAt 5 (some .boolean), .methodLink RX1 29 yX1_sharedWith, .instanceMethod yX1_sharedWith, .selects RX1 yX1_sharedWith yX1_sharedWith, .code yX1_sharedWith cX1_sharedWith 6 (some .int), .methodLink RX1 19 Lib.Math.min.name, .static Lib.Math.min.name, .initialized "java/lang/Math", .code Lib.Math.min.name Lib.Math.min.code 2 (some .int), .methodLink RX1 25 yX1_at, .instanceMethod yX1_at, .selects RX1 yX1_at yX1_at, .code yX1_at cX1_at 2 (some .int), .fieldLink RX1 9 "HemSuffixes$Stitches" "kinds" "[I"] ++ wsX10)
def wsX1_leastPeriod : List Cond := .code yX1_leastPeriod cX1_leastPeriod 2 (some .int) :: ([.fieldLink RX1 15 "HemSuffixes$Stitches" "length" "I", .methodLink RX1 29 yX1_sharedWith, .instanceMethod yX1_sharedWith, .selects RX1 yX1_sharedWith yX1_sharedWith, .initialized RX1, .code yX1_sharedWith cX1_sharedWith 6 (some .int), .methodLink RX1 19 Lib.Math.min.name, .static Lib.Math.min.name, .initialized "java/lang/Math", .code Lib.Math.min.name Lib.Math.min.code 2 (some .int), .methodLink RX1 25 yX1_at, .instanceMethod yX1_at, .selects RX1 yX1_at yX1_at, .code yX1_at cX1_at 2 (some .int), .fieldLink RX1 9 "HemSuffixes$Stitches" "kinds" "[I"] ++ wsX10)
def wsX1_allAround : List Cond := .code yX1_allAround cX1_allAround 2 (some .int) :: ([.fieldLink RX1 15 "HemSuffixes$Stitches" "length" "I", .methodLink RX1 25 yX1_at, .instanceMethod yX1_at, .selects RX1 yX1_at yX1_at, .initialized RX1, .code yX1_at cX1_at 2 (some .int), .fieldLink RX1 9 "HemSuffixes$Stitches" "kinds" "[I"] ++ wsX10)
def wsX1_turnsToLess : List Cond := .code yX1_turnsToLess cX1_turnsToLess 6 (some .boolean) :: ([.fieldLink RX1 15 "HemSuffixes$Stitches" "length" "I", .methodLink RX1 44 yX1_allAround, .instanceMethod yX1_allAround, .selects RX1 yX1_allAround yX1_allAround, .initialized RX1, .code yX1_allAround cX1_allAround 2 (some .int), .methodLink RX1 25 yX1_at, .instanceMethod yX1_at, .selects RX1 yX1_at yX1_at, .code yX1_at cX1_at 2 (some .int), .fieldLink RX1 9 "HemSuffixes$Stitches" "kinds" "[I"] ++ wsX10)
def wsX1_bestBeginning : List Cond := .code yX1_bestBeginning cX1_bestBeginning 3 (some .int) :: ([.fieldLink RX1 15 "HemSuffixes$Stitches" "length" "I", .methodLink RX1 40 yX1_turnsToLess, .instanceMethod yX1_turnsToLess, .selects RX1 yX1_turnsToLess yX1_turnsToLess, .initialized RX1, .code yX1_turnsToLess cX1_turnsToLess 6 (some .boolean), .methodLink RX1 44 yX1_allAround, .instanceMethod yX1_allAround, .selects RX1 yX1_allAround yX1_allAround, .code yX1_allAround cX1_allAround 2 (some .int), .methodLink RX1 25 yX1_at, .instanceMethod yX1_at, .selects RX1 yX1_at yX1_at, .code yX1_at cX1_at 2 (some .int), .fieldLink RX1 9 "HemSuffixes$Stitches" "kinds" "[I"] ++ wsX10)
def wsX1_sharedBackwardsFrom : List Cond := .code yX1_sharedBackwardsFrom cX1_sharedBackwardsFrom 3 (some .int) :: ([.fieldLink RX1 15 "HemSuffixes$Stitches" "length" "I", .methodLink RX1 25 yX1_at, .instanceMethod yX1_at, .selects RX1 yX1_at yX1_at, .initialized RX1, .code yX1_at cX1_at 2 (some .int), .fieldLink RX1 9 "HemSuffixes$Stitches" "kinds" "[I"] ++ wsX10)
def wsX1_newRowsBy : List Cond := .code yX1_newRowsBy cX1_newRowsBy 4 (some .int) :: ([.fieldLink RX1 15 "HemSuffixes$Stitches" "length" "I", .methodLink RX1 33 Lib.Math.max.name, .static Lib.Math.max.name, .initialized "java/lang/Math", .code Lib.Math.max.name Lib.Math.max.code 2 (some .int), .methodLink RX1 25 yX1_at, .instanceMethod yX1_at, .selects RX1 yX1_at yX1_at, .initialized RX1, .code yX1_at cX1_at 2 (some .int), .fieldLink RX1 9 "HemSuffixes$Stitches" "kinds" "[I", .methodLink RX1 47 yX1_sharedBackwardsFrom, .instanceMethod yX1_sharedBackwardsFrom, .selects RX1 yX1_sharedBackwardsFrom yX1_sharedBackwardsFrom, .code yX1_sharedBackwardsFrom cX1_sharedBackwardsFrom 3 (some .int)] ++ wsX10)
def wsX2_init_r1 : List Cond := [Cond.methodLink RX2 1 objectInit, Cond.instanceMethod objectInit, Cond.code objectInit ⟨#[0xb1]⟩ 1 none, Cond.classLink RX2 7 RX0, Cond.instantiable RX0 2, Cond.initialized RX0, Cond.fieldLink RX2 10 "HemSuffixes" "hemZero" "LHemSuffixes$Hem;", Cond.fieldLink RX2 16 "HemSuffixes" "hemOne" "LHemSuffixes$Hem;", Cond.classLink RX2 19 RX1, Cond.instantiable RX1 2, Cond.initialized RX1, Cond.fieldLink RX2 22 "HemSuffixes" "sample" "LHemSuffixes$Stitches;", Cond.methodLink RX2 9 yX0_init, Cond.instanceMethod yX0_init, Cond.code yX0_init cX0_init 1 none, Cond.methodLink RX0 3 objectInit, Cond.classLink RX0 9 RX1, Cond.fieldLink RX0 12 "HemSuffixes$Hem" "stitches" "LHemSuffixes$Stitches;", Cond.arrayClass .int, Cond.fieldLink RX0 18 "HemSuffixes$Hem" "placesInOrder" "[I", Cond.methodLink RX0 11 yX1_init, Cond.instanceMethod yX1_init, Cond.code yX1_init cX1_init 1 none, Cond.methodLink RX1 3 objectInit]
def wsX2_init_r2 : List Cond := [Cond.fieldLink RX1 9 "HemSuffixes$Stitches" "kinds" "[I", Cond.fieldLink RX1 15 "HemSuffixes$Stitches" "length" "I", Cond.methodLink RX2 21 yX1_init]
def wsX2_init : List Cond := .code yX2_init cX2_init 1 none :: ((wsX2_init_r1 ++ wsX2_init_r2) ++ wsX00 ++ wsX20 ++ wsX10)
def wsX2_hemOf : List Cond := .code yX2_hemOf cX2_hemOf 2 (some (.object "HemSuffixes$Hem")) :: ([.classLink RX2 92 "java/lang/IndexOutOfBoundsException", .initialized "java/lang/IndexOutOfBoundsException", .fieldLink RX2 10 "HemSuffixes" "hemZero" "LHemSuffixes$Hem;", .fieldLink RX2 16 "HemSuffixes" "hemOne" "LHemSuffixes$Hem;"] ++ wsX20 ++ (vx_atS RX2 96 "java/lang/IndexOutOfBoundsException" ["java/lang/RuntimeException", "java/lang/Exception"]).filter goodWord)
def wsX2_requireStitch : List Cond := .code yX2_requireStitch cX2_requireStitch 1 none :: ([.classLink RX2 51 "java/lang/IllegalArgumentException", .initialized "java/lang/IllegalArgumentException"] ++ (vx_atS RX2 55 "java/lang/IllegalArgumentException" ["java/lang/RuntimeException", "java/lang/Exception"]).filter goodWord)
def wsX2_sew_r1 : List Cond := [Cond.classLink RX2 41 "java/lang/IllegalStateException", Cond.initialized "java/lang/IllegalStateException", Cond.methodLink RX2 26 yX2_hemOf, Cond.instanceMethod yX2_hemOf, Cond.selects RX2 yX2_hemOf yX2_hemOf, Cond.initialized RX2, Cond.code yX2_hemOf cX2_hemOf 2 (some (.object "HemSuffixes$Hem")), Cond.classLink RX2 92 "java/lang/IndexOutOfBoundsException", Cond.initialized "java/lang/IndexOutOfBoundsException", Cond.fieldLink RX2 10 "HemSuffixes" "hemZero" "LHemSuffixes$Hem;", Cond.fieldLink RX2 16 "HemSuffixes" "hemOne" "LHemSuffixes$Hem;", Cond.methodLink RX2 30 yX2_requireStitch, Cond.static yX2_requireStitch, Cond.code yX2_requireStitch cX2_requireStitch 1 none, Cond.classLink RX2 51 "java/lang/IllegalArgumentException", Cond.initialized "java/lang/IllegalArgumentException", Cond.methodLink RX2 48 yX0_sewOn, Cond.instanceMethod yX0_sewOn, Cond.selects RX0 yX0_sewOn yX0_sewOn, Cond.initialized RX0, Cond.code yX0_sewOn cX0_sewOn 2 none, Cond.fieldLink RX0 12 "HemSuffixes$Hem" "stitches" "LHemSuffixes$Stitches;", Cond.methodLink RX0 22 yX1_append, Cond.instanceMethod yX1_append]
def wsX2_sew_r2 : List Cond := [Cond.selects RX1 yX1_append yX1_append, Cond.initialized RX1, Cond.code yX1_append cX1_append 2 none, Cond.fieldLink RX1 15 "HemSuffixes$Stitches" "length" "I", Cond.fieldLink RX1 9 "HemSuffixes$Stitches" "kinds" "[I", Cond.methodLink RX0 26 yX0_orderEnds, Cond.instanceMethod yX0_orderEnds, Cond.selects RX0 yX0_orderEnds yX0_orderEnds, Cond.code yX0_orderEnds cX0_orderEnds 2 none, Cond.fieldLink RX0 18 "HemSuffixes$Hem" "placesInOrder" "[I", Cond.methodLink RX0 40 yX0_putInOrder, Cond.instanceMethod yX0_putInOrder, Cond.selects RX0 yX0_putInOrder yX0_putInOrder, Cond.code yX0_putInOrder cX0_putInOrder 4 none, Cond.methodLink RX0 44 yX1_difference, Cond.instanceMethod yX1_difference, Cond.selects RX1 yX1_difference yX1_difference, Cond.code yX1_difference cX1_difference 7 (some .int), Cond.methodLink RX1 29 yX1_sharedWith, Cond.instanceMethod yX1_sharedWith, Cond.selects RX1 yX1_sharedWith yX1_sharedWith, Cond.code yX1_sharedWith cX1_sharedWith 6 (some .int), Cond.methodLink RX1 19 Lib.Math.min.name, Cond.static Lib.Math.min.name]
def wsX2_sew_r3 : List Cond := [Cond.initialized "java/lang/Math", Cond.code Lib.Math.min.name Lib.Math.min.code 2 (some .int), Cond.methodLink RX1 25 yX1_at, Cond.instanceMethod yX1_at, Cond.selects RX1 yX1_at yX1_at, Cond.code yX1_at cX1_at 2 (some .int)]
def wsX2_sew : List Cond := .code yX2_sew cX2_sew 4 (some .int) :: ((wsX2_sew_r1 ++ (wsX2_sew_r2 ++ wsX2_sew_r3)) ++ wsX00 ++ wsX10 ++ wsX20 ++ (vx_atS RX2 45 "java/lang/IllegalStateException" ["java/lang/RuntimeException", "java/lang/Exception"]).filter goodWord ++ (vx_atS RX2 96 "java/lang/IndexOutOfBoundsException" ["java/lang/RuntimeException", "java/lang/Exception"]).filter goodWord ++ (vx_atS RX2 55 "java/lang/IllegalArgumentException" ["java/lang/RuntimeException", "java/lang/Exception"]).filter goodWord)
def wsX2_again_r1 : List Cond := [Cond.classLink RX2 51 "java/lang/IllegalArgumentException", Cond.initialized "java/lang/IllegalArgumentException", Cond.classLink RX2 41 "java/lang/IllegalStateException", Cond.initialized "java/lang/IllegalStateException", Cond.methodLink RX2 26 yX2_hemOf, Cond.instanceMethod yX2_hemOf, Cond.selects RX2 yX2_hemOf yX2_hemOf, Cond.initialized RX2, Cond.code yX2_hemOf cX2_hemOf 2 (some (.object "HemSuffixes$Hem")), Cond.classLink RX2 92 "java/lang/IndexOutOfBoundsException", Cond.initialized "java/lang/IndexOutOfBoundsException", Cond.fieldLink RX2 10 "HemSuffixes" "hemZero" "LHemSuffixes$Hem;", Cond.fieldLink RX2 16 "HemSuffixes" "hemOne" "LHemSuffixes$Hem;", Cond.methodLink RX2 58 yX0_sewBeginning, Cond.instanceMethod yX0_sewBeginning, Cond.selects RX0 yX0_sewBeginning yX0_sewBeginning, Cond.initialized RX0, Cond.code yX0_sewBeginning cX0_sewBeginning 3 none, Cond.fieldLink RX0 12 "HemSuffixes$Hem" "stitches" "LHemSuffixes$Stitches;", Cond.methodLink RX0 29 yX1_at, Cond.instanceMethod yX1_at, Cond.selects RX1 yX1_at yX1_at, Cond.initialized RX1, Cond.code yX1_at cX1_at 2 (some .int)]
def wsX2_again_r2 : List Cond := [Cond.fieldLink RX1 15 "HemSuffixes$Stitches" "length" "I", Cond.fieldLink RX1 9 "HemSuffixes$Stitches" "kinds" "[I", Cond.methodLink RX0 22 yX1_append, Cond.instanceMethod yX1_append, Cond.selects RX1 yX1_append yX1_append, Cond.code yX1_append cX1_append 2 none, Cond.methodLink RX0 26 yX0_orderEnds, Cond.instanceMethod yX0_orderEnds, Cond.selects RX0 yX0_orderEnds yX0_orderEnds, Cond.code yX0_orderEnds cX0_orderEnds 2 none, Cond.fieldLink RX0 18 "HemSuffixes$Hem" "placesInOrder" "[I", Cond.methodLink RX0 40 yX0_putInOrder, Cond.instanceMethod yX0_putInOrder, Cond.selects RX0 yX0_putInOrder yX0_putInOrder, Cond.code yX0_putInOrder cX0_putInOrder 4 none, Cond.methodLink RX0 44 yX1_difference, Cond.instanceMethod yX1_difference, Cond.selects RX1 yX1_difference yX1_difference, Cond.code yX1_difference cX1_difference 7 (some .int), Cond.methodLink RX1 29 yX1_sharedWith, Cond.instanceMethod yX1_sharedWith, Cond.selects RX1 yX1_sharedWith yX1_sharedWith, Cond.code yX1_sharedWith cX1_sharedWith 6 (some .int), Cond.methodLink RX1 19 Lib.Math.min.name]
def wsX2_again_r3 : List Cond := [Cond.static Lib.Math.min.name, Cond.initialized "java/lang/Math", Cond.code Lib.Math.min.name Lib.Math.min.code 2 (some .int), Cond.methodLink RX1 25 yX1_at]
def wsX2_again : List Cond := .code yX2_again cX2_again 5 (some .int) :: ((wsX2_again_r1 ++ (wsX2_again_r2 ++ wsX2_again_r3)) ++ wsX00 ++ wsX10 ++ wsX20 ++ (vx_atS RX2 55 "java/lang/IllegalArgumentException" ["java/lang/RuntimeException", "java/lang/Exception"]).filter goodWord ++ (vx_atS RX2 45 "java/lang/IllegalStateException" ["java/lang/RuntimeException", "java/lang/Exception"]).filter goodWord ++ (vx_atS RX2 96 "java/lang/IndexOutOfBoundsException" ["java/lang/RuntimeException", "java/lang/Exception"]).filter goodWord)
def wsX2_unpick_r1 : List Cond := [Cond.classLink RX2 51 "java/lang/IllegalArgumentException", Cond.initialized "java/lang/IllegalArgumentException", Cond.methodLink RX2 26 yX2_hemOf, Cond.instanceMethod yX2_hemOf, Cond.selects RX2 yX2_hemOf yX2_hemOf, Cond.initialized RX2, Cond.code yX2_hemOf cX2_hemOf 2 (some (.object "HemSuffixes$Hem")), Cond.classLink RX2 92 "java/lang/IndexOutOfBoundsException", Cond.initialized "java/lang/IndexOutOfBoundsException", Cond.fieldLink RX2 10 "HemSuffixes" "hemZero" "LHemSuffixes$Hem;", Cond.fieldLink RX2 16 "HemSuffixes" "hemOne" "LHemSuffixes$Hem;", Cond.methodLink RX2 63 yX0_takeOff, Cond.instanceMethod yX0_takeOff, Cond.selects RX0 yX0_takeOff yX0_takeOff, Cond.initialized RX0, Cond.code yX0_takeOff cX0_takeOff 2 none, Cond.fieldLink RX0 12 "HemSuffixes$Hem" "stitches" "LHemSuffixes$Stitches;", Cond.methodLink RX0 33 yX1_drop, Cond.instanceMethod yX1_drop, Cond.selects RX1 yX1_drop yX1_drop, Cond.initialized RX1, Cond.code yX1_drop cX1_drop 2 none, Cond.fieldLink RX1 15 "HemSuffixes$Stitches" "length" "I", Cond.methodLink RX0 26 yX0_orderEnds]
def wsX2_unpick_r2 : List Cond := [Cond.instanceMethod yX0_orderEnds, Cond.selects RX0 yX0_orderEnds yX0_orderEnds, Cond.code yX0_orderEnds cX0_orderEnds 2 none, Cond.fieldLink RX0 18 "HemSuffixes$Hem" "placesInOrder" "[I", Cond.methodLink RX0 40 yX0_putInOrder, Cond.instanceMethod yX0_putInOrder, Cond.selects RX0 yX0_putInOrder yX0_putInOrder, Cond.code yX0_putInOrder cX0_putInOrder 4 none, Cond.methodLink RX0 44 yX1_difference, Cond.instanceMethod yX1_difference, Cond.selects RX1 yX1_difference yX1_difference, Cond.code yX1_difference cX1_difference 7 (some .int), Cond.methodLink RX1 29 yX1_sharedWith, Cond.instanceMethod yX1_sharedWith, Cond.selects RX1 yX1_sharedWith yX1_sharedWith, Cond.code yX1_sharedWith cX1_sharedWith 6 (some .int), Cond.methodLink RX1 19 Lib.Math.min.name, Cond.static Lib.Math.min.name, Cond.initialized "java/lang/Math", Cond.code Lib.Math.min.name Lib.Math.min.code 2 (some .int), Cond.methodLink RX1 25 yX1_at, Cond.instanceMethod yX1_at, Cond.selects RX1 yX1_at yX1_at, Cond.code yX1_at cX1_at 2 (some .int)]
def wsX2_unpick_r3 : List Cond := [Cond.fieldLink RX1 9 "HemSuffixes$Stitches" "kinds" "[I"]
def wsX2_unpick : List Cond := .code yX2_unpick cX2_unpick 4 (some .int) :: ((wsX2_unpick_r1 ++ (wsX2_unpick_r2 ++ wsX2_unpick_r3)) ++ wsX00 ++ wsX10 ++ wsX20 ++ (vx_atS RX2 55 "java/lang/IllegalArgumentException" ["java/lang/RuntimeException", "java/lang/Exception"]).filter goodWord ++ (vx_atS RX2 96 "java/lang/IndexOutOfBoundsException" ["java/lang/RuntimeException", "java/lang/Exception"]).filter goodWord)
def wsX2_add : List Cond := .code yX2_add cX2_add 2 (some .int) :: ([.classLink RX2 41 "java/lang/IllegalStateException", .initialized "java/lang/IllegalStateException", .fieldLink RX2 22 "HemSuffixes" "sample" "LHemSuffixes$Stitches;", .methodLink RX2 30 yX2_requireStitch, .static yX2_requireStitch, .initialized RX2, .code yX2_requireStitch cX2_requireStitch 1 none, .classLink RX2 51 "java/lang/IllegalArgumentException", .initialized "java/lang/IllegalArgumentException", .methodLink RX2 68 yX1_append, .instanceMethod yX1_append, .selects RX1 yX1_append yX1_append, .initialized RX1, .code yX1_append cX1_append 2 none, .fieldLink RX1 15 "HemSuffixes$Stitches" "length" "I", .fieldLink RX1 9 "HemSuffixes$Stitches" "kinds" "[I"] ++ wsX20 ++ wsX10 ++ (vx_atS RX2 45 "java/lang/IllegalStateException" ["java/lang/RuntimeException", "java/lang/Exception"]).filter goodWord ++ (vx_atS RX2 55 "java/lang/IllegalArgumentException" ["java/lang/RuntimeException", "java/lang/Exception"]).filter goodWord)
def wsX2_clear : List Cond := .code yX2_clear cX2_clear 2 (some .int) :: ([.fieldLink RX2 22 "HemSuffixes" "sample" "LHemSuffixes$Stitches;", .methodLink RX2 71 yX1_drop, .instanceMethod yX1_drop, .selects RX1 yX1_drop yX1_drop, .initialized RX1, .code yX1_drop cX1_drop 2 none, .fieldLink RX1 15 "HemSuffixes$Stitches" "length" "I"] ++ wsX20 ++ wsX10)
def wsX2_requirePlace : List Cond := .code yX2_requirePlace cX2_requirePlace 2 none :: ([.classLink RX2 92 "java/lang/IndexOutOfBoundsException", .initialized "java/lang/IndexOutOfBoundsException"] ++ wsX10 ++ (vx_atS RX2 96 "java/lang/IndexOutOfBoundsException" ["java/lang/RuntimeException", "java/lang/Exception"]).filter goodWord)
def wsX2_stitch : List Cond := .code yX2_stitch cX2_stitch 4 (some .int) :: ([.methodLink RX2 26 yX2_hemOf, .instanceMethod yX2_hemOf, .selects RX2 yX2_hemOf yX2_hemOf, .initialized RX2, .code yX2_hemOf cX2_hemOf 2 (some (.object "HemSuffixes$Hem")), .classLink RX2 92 "java/lang/IndexOutOfBoundsException", .initialized "java/lang/IndexOutOfBoundsException", .fieldLink RX2 10 "HemSuffixes" "hemZero" "LHemSuffixes$Hem;", .fieldLink RX2 16 "HemSuffixes" "hemOne" "LHemSuffixes$Hem;", .methodLink RX2 74 yX2_requirePlace, .static yX2_requirePlace, .code yX2_requirePlace cX2_requirePlace 2 none, .methodLink RX2 78 yX1_at, .instanceMethod yX1_at, .selects RX1 yX1_at yX1_at, .initialized RX1, .code yX1_at cX1_at 2 (some .int), .fieldLink RX1 15 "HemSuffixes$Stitches" "length" "I", .fieldLink RX1 9 "HemSuffixes$Stitches" "kinds" "[I"] ++ wsX00 ++ wsX20 ++ wsX10 ++ (vx_atS RX2 96 "java/lang/IndexOutOfBoundsException" ["java/lang/RuntimeException", "java/lang/Exception"]).filter goodWord)
def wsX2_seamLengthFrom : List Cond := .code yX2_seamLengthFrom cX2_seamLengthFrom 2 (some .int) :: ([.fieldLink RX2 10 "HemSuffixes" "hemZero" "LHemSuffixes$Hem;", .fieldLink RX2 16 "HemSuffixes" "hemOne" "LHemSuffixes$Hem;", .methodLink RX2 185 yX1_mostSharedWith, .instanceMethod yX1_mostSharedWith, .selects RX1 yX1_mostSharedWith yX1_mostSharedWith, .initialized RX1, .code yX1_mostSharedWith cX1_mostSharedWith 5 (some .int), .fieldLink RX1 15 "HemSuffixes$Stitches" "length" "I", .methodLink RX1 33 Lib.Math.max.name, .static Lib.Math.max.name, .initialized "java/lang/Math", .code Lib.Math.max.name Lib.Math.max.code 2 (some .int), .methodLink RX1 29 yX1_sharedWith, .instanceMethod yX1_sharedWith, .selects RX1 yX1_sharedWith yX1_sharedWith, .code yX1_sharedWith cX1_sharedWith 6 (some .int), .methodLink RX1 19 Lib.Math.min.name, .static Lib.Math.min.name, .code Lib.Math.min.name Lib.Math.min.code 2 (some .int), .methodLink RX1 25 yX1_at, .instanceMethod yX1_at, .selects RX1 yX1_at yX1_at, .code yX1_at cX1_at 2 (some .int), .fieldLink RX1 9 "HemSuffixes$Stitches" "kinds" "[I"] ++ wsX20 ++ wsX00 ++ wsX10)
def wsX2_seamPlace_r1 : List Cond := [Cond.fieldLink RX2 10 "HemSuffixes" "hemZero" "LHemSuffixes$Hem;", Cond.methodLink RX2 97 yX0_placeAt, Cond.instanceMethod yX0_placeAt, Cond.selects RX0 yX0_placeAt yX0_placeAt, Cond.initialized RX0, Cond.code yX0_placeAt cX0_placeAt 2 (some .int), Cond.fieldLink RX0 12 "HemSuffixes$Hem" "stitches" "LHemSuffixes$Stitches;", Cond.fieldLink RX0 18 "HemSuffixes$Hem" "placesInOrder" "[I", Cond.methodLink RX2 89 yX2_seamLengthFrom, Cond.instanceMethod yX2_seamLengthFrom, Cond.selects RX2 yX2_seamLengthFrom yX2_seamLengthFrom, Cond.initialized RX2, Cond.code yX2_seamLengthFrom cX2_seamLengthFrom 2 (some .int), Cond.fieldLink RX2 16 "HemSuffixes" "hemOne" "LHemSuffixes$Hem;", Cond.methodLink RX2 185 yX1_mostSharedWith, Cond.instanceMethod yX1_mostSharedWith, Cond.selects RX1 yX1_mostSharedWith yX1_mostSharedWith, Cond.initialized RX1, Cond.code yX1_mostSharedWith cX1_mostSharedWith 5 (some .int), Cond.fieldLink RX1 15 "HemSuffixes$Stitches" "length" "I", Cond.methodLink RX1 33 Lib.Math.max.name, Cond.static Lib.Math.max.name, Cond.initialized "java/lang/Math", Cond.code Lib.Math.max.name Lib.Math.max.code 2 (some .int)]
def wsX2_seamPlace_r2 : List Cond := [Cond.methodLink RX1 29 yX1_sharedWith, Cond.instanceMethod yX1_sharedWith, Cond.selects RX1 yX1_sharedWith yX1_sharedWith, Cond.code yX1_sharedWith cX1_sharedWith 6 (some .int), Cond.methodLink RX1 19 Lib.Math.min.name, Cond.static Lib.Math.min.name, Cond.code Lib.Math.min.name Lib.Math.min.code 2 (some .int), Cond.methodLink RX1 25 yX1_at, Cond.instanceMethod yX1_at, Cond.selects RX1 yX1_at yX1_at, Cond.code yX1_at cX1_at 2 (some .int), Cond.fieldLink RX1 9 "HemSuffixes$Stitches" "kinds" "[I"]
def wsX2_seamPlace : List Cond := .code yX2_seamPlace cX2_seamPlace 6 (some .int) :: ((wsX2_seamPlace_r1 ++ wsX2_seamPlace_r2) ++ wsX20 ++ wsX00 ++ wsX10)
def wsX2_count_r1 : List Cond := [Cond.classLink RX2 92 "java/lang/IndexOutOfBoundsException", Cond.initialized "java/lang/IndexOutOfBoundsException", Cond.fieldLink RX2 10 "HemSuffixes" "hemZero" "LHemSuffixes$Hem;", Cond.fieldLink RX2 16 "HemSuffixes" "hemOne" "LHemSuffixes$Hem;", Cond.fieldLink RX2 22 "HemSuffixes" "sample" "LHemSuffixes$Stitches;", Cond.methodLink RX2 82 yX0_differentRows, Cond.instanceMethod yX0_differentRows, Cond.selects RX0 yX0_differentRows yX0_differentRows, Cond.initialized RX0, Cond.code yX0_differentRows cX0_differentRows 3 (some .int), Cond.fieldLink RX0 12 "HemSuffixes$Hem" "stitches" "LHemSuffixes$Stitches;", Cond.methodLink RX0 57 yX0_rowsFirstAt, Cond.instanceMethod yX0_rowsFirstAt, Cond.selects RX0 yX0_rowsFirstAt yX0_rowsFirstAt, Cond.code yX0_rowsFirstAt cX0_rowsFirstAt 2 (some .int), Cond.methodLink RX0 48 yX0_placeAt, Cond.instanceMethod yX0_placeAt, Cond.selects RX0 yX0_placeAt yX0_placeAt, Cond.code yX0_placeAt cX0_placeAt 2 (some .int), Cond.fieldLink RX0 18 "HemSuffixes$Hem" "placesInOrder" "[I", Cond.methodLink RX0 54 yX0_sharedWithNext, Cond.instanceMethod yX0_sharedWithNext, Cond.selects RX0 yX0_sharedWithNext yX0_sharedWithNext, Cond.code yX0_sharedWithNext cX0_sharedWithNext 4 (some .int)]
def wsX2_count_r2 : List Cond := [Cond.methodLink RX0 51 yX1_sharedWith, Cond.instanceMethod yX1_sharedWith, Cond.selects RX1 yX1_sharedWith yX1_sharedWith, Cond.initialized RX1, Cond.code yX1_sharedWith cX1_sharedWith 6 (some .int), Cond.fieldLink RX1 15 "HemSuffixes$Stitches" "length" "I", Cond.methodLink RX1 19 Lib.Math.min.name, Cond.static Lib.Math.min.name, Cond.initialized "java/lang/Math", Cond.code Lib.Math.min.name Lib.Math.min.code 2 (some .int), Cond.methodLink RX1 25 yX1_at, Cond.instanceMethod yX1_at, Cond.selects RX1 yX1_at yX1_at, Cond.code yX1_at cX1_at 2 (some .int), Cond.fieldLink RX1 9 "HemSuffixes$Stitches" "kinds" "[I", Cond.methodLink RX2 86 yX2_seamPlace, Cond.instanceMethod yX2_seamPlace, Cond.selects RX2 yX2_seamPlace yX2_seamPlace, Cond.initialized RX2, Cond.code yX2_seamPlace cX2_seamPlace 6 (some .int), Cond.methodLink RX2 97 yX0_placeAt, Cond.methodLink RX2 89 yX2_seamLengthFrom, Cond.instanceMethod yX2_seamLengthFrom, Cond.selects RX2 yX2_seamLengthFrom yX2_seamLengthFrom]
def wsX2_count_r3 : List Cond := [Cond.code yX2_seamLengthFrom cX2_seamLengthFrom 2 (some .int), Cond.methodLink RX2 185 yX1_mostSharedWith, Cond.instanceMethod yX1_mostSharedWith, Cond.selects RX1 yX1_mostSharedWith yX1_mostSharedWith, Cond.code yX1_mostSharedWith cX1_mostSharedWith 5 (some .int), Cond.methodLink RX1 33 Lib.Math.max.name, Cond.static Lib.Math.max.name, Cond.code Lib.Math.max.name Lib.Math.max.code 2 (some .int), Cond.methodLink RX1 29 yX1_sharedWith]
def wsX2_count : List Cond := .code yX2_count cX2_count 2 (some .int) :: ((wsX2_count_r1 ++ (wsX2_count_r2 ++ wsX2_count_r3)) ++ wsX20 ++ wsX00 ++ wsX10 ++ (vx_atS RX2 96 "java/lang/IndexOutOfBoundsException" ["java/lang/RuntimeException", "java/lang/Exception"]).filter goodWord)
def wsX2_end : List Cond := .code yX2_end cX2_end 4 (some .int) :: ([.methodLink RX2 26 yX2_hemOf, .instanceMethod yX2_hemOf, .selects RX2 yX2_hemOf yX2_hemOf, .initialized RX2, .code yX2_hemOf cX2_hemOf 2 (some (.object "HemSuffixes$Hem")), .classLink RX2 92 "java/lang/IndexOutOfBoundsException", .initialized "java/lang/IndexOutOfBoundsException", .fieldLink RX2 10 "HemSuffixes" "hemZero" "LHemSuffixes$Hem;", .fieldLink RX2 16 "HemSuffixes" "hemOne" "LHemSuffixes$Hem;", .methodLink RX2 74 yX2_requirePlace, .static yX2_requirePlace, .code yX2_requirePlace cX2_requirePlace 2 none, .methodLink RX2 97 yX0_placeAt, .instanceMethod yX0_placeAt, .selects RX0 yX0_placeAt yX0_placeAt, .initialized RX0, .code yX0_placeAt cX0_placeAt 2 (some .int), .fieldLink RX0 12 "HemSuffixes$Hem" "stitches" "LHemSuffixes$Stitches;", .fieldLink RX0 18 "HemSuffixes$Hem" "placesInOrder" "[I"] ++ wsX00 ++ wsX20 ++ wsX10 ++ (vx_atS RX2 96 "java/lang/IndexOutOfBoundsException" ["java/lang/RuntimeException", "java/lang/Exception"]).filter goodWord)
def wsX2_rank : List Cond := .code yX2_rank cX2_rank 4 (some .int) :: ([.methodLink RX2 26 yX2_hemOf, .instanceMethod yX2_hemOf, .selects RX2 yX2_hemOf yX2_hemOf, .initialized RX2, .code yX2_hemOf cX2_hemOf 2 (some (.object "HemSuffixes$Hem")), .classLink RX2 92 "java/lang/IndexOutOfBoundsException", .initialized "java/lang/IndexOutOfBoundsException", .fieldLink RX2 10 "HemSuffixes" "hemZero" "LHemSuffixes$Hem;", .fieldLink RX2 16 "HemSuffixes" "hemOne" "LHemSuffixes$Hem;", .methodLink RX2 74 yX2_requirePlace, .static yX2_requirePlace, .code yX2_requirePlace cX2_requirePlace 2 none, .methodLink RX2 100 yX0_rankOf, .instanceMethod yX0_rankOf, .selects RX0 yX0_rankOf yX0_rankOf, .initialized RX0, .code yX0_rankOf cX0_rankOf 3 (some .int), .fieldLink RX0 12 "HemSuffixes$Hem" "stitches" "LHemSuffixes$Stitches;", .methodLink RX0 48 yX0_placeAt, .instanceMethod yX0_placeAt, .selects RX0 yX0_placeAt yX0_placeAt, .code yX0_placeAt cX0_placeAt 2 (some .int), .fieldLink RX0 18 "HemSuffixes$Hem" "placesInOrder" "[I"] ++ wsX00 ++ wsX20 ++ wsX10 ++ (vx_atS RX2 96 "java/lang/IndexOutOfBoundsException" ["java/lang/RuntimeException", "java/lang/Exception"]).filter goodWord)
def wsX2_common_r1 : List Cond := [Cond.methodLink RX2 26 yX2_hemOf, Cond.instanceMethod yX2_hemOf, Cond.selects RX2 yX2_hemOf yX2_hemOf, Cond.initialized RX2, Cond.code yX2_hemOf cX2_hemOf 2 (some (.object "HemSuffixes$Hem")), Cond.classLink RX2 92 "java/lang/IndexOutOfBoundsException", Cond.initialized "java/lang/IndexOutOfBoundsException", Cond.fieldLink RX2 10 "HemSuffixes" "hemZero" "LHemSuffixes$Hem;", Cond.fieldLink RX2 16 "HemSuffixes" "hemOne" "LHemSuffixes$Hem;", Cond.methodLink RX2 74 yX2_requirePlace, Cond.static yX2_requirePlace, Cond.code yX2_requirePlace cX2_requirePlace 2 none, Cond.methodLink RX2 103 yX1_sharedWith, Cond.instanceMethod yX1_sharedWith, Cond.selects RX1 yX1_sharedWith yX1_sharedWith, Cond.initialized RX1, Cond.code yX1_sharedWith cX1_sharedWith 6 (some .int), Cond.fieldLink RX1 15 "HemSuffixes$Stitches" "length" "I", Cond.methodLink RX1 19 Lib.Math.min.name, Cond.static Lib.Math.min.name, Cond.initialized "java/lang/Math", Cond.code Lib.Math.min.name Lib.Math.min.code 2 (some .int), Cond.methodLink RX1 25 yX1_at, Cond.instanceMethod yX1_at]
def wsX2_common_r2 : List Cond := [Cond.selects RX1 yX1_at yX1_at, Cond.code yX1_at cX1_at 2 (some .int), Cond.fieldLink RX1 9 "HemSuffixes$Stitches" "kinds" "[I"]
def wsX2_common : List Cond := .code yX2_common cX2_common 5 (some .int) :: ((wsX2_common_r1 ++ wsX2_common_r2) ++ wsX00 ++ wsX20 ++ wsX10 ++ (vx_atS RX2 96 "java/lang/IndexOutOfBoundsException" ["java/lang/RuntimeException", "java/lang/Exception"]).filter goodWord)
def wsX2_against_r1 : List Cond := [Cond.fieldLink RX2 10 "HemSuffixes" "hemZero" "LHemSuffixes$Hem;", Cond.fieldLink RX2 16 "HemSuffixes" "hemOne" "LHemSuffixes$Hem;", Cond.methodLink RX2 74 yX2_requirePlace, Cond.static yX2_requirePlace, Cond.initialized RX2, Cond.code yX2_requirePlace cX2_requirePlace 2 none, Cond.classLink RX2 92 "java/lang/IndexOutOfBoundsException", Cond.initialized "java/lang/IndexOutOfBoundsException", Cond.methodLink RX2 107 yX1_difference, Cond.instanceMethod yX1_difference, Cond.selects RX1 yX1_difference yX1_difference, Cond.initialized RX1, Cond.code yX1_difference cX1_difference 7 (some .int), Cond.methodLink RX1 29 yX1_sharedWith, Cond.instanceMethod yX1_sharedWith, Cond.selects RX1 yX1_sharedWith yX1_sharedWith, Cond.code yX1_sharedWith cX1_sharedWith 6 (some .int), Cond.fieldLink RX1 15 "HemSuffixes$Stitches" "length" "I", Cond.methodLink RX1 19 Lib.Math.min.name, Cond.static Lib.Math.min.name, Cond.initialized "java/lang/Math", Cond.code Lib.Math.min.name Lib.Math.min.code 2 (some .int), Cond.methodLink RX1 25 yX1_at, Cond.instanceMethod yX1_at]
def wsX2_against_r2 : List Cond := [Cond.selects RX1 yX1_at yX1_at, Cond.code yX1_at cX1_at 2 (some .int), Cond.fieldLink RX1 9 "HemSuffixes$Stitches" "kinds" "[I"]
def wsX2_against : List Cond := .code yX2_against cX2_against 3 (some .int) :: ((wsX2_against_r1 ++ wsX2_against_r2) ++ wsX20 ++ wsX00 ++ wsX10 ++ (vx_atS RX2 96 "java/lang/IndexOutOfBoundsException" ["java/lang/RuntimeException", "java/lang/Exception"]).filter goodWord)
def wsX2_repeat_r1 : List Cond := [Cond.classLink RX2 92 "java/lang/IndexOutOfBoundsException", Cond.initialized "java/lang/IndexOutOfBoundsException", Cond.methodLink RX2 26 yX2_hemOf, Cond.instanceMethod yX2_hemOf, Cond.selects RX2 yX2_hemOf yX2_hemOf, Cond.initialized RX2, Cond.code yX2_hemOf cX2_hemOf 2 (some (.object "HemSuffixes$Hem")), Cond.fieldLink RX2 10 "HemSuffixes" "hemZero" "LHemSuffixes$Hem;", Cond.fieldLink RX2 16 "HemSuffixes" "hemOne" "LHemSuffixes$Hem;", Cond.methodLink RX2 112 yX0_repeatRank, Cond.instanceMethod yX0_repeatRank, Cond.selects RX0 yX0_repeatRank yX0_repeatRank, Cond.initialized RX0, Cond.code yX0_repeatRank cX0_repeatRank 5 (some .int), Cond.fieldLink RX0 12 "HemSuffixes$Hem" "stitches" "LHemSuffixes$Stitches;", Cond.methodLink RX0 54 yX0_sharedWithNext, Cond.instanceMethod yX0_sharedWithNext, Cond.selects RX0 yX0_sharedWithNext yX0_sharedWithNext, Cond.code yX0_sharedWithNext cX0_sharedWithNext 4 (some .int), Cond.methodLink RX0 48 yX0_placeAt, Cond.instanceMethod yX0_placeAt, Cond.selects RX0 yX0_placeAt yX0_placeAt, Cond.code yX0_placeAt cX0_placeAt 2 (some .int), Cond.fieldLink RX0 18 "HemSuffixes$Hem" "placesInOrder" "[I"]
def wsX2_repeat_r2 : List Cond := [Cond.methodLink RX0 51 yX1_sharedWith, Cond.instanceMethod yX1_sharedWith, Cond.selects RX1 yX1_sharedWith yX1_sharedWith, Cond.initialized RX1, Cond.code yX1_sharedWith cX1_sharedWith 6 (some .int), Cond.fieldLink RX1 15 "HemSuffixes$Stitches" "length" "I", Cond.methodLink RX1 19 Lib.Math.min.name, Cond.static Lib.Math.min.name, Cond.initialized "java/lang/Math", Cond.code Lib.Math.min.name Lib.Math.min.code 2 (some .int), Cond.methodLink RX1 25 yX1_at, Cond.instanceMethod yX1_at, Cond.selects RX1 yX1_at yX1_at, Cond.code yX1_at cX1_at 2 (some .int), Cond.fieldLink RX1 9 "HemSuffixes$Stitches" "kinds" "[I", Cond.methodLink RX2 115 yX0_sharedWithNext, Cond.methodLink RX2 97 yX0_placeAt, Cond.methodLink RX2 118 yX1_firstPlaceOf, Cond.instanceMethod yX1_firstPlaceOf, Cond.selects RX1 yX1_firstPlaceOf yX1_firstPlaceOf, Cond.code yX1_firstPlaceOf cX1_firstPlaceOf 5 (some .int), Cond.methodLink RX1 36 yX1_standsAt, Cond.instanceMethod yX1_standsAt, Cond.selects RX1 yX1_standsAt yX1_standsAt]
def wsX2_repeat_r3 : List Cond := [Cond.code yX1_standsAt cX1_standsAt 5 (some .boolean), Cond.methodLink RX1 29 yX1_sharedWith, Cond.methodLink RX2 122 yX1_placesOf, Cond.instanceMethod yX1_placesOf, Cond.selects RX1 yX1_placesOf yX1_placesOf, Cond.code yX1_placesOf cX1_placesOf 6 (some .int)]
def wsX2_repeat : List Cond := .code yX2_repeat cX2_repeat 7 (some .int) :: ((wsX2_repeat_r1 ++ (wsX2_repeat_r2 ++ wsX2_repeat_r3)) ++ wsX00 ++ wsX20 ++ wsX10 ++ (vx_atS RX2 96 "java/lang/IndexOutOfBoundsException" ["java/lang/RuntimeException", "java/lang/Exception"]).filter goodWord)
def wsX2_row_r1 : List Cond := [Cond.classLink RX2 92 "java/lang/IndexOutOfBoundsException", Cond.initialized "java/lang/IndexOutOfBoundsException", Cond.methodLink RX2 26 yX2_hemOf, Cond.instanceMethod yX2_hemOf, Cond.selects RX2 yX2_hemOf yX2_hemOf, Cond.initialized RX2, Cond.code yX2_hemOf cX2_hemOf 2 (some (.object "HemSuffixes$Hem")), Cond.fieldLink RX2 10 "HemSuffixes" "hemZero" "LHemSuffixes$Hem;", Cond.fieldLink RX2 16 "HemSuffixes" "hemOne" "LHemSuffixes$Hem;", Cond.methodLink RX2 82 yX0_differentRows, Cond.instanceMethod yX0_differentRows, Cond.selects RX0 yX0_differentRows yX0_differentRows, Cond.initialized RX0, Cond.code yX0_differentRows cX0_differentRows 3 (some .int), Cond.fieldLink RX0 12 "HemSuffixes$Hem" "stitches" "LHemSuffixes$Stitches;", Cond.methodLink RX0 57 yX0_rowsFirstAt, Cond.instanceMethod yX0_rowsFirstAt, Cond.selects RX0 yX0_rowsFirstAt yX0_rowsFirstAt, Cond.code yX0_rowsFirstAt cX0_rowsFirstAt 2 (some .int), Cond.methodLink RX0 48 yX0_placeAt, Cond.instanceMethod yX0_placeAt, Cond.selects RX0 yX0_placeAt yX0_placeAt, Cond.code yX0_placeAt cX0_placeAt 2 (some .int), Cond.fieldLink RX0 18 "HemSuffixes$Hem" "placesInOrder" "[I"]
def wsX2_row_r2 : List Cond := [Cond.methodLink RX0 54 yX0_sharedWithNext, Cond.instanceMethod yX0_sharedWithNext, Cond.selects RX0 yX0_sharedWithNext yX0_sharedWithNext, Cond.code yX0_sharedWithNext cX0_sharedWithNext 4 (some .int), Cond.methodLink RX0 51 yX1_sharedWith, Cond.instanceMethod yX1_sharedWith, Cond.selects RX1 yX1_sharedWith yX1_sharedWith, Cond.initialized RX1, Cond.code yX1_sharedWith cX1_sharedWith 6 (some .int), Cond.fieldLink RX1 15 "HemSuffixes$Stitches" "length" "I", Cond.methodLink RX1 19 Lib.Math.min.name, Cond.static Lib.Math.min.name, Cond.initialized "java/lang/Math", Cond.code Lib.Math.min.name Lib.Math.min.code 2 (some .int), Cond.methodLink RX1 25 yX1_at, Cond.instanceMethod yX1_at, Cond.selects RX1 yX1_at yX1_at, Cond.code yX1_at cX1_at 2 (some .int), Cond.fieldLink RX1 9 "HemSuffixes$Stitches" "kinds" "[I", Cond.methodLink RX2 127 yX0_rowOfNumber, Cond.instanceMethod yX0_rowOfNumber, Cond.selects RX0 yX0_rowOfNumber yX0_rowOfNumber, Cond.code yX0_rowOfNumber cX0_rowOfNumber 6 (some .int), Cond.methodLink RX0 60 yX1_firstPlaceOf]
def wsX2_row_r3 : List Cond := [Cond.instanceMethod yX1_firstPlaceOf, Cond.selects RX1 yX1_firstPlaceOf yX1_firstPlaceOf, Cond.code yX1_firstPlaceOf cX1_firstPlaceOf 5 (some .int), Cond.methodLink RX1 36 yX1_standsAt, Cond.instanceMethod yX1_standsAt, Cond.selects RX1 yX1_standsAt yX1_standsAt, Cond.code yX1_standsAt cX1_standsAt 5 (some .boolean), Cond.methodLink RX1 29 yX1_sharedWith]
def wsX2_row : List Cond := .code yX2_row cX2_row 4 (some .int) :: ((wsX2_row_r1 ++ (wsX2_row_r2 ++ wsX2_row_r3)) ++ wsX20 ++ wsX00 ++ wsX10 ++ (vx_atS RX2 96 "java/lang/IndexOutOfBoundsException" ["java/lang/RuntimeException", "java/lang/Exception"]).filter goodWord)
def wsX2_found_r1 : List Cond := [Cond.fieldLink RX2 22 "HemSuffixes" "sample" "LHemSuffixes$Stitches;", Cond.methodLink RX2 26 yX2_hemOf, Cond.instanceMethod yX2_hemOf, Cond.selects RX2 yX2_hemOf yX2_hemOf, Cond.initialized RX2, Cond.code yX2_hemOf cX2_hemOf 2 (some (.object "HemSuffixes$Hem")), Cond.classLink RX2 92 "java/lang/IndexOutOfBoundsException", Cond.initialized "java/lang/IndexOutOfBoundsException", Cond.fieldLink RX2 10 "HemSuffixes" "hemZero" "LHemSuffixes$Hem;", Cond.fieldLink RX2 16 "HemSuffixes" "hemOne" "LHemSuffixes$Hem;", Cond.methodLink RX2 122 yX1_placesOf, Cond.instanceMethod yX1_placesOf, Cond.selects RX1 yX1_placesOf yX1_placesOf, Cond.initialized RX1, Cond.code yX1_placesOf cX1_placesOf 6 (some .int), Cond.fieldLink RX1 15 "HemSuffixes$Stitches" "length" "I", Cond.methodLink RX1 36 yX1_standsAt, Cond.instanceMethod yX1_standsAt, Cond.selects RX1 yX1_standsAt yX1_standsAt, Cond.code yX1_standsAt cX1_standsAt 5 (some .boolean), Cond.methodLink RX1 29 yX1_sharedWith, Cond.instanceMethod yX1_sharedWith, Cond.selects RX1 yX1_sharedWith yX1_sharedWith, Cond.code yX1_sharedWith cX1_sharedWith 6 (some .int)]
def wsX2_found_r2 : List Cond := [Cond.methodLink RX1 19 Lib.Math.min.name, Cond.static Lib.Math.min.name, Cond.initialized "java/lang/Math", Cond.code Lib.Math.min.name Lib.Math.min.code 2 (some .int), Cond.methodLink RX1 25 yX1_at, Cond.instanceMethod yX1_at, Cond.selects RX1 yX1_at yX1_at, Cond.code yX1_at cX1_at 2 (some .int), Cond.fieldLink RX1 9 "HemSuffixes$Stitches" "kinds" "[I"]
def wsX2_found : List Cond := .code yX2_found cX2_found 2 (some .int) :: ((wsX2_found_r1 ++ wsX2_found_r2) ++ wsX00 ++ wsX20 ++ wsX10 ++ (vx_atS RX2 96 "java/lang/IndexOutOfBoundsException" ["java/lang/RuntimeException", "java/lang/Exception"]).filter goodWord)
def wsX2_first_r1 : List Cond := [Cond.fieldLink RX2 22 "HemSuffixes" "sample" "LHemSuffixes$Stitches;", Cond.methodLink RX2 26 yX2_hemOf, Cond.instanceMethod yX2_hemOf, Cond.selects RX2 yX2_hemOf yX2_hemOf, Cond.initialized RX2, Cond.code yX2_hemOf cX2_hemOf 2 (some (.object "HemSuffixes$Hem")), Cond.classLink RX2 92 "java/lang/IndexOutOfBoundsException", Cond.initialized "java/lang/IndexOutOfBoundsException", Cond.fieldLink RX2 10 "HemSuffixes" "hemZero" "LHemSuffixes$Hem;", Cond.fieldLink RX2 16 "HemSuffixes" "hemOne" "LHemSuffixes$Hem;", Cond.methodLink RX2 118 yX1_firstPlaceOf, Cond.instanceMethod yX1_firstPlaceOf, Cond.selects RX1 yX1_firstPlaceOf yX1_firstPlaceOf, Cond.initialized RX1, Cond.code yX1_firstPlaceOf cX1_firstPlaceOf 5 (some .int), Cond.fieldLink RX1 15 "HemSuffixes$Stitches" "length" "I", Cond.methodLink RX1 36 yX1_standsAt, Cond.instanceMethod yX1_standsAt, Cond.selects RX1 yX1_standsAt yX1_standsAt, Cond.code yX1_standsAt cX1_standsAt 5 (some .boolean), Cond.methodLink RX1 29 yX1_sharedWith, Cond.instanceMethod yX1_sharedWith, Cond.selects RX1 yX1_sharedWith yX1_sharedWith, Cond.code yX1_sharedWith cX1_sharedWith 6 (some .int)]
def wsX2_first_r2 : List Cond := [Cond.methodLink RX1 19 Lib.Math.min.name, Cond.static Lib.Math.min.name, Cond.initialized "java/lang/Math", Cond.code Lib.Math.min.name Lib.Math.min.code 2 (some .int), Cond.methodLink RX1 25 yX1_at, Cond.instanceMethod yX1_at, Cond.selects RX1 yX1_at yX1_at, Cond.code yX1_at cX1_at 2 (some .int), Cond.fieldLink RX1 9 "HemSuffixes$Stitches" "kinds" "[I"]
def wsX2_first : List Cond := .code yX2_first cX2_first 2 (some .int) :: ((wsX2_first_r1 ++ wsX2_first_r2) ++ wsX00 ++ wsX20 ++ wsX10 ++ (vx_atS RX2 96 "java/lang/IndexOutOfBoundsException" ["java/lang/RuntimeException", "java/lang/Exception"]).filter goodWord)
def wsX2_period_r1 : List Cond := [Cond.methodLink RX2 26 yX2_hemOf, Cond.instanceMethod yX2_hemOf, Cond.selects RX2 yX2_hemOf yX2_hemOf, Cond.initialized RX2, Cond.code yX2_hemOf cX2_hemOf 2 (some (.object "HemSuffixes$Hem")), Cond.classLink RX2 92 "java/lang/IndexOutOfBoundsException", Cond.initialized "java/lang/IndexOutOfBoundsException", Cond.fieldLink RX2 10 "HemSuffixes" "hemZero" "LHemSuffixes$Hem;", Cond.fieldLink RX2 16 "HemSuffixes" "hemOne" "LHemSuffixes$Hem;", Cond.methodLink RX2 130 yX1_leastPeriod, Cond.instanceMethod yX1_leastPeriod, Cond.selects RX1 yX1_leastPeriod yX1_leastPeriod, Cond.initialized RX1, Cond.code yX1_leastPeriod cX1_leastPeriod 2 (some .int), Cond.fieldLink RX1 15 "HemSuffixes$Stitches" "length" "I", Cond.methodLink RX1 29 yX1_sharedWith, Cond.instanceMethod yX1_sharedWith, Cond.selects RX1 yX1_sharedWith yX1_sharedWith, Cond.code yX1_sharedWith cX1_sharedWith 6 (some .int), Cond.methodLink RX1 19 Lib.Math.min.name, Cond.static Lib.Math.min.name, Cond.initialized "java/lang/Math", Cond.code Lib.Math.min.name Lib.Math.min.code 2 (some .int), Cond.methodLink RX1 25 yX1_at]
def wsX2_period_r2 : List Cond := [Cond.instanceMethod yX1_at, Cond.selects RX1 yX1_at yX1_at, Cond.code yX1_at cX1_at 2 (some .int), Cond.fieldLink RX1 9 "HemSuffixes$Stitches" "kinds" "[I"]
def wsX2_period : List Cond := .code yX2_period cX2_period 2 (some .int) :: ((wsX2_period_r1 ++ wsX2_period_r2) ++ wsX00 ++ wsX20 ++ wsX10 ++ (vx_atS RX2 96 "java/lang/IndexOutOfBoundsException" ["java/lang/RuntimeException", "java/lang/Exception"]).filter goodWord)
def wsX2_turned_r1 : List Cond := [Cond.methodLink RX2 26 yX2_hemOf, Cond.instanceMethod yX2_hemOf, Cond.selects RX2 yX2_hemOf yX2_hemOf, Cond.initialized RX2, Cond.code yX2_hemOf cX2_hemOf 2 (some (.object "HemSuffixes$Hem")), Cond.classLink RX2 92 "java/lang/IndexOutOfBoundsException", Cond.initialized "java/lang/IndexOutOfBoundsException", Cond.fieldLink RX2 10 "HemSuffixes" "hemZero" "LHemSuffixes$Hem;", Cond.fieldLink RX2 16 "HemSuffixes" "hemOne" "LHemSuffixes$Hem;", Cond.methodLink RX2 133 yX1_bestBeginning, Cond.instanceMethod yX1_bestBeginning, Cond.selects RX1 yX1_bestBeginning yX1_bestBeginning, Cond.initialized RX1, Cond.code yX1_bestBeginning cX1_bestBeginning 3 (some .int), Cond.fieldLink RX1 15 "HemSuffixes$Stitches" "length" "I", Cond.methodLink RX1 40 yX1_turnsToLess, Cond.instanceMethod yX1_turnsToLess, Cond.selects RX1 yX1_turnsToLess yX1_turnsToLess, Cond.code yX1_turnsToLess cX1_turnsToLess 6 (some .boolean), Cond.methodLink RX1 44 yX1_allAround, Cond.instanceMethod yX1_allAround, Cond.selects RX1 yX1_allAround yX1_allAround, Cond.code yX1_allAround cX1_allAround 2 (some .int), Cond.methodLink RX1 25 yX1_at]
def wsX2_turned_r2 : List Cond := [Cond.instanceMethod yX1_at, Cond.selects RX1 yX1_at yX1_at, Cond.code yX1_at cX1_at 2 (some .int), Cond.fieldLink RX1 9 "HemSuffixes$Stitches" "kinds" "[I"]
def wsX2_turned : List Cond := .code yX2_turned cX2_turned 2 (some .int) :: ((wsX2_turned_r1 ++ wsX2_turned_r2) ++ wsX00 ++ wsX20 ++ wsX10 ++ (vx_atS RX2 96 "java/lang/IndexOutOfBoundsException" ["java/lang/RuntimeException", "java/lang/Exception"]).filter goodWord)
def wsX2_seam_r1 : List Cond := [Cond.classLink RX2 92 "java/lang/IndexOutOfBoundsException", Cond.initialized "java/lang/IndexOutOfBoundsException", Cond.fieldLink RX2 10 "HemSuffixes" "hemZero" "LHemSuffixes$Hem;", Cond.fieldLink RX2 16 "HemSuffixes" "hemOne" "LHemSuffixes$Hem;", Cond.methodLink RX2 86 yX2_seamPlace, Cond.instanceMethod yX2_seamPlace, Cond.selects RX2 yX2_seamPlace yX2_seamPlace, Cond.initialized RX2, Cond.code yX2_seamPlace cX2_seamPlace 6 (some .int), Cond.methodLink RX2 97 yX0_placeAt, Cond.instanceMethod yX0_placeAt, Cond.selects RX0 yX0_placeAt yX0_placeAt, Cond.initialized RX0, Cond.code yX0_placeAt cX0_placeAt 2 (some .int), Cond.fieldLink RX0 12 "HemSuffixes$Hem" "stitches" "LHemSuffixes$Stitches;", Cond.fieldLink RX0 18 "HemSuffixes$Hem" "placesInOrder" "[I", Cond.methodLink RX2 89 yX2_seamLengthFrom, Cond.instanceMethod yX2_seamLengthFrom, Cond.selects RX2 yX2_seamLengthFrom yX2_seamLengthFrom, Cond.code yX2_seamLengthFrom cX2_seamLengthFrom 2 (some .int), Cond.methodLink RX2 185 yX1_mostSharedWith, Cond.instanceMethod yX1_mostSharedWith, Cond.selects RX1 yX1_mostSharedWith yX1_mostSharedWith, Cond.initialized RX1]
def wsX2_seam_r2 : List Cond := [Cond.code yX1_mostSharedWith cX1_mostSharedWith 5 (some .int), Cond.fieldLink RX1 15 "HemSuffixes$Stitches" "length" "I", Cond.methodLink RX1 33 Lib.Math.max.name, Cond.static Lib.Math.max.name, Cond.initialized "java/lang/Math", Cond.code Lib.Math.max.name Lib.Math.max.code 2 (some .int), Cond.methodLink RX1 29 yX1_sharedWith, Cond.instanceMethod yX1_sharedWith, Cond.selects RX1 yX1_sharedWith yX1_sharedWith, Cond.code yX1_sharedWith cX1_sharedWith 6 (some .int), Cond.methodLink RX1 19 Lib.Math.min.name, Cond.static Lib.Math.min.name, Cond.code Lib.Math.min.name Lib.Math.min.code 2 (some .int), Cond.methodLink RX1 25 yX1_at, Cond.instanceMethod yX1_at, Cond.selects RX1 yX1_at yX1_at, Cond.code yX1_at cX1_at 2 (some .int), Cond.fieldLink RX1 9 "HemSuffixes$Stitches" "kinds" "[I", Cond.methodLink RX2 118 yX1_firstPlaceOf, Cond.instanceMethod yX1_firstPlaceOf, Cond.selects RX1 yX1_firstPlaceOf yX1_firstPlaceOf, Cond.code yX1_firstPlaceOf cX1_firstPlaceOf 5 (some .int), Cond.methodLink RX1 36 yX1_standsAt, Cond.instanceMethod yX1_standsAt]
def wsX2_seam_r3 : List Cond := [Cond.selects RX1 yX1_standsAt yX1_standsAt, Cond.code yX1_standsAt cX1_standsAt 5 (some .boolean)]
def wsX2_seam : List Cond := .code yX2_seam cX2_seam 5 (some .int) :: ((wsX2_seam_r1 ++ (wsX2_seam_r2 ++ wsX2_seam_r3)) ++ wsX20 ++ wsX00 ++ wsX10 ++ (vx_atS RX2 96 "java/lang/IndexOutOfBoundsException" ["java/lang/RuntimeException", "java/lang/Exception"]).filter goodWord)
def wsX2_would_r1 : List Cond := [Cond.methodLink RX2 26 yX2_hemOf, Cond.instanceMethod yX2_hemOf, Cond.selects RX2 yX2_hemOf yX2_hemOf, Cond.initialized RX2, Cond.code yX2_hemOf cX2_hemOf 2 (some (.object "HemSuffixes$Hem")), Cond.classLink RX2 92 "java/lang/IndexOutOfBoundsException", Cond.initialized "java/lang/IndexOutOfBoundsException", Cond.fieldLink RX2 10 "HemSuffixes" "hemZero" "LHemSuffixes$Hem;", Cond.fieldLink RX2 16 "HemSuffixes" "hemOne" "LHemSuffixes$Hem;", Cond.methodLink RX2 30 yX2_requireStitch, Cond.static yX2_requireStitch, Cond.code yX2_requireStitch cX2_requireStitch 1 none, Cond.classLink RX2 51 "java/lang/IllegalArgumentException", Cond.initialized "java/lang/IllegalArgumentException", Cond.methodLink RX2 136 yX1_newRowsBy, Cond.instanceMethod yX1_newRowsBy, Cond.selects RX1 yX1_newRowsBy yX1_newRowsBy, Cond.initialized RX1, Cond.code yX1_newRowsBy cX1_newRowsBy 4 (some .int), Cond.fieldLink RX1 15 "HemSuffixes$Stitches" "length" "I", Cond.methodLink RX1 33 Lib.Math.max.name, Cond.static Lib.Math.max.name, Cond.initialized "java/lang/Math", Cond.code Lib.Math.max.name Lib.Math.max.code 2 (some .int)]
def wsX2_would_r2 : List Cond := [Cond.methodLink RX1 25 yX1_at, Cond.instanceMethod yX1_at, Cond.selects RX1 yX1_at yX1_at, Cond.code yX1_at cX1_at 2 (some .int), Cond.fieldLink RX1 9 "HemSuffixes$Stitches" "kinds" "[I", Cond.methodLink RX1 47 yX1_sharedBackwardsFrom, Cond.instanceMethod yX1_sharedBackwardsFrom, Cond.selects RX1 yX1_sharedBackwardsFrom yX1_sharedBackwardsFrom, Cond.code yX1_sharedBackwardsFrom cX1_sharedBackwardsFrom 3 (some .int)]
def wsX2_would : List Cond := .code yX2_would cX2_would 4 (some .int) :: ((wsX2_would_r1 ++ wsX2_would_r2) ++ wsX00 ++ wsX20 ++ wsX10 ++ (vx_atS RX2 96 "java/lang/IndexOutOfBoundsException" ["java/lang/RuntimeException", "java/lang/Exception"]).filter goodWord ++ (vx_atS RX2 55 "java/lang/IllegalArgumentException" ["java/lang/RuntimeException", "java/lang/Exception"]).filter goodWord)
def wsX2_advise_r1 : List Cond := [Cond.methodLink RX2 26 yX2_hemOf, Cond.instanceMethod yX2_hemOf, Cond.selects RX2 yX2_hemOf yX2_hemOf, Cond.initialized RX2, Cond.code yX2_hemOf cX2_hemOf 2 (some (.object "HemSuffixes$Hem")), Cond.classLink RX2 92 "java/lang/IndexOutOfBoundsException", Cond.initialized "java/lang/IndexOutOfBoundsException", Cond.fieldLink RX2 10 "HemSuffixes" "hemZero" "LHemSuffixes$Hem;", Cond.fieldLink RX2 16 "HemSuffixes" "hemOne" "LHemSuffixes$Hem;", Cond.methodLink RX2 136 yX1_newRowsBy, Cond.instanceMethod yX1_newRowsBy, Cond.selects RX1 yX1_newRowsBy yX1_newRowsBy, Cond.initialized RX1, Cond.code yX1_newRowsBy cX1_newRowsBy 4 (some .int), Cond.fieldLink RX1 15 "HemSuffixes$Stitches" "length" "I", Cond.methodLink RX1 33 Lib.Math.max.name, Cond.static Lib.Math.max.name, Cond.initialized "java/lang/Math", Cond.code Lib.Math.max.name Lib.Math.max.code 2 (some .int), Cond.methodLink RX1 25 yX1_at, Cond.instanceMethod yX1_at, Cond.selects RX1 yX1_at yX1_at, Cond.code yX1_at cX1_at 2 (some .int), Cond.fieldLink RX1 9 "HemSuffixes$Stitches" "kinds" "[I"]
def wsX2_advise_r2 : List Cond := [Cond.methodLink RX1 47 yX1_sharedBackwardsFrom, Cond.instanceMethod yX1_sharedBackwardsFrom, Cond.selects RX1 yX1_sharedBackwardsFrom yX1_sharedBackwardsFrom, Cond.code yX1_sharedBackwardsFrom cX1_sharedBackwardsFrom 3 (some .int)]
def wsX2_advise : List Cond := .code yX2_advise cX2_advise 7 (some .int) :: ((wsX2_advise_r1 ++ wsX2_advise_r2) ++ wsX00 ++ wsX20 ++ wsX10 ++ (vx_atS RX2 96 "java/lang/IndexOutOfBoundsException" ["java/lang/RuntimeException", "java/lang/Exception"]).filter goodWord)
def wsX2_mean_r1 : List Cond := [Cond.fieldLink RX2 10 "HemSuffixes" "hemZero" "LHemSuffixes$Hem;", Cond.fieldLink RX2 16 "HemSuffixes" "hemOne" "LHemSuffixes$Hem;", Cond.methodLink RX2 139 yX0_neighbourPairs, Cond.instanceMethod yX0_neighbourPairs, Cond.selects RX0 yX0_neighbourPairs yX0_neighbourPairs, Cond.initialized RX0, Cond.code yX0_neighbourPairs cX0_neighbourPairs 1 (some .int), Cond.fieldLink RX0 12 "HemSuffixes$Hem" "stitches" "LHemSuffixes$Stitches;", Cond.methodLink RX2 142 yX0_sharedByNeighbours, Cond.instanceMethod yX0_sharedByNeighbours, Cond.selects RX0 yX0_sharedByNeighbours yX0_sharedByNeighbours, Cond.code yX0_sharedByNeighbours cX0_sharedByNeighbours 3 (some .int), Cond.methodLink RX0 54 yX0_sharedWithNext, Cond.instanceMethod yX0_sharedWithNext, Cond.selects RX0 yX0_sharedWithNext yX0_sharedWithNext, Cond.code yX0_sharedWithNext cX0_sharedWithNext 4 (some .int), Cond.methodLink RX0 48 yX0_placeAt, Cond.instanceMethod yX0_placeAt, Cond.selects RX0 yX0_placeAt yX0_placeAt, Cond.code yX0_placeAt cX0_placeAt 2 (some .int), Cond.fieldLink RX0 18 "HemSuffixes$Hem" "placesInOrder" "[I", Cond.methodLink RX0 51 yX1_sharedWith, Cond.instanceMethod yX1_sharedWith, Cond.selects RX1 yX1_sharedWith yX1_sharedWith]
def wsX2_mean_r2 : List Cond := [Cond.initialized RX1, Cond.code yX1_sharedWith cX1_sharedWith 6 (some .int), Cond.fieldLink RX1 15 "HemSuffixes$Stitches" "length" "I", Cond.methodLink RX1 19 Lib.Math.min.name, Cond.static Lib.Math.min.name, Cond.initialized "java/lang/Math", Cond.code Lib.Math.min.name Lib.Math.min.code 2 (some .int), Cond.methodLink RX1 25 yX1_at, Cond.instanceMethod yX1_at, Cond.selects RX1 yX1_at yX1_at, Cond.code yX1_at cX1_at 2 (some .int), Cond.fieldLink RX1 9 "HemSuffixes$Stitches" "kinds" "[I"]
def wsX2_mean : List Cond := .code yX2_mean cX2_mean 3 (some .double) :: ((wsX2_mean_r1 ++ wsX2_mean_r2) ++ wsX20 ++ wsX00 ++ wsX10)
def wsX2_mixed : List Cond := .code yX2_mixed cX2_mixed 3 (some .long) :: ([.constantLong RX2 177 (31)])
def wsX2_stitchesMixed : List Cond := .code yX2_stitchesMixed cX2_stitchesMixed 6 (some .long) :: ([.methodLink RX2 78 yX1_at, .instanceMethod yX1_at, .selects RX1 yX1_at yX1_at, .initialized RX1, .code yX1_at cX1_at 2 (some .int), .fieldLink RX1 15 "HemSuffixes$Stitches" "length" "I", .fieldLink RX1 9 "HemSuffixes$Stitches" "kinds" "[I", .methodLink RX2 150 yX2_mixed, .static yX2_mixed, .initialized RX2, .code yX2_mixed cX2_mixed 3 (some .long), .constantLong RX2 177 (31)] ++ wsX10)
def wsX2_hemMixed_r1 : List Cond := [Cond.methodLink RX2 26 yX2_hemOf, Cond.instanceMethod yX2_hemOf, Cond.selects RX2 yX2_hemOf yX2_hemOf, Cond.initialized RX2, Cond.code yX2_hemOf cX2_hemOf 2 (some (.object "HemSuffixes$Hem")), Cond.classLink RX2 92 "java/lang/IndexOutOfBoundsException", Cond.initialized "java/lang/IndexOutOfBoundsException", Cond.fieldLink RX2 10 "HemSuffixes" "hemZero" "LHemSuffixes$Hem;", Cond.fieldLink RX2 16 "HemSuffixes" "hemOne" "LHemSuffixes$Hem;", Cond.methodLink RX2 157 yX2_stitchesMixed, Cond.static yX2_stitchesMixed, Cond.code yX2_stitchesMixed cX2_stitchesMixed 6 (some .long), Cond.methodLink RX2 78 yX1_at, Cond.instanceMethod yX1_at, Cond.selects RX1 yX1_at yX1_at, Cond.initialized RX1, Cond.code yX1_at cX1_at 2 (some .int), Cond.fieldLink RX1 15 "HemSuffixes$Stitches" "length" "I", Cond.fieldLink RX1 9 "HemSuffixes$Stitches" "kinds" "[I", Cond.methodLink RX2 150 yX2_mixed, Cond.static yX2_mixed, Cond.code yX2_mixed cX2_mixed 3 (some .long), Cond.constantLong RX2 177 (31), Cond.methodLink RX2 97 yX0_placeAt]
def wsX2_hemMixed_r2 : List Cond := [Cond.instanceMethod yX0_placeAt, Cond.selects RX0 yX0_placeAt yX0_placeAt, Cond.initialized RX0, Cond.code yX0_placeAt cX0_placeAt 2 (some .int), Cond.fieldLink RX0 12 "HemSuffixes$Hem" "stitches" "LHemSuffixes$Stitches;", Cond.fieldLink RX0 18 "HemSuffixes$Hem" "placesInOrder" "[I", Cond.methodLink RX2 164 yX2_repeat, Cond.instanceMethod yX2_repeat, Cond.selects RX2 yX2_repeat yX2_repeat, Cond.code yX2_repeat cX2_repeat 7 (some .int), Cond.methodLink RX2 112 yX0_repeatRank, Cond.instanceMethod yX0_repeatRank, Cond.selects RX0 yX0_repeatRank yX0_repeatRank, Cond.code yX0_repeatRank cX0_repeatRank 5 (some .int), Cond.methodLink RX0 54 yX0_sharedWithNext, Cond.instanceMethod yX0_sharedWithNext, Cond.selects RX0 yX0_sharedWithNext yX0_sharedWithNext, Cond.code yX0_sharedWithNext cX0_sharedWithNext 4 (some .int), Cond.methodLink RX0 48 yX0_placeAt, Cond.methodLink RX0 51 yX1_sharedWith, Cond.instanceMethod yX1_sharedWith, Cond.selects RX1 yX1_sharedWith yX1_sharedWith, Cond.code yX1_sharedWith cX1_sharedWith 6 (some .int), Cond.methodLink RX1 19 Lib.Math.min.name]
def wsX2_hemMixed_r3 : List Cond := [Cond.static Lib.Math.min.name, Cond.initialized "java/lang/Math", Cond.code Lib.Math.min.name Lib.Math.min.code 2 (some .int), Cond.methodLink RX1 25 yX1_at, Cond.methodLink RX2 115 yX0_sharedWithNext, Cond.methodLink RX2 118 yX1_firstPlaceOf, Cond.instanceMethod yX1_firstPlaceOf, Cond.selects RX1 yX1_firstPlaceOf yX1_firstPlaceOf, Cond.code yX1_firstPlaceOf cX1_firstPlaceOf 5 (some .int), Cond.methodLink RX1 36 yX1_standsAt, Cond.instanceMethod yX1_standsAt, Cond.selects RX1 yX1_standsAt yX1_standsAt, Cond.code yX1_standsAt cX1_standsAt 5 (some .boolean), Cond.methodLink RX1 29 yX1_sharedWith, Cond.methodLink RX2 122 yX1_placesOf, Cond.instanceMethod yX1_placesOf, Cond.selects RX1 yX1_placesOf yX1_placesOf, Cond.code yX1_placesOf cX1_placesOf 6 (some .int), Cond.methodLink RX2 168 yX2_period, Cond.instanceMethod yX2_period, Cond.selects RX2 yX2_period yX2_period, Cond.code yX2_period cX2_period 2 (some .int), Cond.methodLink RX2 130 yX1_leastPeriod, Cond.instanceMethod yX1_leastPeriod]
def wsX2_hemMixed_r4 : List Cond := [Cond.selects RX1 yX1_leastPeriod yX1_leastPeriod, Cond.code yX1_leastPeriod cX1_leastPeriod 2 (some .int), Cond.methodLink RX2 171 yX2_turned, Cond.instanceMethod yX2_turned, Cond.selects RX2 yX2_turned yX2_turned, Cond.code yX2_turned cX2_turned 2 (some .int), Cond.methodLink RX2 133 yX1_bestBeginning, Cond.instanceMethod yX1_bestBeginning, Cond.selects RX1 yX1_bestBeginning yX1_bestBeginning, Cond.code yX1_bestBeginning cX1_bestBeginning 3 (some .int), Cond.methodLink RX1 40 yX1_turnsToLess, Cond.instanceMethod yX1_turnsToLess, Cond.selects RX1 yX1_turnsToLess yX1_turnsToLess, Cond.code yX1_turnsToLess cX1_turnsToLess 6 (some .boolean), Cond.methodLink RX1 44 yX1_allAround, Cond.instanceMethod yX1_allAround, Cond.selects RX1 yX1_allAround yX1_allAround, Cond.code yX1_allAround cX1_allAround 2 (some .int), Cond.methodLink RX2 174 yX2_found, Cond.instanceMethod yX2_found, Cond.selects RX2 yX2_found yX2_found, Cond.code yX2_found cX2_found 2 (some .int), Cond.fieldLink RX2 22 "HemSuffixes" "sample" "LHemSuffixes$Stitches;"]
def wsX2_hemMixed : List Cond := .code yX2_hemMixed cX2_hemMixed 8 (some .long) :: ((wsX2_hemMixed_r1 ++ (wsX2_hemMixed_r2 ++ (wsX2_hemMixed_r3 ++ wsX2_hemMixed_r4))) ++ wsX00 ++ wsX10 ++ wsX20 ++ (vx_atS RX2 96 "java/lang/IndexOutOfBoundsException" ["java/lang/RuntimeException", "java/lang/Exception"]).filter goodWord)
def wsX2_digest_r1 : List Cond := [Cond.constantLong RX2 145 (1483), Cond.fieldLink RX2 22 "HemSuffixes" "sample" "LHemSuffixes$Stitches;", Cond.methodLink RX2 147 yX2_count, Cond.instanceMethod yX2_count, Cond.selects RX2 yX2_count yX2_count, Cond.initialized RX2, Cond.code yX2_count cX2_count 2 (some .int), Cond.classLink RX2 92 "java/lang/IndexOutOfBoundsException", Cond.initialized "java/lang/IndexOutOfBoundsException", Cond.fieldLink RX2 10 "HemSuffixes" "hemZero" "LHemSuffixes$Hem;", Cond.fieldLink RX2 16 "HemSuffixes" "hemOne" "LHemSuffixes$Hem;", Cond.methodLink RX2 82 yX0_differentRows, Cond.instanceMethod yX0_differentRows, Cond.selects RX0 yX0_differentRows yX0_differentRows, Cond.initialized RX0, Cond.code yX0_differentRows cX0_differentRows 3 (some .int), Cond.fieldLink RX0 12 "HemSuffixes$Hem" "stitches" "LHemSuffixes$Stitches;", Cond.methodLink RX0 57 yX0_rowsFirstAt, Cond.instanceMethod yX0_rowsFirstAt, Cond.selects RX0 yX0_rowsFirstAt yX0_rowsFirstAt, Cond.code yX0_rowsFirstAt cX0_rowsFirstAt 2 (some .int), Cond.methodLink RX0 48 yX0_placeAt, Cond.instanceMethod yX0_placeAt, Cond.selects RX0 yX0_placeAt yX0_placeAt]
def wsX2_digest_r2 : List Cond := [Cond.code yX0_placeAt cX0_placeAt 2 (some .int), Cond.fieldLink RX0 18 "HemSuffixes$Hem" "placesInOrder" "[I", Cond.methodLink RX0 54 yX0_sharedWithNext, Cond.instanceMethod yX0_sharedWithNext, Cond.selects RX0 yX0_sharedWithNext yX0_sharedWithNext, Cond.code yX0_sharedWithNext cX0_sharedWithNext 4 (some .int), Cond.methodLink RX0 51 yX1_sharedWith, Cond.instanceMethod yX1_sharedWith, Cond.selects RX1 yX1_sharedWith yX1_sharedWith, Cond.initialized RX1, Cond.code yX1_sharedWith cX1_sharedWith 6 (some .int), Cond.fieldLink RX1 15 "HemSuffixes$Stitches" "length" "I", Cond.methodLink RX1 19 Lib.Math.min.name, Cond.static Lib.Math.min.name, Cond.initialized "java/lang/Math", Cond.code Lib.Math.min.name Lib.Math.min.code 2 (some .int), Cond.methodLink RX1 25 yX1_at, Cond.instanceMethod yX1_at, Cond.selects RX1 yX1_at yX1_at, Cond.code yX1_at cX1_at 2 (some .int), Cond.fieldLink RX1 9 "HemSuffixes$Stitches" "kinds" "[I", Cond.methodLink RX2 86 yX2_seamPlace, Cond.instanceMethod yX2_seamPlace, Cond.selects RX2 yX2_seamPlace yX2_seamPlace]
def wsX2_digest_r3 : List Cond := [Cond.code yX2_seamPlace cX2_seamPlace 6 (some .int), Cond.methodLink RX2 97 yX0_placeAt, Cond.methodLink RX2 89 yX2_seamLengthFrom, Cond.instanceMethod yX2_seamLengthFrom, Cond.selects RX2 yX2_seamLengthFrom yX2_seamLengthFrom, Cond.code yX2_seamLengthFrom cX2_seamLengthFrom 2 (some .int), Cond.methodLink RX2 185 yX1_mostSharedWith, Cond.instanceMethod yX1_mostSharedWith, Cond.selects RX1 yX1_mostSharedWith yX1_mostSharedWith, Cond.code yX1_mostSharedWith cX1_mostSharedWith 5 (some .int), Cond.methodLink RX1 33 Lib.Math.max.name, Cond.static Lib.Math.max.name, Cond.code Lib.Math.max.name Lib.Math.max.code 2 (some .int), Cond.methodLink RX1 29 yX1_sharedWith, Cond.methodLink RX2 150 yX2_mixed, Cond.static yX2_mixed, Cond.code yX2_mixed cX2_mixed 3 (some .long), Cond.constantLong RX2 177 (31), Cond.methodLink RX2 154 yX2_hemMixed, Cond.instanceMethod yX2_hemMixed, Cond.selects RX2 yX2_hemMixed yX2_hemMixed, Cond.code yX2_hemMixed cX2_hemMixed 8 (some .long), Cond.methodLink RX2 26 yX2_hemOf, Cond.instanceMethod yX2_hemOf]
def wsX2_digest_r4 : List Cond := [Cond.selects RX2 yX2_hemOf yX2_hemOf, Cond.code yX2_hemOf cX2_hemOf 2 (some (.object "HemSuffixes$Hem")), Cond.methodLink RX2 157 yX2_stitchesMixed, Cond.static yX2_stitchesMixed, Cond.code yX2_stitchesMixed cX2_stitchesMixed 6 (some .long), Cond.methodLink RX2 78 yX1_at, Cond.methodLink RX2 164 yX2_repeat, Cond.instanceMethod yX2_repeat, Cond.selects RX2 yX2_repeat yX2_repeat, Cond.code yX2_repeat cX2_repeat 7 (some .int), Cond.methodLink RX2 112 yX0_repeatRank, Cond.instanceMethod yX0_repeatRank, Cond.selects RX0 yX0_repeatRank yX0_repeatRank, Cond.code yX0_repeatRank cX0_repeatRank 5 (some .int), Cond.methodLink RX2 115 yX0_sharedWithNext, Cond.methodLink RX2 118 yX1_firstPlaceOf, Cond.instanceMethod yX1_firstPlaceOf, Cond.selects RX1 yX1_firstPlaceOf yX1_firstPlaceOf, Cond.code yX1_firstPlaceOf cX1_firstPlaceOf 5 (some .int), Cond.methodLink RX1 36 yX1_standsAt, Cond.instanceMethod yX1_standsAt, Cond.selects RX1 yX1_standsAt yX1_standsAt, Cond.code yX1_standsAt cX1_standsAt 5 (some .boolean), Cond.methodLink RX2 122 yX1_placesOf]
def wsX2_digest_r5 : List Cond := [Cond.instanceMethod yX1_placesOf, Cond.selects RX1 yX1_placesOf yX1_placesOf, Cond.code yX1_placesOf cX1_placesOf 6 (some .int), Cond.methodLink RX2 168 yX2_period, Cond.instanceMethod yX2_period, Cond.selects RX2 yX2_period yX2_period, Cond.code yX2_period cX2_period 2 (some .int), Cond.methodLink RX2 130 yX1_leastPeriod, Cond.instanceMethod yX1_leastPeriod, Cond.selects RX1 yX1_leastPeriod yX1_leastPeriod, Cond.code yX1_leastPeriod cX1_leastPeriod 2 (some .int), Cond.methodLink RX2 171 yX2_turned, Cond.instanceMethod yX2_turned, Cond.selects RX2 yX2_turned yX2_turned, Cond.code yX2_turned cX2_turned 2 (some .int), Cond.methodLink RX2 133 yX1_bestBeginning, Cond.instanceMethod yX1_bestBeginning, Cond.selects RX1 yX1_bestBeginning yX1_bestBeginning, Cond.code yX1_bestBeginning cX1_bestBeginning 3 (some .int), Cond.methodLink RX1 40 yX1_turnsToLess, Cond.instanceMethod yX1_turnsToLess, Cond.selects RX1 yX1_turnsToLess yX1_turnsToLess, Cond.code yX1_turnsToLess cX1_turnsToLess 6 (some .boolean), Cond.methodLink RX1 44 yX1_allAround]
def wsX2_digest_r6 : List Cond := [Cond.instanceMethod yX1_allAround, Cond.selects RX1 yX1_allAround yX1_allAround, Cond.code yX1_allAround cX1_allAround 2 (some .int), Cond.methodLink RX2 174 yX2_found, Cond.instanceMethod yX2_found, Cond.selects RX2 yX2_found yX2_found, Cond.code yX2_found cX2_found 2 (some .int), Cond.methodLink RX2 161 yX2_seam, Cond.instanceMethod yX2_seam, Cond.selects RX2 yX2_seam yX2_seam, Cond.code yX2_seam cX2_seam 5 (some .int)]
def wsX2_digest : List Cond := .code yX2_digest cX2_digest 4 (some .long) :: ((wsX2_digest_r1 ++ (wsX2_digest_r2 ++ (wsX2_digest_r3 ++ (wsX2_digest_r4 ++ (wsX2_digest_r5 ++ wsX2_digest_r6))))) ++ wsX20 ++ wsX00 ++ wsX10 ++ (vx_atS RX2 96 "java/lang/IndexOutOfBoundsException" ["java/lang/RuntimeException", "java/lang/Exception"]).filter goodWord)
def wsX3_init : List Cond := .code yX3_init cX3_init 1 none :: ([.methodLink RX3 1 objectInit, .instanceMethod objectInit, .code objectInit ⟨#[0xb1]⟩ 1 none, .classLink RX3 9 "[[I", .arrayClass .int, .fieldLink RX3 11 "HemSuffixesModel" "hem" "[[I", .fieldLink RX3 14 "HemSuffixesModel" "size" "[I", .fieldLink RX3 18 "HemSuffixesModel" "sample" "[I", .fieldLink RX3 21 "HemSuffixesModel" "same" "[[I", .fieldLink RX3 24 "HemSuffixesModel" "places" "[I", .fieldLink RX3 27 "HemSuffixesModel" "both" "[[I"] ++ wsX30)
def wsX3_thrown : List Cond := .code yX3_thrown cX3_thrown 1 (some .int) :: ([.fieldLink RX3 30 "HemSuffixesModel" "thrown" "I"] ++ wsX30)
def wsX3_no : List Cond := .code yX3_no cX3_no 2 (some .int) :: ([.fieldLink RX3 30 "HemSuffixesModel" "thrown" "I"] ++ wsX30)
def wsX3_isIn : List Cond := .code yX3_isIn cX3_isIn 3 (some .boolean) :: ([])
def wsX3_isHem : List Cond := .code yX3_isHem cX3_isHem 1 (some .boolean) :: ([.methodLink RX3 34 yX3_isIn, .static yX3_isIn, .initialized RX3, .code yX3_isIn cX3_isIn 3 (some .boolean)])
def wsX3_isStitch : List Cond := .code yX3_isStitch cX3_isStitch 1 (some .boolean) :: ([.methodLink RX3 34 yX3_isIn, .static yX3_isIn, .initialized RX3, .code yX3_isIn cX3_isIn 3 (some .boolean)])
def wsX3_isPlace : List Cond := .code yX3_isPlace cX3_isPlace 3 (some .boolean) :: ([.fieldLink RX3 14 "HemSuffixesModel" "size" "[I", .methodLink RX3 38 yX3_isHem, .static yX3_isHem, .initialized RX3, .code yX3_isHem cX3_isHem 1 (some .boolean), .methodLink RX3 34 yX3_isIn, .static yX3_isIn, .code yX3_isIn cX3_isIn 3 (some .boolean)] ++ wsX30)
def wsX3_compare : List Cond := .code yX3_compare cX3_compare 7 none :: ([])
def wsX3_by : List Cond := .code yX3_by cX3_by 8 (some .int) :: ([])
def wsX3_isLess : List Cond := .code yX3_isLess cX3_isLess 4 (some .boolean) :: ([.fieldLink RX3 11 "HemSuffixesModel" "hem" "[[I", .fieldLink RX3 14 "HemSuffixesModel" "size" "[I", .fieldLink RX3 21 "HemSuffixesModel" "same" "[[I", .methodLink RX3 42 yX3_by, .static yX3_by, .initialized RX3, .code yX3_by cX3_by 8 (some .int)] ++ wsX30)
def wsX3_rankOf : List Cond := .code yX3_rankOf cX3_rankOf 5 (some .int) :: ([.fieldLink RX3 14 "HemSuffixesModel" "size" "[I", .methodLink RX3 46 yX3_isLess, .instanceMethod yX3_isLess, .selects RX3 yX3_isLess yX3_isLess, .initialized RX3, .code yX3_isLess cX3_isLess 4 (some .boolean), .fieldLink RX3 11 "HemSuffixesModel" "hem" "[[I", .fieldLink RX3 21 "HemSuffixesModel" "same" "[[I", .methodLink RX3 42 yX3_by, .static yX3_by, .code yX3_by cX3_by 8 (some .int)] ++ wsX30)
def wsX3_look : List Cond := .code yX3_look cX3_look 2 none :: ([.fieldLink RX3 11 "HemSuffixesModel" "hem" "[[I", .fieldLink RX3 14 "HemSuffixesModel" "size" "[I", .fieldLink RX3 21 "HemSuffixesModel" "same" "[[I", .methodLink RX3 49 yX3_compare, .static yX3_compare, .initialized RX3, .code yX3_compare cX3_compare 7 none] ++ wsX30)
def wsX3_order : List Cond := .code yX3_order cX3_order 3 none :: ([.fieldLink RX3 14 "HemSuffixesModel" "size" "[I", .fieldLink RX3 24 "HemSuffixesModel" "places" "[I", .methodLink RX3 53 yX3_look, .instanceMethod yX3_look, .selects RX3 yX3_look yX3_look, .initialized RX3, .code yX3_look cX3_look 2 none, .fieldLink RX3 11 "HemSuffixesModel" "hem" "[[I", .fieldLink RX3 21 "HemSuffixesModel" "same" "[[I", .methodLink RX3 49 yX3_compare, .static yX3_compare, .code yX3_compare cX3_compare 7 none, .methodLink RX3 57 yX3_rankOf, .instanceMethod yX3_rankOf, .selects RX3 yX3_rankOf yX3_rankOf, .code yX3_rankOf cX3_rankOf 5 (some .int), .methodLink RX3 46 yX3_isLess, .instanceMethod yX3_isLess, .selects RX3 yX3_isLess yX3_isLess, .code yX3_isLess cX3_isLess 4 (some .boolean), .methodLink RX3 42 yX3_by, .static yX3_by, .code yX3_by cX3_by 8 (some .int)] ++ wsX30)
def wsX3_lookAtBoth : List Cond := .code yX3_lookAtBoth cX3_lookAtBoth 1 none :: ([.fieldLink RX3 11 "HemSuffixesModel" "hem" "[[I", .fieldLink RX3 14 "HemSuffixesModel" "size" "[I", .fieldLink RX3 27 "HemSuffixesModel" "both" "[[I", .methodLink RX3 49 yX3_compare, .static yX3_compare, .initialized RX3, .code yX3_compare cX3_compare 7 none] ++ wsX30)
def wsX3_mostBefore : List Cond := .code yX3_mostBefore cX3_mostBefore 4 (some .int) :: ([.fieldLink RX3 21 "HemSuffixesModel" "same" "[[I", .methodLink RX3 61 Lib.Math.max.name, .static Lib.Math.max.name, .initialized "java/lang/Math", .code Lib.Math.max.name Lib.Math.max.code 2 (some .int)] ++ wsX30)
def wsX3_differentRows : List Cond := .code yX3_differentRows cX3_differentRows 4 (some .int) :: ([.fieldLink RX3 14 "HemSuffixesModel" "size" "[I", .methodLink RX3 53 yX3_look, .instanceMethod yX3_look, .selects RX3 yX3_look yX3_look, .initialized RX3, .code yX3_look cX3_look 2 none, .fieldLink RX3 11 "HemSuffixesModel" "hem" "[[I", .fieldLink RX3 21 "HemSuffixesModel" "same" "[[I", .methodLink RX3 49 yX3_compare, .static yX3_compare, .code yX3_compare cX3_compare 7 none, .methodLink RX3 66 yX3_mostBefore, .instanceMethod yX3_mostBefore, .selects RX3 yX3_mostBefore yX3_mostBefore, .code yX3_mostBefore cX3_mostBefore 4 (some .int), .methodLink RX3 61 Lib.Math.max.name, .static Lib.Math.max.name, .initialized "java/lang/Math", .code Lib.Math.max.name Lib.Math.max.code 2 (some .int)] ++ wsX30)
def wsX3_mostBeside : List Cond := .code yX3_mostBeside cX3_mostBeside 5 (some .int) :: ([.fieldLink RX3 14 "HemSuffixesModel" "size" "[I", .fieldLink RX3 21 "HemSuffixesModel" "same" "[[I", .methodLink RX3 61 Lib.Math.max.name, .static Lib.Math.max.name, .initialized "java/lang/Math", .code Lib.Math.max.name Lib.Math.max.code 2 (some .int)] ++ wsX30)
def wsX3_firstPlace : List Cond := .code yX3_firstPlace cX3_firstPlace 4 (some .int) :: ([.fieldLink RX3 21 "HemSuffixesModel" "same" "[[I"] ++ wsX30)
def wsX3_placesOf : List Cond := .code yX3_placesOf cX3_placesOf 6 (some .int) :: ([.fieldLink RX3 14 "HemSuffixesModel" "size" "[I", .fieldLink RX3 21 "HemSuffixesModel" "same" "[[I"] ++ wsX30)
def wsX3_repeatTold_r1 : List Cond := [Cond.fieldLink RX3 14 "HemSuffixesModel" "size" "[I", Cond.fieldLink RX3 21 "HemSuffixesModel" "same" "[[I", Cond.methodLink RX3 53 yX3_look, Cond.instanceMethod yX3_look, Cond.selects RX3 yX3_look yX3_look, Cond.initialized RX3, Cond.code yX3_look cX3_look 2 none, Cond.fieldLink RX3 11 "HemSuffixesModel" "hem" "[[I", Cond.methodLink RX3 49 yX3_compare, Cond.static yX3_compare, Cond.code yX3_compare cX3_compare 7 none, Cond.methodLink RX3 70 yX3_mostBeside, Cond.instanceMethod yX3_mostBeside, Cond.selects RX3 yX3_mostBeside yX3_mostBeside, Cond.code yX3_mostBeside cX3_mostBeside 5 (some .int), Cond.methodLink RX3 61 Lib.Math.max.name, Cond.static Lib.Math.max.name, Cond.initialized "java/lang/Math", Cond.code Lib.Math.max.name Lib.Math.max.code 2 (some .int), Cond.methodLink RX3 46 yX3_isLess, Cond.instanceMethod yX3_isLess, Cond.selects RX3 yX3_isLess yX3_isLess, Cond.code yX3_isLess cX3_isLess 4 (some .boolean), Cond.methodLink RX3 42 yX3_by]
def wsX3_repeatTold_r2 : List Cond := [Cond.static yX3_by, Cond.code yX3_by cX3_by 8 (some .int), Cond.methodLink RX3 73 yX3_placesOf, Cond.instanceMethod yX3_placesOf, Cond.selects RX3 yX3_placesOf yX3_placesOf, Cond.code yX3_placesOf cX3_placesOf 6 (some .int)]
def wsX3_repeatTold : List Cond := .code yX3_repeatTold cX3_repeatTold 7 (some .int) :: ((wsX3_repeatTold_r1 ++ wsX3_repeatTold_r2) ++ wsX30)
def wsX3_mostAcross : List Cond := .code yX3_mostAcross cX3_mostAcross 4 (some .int) :: ([.fieldLink RX3 14 "HemSuffixesModel" "size" "[I", .fieldLink RX3 27 "HemSuffixesModel" "both" "[[I", .methodLink RX3 61 Lib.Math.max.name, .static Lib.Math.max.name, .initialized "java/lang/Math", .code Lib.Math.max.name Lib.Math.max.code 2 (some .int)] ++ wsX30)
def wsX3_seamTold_r1 : List Cond := [Cond.fieldLink RX3 14 "HemSuffixesModel" "size" "[I", Cond.fieldLink RX3 21 "HemSuffixesModel" "same" "[[I", Cond.fieldLink RX3 27 "HemSuffixesModel" "both" "[[I", Cond.methodLink RX3 53 yX3_look, Cond.instanceMethod yX3_look, Cond.selects RX3 yX3_look yX3_look, Cond.initialized RX3, Cond.code yX3_look cX3_look 2 none, Cond.fieldLink RX3 11 "HemSuffixesModel" "hem" "[[I", Cond.methodLink RX3 49 yX3_compare, Cond.static yX3_compare, Cond.code yX3_compare cX3_compare 7 none, Cond.methodLink RX3 77 yX3_lookAtBoth, Cond.instanceMethod yX3_lookAtBoth, Cond.selects RX3 yX3_lookAtBoth yX3_lookAtBoth, Cond.code yX3_lookAtBoth cX3_lookAtBoth 1 none, Cond.methodLink RX3 80 yX3_mostAcross, Cond.instanceMethod yX3_mostAcross, Cond.selects RX3 yX3_mostAcross yX3_mostAcross, Cond.code yX3_mostAcross cX3_mostAcross 4 (some .int), Cond.methodLink RX3 61 Lib.Math.max.name, Cond.static Lib.Math.max.name, Cond.initialized "java/lang/Math", Cond.code Lib.Math.max.name Lib.Math.max.code 2 (some .int)]
def wsX3_seamTold_r2 : List Cond := [Cond.methodLink RX3 46 yX3_isLess, Cond.instanceMethod yX3_isLess, Cond.selects RX3 yX3_isLess yX3_isLess, Cond.code yX3_isLess cX3_isLess 4 (some .boolean), Cond.methodLink RX3 42 yX3_by, Cond.static yX3_by, Cond.code yX3_by cX3_by 8 (some .int)]
def wsX3_seamTold : List Cond := .code yX3_seamTold cX3_seamTold 6 (some .int) :: ((wsX3_seamTold_r1 ++ wsX3_seamTold_r2) ++ wsX30)
def wsX3_isSampleAt : List Cond := .code yX3_isSampleAt cX3_isSampleAt 4 (some .boolean) :: ([.fieldLink RX3 83 "HemSuffixesModel" "samples" "I", .fieldLink RX3 14 "HemSuffixesModel" "size" "[I", .fieldLink RX3 11 "HemSuffixesModel" "hem" "[[I", .fieldLink RX3 18 "HemSuffixesModel" "sample" "[I"] ++ wsX30)
def wsX3_foundIn : List Cond := .code yX3_foundIn cX3_foundIn 4 (some .int) :: ([.fieldLink RX3 14 "HemSuffixesModel" "size" "[I", .methodLink RX3 86 yX3_isSampleAt, .instanceMethod yX3_isSampleAt, .selects RX3 yX3_isSampleAt yX3_isSampleAt, .initialized RX3, .code yX3_isSampleAt cX3_isSampleAt 4 (some .boolean), .fieldLink RX3 83 "HemSuffixesModel" "samples" "I", .fieldLink RX3 11 "HemSuffixesModel" "hem" "[[I", .fieldLink RX3 18 "HemSuffixesModel" "sample" "[I"] ++ wsX30)
def wsX3_isPeriod : List Cond := .code yX3_isPeriod cX3_isPeriod 4 (some .boolean) :: ([.fieldLink RX3 14 "HemSuffixesModel" "size" "[I", .fieldLink RX3 11 "HemSuffixesModel" "hem" "[[I"] ++ wsX30)
def wsX3_periodOf : List Cond := .code yX3_periodOf cX3_periodOf 3 (some .int) :: ([.fieldLink RX3 14 "HemSuffixesModel" "size" "[I", .methodLink RX3 90 Lib.Math.min.name, .static Lib.Math.min.name, .initialized "java/lang/Math", .code Lib.Math.min.name Lib.Math.min.code 2 (some .int), .methodLink RX3 93 yX3_isPeriod, .instanceMethod yX3_isPeriod, .selects RX3 yX3_isPeriod yX3_isPeriod, .initialized RX3, .code yX3_isPeriod cX3_isPeriod 4 (some .boolean), .fieldLink RX3 11 "HemSuffixesModel" "hem" "[[I"] ++ wsX30)
def wsX3_isLessAround : List Cond := .code yX3_isLessAround cX3_isLessAround 8 (some .boolean) :: ([.fieldLink RX3 14 "HemSuffixesModel" "size" "[I", .fieldLink RX3 11 "HemSuffixesModel" "hem" "[[I"] ++ wsX30)
def wsX3_turnedOf : List Cond := .code yX3_turnedOf cX3_turnedOf 4 (some .int) :: ([.fieldLink RX3 14 "HemSuffixesModel" "size" "[I", .methodLink RX3 96 yX3_isLessAround, .instanceMethod yX3_isLessAround, .selects RX3 yX3_isLessAround yX3_isLessAround, .initialized RX3, .code yX3_isLessAround cX3_isLessAround 8 (some .boolean), .fieldLink RX3 11 "HemSuffixesModel" "hem" "[[I"] ++ wsX30)
def wsX3_more : List Cond := .code yX3_more cX3_more 7 (some .int) :: ([.fieldLink RX3 14 "HemSuffixesModel" "size" "[I", .fieldLink RX3 11 "HemSuffixesModel" "hem" "[[I", .methodLink RX3 61 Lib.Math.max.name, .static Lib.Math.max.name, .initialized "java/lang/Math", .code Lib.Math.max.name Lib.Math.max.code 2 (some .int)] ++ wsX30)
def wsX3_sew : List Cond := .code yX3_sew cX3_sew 3 (some .int) :: ([.fieldLink RX3 30 "HemSuffixesModel" "thrown" "I", .fieldLink RX3 14 "HemSuffixesModel" "size" "[I", .fieldLink RX3 11 "HemSuffixesModel" "hem" "[[I", .methodLink RX3 38 yX3_isHem, .static yX3_isHem, .initialized RX3, .code yX3_isHem cX3_isHem 1 (some .boolean), .methodLink RX3 34 yX3_isIn, .static yX3_isIn, .code yX3_isIn cX3_isIn 3 (some .boolean), .methodLink RX3 99 yX3_no, .instanceMethod yX3_no, .selects RX3 yX3_no yX3_no, .code yX3_no cX3_no 2 (some .int), .methodLink RX3 102 yX3_isStitch, .static yX3_isStitch, .code yX3_isStitch cX3_isStitch 1 (some .boolean)] ++ wsX30)
def wsX3_again : List Cond := .code yX3_again cX3_again 5 (some .int) :: ([.fieldLink RX3 30 "HemSuffixesModel" "thrown" "I", .fieldLink RX3 14 "HemSuffixesModel" "size" "[I", .fieldLink RX3 11 "HemSuffixesModel" "hem" "[[I", .methodLink RX3 38 yX3_isHem, .static yX3_isHem, .initialized RX3, .code yX3_isHem cX3_isHem 1 (some .boolean), .methodLink RX3 34 yX3_isIn, .static yX3_isIn, .code yX3_isIn cX3_isIn 3 (some .boolean), .methodLink RX3 99 yX3_no, .instanceMethod yX3_no, .selects RX3 yX3_no yX3_no, .code yX3_no cX3_no 2 (some .int)] ++ wsX30)
def wsX3_unpick : List Cond := .code yX3_unpick cX3_unpick 3 (some .int) :: ([.fieldLink RX3 30 "HemSuffixesModel" "thrown" "I", .fieldLink RX3 14 "HemSuffixesModel" "size" "[I", .methodLink RX3 38 yX3_isHem, .static yX3_isHem, .initialized RX3, .code yX3_isHem cX3_isHem 1 (some .boolean), .methodLink RX3 34 yX3_isIn, .static yX3_isIn, .code yX3_isIn cX3_isIn 3 (some .boolean), .methodLink RX3 99 yX3_no, .instanceMethod yX3_no, .selects RX3 yX3_no yX3_no, .code yX3_no cX3_no 2 (some .int)] ++ wsX30)
def wsX3_add : List Cond := .code yX3_add cX3_add 2 (some .int) :: ([.fieldLink RX3 30 "HemSuffixesModel" "thrown" "I", .fieldLink RX3 83 "HemSuffixesModel" "samples" "I", .fieldLink RX3 18 "HemSuffixesModel" "sample" "[I", .methodLink RX3 102 yX3_isStitch, .static yX3_isStitch, .initialized RX3, .code yX3_isStitch cX3_isStitch 1 (some .boolean), .methodLink RX3 34 yX3_isIn, .static yX3_isIn, .code yX3_isIn cX3_isIn 3 (some .boolean), .methodLink RX3 99 yX3_no, .instanceMethod yX3_no, .selects RX3 yX3_no yX3_no, .code yX3_no cX3_no 2 (some .int)] ++ wsX30)
def wsX3_clear : List Cond := .code yX3_clear cX3_clear 2 (some .int) :: ([.fieldLink RX3 30 "HemSuffixesModel" "thrown" "I", .fieldLink RX3 83 "HemSuffixesModel" "samples" "I"] ++ wsX30)
def wsX3_stitch : List Cond := .code yX3_stitch cX3_stitch 3 (some .int) :: ([.fieldLink RX3 30 "HemSuffixesModel" "thrown" "I", .fieldLink RX3 11 "HemSuffixesModel" "hem" "[[I", .methodLink RX3 105 yX3_isPlace, .instanceMethod yX3_isPlace, .selects RX3 yX3_isPlace yX3_isPlace, .initialized RX3, .code yX3_isPlace cX3_isPlace 3 (some .boolean), .fieldLink RX3 14 "HemSuffixesModel" "size" "[I", .methodLink RX3 38 yX3_isHem, .static yX3_isHem, .code yX3_isHem cX3_isHem 1 (some .boolean), .methodLink RX3 34 yX3_isIn, .static yX3_isIn, .code yX3_isIn cX3_isIn 3 (some .boolean), .methodLink RX3 99 yX3_no, .instanceMethod yX3_no, .selects RX3 yX3_no yX3_no, .code yX3_no cX3_no 2 (some .int)] ++ wsX30)
def wsX3_counted_r1 : List Cond := [Cond.fieldLink RX3 14 "HemSuffixesModel" "size" "[I", Cond.fieldLink RX3 83 "HemSuffixesModel" "samples" "I", Cond.methodLink RX3 108 yX3_differentRows, Cond.instanceMethod yX3_differentRows, Cond.selects RX3 yX3_differentRows yX3_differentRows, Cond.initialized RX3, Cond.code yX3_differentRows cX3_differentRows 4 (some .int), Cond.methodLink RX3 53 yX3_look, Cond.instanceMethod yX3_look, Cond.selects RX3 yX3_look yX3_look, Cond.code yX3_look cX3_look 2 none, Cond.fieldLink RX3 11 "HemSuffixesModel" "hem" "[[I", Cond.fieldLink RX3 21 "HemSuffixesModel" "same" "[[I", Cond.methodLink RX3 49 yX3_compare, Cond.static yX3_compare, Cond.code yX3_compare cX3_compare 7 none, Cond.methodLink RX3 66 yX3_mostBefore, Cond.instanceMethod yX3_mostBefore, Cond.selects RX3 yX3_mostBefore yX3_mostBefore, Cond.code yX3_mostBefore cX3_mostBefore 4 (some .int), Cond.methodLink RX3 61 Lib.Math.max.name, Cond.static Lib.Math.max.name, Cond.initialized "java/lang/Math", Cond.code Lib.Math.max.name Lib.Math.max.code 2 (some .int)]
def wsX3_counted_r2 : List Cond := [Cond.methodLink RX3 111 yX3_seamTold, Cond.instanceMethod yX3_seamTold, Cond.selects RX3 yX3_seamTold yX3_seamTold, Cond.code yX3_seamTold cX3_seamTold 6 (some .int), Cond.fieldLink RX3 27 "HemSuffixesModel" "both" "[[I", Cond.methodLink RX3 77 yX3_lookAtBoth, Cond.instanceMethod yX3_lookAtBoth, Cond.selects RX3 yX3_lookAtBoth yX3_lookAtBoth, Cond.code yX3_lookAtBoth cX3_lookAtBoth 1 none, Cond.methodLink RX3 80 yX3_mostAcross, Cond.instanceMethod yX3_mostAcross, Cond.selects RX3 yX3_mostAcross yX3_mostAcross, Cond.code yX3_mostAcross cX3_mostAcross 4 (some .int), Cond.methodLink RX3 46 yX3_isLess, Cond.instanceMethod yX3_isLess, Cond.selects RX3 yX3_isLess yX3_isLess, Cond.code yX3_isLess cX3_isLess 4 (some .boolean), Cond.methodLink RX3 42 yX3_by, Cond.static yX3_by, Cond.code yX3_by cX3_by 8 (some .int)]
def wsX3_counted : List Cond := .code yX3_counted cX3_counted 2 (some .int) :: ((wsX3_counted_r1 ++ wsX3_counted_r2) ++ wsX30)
def wsX3_count_r1 : List Cond := [Cond.fieldLink RX3 30 "HemSuffixesModel" "thrown" "I", Cond.methodLink RX3 34 yX3_isIn, Cond.static yX3_isIn, Cond.initialized RX3, Cond.code yX3_isIn cX3_isIn 3 (some .boolean), Cond.methodLink RX3 114 yX3_counted, Cond.instanceMethod yX3_counted, Cond.selects RX3 yX3_counted yX3_counted, Cond.code yX3_counted cX3_counted 2 (some .int), Cond.fieldLink RX3 14 "HemSuffixesModel" "size" "[I", Cond.fieldLink RX3 83 "HemSuffixesModel" "samples" "I", Cond.methodLink RX3 108 yX3_differentRows, Cond.instanceMethod yX3_differentRows, Cond.selects RX3 yX3_differentRows yX3_differentRows, Cond.code yX3_differentRows cX3_differentRows 4 (some .int), Cond.methodLink RX3 53 yX3_look, Cond.instanceMethod yX3_look, Cond.selects RX3 yX3_look yX3_look, Cond.code yX3_look cX3_look 2 none, Cond.fieldLink RX3 11 "HemSuffixesModel" "hem" "[[I", Cond.fieldLink RX3 21 "HemSuffixesModel" "same" "[[I", Cond.methodLink RX3 49 yX3_compare, Cond.static yX3_compare, Cond.code yX3_compare cX3_compare 7 none]
def wsX3_count_r2 : List Cond := [Cond.methodLink RX3 66 yX3_mostBefore, Cond.instanceMethod yX3_mostBefore, Cond.selects RX3 yX3_mostBefore yX3_mostBefore, Cond.code yX3_mostBefore cX3_mostBefore 4 (some .int), Cond.methodLink RX3 61 Lib.Math.max.name, Cond.static Lib.Math.max.name, Cond.initialized "java/lang/Math", Cond.code Lib.Math.max.name Lib.Math.max.code 2 (some .int), Cond.methodLink RX3 111 yX3_seamTold, Cond.instanceMethod yX3_seamTold, Cond.selects RX3 yX3_seamTold yX3_seamTold, Cond.code yX3_seamTold cX3_seamTold 6 (some .int), Cond.fieldLink RX3 27 "HemSuffixesModel" "both" "[[I", Cond.methodLink RX3 77 yX3_lookAtBoth, Cond.instanceMethod yX3_lookAtBoth, Cond.selects RX3 yX3_lookAtBoth yX3_lookAtBoth, Cond.code yX3_lookAtBoth cX3_lookAtBoth 1 none, Cond.methodLink RX3 80 yX3_mostAcross, Cond.instanceMethod yX3_mostAcross, Cond.selects RX3 yX3_mostAcross yX3_mostAcross, Cond.code yX3_mostAcross cX3_mostAcross 4 (some .int), Cond.methodLink RX3 46 yX3_isLess, Cond.instanceMethod yX3_isLess, Cond.selects RX3 yX3_isLess yX3_isLess]
def wsX3_count_r3 : List Cond := [Cond.code yX3_isLess cX3_isLess 4 (some .boolean), Cond.methodLink RX3 42 yX3_by, Cond.static yX3_by, Cond.code yX3_by cX3_by 8 (some .int), Cond.methodLink RX3 99 yX3_no, Cond.instanceMethod yX3_no, Cond.selects RX3 yX3_no yX3_no, Cond.code yX3_no cX3_no 2 (some .int)]
def wsX3_count : List Cond := .code yX3_count cX3_count 2 (some .int) :: ((wsX3_count_r1 ++ (wsX3_count_r2 ++ wsX3_count_r3)) ++ wsX30)
def wsX3_end_r1 : List Cond := [Cond.fieldLink RX3 30 "HemSuffixesModel" "thrown" "I", Cond.fieldLink RX3 24 "HemSuffixesModel" "places" "[I", Cond.methodLink RX3 105 yX3_isPlace, Cond.instanceMethod yX3_isPlace, Cond.selects RX3 yX3_isPlace yX3_isPlace, Cond.initialized RX3, Cond.code yX3_isPlace cX3_isPlace 3 (some .boolean), Cond.fieldLink RX3 14 "HemSuffixesModel" "size" "[I", Cond.methodLink RX3 38 yX3_isHem, Cond.static yX3_isHem, Cond.code yX3_isHem cX3_isHem 1 (some .boolean), Cond.methodLink RX3 34 yX3_isIn, Cond.static yX3_isIn, Cond.code yX3_isIn cX3_isIn 3 (some .boolean), Cond.methodLink RX3 99 yX3_no, Cond.instanceMethod yX3_no, Cond.selects RX3 yX3_no yX3_no, Cond.code yX3_no cX3_no 2 (some .int), Cond.methodLink RX3 117 yX3_order, Cond.instanceMethod yX3_order, Cond.selects RX3 yX3_order yX3_order, Cond.code yX3_order cX3_order 3 none, Cond.methodLink RX3 53 yX3_look, Cond.instanceMethod yX3_look]
def wsX3_end_r2 : List Cond := [Cond.selects RX3 yX3_look yX3_look, Cond.code yX3_look cX3_look 2 none, Cond.fieldLink RX3 11 "HemSuffixesModel" "hem" "[[I", Cond.fieldLink RX3 21 "HemSuffixesModel" "same" "[[I", Cond.methodLink RX3 49 yX3_compare, Cond.static yX3_compare, Cond.code yX3_compare cX3_compare 7 none, Cond.methodLink RX3 57 yX3_rankOf, Cond.instanceMethod yX3_rankOf, Cond.selects RX3 yX3_rankOf yX3_rankOf, Cond.code yX3_rankOf cX3_rankOf 5 (some .int), Cond.methodLink RX3 46 yX3_isLess, Cond.instanceMethod yX3_isLess, Cond.selects RX3 yX3_isLess yX3_isLess, Cond.code yX3_isLess cX3_isLess 4 (some .boolean), Cond.methodLink RX3 42 yX3_by, Cond.static yX3_by, Cond.code yX3_by cX3_by 8 (some .int)]
def wsX3_end : List Cond := .code yX3_end cX3_end 3 (some .int) :: ((wsX3_end_r1 ++ wsX3_end_r2) ++ wsX30)
def wsX3_rank_r1 : List Cond := [Cond.fieldLink RX3 30 "HemSuffixesModel" "thrown" "I", Cond.methodLink RX3 105 yX3_isPlace, Cond.instanceMethod yX3_isPlace, Cond.selects RX3 yX3_isPlace yX3_isPlace, Cond.initialized RX3, Cond.code yX3_isPlace cX3_isPlace 3 (some .boolean), Cond.fieldLink RX3 14 "HemSuffixesModel" "size" "[I", Cond.methodLink RX3 38 yX3_isHem, Cond.static yX3_isHem, Cond.code yX3_isHem cX3_isHem 1 (some .boolean), Cond.methodLink RX3 34 yX3_isIn, Cond.static yX3_isIn, Cond.code yX3_isIn cX3_isIn 3 (some .boolean), Cond.methodLink RX3 99 yX3_no, Cond.instanceMethod yX3_no, Cond.selects RX3 yX3_no yX3_no, Cond.code yX3_no cX3_no 2 (some .int), Cond.methodLink RX3 53 yX3_look, Cond.instanceMethod yX3_look, Cond.selects RX3 yX3_look yX3_look, Cond.code yX3_look cX3_look 2 none, Cond.fieldLink RX3 11 "HemSuffixesModel" "hem" "[[I", Cond.fieldLink RX3 21 "HemSuffixesModel" "same" "[[I", Cond.methodLink RX3 49 yX3_compare]
def wsX3_rank_r2 : List Cond := [Cond.static yX3_compare, Cond.code yX3_compare cX3_compare 7 none, Cond.methodLink RX3 57 yX3_rankOf, Cond.instanceMethod yX3_rankOf, Cond.selects RX3 yX3_rankOf yX3_rankOf, Cond.code yX3_rankOf cX3_rankOf 5 (some .int), Cond.methodLink RX3 46 yX3_isLess, Cond.instanceMethod yX3_isLess, Cond.selects RX3 yX3_isLess yX3_isLess, Cond.code yX3_isLess cX3_isLess 4 (some .boolean), Cond.methodLink RX3 42 yX3_by, Cond.static yX3_by, Cond.code yX3_by cX3_by 8 (some .int)]
def wsX3_rank : List Cond := .code yX3_rank cX3_rank 3 (some .int) :: ((wsX3_rank_r1 ++ wsX3_rank_r2) ++ wsX30)
def wsX3_common_r1 : List Cond := [Cond.fieldLink RX3 30 "HemSuffixesModel" "thrown" "I", Cond.fieldLink RX3 21 "HemSuffixesModel" "same" "[[I", Cond.methodLink RX3 105 yX3_isPlace, Cond.instanceMethod yX3_isPlace, Cond.selects RX3 yX3_isPlace yX3_isPlace, Cond.initialized RX3, Cond.code yX3_isPlace cX3_isPlace 3 (some .boolean), Cond.fieldLink RX3 14 "HemSuffixesModel" "size" "[I", Cond.methodLink RX3 38 yX3_isHem, Cond.static yX3_isHem, Cond.code yX3_isHem cX3_isHem 1 (some .boolean), Cond.methodLink RX3 34 yX3_isIn, Cond.static yX3_isIn, Cond.code yX3_isIn cX3_isIn 3 (some .boolean), Cond.methodLink RX3 99 yX3_no, Cond.instanceMethod yX3_no, Cond.selects RX3 yX3_no yX3_no, Cond.code yX3_no cX3_no 2 (some .int), Cond.methodLink RX3 53 yX3_look, Cond.instanceMethod yX3_look, Cond.selects RX3 yX3_look yX3_look, Cond.code yX3_look cX3_look 2 none, Cond.fieldLink RX3 11 "HemSuffixesModel" "hem" "[[I", Cond.methodLink RX3 49 yX3_compare]
def wsX3_common_r2 : List Cond := [Cond.static yX3_compare, Cond.code yX3_compare cX3_compare 7 none]
def wsX3_common : List Cond := .code yX3_common cX3_common 4 (some .int) :: ((wsX3_common_r1 ++ wsX3_common_r2) ++ wsX30)
def wsX3_against_r1 : List Cond := [Cond.fieldLink RX3 30 "HemSuffixesModel" "thrown" "I", Cond.fieldLink RX3 11 "HemSuffixesModel" "hem" "[[I", Cond.fieldLink RX3 14 "HemSuffixesModel" "size" "[I", Cond.fieldLink RX3 27 "HemSuffixesModel" "both" "[[I", Cond.methodLink RX3 105 yX3_isPlace, Cond.instanceMethod yX3_isPlace, Cond.selects RX3 yX3_isPlace yX3_isPlace, Cond.initialized RX3, Cond.code yX3_isPlace cX3_isPlace 3 (some .boolean), Cond.methodLink RX3 38 yX3_isHem, Cond.static yX3_isHem, Cond.code yX3_isHem cX3_isHem 1 (some .boolean), Cond.methodLink RX3 34 yX3_isIn, Cond.static yX3_isIn, Cond.code yX3_isIn cX3_isIn 3 (some .boolean), Cond.methodLink RX3 99 yX3_no, Cond.instanceMethod yX3_no, Cond.selects RX3 yX3_no yX3_no, Cond.code yX3_no cX3_no 2 (some .int), Cond.methodLink RX3 77 yX3_lookAtBoth, Cond.instanceMethod yX3_lookAtBoth, Cond.selects RX3 yX3_lookAtBoth yX3_lookAtBoth, Cond.code yX3_lookAtBoth cX3_lookAtBoth 1 none, Cond.methodLink RX3 49 yX3_compare]
def wsX3_against_r2 : List Cond := [Cond.static yX3_compare, Cond.code yX3_compare cX3_compare 7 none, Cond.methodLink RX3 42 yX3_by, Cond.static yX3_by, Cond.code yX3_by cX3_by 8 (some .int)]
def wsX3_against : List Cond := .code yX3_against cX3_against 3 (some .int) :: ((wsX3_against_r1 ++ wsX3_against_r2) ++ wsX30)
def wsX3_repeat_r1 : List Cond := [Cond.fieldLink RX3 30 "HemSuffixesModel" "thrown" "I", Cond.methodLink RX3 38 yX3_isHem, Cond.static yX3_isHem, Cond.initialized RX3, Cond.code yX3_isHem cX3_isHem 1 (some .boolean), Cond.methodLink RX3 34 yX3_isIn, Cond.static yX3_isIn, Cond.code yX3_isIn cX3_isIn 3 (some .boolean), Cond.methodLink RX3 120 yX3_repeatTold, Cond.instanceMethod yX3_repeatTold, Cond.selects RX3 yX3_repeatTold yX3_repeatTold, Cond.code yX3_repeatTold cX3_repeatTold 7 (some .int), Cond.fieldLink RX3 14 "HemSuffixesModel" "size" "[I", Cond.fieldLink RX3 21 "HemSuffixesModel" "same" "[[I", Cond.methodLink RX3 53 yX3_look, Cond.instanceMethod yX3_look, Cond.selects RX3 yX3_look yX3_look, Cond.code yX3_look cX3_look 2 none, Cond.fieldLink RX3 11 "HemSuffixesModel" "hem" "[[I", Cond.methodLink RX3 49 yX3_compare, Cond.static yX3_compare, Cond.code yX3_compare cX3_compare 7 none, Cond.methodLink RX3 70 yX3_mostBeside, Cond.instanceMethod yX3_mostBeside]
def wsX3_repeat_r2 : List Cond := [Cond.selects RX3 yX3_mostBeside yX3_mostBeside, Cond.code yX3_mostBeside cX3_mostBeside 5 (some .int), Cond.methodLink RX3 61 Lib.Math.max.name, Cond.static Lib.Math.max.name, Cond.initialized "java/lang/Math", Cond.code Lib.Math.max.name Lib.Math.max.code 2 (some .int), Cond.methodLink RX3 46 yX3_isLess, Cond.instanceMethod yX3_isLess, Cond.selects RX3 yX3_isLess yX3_isLess, Cond.code yX3_isLess cX3_isLess 4 (some .boolean), Cond.methodLink RX3 42 yX3_by, Cond.static yX3_by, Cond.code yX3_by cX3_by 8 (some .int), Cond.methodLink RX3 73 yX3_placesOf, Cond.instanceMethod yX3_placesOf, Cond.selects RX3 yX3_placesOf yX3_placesOf, Cond.code yX3_placesOf cX3_placesOf 6 (some .int), Cond.methodLink RX3 99 yX3_no, Cond.instanceMethod yX3_no, Cond.selects RX3 yX3_no yX3_no, Cond.code yX3_no cX3_no 2 (some .int)]
def wsX3_repeat : List Cond := .code yX3_repeat cX3_repeat 3 (some .int) :: ((wsX3_repeat_r1 ++ wsX3_repeat_r2) ++ wsX30)
def wsX3_row_r1 : List Cond := [Cond.fieldLink RX3 30 "HemSuffixesModel" "thrown" "I", Cond.fieldLink RX3 14 "HemSuffixesModel" "size" "[I", Cond.fieldLink RX3 24 "HemSuffixesModel" "places" "[I", Cond.fieldLink RX3 21 "HemSuffixesModel" "same" "[[I", Cond.methodLink RX3 38 yX3_isHem, Cond.static yX3_isHem, Cond.initialized RX3, Cond.code yX3_isHem cX3_isHem 1 (some .boolean), Cond.methodLink RX3 34 yX3_isIn, Cond.static yX3_isIn, Cond.code yX3_isIn cX3_isIn 3 (some .boolean), Cond.methodLink RX3 99 yX3_no, Cond.instanceMethod yX3_no, Cond.selects RX3 yX3_no yX3_no, Cond.code yX3_no cX3_no 2 (some .int), Cond.methodLink RX3 117 yX3_order, Cond.instanceMethod yX3_order, Cond.selects RX3 yX3_order yX3_order, Cond.code yX3_order cX3_order 3 none, Cond.methodLink RX3 53 yX3_look, Cond.instanceMethod yX3_look, Cond.selects RX3 yX3_look yX3_look, Cond.code yX3_look cX3_look 2 none, Cond.fieldLink RX3 11 "HemSuffixesModel" "hem" "[[I"]
def wsX3_row_r2 : List Cond := [Cond.methodLink RX3 49 yX3_compare, Cond.static yX3_compare, Cond.code yX3_compare cX3_compare 7 none, Cond.methodLink RX3 57 yX3_rankOf, Cond.instanceMethod yX3_rankOf, Cond.selects RX3 yX3_rankOf yX3_rankOf, Cond.code yX3_rankOf cX3_rankOf 5 (some .int), Cond.methodLink RX3 46 yX3_isLess, Cond.instanceMethod yX3_isLess, Cond.selects RX3 yX3_isLess yX3_isLess, Cond.code yX3_isLess cX3_isLess 4 (some .boolean), Cond.methodLink RX3 42 yX3_by, Cond.static yX3_by, Cond.code yX3_by cX3_by 8 (some .int), Cond.methodLink RX3 123 yX3_firstPlace, Cond.instanceMethod yX3_firstPlace, Cond.selects RX3 yX3_firstPlace yX3_firstPlace, Cond.code yX3_firstPlace cX3_firstPlace 4 (some .int)]
def wsX3_row : List Cond := .code yX3_row cX3_row 8 (some .int) :: ((wsX3_row_r1 ++ wsX3_row_r2) ++ wsX30)
def wsX3_found : List Cond := .code yX3_found cX3_found 2 (some .int) :: ([.fieldLink RX3 30 "HemSuffixesModel" "thrown" "I", .methodLink RX3 38 yX3_isHem, .static yX3_isHem, .initialized RX3, .code yX3_isHem cX3_isHem 1 (some .boolean), .methodLink RX3 34 yX3_isIn, .static yX3_isIn, .code yX3_isIn cX3_isIn 3 (some .boolean), .methodLink RX3 126 yX3_foundIn, .instanceMethod yX3_foundIn, .selects RX3 yX3_foundIn yX3_foundIn, .code yX3_foundIn cX3_foundIn 4 (some .int), .fieldLink RX3 14 "HemSuffixesModel" "size" "[I", .methodLink RX3 86 yX3_isSampleAt, .instanceMethod yX3_isSampleAt, .selects RX3 yX3_isSampleAt yX3_isSampleAt, .code yX3_isSampleAt cX3_isSampleAt 4 (some .boolean), .fieldLink RX3 83 "HemSuffixesModel" "samples" "I", .fieldLink RX3 11 "HemSuffixesModel" "hem" "[[I", .fieldLink RX3 18 "HemSuffixesModel" "sample" "[I", .methodLink RX3 99 yX3_no, .instanceMethod yX3_no, .selects RX3 yX3_no yX3_no, .code yX3_no cX3_no 2 (some .int)] ++ wsX30)
def wsX3_first : List Cond := .code yX3_first cX3_first 3 (some .int) :: ([.fieldLink RX3 30 "HemSuffixesModel" "thrown" "I", .fieldLink RX3 14 "HemSuffixesModel" "size" "[I", .methodLink RX3 38 yX3_isHem, .static yX3_isHem, .initialized RX3, .code yX3_isHem cX3_isHem 1 (some .boolean), .methodLink RX3 34 yX3_isIn, .static yX3_isIn, .code yX3_isIn cX3_isIn 3 (some .boolean), .methodLink RX3 99 yX3_no, .instanceMethod yX3_no, .selects RX3 yX3_no yX3_no, .code yX3_no cX3_no 2 (some .int), .methodLink RX3 86 yX3_isSampleAt, .instanceMethod yX3_isSampleAt, .selects RX3 yX3_isSampleAt yX3_isSampleAt, .code yX3_isSampleAt cX3_isSampleAt 4 (some .boolean), .fieldLink RX3 83 "HemSuffixesModel" "samples" "I", .fieldLink RX3 11 "HemSuffixesModel" "hem" "[[I", .fieldLink RX3 18 "HemSuffixesModel" "sample" "[I"] ++ wsX30)
def wsX3_period_r1 : List Cond := [Cond.fieldLink RX3 30 "HemSuffixesModel" "thrown" "I", Cond.methodLink RX3 38 yX3_isHem, Cond.static yX3_isHem, Cond.initialized RX3, Cond.code yX3_isHem cX3_isHem 1 (some .boolean), Cond.methodLink RX3 34 yX3_isIn, Cond.static yX3_isIn, Cond.code yX3_isIn cX3_isIn 3 (some .boolean), Cond.methodLink RX3 129 yX3_periodOf, Cond.instanceMethod yX3_periodOf, Cond.selects RX3 yX3_periodOf yX3_periodOf, Cond.code yX3_periodOf cX3_periodOf 3 (some .int), Cond.fieldLink RX3 14 "HemSuffixesModel" "size" "[I", Cond.methodLink RX3 90 Lib.Math.min.name, Cond.static Lib.Math.min.name, Cond.initialized "java/lang/Math", Cond.code Lib.Math.min.name Lib.Math.min.code 2 (some .int), Cond.methodLink RX3 93 yX3_isPeriod, Cond.instanceMethod yX3_isPeriod, Cond.selects RX3 yX3_isPeriod yX3_isPeriod, Cond.code yX3_isPeriod cX3_isPeriod 4 (some .boolean), Cond.fieldLink RX3 11 "HemSuffixesModel" "hem" "[[I", Cond.methodLink RX3 99 yX3_no, Cond.instanceMethod yX3_no]
def wsX3_period_r2 : List Cond := [Cond.selects RX3 yX3_no yX3_no, Cond.code yX3_no cX3_no 2 (some .int)]
def wsX3_period : List Cond := .code yX3_period cX3_period 2 (some .int) :: ((wsX3_period_r1 ++ wsX3_period_r2) ++ wsX30)
def wsX3_turned : List Cond := .code yX3_turned cX3_turned 2 (some .int) :: ([.fieldLink RX3 30 "HemSuffixesModel" "thrown" "I", .methodLink RX3 38 yX3_isHem, .static yX3_isHem, .initialized RX3, .code yX3_isHem cX3_isHem 1 (some .boolean), .methodLink RX3 34 yX3_isIn, .static yX3_isIn, .code yX3_isIn cX3_isIn 3 (some .boolean), .methodLink RX3 132 yX3_turnedOf, .instanceMethod yX3_turnedOf, .selects RX3 yX3_turnedOf yX3_turnedOf, .code yX3_turnedOf cX3_turnedOf 4 (some .int), .fieldLink RX3 14 "HemSuffixesModel" "size" "[I", .methodLink RX3 96 yX3_isLessAround, .instanceMethod yX3_isLessAround, .selects RX3 yX3_isLessAround yX3_isLessAround, .code yX3_isLessAround cX3_isLessAround 8 (some .boolean), .fieldLink RX3 11 "HemSuffixesModel" "hem" "[[I", .methodLink RX3 99 yX3_no, .instanceMethod yX3_no, .selects RX3 yX3_no yX3_no, .code yX3_no cX3_no 2 (some .int)] ++ wsX30)
def wsX3_seam_r1 : List Cond := [Cond.fieldLink RX3 30 "HemSuffixesModel" "thrown" "I", Cond.methodLink RX3 34 yX3_isIn, Cond.static yX3_isIn, Cond.initialized RX3, Cond.code yX3_isIn cX3_isIn 3 (some .boolean), Cond.methodLink RX3 111 yX3_seamTold, Cond.instanceMethod yX3_seamTold, Cond.selects RX3 yX3_seamTold yX3_seamTold, Cond.code yX3_seamTold cX3_seamTold 6 (some .int), Cond.fieldLink RX3 14 "HemSuffixesModel" "size" "[I", Cond.fieldLink RX3 21 "HemSuffixesModel" "same" "[[I", Cond.fieldLink RX3 27 "HemSuffixesModel" "both" "[[I", Cond.methodLink RX3 53 yX3_look, Cond.instanceMethod yX3_look, Cond.selects RX3 yX3_look yX3_look, Cond.code yX3_look cX3_look 2 none, Cond.fieldLink RX3 11 "HemSuffixesModel" "hem" "[[I", Cond.methodLink RX3 49 yX3_compare, Cond.static yX3_compare, Cond.code yX3_compare cX3_compare 7 none, Cond.methodLink RX3 77 yX3_lookAtBoth, Cond.instanceMethod yX3_lookAtBoth, Cond.selects RX3 yX3_lookAtBoth yX3_lookAtBoth, Cond.code yX3_lookAtBoth cX3_lookAtBoth 1 none]
def wsX3_seam_r2 : List Cond := [Cond.methodLink RX3 80 yX3_mostAcross, Cond.instanceMethod yX3_mostAcross, Cond.selects RX3 yX3_mostAcross yX3_mostAcross, Cond.code yX3_mostAcross cX3_mostAcross 4 (some .int), Cond.methodLink RX3 61 Lib.Math.max.name, Cond.static Lib.Math.max.name, Cond.initialized "java/lang/Math", Cond.code Lib.Math.max.name Lib.Math.max.code 2 (some .int), Cond.methodLink RX3 46 yX3_isLess, Cond.instanceMethod yX3_isLess, Cond.selects RX3 yX3_isLess yX3_isLess, Cond.code yX3_isLess cX3_isLess 4 (some .boolean), Cond.methodLink RX3 42 yX3_by, Cond.static yX3_by, Cond.code yX3_by cX3_by 8 (some .int), Cond.methodLink RX3 99 yX3_no, Cond.instanceMethod yX3_no, Cond.selects RX3 yX3_no yX3_no, Cond.code yX3_no cX3_no 2 (some .int)]
def wsX3_seam : List Cond := .code yX3_seam cX3_seam 2 (some .int) :: ((wsX3_seam_r1 ++ wsX3_seam_r2) ++ wsX30)
def wsX3_would_r1 : List Cond := [Cond.fieldLink RX3 30 "HemSuffixesModel" "thrown" "I", Cond.methodLink RX3 38 yX3_isHem, Cond.static yX3_isHem, Cond.initialized RX3, Cond.code yX3_isHem cX3_isHem 1 (some .boolean), Cond.methodLink RX3 34 yX3_isIn, Cond.static yX3_isIn, Cond.code yX3_isIn cX3_isIn 3 (some .boolean), Cond.methodLink RX3 99 yX3_no, Cond.instanceMethod yX3_no, Cond.selects RX3 yX3_no yX3_no, Cond.code yX3_no cX3_no 2 (some .int), Cond.methodLink RX3 102 yX3_isStitch, Cond.static yX3_isStitch, Cond.code yX3_isStitch cX3_isStitch 1 (some .boolean), Cond.methodLink RX3 135 yX3_more, Cond.instanceMethod yX3_more, Cond.selects RX3 yX3_more yX3_more, Cond.code yX3_more cX3_more 7 (some .int), Cond.fieldLink RX3 14 "HemSuffixesModel" "size" "[I", Cond.fieldLink RX3 11 "HemSuffixesModel" "hem" "[[I", Cond.methodLink RX3 61 Lib.Math.max.name, Cond.static Lib.Math.max.name, Cond.initialized "java/lang/Math"]
def wsX3_would_r2 : List Cond := [Cond.code Lib.Math.max.name Lib.Math.max.code 2 (some .int)]
def wsX3_would : List Cond := .code yX3_would cX3_would 3 (some .int) :: ((wsX3_would_r1 ++ wsX3_would_r2) ++ wsX30)
def wsX3_advise : List Cond := .code yX3_advise cX3_advise 4 (some .int) :: ([.fieldLink RX3 30 "HemSuffixesModel" "thrown" "I", .methodLink RX3 38 yX3_isHem, .static yX3_isHem, .initialized RX3, .code yX3_isHem cX3_isHem 1 (some .boolean), .methodLink RX3 34 yX3_isIn, .static yX3_isIn, .code yX3_isIn cX3_isIn 3 (some .boolean), .methodLink RX3 99 yX3_no, .instanceMethod yX3_no, .selects RX3 yX3_no yX3_no, .code yX3_no cX3_no 2 (some .int), .methodLink RX3 135 yX3_more, .instanceMethod yX3_more, .selects RX3 yX3_more yX3_more, .code yX3_more cX3_more 7 (some .int), .fieldLink RX3 14 "HemSuffixesModel" "size" "[I", .fieldLink RX3 11 "HemSuffixesModel" "hem" "[[I", .methodLink RX3 61 Lib.Math.max.name, .static Lib.Math.max.name, .initialized "java/lang/Math", .code Lib.Math.max.name Lib.Math.max.code 2 (some .int)] ++ wsX30)
def wsX3_mean_r1 : List Cond := [Cond.fieldLink RX3 30 "HemSuffixesModel" "thrown" "I", Cond.fieldLink RX3 14 "HemSuffixesModel" "size" "[I", Cond.fieldLink RX3 21 "HemSuffixesModel" "same" "[[I", Cond.fieldLink RX3 24 "HemSuffixesModel" "places" "[I", Cond.methodLink RX3 117 yX3_order, Cond.instanceMethod yX3_order, Cond.selects RX3 yX3_order yX3_order, Cond.initialized RX3, Cond.code yX3_order cX3_order 3 none, Cond.methodLink RX3 53 yX3_look, Cond.instanceMethod yX3_look, Cond.selects RX3 yX3_look yX3_look, Cond.code yX3_look cX3_look 2 none, Cond.fieldLink RX3 11 "HemSuffixesModel" "hem" "[[I", Cond.methodLink RX3 49 yX3_compare, Cond.static yX3_compare, Cond.code yX3_compare cX3_compare 7 none, Cond.methodLink RX3 57 yX3_rankOf, Cond.instanceMethod yX3_rankOf, Cond.selects RX3 yX3_rankOf yX3_rankOf, Cond.code yX3_rankOf cX3_rankOf 5 (some .int), Cond.methodLink RX3 46 yX3_isLess, Cond.instanceMethod yX3_isLess, Cond.selects RX3 yX3_isLess yX3_isLess]
def wsX3_mean_r2 : List Cond := [Cond.code yX3_isLess cX3_isLess 4 (some .boolean), Cond.methodLink RX3 42 yX3_by, Cond.static yX3_by, Cond.code yX3_by cX3_by 8 (some .int)]
def wsX3_mean : List Cond := .code yX3_mean cX3_mean 5 (some .double) :: ((wsX3_mean_r1 ++ wsX3_mean_r2) ++ wsX30)
def wsX3_digest_r1 : List Cond := [Cond.fieldLink RX3 30 "HemSuffixesModel" "thrown" "I", Cond.constantLong RX3 138 (1483), Cond.constantLong RX3 140 (31), Cond.fieldLink RX3 14 "HemSuffixesModel" "size" "[I", Cond.fieldLink RX3 11 "HemSuffixesModel" "hem" "[[I", Cond.fieldLink RX3 24 "HemSuffixesModel" "places" "[I", Cond.fieldLink RX3 83 "HemSuffixesModel" "samples" "I", Cond.fieldLink RX3 18 "HemSuffixesModel" "sample" "[I", Cond.methodLink RX3 114 yX3_counted, Cond.instanceMethod yX3_counted, Cond.selects RX3 yX3_counted yX3_counted, Cond.initialized RX3, Cond.code yX3_counted cX3_counted 2 (some .int), Cond.methodLink RX3 108 yX3_differentRows, Cond.instanceMethod yX3_differentRows, Cond.selects RX3 yX3_differentRows yX3_differentRows, Cond.code yX3_differentRows cX3_differentRows 4 (some .int), Cond.methodLink RX3 53 yX3_look, Cond.instanceMethod yX3_look, Cond.selects RX3 yX3_look yX3_look, Cond.code yX3_look cX3_look 2 none, Cond.fieldLink RX3 21 "HemSuffixesModel" "same" "[[I", Cond.methodLink RX3 49 yX3_compare, Cond.static yX3_compare]
def wsX3_digest_r2 : List Cond := [Cond.code yX3_compare cX3_compare 7 none, Cond.methodLink RX3 66 yX3_mostBefore, Cond.instanceMethod yX3_mostBefore, Cond.selects RX3 yX3_mostBefore yX3_mostBefore, Cond.code yX3_mostBefore cX3_mostBefore 4 (some .int), Cond.methodLink RX3 61 Lib.Math.max.name, Cond.static Lib.Math.max.name, Cond.initialized "java/lang/Math", Cond.code Lib.Math.max.name Lib.Math.max.code 2 (some .int), Cond.methodLink RX3 111 yX3_seamTold, Cond.instanceMethod yX3_seamTold, Cond.selects RX3 yX3_seamTold yX3_seamTold, Cond.code yX3_seamTold cX3_seamTold 6 (some .int), Cond.fieldLink RX3 27 "HemSuffixesModel" "both" "[[I", Cond.methodLink RX3 77 yX3_lookAtBoth, Cond.instanceMethod yX3_lookAtBoth, Cond.selects RX3 yX3_lookAtBoth yX3_lookAtBoth, Cond.code yX3_lookAtBoth cX3_lookAtBoth 1 none, Cond.methodLink RX3 80 yX3_mostAcross, Cond.instanceMethod yX3_mostAcross, Cond.selects RX3 yX3_mostAcross yX3_mostAcross, Cond.code yX3_mostAcross cX3_mostAcross 4 (some .int), Cond.methodLink RX3 46 yX3_isLess, Cond.instanceMethod yX3_isLess]
def wsX3_digest_r3 : List Cond := [Cond.selects RX3 yX3_isLess yX3_isLess, Cond.code yX3_isLess cX3_isLess 4 (some .boolean), Cond.methodLink RX3 42 yX3_by, Cond.static yX3_by, Cond.code yX3_by cX3_by 8 (some .int), Cond.methodLink RX3 117 yX3_order, Cond.instanceMethod yX3_order, Cond.selects RX3 yX3_order yX3_order, Cond.code yX3_order cX3_order 3 none, Cond.methodLink RX3 57 yX3_rankOf, Cond.instanceMethod yX3_rankOf, Cond.selects RX3 yX3_rankOf yX3_rankOf, Cond.code yX3_rankOf cX3_rankOf 5 (some .int), Cond.methodLink RX3 120 yX3_repeatTold, Cond.instanceMethod yX3_repeatTold, Cond.selects RX3 yX3_repeatTold yX3_repeatTold, Cond.code yX3_repeatTold cX3_repeatTold 7 (some .int), Cond.methodLink RX3 70 yX3_mostBeside, Cond.instanceMethod yX3_mostBeside, Cond.selects RX3 yX3_mostBeside yX3_mostBeside, Cond.code yX3_mostBeside cX3_mostBeside 5 (some .int), Cond.methodLink RX3 73 yX3_placesOf, Cond.instanceMethod yX3_placesOf, Cond.selects RX3 yX3_placesOf yX3_placesOf]
def wsX3_digest_r4 : List Cond := [Cond.code yX3_placesOf cX3_placesOf 6 (some .int), Cond.methodLink RX3 129 yX3_periodOf, Cond.instanceMethod yX3_periodOf, Cond.selects RX3 yX3_periodOf yX3_periodOf, Cond.code yX3_periodOf cX3_periodOf 3 (some .int), Cond.methodLink RX3 90 Lib.Math.min.name, Cond.static Lib.Math.min.name, Cond.code Lib.Math.min.name Lib.Math.min.code 2 (some .int), Cond.methodLink RX3 93 yX3_isPeriod, Cond.instanceMethod yX3_isPeriod, Cond.selects RX3 yX3_isPeriod yX3_isPeriod, Cond.code yX3_isPeriod cX3_isPeriod 4 (some .boolean), Cond.methodLink RX3 132 yX3_turnedOf, Cond.instanceMethod yX3_turnedOf, Cond.selects RX3 yX3_turnedOf yX3_turnedOf, Cond.code yX3_turnedOf cX3_turnedOf 4 (some .int), Cond.methodLink RX3 96 yX3_isLessAround, Cond.instanceMethod yX3_isLessAround, Cond.selects RX3 yX3_isLessAround yX3_isLessAround, Cond.code yX3_isLessAround cX3_isLessAround 8 (some .boolean), Cond.methodLink RX3 126 yX3_foundIn, Cond.instanceMethod yX3_foundIn, Cond.selects RX3 yX3_foundIn yX3_foundIn, Cond.code yX3_foundIn cX3_foundIn 4 (some .int)]
def wsX3_digest_r5 : List Cond := [Cond.methodLink RX3 86 yX3_isSampleAt, Cond.instanceMethod yX3_isSampleAt, Cond.selects RX3 yX3_isSampleAt yX3_isSampleAt, Cond.code yX3_isSampleAt cX3_isSampleAt 4 (some .boolean)]
def wsX3_digest : List Cond := .code yX3_digest cX3_digest 5 (some .long) :: ((wsX3_digest_r1 ++ (wsX3_digest_r2 ++ (wsX3_digest_r3 ++ (wsX3_digest_r4 ++ wsX3_digest_r5)))) ++ wsX30)
def wsJ9_max_7cf53 : List Cond := .code yJ9_max_7cf53 cJ9_max_7cf53 2 (some .int) :: ([])
def wsJ9_min_7cf53 : List Cond := .code yJ9_min_7cf53 cJ9_min_7cf53 2 (some .int) :: ([])
def wsL_sew_r1 : List Cond := [Cond.classLink RL 13 "java/lang/IndexOutOfBoundsException", Cond.classLink RL 15 "java/lang/IllegalArgumentException", Cond.classLink RL 17 "java/lang/IllegalStateException", Cond.methodLink RL 7 yX2_sew, Cond.instanceMethod yX2_sew, Cond.selects RX2 yX2_sew yX2_sew, Cond.initialized RX2, Cond.code yX2_sew cX2_sew 4 (some .int), Cond.classLink RX2 41 "java/lang/IllegalStateException", Cond.initialized "java/lang/IllegalStateException", Cond.methodLink RX2 26 yX2_hemOf, Cond.instanceMethod yX2_hemOf, Cond.selects RX2 yX2_hemOf yX2_hemOf, Cond.code yX2_hemOf cX2_hemOf 2 (some (.object "HemSuffixes$Hem")), Cond.classLink RX2 92 "java/lang/IndexOutOfBoundsException", Cond.initialized "java/lang/IndexOutOfBoundsException", Cond.fieldLink RX2 10 "HemSuffixes" "hemZero" "LHemSuffixes$Hem;", Cond.fieldLink RX2 16 "HemSuffixes" "hemOne" "LHemSuffixes$Hem;", Cond.methodLink RX2 30 yX2_requireStitch, Cond.static yX2_requireStitch, Cond.code yX2_requireStitch cX2_requireStitch 1 none, Cond.classLink RX2 51 "java/lang/IllegalArgumentException", Cond.initialized "java/lang/IllegalArgumentException", Cond.methodLink RX2 48 yX0_sewOn]
def wsL_sew_r2 : List Cond := [Cond.instanceMethod yX0_sewOn, Cond.selects RX0 yX0_sewOn yX0_sewOn, Cond.initialized RX0, Cond.code yX0_sewOn cX0_sewOn 2 none, Cond.fieldLink RX0 12 "HemSuffixes$Hem" "stitches" "LHemSuffixes$Stitches;", Cond.methodLink RX0 22 yX1_append, Cond.instanceMethod yX1_append, Cond.selects RX1 yX1_append yX1_append, Cond.initialized RX1, Cond.code yX1_append cX1_append 2 none, Cond.fieldLink RX1 15 "HemSuffixes$Stitches" "length" "I", Cond.fieldLink RX1 9 "HemSuffixes$Stitches" "kinds" "[I", Cond.methodLink RX0 26 yX0_orderEnds, Cond.instanceMethod yX0_orderEnds, Cond.selects RX0 yX0_orderEnds yX0_orderEnds, Cond.code yX0_orderEnds cX0_orderEnds 2 none, Cond.fieldLink RX0 18 "HemSuffixes$Hem" "placesInOrder" "[I", Cond.methodLink RX0 40 yX0_putInOrder, Cond.instanceMethod yX0_putInOrder, Cond.selects RX0 yX0_putInOrder yX0_putInOrder, Cond.code yX0_putInOrder cX0_putInOrder 4 none, Cond.methodLink RX0 44 yX1_difference, Cond.instanceMethod yX1_difference, Cond.selects RX1 yX1_difference yX1_difference]
def wsL_sew_r3 : List Cond := [Cond.code yX1_difference cX1_difference 7 (some .int), Cond.methodLink RX1 29 yX1_sharedWith, Cond.instanceMethod yX1_sharedWith, Cond.selects RX1 yX1_sharedWith yX1_sharedWith, Cond.code yX1_sharedWith cX1_sharedWith 6 (some .int), Cond.methodLink RX1 19 Lib.Math.min.name, Cond.static Lib.Math.min.name, Cond.initialized "java/lang/Math", Cond.code Lib.Math.min.name Lib.Math.min.code 2 (some .int), Cond.methodLink RX1 25 yX1_at, Cond.instanceMethod yX1_at, Cond.selects RX1 yX1_at yX1_at, Cond.code yX1_at cX1_at 2 (some .int)]
def wsL_sew : List Cond := .codeWith yL_sew cL_sew 5 (some .int) [(0, 10, 13, 13), (0, 10, 17, 15), (0, 10, 21, 17)] :: ((wsL_sew_r1 ++ (wsL_sew_r2 ++ wsL_sew_r3)) ++ wsX00 ++ wsX10 ++ wsX20 ++ (vx_atS RX2 45 "java/lang/IllegalStateException" ["java/lang/RuntimeException", "java/lang/Exception"]).filter goodWord ++ (vx_atS RX2 96 "java/lang/IndexOutOfBoundsException" ["java/lang/RuntimeException", "java/lang/Exception"]).filter goodWord ++ (vx_atS RX2 55 "java/lang/IllegalArgumentException" ["java/lang/RuntimeException", "java/lang/Exception"]).filter goodWord)
def wsL_again_r1 : List Cond := [Cond.classLink RL 13 "java/lang/IndexOutOfBoundsException", Cond.classLink RL 15 "java/lang/IllegalArgumentException", Cond.classLink RL 17 "java/lang/IllegalStateException", Cond.methodLink RL 19 yX2_again, Cond.instanceMethod yX2_again, Cond.selects RX2 yX2_again yX2_again, Cond.initialized RX2, Cond.code yX2_again cX2_again 5 (some .int), Cond.classLink RX2 51 "java/lang/IllegalArgumentException", Cond.initialized "java/lang/IllegalArgumentException", Cond.classLink RX2 41 "java/lang/IllegalStateException", Cond.initialized "java/lang/IllegalStateException", Cond.methodLink RX2 26 yX2_hemOf, Cond.instanceMethod yX2_hemOf, Cond.selects RX2 yX2_hemOf yX2_hemOf, Cond.code yX2_hemOf cX2_hemOf 2 (some (.object "HemSuffixes$Hem")), Cond.classLink RX2 92 "java/lang/IndexOutOfBoundsException", Cond.initialized "java/lang/IndexOutOfBoundsException", Cond.fieldLink RX2 10 "HemSuffixes" "hemZero" "LHemSuffixes$Hem;", Cond.fieldLink RX2 16 "HemSuffixes" "hemOne" "LHemSuffixes$Hem;", Cond.methodLink RX2 58 yX0_sewBeginning, Cond.instanceMethod yX0_sewBeginning, Cond.selects RX0 yX0_sewBeginning yX0_sewBeginning, Cond.initialized RX0]
def wsL_again_r2 : List Cond := [Cond.code yX0_sewBeginning cX0_sewBeginning 3 none, Cond.fieldLink RX0 12 "HemSuffixes$Hem" "stitches" "LHemSuffixes$Stitches;", Cond.methodLink RX0 29 yX1_at, Cond.instanceMethod yX1_at, Cond.selects RX1 yX1_at yX1_at, Cond.initialized RX1, Cond.code yX1_at cX1_at 2 (some .int), Cond.fieldLink RX1 15 "HemSuffixes$Stitches" "length" "I", Cond.fieldLink RX1 9 "HemSuffixes$Stitches" "kinds" "[I", Cond.methodLink RX0 22 yX1_append, Cond.instanceMethod yX1_append, Cond.selects RX1 yX1_append yX1_append, Cond.code yX1_append cX1_append 2 none, Cond.methodLink RX0 26 yX0_orderEnds, Cond.instanceMethod yX0_orderEnds, Cond.selects RX0 yX0_orderEnds yX0_orderEnds, Cond.code yX0_orderEnds cX0_orderEnds 2 none, Cond.fieldLink RX0 18 "HemSuffixes$Hem" "placesInOrder" "[I", Cond.methodLink RX0 40 yX0_putInOrder, Cond.instanceMethod yX0_putInOrder, Cond.selects RX0 yX0_putInOrder yX0_putInOrder, Cond.code yX0_putInOrder cX0_putInOrder 4 none, Cond.methodLink RX0 44 yX1_difference, Cond.instanceMethod yX1_difference]
def wsL_again_r3 : List Cond := [Cond.selects RX1 yX1_difference yX1_difference, Cond.code yX1_difference cX1_difference 7 (some .int), Cond.methodLink RX1 29 yX1_sharedWith, Cond.instanceMethod yX1_sharedWith, Cond.selects RX1 yX1_sharedWith yX1_sharedWith, Cond.code yX1_sharedWith cX1_sharedWith 6 (some .int), Cond.methodLink RX1 19 Lib.Math.min.name, Cond.static Lib.Math.min.name, Cond.initialized "java/lang/Math", Cond.code Lib.Math.min.name Lib.Math.min.code 2 (some .int), Cond.methodLink RX1 25 yX1_at]
def wsL_again : List Cond := .codeWith yL_again cL_again 5 (some .int) [(0, 10, 13, 13), (0, 10, 17, 15), (0, 10, 21, 17)] :: ((wsL_again_r1 ++ (wsL_again_r2 ++ wsL_again_r3)) ++ wsX00 ++ wsX10 ++ wsX20 ++ (vx_atS RX2 55 "java/lang/IllegalArgumentException" ["java/lang/RuntimeException", "java/lang/Exception"]).filter goodWord ++ (vx_atS RX2 45 "java/lang/IllegalStateException" ["java/lang/RuntimeException", "java/lang/Exception"]).filter goodWord ++ (vx_atS RX2 96 "java/lang/IndexOutOfBoundsException" ["java/lang/RuntimeException", "java/lang/Exception"]).filter goodWord)
def wsL_unpick_r1 : List Cond := [Cond.classLink RL 13 "java/lang/IndexOutOfBoundsException", Cond.classLink RL 15 "java/lang/IllegalArgumentException", Cond.methodLink RL 22 yX2_unpick, Cond.instanceMethod yX2_unpick, Cond.selects RX2 yX2_unpick yX2_unpick, Cond.initialized RX2, Cond.code yX2_unpick cX2_unpick 4 (some .int), Cond.classLink RX2 51 "java/lang/IllegalArgumentException", Cond.initialized "java/lang/IllegalArgumentException", Cond.methodLink RX2 26 yX2_hemOf, Cond.instanceMethod yX2_hemOf, Cond.selects RX2 yX2_hemOf yX2_hemOf, Cond.code yX2_hemOf cX2_hemOf 2 (some (.object "HemSuffixes$Hem")), Cond.classLink RX2 92 "java/lang/IndexOutOfBoundsException", Cond.initialized "java/lang/IndexOutOfBoundsException", Cond.fieldLink RX2 10 "HemSuffixes" "hemZero" "LHemSuffixes$Hem;", Cond.fieldLink RX2 16 "HemSuffixes" "hemOne" "LHemSuffixes$Hem;", Cond.methodLink RX2 63 yX0_takeOff, Cond.instanceMethod yX0_takeOff, Cond.selects RX0 yX0_takeOff yX0_takeOff, Cond.initialized RX0, Cond.code yX0_takeOff cX0_takeOff 2 none, Cond.fieldLink RX0 12 "HemSuffixes$Hem" "stitches" "LHemSuffixes$Stitches;", Cond.methodLink RX0 33 yX1_drop]
def wsL_unpick_r2 : List Cond := [Cond.instanceMethod yX1_drop, Cond.selects RX1 yX1_drop yX1_drop, Cond.initialized RX1, Cond.code yX1_drop cX1_drop 2 none, Cond.fieldLink RX1 15 "HemSuffixes$Stitches" "length" "I", Cond.methodLink RX0 26 yX0_orderEnds, Cond.instanceMethod yX0_orderEnds, Cond.selects RX0 yX0_orderEnds yX0_orderEnds, Cond.code yX0_orderEnds cX0_orderEnds 2 none, Cond.fieldLink RX0 18 "HemSuffixes$Hem" "placesInOrder" "[I", Cond.methodLink RX0 40 yX0_putInOrder, Cond.instanceMethod yX0_putInOrder, Cond.selects RX0 yX0_putInOrder yX0_putInOrder, Cond.code yX0_putInOrder cX0_putInOrder 4 none, Cond.methodLink RX0 44 yX1_difference, Cond.instanceMethod yX1_difference, Cond.selects RX1 yX1_difference yX1_difference, Cond.code yX1_difference cX1_difference 7 (some .int), Cond.methodLink RX1 29 yX1_sharedWith, Cond.instanceMethod yX1_sharedWith, Cond.selects RX1 yX1_sharedWith yX1_sharedWith, Cond.code yX1_sharedWith cX1_sharedWith 6 (some .int), Cond.methodLink RX1 19 Lib.Math.min.name, Cond.static Lib.Math.min.name]
def wsL_unpick_r3 : List Cond := [Cond.initialized "java/lang/Math", Cond.code Lib.Math.min.name Lib.Math.min.code 2 (some .int), Cond.methodLink RX1 25 yX1_at, Cond.instanceMethod yX1_at, Cond.selects RX1 yX1_at yX1_at, Cond.code yX1_at cX1_at 2 (some .int), Cond.fieldLink RX1 9 "HemSuffixes$Stitches" "kinds" "[I"]
def wsL_unpick : List Cond := .codeWith yL_unpick cL_unpick 5 (some .int) [(0, 10, 13, 13), (0, 10, 17, 15)] :: ((wsL_unpick_r1 ++ (wsL_unpick_r2 ++ wsL_unpick_r3)) ++ wsX00 ++ wsX10 ++ wsX20 ++ (vx_atS RX2 55 "java/lang/IllegalArgumentException" ["java/lang/RuntimeException", "java/lang/Exception"]).filter goodWord ++ (vx_atS RX2 96 "java/lang/IndexOutOfBoundsException" ["java/lang/RuntimeException", "java/lang/Exception"]).filter goodWord)
def wsL_add : List Cond := .codeWith yL_add cL_add 4 (some .int) [(0, 9, 12, 15), (0, 9, 15, 17)] :: ([.classLink RL 15 "java/lang/IllegalArgumentException", .classLink RL 17 "java/lang/IllegalStateException", .methodLink RL 25 yX2_add, .instanceMethod yX2_add, .selects RX2 yX2_add yX2_add, .initialized RX2, .code yX2_add cX2_add 2 (some .int), .classLink RX2 41 "java/lang/IllegalStateException", .initialized "java/lang/IllegalStateException", .fieldLink RX2 22 "HemSuffixes" "sample" "LHemSuffixes$Stitches;", .methodLink RX2 30 yX2_requireStitch, .static yX2_requireStitch, .code yX2_requireStitch cX2_requireStitch 1 none, .classLink RX2 51 "java/lang/IllegalArgumentException", .initialized "java/lang/IllegalArgumentException", .methodLink RX2 68 yX1_append, .instanceMethod yX1_append, .selects RX1 yX1_append yX1_append, .initialized RX1, .code yX1_append cX1_append 2 none, .fieldLink RX1 15 "HemSuffixes$Stitches" "length" "I", .fieldLink RX1 9 "HemSuffixes$Stitches" "kinds" "[I"] ++ wsX20 ++ wsX10 ++ (vx_atS RX2 45 "java/lang/IllegalStateException" ["java/lang/RuntimeException", "java/lang/Exception"]).filter goodWord ++ (vx_atS RX2 55 "java/lang/IllegalArgumentException" ["java/lang/RuntimeException", "java/lang/Exception"]).filter goodWord)
def wsL_stitch : List Cond := .codeWith yL_stitch cL_stitch 5 (some .int) [(0, 10, 13, 13)] :: ([.classLink RL 13 "java/lang/IndexOutOfBoundsException", .methodLink RL 29 yX2_stitch, .instanceMethod yX2_stitch, .selects RX2 yX2_stitch yX2_stitch, .initialized RX2, .code yX2_stitch cX2_stitch 4 (some .int), .methodLink RX2 26 yX2_hemOf, .instanceMethod yX2_hemOf, .selects RX2 yX2_hemOf yX2_hemOf, .code yX2_hemOf cX2_hemOf 2 (some (.object "HemSuffixes$Hem")), .classLink RX2 92 "java/lang/IndexOutOfBoundsException", .initialized "java/lang/IndexOutOfBoundsException", .fieldLink RX2 10 "HemSuffixes" "hemZero" "LHemSuffixes$Hem;", .fieldLink RX2 16 "HemSuffixes" "hemOne" "LHemSuffixes$Hem;", .methodLink RX2 74 yX2_requirePlace, .static yX2_requirePlace, .code yX2_requirePlace cX2_requirePlace 2 none, .methodLink RX2 78 yX1_at, .instanceMethod yX1_at, .selects RX1 yX1_at yX1_at, .initialized RX1, .code yX1_at cX1_at 2 (some .int), .fieldLink RX1 15 "HemSuffixes$Stitches" "length" "I", .fieldLink RX1 9 "HemSuffixes$Stitches" "kinds" "[I"] ++ wsX00 ++ wsX20 ++ wsX10 ++ (vx_atS RX2 96 "java/lang/IndexOutOfBoundsException" ["java/lang/RuntimeException", "java/lang/Exception"]).filter goodWord)
def wsL_count_r1 : List Cond := [Cond.classLink RL 13 "java/lang/IndexOutOfBoundsException", Cond.methodLink RL 32 yX2_count, Cond.instanceMethod yX2_count, Cond.selects RX2 yX2_count yX2_count, Cond.initialized RX2, Cond.code yX2_count cX2_count 2 (some .int), Cond.classLink RX2 92 "java/lang/IndexOutOfBoundsException", Cond.initialized "java/lang/IndexOutOfBoundsException", Cond.fieldLink RX2 10 "HemSuffixes" "hemZero" "LHemSuffixes$Hem;", Cond.fieldLink RX2 16 "HemSuffixes" "hemOne" "LHemSuffixes$Hem;", Cond.fieldLink RX2 22 "HemSuffixes" "sample" "LHemSuffixes$Stitches;", Cond.methodLink RX2 82 yX0_differentRows, Cond.instanceMethod yX0_differentRows, Cond.selects RX0 yX0_differentRows yX0_differentRows, Cond.initialized RX0, Cond.code yX0_differentRows cX0_differentRows 3 (some .int), Cond.fieldLink RX0 12 "HemSuffixes$Hem" "stitches" "LHemSuffixes$Stitches;", Cond.methodLink RX0 57 yX0_rowsFirstAt, Cond.instanceMethod yX0_rowsFirstAt, Cond.selects RX0 yX0_rowsFirstAt yX0_rowsFirstAt, Cond.code yX0_rowsFirstAt cX0_rowsFirstAt 2 (some .int), Cond.methodLink RX0 48 yX0_placeAt, Cond.instanceMethod yX0_placeAt, Cond.selects RX0 yX0_placeAt yX0_placeAt]
def wsL_count_r2 : List Cond := [Cond.code yX0_placeAt cX0_placeAt 2 (some .int), Cond.fieldLink RX0 18 "HemSuffixes$Hem" "placesInOrder" "[I", Cond.methodLink RX0 54 yX0_sharedWithNext, Cond.instanceMethod yX0_sharedWithNext, Cond.selects RX0 yX0_sharedWithNext yX0_sharedWithNext, Cond.code yX0_sharedWithNext cX0_sharedWithNext 4 (some .int), Cond.methodLink RX0 51 yX1_sharedWith, Cond.instanceMethod yX1_sharedWith, Cond.selects RX1 yX1_sharedWith yX1_sharedWith, Cond.initialized RX1, Cond.code yX1_sharedWith cX1_sharedWith 6 (some .int), Cond.fieldLink RX1 15 "HemSuffixes$Stitches" "length" "I", Cond.methodLink RX1 19 Lib.Math.min.name, Cond.static Lib.Math.min.name, Cond.initialized "java/lang/Math", Cond.code Lib.Math.min.name Lib.Math.min.code 2 (some .int), Cond.methodLink RX1 25 yX1_at, Cond.instanceMethod yX1_at, Cond.selects RX1 yX1_at yX1_at, Cond.code yX1_at cX1_at 2 (some .int), Cond.fieldLink RX1 9 "HemSuffixes$Stitches" "kinds" "[I", Cond.methodLink RX2 86 yX2_seamPlace, Cond.instanceMethod yX2_seamPlace, Cond.selects RX2 yX2_seamPlace yX2_seamPlace]
def wsL_count_r3 : List Cond := [Cond.code yX2_seamPlace cX2_seamPlace 6 (some .int), Cond.methodLink RX2 97 yX0_placeAt, Cond.methodLink RX2 89 yX2_seamLengthFrom, Cond.instanceMethod yX2_seamLengthFrom, Cond.selects RX2 yX2_seamLengthFrom yX2_seamLengthFrom, Cond.code yX2_seamLengthFrom cX2_seamLengthFrom 2 (some .int), Cond.methodLink RX2 185 yX1_mostSharedWith, Cond.instanceMethod yX1_mostSharedWith, Cond.selects RX1 yX1_mostSharedWith yX1_mostSharedWith, Cond.code yX1_mostSharedWith cX1_mostSharedWith 5 (some .int), Cond.methodLink RX1 33 Lib.Math.max.name, Cond.static Lib.Math.max.name, Cond.code Lib.Math.max.name Lib.Math.max.code 2 (some .int), Cond.methodLink RX1 29 yX1_sharedWith]
def wsL_count : List Cond := .codeWith yL_count cL_count 4 (some .int) [(0, 9, 12, 13)] :: ((wsL_count_r1 ++ (wsL_count_r2 ++ wsL_count_r3)) ++ wsX20 ++ wsX00 ++ wsX10 ++ (vx_atS RX2 96 "java/lang/IndexOutOfBoundsException" ["java/lang/RuntimeException", "java/lang/Exception"]).filter goodWord)
def wsL_end : List Cond := .codeWith yL_end cL_end 5 (some .int) [(0, 10, 13, 13)] :: ([.classLink RL 13 "java/lang/IndexOutOfBoundsException", .methodLink RL 35 yX2_end, .instanceMethod yX2_end, .selects RX2 yX2_end yX2_end, .initialized RX2, .code yX2_end cX2_end 4 (some .int), .methodLink RX2 26 yX2_hemOf, .instanceMethod yX2_hemOf, .selects RX2 yX2_hemOf yX2_hemOf, .code yX2_hemOf cX2_hemOf 2 (some (.object "HemSuffixes$Hem")), .classLink RX2 92 "java/lang/IndexOutOfBoundsException", .initialized "java/lang/IndexOutOfBoundsException", .fieldLink RX2 10 "HemSuffixes" "hemZero" "LHemSuffixes$Hem;", .fieldLink RX2 16 "HemSuffixes" "hemOne" "LHemSuffixes$Hem;", .methodLink RX2 74 yX2_requirePlace, .static yX2_requirePlace, .code yX2_requirePlace cX2_requirePlace 2 none, .methodLink RX2 97 yX0_placeAt, .instanceMethod yX0_placeAt, .selects RX0 yX0_placeAt yX0_placeAt, .initialized RX0, .code yX0_placeAt cX0_placeAt 2 (some .int), .fieldLink RX0 12 "HemSuffixes$Hem" "stitches" "LHemSuffixes$Stitches;", .fieldLink RX0 18 "HemSuffixes$Hem" "placesInOrder" "[I"] ++ wsX00 ++ wsX20 ++ wsX10 ++ (vx_atS RX2 96 "java/lang/IndexOutOfBoundsException" ["java/lang/RuntimeException", "java/lang/Exception"]).filter goodWord)
def wsL_rank_r1 : List Cond := [Cond.classLink RL 13 "java/lang/IndexOutOfBoundsException", Cond.methodLink RL 38 yX2_rank, Cond.instanceMethod yX2_rank, Cond.selects RX2 yX2_rank yX2_rank, Cond.initialized RX2, Cond.code yX2_rank cX2_rank 4 (some .int), Cond.methodLink RX2 26 yX2_hemOf, Cond.instanceMethod yX2_hemOf, Cond.selects RX2 yX2_hemOf yX2_hemOf, Cond.code yX2_hemOf cX2_hemOf 2 (some (.object "HemSuffixes$Hem")), Cond.classLink RX2 92 "java/lang/IndexOutOfBoundsException", Cond.initialized "java/lang/IndexOutOfBoundsException", Cond.fieldLink RX2 10 "HemSuffixes" "hemZero" "LHemSuffixes$Hem;", Cond.fieldLink RX2 16 "HemSuffixes" "hemOne" "LHemSuffixes$Hem;", Cond.methodLink RX2 74 yX2_requirePlace, Cond.static yX2_requirePlace, Cond.code yX2_requirePlace cX2_requirePlace 2 none, Cond.methodLink RX2 100 yX0_rankOf, Cond.instanceMethod yX0_rankOf, Cond.selects RX0 yX0_rankOf yX0_rankOf, Cond.initialized RX0, Cond.code yX0_rankOf cX0_rankOf 3 (some .int), Cond.fieldLink RX0 12 "HemSuffixes$Hem" "stitches" "LHemSuffixes$Stitches;", Cond.methodLink RX0 48 yX0_placeAt]
def wsL_rank_r2 : List Cond := [Cond.instanceMethod yX0_placeAt, Cond.selects RX0 yX0_placeAt yX0_placeAt, Cond.code yX0_placeAt cX0_placeAt 2 (some .int), Cond.fieldLink RX0 18 "HemSuffixes$Hem" "placesInOrder" "[I"]
def wsL_rank : List Cond := .codeWith yL_rank cL_rank 5 (some .int) [(0, 10, 13, 13)] :: ((wsL_rank_r1 ++ wsL_rank_r2) ++ wsX00 ++ wsX20 ++ wsX10 ++ (vx_atS RX2 96 "java/lang/IndexOutOfBoundsException" ["java/lang/RuntimeException", "java/lang/Exception"]).filter goodWord)
def wsL_common_r1 : List Cond := [Cond.classLink RL 13 "java/lang/IndexOutOfBoundsException", Cond.methodLink RL 41 yX2_common, Cond.instanceMethod yX2_common, Cond.selects RX2 yX2_common yX2_common, Cond.initialized RX2, Cond.code yX2_common cX2_common 5 (some .int), Cond.methodLink RX2 26 yX2_hemOf, Cond.instanceMethod yX2_hemOf, Cond.selects RX2 yX2_hemOf yX2_hemOf, Cond.code yX2_hemOf cX2_hemOf 2 (some (.object "HemSuffixes$Hem")), Cond.classLink RX2 92 "java/lang/IndexOutOfBoundsException", Cond.initialized "java/lang/IndexOutOfBoundsException", Cond.fieldLink RX2 10 "HemSuffixes" "hemZero" "LHemSuffixes$Hem;", Cond.fieldLink RX2 16 "HemSuffixes" "hemOne" "LHemSuffixes$Hem;", Cond.methodLink RX2 74 yX2_requirePlace, Cond.static yX2_requirePlace, Cond.code yX2_requirePlace cX2_requirePlace 2 none, Cond.methodLink RX2 103 yX1_sharedWith, Cond.instanceMethod yX1_sharedWith, Cond.selects RX1 yX1_sharedWith yX1_sharedWith, Cond.initialized RX1, Cond.code yX1_sharedWith cX1_sharedWith 6 (some .int), Cond.fieldLink RX1 15 "HemSuffixes$Stitches" "length" "I", Cond.methodLink RX1 19 Lib.Math.min.name]
def wsL_common_r2 : List Cond := [Cond.static Lib.Math.min.name, Cond.initialized "java/lang/Math", Cond.code Lib.Math.min.name Lib.Math.min.code 2 (some .int), Cond.methodLink RX1 25 yX1_at, Cond.instanceMethod yX1_at, Cond.selects RX1 yX1_at yX1_at, Cond.code yX1_at cX1_at 2 (some .int), Cond.fieldLink RX1 9 "HemSuffixes$Stitches" "kinds" "[I"]
def wsL_common : List Cond := .codeWith yL_common cL_common 6 (some .int) [(0, 12, 15, 13)] :: ((wsL_common_r1 ++ wsL_common_r2) ++ wsX00 ++ wsX20 ++ wsX10 ++ (vx_atS RX2 96 "java/lang/IndexOutOfBoundsException" ["java/lang/RuntimeException", "java/lang/Exception"]).filter goodWord)
def wsL_against_r1 : List Cond := [Cond.classLink RL 13 "java/lang/IndexOutOfBoundsException", Cond.methodLink RL 45 yX2_against, Cond.instanceMethod yX2_against, Cond.selects RX2 yX2_against yX2_against, Cond.initialized RX2, Cond.code yX2_against cX2_against 3 (some .int), Cond.fieldLink RX2 10 "HemSuffixes" "hemZero" "LHemSuffixes$Hem;", Cond.fieldLink RX2 16 "HemSuffixes" "hemOne" "LHemSuffixes$Hem;", Cond.methodLink RX2 74 yX2_requirePlace, Cond.static yX2_requirePlace, Cond.code yX2_requirePlace cX2_requirePlace 2 none, Cond.classLink RX2 92 "java/lang/IndexOutOfBoundsException", Cond.initialized "java/lang/IndexOutOfBoundsException", Cond.methodLink RX2 107 yX1_difference, Cond.instanceMethod yX1_difference, Cond.selects RX1 yX1_difference yX1_difference, Cond.initialized RX1, Cond.code yX1_difference cX1_difference 7 (some .int), Cond.methodLink RX1 29 yX1_sharedWith, Cond.instanceMethod yX1_sharedWith, Cond.selects RX1 yX1_sharedWith yX1_sharedWith, Cond.code yX1_sharedWith cX1_sharedWith 6 (some .int), Cond.fieldLink RX1 15 "HemSuffixes$Stitches" "length" "I", Cond.methodLink RX1 19 Lib.Math.min.name]
def wsL_against_r2 : List Cond := [Cond.static Lib.Math.min.name, Cond.initialized "java/lang/Math", Cond.code Lib.Math.min.name Lib.Math.min.code 2 (some .int), Cond.methodLink RX1 25 yX1_at, Cond.instanceMethod yX1_at, Cond.selects RX1 yX1_at yX1_at, Cond.code yX1_at cX1_at 2 (some .int), Cond.fieldLink RX1 9 "HemSuffixes$Stitches" "kinds" "[I"]
def wsL_against : List Cond := .codeWith yL_against cL_against 5 (some .int) [(0, 10, 13, 13)] :: ((wsL_against_r1 ++ wsL_against_r2) ++ wsX20 ++ wsX00 ++ wsX10 ++ (vx_atS RX2 96 "java/lang/IndexOutOfBoundsException" ["java/lang/RuntimeException", "java/lang/Exception"]).filter goodWord)
def wsL_repeat_r1 : List Cond := [Cond.classLink RL 13 "java/lang/IndexOutOfBoundsException", Cond.methodLink RL 48 yX2_repeat, Cond.instanceMethod yX2_repeat, Cond.selects RX2 yX2_repeat yX2_repeat, Cond.initialized RX2, Cond.code yX2_repeat cX2_repeat 7 (some .int), Cond.classLink RX2 92 "java/lang/IndexOutOfBoundsException", Cond.initialized "java/lang/IndexOutOfBoundsException", Cond.methodLink RX2 26 yX2_hemOf, Cond.instanceMethod yX2_hemOf, Cond.selects RX2 yX2_hemOf yX2_hemOf, Cond.code yX2_hemOf cX2_hemOf 2 (some (.object "HemSuffixes$Hem")), Cond.fieldLink RX2 10 "HemSuffixes" "hemZero" "LHemSuffixes$Hem;", Cond.fieldLink RX2 16 "HemSuffixes" "hemOne" "LHemSuffixes$Hem;", Cond.methodLink RX2 112 yX0_repeatRank, Cond.instanceMethod yX0_repeatRank, Cond.selects RX0 yX0_repeatRank yX0_repeatRank, Cond.initialized RX0, Cond.code yX0_repeatRank cX0_repeatRank 5 (some .int), Cond.fieldLink RX0 12 "HemSuffixes$Hem" "stitches" "LHemSuffixes$Stitches;", Cond.methodLink RX0 54 yX0_sharedWithNext, Cond.instanceMethod yX0_sharedWithNext, Cond.selects RX0 yX0_sharedWithNext yX0_sharedWithNext, Cond.code yX0_sharedWithNext cX0_sharedWithNext 4 (some .int)]
def wsL_repeat_r2 : List Cond := [Cond.methodLink RX0 48 yX0_placeAt, Cond.instanceMethod yX0_placeAt, Cond.selects RX0 yX0_placeAt yX0_placeAt, Cond.code yX0_placeAt cX0_placeAt 2 (some .int), Cond.fieldLink RX0 18 "HemSuffixes$Hem" "placesInOrder" "[I", Cond.methodLink RX0 51 yX1_sharedWith, Cond.instanceMethod yX1_sharedWith, Cond.selects RX1 yX1_sharedWith yX1_sharedWith, Cond.initialized RX1, Cond.code yX1_sharedWith cX1_sharedWith 6 (some .int), Cond.fieldLink RX1 15 "HemSuffixes$Stitches" "length" "I", Cond.methodLink RX1 19 Lib.Math.min.name, Cond.static Lib.Math.min.name, Cond.initialized "java/lang/Math", Cond.code Lib.Math.min.name Lib.Math.min.code 2 (some .int), Cond.methodLink RX1 25 yX1_at, Cond.instanceMethod yX1_at, Cond.selects RX1 yX1_at yX1_at, Cond.code yX1_at cX1_at 2 (some .int), Cond.fieldLink RX1 9 "HemSuffixes$Stitches" "kinds" "[I", Cond.methodLink RX2 115 yX0_sharedWithNext, Cond.methodLink RX2 97 yX0_placeAt, Cond.methodLink RX2 118 yX1_firstPlaceOf, Cond.instanceMethod yX1_firstPlaceOf]
def wsL_repeat_r3 : List Cond := [Cond.selects RX1 yX1_firstPlaceOf yX1_firstPlaceOf, Cond.code yX1_firstPlaceOf cX1_firstPlaceOf 5 (some .int), Cond.methodLink RX1 36 yX1_standsAt, Cond.instanceMethod yX1_standsAt, Cond.selects RX1 yX1_standsAt yX1_standsAt, Cond.code yX1_standsAt cX1_standsAt 5 (some .boolean), Cond.methodLink RX1 29 yX1_sharedWith, Cond.methodLink RX2 122 yX1_placesOf, Cond.instanceMethod yX1_placesOf, Cond.selects RX1 yX1_placesOf yX1_placesOf, Cond.code yX1_placesOf cX1_placesOf 6 (some .int)]
def wsL_repeat : List Cond := .codeWith yL_repeat cL_repeat 5 (some .int) [(0, 10, 13, 13)] :: ((wsL_repeat_r1 ++ (wsL_repeat_r2 ++ wsL_repeat_r3)) ++ wsX00 ++ wsX20 ++ wsX10 ++ (vx_atS RX2 96 "java/lang/IndexOutOfBoundsException" ["java/lang/RuntimeException", "java/lang/Exception"]).filter goodWord)
def wsL_row_r1 : List Cond := [Cond.classLink RL 13 "java/lang/IndexOutOfBoundsException", Cond.methodLink RL 51 yX2_row, Cond.instanceMethod yX2_row, Cond.selects RX2 yX2_row yX2_row, Cond.initialized RX2, Cond.code yX2_row cX2_row 4 (some .int), Cond.classLink RX2 92 "java/lang/IndexOutOfBoundsException", Cond.initialized "java/lang/IndexOutOfBoundsException", Cond.methodLink RX2 26 yX2_hemOf, Cond.instanceMethod yX2_hemOf, Cond.selects RX2 yX2_hemOf yX2_hemOf, Cond.code yX2_hemOf cX2_hemOf 2 (some (.object "HemSuffixes$Hem")), Cond.fieldLink RX2 10 "HemSuffixes" "hemZero" "LHemSuffixes$Hem;", Cond.fieldLink RX2 16 "HemSuffixes" "hemOne" "LHemSuffixes$Hem;", Cond.methodLink RX2 82 yX0_differentRows, Cond.instanceMethod yX0_differentRows, Cond.selects RX0 yX0_differentRows yX0_differentRows, Cond.initialized RX0, Cond.code yX0_differentRows cX0_differentRows 3 (some .int), Cond.fieldLink RX0 12 "HemSuffixes$Hem" "stitches" "LHemSuffixes$Stitches;", Cond.methodLink RX0 57 yX0_rowsFirstAt, Cond.instanceMethod yX0_rowsFirstAt, Cond.selects RX0 yX0_rowsFirstAt yX0_rowsFirstAt, Cond.code yX0_rowsFirstAt cX0_rowsFirstAt 2 (some .int)]
def wsL_row_r2 : List Cond := [Cond.methodLink RX0 48 yX0_placeAt, Cond.instanceMethod yX0_placeAt, Cond.selects RX0 yX0_placeAt yX0_placeAt, Cond.code yX0_placeAt cX0_placeAt 2 (some .int), Cond.fieldLink RX0 18 "HemSuffixes$Hem" "placesInOrder" "[I", Cond.methodLink RX0 54 yX0_sharedWithNext, Cond.instanceMethod yX0_sharedWithNext, Cond.selects RX0 yX0_sharedWithNext yX0_sharedWithNext, Cond.code yX0_sharedWithNext cX0_sharedWithNext 4 (some .int), Cond.methodLink RX0 51 yX1_sharedWith, Cond.instanceMethod yX1_sharedWith, Cond.selects RX1 yX1_sharedWith yX1_sharedWith, Cond.initialized RX1, Cond.code yX1_sharedWith cX1_sharedWith 6 (some .int), Cond.fieldLink RX1 15 "HemSuffixes$Stitches" "length" "I", Cond.methodLink RX1 19 Lib.Math.min.name, Cond.static Lib.Math.min.name, Cond.initialized "java/lang/Math", Cond.code Lib.Math.min.name Lib.Math.min.code 2 (some .int), Cond.methodLink RX1 25 yX1_at, Cond.instanceMethod yX1_at, Cond.selects RX1 yX1_at yX1_at, Cond.code yX1_at cX1_at 2 (some .int), Cond.fieldLink RX1 9 "HemSuffixes$Stitches" "kinds" "[I"]
def wsL_row_r3 : List Cond := [Cond.methodLink RX2 127 yX0_rowOfNumber, Cond.instanceMethod yX0_rowOfNumber, Cond.selects RX0 yX0_rowOfNumber yX0_rowOfNumber, Cond.code yX0_rowOfNumber cX0_rowOfNumber 6 (some .int), Cond.methodLink RX0 60 yX1_firstPlaceOf, Cond.instanceMethod yX1_firstPlaceOf, Cond.selects RX1 yX1_firstPlaceOf yX1_firstPlaceOf, Cond.code yX1_firstPlaceOf cX1_firstPlaceOf 5 (some .int), Cond.methodLink RX1 36 yX1_standsAt, Cond.instanceMethod yX1_standsAt, Cond.selects RX1 yX1_standsAt yX1_standsAt, Cond.code yX1_standsAt cX1_standsAt 5 (some .boolean), Cond.methodLink RX1 29 yX1_sharedWith]
def wsL_row : List Cond := .codeWith yL_row cL_row 5 (some .int) [(0, 10, 13, 13)] :: ((wsL_row_r1 ++ (wsL_row_r2 ++ wsL_row_r3)) ++ wsX20 ++ wsX00 ++ wsX10 ++ (vx_atS RX2 96 "java/lang/IndexOutOfBoundsException" ["java/lang/RuntimeException", "java/lang/Exception"]).filter goodWord)
def wsL_found_r1 : List Cond := [Cond.classLink RL 13 "java/lang/IndexOutOfBoundsException", Cond.methodLink RL 54 yX2_found, Cond.instanceMethod yX2_found, Cond.selects RX2 yX2_found yX2_found, Cond.initialized RX2, Cond.code yX2_found cX2_found 2 (some .int), Cond.fieldLink RX2 22 "HemSuffixes" "sample" "LHemSuffixes$Stitches;", Cond.methodLink RX2 26 yX2_hemOf, Cond.instanceMethod yX2_hemOf, Cond.selects RX2 yX2_hemOf yX2_hemOf, Cond.code yX2_hemOf cX2_hemOf 2 (some (.object "HemSuffixes$Hem")), Cond.classLink RX2 92 "java/lang/IndexOutOfBoundsException", Cond.initialized "java/lang/IndexOutOfBoundsException", Cond.fieldLink RX2 10 "HemSuffixes" "hemZero" "LHemSuffixes$Hem;", Cond.fieldLink RX2 16 "HemSuffixes" "hemOne" "LHemSuffixes$Hem;", Cond.methodLink RX2 122 yX1_placesOf, Cond.instanceMethod yX1_placesOf, Cond.selects RX1 yX1_placesOf yX1_placesOf, Cond.initialized RX1, Cond.code yX1_placesOf cX1_placesOf 6 (some .int), Cond.fieldLink RX1 15 "HemSuffixes$Stitches" "length" "I", Cond.methodLink RX1 36 yX1_standsAt, Cond.instanceMethod yX1_standsAt, Cond.selects RX1 yX1_standsAt yX1_standsAt]
def wsL_found_r2 : List Cond := [Cond.code yX1_standsAt cX1_standsAt 5 (some .boolean), Cond.methodLink RX1 29 yX1_sharedWith, Cond.instanceMethod yX1_sharedWith, Cond.selects RX1 yX1_sharedWith yX1_sharedWith, Cond.code yX1_sharedWith cX1_sharedWith 6 (some .int), Cond.methodLink RX1 19 Lib.Math.min.name, Cond.static Lib.Math.min.name, Cond.initialized "java/lang/Math", Cond.code Lib.Math.min.name Lib.Math.min.code 2 (some .int), Cond.methodLink RX1 25 yX1_at, Cond.instanceMethod yX1_at, Cond.selects RX1 yX1_at yX1_at, Cond.code yX1_at cX1_at 2 (some .int), Cond.fieldLink RX1 9 "HemSuffixes$Stitches" "kinds" "[I"]
def wsL_found : List Cond := .codeWith yL_found cL_found 4 (some .int) [(0, 9, 12, 13)] :: ((wsL_found_r1 ++ wsL_found_r2) ++ wsX00 ++ wsX20 ++ wsX10 ++ (vx_atS RX2 96 "java/lang/IndexOutOfBoundsException" ["java/lang/RuntimeException", "java/lang/Exception"]).filter goodWord)
def wsL_first_r1 : List Cond := [Cond.classLink RL 13 "java/lang/IndexOutOfBoundsException", Cond.methodLink RL 57 yX2_first, Cond.instanceMethod yX2_first, Cond.selects RX2 yX2_first yX2_first, Cond.initialized RX2, Cond.code yX2_first cX2_first 2 (some .int), Cond.fieldLink RX2 22 "HemSuffixes" "sample" "LHemSuffixes$Stitches;", Cond.methodLink RX2 26 yX2_hemOf, Cond.instanceMethod yX2_hemOf, Cond.selects RX2 yX2_hemOf yX2_hemOf, Cond.code yX2_hemOf cX2_hemOf 2 (some (.object "HemSuffixes$Hem")), Cond.classLink RX2 92 "java/lang/IndexOutOfBoundsException", Cond.initialized "java/lang/IndexOutOfBoundsException", Cond.fieldLink RX2 10 "HemSuffixes" "hemZero" "LHemSuffixes$Hem;", Cond.fieldLink RX2 16 "HemSuffixes" "hemOne" "LHemSuffixes$Hem;", Cond.methodLink RX2 118 yX1_firstPlaceOf, Cond.instanceMethod yX1_firstPlaceOf, Cond.selects RX1 yX1_firstPlaceOf yX1_firstPlaceOf, Cond.initialized RX1, Cond.code yX1_firstPlaceOf cX1_firstPlaceOf 5 (some .int), Cond.fieldLink RX1 15 "HemSuffixes$Stitches" "length" "I", Cond.methodLink RX1 36 yX1_standsAt, Cond.instanceMethod yX1_standsAt, Cond.selects RX1 yX1_standsAt yX1_standsAt]
def wsL_first_r2 : List Cond := [Cond.code yX1_standsAt cX1_standsAt 5 (some .boolean), Cond.methodLink RX1 29 yX1_sharedWith, Cond.instanceMethod yX1_sharedWith, Cond.selects RX1 yX1_sharedWith yX1_sharedWith, Cond.code yX1_sharedWith cX1_sharedWith 6 (some .int), Cond.methodLink RX1 19 Lib.Math.min.name, Cond.static Lib.Math.min.name, Cond.initialized "java/lang/Math", Cond.code Lib.Math.min.name Lib.Math.min.code 2 (some .int), Cond.methodLink RX1 25 yX1_at, Cond.instanceMethod yX1_at, Cond.selects RX1 yX1_at yX1_at, Cond.code yX1_at cX1_at 2 (some .int), Cond.fieldLink RX1 9 "HemSuffixes$Stitches" "kinds" "[I"]
def wsL_first : List Cond := .codeWith yL_first cL_first 4 (some .int) [(0, 9, 12, 13)] :: ((wsL_first_r1 ++ wsL_first_r2) ++ wsX00 ++ wsX20 ++ wsX10 ++ (vx_atS RX2 96 "java/lang/IndexOutOfBoundsException" ["java/lang/RuntimeException", "java/lang/Exception"]).filter goodWord)
def wsL_period_r1 : List Cond := [Cond.classLink RL 13 "java/lang/IndexOutOfBoundsException", Cond.methodLink RL 60 yX2_period, Cond.instanceMethod yX2_period, Cond.selects RX2 yX2_period yX2_period, Cond.initialized RX2, Cond.code yX2_period cX2_period 2 (some .int), Cond.methodLink RX2 26 yX2_hemOf, Cond.instanceMethod yX2_hemOf, Cond.selects RX2 yX2_hemOf yX2_hemOf, Cond.code yX2_hemOf cX2_hemOf 2 (some (.object "HemSuffixes$Hem")), Cond.classLink RX2 92 "java/lang/IndexOutOfBoundsException", Cond.initialized "java/lang/IndexOutOfBoundsException", Cond.fieldLink RX2 10 "HemSuffixes" "hemZero" "LHemSuffixes$Hem;", Cond.fieldLink RX2 16 "HemSuffixes" "hemOne" "LHemSuffixes$Hem;", Cond.methodLink RX2 130 yX1_leastPeriod, Cond.instanceMethod yX1_leastPeriod, Cond.selects RX1 yX1_leastPeriod yX1_leastPeriod, Cond.initialized RX1, Cond.code yX1_leastPeriod cX1_leastPeriod 2 (some .int), Cond.fieldLink RX1 15 "HemSuffixes$Stitches" "length" "I", Cond.methodLink RX1 29 yX1_sharedWith, Cond.instanceMethod yX1_sharedWith, Cond.selects RX1 yX1_sharedWith yX1_sharedWith, Cond.code yX1_sharedWith cX1_sharedWith 6 (some .int)]
def wsL_period_r2 : List Cond := [Cond.methodLink RX1 19 Lib.Math.min.name, Cond.static Lib.Math.min.name, Cond.initialized "java/lang/Math", Cond.code Lib.Math.min.name Lib.Math.min.code 2 (some .int), Cond.methodLink RX1 25 yX1_at, Cond.instanceMethod yX1_at, Cond.selects RX1 yX1_at yX1_at, Cond.code yX1_at cX1_at 2 (some .int), Cond.fieldLink RX1 9 "HemSuffixes$Stitches" "kinds" "[I"]
def wsL_period : List Cond := .codeWith yL_period cL_period 4 (some .int) [(0, 9, 12, 13)] :: ((wsL_period_r1 ++ wsL_period_r2) ++ wsX00 ++ wsX20 ++ wsX10 ++ (vx_atS RX2 96 "java/lang/IndexOutOfBoundsException" ["java/lang/RuntimeException", "java/lang/Exception"]).filter goodWord)
def wsL_turned_r1 : List Cond := [Cond.classLink RL 13 "java/lang/IndexOutOfBoundsException", Cond.methodLink RL 63 yX2_turned, Cond.instanceMethod yX2_turned, Cond.selects RX2 yX2_turned yX2_turned, Cond.initialized RX2, Cond.code yX2_turned cX2_turned 2 (some .int), Cond.methodLink RX2 26 yX2_hemOf, Cond.instanceMethod yX2_hemOf, Cond.selects RX2 yX2_hemOf yX2_hemOf, Cond.code yX2_hemOf cX2_hemOf 2 (some (.object "HemSuffixes$Hem")), Cond.classLink RX2 92 "java/lang/IndexOutOfBoundsException", Cond.initialized "java/lang/IndexOutOfBoundsException", Cond.fieldLink RX2 10 "HemSuffixes" "hemZero" "LHemSuffixes$Hem;", Cond.fieldLink RX2 16 "HemSuffixes" "hemOne" "LHemSuffixes$Hem;", Cond.methodLink RX2 133 yX1_bestBeginning, Cond.instanceMethod yX1_bestBeginning, Cond.selects RX1 yX1_bestBeginning yX1_bestBeginning, Cond.initialized RX1, Cond.code yX1_bestBeginning cX1_bestBeginning 3 (some .int), Cond.fieldLink RX1 15 "HemSuffixes$Stitches" "length" "I", Cond.methodLink RX1 40 yX1_turnsToLess, Cond.instanceMethod yX1_turnsToLess, Cond.selects RX1 yX1_turnsToLess yX1_turnsToLess, Cond.code yX1_turnsToLess cX1_turnsToLess 6 (some .boolean)]
def wsL_turned_r2 : List Cond := [Cond.methodLink RX1 44 yX1_allAround, Cond.instanceMethod yX1_allAround, Cond.selects RX1 yX1_allAround yX1_allAround, Cond.code yX1_allAround cX1_allAround 2 (some .int), Cond.methodLink RX1 25 yX1_at, Cond.instanceMethod yX1_at, Cond.selects RX1 yX1_at yX1_at, Cond.code yX1_at cX1_at 2 (some .int), Cond.fieldLink RX1 9 "HemSuffixes$Stitches" "kinds" "[I"]
def wsL_turned : List Cond := .codeWith yL_turned cL_turned 4 (some .int) [(0, 9, 12, 13)] :: ((wsL_turned_r1 ++ wsL_turned_r2) ++ wsX00 ++ wsX20 ++ wsX10 ++ (vx_atS RX2 96 "java/lang/IndexOutOfBoundsException" ["java/lang/RuntimeException", "java/lang/Exception"]).filter goodWord)
def wsL_seam_r1 : List Cond := [Cond.classLink RL 13 "java/lang/IndexOutOfBoundsException", Cond.methodLink RL 66 yX2_seam, Cond.instanceMethod yX2_seam, Cond.selects RX2 yX2_seam yX2_seam, Cond.initialized RX2, Cond.code yX2_seam cX2_seam 5 (some .int), Cond.classLink RX2 92 "java/lang/IndexOutOfBoundsException", Cond.initialized "java/lang/IndexOutOfBoundsException", Cond.fieldLink RX2 10 "HemSuffixes" "hemZero" "LHemSuffixes$Hem;", Cond.fieldLink RX2 16 "HemSuffixes" "hemOne" "LHemSuffixes$Hem;", Cond.methodLink RX2 86 yX2_seamPlace, Cond.instanceMethod yX2_seamPlace, Cond.selects RX2 yX2_seamPlace yX2_seamPlace, Cond.code yX2_seamPlace cX2_seamPlace 6 (some .int), Cond.methodLink RX2 97 yX0_placeAt, Cond.instanceMethod yX0_placeAt, Cond.selects RX0 yX0_placeAt yX0_placeAt, Cond.initialized RX0, Cond.code yX0_placeAt cX0_placeAt 2 (some .int), Cond.fieldLink RX0 12 "HemSuffixes$Hem" "stitches" "LHemSuffixes$Stitches;", Cond.fieldLink RX0 18 "HemSuffixes$Hem" "placesInOrder" "[I", Cond.methodLink RX2 89 yX2_seamLengthFrom, Cond.instanceMethod yX2_seamLengthFrom, Cond.selects RX2 yX2_seamLengthFrom yX2_seamLengthFrom]
def wsL_seam_r2 : List Cond := [Cond.code yX2_seamLengthFrom cX2_seamLengthFrom 2 (some .int), Cond.methodLink RX2 185 yX1_mostSharedWith, Cond.instanceMethod yX1_mostSharedWith, Cond.selects RX1 yX1_mostSharedWith yX1_mostSharedWith, Cond.initialized RX1, Cond.code yX1_mostSharedWith cX1_mostSharedWith 5 (some .int), Cond.fieldLink RX1 15 "HemSuffixes$Stitches" "length" "I", Cond.methodLink RX1 33 Lib.Math.max.name, Cond.static Lib.Math.max.name, Cond.initialized "java/lang/Math", Cond.code Lib.Math.max.name Lib.Math.max.code 2 (some .int), Cond.methodLink RX1 29 yX1_sharedWith, Cond.instanceMethod yX1_sharedWith, Cond.selects RX1 yX1_sharedWith yX1_sharedWith, Cond.code yX1_sharedWith cX1_sharedWith 6 (some .int), Cond.methodLink RX1 19 Lib.Math.min.name, Cond.static Lib.Math.min.name, Cond.code Lib.Math.min.name Lib.Math.min.code 2 (some .int), Cond.methodLink RX1 25 yX1_at, Cond.instanceMethod yX1_at, Cond.selects RX1 yX1_at yX1_at, Cond.code yX1_at cX1_at 2 (some .int), Cond.fieldLink RX1 9 "HemSuffixes$Stitches" "kinds" "[I", Cond.methodLink RX2 118 yX1_firstPlaceOf]
def wsL_seam_r3 : List Cond := [Cond.instanceMethod yX1_firstPlaceOf, Cond.selects RX1 yX1_firstPlaceOf yX1_firstPlaceOf, Cond.code yX1_firstPlaceOf cX1_firstPlaceOf 5 (some .int), Cond.methodLink RX1 36 yX1_standsAt, Cond.instanceMethod yX1_standsAt, Cond.selects RX1 yX1_standsAt yX1_standsAt, Cond.code yX1_standsAt cX1_standsAt 5 (some .boolean)]
def wsL_seam : List Cond := .codeWith yL_seam cL_seam 4 (some .int) [(0, 9, 12, 13)] :: ((wsL_seam_r1 ++ (wsL_seam_r2 ++ wsL_seam_r3)) ++ wsX20 ++ wsX00 ++ wsX10 ++ (vx_atS RX2 96 "java/lang/IndexOutOfBoundsException" ["java/lang/RuntimeException", "java/lang/Exception"]).filter goodWord)
def wsL_would_r1 : List Cond := [Cond.classLink RL 13 "java/lang/IndexOutOfBoundsException", Cond.classLink RL 15 "java/lang/IllegalArgumentException", Cond.methodLink RL 69 yX2_would, Cond.instanceMethod yX2_would, Cond.selects RX2 yX2_would yX2_would, Cond.initialized RX2, Cond.code yX2_would cX2_would 4 (some .int), Cond.methodLink RX2 26 yX2_hemOf, Cond.instanceMethod yX2_hemOf, Cond.selects RX2 yX2_hemOf yX2_hemOf, Cond.code yX2_hemOf cX2_hemOf 2 (some (.object "HemSuffixes$Hem")), Cond.classLink RX2 92 "java/lang/IndexOutOfBoundsException", Cond.initialized "java/lang/IndexOutOfBoundsException", Cond.fieldLink RX2 10 "HemSuffixes" "hemZero" "LHemSuffixes$Hem;", Cond.fieldLink RX2 16 "HemSuffixes" "hemOne" "LHemSuffixes$Hem;", Cond.methodLink RX2 30 yX2_requireStitch, Cond.static yX2_requireStitch, Cond.code yX2_requireStitch cX2_requireStitch 1 none, Cond.classLink RX2 51 "java/lang/IllegalArgumentException", Cond.initialized "java/lang/IllegalArgumentException", Cond.methodLink RX2 136 yX1_newRowsBy, Cond.instanceMethod yX1_newRowsBy, Cond.selects RX1 yX1_newRowsBy yX1_newRowsBy, Cond.initialized RX1]
def wsL_would_r2 : List Cond := [Cond.code yX1_newRowsBy cX1_newRowsBy 4 (some .int), Cond.fieldLink RX1 15 "HemSuffixes$Stitches" "length" "I", Cond.methodLink RX1 33 Lib.Math.max.name, Cond.static Lib.Math.max.name, Cond.initialized "java/lang/Math", Cond.code Lib.Math.max.name Lib.Math.max.code 2 (some .int), Cond.methodLink RX1 25 yX1_at, Cond.instanceMethod yX1_at, Cond.selects RX1 yX1_at yX1_at, Cond.code yX1_at cX1_at 2 (some .int), Cond.fieldLink RX1 9 "HemSuffixes$Stitches" "kinds" "[I", Cond.methodLink RX1 47 yX1_sharedBackwardsFrom, Cond.instanceMethod yX1_sharedBackwardsFrom, Cond.selects RX1 yX1_sharedBackwardsFrom yX1_sharedBackwardsFrom, Cond.code yX1_sharedBackwardsFrom cX1_sharedBackwardsFrom 3 (some .int)]
def wsL_would : List Cond := .codeWith yL_would cL_would 5 (some .int) [(0, 10, 13, 13), (0, 10, 17, 15)] :: ((wsL_would_r1 ++ wsL_would_r2) ++ wsX00 ++ wsX20 ++ wsX10 ++ (vx_atS RX2 96 "java/lang/IndexOutOfBoundsException" ["java/lang/RuntimeException", "java/lang/Exception"]).filter goodWord ++ (vx_atS RX2 55 "java/lang/IllegalArgumentException" ["java/lang/RuntimeException", "java/lang/Exception"]).filter goodWord)
def wsL_advise_r1 : List Cond := [Cond.classLink RL 13 "java/lang/IndexOutOfBoundsException", Cond.methodLink RL 72 yX2_advise, Cond.instanceMethod yX2_advise, Cond.selects RX2 yX2_advise yX2_advise, Cond.initialized RX2, Cond.code yX2_advise cX2_advise 7 (some .int), Cond.methodLink RX2 26 yX2_hemOf, Cond.instanceMethod yX2_hemOf, Cond.selects RX2 yX2_hemOf yX2_hemOf, Cond.code yX2_hemOf cX2_hemOf 2 (some (.object "HemSuffixes$Hem")), Cond.classLink RX2 92 "java/lang/IndexOutOfBoundsException", Cond.initialized "java/lang/IndexOutOfBoundsException", Cond.fieldLink RX2 10 "HemSuffixes" "hemZero" "LHemSuffixes$Hem;", Cond.fieldLink RX2 16 "HemSuffixes" "hemOne" "LHemSuffixes$Hem;", Cond.methodLink RX2 136 yX1_newRowsBy, Cond.instanceMethod yX1_newRowsBy, Cond.selects RX1 yX1_newRowsBy yX1_newRowsBy, Cond.initialized RX1, Cond.code yX1_newRowsBy cX1_newRowsBy 4 (some .int), Cond.fieldLink RX1 15 "HemSuffixes$Stitches" "length" "I", Cond.methodLink RX1 33 Lib.Math.max.name, Cond.static Lib.Math.max.name, Cond.initialized "java/lang/Math", Cond.code Lib.Math.max.name Lib.Math.max.code 2 (some .int)]
def wsL_advise_r2 : List Cond := [Cond.methodLink RX1 25 yX1_at, Cond.instanceMethod yX1_at, Cond.selects RX1 yX1_at yX1_at, Cond.code yX1_at cX1_at 2 (some .int), Cond.fieldLink RX1 9 "HemSuffixes$Stitches" "kinds" "[I", Cond.methodLink RX1 47 yX1_sharedBackwardsFrom, Cond.instanceMethod yX1_sharedBackwardsFrom, Cond.selects RX1 yX1_sharedBackwardsFrom yX1_sharedBackwardsFrom, Cond.code yX1_sharedBackwardsFrom cX1_sharedBackwardsFrom 3 (some .int)]
def wsL_advise : List Cond := .codeWith yL_advise cL_advise 4 (some .int) [(0, 9, 12, 13)] :: ((wsL_advise_r1 ++ wsL_advise_r2) ++ wsX00 ++ wsX20 ++ wsX10 ++ (vx_atS RX2 96 "java/lang/IndexOutOfBoundsException" ["java/lang/RuntimeException", "java/lang/Exception"]).filter goodWord)
def wsL_law0_r1 : List Cond := [Cond.classLink RL 8 RX2, Cond.instantiable RX2 3, Cond.initialized RX2, Cond.classLink RL 76 RX3, Cond.instantiable RX3 8, Cond.initialized RX3, Cond.arrayClass .long, Cond.methodLink RL 75 yX2_init, Cond.instanceMethod yX2_init, Cond.code yX2_init cX2_init 1 none, Cond.methodLink RX2 1 objectInit, Cond.instanceMethod objectInit, Cond.code objectInit ⟨#[0xb1]⟩ 1 none, Cond.classLink RX2 7 RX0, Cond.instantiable RX0 2, Cond.initialized RX0, Cond.fieldLink RX2 10 "HemSuffixes" "hemZero" "LHemSuffixes$Hem;", Cond.fieldLink RX2 16 "HemSuffixes" "hemOne" "LHemSuffixes$Hem;", Cond.classLink RX2 19 RX1, Cond.instantiable RX1 2, Cond.initialized RX1, Cond.fieldLink RX2 22 "HemSuffixes" "sample" "LHemSuffixes$Stitches;", Cond.methodLink RX2 9 yX0_init, Cond.instanceMethod yX0_init]
def wsL_law0_r2 : List Cond := [Cond.code yX0_init cX0_init 1 none, Cond.methodLink RX0 3 objectInit, Cond.classLink RX0 9 RX1, Cond.fieldLink RX0 12 "HemSuffixes$Hem" "stitches" "LHemSuffixes$Stitches;", Cond.arrayClass .int, Cond.fieldLink RX0 18 "HemSuffixes$Hem" "placesInOrder" "[I", Cond.methodLink RX0 11 yX1_init, Cond.instanceMethod yX1_init, Cond.code yX1_init cX1_init 1 none, Cond.methodLink RX1 3 objectInit, Cond.fieldLink RX1 9 "HemSuffixes$Stitches" "kinds" "[I", Cond.fieldLink RX1 15 "HemSuffixes$Stitches" "length" "I", Cond.methodLink RX2 21 yX1_init, Cond.methodLink RL 78 yX3_init, Cond.instanceMethod yX3_init, Cond.code yX3_init cX3_init 1 none, Cond.methodLink RX3 1 objectInit, Cond.classLink RX3 9 "[[I", Cond.fieldLink RX3 11 "HemSuffixesModel" "hem" "[[I", Cond.fieldLink RX3 14 "HemSuffixesModel" "size" "[I", Cond.fieldLink RX3 18 "HemSuffixesModel" "sample" "[I", Cond.fieldLink RX3 21 "HemSuffixesModel" "same" "[[I", Cond.fieldLink RX3 24 "HemSuffixesModel" "places" "[I", Cond.fieldLink RX3 27 "HemSuffixesModel" "both" "[[I"]
def wsL_law0_r3 : List Cond := [Cond.methodLink RL 79 yL_sew, Cond.static yL_sew, Cond.initialized RL, Cond.codeWith yL_sew cL_sew 5 (some .int) [(0, 10, 13, 13), (0, 10, 17, 15), (0, 10, 21, 17)], Cond.classLink RL 13 "java/lang/IndexOutOfBoundsException", Cond.classLink RL 15 "java/lang/IllegalArgumentException", Cond.classLink RL 17 "java/lang/IllegalStateException", Cond.methodLink RL 7 yX2_sew, Cond.instanceMethod yX2_sew, Cond.selects RX2 yX2_sew yX2_sew, Cond.code yX2_sew cX2_sew 4 (some .int), Cond.classLink RX2 41 "java/lang/IllegalStateException", Cond.initialized "java/lang/IllegalStateException", Cond.methodLink RX2 26 yX2_hemOf, Cond.instanceMethod yX2_hemOf, Cond.selects RX2 yX2_hemOf yX2_hemOf, Cond.code yX2_hemOf cX2_hemOf 2 (some (.object "HemSuffixes$Hem")), Cond.classLink RX2 92 "java/lang/IndexOutOfBoundsException", Cond.initialized "java/lang/IndexOutOfBoundsException", Cond.methodLink RX2 30 yX2_requireStitch, Cond.static yX2_requireStitch, Cond.code yX2_requireStitch cX2_requireStitch 1 none, Cond.classLink RX2 51 "java/lang/IllegalArgumentException", Cond.initialized "java/lang/IllegalArgumentException"]
def wsL_law0_r4 : List Cond := [Cond.methodLink RX2 48 yX0_sewOn, Cond.instanceMethod yX0_sewOn, Cond.selects RX0 yX0_sewOn yX0_sewOn, Cond.code yX0_sewOn cX0_sewOn 2 none, Cond.methodLink RX0 22 yX1_append, Cond.instanceMethod yX1_append, Cond.selects RX1 yX1_append yX1_append, Cond.code yX1_append cX1_append 2 none, Cond.methodLink RX0 26 yX0_orderEnds, Cond.instanceMethod yX0_orderEnds, Cond.selects RX0 yX0_orderEnds yX0_orderEnds, Cond.code yX0_orderEnds cX0_orderEnds 2 none, Cond.methodLink RX0 40 yX0_putInOrder, Cond.instanceMethod yX0_putInOrder, Cond.selects RX0 yX0_putInOrder yX0_putInOrder, Cond.code yX0_putInOrder cX0_putInOrder 4 none, Cond.methodLink RX0 44 yX1_difference, Cond.instanceMethod yX1_difference, Cond.selects RX1 yX1_difference yX1_difference, Cond.code yX1_difference cX1_difference 7 (some .int), Cond.methodLink RX1 29 yX1_sharedWith, Cond.instanceMethod yX1_sharedWith, Cond.selects RX1 yX1_sharedWith yX1_sharedWith, Cond.code yX1_sharedWith cX1_sharedWith 6 (some .int)]
def wsL_law0_r5 : List Cond := [Cond.methodLink RX1 19 Lib.Math.min.name, Cond.static Lib.Math.min.name, Cond.initialized "java/lang/Math", Cond.code Lib.Math.min.name Lib.Math.min.code 2 (some .int), Cond.methodLink RX1 25 yX1_at, Cond.instanceMethod yX1_at, Cond.selects RX1 yX1_at yX1_at, Cond.code yX1_at cX1_at 2 (some .int), Cond.methodLink RL 84 yX3_sew, Cond.instanceMethod yX3_sew, Cond.selects RX3 yX3_sew yX3_sew, Cond.code yX3_sew cX3_sew 3 (some .int), Cond.fieldLink RX3 30 "HemSuffixesModel" "thrown" "I", Cond.methodLink RX3 38 yX3_isHem, Cond.static yX3_isHem, Cond.code yX3_isHem cX3_isHem 1 (some .boolean), Cond.methodLink RX3 34 yX3_isIn, Cond.static yX3_isIn, Cond.code yX3_isIn cX3_isIn 3 (some .boolean), Cond.methodLink RX3 99 yX3_no, Cond.instanceMethod yX3_no, Cond.selects RX3 yX3_no yX3_no, Cond.code yX3_no cX3_no 2 (some .int), Cond.methodLink RX3 102 yX3_isStitch]
def wsL_law0_r6 : List Cond := [Cond.static yX3_isStitch, Cond.code yX3_isStitch cX3_isStitch 1 (some .boolean), Cond.methodLink RL 85 yX3_thrown, Cond.instanceMethod yX3_thrown, Cond.selects RX3 yX3_thrown yX3_thrown, Cond.code yX3_thrown cX3_thrown 1 (some .int), Cond.methodLink RL 89 yL_again, Cond.static yL_again, Cond.codeWith yL_again cL_again 5 (some .int) [(0, 10, 13, 13), (0, 10, 17, 15), (0, 10, 21, 17)], Cond.methodLink RL 19 yX2_again, Cond.instanceMethod yX2_again, Cond.selects RX2 yX2_again yX2_again, Cond.code yX2_again cX2_again 5 (some .int), Cond.methodLink RX2 58 yX0_sewBeginning, Cond.instanceMethod yX0_sewBeginning, Cond.selects RX0 yX0_sewBeginning yX0_sewBeginning, Cond.code yX0_sewBeginning cX0_sewBeginning 3 none, Cond.methodLink RX0 29 yX1_at, Cond.methodLink RL 91 yX3_again, Cond.instanceMethod yX3_again, Cond.selects RX3 yX3_again yX3_again, Cond.code yX3_again cX3_again 5 (some .int), Cond.methodLink RL 92 yL_unpick, Cond.static yL_unpick]
def wsL_law0_r7 : List Cond := [Cond.codeWith yL_unpick cL_unpick 5 (some .int) [(0, 10, 13, 13), (0, 10, 17, 15)], Cond.methodLink RL 22 yX2_unpick, Cond.instanceMethod yX2_unpick, Cond.selects RX2 yX2_unpick yX2_unpick, Cond.code yX2_unpick cX2_unpick 4 (some .int), Cond.methodLink RX2 63 yX0_takeOff, Cond.instanceMethod yX0_takeOff, Cond.selects RX0 yX0_takeOff yX0_takeOff, Cond.code yX0_takeOff cX0_takeOff 2 none, Cond.methodLink RX0 33 yX1_drop, Cond.instanceMethod yX1_drop, Cond.selects RX1 yX1_drop yX1_drop, Cond.code yX1_drop cX1_drop 2 none, Cond.methodLink RL 94 yX3_unpick, Cond.instanceMethod yX3_unpick, Cond.selects RX3 yX3_unpick yX3_unpick, Cond.code yX3_unpick cX3_unpick 3 (some .int), Cond.methodLink RL 95 yL_add, Cond.static yL_add, Cond.codeWith yL_add cL_add 4 (some .int) [(0, 9, 12, 15), (0, 9, 15, 17)], Cond.methodLink RL 25 yX2_add, Cond.instanceMethod yX2_add, Cond.selects RX2 yX2_add yX2_add, Cond.code yX2_add cX2_add 2 (some .int)]
def wsL_law0_r8 : List Cond := [Cond.methodLink RX2 68 yX1_append, Cond.methodLink RL 98 yX3_add, Cond.instanceMethod yX3_add, Cond.selects RX3 yX3_add yX3_add, Cond.code yX3_add cX3_add 2 (some .int), Cond.fieldLink RX3 83 "HemSuffixesModel" "samples" "I", Cond.methodLink RL 99 yX2_clear, Cond.instanceMethod yX2_clear, Cond.selects RX2 yX2_clear yX2_clear, Cond.code yX2_clear cX2_clear 2 (some .int), Cond.methodLink RX2 71 yX1_drop, Cond.methodLink RL 102 yX3_clear, Cond.instanceMethod yX3_clear, Cond.selects RX3 yX3_clear yX3_clear, Cond.code yX3_clear cX3_clear 2 (some .int), Cond.methodLink RL 103 yL_stitch, Cond.static yL_stitch, Cond.codeWith yL_stitch cL_stitch 5 (some .int) [(0, 10, 13, 13)], Cond.methodLink RL 29 yX2_stitch, Cond.instanceMethod yX2_stitch, Cond.selects RX2 yX2_stitch yX2_stitch, Cond.code yX2_stitch cX2_stitch 4 (some .int), Cond.methodLink RX2 74 yX2_requirePlace, Cond.static yX2_requirePlace]
def wsL_law0_r9 : List Cond := [Cond.code yX2_requirePlace cX2_requirePlace 2 none, Cond.methodLink RX2 78 yX1_at, Cond.methodLink RL 105 yX3_stitch, Cond.instanceMethod yX3_stitch, Cond.selects RX3 yX3_stitch yX3_stitch, Cond.code yX3_stitch cX3_stitch 3 (some .int), Cond.methodLink RX3 105 yX3_isPlace, Cond.instanceMethod yX3_isPlace, Cond.selects RX3 yX3_isPlace yX3_isPlace, Cond.code yX3_isPlace cX3_isPlace 3 (some .boolean), Cond.methodLink RL 106 yL_count, Cond.static yL_count, Cond.codeWith yL_count cL_count 4 (some .int) [(0, 9, 12, 13)], Cond.methodLink RL 32 yX2_count, Cond.instanceMethod yX2_count, Cond.selects RX2 yX2_count yX2_count, Cond.code yX2_count cX2_count 2 (some .int), Cond.methodLink RX2 82 yX0_differentRows, Cond.instanceMethod yX0_differentRows, Cond.selects RX0 yX0_differentRows yX0_differentRows, Cond.code yX0_differentRows cX0_differentRows 3 (some .int), Cond.methodLink RX0 57 yX0_rowsFirstAt, Cond.instanceMethod yX0_rowsFirstAt, Cond.selects RX0 yX0_rowsFirstAt yX0_rowsFirstAt]
def wsL_law0_r10 : List Cond := [Cond.code yX0_rowsFirstAt cX0_rowsFirstAt 2 (some .int), Cond.methodLink RX0 48 yX0_placeAt, Cond.instanceMethod yX0_placeAt, Cond.selects RX0 yX0_placeAt yX0_placeAt, Cond.code yX0_placeAt cX0_placeAt 2 (some .int), Cond.methodLink RX0 54 yX0_sharedWithNext, Cond.instanceMethod yX0_sharedWithNext, Cond.selects RX0 yX0_sharedWithNext yX0_sharedWithNext, Cond.code yX0_sharedWithNext cX0_sharedWithNext 4 (some .int), Cond.methodLink RX0 51 yX1_sharedWith, Cond.methodLink RX2 86 yX2_seamPlace, Cond.instanceMethod yX2_seamPlace, Cond.selects RX2 yX2_seamPlace yX2_seamPlace, Cond.code yX2_seamPlace cX2_seamPlace 6 (some .int), Cond.methodLink RX2 97 yX0_placeAt, Cond.methodLink RX2 89 yX2_seamLengthFrom, Cond.instanceMethod yX2_seamLengthFrom, Cond.selects RX2 yX2_seamLengthFrom yX2_seamLengthFrom, Cond.code yX2_seamLengthFrom cX2_seamLengthFrom 2 (some .int), Cond.methodLink RX2 185 yX1_mostSharedWith, Cond.instanceMethod yX1_mostSharedWith, Cond.selects RX1 yX1_mostSharedWith yX1_mostSharedWith, Cond.code yX1_mostSharedWith cX1_mostSharedWith 5 (some .int), Cond.methodLink RX1 33 Lib.Math.max.name]
def wsL_law0_r11 : List Cond := [Cond.static Lib.Math.max.name, Cond.code Lib.Math.max.name Lib.Math.max.code 2 (some .int), Cond.methodLink RL 108 yX3_count, Cond.instanceMethod yX3_count, Cond.selects RX3 yX3_count yX3_count, Cond.code yX3_count cX3_count 2 (some .int), Cond.methodLink RX3 114 yX3_counted, Cond.instanceMethod yX3_counted, Cond.selects RX3 yX3_counted yX3_counted, Cond.code yX3_counted cX3_counted 2 (some .int), Cond.methodLink RX3 108 yX3_differentRows, Cond.instanceMethod yX3_differentRows, Cond.selects RX3 yX3_differentRows yX3_differentRows, Cond.code yX3_differentRows cX3_differentRows 4 (some .int), Cond.methodLink RX3 53 yX3_look, Cond.instanceMethod yX3_look, Cond.selects RX3 yX3_look yX3_look, Cond.code yX3_look cX3_look 2 none, Cond.methodLink RX3 49 yX3_compare, Cond.static yX3_compare, Cond.code yX3_compare cX3_compare 7 none, Cond.methodLink RX3 66 yX3_mostBefore, Cond.instanceMethod yX3_mostBefore, Cond.selects RX3 yX3_mostBefore yX3_mostBefore]
def wsL_law0_r12 : List Cond := [Cond.code yX3_mostBefore cX3_mostBefore 4 (some .int), Cond.methodLink RX3 61 Lib.Math.max.name, Cond.methodLink RX3 111 yX3_seamTold, Cond.instanceMethod yX3_seamTold, Cond.selects RX3 yX3_seamTold yX3_seamTold, Cond.code yX3_seamTold cX3_seamTold 6 (some .int), Cond.methodLink RX3 77 yX3_lookAtBoth, Cond.instanceMethod yX3_lookAtBoth, Cond.selects RX3 yX3_lookAtBoth yX3_lookAtBoth, Cond.code yX3_lookAtBoth cX3_lookAtBoth 1 none, Cond.methodLink RX3 80 yX3_mostAcross, Cond.instanceMethod yX3_mostAcross, Cond.selects RX3 yX3_mostAcross yX3_mostAcross, Cond.code yX3_mostAcross cX3_mostAcross 4 (some .int), Cond.methodLink RX3 46 yX3_isLess, Cond.instanceMethod yX3_isLess, Cond.selects RX3 yX3_isLess yX3_isLess, Cond.code yX3_isLess cX3_isLess 4 (some .boolean), Cond.methodLink RX3 42 yX3_by, Cond.static yX3_by, Cond.code yX3_by cX3_by 8 (some .int), Cond.methodLink RL 109 yL_end, Cond.static yL_end, Cond.codeWith yL_end cL_end 5 (some .int) [(0, 10, 13, 13)]]
def wsL_law0_r13 : List Cond := [Cond.methodLink RL 35 yX2_end, Cond.instanceMethod yX2_end, Cond.selects RX2 yX2_end yX2_end, Cond.code yX2_end cX2_end 4 (some .int), Cond.methodLink RL 111 yX3_end, Cond.instanceMethod yX3_end, Cond.selects RX3 yX3_end yX3_end, Cond.code yX3_end cX3_end 3 (some .int), Cond.methodLink RX3 117 yX3_order, Cond.instanceMethod yX3_order, Cond.selects RX3 yX3_order yX3_order, Cond.code yX3_order cX3_order 3 none, Cond.methodLink RX3 57 yX3_rankOf, Cond.instanceMethod yX3_rankOf, Cond.selects RX3 yX3_rankOf yX3_rankOf, Cond.code yX3_rankOf cX3_rankOf 5 (some .int), Cond.methodLink RL 112 yL_rank, Cond.static yL_rank, Cond.codeWith yL_rank cL_rank 5 (some .int) [(0, 10, 13, 13)], Cond.methodLink RL 38 yX2_rank, Cond.instanceMethod yX2_rank, Cond.selects RX2 yX2_rank yX2_rank, Cond.code yX2_rank cX2_rank 4 (some .int), Cond.methodLink RX2 100 yX0_rankOf]
def wsL_law0_r14 : List Cond := [Cond.instanceMethod yX0_rankOf, Cond.selects RX0 yX0_rankOf yX0_rankOf, Cond.code yX0_rankOf cX0_rankOf 3 (some .int), Cond.methodLink RL 114 yX3_rank, Cond.instanceMethod yX3_rank, Cond.selects RX3 yX3_rank yX3_rank, Cond.code yX3_rank cX3_rank 3 (some .int), Cond.methodLink RL 115 yL_common, Cond.static yL_common, Cond.codeWith yL_common cL_common 6 (some .int) [(0, 12, 15, 13)], Cond.methodLink RL 41 yX2_common, Cond.instanceMethod yX2_common, Cond.selects RX2 yX2_common yX2_common, Cond.code yX2_common cX2_common 5 (some .int), Cond.methodLink RX2 103 yX1_sharedWith, Cond.methodLink RL 118 yX3_common, Cond.instanceMethod yX3_common, Cond.selects RX3 yX3_common yX3_common, Cond.code yX3_common cX3_common 4 (some .int), Cond.methodLink RL 119 yL_against, Cond.static yL_against, Cond.codeWith yL_against cL_against 5 (some .int) [(0, 10, 13, 13)], Cond.methodLink RL 45 yX2_against, Cond.instanceMethod yX2_against]
def wsL_law0_r15 : List Cond := [Cond.selects RX2 yX2_against yX2_against, Cond.code yX2_against cX2_against 3 (some .int), Cond.methodLink RX2 107 yX1_difference, Cond.methodLink RL 121 yX3_against, Cond.instanceMethod yX3_against, Cond.selects RX3 yX3_against yX3_against, Cond.code yX3_against cX3_against 3 (some .int), Cond.methodLink RL 122 yL_repeat, Cond.static yL_repeat, Cond.codeWith yL_repeat cL_repeat 5 (some .int) [(0, 10, 13, 13)], Cond.methodLink RL 48 yX2_repeat, Cond.instanceMethod yX2_repeat, Cond.selects RX2 yX2_repeat yX2_repeat, Cond.code yX2_repeat cX2_repeat 7 (some .int), Cond.methodLink RX2 112 yX0_repeatRank, Cond.instanceMethod yX0_repeatRank, Cond.selects RX0 yX0_repeatRank yX0_repeatRank, Cond.code yX0_repeatRank cX0_repeatRank 5 (some .int), Cond.methodLink RX2 115 yX0_sharedWithNext, Cond.methodLink RX2 118 yX1_firstPlaceOf, Cond.instanceMethod yX1_firstPlaceOf, Cond.selects RX1 yX1_firstPlaceOf yX1_firstPlaceOf, Cond.code yX1_firstPlaceOf cX1_firstPlaceOf 5 (some .int), Cond.methodLink RX1 36 yX1_standsAt]
def wsL_law0_r16 : List Cond := [Cond.instanceMethod yX1_standsAt, Cond.selects RX1 yX1_standsAt yX1_standsAt, Cond.code yX1_standsAt cX1_standsAt 5 (some .boolean), Cond.methodLink RX2 122 yX1_placesOf, Cond.instanceMethod yX1_placesOf, Cond.selects RX1 yX1_placesOf yX1_placesOf, Cond.code yX1_placesOf cX1_placesOf 6 (some .int), Cond.methodLink RL 124 yX3_repeat, Cond.instanceMethod yX3_repeat, Cond.selects RX3 yX3_repeat yX3_repeat, Cond.code yX3_repeat cX3_repeat 3 (some .int), Cond.methodLink RX3 120 yX3_repeatTold, Cond.instanceMethod yX3_repeatTold, Cond.selects RX3 yX3_repeatTold yX3_repeatTold, Cond.code yX3_repeatTold cX3_repeatTold 7 (some .int), Cond.methodLink RX3 70 yX3_mostBeside, Cond.instanceMethod yX3_mostBeside, Cond.selects RX3 yX3_mostBeside yX3_mostBeside, Cond.code yX3_mostBeside cX3_mostBeside 5 (some .int), Cond.methodLink RX3 73 yX3_placesOf, Cond.instanceMethod yX3_placesOf, Cond.selects RX3 yX3_placesOf yX3_placesOf, Cond.code yX3_placesOf cX3_placesOf 6 (some .int), Cond.methodLink RL 125 yL_row]
def wsL_law0_r17 : List Cond := [Cond.static yL_row, Cond.codeWith yL_row cL_row 5 (some .int) [(0, 10, 13, 13)], Cond.methodLink RL 51 yX2_row, Cond.instanceMethod yX2_row, Cond.selects RX2 yX2_row yX2_row, Cond.code yX2_row cX2_row 4 (some .int), Cond.methodLink RX2 127 yX0_rowOfNumber, Cond.instanceMethod yX0_rowOfNumber, Cond.selects RX0 yX0_rowOfNumber yX0_rowOfNumber, Cond.code yX0_rowOfNumber cX0_rowOfNumber 6 (some .int), Cond.methodLink RX0 60 yX1_firstPlaceOf, Cond.methodLink RL 127 yX3_row, Cond.instanceMethod yX3_row, Cond.selects RX3 yX3_row yX3_row, Cond.code yX3_row cX3_row 8 (some .int), Cond.methodLink RX3 123 yX3_firstPlace, Cond.instanceMethod yX3_firstPlace, Cond.selects RX3 yX3_firstPlace yX3_firstPlace, Cond.code yX3_firstPlace cX3_firstPlace 4 (some .int), Cond.methodLink RL 128 yL_found, Cond.static yL_found, Cond.codeWith yL_found cL_found 4 (some .int) [(0, 9, 12, 13)], Cond.methodLink RL 54 yX2_found, Cond.instanceMethod yX2_found]
def wsL_law0_r18 : List Cond := [Cond.selects RX2 yX2_found yX2_found, Cond.code yX2_found cX2_found 2 (some .int), Cond.methodLink RL 130 yX3_found, Cond.instanceMethod yX3_found, Cond.selects RX3 yX3_found yX3_found, Cond.code yX3_found cX3_found 2 (some .int), Cond.methodLink RX3 126 yX3_foundIn, Cond.instanceMethod yX3_foundIn, Cond.selects RX3 yX3_foundIn yX3_foundIn, Cond.code yX3_foundIn cX3_foundIn 4 (some .int), Cond.methodLink RX3 86 yX3_isSampleAt, Cond.instanceMethod yX3_isSampleAt, Cond.selects RX3 yX3_isSampleAt yX3_isSampleAt, Cond.code yX3_isSampleAt cX3_isSampleAt 4 (some .boolean), Cond.methodLink RL 131 yL_first, Cond.static yL_first, Cond.codeWith yL_first cL_first 4 (some .int) [(0, 9, 12, 13)], Cond.methodLink RL 57 yX2_first, Cond.instanceMethod yX2_first, Cond.selects RX2 yX2_first yX2_first, Cond.code yX2_first cX2_first 2 (some .int), Cond.methodLink RL 133 yX3_first, Cond.instanceMethod yX3_first, Cond.selects RX3 yX3_first yX3_first]
def wsL_law0_r19 : List Cond := [Cond.code yX3_first cX3_first 3 (some .int), Cond.methodLink RL 134 yL_period, Cond.static yL_period, Cond.codeWith yL_period cL_period 4 (some .int) [(0, 9, 12, 13)], Cond.methodLink RL 60 yX2_period, Cond.instanceMethod yX2_period, Cond.selects RX2 yX2_period yX2_period, Cond.code yX2_period cX2_period 2 (some .int), Cond.methodLink RX2 130 yX1_leastPeriod, Cond.instanceMethod yX1_leastPeriod, Cond.selects RX1 yX1_leastPeriod yX1_leastPeriod, Cond.code yX1_leastPeriod cX1_leastPeriod 2 (some .int), Cond.methodLink RL 136 yX3_period, Cond.instanceMethod yX3_period, Cond.selects RX3 yX3_period yX3_period, Cond.code yX3_period cX3_period 2 (some .int), Cond.methodLink RX3 129 yX3_periodOf, Cond.instanceMethod yX3_periodOf, Cond.selects RX3 yX3_periodOf yX3_periodOf, Cond.code yX3_periodOf cX3_periodOf 3 (some .int), Cond.methodLink RX3 90 Lib.Math.min.name, Cond.methodLink RX3 93 yX3_isPeriod, Cond.instanceMethod yX3_isPeriod, Cond.selects RX3 yX3_isPeriod yX3_isPeriod]
def wsL_law0_r20 : List Cond := [Cond.code yX3_isPeriod cX3_isPeriod 4 (some .boolean), Cond.methodLink RL 137 yL_turned, Cond.static yL_turned, Cond.codeWith yL_turned cL_turned 4 (some .int) [(0, 9, 12, 13)], Cond.methodLink RL 63 yX2_turned, Cond.instanceMethod yX2_turned, Cond.selects RX2 yX2_turned yX2_turned, Cond.code yX2_turned cX2_turned 2 (some .int), Cond.methodLink RX2 133 yX1_bestBeginning, Cond.instanceMethod yX1_bestBeginning, Cond.selects RX1 yX1_bestBeginning yX1_bestBeginning, Cond.code yX1_bestBeginning cX1_bestBeginning 3 (some .int), Cond.methodLink RX1 40 yX1_turnsToLess, Cond.instanceMethod yX1_turnsToLess, Cond.selects RX1 yX1_turnsToLess yX1_turnsToLess, Cond.code yX1_turnsToLess cX1_turnsToLess 6 (some .boolean), Cond.methodLink RX1 44 yX1_allAround, Cond.instanceMethod yX1_allAround, Cond.selects RX1 yX1_allAround yX1_allAround, Cond.code yX1_allAround cX1_allAround 2 (some .int), Cond.methodLink RL 139 yX3_turned, Cond.instanceMethod yX3_turned, Cond.selects RX3 yX3_turned yX3_turned, Cond.code yX3_turned cX3_turned 2 (some .int)]
def wsL_law0_r21 : List Cond := [Cond.methodLink RX3 132 yX3_turnedOf, Cond.instanceMethod yX3_turnedOf, Cond.selects RX3 yX3_turnedOf yX3_turnedOf, Cond.code yX3_turnedOf cX3_turnedOf 4 (some .int), Cond.methodLink RX3 96 yX3_isLessAround, Cond.instanceMethod yX3_isLessAround, Cond.selects RX3 yX3_isLessAround yX3_isLessAround, Cond.code yX3_isLessAround cX3_isLessAround 8 (some .boolean), Cond.methodLink RL 140 yL_seam, Cond.static yL_seam, Cond.codeWith yL_seam cL_seam 4 (some .int) [(0, 9, 12, 13)], Cond.methodLink RL 66 yX2_seam, Cond.instanceMethod yX2_seam, Cond.selects RX2 yX2_seam yX2_seam, Cond.code yX2_seam cX2_seam 5 (some .int), Cond.methodLink RL 142 yX3_seam, Cond.instanceMethod yX3_seam, Cond.selects RX3 yX3_seam yX3_seam, Cond.code yX3_seam cX3_seam 2 (some .int), Cond.methodLink RL 143 yL_would, Cond.static yL_would, Cond.codeWith yL_would cL_would 5 (some .int) [(0, 10, 13, 13), (0, 10, 17, 15)], Cond.methodLink RL 69 yX2_would, Cond.instanceMethod yX2_would]
def wsL_law0_r22 : List Cond := [Cond.selects RX2 yX2_would yX2_would, Cond.code yX2_would cX2_would 4 (some .int), Cond.methodLink RX2 136 yX1_newRowsBy, Cond.instanceMethod yX1_newRowsBy, Cond.selects RX1 yX1_newRowsBy yX1_newRowsBy, Cond.code yX1_newRowsBy cX1_newRowsBy 4 (some .int), Cond.methodLink RX1 47 yX1_sharedBackwardsFrom, Cond.instanceMethod yX1_sharedBackwardsFrom, Cond.selects RX1 yX1_sharedBackwardsFrom yX1_sharedBackwardsFrom, Cond.code yX1_sharedBackwardsFrom cX1_sharedBackwardsFrom 3 (some .int), Cond.methodLink RL 145 yX3_would, Cond.instanceMethod yX3_would, Cond.selects RX3 yX3_would yX3_would, Cond.code yX3_would cX3_would 3 (some .int), Cond.methodLink RX3 135 yX3_more, Cond.instanceMethod yX3_more, Cond.selects RX3 yX3_more yX3_more, Cond.code yX3_more cX3_more 7 (some .int), Cond.methodLink RL 146 yL_advise, Cond.static yL_advise, Cond.codeWith yL_advise cL_advise 4 (some .int) [(0, 9, 12, 13)], Cond.methodLink RL 72 yX2_advise, Cond.instanceMethod yX2_advise, Cond.selects RX2 yX2_advise yX2_advise]
def wsL_law0_r23 : List Cond := [Cond.code yX2_advise cX2_advise 7 (some .int), Cond.methodLink RL 148 yX3_advise, Cond.instanceMethod yX3_advise, Cond.selects RX3 yX3_advise yX3_advise, Cond.code yX3_advise cX3_advise 4 (some .int), Cond.methodLink RL 149 yX2_mean, Cond.instanceMethod yX2_mean, Cond.selects RX2 yX2_mean yX2_mean, Cond.code yX2_mean cX2_mean 3 (some .double), Cond.methodLink RX2 139 yX0_neighbourPairs, Cond.instanceMethod yX0_neighbourPairs, Cond.selects RX0 yX0_neighbourPairs yX0_neighbourPairs, Cond.code yX0_neighbourPairs cX0_neighbourPairs 1 (some .int), Cond.methodLink RX2 142 yX0_sharedByNeighbours, Cond.instanceMethod yX0_sharedByNeighbours, Cond.selects RX0 yX0_sharedByNeighbours yX0_sharedByNeighbours, Cond.code yX0_sharedByNeighbours cX0_sharedByNeighbours 3 (some .int), Cond.methodLink RL 153 yX3_mean, Cond.instanceMethod yX3_mean, Cond.selects RX3 yX3_mean yX3_mean, Cond.code yX3_mean cX3_mean 5 (some .double), Cond.methodLink RL 154 yX2_digest, Cond.instanceMethod yX2_digest, Cond.selects RX2 yX2_digest yX2_digest]
def wsL_law0_r24 : List Cond := [Cond.code yX2_digest cX2_digest 4 (some .long), Cond.constantLong RX2 145 (1483), Cond.methodLink RX2 147 yX2_count, Cond.methodLink RX2 150 yX2_mixed, Cond.static yX2_mixed, Cond.code yX2_mixed cX2_mixed 3 (some .long), Cond.constantLong RX2 177 (31), Cond.methodLink RX2 154 yX2_hemMixed, Cond.instanceMethod yX2_hemMixed, Cond.selects RX2 yX2_hemMixed yX2_hemMixed, Cond.code yX2_hemMixed cX2_hemMixed 8 (some .long), Cond.methodLink RX2 157 yX2_stitchesMixed, Cond.static yX2_stitchesMixed, Cond.code yX2_stitchesMixed cX2_stitchesMixed 6 (some .long), Cond.methodLink RX2 164 yX2_repeat, Cond.methodLink RX2 168 yX2_period, Cond.methodLink RX2 171 yX2_turned, Cond.methodLink RX2 174 yX2_found, Cond.methodLink RX2 161 yX2_seam, Cond.methodLink RL 158 yX3_digest, Cond.instanceMethod yX3_digest, Cond.selects RX3 yX3_digest yX3_digest, Cond.code yX3_digest cX3_digest 5 (some .long), Cond.constantLong RX3 138 (1483)]
def wsL_law0_r25 : List Cond := [Cond.constantLong RX3 140 (31)]
def wsL_law0 : List Cond := (wsL_law0_r1 ++ (wsL_law0_r2 ++ (wsL_law0_r3 ++ (wsL_law0_r4 ++ (wsL_law0_r5 ++ (wsL_law0_r6 ++ (wsL_law0_r7 ++ (wsL_law0_r8 ++ (wsL_law0_r9 ++ (wsL_law0_r10 ++ (wsL_law0_r11 ++ (wsL_law0_r12 ++ (wsL_law0_r13 ++ (wsL_law0_r14 ++ (wsL_law0_r15 ++ (wsL_law0_r16 ++ (wsL_law0_r17 ++ (wsL_law0_r18 ++ (wsL_law0_r19 ++ (wsL_law0_r20 ++ (wsL_law0_r21 ++ (wsL_law0_r22 ++ (wsL_law0_r23 ++ (wsL_law0_r24 ++ wsL_law0_r25)))))))))))))))))))))))) ++ wsX20 ++ wsX30 ++ wsX00 ++ wsX10 ++ ([] : List Cond)
def wsL_law : List Cond := wsL_law0 ++ (vx_atS RX2 45 "java/lang/IllegalStateException" ["java/lang/RuntimeException", "java/lang/Exception"]).filter goodWord ++ (vx_atS RX2 96 "java/lang/IndexOutOfBoundsException" ["java/lang/RuntimeException", "java/lang/Exception"]).filter goodWord ++ (vx_atS RX2 55 "java/lang/IllegalArgumentException" ["java/lang/RuntimeException", "java/lang/Exception"]).filter goodWord
abbrev vwCl : List vw_C := [(RX0, TX0, 2), (RX1, TX1, 2), (RX2, TX2, 3), (RX3, TX3, 8)]
end
section
set_option maxRecDepth 20000 in
theorem wsL_law0_r1_in : ∀ w ∈ wsL_law0_r1, w ∈ lw_tbl := fun w h => (goodIn_p wsL_law0_r1 [51, 54] (by decide +kernel) (by decide +kernel) w h).1
set_option maxRecDepth 20000 in
theorem wsL_law0_r2_in : ∀ w ∈ wsL_law0_r2, w ∈ lw_tbl := fun w h => (goodIn_p wsL_law0_r2 [59, 65, 525] (by decide +kernel) (by decide +kernel) w h).1
set_option maxRecDepth 20000 in
theorem wsL_law0_r3_in : ∀ w ∈ wsL_law0_r3, w ∈ lw_tbl := fun w h => (goodIn_p wsL_law0_r3 [318, 249, 321] (by decide +kernel) (by decide +kernel) w h).1
set_option maxRecDepth 20000 in
theorem wsL_law0_r4_in : ∀ w ∈ wsL_law0_r4, w ∈ lw_tbl := fun w h => (goodIn_p wsL_law0_r4 [357, 361, 365, 369, 373, 128] (by decide +kernel) (by decide +kernel) w h).1
set_option maxRecDepth 20000 in
theorem wsL_law0_r5_in : ∀ w ∈ wsL_law0_r5, w ∈ lw_tbl := fun w h => (goodIn_p wsL_law0_r5 [131, 135, 561, 564, 567, 571] (by decide +kernel) (by decide +kernel) w h).1
set_option maxRecDepth 20000 in
theorem wsL_law0_r6_in : ∀ w ∈ wsL_law0_r6, w ∈ lw_tbl := fun w h => (goodIn_p wsL_law0_r6 [574, 557, 380, 386, 578] (by decide +kernel) (by decide +kernel) w h).1
set_option maxRecDepth 20000 in
theorem wsL_law0_r7_in : ∀ w ∈ wsL_law0_r7, w ∈ lw_tbl := fun w h => (goodIn_p wsL_law0_r7 [394, 399, 104, 582, 407] (by decide +kernel) (by decide +kernel) w h).1
set_option maxRecDepth 20000 in
theorem wsL_law0_r8_in : ∀ w ∈ wsL_law0_r8, w ∈ lw_tbl := fun w h => (goodIn_p wsL_law0_r8 [586, 100, 590, 416] (by decide +kernel) (by decide +kernel) w h).1
set_option maxRecDepth 20000 in
theorem wsL_law0_r9_in : ∀ w ∈ wsL_law0_r9, w ∈ lw_tbl := fun w h => (goodIn_p wsL_law0_r9 [419, 594, 598, 144, 148] (by decide +kernel) (by decide +kernel) w h).1
set_option maxRecDepth 20000 in
theorem wsL_law0_r10_in : ∀ w ∈ wsL_law0_r10, w ∈ lw_tbl := fun w h => (goodIn_p wsL_law0_r10 [152, 124, 120, 156, 161, 165] (by decide +kernel) (by decide +kernel) w h).1
set_option maxRecDepth 20000 in
theorem wsL_law0_r11_in : ∀ w ∈ wsL_law0_r11, w ∈ lw_tbl := fun w h => (goodIn_p wsL_law0_r11 [169, 602, 606, 610, 614, 617] (by decide +kernel) (by decide +kernel) w h).1
set_option maxRecDepth 20000 in
theorem wsL_law0_r12_in : ∀ w ∈ wsL_law0_r12, w ∈ lw_tbl := fun w h => (goodIn_p wsL_law0_r12 [621, 626, 630, 634, 638, 641] (by decide +kernel) (by decide +kernel) w h).1
set_option maxRecDepth 20000 in
theorem wsL_law0_r13_in : ∀ w ∈ wsL_law0_r13, w ∈ lw_tbl := fun w h => (goodIn_p wsL_law0_r13 [431, 645, 649, 653, 438] (by decide +kernel) (by decide +kernel) w h).1
set_option maxRecDepth 20000 in
theorem wsL_law0_r14_in : ∀ w ∈ wsL_law0_r14, w ∈ lw_tbl := fun w h => (goodIn_p wsL_law0_r14 [442, 657, 449, 661] (by decide +kernel) (by decide +kernel) w h).1
set_option maxRecDepth 20000 in
theorem wsL_law0_r15_in : ∀ w ∈ wsL_law0_r15, w ∈ lw_tbl := fun w h => (goodIn_p wsL_law0_r15 [457, 665, 258, 263, 268] (by decide +kernel) (by decide +kernel) w h).1
set_option maxRecDepth 20000 in
theorem wsL_law0_r16_in : ∀ w ∈ wsL_law0_r16, w ∈ lw_tbl := fun w h => (goodIn_p wsL_law0_r16 [272, 276, 669, 673, 677, 681] (by decide +kernel) (by decide +kernel) w h).1
set_option maxRecDepth 20000 in
theorem wsL_law0_r17_in : ∀ w ∈ wsL_law0_r17, w ∈ lw_tbl := fun w h => (goodIn_p wsL_law0_r17 [469, 474, 685, 689] (by decide +kernel) (by decide +kernel) w h).1
set_option maxRecDepth 20000 in
theorem wsL_law0_r18_in : ∀ w ∈ wsL_law0_r18, w ∈ lw_tbl := fun w h => (goodIn_p wsL_law0_r18 [304, 693, 697, 701, 486] (by decide +kernel) (by decide +kernel) w h).1
set_option maxRecDepth 20000 in
theorem wsL_law0_r19_in : ∀ w ∈ wsL_law0_r19, w ∈ lw_tbl := fun w h => (goodIn_p wsL_law0_r19 [705, 280, 284, 709, 713] (by decide +kernel) (by decide +kernel) w h).1
set_option maxRecDepth 20000 in
theorem wsL_law0_r20_in : ∀ w ∈ wsL_law0_r20, w ∈ lw_tbl := fun w h => (goodIn_p wsL_law0_r20 [718, 288, 292, 296, 300, 722] (by decide +kernel) (by decide +kernel) w h).1
set_option maxRecDepth 20000 in
theorem wsL_law0_r21_in : ∀ w ∈ wsL_law0_r21, w ∈ lw_tbl := fun w h => (goodIn_p wsL_law0_r21 [726, 730, 308, 734] (by decide +kernel) (by decide +kernel) w h).1
set_option maxRecDepth 20000 in
theorem wsL_law0_r22_in : ∀ w ∈ wsL_law0_r22, w ∈ lw_tbl := fun w h => (goodIn_p wsL_law0_r22 [505, 509, 513, 738, 742] (by decide +kernel) (by decide +kernel) w h).1
set_option maxRecDepth 20000 in
theorem wsL_law0_r23_in : ∀ w ∈ wsL_law0_r23, w ∈ lw_tbl := fun w h => (goodIn_p wsL_law0_r23 [520, 746, 108, 112, 116, 750] (by decide +kernel) (by decide +kernel) w h).1
set_option maxRecDepth 20000 in
theorem wsL_law0_r24_in : ∀ w ∈ wsL_law0_r24, w ∈ lw_tbl := fun w h => (goodIn_p wsL_law0_r24 [139, 240, 245, 253, 754] (by decide +kernel) (by decide +kernel) w h).1
set_option maxRecDepth 20000 in
theorem wsL_law0_r25_in : ∀ w ∈ wsL_law0_r25, w ∈ lw_tbl := fun w h => (goodIn_p wsL_law0_r25 [] (by decide +kernel) (by decide +kernel) w h).1
set_option maxRecDepth 20000 in
theorem wsL_law_wsX20_in : ∀ w ∈ wsX20, w ∈ lw_tbl := fun w h => (goodIn_p wsX20 [] (by decide +kernel) (by decide +kernel) w h).1
set_option maxRecDepth 20000 in
theorem wsL_law_wsX30_in : ∀ w ∈ wsX30, w ∈ lw_tbl := fun w h => (goodIn_p wsX30 [] (by decide +kernel) (by decide +kernel) w h).1
set_option maxRecDepth 20000 in
theorem wsL_law_wsX00_in : ∀ w ∈ wsX00, w ∈ lw_tbl := fun w h => (goodIn_p wsX00 [] (by decide +kernel) (by decide +kernel) w h).1
set_option maxRecDepth 20000 in
theorem wsL_law_wsX10_in : ∀ w ∈ wsX10, w ∈ lw_tbl := fun w h => (goodIn_p wsX10 [] (by decide +kernel) (by decide +kernel) w h).1
theorem wsL_law_in0 : ∀ w ∈ wsL_law0, w ∈ lw_tbl := List.forall_mem_append.mpr ⟨List.forall_mem_append.mpr ⟨List.forall_mem_append.mpr ⟨List.forall_mem_append.mpr ⟨List.forall_mem_append.mpr ⟨List.forall_mem_append.mpr ⟨wsL_law0_r1_in, List.forall_mem_append.mpr ⟨wsL_law0_r2_in, List.forall_mem_append.mpr ⟨wsL_law0_r3_in, List.forall_mem_append.mpr ⟨wsL_law0_r4_in, List.forall_mem_append.mpr ⟨wsL_law0_r5_in, List.forall_mem_append.mpr ⟨wsL_law0_r6_in, List.forall_mem_append.mpr ⟨wsL_law0_r7_in, List.forall_mem_append.mpr ⟨wsL_law0_r8_in, List.forall_mem_append.mpr ⟨wsL_law0_r9_in, List.forall_mem_append.mpr ⟨wsL_law0_r10_in, List.forall_mem_append.mpr ⟨wsL_law0_r11_in, List.forall_mem_append.mpr ⟨wsL_law0_r12_in, List.forall_mem_append.mpr ⟨wsL_law0_r13_in, List.forall_mem_append.mpr ⟨wsL_law0_r14_in, List.forall_mem_append.mpr ⟨wsL_law0_r15_in, List.forall_mem_append.mpr ⟨wsL_law0_r16_in, List.forall_mem_append.mpr ⟨wsL_law0_r17_in, List.forall_mem_append.mpr ⟨wsL_law0_r18_in, List.forall_mem_append.mpr ⟨wsL_law0_r19_in, List.forall_mem_append.mpr ⟨wsL_law0_r20_in, List.forall_mem_append.mpr ⟨wsL_law0_r21_in, List.forall_mem_append.mpr ⟨wsL_law0_r22_in, List.forall_mem_append.mpr ⟨wsL_law0_r23_in, List.forall_mem_append.mpr ⟨wsL_law0_r24_in, wsL_law0_r25_in⟩⟩⟩⟩⟩⟩⟩⟩⟩⟩⟩⟩⟩⟩⟩⟩⟩⟩⟩⟩⟩⟩⟩⟩, wsL_law_wsX20_in⟩, wsL_law_wsX30_in⟩, wsL_law_wsX00_in⟩, wsL_law_wsX10_in⟩, (fun _ h => absurd h List.not_mem_nil)⟩
end
section
theorem wsL_law_x0 : ∀ w ∈ (vx_atS RX2 45 "java/lang/IllegalStateException" ["java/lang/RuntimeException", "java/lang/Exception"]).filter goodWord, w ∈ lw_tbl := by decide +kernel
theorem wsL_law_x1 : ∀ w ∈ (vx_atS RX2 96 "java/lang/IndexOutOfBoundsException" ["java/lang/RuntimeException", "java/lang/Exception"]).filter goodWord, w ∈ lw_tbl := by decide +kernel
theorem wsL_law_x2 : ∀ w ∈ (vx_atS RX2 55 "java/lang/IllegalArgumentException" ["java/lang/RuntimeException", "java/lang/Exception"]).filter goodWord, w ∈ lw_tbl := by decide +kernel
theorem wsL_law_in : ∀ w ∈ wsL_law, w ∈ lw_tbl := fun w h => (List.mem_append.mp h).elim (fun h => (List.mem_append.mp h).elim (fun h => (List.mem_append.mp h).elim (fun h => wsL_law_in0 w h) (fun h => wsL_law_x0 w h)) (fun h => wsL_law_x1 w h)) (fun h => wsL_law_x2 w h)
theorem inlX0 : ∀ w ∈ wsX00, w ∈ wsL_law := fun _ h => List.mem_append_left _ (List.mem_append_left _ (List.mem_append_left _ (List.mem_append_left _ (List.mem_append_left _ (List.mem_append_right _ h)))))
theorem inX0 : ∀ w ∈ wsX00, w ∈ lw_tbl := fun w h => wsL_law_in w (inlX0 w h)
theorem inlX1 : ∀ w ∈ wsX10, w ∈ wsL_law := fun _ h => List.mem_append_left _ (List.mem_append_left _ (List.mem_append_left _ (List.mem_append_left _ (List.mem_append_right _ h))))
theorem inX1 : ∀ w ∈ wsX10, w ∈ lw_tbl := fun w h => wsL_law_in w (inlX1 w h)
theorem inlX2 : ∀ w ∈ wsX20, w ∈ wsL_law := fun _ h => List.mem_append_left _ (List.mem_append_left _ (List.mem_append_left _ (List.mem_append_left _ (List.mem_append_left _ (List.mem_append_left _ (List.mem_append_left _ (List.mem_append_right _ h)))))))
theorem inX2 : ∀ w ∈ wsX20, w ∈ lw_tbl := fun w h => wsL_law_in w (inlX2 w h)
theorem inlX3 : ∀ w ∈ wsX30, w ∈ wsL_law := fun _ h => List.mem_append_left _ (List.mem_append_left _ (List.mem_append_left _ (List.mem_append_left _ (List.mem_append_left _ (List.mem_append_left _ (List.mem_append_right _ h))))))
theorem inX3 : ∀ w ∈ wsX30, w ∈ lw_tbl := fun w h => wsL_law_in w (inlX3 w h)
theorem inJ9 : ∀ w ∈ wsJ90, w ∈ lw_tbl := by decide +kernel
theorem inJ0 : ∀ w ∈ wsJ00, w ∈ lw_tbl := by decide +kernel
end
section
set_option maxRecDepth 20000 in
theorem ggX0_init_X1_init : GoodIn wsX0_init wsX1_init := goodIn_r _ [12, 13, 2, 3, 8, 14, 15, 16, 17] (by decide +kernel) (by decide +kernel)
set_option maxRecDepth 20000 in
theorem gX0_init_X1_init : GoodIn wsX0_init (wsX1_init) := ggX0_init_X1_init
theorem dX0_init_0 : decode cX0_init 0 = .ok (.aload_n 0, 1) := by decide +kernel
theorem dX0_init_1 : decode cX0_init 1 = .ok (.invokespecial 3, 3) := by decide +kernel
theorem dX0_init_4 : decode cX0_init 4 = .ok (.aload_n 0, 1) := by decide +kernel
theorem dX0_init_5 : decode cX0_init 5 = .ok (.new 9, 3) := by decide +kernel
theorem dX0_init_8 : decode cX0_init 8 = .ok (.dup, 1) := by decide +kernel
theorem dX0_init_9 : decode cX0_init 9 = .ok (.invokespecial 11, 3) := by decide +kernel
theorem dX0_init_12 : decode cX0_init 12 = .ok (.putfield 12, 3) := by decide +kernel
theorem dX0_init_15 : decode cX0_init 15 = .ok (.aload_n 0, 1) := by decide +kernel
theorem dX0_init_16 : decode cX0_init 16 = .ok (.bipush 40, 2) := by decide +kernel
theorem dX0_init_18 : decode cX0_init 18 = .ok (.newarray .int, 2) := by decide +kernel
theorem dX0_init_20 : decode cX0_init 20 = .ok (.putfield 18, 3) := by decide +kernel
theorem dX0_init_23 : decode cX0_init 23 = .ok (.return_, 1) := by decide +kernel
set_option maxRecDepth 20000 in
theorem ggX0_sewOn_X1_append : GoodIn wsX0_sewOn wsX1_append := goodIn_r _ [6, 7, 8, 37, 38] (by decide +kernel) (by decide +kernel)
set_option maxRecDepth 20000 in
theorem gX0_sewOn_X1_append : GoodIn wsX0_sewOn (wsV RX0 22 RX1 yX1_append wsX1_append) := goodIn_app (goodIn_of _ (by decide +kernel)) ggX0_sewOn_X1_append
set_option maxRecDepth 20000 in
theorem ggX0_sewOn_X0_orderEnds : GoodIn wsX0_sewOn wsX0_orderEnds := goodIn_r _ [13, 1, 14, 15, 16, 17, 12, 18, 19, 20, 21, 5, 22, 23, 24, 25, 26, 7, 27, 28, 29, 30, 31, 32, 33, 34, 8, 35, 36, 37, 38] (by decide +kernel) (by decide +kernel)
set_option maxRecDepth 20000 in
theorem gX0_sewOn_X0_orderEnds : GoodIn wsX0_sewOn (wsV RX0 26 RX0 yX0_orderEnds wsX0_orderEnds) := goodIn_app (goodIn_of _ (by decide +kernel)) ggX0_sewOn_X0_orderEnds
theorem dX0_sewOn_0 : decode cX0_sewOn 0 = .ok (.aload_n 0, 1) := by decide +kernel
theorem dX0_sewOn_1 : decode cX0_sewOn 1 = .ok (.getfield 12, 3) := by decide +kernel
theorem dX0_sewOn_4 : decode cX0_sewOn 4 = .ok (.iload_n 1, 1) := by decide +kernel
theorem dX0_sewOn_5 : decode cX0_sewOn 5 = .ok (.invokevirtual 22, 3) := by decide +kernel
theorem dX0_sewOn_8 : decode cX0_sewOn 8 = .ok (.aload_n 0, 1) := by decide +kernel
theorem dX0_sewOn_9 : decode cX0_sewOn 9 = .ok (.invokevirtual 26, 3) := by decide +kernel
theorem dX0_sewOn_12 : decode cX0_sewOn 12 = .ok (.return_, 1) := by decide +kernel
set_option maxRecDepth 20000 in
theorem ggX0_sewBeginning_X1_at : GoodIn wsX0_sewBeginning wsX1_at := goodIn_r _ [6, 7, 8, 38, 39] (by decide +kernel) (by decide +kernel)
set_option maxRecDepth 20000 in
theorem gX0_sewBeginning_X1_at : GoodIn wsX0_sewBeginning (wsV RX0 29 RX1 yX1_at wsX1_at) := goodIn_app (goodIn_of _ (by decide +kernel)) ggX0_sewBeginning_X1_at
set_option maxRecDepth 20000 in
theorem ggX0_sewBeginning_X1_append : GoodIn wsX0_sewBeginning wsX1_append := goodIn_r _ [12, 7, 8, 38, 39] (by decide +kernel) (by decide +kernel)
set_option maxRecDepth 20000 in
theorem gX0_sewBeginning_X1_append : GoodIn wsX0_sewBeginning (wsV RX0 22 RX1 yX1_append wsX1_append) := goodIn_app (goodIn_of _ (by decide +kernel)) ggX0_sewBeginning_X1_append
set_option maxRecDepth 20000 in
theorem ggX0_sewBeginning_X0_orderEnds : GoodIn wsX0_sewBeginning wsX0_orderEnds := goodIn_r _ [17, 1, 18, 19, 20, 21, 16, 22, 23, 24, 25, 5, 26, 27, 28, 29, 30, 7, 31, 32, 33, 34, 35, 3, 4, 6, 8, 36, 37, 38, 39] (by decide +kernel) (by decide +kernel)
set_option maxRecDepth 20000 in
theorem gX0_sewBeginning_X0_orderEnds : GoodIn wsX0_sewBeginning (wsV RX0 26 RX0 yX0_orderEnds wsX0_orderEnds) := goodIn_app (goodIn_of _ (by decide +kernel)) ggX0_sewBeginning_X0_orderEnds
theorem dX0_sewBeginning_0 : decode cX0_sewBeginning 0 = .ok (.iconst 0, 1) := by decide +kernel
theorem dX0_sewBeginning_1 : decode cX0_sewBeginning 1 = .ok (.istore_n 2, 1) := by decide +kernel
theorem dX0_sewBeginning_2 : decode cX0_sewBeginning 2 = .ok (.iload_n 2, 1) := by decide +kernel
theorem dX0_sewBeginning_3 : decode cX0_sewBeginning 3 = .ok (.iload_n 1, 1) := by decide +kernel
theorem dX0_sewBeginning_4 : decode cX0_sewBeginning 4 = .ok (.if_icmp .ge 24, 3) := by decide +kernel
theorem dX0_sewBeginning_7 : decode cX0_sewBeginning 7 = .ok (.aload_n 0, 1) := by decide +kernel
theorem dX0_sewBeginning_8 : decode cX0_sewBeginning 8 = .ok (.getfield 12, 3) := by decide +kernel
theorem dX0_sewBeginning_11 : decode cX0_sewBeginning 11 = .ok (.aload_n 0, 1) := by decide +kernel
theorem dX0_sewBeginning_12 : decode cX0_sewBeginning 12 = .ok (.getfield 12, 3) := by decide +kernel
theorem dX0_sewBeginning_15 : decode cX0_sewBeginning 15 = .ok (.iload_n 2, 1) := by decide +kernel
theorem dX0_sewBeginning_16 : decode cX0_sewBeginning 16 = .ok (.invokevirtual 29, 3) := by decide +kernel
theorem dX0_sewBeginning_19 : decode cX0_sewBeginning 19 = .ok (.invokevirtual 22, 3) := by decide +kernel
theorem dX0_sewBeginning_22 : decode cX0_sewBeginning 22 = .ok (.iinc 2 1, 3) := by decide +kernel
theorem dX0_sewBeginning_25 : decode cX0_sewBeginning 25 = .ok (.goto (-23), 3) := by decide +kernel
theorem dX0_sewBeginning_28 : decode cX0_sewBeginning 28 = .ok (.aload_n 0, 1) := by decide +kernel
theorem dX0_sewBeginning_29 : decode cX0_sewBeginning 29 = .ok (.invokevirtual 26, 3) := by decide +kernel
theorem dX0_sewBeginning_32 : decode cX0_sewBeginning 32 = .ok (.return_, 1) := by decide +kernel
set_option maxRecDepth 20000 in
theorem ggX0_takeOff_X1_drop : GoodIn wsX0_takeOff wsX1_drop := goodIn_r _ [6, 7, 37, 38] (by decide +kernel) (by decide +kernel)
set_option maxRecDepth 20000 in
theorem gX0_takeOff_X1_drop : GoodIn wsX0_takeOff (wsV RX0 33 RX1 yX1_drop wsX1_drop) := goodIn_app (goodIn_of _ (by decide +kernel)) ggX0_takeOff_X1_drop
set_option maxRecDepth 20000 in
theorem ggX0_takeOff_X0_orderEnds : GoodIn wsX0_takeOff wsX0_orderEnds := goodIn_r _ [12, 1, 13, 14, 15, 16, 11, 17, 18, 19, 20, 5, 21, 22, 23, 24, 25, 7, 26, 27, 28, 29, 30, 31, 32, 33, 34, 35, 36, 37, 38] (by decide +kernel) (by decide +kernel)
set_option maxRecDepth 20000 in
theorem gX0_takeOff_X0_orderEnds : GoodIn wsX0_takeOff (wsV RX0 26 RX0 yX0_orderEnds wsX0_orderEnds) := goodIn_app (goodIn_of _ (by decide +kernel)) ggX0_takeOff_X0_orderEnds
theorem dX0_takeOff_0 : decode cX0_takeOff 0 = .ok (.aload_n 0, 1) := by decide +kernel
theorem dX0_takeOff_1 : decode cX0_takeOff 1 = .ok (.getfield 12, 3) := by decide +kernel
theorem dX0_takeOff_4 : decode cX0_takeOff 4 = .ok (.iload_n 1, 1) := by decide +kernel
theorem dX0_takeOff_5 : decode cX0_takeOff 5 = .ok (.invokevirtual 33, 3) := by decide +kernel
theorem dX0_takeOff_8 : decode cX0_takeOff 8 = .ok (.aload_n 0, 1) := by decide +kernel
theorem dX0_takeOff_9 : decode cX0_takeOff 9 = .ok (.invokevirtual 26, 3) := by decide +kernel
theorem dX0_takeOff_12 : decode cX0_takeOff 12 = .ok (.return_, 1) := by decide +kernel
set_option maxRecDepth 20000 in
theorem ggX0_orderEnds_X0_putInOrder : GoodIn wsX0_orderEnds wsX0_putInOrder := goodIn_r _ [7, 1, 2, 8, 9, 10, 11, 12, 13, 14, 15, 16, 17, 18, 19, 20, 21, 22, 23, 24, 25, 26, 27, 28, 29, 30] (by decide +kernel) (by decide +kernel)
set_option maxRecDepth 20000 in
theorem gX0_orderEnds_X0_putInOrder : GoodIn wsX0_orderEnds (wsV RX0 40 RX0 yX0_putInOrder wsX0_putInOrder) := goodIn_app (goodIn_of _ (by decide +kernel)) ggX0_orderEnds_X0_putInOrder
theorem dX0_orderEnds_0 : decode cX0_orderEnds 0 = .ok (.iconst 0, 1) := by decide +kernel
theorem dX0_orderEnds_1 : decode cX0_orderEnds 1 = .ok (.istore_n 1, 1) := by decide +kernel
theorem dX0_orderEnds_2 : decode cX0_orderEnds 2 = .ok (.iload_n 1, 1) := by decide +kernel
theorem dX0_orderEnds_3 : decode cX0_orderEnds 3 = .ok (.aload_n 0, 1) := by decide +kernel
theorem dX0_orderEnds_4 : decode cX0_orderEnds 4 = .ok (.getfield 12, 3) := by decide +kernel
theorem dX0_orderEnds_7 : decode cX0_orderEnds 7 = .ok (.getfield 36, 3) := by decide +kernel
theorem dX0_orderEnds_10 : decode cX0_orderEnds 10 = .ok (.if_icmp .ge 34, 3) := by decide +kernel
theorem dX0_orderEnds_13 : decode cX0_orderEnds 13 = .ok (.iload_n 1, 1) := by decide +kernel
theorem dX0_orderEnds_14 : decode cX0_orderEnds 14 = .ok (.aload_n 0, 1) := by decide +kernel
theorem dX0_orderEnds_15 : decode cX0_orderEnds 15 = .ok (.getfield 18, 3) := by decide +kernel
theorem dX0_orderEnds_18 : decode cX0_orderEnds 18 = .ok (.arraylength, 1) := by decide +kernel
theorem dX0_orderEnds_19 : decode cX0_orderEnds 19 = .ok (.if_icmp .ge 25, 3) := by decide +kernel
theorem dX0_orderEnds_22 : decode cX0_orderEnds 22 = .ok (.aload_n 0, 1) := by decide +kernel
theorem dX0_orderEnds_23 : decode cX0_orderEnds 23 = .ok (.aload_n 0, 1) := by decide +kernel
theorem dX0_orderEnds_24 : decode cX0_orderEnds 24 = .ok (.getfield 12, 3) := by decide +kernel
theorem dX0_orderEnds_27 : decode cX0_orderEnds 27 = .ok (.getfield 36, 3) := by decide +kernel
theorem dX0_orderEnds_30 : decode cX0_orderEnds 30 = .ok (.iconst 1, 1) := by decide +kernel
theorem dX0_orderEnds_31 : decode cX0_orderEnds 31 = .ok (.isub, 1) := by decide +kernel
theorem dX0_orderEnds_32 : decode cX0_orderEnds 32 = .ok (.iload_n 1, 1) := by decide +kernel
theorem dX0_orderEnds_33 : decode cX0_orderEnds 33 = .ok (.isub, 1) := by decide +kernel
theorem dX0_orderEnds_34 : decode cX0_orderEnds 34 = .ok (.iload_n 1, 1) := by decide +kernel
theorem dX0_orderEnds_35 : decode cX0_orderEnds 35 = .ok (.invokevirtual 40, 3) := by decide +kernel
theorem dX0_orderEnds_38 : decode cX0_orderEnds 38 = .ok (.iinc 1 1, 3) := by decide +kernel
theorem dX0_orderEnds_41 : decode cX0_orderEnds 41 = .ok (.goto (-39), 3) := by decide +kernel
theorem dX0_orderEnds_44 : decode cX0_orderEnds 44 = .ok (.return_, 1) := by decide +kernel
set_option maxRecDepth 20000 in
theorem ggX0_putInOrder_X1_difference : GoodIn wsX0_putInOrder wsX1_difference := goodIn_r _ [7, 8, 9, 10, 6, 11, 12, 13, 14, 15, 16, 17, 18, 19, 20, 21, 24, 25] (by decide +kernel) (by decide +kernel)
set_option maxRecDepth 20000 in
theorem gX0_putInOrder_X1_difference : GoodIn wsX0_putInOrder (wsV RX0 44 RX1 yX1_difference wsX1_difference) := goodIn_app (goodIn_of _ (by decide +kernel)) ggX0_putInOrder_X1_difference
theorem dX0_putInOrder_0 : decode cX0_putInOrder 0 = .ok (.iload_n 2, 1) := by decide +kernel
theorem dX0_putInOrder_1 : decode cX0_putInOrder 1 = .ok (.istore_n 3, 1) := by decide +kernel
theorem dX0_putInOrder_2 : decode cX0_putInOrder 2 = .ok (.iload_n 3, 1) := by decide +kernel
theorem dX0_putInOrder_3 : decode cX0_putInOrder 3 = .ok (.ifCond .le 46, 3) := by decide +kernel
theorem dX0_putInOrder_6 : decode cX0_putInOrder 6 = .ok (.aload_n 0, 1) := by decide +kernel
theorem dX0_putInOrder_7 : decode cX0_putInOrder 7 = .ok (.getfield 12, 3) := by decide +kernel
theorem dX0_putInOrder_10 : decode cX0_putInOrder 10 = .ok (.iload_n 1, 1) := by decide +kernel
theorem dX0_putInOrder_11 : decode cX0_putInOrder 11 = .ok (.aload_n 0, 1) := by decide +kernel
theorem dX0_putInOrder_12 : decode cX0_putInOrder 12 = .ok (.getfield 12, 3) := by decide +kernel
theorem dX0_putInOrder_15 : decode cX0_putInOrder 15 = .ok (.aload_n 0, 1) := by decide +kernel
theorem dX0_putInOrder_16 : decode cX0_putInOrder 16 = .ok (.getfield 18, 3) := by decide +kernel
theorem dX0_putInOrder_19 : decode cX0_putInOrder 19 = .ok (.iload_n 3, 1) := by decide +kernel
theorem dX0_putInOrder_20 : decode cX0_putInOrder 20 = .ok (.iconst 1, 1) := by decide +kernel
theorem dX0_putInOrder_21 : decode cX0_putInOrder 21 = .ok (.isub, 1) := by decide +kernel
theorem dX0_putInOrder_22 : decode cX0_putInOrder 22 = .ok (.iaload, 1) := by decide +kernel
theorem dX0_putInOrder_23 : decode cX0_putInOrder 23 = .ok (.invokevirtual 44, 3) := by decide +kernel
theorem dX0_putInOrder_26 : decode cX0_putInOrder 26 = .ok (.ifCond .ge 23, 3) := by decide +kernel
theorem dX0_putInOrder_29 : decode cX0_putInOrder 29 = .ok (.aload_n 0, 1) := by decide +kernel
theorem dX0_putInOrder_30 : decode cX0_putInOrder 30 = .ok (.getfield 18, 3) := by decide +kernel
theorem dX0_putInOrder_33 : decode cX0_putInOrder 33 = .ok (.iload_n 3, 1) := by decide +kernel
theorem dX0_putInOrder_34 : decode cX0_putInOrder 34 = .ok (.aload_n 0, 1) := by decide +kernel
theorem dX0_putInOrder_35 : decode cX0_putInOrder 35 = .ok (.getfield 18, 3) := by decide +kernel
theorem dX0_putInOrder_38 : decode cX0_putInOrder 38 = .ok (.iload_n 3, 1) := by decide +kernel
theorem dX0_putInOrder_39 : decode cX0_putInOrder 39 = .ok (.iconst 1, 1) := by decide +kernel
theorem dX0_putInOrder_40 : decode cX0_putInOrder 40 = .ok (.isub, 1) := by decide +kernel
theorem dX0_putInOrder_41 : decode cX0_putInOrder 41 = .ok (.iaload, 1) := by decide +kernel
theorem dX0_putInOrder_42 : decode cX0_putInOrder 42 = .ok (.iastore, 1) := by decide +kernel
theorem dX0_putInOrder_43 : decode cX0_putInOrder 43 = .ok (.iinc 3 (-1), 3) := by decide +kernel
theorem dX0_putInOrder_46 : decode cX0_putInOrder 46 = .ok (.goto (-44), 3) := by decide +kernel
theorem dX0_putInOrder_49 : decode cX0_putInOrder 49 = .ok (.aload_n 0, 1) := by decide +kernel
theorem dX0_putInOrder_50 : decode cX0_putInOrder 50 = .ok (.getfield 18, 3) := by decide +kernel
theorem dX0_putInOrder_53 : decode cX0_putInOrder 53 = .ok (.iload_n 3, 1) := by decide +kernel
theorem dX0_putInOrder_54 : decode cX0_putInOrder 54 = .ok (.iload_n 1, 1) := by decide +kernel
theorem dX0_putInOrder_55 : decode cX0_putInOrder 55 = .ok (.iastore, 1) := by decide +kernel
theorem dX0_putInOrder_56 : decode cX0_putInOrder 56 = .ok (.return_, 1) := by decide +kernel
theorem dX0_placeAt_0 : decode cX0_placeAt 0 = .ok (.iload_n 1, 1) := by decide +kernel
theorem dX0_placeAt_1 : decode cX0_placeAt 1 = .ok (.ifCond .lt 23, 3) := by decide +kernel
theorem dX0_placeAt_4 : decode cX0_placeAt 4 = .ok (.iload_n 1, 1) := by decide +kernel
theorem dX0_placeAt_5 : decode cX0_placeAt 5 = .ok (.aload_n 0, 1) := by decide +kernel
theorem dX0_placeAt_6 : decode cX0_placeAt 6 = .ok (.getfield 12, 3) := by decide +kernel
theorem dX0_placeAt_9 : decode cX0_placeAt 9 = .ok (.getfield 36, 3) := by decide +kernel
theorem dX0_placeAt_12 : decode cX0_placeAt 12 = .ok (.if_icmp .ge 12, 3) := by decide +kernel
theorem dX0_placeAt_15 : decode cX0_placeAt 15 = .ok (.iload_n 1, 1) := by decide +kernel
theorem dX0_placeAt_16 : decode cX0_placeAt 16 = .ok (.aload_n 0, 1) := by decide +kernel
theorem dX0_placeAt_17 : decode cX0_placeAt 17 = .ok (.getfield 18, 3) := by decide +kernel
theorem dX0_placeAt_20 : decode cX0_placeAt 20 = .ok (.arraylength, 1) := by decide +kernel
theorem dX0_placeAt_21 : decode cX0_placeAt 21 = .ok (.if_icmp .lt 5, 3) := by decide +kernel
theorem dX0_placeAt_24 : decode cX0_placeAt 24 = .ok (.iconst (-1), 1) := by decide +kernel
theorem dX0_placeAt_25 : decode cX0_placeAt 25 = .ok (.ireturn, 1) := by decide +kernel
theorem dX0_placeAt_26 : decode cX0_placeAt 26 = .ok (.aload_n 0, 1) := by decide +kernel
theorem dX0_placeAt_27 : decode cX0_placeAt 27 = .ok (.getfield 18, 3) := by decide +kernel
theorem dX0_placeAt_30 : decode cX0_placeAt 30 = .ok (.iload_n 1, 1) := by decide +kernel
theorem dX0_placeAt_31 : decode cX0_placeAt 31 = .ok (.iaload, 1) := by decide +kernel
theorem dX0_placeAt_32 : decode cX0_placeAt 32 = .ok (.ireturn, 1) := by decide +kernel
set_option maxRecDepth 20000 in
theorem ggX0_rankOf_X0_placeAt : GoodIn wsX0_rankOf wsX0_placeAt := goodIn_r _ [6, 1, 7, 8, 9, 10, 11] (by decide +kernel) (by decide +kernel)
set_option maxRecDepth 20000 in
theorem gX0_rankOf_X0_placeAt : GoodIn wsX0_rankOf (wsV RX0 48 RX0 yX0_placeAt wsX0_placeAt) := goodIn_app (goodIn_of _ (by decide +kernel)) ggX0_rankOf_X0_placeAt
theorem dX0_rankOf_0 : decode cX0_rankOf 0 = .ok (.iconst 0, 1) := by decide +kernel
theorem dX0_rankOf_1 : decode cX0_rankOf 1 = .ok (.istore_n 2, 1) := by decide +kernel
theorem dX0_rankOf_2 : decode cX0_rankOf 2 = .ok (.iload_n 2, 1) := by decide +kernel
theorem dX0_rankOf_3 : decode cX0_rankOf 3 = .ok (.aload_n 0, 1) := by decide +kernel
theorem dX0_rankOf_4 : decode cX0_rankOf 4 = .ok (.getfield 12, 3) := by decide +kernel
theorem dX0_rankOf_7 : decode cX0_rankOf 7 = .ok (.getfield 36, 3) := by decide +kernel
theorem dX0_rankOf_10 : decode cX0_rankOf 10 = .ok (.if_icmp .ge 20, 3) := by decide +kernel
theorem dX0_rankOf_13 : decode cX0_rankOf 13 = .ok (.aload_n 0, 1) := by decide +kernel
theorem dX0_rankOf_14 : decode cX0_rankOf 14 = .ok (.iload_n 2, 1) := by decide +kernel
theorem dX0_rankOf_15 : decode cX0_rankOf 15 = .ok (.invokevirtual 48, 3) := by decide +kernel
theorem dX0_rankOf_18 : decode cX0_rankOf 18 = .ok (.iload_n 1, 1) := by decide +kernel
theorem dX0_rankOf_19 : decode cX0_rankOf 19 = .ok (.if_icmp .ne 5, 3) := by decide +kernel
theorem dX0_rankOf_22 : decode cX0_rankOf 22 = .ok (.iload_n 2, 1) := by decide +kernel
theorem dX0_rankOf_23 : decode cX0_rankOf 23 = .ok (.ireturn, 1) := by decide +kernel
theorem dX0_rankOf_24 : decode cX0_rankOf 24 = .ok (.iinc 2 1, 3) := by decide +kernel
theorem dX0_rankOf_27 : decode cX0_rankOf 27 = .ok (.goto (-25), 3) := by decide +kernel
theorem dX0_rankOf_30 : decode cX0_rankOf 30 = .ok (.iconst (-1), 1) := by decide +kernel
theorem dX0_rankOf_31 : decode cX0_rankOf 31 = .ok (.ireturn, 1) := by decide +kernel
set_option maxRecDepth 20000 in
theorem ggX0_sharedWithNext_X0_placeAt : GoodIn wsX0_sharedWithNext wsX0_placeAt := goodIn_r _ [6, 1, 7, 23, 24, 25, 26] (by decide +kernel) (by decide +kernel)
set_option maxRecDepth 20000 in
theorem gX0_sharedWithNext_X0_placeAt : GoodIn wsX0_sharedWithNext (wsV RX0 48 RX0 yX0_placeAt wsX0_placeAt) := goodIn_app (goodIn_of _ (by decide +kernel)) ggX0_sharedWithNext_X0_placeAt
set_option maxRecDepth 20000 in
theorem ggX0_sharedWithNext_X1_sharedWith : GoodIn wsX0_sharedWithNext wsX1_sharedWith := goodIn_r _ [12, 13, 14, 15, 16, 17, 18, 19, 20, 11, 21, 22, 25, 26] (by decide +kernel) (by decide +kernel)
set_option maxRecDepth 20000 in
theorem gX0_sharedWithNext_X1_sharedWith : GoodIn wsX0_sharedWithNext (wsV RX0 51 RX1 yX1_sharedWith wsX1_sharedWith) := goodIn_app (goodIn_of _ (by decide +kernel)) ggX0_sharedWithNext_X1_sharedWith
theorem dX0_sharedWithNext_0 : decode cX0_sharedWithNext 0 = .ok (.aload_n 0, 1) := by decide +kernel
theorem dX0_sharedWithNext_1 : decode cX0_sharedWithNext 1 = .ok (.iload_n 1, 1) := by decide +kernel
theorem dX0_sharedWithNext_2 : decode cX0_sharedWithNext 2 = .ok (.invokevirtual 48, 3) := by decide +kernel
theorem dX0_sharedWithNext_5 : decode cX0_sharedWithNext 5 = .ok (.istore_n 2, 1) := by decide +kernel
theorem dX0_sharedWithNext_6 : decode cX0_sharedWithNext 6 = .ok (.aload_n 0, 1) := by decide +kernel
theorem dX0_sharedWithNext_7 : decode cX0_sharedWithNext 7 = .ok (.iload_n 1, 1) := by decide +kernel
theorem dX0_sharedWithNext_8 : decode cX0_sharedWithNext 8 = .ok (.iconst 1, 1) := by decide +kernel
theorem dX0_sharedWithNext_9 : decode cX0_sharedWithNext 9 = .ok (.iadd, 1) := by decide +kernel
theorem dX0_sharedWithNext_10 : decode cX0_sharedWithNext 10 = .ok (.invokevirtual 48, 3) := by decide +kernel
theorem dX0_sharedWithNext_13 : decode cX0_sharedWithNext 13 = .ok (.istore_n 3, 1) := by decide +kernel
theorem dX0_sharedWithNext_14 : decode cX0_sharedWithNext 14 = .ok (.iload_n 2, 1) := by decide +kernel
theorem dX0_sharedWithNext_15 : decode cX0_sharedWithNext 15 = .ok (.iconst (-1), 1) := by decide +kernel
theorem dX0_sharedWithNext_16 : decode cX0_sharedWithNext 16 = .ok (.if_icmp .eq 8, 3) := by decide +kernel
theorem dX0_sharedWithNext_19 : decode cX0_sharedWithNext 19 = .ok (.iload_n 3, 1) := by decide +kernel
theorem dX0_sharedWithNext_20 : decode cX0_sharedWithNext 20 = .ok (.iconst (-1), 1) := by decide +kernel
theorem dX0_sharedWithNext_21 : decode cX0_sharedWithNext 21 = .ok (.if_icmp .ne 5, 3) := by decide +kernel
theorem dX0_sharedWithNext_24 : decode cX0_sharedWithNext 24 = .ok (.iconst 0, 1) := by decide +kernel
theorem dX0_sharedWithNext_25 : decode cX0_sharedWithNext 25 = .ok (.ireturn, 1) := by decide +kernel
theorem dX0_sharedWithNext_26 : decode cX0_sharedWithNext 26 = .ok (.aload_n 0, 1) := by decide +kernel
theorem dX0_sharedWithNext_27 : decode cX0_sharedWithNext 27 = .ok (.getfield 12, 3) := by decide +kernel
theorem dX0_sharedWithNext_30 : decode cX0_sharedWithNext 30 = .ok (.iload_n 2, 1) := by decide +kernel
theorem dX0_sharedWithNext_31 : decode cX0_sharedWithNext 31 = .ok (.aload_n 0, 1) := by decide +kernel
theorem dX0_sharedWithNext_32 : decode cX0_sharedWithNext 32 = .ok (.getfield 12, 3) := by decide +kernel
theorem dX0_sharedWithNext_35 : decode cX0_sharedWithNext 35 = .ok (.iload_n 3, 1) := by decide +kernel
theorem dX0_sharedWithNext_36 : decode cX0_sharedWithNext 36 = .ok (.invokevirtual 51, 3) := by decide +kernel
theorem dX0_sharedWithNext_39 : decode cX0_sharedWithNext 39 = .ok (.ireturn, 1) := by decide +kernel
theorem dX0_neighbourPairs_0 : decode cX0_neighbourPairs 0 = .ok (.aload_n 0, 1) := by decide +kernel
theorem dX0_neighbourPairs_1 : decode cX0_neighbourPairs 1 = .ok (.getfield 12, 3) := by decide +kernel
theorem dX0_neighbourPairs_4 : decode cX0_neighbourPairs 4 = .ok (.getfield 36, 3) := by decide +kernel
theorem dX0_neighbourPairs_7 : decode cX0_neighbourPairs 7 = .ok (.ifCond .ne 7, 3) := by decide +kernel
theorem dX0_neighbourPairs_10 : decode cX0_neighbourPairs 10 = .ok (.iconst 0, 1) := by decide +kernel
theorem dX0_neighbourPairs_11 : decode cX0_neighbourPairs 11 = .ok (.goto 12, 3) := by decide +kernel
theorem dX0_neighbourPairs_14 : decode cX0_neighbourPairs 14 = .ok (.aload_n 0, 1) := by decide +kernel
theorem dX0_neighbourPairs_15 : decode cX0_neighbourPairs 15 = .ok (.getfield 12, 3) := by decide +kernel
theorem dX0_neighbourPairs_18 : decode cX0_neighbourPairs 18 = .ok (.getfield 36, 3) := by decide +kernel
theorem dX0_neighbourPairs_21 : decode cX0_neighbourPairs 21 = .ok (.iconst 1, 1) := by decide +kernel
theorem dX0_neighbourPairs_22 : decode cX0_neighbourPairs 22 = .ok (.isub, 1) := by decide +kernel
theorem dX0_neighbourPairs_23 : decode cX0_neighbourPairs 23 = .ok (.ireturn, 1) := by decide +kernel
set_option maxRecDepth 20000 in
theorem ggX0_sharedByNeighbours_X0_sharedWithNext : GoodIn wsX0_sharedByNeighbours wsX0_sharedWithNext := goodIn_r _ [6, 1, 7, 8, 9, 5, 10, 11, 12, 13, 14, 15, 16, 17, 18, 19, 20, 21, 22, 23, 24, 25, 26, 27, 28, 29, 30] (by decide +kernel) (by decide +kernel)
set_option maxRecDepth 20000 in
theorem gX0_sharedByNeighbours_X0_sharedWithNext : GoodIn wsX0_sharedByNeighbours (wsV RX0 54 RX0 yX0_sharedWithNext wsX0_sharedWithNext) := goodIn_app (goodIn_of _ (by decide +kernel)) ggX0_sharedByNeighbours_X0_sharedWithNext
theorem dX0_sharedByNeighbours_0 : decode cX0_sharedByNeighbours 0 = .ok (.iconst 0, 1) := by decide +kernel
theorem dX0_sharedByNeighbours_1 : decode cX0_sharedByNeighbours 1 = .ok (.istore_n 1, 1) := by decide +kernel
theorem dX0_sharedByNeighbours_2 : decode cX0_sharedByNeighbours 2 = .ok (.iconst 0, 1) := by decide +kernel
theorem dX0_sharedByNeighbours_3 : decode cX0_sharedByNeighbours 3 = .ok (.istore_n 2, 1) := by decide +kernel
theorem dX0_sharedByNeighbours_4 : decode cX0_sharedByNeighbours 4 = .ok (.iload_n 2, 1) := by decide +kernel
theorem dX0_sharedByNeighbours_5 : decode cX0_sharedByNeighbours 5 = .ok (.aload_n 0, 1) := by decide +kernel
theorem dX0_sharedByNeighbours_6 : decode cX0_sharedByNeighbours 6 = .ok (.getfield 12, 3) := by decide +kernel
theorem dX0_sharedByNeighbours_9 : decode cX0_sharedByNeighbours 9 = .ok (.getfield 36, 3) := by decide +kernel
theorem dX0_sharedByNeighbours_12 : decode cX0_sharedByNeighbours 12 = .ok (.if_icmp .ge 17, 3) := by decide +kernel
theorem dX0_sharedByNeighbours_15 : decode cX0_sharedByNeighbours 15 = .ok (.iload_n 1, 1) := by decide +kernel
theorem dX0_sharedByNeighbours_16 : decode cX0_sharedByNeighbours 16 = .ok (.aload_n 0, 1) := by decide +kernel
theorem dX0_sharedByNeighbours_17 : decode cX0_sharedByNeighbours 17 = .ok (.iload_n 2, 1) := by decide +kernel
theorem dX0_sharedByNeighbours_18 : decode cX0_sharedByNeighbours 18 = .ok (.invokevirtual 54, 3) := by decide +kernel
theorem dX0_sharedByNeighbours_21 : decode cX0_sharedByNeighbours 21 = .ok (.iadd, 1) := by decide +kernel
theorem dX0_sharedByNeighbours_22 : decode cX0_sharedByNeighbours 22 = .ok (.istore_n 1, 1) := by decide +kernel
theorem dX0_sharedByNeighbours_23 : decode cX0_sharedByNeighbours 23 = .ok (.iinc 2 1, 3) := by decide +kernel
theorem dX0_sharedByNeighbours_26 : decode cX0_sharedByNeighbours 26 = .ok (.goto (-22), 3) := by decide +kernel
theorem dX0_sharedByNeighbours_29 : decode cX0_sharedByNeighbours 29 = .ok (.iload_n 1, 1) := by decide +kernel
theorem dX0_sharedByNeighbours_30 : decode cX0_sharedByNeighbours 30 = .ok (.ireturn, 1) := by decide +kernel
set_option maxRecDepth 20000 in
theorem ggX0_rowsFirstAt_X0_placeAt : GoodIn wsX0_rowsFirstAt wsX0_placeAt := goodIn_r _ [6, 1, 7, 27, 28, 29, 30] (by decide +kernel) (by decide +kernel)
set_option maxRecDepth 20000 in
theorem gX0_rowsFirstAt_X0_placeAt : GoodIn wsX0_rowsFirstAt (wsV RX0 48 RX0 yX0_placeAt wsX0_placeAt) := goodIn_app (goodIn_of _ (by decide +kernel)) ggX0_rowsFirstAt_X0_placeAt
set_option maxRecDepth 20000 in
theorem ggX0_rowsFirstAt_X0_sharedWithNext : GoodIn wsX0_rowsFirstAt wsX0_sharedWithNext := goodIn_r _ [11, 1, 2, 3, 4, 5, 6, 7, 12, 13, 14, 15, 16, 17, 18, 19, 20, 21, 22, 23, 24, 25, 26, 27, 28, 29, 30] (by decide +kernel) (by decide +kernel)
set_option maxRecDepth 20000 in
theorem gX0_rowsFirstAt_X0_sharedWithNext : GoodIn wsX0_rowsFirstAt (wsV RX0 54 RX0 yX0_sharedWithNext wsX0_sharedWithNext) := goodIn_app (goodIn_of _ (by decide +kernel)) ggX0_rowsFirstAt_X0_sharedWithNext
theorem dX0_rowsFirstAt_0 : decode cX0_rowsFirstAt 0 = .ok (.aload_n 0, 1) := by decide +kernel
theorem dX0_rowsFirstAt_1 : decode cX0_rowsFirstAt 1 = .ok (.getfield 12, 3) := by decide +kernel
theorem dX0_rowsFirstAt_4 : decode cX0_rowsFirstAt 4 = .ok (.getfield 36, 3) := by decide +kernel
theorem dX0_rowsFirstAt_7 : decode cX0_rowsFirstAt 7 = .ok (.aload_n 0, 1) := by decide +kernel
theorem dX0_rowsFirstAt_8 : decode cX0_rowsFirstAt 8 = .ok (.iload_n 1, 1) := by decide +kernel
theorem dX0_rowsFirstAt_9 : decode cX0_rowsFirstAt 9 = .ok (.invokevirtual 48, 3) := by decide +kernel
theorem dX0_rowsFirstAt_12 : decode cX0_rowsFirstAt 12 = .ok (.isub, 1) := by decide +kernel
theorem dX0_rowsFirstAt_13 : decode cX0_rowsFirstAt 13 = .ok (.aload_n 0, 1) := by decide +kernel
theorem dX0_rowsFirstAt_14 : decode cX0_rowsFirstAt 14 = .ok (.iload_n 1, 1) := by decide +kernel
theorem dX0_rowsFirstAt_15 : decode cX0_rowsFirstAt 15 = .ok (.iconst 1, 1) := by decide +kernel
theorem dX0_rowsFirstAt_16 : decode cX0_rowsFirstAt 16 = .ok (.isub, 1) := by decide +kernel
theorem dX0_rowsFirstAt_17 : decode cX0_rowsFirstAt 17 = .ok (.invokevirtual 54, 3) := by decide +kernel
theorem dX0_rowsFirstAt_20 : decode cX0_rowsFirstAt 20 = .ok (.isub, 1) := by decide +kernel
theorem dX0_rowsFirstAt_21 : decode cX0_rowsFirstAt 21 = .ok (.ireturn, 1) := by decide +kernel
set_option maxRecDepth 20000 in
theorem ggX0_differentRows_X0_rowsFirstAt : GoodIn wsX0_differentRows wsX0_rowsFirstAt := goodIn_r _ [6, 1, 7, 8, 9, 5, 10, 11, 12, 13, 14, 15, 16, 17, 18, 19, 20, 21, 22, 23, 24, 25, 26, 27, 28, 29, 30, 31, 32, 33, 34] (by decide +kernel) (by decide +kernel)
set_option maxRecDepth 20000 in
theorem gX0_differentRows_X0_rowsFirstAt : GoodIn wsX0_differentRows (wsV RX0 57 RX0 yX0_rowsFirstAt wsX0_rowsFirstAt) := goodIn_app (goodIn_of _ (by decide +kernel)) ggX0_differentRows_X0_rowsFirstAt
theorem dX0_differentRows_0 : decode cX0_differentRows 0 = .ok (.iconst 0, 1) := by decide +kernel
theorem dX0_differentRows_1 : decode cX0_differentRows 1 = .ok (.istore_n 1, 1) := by decide +kernel
theorem dX0_differentRows_2 : decode cX0_differentRows 2 = .ok (.iconst 0, 1) := by decide +kernel
theorem dX0_differentRows_3 : decode cX0_differentRows 3 = .ok (.istore_n 2, 1) := by decide +kernel
theorem dX0_differentRows_4 : decode cX0_differentRows 4 = .ok (.iload_n 2, 1) := by decide +kernel
theorem dX0_differentRows_5 : decode cX0_differentRows 5 = .ok (.aload_n 0, 1) := by decide +kernel
theorem dX0_differentRows_6 : decode cX0_differentRows 6 = .ok (.getfield 12, 3) := by decide +kernel
theorem dX0_differentRows_9 : decode cX0_differentRows 9 = .ok (.getfield 36, 3) := by decide +kernel
theorem dX0_differentRows_12 : decode cX0_differentRows 12 = .ok (.if_icmp .ge 17, 3) := by decide +kernel
theorem dX0_differentRows_15 : decode cX0_differentRows 15 = .ok (.iload_n 1, 1) := by decide +kernel
theorem dX0_differentRows_16 : decode cX0_differentRows 16 = .ok (.aload_n 0, 1) := by decide +kernel
theorem dX0_differentRows_17 : decode cX0_differentRows 17 = .ok (.iload_n 2, 1) := by decide +kernel
theorem dX0_differentRows_18 : decode cX0_differentRows 18 = .ok (.invokevirtual 57, 3) := by decide +kernel
theorem dX0_differentRows_21 : decode cX0_differentRows 21 = .ok (.iadd, 1) := by decide +kernel
theorem dX0_differentRows_22 : decode cX0_differentRows 22 = .ok (.istore_n 1, 1) := by decide +kernel
theorem dX0_differentRows_23 : decode cX0_differentRows 23 = .ok (.iinc 2 1, 3) := by decide +kernel
theorem dX0_differentRows_26 : decode cX0_differentRows 26 = .ok (.goto (-22), 3) := by decide +kernel
theorem dX0_differentRows_29 : decode cX0_differentRows 29 = .ok (.iload_n 1, 1) := by decide +kernel
theorem dX0_differentRows_30 : decode cX0_differentRows 30 = .ok (.ireturn, 1) := by decide +kernel
set_option maxRecDepth 20000 in
theorem ggX0_rowOfNumber_X0_rowsFirstAt : GoodIn wsX0_rowOfNumber wsX0_rowsFirstAt := goodIn_r _ [6, 1, 7, 8, 9, 5, 10, 11, 12, 13, 14, 15, 16, 17, 18, 19, 20, 21, 22, 23, 24, 25, 26, 27, 28, 29, 30, 40, 41, 42, 43] (by decide +kernel) (by decide +kernel)
set_option maxRecDepth 20000 in
theorem gX0_rowOfNumber_X0_rowsFirstAt : GoodIn wsX0_rowOfNumber (wsV RX0 57 RX0 yX0_rowsFirstAt wsX0_rowsFirstAt) := goodIn_app (goodIn_of _ (by decide +kernel)) ggX0_rowOfNumber_X0_rowsFirstAt
set_option maxRecDepth 20000 in
theorem ggX0_rowOfNumber_X0_sharedWithNext : GoodIn wsX0_rowOfNumber wsX0_sharedWithNext := goodIn_r _ [15, 1, 7, 8, 9, 5, 10, 11, 16, 17, 18, 19, 20, 21, 22, 23, 24, 25, 26, 27, 28, 29, 30, 40, 41, 42, 43] (by decide +kernel) (by decide +kernel)
set_option maxRecDepth 20000 in
theorem gX0_rowOfNumber_X0_sharedWithNext : GoodIn wsX0_rowOfNumber (wsV RX0 54 RX0 yX0_sharedWithNext wsX0_sharedWithNext) := goodIn_app (goodIn_of _ (by decide +kernel)) ggX0_rowOfNumber_X0_sharedWithNext
set_option maxRecDepth 20000 in
theorem ggX0_rowOfNumber_X0_placeAt : GoodIn wsX0_rowOfNumber wsX0_placeAt := goodIn_r _ [10, 1, 11, 40, 41, 42, 43] (by decide +kernel) (by decide +kernel)
set_option maxRecDepth 20000 in
theorem gX0_rowOfNumber_X0_placeAt : GoodIn wsX0_rowOfNumber (wsV RX0 48 RX0 yX0_placeAt wsX0_placeAt) := goodIn_app (goodIn_of _ (by decide +kernel)) ggX0_rowOfNumber_X0_placeAt
set_option maxRecDepth 20000 in
theorem ggX0_rowOfNumber_X1_firstPlaceOf : GoodIn wsX0_rowOfNumber wsX1_firstPlaceOf := goodIn_r _ [34, 21, 35, 36, 37, 19, 38, 39, 17, 18, 20, 22, 23, 24, 25, 26, 27, 28, 29, 30, 42, 43] (by decide +kernel) (by decide +kernel)
set_option maxRecDepth 20000 in
theorem gX0_rowOfNumber_X1_firstPlaceOf : GoodIn wsX0_rowOfNumber (wsV RX0 60 RX1 yX1_firstPlaceOf wsX1_firstPlaceOf) := goodIn_app (goodIn_of _ (by decide +kernel)) ggX0_rowOfNumber_X1_firstPlaceOf
theorem dX0_rowOfNumber_0 : decode cX0_rowOfNumber 0 = .ok (.iload_n 1, 1) := by decide +kernel
theorem dX0_rowOfNumber_1 : decode cX0_rowOfNumber 1 = .ok (.istore_n 2, 1) := by decide +kernel
theorem dX0_rowOfNumber_2 : decode cX0_rowOfNumber 2 = .ok (.iconst 0, 1) := by decide +kernel
theorem dX0_rowOfNumber_3 : decode cX0_rowOfNumber 3 = .ok (.istore_n 3, 1) := by decide +kernel
theorem dX0_rowOfNumber_4 : decode cX0_rowOfNumber 4 = .ok (.iload_n 3, 1) := by decide +kernel
theorem dX0_rowOfNumber_5 : decode cX0_rowOfNumber 5 = .ok (.aload_n 0, 1) := by decide +kernel
theorem dX0_rowOfNumber_6 : decode cX0_rowOfNumber 6 = .ok (.getfield 12, 3) := by decide +kernel
theorem dX0_rowOfNumber_9 : decode cX0_rowOfNumber 9 = .ok (.getfield 36, 3) := by decide +kernel
theorem dX0_rowOfNumber_12 : decode cX0_rowOfNumber 12 = .ok (.if_icmp .ge 65, 3) := by decide +kernel
theorem dX0_rowOfNumber_15 : decode cX0_rowOfNumber 15 = .ok (.aload_n 0, 1) := by decide +kernel
theorem dX0_rowOfNumber_16 : decode cX0_rowOfNumber 16 = .ok (.iload_n 3, 1) := by decide +kernel
theorem dX0_rowOfNumber_17 : decode cX0_rowOfNumber 17 = .ok (.invokevirtual 57, 3) := by decide +kernel
theorem dX0_rowOfNumber_20 : decode cX0_rowOfNumber 20 = .ok (.istore 4, 2) := by decide +kernel
theorem dX0_rowOfNumber_22 : decode cX0_rowOfNumber 22 = .ok (.iload_n 2, 1) := by decide +kernel
theorem dX0_rowOfNumber_23 : decode cX0_rowOfNumber 23 = .ok (.iload 4, 2) := by decide +kernel
theorem dX0_rowOfNumber_25 : decode cX0_rowOfNumber 25 = .ok (.if_icmp .ge 41, 3) := by decide +kernel
theorem dX0_rowOfNumber_28 : decode cX0_rowOfNumber 28 = .ok (.aload_n 0, 1) := by decide +kernel
theorem dX0_rowOfNumber_29 : decode cX0_rowOfNumber 29 = .ok (.iload_n 3, 1) := by decide +kernel
theorem dX0_rowOfNumber_30 : decode cX0_rowOfNumber 30 = .ok (.iconst 1, 1) := by decide +kernel
theorem dX0_rowOfNumber_31 : decode cX0_rowOfNumber 31 = .ok (.isub, 1) := by decide +kernel
theorem dX0_rowOfNumber_32 : decode cX0_rowOfNumber 32 = .ok (.invokevirtual 54, 3) := by decide +kernel
theorem dX0_rowOfNumber_35 : decode cX0_rowOfNumber 35 = .ok (.iload_n 2, 1) := by decide +kernel
theorem dX0_rowOfNumber_36 : decode cX0_rowOfNumber 36 = .ok (.iadd, 1) := by decide +kernel
theorem dX0_rowOfNumber_37 : decode cX0_rowOfNumber 37 = .ok (.iconst 1, 1) := by decide +kernel
theorem dX0_rowOfNumber_38 : decode cX0_rowOfNumber 38 = .ok (.iadd, 1) := by decide +kernel
theorem dX0_rowOfNumber_39 : decode cX0_rowOfNumber 39 = .ok (.istore 5, 2) := by decide +kernel
theorem dX0_rowOfNumber_41 : decode cX0_rowOfNumber 41 = .ok (.bipush 64, 2) := by decide +kernel
theorem dX0_rowOfNumber_43 : decode cX0_rowOfNumber 43 = .ok (.aload_n 0, 1) := by decide +kernel
theorem dX0_rowOfNumber_44 : decode cX0_rowOfNumber 44 = .ok (.getfield 12, 3) := by decide +kernel
theorem dX0_rowOfNumber_47 : decode cX0_rowOfNumber 47 = .ok (.aload_n 0, 1) := by decide +kernel
theorem dX0_rowOfNumber_48 : decode cX0_rowOfNumber 48 = .ok (.getfield 12, 3) := by decide +kernel
theorem dX0_rowOfNumber_51 : decode cX0_rowOfNumber 51 = .ok (.aload_n 0, 1) := by decide +kernel
theorem dX0_rowOfNumber_52 : decode cX0_rowOfNumber 52 = .ok (.iload_n 3, 1) := by decide +kernel
theorem dX0_rowOfNumber_53 : decode cX0_rowOfNumber 53 = .ok (.invokevirtual 48, 3) := by decide +kernel
theorem dX0_rowOfNumber_56 : decode cX0_rowOfNumber 56 = .ok (.iload 5, 2) := by decide +kernel
theorem dX0_rowOfNumber_58 : decode cX0_rowOfNumber 58 = .ok (.invokevirtual 60, 3) := by decide +kernel
theorem dX0_rowOfNumber_61 : decode cX0_rowOfNumber 61 = .ok (.imul, 1) := by decide +kernel
theorem dX0_rowOfNumber_62 : decode cX0_rowOfNumber 62 = .ok (.iload 5, 2) := by decide +kernel
theorem dX0_rowOfNumber_64 : decode cX0_rowOfNumber 64 = .ok (.iadd, 1) := by decide +kernel
theorem dX0_rowOfNumber_65 : decode cX0_rowOfNumber 65 = .ok (.ireturn, 1) := by decide +kernel
theorem dX0_rowOfNumber_66 : decode cX0_rowOfNumber 66 = .ok (.iload_n 2, 1) := by decide +kernel
theorem dX0_rowOfNumber_67 : decode cX0_rowOfNumber 67 = .ok (.iload 4, 2) := by decide +kernel
theorem dX0_rowOfNumber_69 : decode cX0_rowOfNumber 69 = .ok (.isub, 1) := by decide +kernel
theorem dX0_rowOfNumber_70 : decode cX0_rowOfNumber 70 = .ok (.istore_n 2, 1) := by decide +kernel
theorem dX0_rowOfNumber_71 : decode cX0_rowOfNumber 71 = .ok (.iinc 3 1, 3) := by decide +kernel
theorem dX0_rowOfNumber_74 : decode cX0_rowOfNumber 74 = .ok (.goto (-70), 3) := by decide +kernel
theorem dX0_rowOfNumber_77 : decode cX0_rowOfNumber 77 = .ok (.iconst (-1), 1) := by decide +kernel
theorem dX0_rowOfNumber_78 : decode cX0_rowOfNumber 78 = .ok (.ireturn, 1) := by decide +kernel
set_option maxRecDepth 20000 in
theorem ggX0_repeatRank_X0_sharedWithNext : GoodIn wsX0_repeatRank wsX0_sharedWithNext := goodIn_r _ [6, 1, 7, 8, 9, 5, 10, 11, 12, 13, 14, 15, 16, 17, 18, 19, 20, 21, 22, 23, 24, 25, 26, 27, 28, 29, 30] (by decide +kernel) (by decide +kernel)
set_option maxRecDepth 20000 in
theorem gX0_repeatRank_X0_sharedWithNext : GoodIn wsX0_repeatRank (wsV RX0 54 RX0 yX0_sharedWithNext wsX0_sharedWithNext) := goodIn_app (goodIn_of _ (by decide +kernel)) ggX0_repeatRank_X0_sharedWithNext
theorem dX0_repeatRank_0 : decode cX0_repeatRank 0 = .ok (.iconst (-1), 1) := by decide +kernel
theorem dX0_repeatRank_1 : decode cX0_repeatRank 1 = .ok (.istore_n 1, 1) := by decide +kernel
theorem dX0_repeatRank_2 : decode cX0_repeatRank 2 = .ok (.iconst 0, 1) := by decide +kernel
theorem dX0_repeatRank_3 : decode cX0_repeatRank 3 = .ok (.istore_n 2, 1) := by decide +kernel
theorem dX0_repeatRank_4 : decode cX0_repeatRank 4 = .ok (.iconst 0, 1) := by decide +kernel
theorem dX0_repeatRank_5 : decode cX0_repeatRank 5 = .ok (.istore_n 3, 1) := by decide +kernel
theorem dX0_repeatRank_6 : decode cX0_repeatRank 6 = .ok (.iload_n 3, 1) := by decide +kernel
theorem dX0_repeatRank_7 : decode cX0_repeatRank 7 = .ok (.aload_n 0, 1) := by decide +kernel
theorem dX0_repeatRank_8 : decode cX0_repeatRank 8 = .ok (.getfield 12, 3) := by decide +kernel
theorem dX0_repeatRank_11 : decode cX0_repeatRank 11 = .ok (.getfield 36, 3) := by decide +kernel
theorem dX0_repeatRank_14 : decode cX0_repeatRank 14 = .ok (.if_icmp .ge 27, 3) := by decide +kernel
theorem dX0_repeatRank_17 : decode cX0_repeatRank 17 = .ok (.aload_n 0, 1) := by decide +kernel
theorem dX0_repeatRank_18 : decode cX0_repeatRank 18 = .ok (.iload_n 3, 1) := by decide +kernel
theorem dX0_repeatRank_19 : decode cX0_repeatRank 19 = .ok (.invokevirtual 54, 3) := by decide +kernel
theorem dX0_repeatRank_22 : decode cX0_repeatRank 22 = .ok (.istore 4, 2) := by decide +kernel
theorem dX0_repeatRank_24 : decode cX0_repeatRank 24 = .ok (.iload 4, 2) := by decide +kernel
theorem dX0_repeatRank_26 : decode cX0_repeatRank 26 = .ok (.iload_n 2, 1) := by decide +kernel
theorem dX0_repeatRank_27 : decode cX0_repeatRank 27 = .ok (.if_icmp .le 8, 3) := by decide +kernel
theorem dX0_repeatRank_30 : decode cX0_repeatRank 30 = .ok (.iload_n 3, 1) := by decide +kernel
theorem dX0_repeatRank_31 : decode cX0_repeatRank 31 = .ok (.istore_n 1, 1) := by decide +kernel
theorem dX0_repeatRank_32 : decode cX0_repeatRank 32 = .ok (.iload 4, 2) := by decide +kernel
theorem dX0_repeatRank_34 : decode cX0_repeatRank 34 = .ok (.istore_n 2, 1) := by decide +kernel
theorem dX0_repeatRank_35 : decode cX0_repeatRank 35 = .ok (.iinc 3 1, 3) := by decide +kernel
theorem dX0_repeatRank_38 : decode cX0_repeatRank 38 = .ok (.goto (-32), 3) := by decide +kernel
theorem dX0_repeatRank_41 : decode cX0_repeatRank 41 = .ok (.iload_n 1, 1) := by decide +kernel
theorem dX0_repeatRank_42 : decode cX0_repeatRank 42 = .ok (.ireturn, 1) := by decide +kernel
theorem dX1_init_0 : decode cX1_init 0 = .ok (.aload_n 0, 1) := by decide +kernel
theorem dX1_init_1 : decode cX1_init 1 = .ok (.invokespecial 3, 3) := by decide +kernel
theorem dX1_init_4 : decode cX1_init 4 = .ok (.aload_n 0, 1) := by decide +kernel
theorem dX1_init_5 : decode cX1_init 5 = .ok (.bipush 40, 2) := by decide +kernel
theorem dX1_init_7 : decode cX1_init 7 = .ok (.newarray .int, 2) := by decide +kernel
theorem dX1_init_9 : decode cX1_init 9 = .ok (.putfield 9, 3) := by decide +kernel
theorem dX1_init_12 : decode cX1_init 12 = .ok (.aload_n 0, 1) := by decide +kernel
theorem dX1_init_13 : decode cX1_init 13 = .ok (.iconst 0, 1) := by decide +kernel
theorem dX1_init_14 : decode cX1_init 14 = .ok (.putfield 15, 3) := by decide +kernel
theorem dX1_init_17 : decode cX1_init 17 = .ok (.return_, 1) := by decide +kernel
theorem dX1_at_0 : decode cX1_at 0 = .ok (.iload_n 1, 1) := by decide +kernel
theorem dX1_at_1 : decode cX1_at 1 = .ok (.ifCond .lt 20, 3) := by decide +kernel
theorem dX1_at_4 : decode cX1_at 4 = .ok (.iload_n 1, 1) := by decide +kernel
theorem dX1_at_5 : decode cX1_at 5 = .ok (.aload_n 0, 1) := by decide +kernel
theorem dX1_at_6 : decode cX1_at 6 = .ok (.getfield 15, 3) := by decide +kernel
theorem dX1_at_9 : decode cX1_at 9 = .ok (.if_icmp .ge 12, 3) := by decide +kernel
theorem dX1_at_12 : decode cX1_at 12 = .ok (.iload_n 1, 1) := by decide +kernel
theorem dX1_at_13 : decode cX1_at 13 = .ok (.aload_n 0, 1) := by decide +kernel
theorem dX1_at_14 : decode cX1_at 14 = .ok (.getfield 9, 3) := by decide +kernel
theorem dX1_at_17 : decode cX1_at 17 = .ok (.arraylength, 1) := by decide +kernel
theorem dX1_at_18 : decode cX1_at 18 = .ok (.if_icmp .lt 5, 3) := by decide +kernel
theorem dX1_at_21 : decode cX1_at 21 = .ok (.iconst (-1), 1) := by decide +kernel
theorem dX1_at_22 : decode cX1_at 22 = .ok (.ireturn, 1) := by decide +kernel
theorem dX1_at_23 : decode cX1_at 23 = .ok (.aload_n 0, 1) := by decide +kernel
theorem dX1_at_24 : decode cX1_at 24 = .ok (.getfield 9, 3) := by decide +kernel
theorem dX1_at_27 : decode cX1_at 27 = .ok (.iload_n 1, 1) := by decide +kernel
theorem dX1_at_28 : decode cX1_at 28 = .ok (.iaload, 1) := by decide +kernel
theorem dX1_at_29 : decode cX1_at 29 = .ok (.ireturn, 1) := by decide +kernel
theorem dX1_append_0 : decode cX1_append 0 = .ok (.aload_n 0, 1) := by decide +kernel
theorem dX1_append_1 : decode cX1_append 1 = .ok (.getfield 15, 3) := by decide +kernel
theorem dX1_append_4 : decode cX1_append 4 = .ok (.ifCond .lt 35, 3) := by decide +kernel
theorem dX1_append_7 : decode cX1_append 7 = .ok (.aload_n 0, 1) := by decide +kernel
theorem dX1_append_8 : decode cX1_append 8 = .ok (.getfield 15, 3) := by decide +kernel
theorem dX1_append_11 : decode cX1_append 11 = .ok (.aload_n 0, 1) := by decide +kernel
theorem dX1_append_12 : decode cX1_append 12 = .ok (.getfield 9, 3) := by decide +kernel
theorem dX1_append_15 : decode cX1_append 15 = .ok (.arraylength, 1) := by decide +kernel
theorem dX1_append_16 : decode cX1_append 16 = .ok (.if_icmp .ge 23, 3) := by decide +kernel
theorem dX1_append_19 : decode cX1_append 19 = .ok (.aload_n 0, 1) := by decide +kernel
theorem dX1_append_20 : decode cX1_append 20 = .ok (.getfield 9, 3) := by decide +kernel
theorem dX1_append_23 : decode cX1_append 23 = .ok (.aload_n 0, 1) := by decide +kernel
theorem dX1_append_24 : decode cX1_append 24 = .ok (.getfield 15, 3) := by decide +kernel
theorem dX1_append_27 : decode cX1_append 27 = .ok (.iload_n 1, 1) := by decide +kernel
theorem dX1_append_28 : decode cX1_append 28 = .ok (.iastore, 1) := by decide +kernel
theorem dX1_append_29 : decode cX1_append 29 = .ok (.aload_n 0, 1) := by decide +kernel
theorem dX1_append_30 : decode cX1_append 30 = .ok (.dup, 1) := by decide +kernel
theorem dX1_append_31 : decode cX1_append 31 = .ok (.getfield 15, 3) := by decide +kernel
theorem dX1_append_34 : decode cX1_append 34 = .ok (.iconst 1, 1) := by decide +kernel
theorem dX1_append_35 : decode cX1_append 35 = .ok (.iadd, 1) := by decide +kernel
theorem dX1_append_36 : decode cX1_append 36 = .ok (.putfield 15, 3) := by decide +kernel
theorem dX1_append_39 : decode cX1_append 39 = .ok (.return_, 1) := by decide +kernel
theorem dX1_drop_0 : decode cX1_drop 0 = .ok (.aload_n 0, 1) := by decide +kernel
theorem dX1_drop_1 : decode cX1_drop 1 = .ok (.iload_n 1, 1) := by decide +kernel
theorem dX1_drop_2 : decode cX1_drop 2 = .ok (.aload_n 0, 1) := by decide +kernel
theorem dX1_drop_3 : decode cX1_drop 3 = .ok (.getfield 15, 3) := by decide +kernel
theorem dX1_drop_6 : decode cX1_drop 6 = .ok (.if_icmp .ge 12, 3) := by decide +kernel
theorem dX1_drop_9 : decode cX1_drop 9 = .ok (.aload_n 0, 1) := by decide +kernel
theorem dX1_drop_10 : decode cX1_drop 10 = .ok (.getfield 15, 3) := by decide +kernel
theorem dX1_drop_13 : decode cX1_drop 13 = .ok (.iload_n 1, 1) := by decide +kernel
theorem dX1_drop_14 : decode cX1_drop 14 = .ok (.isub, 1) := by decide +kernel
theorem dX1_drop_15 : decode cX1_drop 15 = .ok (.goto 4, 3) := by decide +kernel
theorem dX1_drop_18 : decode cX1_drop 18 = .ok (.iconst 0, 1) := by decide +kernel
theorem dX1_drop_19 : decode cX1_drop 19 = .ok (.putfield 15, 3) := by decide +kernel
theorem dX1_drop_22 : decode cX1_drop 22 = .ok (.return_, 1) := by decide +kernel
set_option maxRecDepth 20000 in
theorem ggX1_sharedWith_X1_at : GoodIn wsX1_sharedWith wsX1_at := goodIn_r _ [10, 1, 11, 12, 13] (by decide +kernel) (by decide +kernel)
set_option maxRecDepth 20000 in
theorem gX1_sharedWith_X1_at : GoodIn wsX1_sharedWith (wsV RX1 25 RX1 yX1_at wsX1_at) := goodIn_app (goodIn_of _ (by decide +kernel)) ggX1_sharedWith_X1_at
theorem dX1_sharedWith_0 : decode cX1_sharedWith 0 = .ok (.aload_n 0, 1) := by decide +kernel
theorem dX1_sharedWith_1 : decode cX1_sharedWith 1 = .ok (.getfield 15, 3) := by decide +kernel
theorem dX1_sharedWith_4 : decode cX1_sharedWith 4 = .ok (.iload_n 1, 1) := by decide +kernel
theorem dX1_sharedWith_5 : decode cX1_sharedWith 5 = .ok (.isub, 1) := by decide +kernel
theorem dX1_sharedWith_6 : decode cX1_sharedWith 6 = .ok (.aload_n 2, 1) := by decide +kernel
theorem dX1_sharedWith_7 : decode cX1_sharedWith 7 = .ok (.getfield 15, 3) := by decide +kernel
theorem dX1_sharedWith_10 : decode cX1_sharedWith 10 = .ok (.iload_n 3, 1) := by decide +kernel
theorem dX1_sharedWith_11 : decode cX1_sharedWith 11 = .ok (.isub, 1) := by decide +kernel
theorem dX1_sharedWith_12 : decode cX1_sharedWith 12 = .ok (.invokestatic 19, 3) := by decide +kernel
theorem dX1_sharedWith_15 : decode cX1_sharedWith 15 = .ok (.istore 4, 2) := by decide +kernel
theorem dX1_sharedWith_17 : decode cX1_sharedWith 17 = .ok (.iconst 0, 1) := by decide +kernel
theorem dX1_sharedWith_18 : decode cX1_sharedWith 18 = .ok (.istore 5, 2) := by decide +kernel
theorem dX1_sharedWith_20 : decode cX1_sharedWith 20 = .ok (.iload 5, 2) := by decide +kernel
theorem dX1_sharedWith_22 : decode cX1_sharedWith 22 = .ok (.iload 4, 2) := by decide +kernel
theorem dX1_sharedWith_24 : decode cX1_sharedWith 24 = .ok (.if_icmp .ge 28, 3) := by decide +kernel
theorem dX1_sharedWith_27 : decode cX1_sharedWith 27 = .ok (.aload_n 0, 1) := by decide +kernel
theorem dX1_sharedWith_28 : decode cX1_sharedWith 28 = .ok (.iload_n 1, 1) := by decide +kernel
theorem dX1_sharedWith_29 : decode cX1_sharedWith 29 = .ok (.iload 5, 2) := by decide +kernel
theorem dX1_sharedWith_31 : decode cX1_sharedWith 31 = .ok (.iadd, 1) := by decide +kernel
theorem dX1_sharedWith_32 : decode cX1_sharedWith 32 = .ok (.invokevirtual 25, 3) := by decide +kernel
theorem dX1_sharedWith_35 : decode cX1_sharedWith 35 = .ok (.aload_n 2, 1) := by decide +kernel
theorem dX1_sharedWith_36 : decode cX1_sharedWith 36 = .ok (.iload_n 3, 1) := by decide +kernel
theorem dX1_sharedWith_37 : decode cX1_sharedWith 37 = .ok (.iload 5, 2) := by decide +kernel
theorem dX1_sharedWith_39 : decode cX1_sharedWith 39 = .ok (.iadd, 1) := by decide +kernel
theorem dX1_sharedWith_40 : decode cX1_sharedWith 40 = .ok (.invokevirtual 25, 3) := by decide +kernel
theorem dX1_sharedWith_43 : decode cX1_sharedWith 43 = .ok (.if_icmp .ne 9, 3) := by decide +kernel
theorem dX1_sharedWith_46 : decode cX1_sharedWith 46 = .ok (.iinc 5 1, 3) := by decide +kernel
theorem dX1_sharedWith_49 : decode cX1_sharedWith 49 = .ok (.goto (-29), 3) := by decide +kernel
theorem dX1_sharedWith_52 : decode cX1_sharedWith 52 = .ok (.iload 5, 2) := by decide +kernel
theorem dX1_sharedWith_54 : decode cX1_sharedWith 54 = .ok (.ireturn, 1) := by decide +kernel
set_option maxRecDepth 20000 in
theorem ggX1_difference_X1_sharedWith : GoodIn wsX1_difference wsX1_sharedWith := goodIn_r _ [5, 6, 7, 8, 9, 10, 11, 12, 13, 4, 14, 15, 16, 17] (by decide +kernel) (by decide +kernel)
set_option maxRecDepth 20000 in
theorem gX1_difference_X1_sharedWith : GoodIn wsX1_difference (wsV RX1 29 RX1 yX1_sharedWith wsX1_sharedWith) := goodIn_app (goodIn_of _ (by decide +kernel)) ggX1_difference_X1_sharedWith
set_option maxRecDepth 20000 in
theorem ggX1_difference_X1_at : GoodIn wsX1_difference wsX1_at := goodIn_r _ [14, 6, 15, 16, 17] (by decide +kernel) (by decide +kernel)
set_option maxRecDepth 20000 in
theorem gX1_difference_X1_at : GoodIn wsX1_difference (wsV RX1 25 RX1 yX1_at wsX1_at) := goodIn_app (goodIn_of _ (by decide +kernel)) ggX1_difference_X1_at
theorem dX1_difference_0 : decode cX1_difference 0 = .ok (.aload_n 0, 1) := by decide +kernel
theorem dX1_difference_1 : decode cX1_difference 1 = .ok (.iload_n 1, 1) := by decide +kernel
theorem dX1_difference_2 : decode cX1_difference 2 = .ok (.aload_n 2, 1) := by decide +kernel
theorem dX1_difference_3 : decode cX1_difference 3 = .ok (.iload_n 3, 1) := by decide +kernel
theorem dX1_difference_4 : decode cX1_difference 4 = .ok (.invokevirtual 29, 3) := by decide +kernel
theorem dX1_difference_7 : decode cX1_difference 7 = .ok (.istore 4, 2) := by decide +kernel
theorem dX1_difference_9 : decode cX1_difference 9 = .ok (.aload_n 0, 1) := by decide +kernel
theorem dX1_difference_10 : decode cX1_difference 10 = .ok (.iload_n 1, 1) := by decide +kernel
theorem dX1_difference_11 : decode cX1_difference 11 = .ok (.iload 4, 2) := by decide +kernel
theorem dX1_difference_13 : decode cX1_difference 13 = .ok (.iadd, 1) := by decide +kernel
theorem dX1_difference_14 : decode cX1_difference 14 = .ok (.invokevirtual 25, 3) := by decide +kernel
theorem dX1_difference_17 : decode cX1_difference 17 = .ok (.istore 5, 2) := by decide +kernel
theorem dX1_difference_19 : decode cX1_difference 19 = .ok (.aload_n 2, 1) := by decide +kernel
theorem dX1_difference_20 : decode cX1_difference 20 = .ok (.iload_n 3, 1) := by decide +kernel
theorem dX1_difference_21 : decode cX1_difference 21 = .ok (.iload 4, 2) := by decide +kernel
theorem dX1_difference_23 : decode cX1_difference 23 = .ok (.iadd, 1) := by decide +kernel
theorem dX1_difference_24 : decode cX1_difference 24 = .ok (.invokevirtual 25, 3) := by decide +kernel
theorem dX1_difference_27 : decode cX1_difference 27 = .ok (.istore 6, 2) := by decide +kernel
theorem dX1_difference_29 : decode cX1_difference 29 = .ok (.iload 5, 2) := by decide +kernel
theorem dX1_difference_31 : decode cX1_difference 31 = .ok (.iload 6, 2) := by decide +kernel
theorem dX1_difference_33 : decode cX1_difference 33 = .ok (.if_icmp .ne 5, 3) := by decide +kernel
theorem dX1_difference_36 : decode cX1_difference 36 = .ok (.iconst 0, 1) := by decide +kernel
theorem dX1_difference_37 : decode cX1_difference 37 = .ok (.ireturn, 1) := by decide +kernel
theorem dX1_difference_38 : decode cX1_difference 38 = .ok (.iload 5, 2) := by decide +kernel
theorem dX1_difference_40 : decode cX1_difference 40 = .ok (.iload 6, 2) := by decide +kernel
theorem dX1_difference_42 : decode cX1_difference 42 = .ok (.if_icmp .ge 11, 3) := by decide +kernel
theorem dX1_difference_45 : decode cX1_difference 45 = .ok (.iload 4, 2) := by decide +kernel
theorem dX1_difference_47 : decode cX1_difference 47 = .ok (.iconst 1, 1) := by decide +kernel
theorem dX1_difference_48 : decode cX1_difference 48 = .ok (.iadd, 1) := by decide +kernel
theorem dX1_difference_49 : decode cX1_difference 49 = .ok (.ineg, 1) := by decide +kernel
theorem dX1_difference_50 : decode cX1_difference 50 = .ok (.goto 7, 3) := by decide +kernel
theorem dX1_difference_53 : decode cX1_difference 53 = .ok (.iload 4, 2) := by decide +kernel
theorem dX1_difference_55 : decode cX1_difference 55 = .ok (.iconst 1, 1) := by decide +kernel
theorem dX1_difference_56 : decode cX1_difference 56 = .ok (.iadd, 1) := by decide +kernel
theorem dX1_difference_57 : decode cX1_difference 57 = .ok (.ireturn, 1) := by decide +kernel
set_option maxRecDepth 20000 in
theorem ggX1_mostSharedWith_X1_sharedWith : GoodIn wsX1_mostSharedWith wsX1_sharedWith := goodIn_r _ [10, 1, 11, 12, 4, 13, 14, 15, 16, 9, 17, 18, 19, 20] (by decide +kernel) (by decide +kernel)
set_option maxRecDepth 20000 in
theorem gX1_mostSharedWith_X1_sharedWith : GoodIn wsX1_mostSharedWith (wsV RX1 29 RX1 yX1_sharedWith wsX1_sharedWith) := goodIn_app (goodIn_of _ (by decide +kernel)) ggX1_mostSharedWith_X1_sharedWith
theorem dX1_mostSharedWith_0 : decode cX1_mostSharedWith 0 = .ok (.iload_n 1, 1) := by decide +kernel
theorem dX1_mostSharedWith_1 : decode cX1_mostSharedWith 1 = .ok (.ifCond .ge 5, 3) := by decide +kernel
theorem dX1_mostSharedWith_4 : decode cX1_mostSharedWith 4 = .ok (.iconst 0, 1) := by decide +kernel
theorem dX1_mostSharedWith_5 : decode cX1_mostSharedWith 5 = .ok (.ireturn, 1) := by decide +kernel
theorem dX1_mostSharedWith_6 : decode cX1_mostSharedWith 6 = .ok (.iconst 0, 1) := by decide +kernel
theorem dX1_mostSharedWith_7 : decode cX1_mostSharedWith 7 = .ok (.istore_n 3, 1) := by decide +kernel
theorem dX1_mostSharedWith_8 : decode cX1_mostSharedWith 8 = .ok (.iconst 0, 1) := by decide +kernel
theorem dX1_mostSharedWith_9 : decode cX1_mostSharedWith 9 = .ok (.istore 4, 2) := by decide +kernel
theorem dX1_mostSharedWith_11 : decode cX1_mostSharedWith 11 = .ok (.iload 4, 2) := by decide +kernel
theorem dX1_mostSharedWith_13 : decode cX1_mostSharedWith 13 = .ok (.iload_n 3, 1) := by decide +kernel
theorem dX1_mostSharedWith_14 : decode cX1_mostSharedWith 14 = .ok (.iadd, 1) := by decide +kernel
theorem dX1_mostSharedWith_15 : decode cX1_mostSharedWith 15 = .ok (.aload_n 2, 1) := by decide +kernel
theorem dX1_mostSharedWith_16 : decode cX1_mostSharedWith 16 = .ok (.getfield 15, 3) := by decide +kernel
theorem dX1_mostSharedWith_19 : decode cX1_mostSharedWith 19 = .ok (.if_icmp .ge 22, 3) := by decide +kernel
theorem dX1_mostSharedWith_22 : decode cX1_mostSharedWith 22 = .ok (.iload_n 3, 1) := by decide +kernel
theorem dX1_mostSharedWith_23 : decode cX1_mostSharedWith 23 = .ok (.aload_n 0, 1) := by decide +kernel
theorem dX1_mostSharedWith_24 : decode cX1_mostSharedWith 24 = .ok (.iload_n 1, 1) := by decide +kernel
theorem dX1_mostSharedWith_25 : decode cX1_mostSharedWith 25 = .ok (.aload_n 2, 1) := by decide +kernel
theorem dX1_mostSharedWith_26 : decode cX1_mostSharedWith 26 = .ok (.iload 4, 2) := by decide +kernel
theorem dX1_mostSharedWith_28 : decode cX1_mostSharedWith 28 = .ok (.invokevirtual 29, 3) := by decide +kernel
theorem dX1_mostSharedWith_31 : decode cX1_mostSharedWith 31 = .ok (.invokestatic 33, 3) := by decide +kernel
theorem dX1_mostSharedWith_34 : decode cX1_mostSharedWith 34 = .ok (.istore_n 3, 1) := by decide +kernel
theorem dX1_mostSharedWith_35 : decode cX1_mostSharedWith 35 = .ok (.iinc 4 1, 3) := by decide +kernel
theorem dX1_mostSharedWith_38 : decode cX1_mostSharedWith 38 = .ok (.goto (-27), 3) := by decide +kernel
theorem dX1_mostSharedWith_41 : decode cX1_mostSharedWith 41 = .ok (.iload_n 3, 1) := by decide +kernel
theorem dX1_mostSharedWith_42 : decode cX1_mostSharedWith 42 = .ok (.ireturn, 1) := by decide +kernel
set_option maxRecDepth 20000 in
theorem ggX1_standsAt_X1_sharedWith : GoodIn wsX1_standsAt wsX1_sharedWith := goodIn_r _ [5, 6, 7, 8, 9, 10, 11, 12, 13, 4, 14, 15, 16, 17] (by decide +kernel) (by decide +kernel)
set_option maxRecDepth 20000 in
theorem gX1_standsAt_X1_sharedWith : GoodIn wsX1_standsAt (wsV RX1 29 RX1 yX1_sharedWith wsX1_sharedWith) := goodIn_app (goodIn_of _ (by decide +kernel)) ggX1_standsAt_X1_sharedWith
theorem dX1_standsAt_0 : decode cX1_standsAt 0 = .ok (.aload_n 0, 1) := by decide +kernel
theorem dX1_standsAt_1 : decode cX1_standsAt 1 = .ok (.iload_n 1, 1) := by decide +kernel
theorem dX1_standsAt_2 : decode cX1_standsAt 2 = .ok (.aload_n 2, 1) := by decide +kernel
theorem dX1_standsAt_3 : decode cX1_standsAt 3 = .ok (.iload_n 3, 1) := by decide +kernel
theorem dX1_standsAt_4 : decode cX1_standsAt 4 = .ok (.invokevirtual 29, 3) := by decide +kernel
theorem dX1_standsAt_7 : decode cX1_standsAt 7 = .ok (.iload 4, 2) := by decide +kernel
theorem dX1_standsAt_9 : decode cX1_standsAt 9 = .ok (.if_icmp .lt 7, 3) := by decide +kernel
theorem dX1_standsAt_12 : decode cX1_standsAt 12 = .ok (.iconst 1, 1) := by decide +kernel
theorem dX1_standsAt_13 : decode cX1_standsAt 13 = .ok (.goto 4, 3) := by decide +kernel
theorem dX1_standsAt_16 : decode cX1_standsAt 16 = .ok (.iconst 0, 1) := by decide +kernel
theorem dX1_standsAt_17 : decode cX1_standsAt 17 = .ok (.ireturn, 1) := by decide +kernel
set_option maxRecDepth 20000 in
theorem ggX1_firstPlaceOf_X1_standsAt : GoodIn wsX1_firstPlaceOf wsX1_standsAt := goodIn_r _ [6, 7, 8, 9, 5, 10, 1, 11, 12, 13, 14, 15, 16, 17, 18, 19, 20, 21] (by decide +kernel) (by decide +kernel)
set_option maxRecDepth 20000 in
theorem gX1_firstPlaceOf_X1_standsAt : GoodIn wsX1_firstPlaceOf (wsV RX1 36 RX1 yX1_standsAt wsX1_standsAt) := goodIn_app (goodIn_of _ (by decide +kernel)) ggX1_firstPlaceOf_X1_standsAt
theorem dX1_firstPlaceOf_0 : decode cX1_firstPlaceOf 0 = .ok (.iload_n 3, 1) := by decide +kernel
theorem dX1_firstPlaceOf_1 : decode cX1_firstPlaceOf 1 = .ok (.iconst 1, 1) := by decide +kernel
theorem dX1_firstPlaceOf_2 : decode cX1_firstPlaceOf 2 = .ok (.if_icmp .ge 5, 3) := by decide +kernel
theorem dX1_firstPlaceOf_5 : decode cX1_firstPlaceOf 5 = .ok (.iconst (-1), 1) := by decide +kernel
theorem dX1_firstPlaceOf_6 : decode cX1_firstPlaceOf 6 = .ok (.ireturn, 1) := by decide +kernel
theorem dX1_firstPlaceOf_7 : decode cX1_firstPlaceOf 7 = .ok (.iconst 0, 1) := by decide +kernel
theorem dX1_firstPlaceOf_8 : decode cX1_firstPlaceOf 8 = .ok (.istore 4, 2) := by decide +kernel
theorem dX1_firstPlaceOf_10 : decode cX1_firstPlaceOf 10 = .ok (.iload 4, 2) := by decide +kernel
theorem dX1_firstPlaceOf_12 : decode cX1_firstPlaceOf 12 = .ok (.iload_n 3, 1) := by decide +kernel
theorem dX1_firstPlaceOf_13 : decode cX1_firstPlaceOf 13 = .ok (.iadd, 1) := by decide +kernel
theorem dX1_firstPlaceOf_14 : decode cX1_firstPlaceOf 14 = .ok (.aload_n 0, 1) := by decide +kernel
theorem dX1_firstPlaceOf_15 : decode cX1_firstPlaceOf 15 = .ok (.getfield 15, 3) := by decide +kernel
theorem dX1_firstPlaceOf_18 : decode cX1_firstPlaceOf 18 = .ok (.if_icmp .gt 24, 3) := by decide +kernel
theorem dX1_firstPlaceOf_21 : decode cX1_firstPlaceOf 21 = .ok (.aload_n 0, 1) := by decide +kernel
theorem dX1_firstPlaceOf_22 : decode cX1_firstPlaceOf 22 = .ok (.iload 4, 2) := by decide +kernel
theorem dX1_firstPlaceOf_24 : decode cX1_firstPlaceOf 24 = .ok (.aload_n 1, 1) := by decide +kernel
theorem dX1_firstPlaceOf_25 : decode cX1_firstPlaceOf 25 = .ok (.iload_n 2, 1) := by decide +kernel
theorem dX1_firstPlaceOf_26 : decode cX1_firstPlaceOf 26 = .ok (.iload_n 3, 1) := by decide +kernel
theorem dX1_firstPlaceOf_27 : decode cX1_firstPlaceOf 27 = .ok (.invokevirtual 36, 3) := by decide +kernel
theorem dX1_firstPlaceOf_30 : decode cX1_firstPlaceOf 30 = .ok (.ifCond .eq 6, 3) := by decide +kernel
theorem dX1_firstPlaceOf_33 : decode cX1_firstPlaceOf 33 = .ok (.iload 4, 2) := by decide +kernel
theorem dX1_firstPlaceOf_35 : decode cX1_firstPlaceOf 35 = .ok (.ireturn, 1) := by decide +kernel
theorem dX1_firstPlaceOf_36 : decode cX1_firstPlaceOf 36 = .ok (.iinc 4 1, 3) := by decide +kernel
theorem dX1_firstPlaceOf_39 : decode cX1_firstPlaceOf 39 = .ok (.goto (-29), 3) := by decide +kernel
theorem dX1_firstPlaceOf_42 : decode cX1_firstPlaceOf 42 = .ok (.iconst (-1), 1) := by decide +kernel
theorem dX1_firstPlaceOf_43 : decode cX1_firstPlaceOf 43 = .ok (.ireturn, 1) := by decide +kernel
set_option maxRecDepth 20000 in
theorem ggX1_placesOf_X1_standsAt : GoodIn wsX1_placesOf wsX1_standsAt := goodIn_r _ [6, 7, 8, 9, 5, 10, 1, 11, 12, 13, 14, 15, 16, 17, 18, 19, 20, 21] (by decide +kernel) (by decide +kernel)
set_option maxRecDepth 20000 in
theorem gX1_placesOf_X1_standsAt : GoodIn wsX1_placesOf (wsV RX1 36 RX1 yX1_standsAt wsX1_standsAt) := goodIn_app (goodIn_of _ (by decide +kernel)) ggX1_placesOf_X1_standsAt
theorem dX1_placesOf_0 : decode cX1_placesOf 0 = .ok (.iload_n 3, 1) := by decide +kernel
theorem dX1_placesOf_1 : decode cX1_placesOf 1 = .ok (.iconst 1, 1) := by decide +kernel
theorem dX1_placesOf_2 : decode cX1_placesOf 2 = .ok (.if_icmp .ge 5, 3) := by decide +kernel
theorem dX1_placesOf_5 : decode cX1_placesOf 5 = .ok (.iconst 0, 1) := by decide +kernel
theorem dX1_placesOf_6 : decode cX1_placesOf 6 = .ok (.ireturn, 1) := by decide +kernel
theorem dX1_placesOf_7 : decode cX1_placesOf 7 = .ok (.iconst 0, 1) := by decide +kernel
theorem dX1_placesOf_8 : decode cX1_placesOf 8 = .ok (.istore 4, 2) := by decide +kernel
theorem dX1_placesOf_10 : decode cX1_placesOf 10 = .ok (.iconst 0, 1) := by decide +kernel
theorem dX1_placesOf_11 : decode cX1_placesOf 11 = .ok (.istore 5, 2) := by decide +kernel
theorem dX1_placesOf_13 : decode cX1_placesOf 13 = .ok (.iload 5, 2) := by decide +kernel
theorem dX1_placesOf_15 : decode cX1_placesOf 15 = .ok (.iload_n 3, 1) := by decide +kernel
theorem dX1_placesOf_16 : decode cX1_placesOf 16 = .ok (.iadd, 1) := by decide +kernel
theorem dX1_placesOf_17 : decode cX1_placesOf 17 = .ok (.aload_n 0, 1) := by decide +kernel
theorem dX1_placesOf_18 : decode cX1_placesOf 18 = .ok (.getfield 15, 3) := by decide +kernel
theorem dX1_placesOf_21 : decode cX1_placesOf 21 = .ok (.if_icmp .gt 24, 3) := by decide +kernel
theorem dX1_placesOf_24 : decode cX1_placesOf 24 = .ok (.aload_n 0, 1) := by decide +kernel
theorem dX1_placesOf_25 : decode cX1_placesOf 25 = .ok (.iload 5, 2) := by decide +kernel
theorem dX1_placesOf_27 : decode cX1_placesOf 27 = .ok (.aload_n 1, 1) := by decide +kernel
theorem dX1_placesOf_28 : decode cX1_placesOf 28 = .ok (.iload_n 2, 1) := by decide +kernel
theorem dX1_placesOf_29 : decode cX1_placesOf 29 = .ok (.iload_n 3, 1) := by decide +kernel
theorem dX1_placesOf_30 : decode cX1_placesOf 30 = .ok (.invokevirtual 36, 3) := by decide +kernel
theorem dX1_placesOf_33 : decode cX1_placesOf 33 = .ok (.ifCond .eq 6, 3) := by decide +kernel
theorem dX1_placesOf_36 : decode cX1_placesOf 36 = .ok (.iinc 4 1, 3) := by decide +kernel
theorem dX1_placesOf_39 : decode cX1_placesOf 39 = .ok (.iinc 5 1, 3) := by decide +kernel
theorem dX1_placesOf_42 : decode cX1_placesOf 42 = .ok (.goto (-29), 3) := by decide +kernel
theorem dX1_placesOf_45 : decode cX1_placesOf 45 = .ok (.iload 4, 2) := by decide +kernel
theorem dX1_placesOf_47 : decode cX1_placesOf 47 = .ok (.ireturn, 1) := by decide +kernel
set_option maxRecDepth 20000 in
theorem ggX1_leastPeriod_X1_sharedWith : GoodIn wsX1_leastPeriod wsX1_sharedWith := goodIn_r _ [6, 1, 7, 8, 9, 10, 11, 12, 13, 5, 14, 15, 16, 17] (by decide +kernel) (by decide +kernel)
set_option maxRecDepth 20000 in
theorem gX1_leastPeriod_X1_sharedWith : GoodIn wsX1_leastPeriod (wsV RX1 29 RX1 yX1_sharedWith wsX1_sharedWith) := goodIn_app (goodIn_of _ (by decide +kernel)) ggX1_leastPeriod_X1_sharedWith
theorem dX1_leastPeriod_0 : decode cX1_leastPeriod 0 = .ok (.iconst 1, 1) := by decide +kernel
theorem dX1_leastPeriod_1 : decode cX1_leastPeriod 1 = .ok (.istore_n 1, 1) := by decide +kernel
theorem dX1_leastPeriod_2 : decode cX1_leastPeriod 2 = .ok (.iload_n 1, 1) := by decide +kernel
theorem dX1_leastPeriod_3 : decode cX1_leastPeriod 3 = .ok (.aload_n 0, 1) := by decide +kernel
theorem dX1_leastPeriod_4 : decode cX1_leastPeriod 4 = .ok (.getfield 15, 3) := by decide +kernel
theorem dX1_leastPeriod_7 : decode cX1_leastPeriod 7 = .ok (.if_icmp .ge 27, 3) := by decide +kernel
theorem dX1_leastPeriod_10 : decode cX1_leastPeriod 10 = .ok (.aload_n 0, 1) := by decide +kernel
theorem dX1_leastPeriod_11 : decode cX1_leastPeriod 11 = .ok (.iconst 0, 1) := by decide +kernel
theorem dX1_leastPeriod_12 : decode cX1_leastPeriod 12 = .ok (.aload_n 0, 1) := by decide +kernel
theorem dX1_leastPeriod_13 : decode cX1_leastPeriod 13 = .ok (.iload_n 1, 1) := by decide +kernel
theorem dX1_leastPeriod_14 : decode cX1_leastPeriod 14 = .ok (.invokevirtual 29, 3) := by decide +kernel
theorem dX1_leastPeriod_17 : decode cX1_leastPeriod 17 = .ok (.aload_n 0, 1) := by decide +kernel
theorem dX1_leastPeriod_18 : decode cX1_leastPeriod 18 = .ok (.getfield 15, 3) := by decide +kernel
theorem dX1_leastPeriod_21 : decode cX1_leastPeriod 21 = .ok (.iload_n 1, 1) := by decide +kernel
theorem dX1_leastPeriod_22 : decode cX1_leastPeriod 22 = .ok (.isub, 1) := by decide +kernel
theorem dX1_leastPeriod_23 : decode cX1_leastPeriod 23 = .ok (.if_icmp .ne 5, 3) := by decide +kernel
theorem dX1_leastPeriod_26 : decode cX1_leastPeriod 26 = .ok (.iload_n 1, 1) := by decide +kernel
theorem dX1_leastPeriod_27 : decode cX1_leastPeriod 27 = .ok (.ireturn, 1) := by decide +kernel
theorem dX1_leastPeriod_28 : decode cX1_leastPeriod 28 = .ok (.iinc 1 1, 3) := by decide +kernel
theorem dX1_leastPeriod_31 : decode cX1_leastPeriod 31 = .ok (.goto (-29), 3) := by decide +kernel
theorem dX1_leastPeriod_34 : decode cX1_leastPeriod 34 = .ok (.aload_n 0, 1) := by decide +kernel
theorem dX1_leastPeriod_35 : decode cX1_leastPeriod 35 = .ok (.getfield 15, 3) := by decide +kernel
theorem dX1_leastPeriod_38 : decode cX1_leastPeriod 38 = .ok (.ireturn, 1) := by decide +kernel
set_option maxRecDepth 20000 in
theorem ggX1_bestBeginning_X1_turnsToLess : GoodIn wsX1_bestBeginning wsX1_turnsToLess := goodIn_r _ [6, 1, 7, 8, 9, 5, 10, 11, 12, 13, 14, 15, 16, 17] (by decide +kernel) (by decide +kernel)
set_option maxRecDepth 20000 in
theorem gX1_bestBeginning_X1_turnsToLess : GoodIn wsX1_bestBeginning (wsV RX1 40 RX1 yX1_turnsToLess wsX1_turnsToLess) := goodIn_app (goodIn_of _ (by decide +kernel)) ggX1_bestBeginning_X1_turnsToLess
theorem dX1_bestBeginning_0 : decode cX1_bestBeginning 0 = .ok (.aload_n 0, 1) := by decide +kernel
theorem dX1_bestBeginning_1 : decode cX1_bestBeginning 1 = .ok (.getfield 15, 3) := by decide +kernel
theorem dX1_bestBeginning_4 : decode cX1_bestBeginning 4 = .ok (.ifCond .ne 5, 3) := by decide +kernel
theorem dX1_bestBeginning_7 : decode cX1_bestBeginning 7 = .ok (.iconst (-1), 1) := by decide +kernel
theorem dX1_bestBeginning_8 : decode cX1_bestBeginning 8 = .ok (.ireturn, 1) := by decide +kernel
theorem dX1_bestBeginning_9 : decode cX1_bestBeginning 9 = .ok (.iconst 0, 1) := by decide +kernel
theorem dX1_bestBeginning_10 : decode cX1_bestBeginning 10 = .ok (.istore_n 1, 1) := by decide +kernel
theorem dX1_bestBeginning_11 : decode cX1_bestBeginning 11 = .ok (.iconst 1, 1) := by decide +kernel
theorem dX1_bestBeginning_12 : decode cX1_bestBeginning 12 = .ok (.istore_n 2, 1) := by decide +kernel
theorem dX1_bestBeginning_13 : decode cX1_bestBeginning 13 = .ok (.iload_n 2, 1) := by decide +kernel
theorem dX1_bestBeginning_14 : decode cX1_bestBeginning 14 = .ok (.aload_n 0, 1) := by decide +kernel
theorem dX1_bestBeginning_15 : decode cX1_bestBeginning 15 = .ok (.getfield 15, 3) := by decide +kernel
theorem dX1_bestBeginning_18 : decode cX1_bestBeginning 18 = .ok (.if_icmp .ge 20, 3) := by decide +kernel
theorem dX1_bestBeginning_21 : decode cX1_bestBeginning 21 = .ok (.aload_n 0, 1) := by decide +kernel
theorem dX1_bestBeginning_22 : decode cX1_bestBeginning 22 = .ok (.iload_n 2, 1) := by decide +kernel
theorem dX1_bestBeginning_23 : decode cX1_bestBeginning 23 = .ok (.iload_n 1, 1) := by decide +kernel
theorem dX1_bestBeginning_24 : decode cX1_bestBeginning 24 = .ok (.invokevirtual 40, 3) := by decide +kernel
theorem dX1_bestBeginning_27 : decode cX1_bestBeginning 27 = .ok (.ifCond .eq 5, 3) := by decide +kernel
theorem dX1_bestBeginning_30 : decode cX1_bestBeginning 30 = .ok (.iload_n 2, 1) := by decide +kernel
theorem dX1_bestBeginning_31 : decode cX1_bestBeginning 31 = .ok (.istore_n 1, 1) := by decide +kernel
theorem dX1_bestBeginning_32 : decode cX1_bestBeginning 32 = .ok (.iinc 2 1, 3) := by decide +kernel
theorem dX1_bestBeginning_35 : decode cX1_bestBeginning 35 = .ok (.goto (-22), 3) := by decide +kernel
theorem dX1_bestBeginning_38 : decode cX1_bestBeginning 38 = .ok (.iload_n 1, 1) := by decide +kernel
theorem dX1_bestBeginning_39 : decode cX1_bestBeginning 39 = .ok (.ireturn, 1) := by decide +kernel
set_option maxRecDepth 20000 in
theorem ggX1_turnsToLess_X1_allAround : GoodIn wsX1_turnsToLess wsX1_allAround := goodIn_r _ [6, 1, 7, 8, 9, 5, 10, 11, 12, 13] (by decide +kernel) (by decide +kernel)
set_option maxRecDepth 20000 in
theorem gX1_turnsToLess_X1_allAround : GoodIn wsX1_turnsToLess (wsV RX1 44 RX1 yX1_allAround wsX1_allAround) := goodIn_app (goodIn_of _ (by decide +kernel)) ggX1_turnsToLess_X1_allAround
theorem dX1_turnsToLess_0 : decode cX1_turnsToLess 0 = .ok (.iconst 0, 1) := by decide +kernel
theorem dX1_turnsToLess_1 : decode cX1_turnsToLess 1 = .ok (.istore_n 3, 1) := by decide +kernel
theorem dX1_turnsToLess_2 : decode cX1_turnsToLess 2 = .ok (.iload_n 3, 1) := by decide +kernel
theorem dX1_turnsToLess_3 : decode cX1_turnsToLess 3 = .ok (.aload_n 0, 1) := by decide +kernel
theorem dX1_turnsToLess_4 : decode cX1_turnsToLess 4 = .ok (.getfield 15, 3) := by decide +kernel
theorem dX1_turnsToLess_7 : decode cX1_turnsToLess 7 = .ok (.if_icmp .ge 47, 3) := by decide +kernel
theorem dX1_turnsToLess_10 : decode cX1_turnsToLess 10 = .ok (.aload_n 0, 1) := by decide +kernel
theorem dX1_turnsToLess_11 : decode cX1_turnsToLess 11 = .ok (.iload_n 1, 1) := by decide +kernel
theorem dX1_turnsToLess_12 : decode cX1_turnsToLess 12 = .ok (.iload_n 3, 1) := by decide +kernel
theorem dX1_turnsToLess_13 : decode cX1_turnsToLess 13 = .ok (.iadd, 1) := by decide +kernel
theorem dX1_turnsToLess_14 : decode cX1_turnsToLess 14 = .ok (.invokevirtual 44, 3) := by decide +kernel
theorem dX1_turnsToLess_17 : decode cX1_turnsToLess 17 = .ok (.istore 4, 2) := by decide +kernel
theorem dX1_turnsToLess_19 : decode cX1_turnsToLess 19 = .ok (.aload_n 0, 1) := by decide +kernel
theorem dX1_turnsToLess_20 : decode cX1_turnsToLess 20 = .ok (.iload_n 2, 1) := by decide +kernel
theorem dX1_turnsToLess_21 : decode cX1_turnsToLess 21 = .ok (.iload_n 3, 1) := by decide +kernel
theorem dX1_turnsToLess_22 : decode cX1_turnsToLess 22 = .ok (.iadd, 1) := by decide +kernel
theorem dX1_turnsToLess_23 : decode cX1_turnsToLess 23 = .ok (.invokevirtual 44, 3) := by decide +kernel
theorem dX1_turnsToLess_26 : decode cX1_turnsToLess 26 = .ok (.istore 5, 2) := by decide +kernel
theorem dX1_turnsToLess_28 : decode cX1_turnsToLess 28 = .ok (.iload 4, 2) := by decide +kernel
theorem dX1_turnsToLess_30 : decode cX1_turnsToLess 30 = .ok (.iload 5, 2) := by decide +kernel
theorem dX1_turnsToLess_32 : decode cX1_turnsToLess 32 = .ok (.if_icmp .eq 16, 3) := by decide +kernel
theorem dX1_turnsToLess_35 : decode cX1_turnsToLess 35 = .ok (.iload 4, 2) := by decide +kernel
theorem dX1_turnsToLess_37 : decode cX1_turnsToLess 37 = .ok (.iload 5, 2) := by decide +kernel
theorem dX1_turnsToLess_39 : decode cX1_turnsToLess 39 = .ok (.if_icmp .ge 7, 3) := by decide +kernel
theorem dX1_turnsToLess_42 : decode cX1_turnsToLess 42 = .ok (.iconst 1, 1) := by decide +kernel
theorem dX1_turnsToLess_43 : decode cX1_turnsToLess 43 = .ok (.goto 4, 3) := by decide +kernel
theorem dX1_turnsToLess_46 : decode cX1_turnsToLess 46 = .ok (.iconst 0, 1) := by decide +kernel
theorem dX1_turnsToLess_47 : decode cX1_turnsToLess 47 = .ok (.ireturn, 1) := by decide +kernel
theorem dX1_turnsToLess_48 : decode cX1_turnsToLess 48 = .ok (.iinc 3 1, 3) := by decide +kernel
theorem dX1_turnsToLess_51 : decode cX1_turnsToLess 51 = .ok (.goto (-49), 3) := by decide +kernel
theorem dX1_turnsToLess_54 : decode cX1_turnsToLess 54 = .ok (.iconst 0, 1) := by decide +kernel
theorem dX1_turnsToLess_55 : decode cX1_turnsToLess 55 = .ok (.ireturn, 1) := by decide +kernel
set_option maxRecDepth 20000 in
theorem ggX1_allAround_X1_at : GoodIn wsX1_allAround wsX1_at := goodIn_r _ [6, 1, 7, 8, 9] (by decide +kernel) (by decide +kernel)
set_option maxRecDepth 20000 in
theorem gX1_allAround_X1_at : GoodIn wsX1_allAround (wsV RX1 25 RX1 yX1_at wsX1_at) := goodIn_app (goodIn_of _ (by decide +kernel)) ggX1_allAround_X1_at
theorem dX1_allAround_0 : decode cX1_allAround 0 = .ok (.aload_n 0, 1) := by decide +kernel
theorem dX1_allAround_1 : decode cX1_allAround 1 = .ok (.iload_n 1, 1) := by decide +kernel
theorem dX1_allAround_2 : decode cX1_allAround 2 = .ok (.aload_n 0, 1) := by decide +kernel
theorem dX1_allAround_3 : decode cX1_allAround 3 = .ok (.getfield 15, 3) := by decide +kernel
theorem dX1_allAround_6 : decode cX1_allAround 6 = .ok (.if_icmp .ge 7, 3) := by decide +kernel
theorem dX1_allAround_9 : decode cX1_allAround 9 = .ok (.iload_n 1, 1) := by decide +kernel
theorem dX1_allAround_10 : decode cX1_allAround 10 = .ok (.goto 9, 3) := by decide +kernel
theorem dX1_allAround_13 : decode cX1_allAround 13 = .ok (.iload_n 1, 1) := by decide +kernel
theorem dX1_allAround_14 : decode cX1_allAround 14 = .ok (.aload_n 0, 1) := by decide +kernel
theorem dX1_allAround_15 : decode cX1_allAround 15 = .ok (.getfield 15, 3) := by decide +kernel
theorem dX1_allAround_18 : decode cX1_allAround 18 = .ok (.isub, 1) := by decide +kernel
theorem dX1_allAround_19 : decode cX1_allAround 19 = .ok (.invokevirtual 25, 3) := by decide +kernel
theorem dX1_allAround_22 : decode cX1_allAround 22 = .ok (.ireturn, 1) := by decide +kernel
set_option maxRecDepth 20000 in
theorem ggX1_newRowsBy_X1_at : GoodIn wsX1_newRowsBy wsX1_at := goodIn_r _ [10, 1, 11, 16, 17] (by decide +kernel) (by decide +kernel)
set_option maxRecDepth 20000 in
theorem gX1_newRowsBy_X1_at : GoodIn wsX1_newRowsBy (wsV RX1 25 RX1 yX1_at wsX1_at) := goodIn_app (goodIn_of _ (by decide +kernel)) ggX1_newRowsBy_X1_at
set_option maxRecDepth 20000 in
theorem ggX1_newRowsBy_X1_sharedBackwardsFrom : GoodIn wsX1_newRowsBy wsX1_sharedBackwardsFrom := goodIn_r _ [15, 1, 6, 7, 8, 9, 10, 11, 16, 17] (by decide +kernel) (by decide +kernel)
set_option maxRecDepth 20000 in
theorem gX1_newRowsBy_X1_sharedBackwardsFrom : GoodIn wsX1_newRowsBy (wsV RX1 47 RX1 yX1_sharedBackwardsFrom wsX1_sharedBackwardsFrom) := goodIn_app (goodIn_of _ (by decide +kernel)) ggX1_newRowsBy_X1_sharedBackwardsFrom
theorem dX1_newRowsBy_0 : decode cX1_newRowsBy 0 = .ok (.iconst 0, 1) := by decide +kernel
theorem dX1_newRowsBy_1 : decode cX1_newRowsBy 1 = .ok (.istore_n 2, 1) := by decide +kernel
theorem dX1_newRowsBy_2 : decode cX1_newRowsBy 2 = .ok (.iconst 0, 1) := by decide +kernel
theorem dX1_newRowsBy_3 : decode cX1_newRowsBy 3 = .ok (.istore_n 3, 1) := by decide +kernel
theorem dX1_newRowsBy_4 : decode cX1_newRowsBy 4 = .ok (.iload_n 3, 1) := by decide +kernel
theorem dX1_newRowsBy_5 : decode cX1_newRowsBy 5 = .ok (.aload_n 0, 1) := by decide +kernel
theorem dX1_newRowsBy_6 : decode cX1_newRowsBy 6 = .ok (.getfield 15, 3) := by decide +kernel
theorem dX1_newRowsBy_9 : decode cX1_newRowsBy 9 = .ok (.if_icmp .ge 30, 3) := by decide +kernel
theorem dX1_newRowsBy_12 : decode cX1_newRowsBy 12 = .ok (.aload_n 0, 1) := by decide +kernel
theorem dX1_newRowsBy_13 : decode cX1_newRowsBy 13 = .ok (.iload_n 3, 1) := by decide +kernel
theorem dX1_newRowsBy_14 : decode cX1_newRowsBy 14 = .ok (.invokevirtual 25, 3) := by decide +kernel
theorem dX1_newRowsBy_17 : decode cX1_newRowsBy 17 = .ok (.iload_n 1, 1) := by decide +kernel
theorem dX1_newRowsBy_18 : decode cX1_newRowsBy 18 = .ok (.if_icmp .ne 15, 3) := by decide +kernel
theorem dX1_newRowsBy_21 : decode cX1_newRowsBy 21 = .ok (.iload_n 2, 1) := by decide +kernel
theorem dX1_newRowsBy_22 : decode cX1_newRowsBy 22 = .ok (.iconst 1, 1) := by decide +kernel
theorem dX1_newRowsBy_23 : decode cX1_newRowsBy 23 = .ok (.aload_n 0, 1) := by decide +kernel
theorem dX1_newRowsBy_24 : decode cX1_newRowsBy 24 = .ok (.iload_n 3, 1) := by decide +kernel
theorem dX1_newRowsBy_25 : decode cX1_newRowsBy 25 = .ok (.invokevirtual 47, 3) := by decide +kernel
theorem dX1_newRowsBy_28 : decode cX1_newRowsBy 28 = .ok (.iadd, 1) := by decide +kernel
theorem dX1_newRowsBy_29 : decode cX1_newRowsBy 29 = .ok (.invokestatic 33, 3) := by decide +kernel
theorem dX1_newRowsBy_32 : decode cX1_newRowsBy 32 = .ok (.istore_n 2, 1) := by decide +kernel
theorem dX1_newRowsBy_33 : decode cX1_newRowsBy 33 = .ok (.iinc 3 1, 3) := by decide +kernel
theorem dX1_newRowsBy_36 : decode cX1_newRowsBy 36 = .ok (.goto (-32), 3) := by decide +kernel
theorem dX1_newRowsBy_39 : decode cX1_newRowsBy 39 = .ok (.aload_n 0, 1) := by decide +kernel
theorem dX1_newRowsBy_40 : decode cX1_newRowsBy 40 = .ok (.getfield 15, 3) := by decide +kernel
theorem dX1_newRowsBy_43 : decode cX1_newRowsBy 43 = .ok (.iconst 1, 1) := by decide +kernel
theorem dX1_newRowsBy_44 : decode cX1_newRowsBy 44 = .ok (.iadd, 1) := by decide +kernel
theorem dX1_newRowsBy_45 : decode cX1_newRowsBy 45 = .ok (.iload_n 2, 1) := by decide +kernel
theorem dX1_newRowsBy_46 : decode cX1_newRowsBy 46 = .ok (.isub, 1) := by decide +kernel
theorem dX1_newRowsBy_47 : decode cX1_newRowsBy 47 = .ok (.ireturn, 1) := by decide +kernel
set_option maxRecDepth 20000 in
theorem ggX1_sharedBackwardsFrom_X1_at : GoodIn wsX1_sharedBackwardsFrom wsX1_at := goodIn_r _ [6, 1, 7, 8, 9] (by decide +kernel) (by decide +kernel)
set_option maxRecDepth 20000 in
theorem gX1_sharedBackwardsFrom_X1_at : GoodIn wsX1_sharedBackwardsFrom (wsV RX1 25 RX1 yX1_at wsX1_at) := goodIn_app (goodIn_of _ (by decide +kernel)) ggX1_sharedBackwardsFrom_X1_at
theorem dX1_sharedBackwardsFrom_0 : decode cX1_sharedBackwardsFrom 0 = .ok (.iconst 0, 1) := by decide +kernel
theorem dX1_sharedBackwardsFrom_1 : decode cX1_sharedBackwardsFrom 1 = .ok (.istore_n 2, 1) := by decide +kernel
theorem dX1_sharedBackwardsFrom_2 : decode cX1_sharedBackwardsFrom 2 = .ok (.iload_n 2, 1) := by decide +kernel
theorem dX1_sharedBackwardsFrom_3 : decode cX1_sharedBackwardsFrom 3 = .ok (.iload_n 1, 1) := by decide +kernel
theorem dX1_sharedBackwardsFrom_4 : decode cX1_sharedBackwardsFrom 4 = .ok (.if_icmp .ge 33, 3) := by decide +kernel
theorem dX1_sharedBackwardsFrom_7 : decode cX1_sharedBackwardsFrom 7 = .ok (.aload_n 0, 1) := by decide +kernel
theorem dX1_sharedBackwardsFrom_8 : decode cX1_sharedBackwardsFrom 8 = .ok (.iload_n 1, 1) := by decide +kernel
theorem dX1_sharedBackwardsFrom_9 : decode cX1_sharedBackwardsFrom 9 = .ok (.iconst 1, 1) := by decide +kernel
theorem dX1_sharedBackwardsFrom_10 : decode cX1_sharedBackwardsFrom 10 = .ok (.isub, 1) := by decide +kernel
theorem dX1_sharedBackwardsFrom_11 : decode cX1_sharedBackwardsFrom 11 = .ok (.iload_n 2, 1) := by decide +kernel
theorem dX1_sharedBackwardsFrom_12 : decode cX1_sharedBackwardsFrom 12 = .ok (.isub, 1) := by decide +kernel
theorem dX1_sharedBackwardsFrom_13 : decode cX1_sharedBackwardsFrom 13 = .ok (.invokevirtual 25, 3) := by decide +kernel
theorem dX1_sharedBackwardsFrom_16 : decode cX1_sharedBackwardsFrom 16 = .ok (.aload_n 0, 1) := by decide +kernel
theorem dX1_sharedBackwardsFrom_17 : decode cX1_sharedBackwardsFrom 17 = .ok (.aload_n 0, 1) := by decide +kernel
theorem dX1_sharedBackwardsFrom_18 : decode cX1_sharedBackwardsFrom 18 = .ok (.getfield 15, 3) := by decide +kernel
theorem dX1_sharedBackwardsFrom_21 : decode cX1_sharedBackwardsFrom 21 = .ok (.iconst 1, 1) := by decide +kernel
theorem dX1_sharedBackwardsFrom_22 : decode cX1_sharedBackwardsFrom 22 = .ok (.isub, 1) := by decide +kernel
theorem dX1_sharedBackwardsFrom_23 : decode cX1_sharedBackwardsFrom 23 = .ok (.iload_n 2, 1) := by decide +kernel
theorem dX1_sharedBackwardsFrom_24 : decode cX1_sharedBackwardsFrom 24 = .ok (.isub, 1) := by decide +kernel
theorem dX1_sharedBackwardsFrom_25 : decode cX1_sharedBackwardsFrom 25 = .ok (.invokevirtual 25, 3) := by decide +kernel
theorem dX1_sharedBackwardsFrom_28 : decode cX1_sharedBackwardsFrom 28 = .ok (.if_icmp .ne 9, 3) := by decide +kernel
theorem dX1_sharedBackwardsFrom_31 : decode cX1_sharedBackwardsFrom 31 = .ok (.iinc 2 1, 3) := by decide +kernel
theorem dX1_sharedBackwardsFrom_34 : decode cX1_sharedBackwardsFrom 34 = .ok (.goto (-32), 3) := by decide +kernel
theorem dX1_sharedBackwardsFrom_37 : decode cX1_sharedBackwardsFrom 37 = .ok (.iload_n 2, 1) := by decide +kernel
theorem dX1_sharedBackwardsFrom_38 : decode cX1_sharedBackwardsFrom 38 = .ok (.ireturn, 1) := by decide +kernel
set_option maxRecDepth 20000 in
theorem ggX2_init_X0_init : GoodIn wsX2_init wsX0_init := goodIn_r _ [15, 16, 2, 3, 17, 10, 11, 18, 19, 20, 21, 22, 23, 24, 25, 26, 33, 34, 28, 29] (by decide +kernel) (by decide +kernel)
set_option maxRecDepth 20000 in
theorem gX2_init_X0_init : GoodIn wsX2_init (wsX0_init) := ggX2_init_X0_init
set_option maxRecDepth 20000 in
theorem ggX2_init_X1_init : GoodIn wsX2_init wsX1_init := goodIn_r _ [23, 24, 2, 3, 19, 25, 26, 33, 34] (by decide +kernel) (by decide +kernel)
set_option maxRecDepth 20000 in
theorem gX2_init_X1_init : GoodIn wsX2_init (wsX1_init) := ggX2_init_X1_init
theorem dX2_init_0 : decode cX2_init 0 = .ok (.aload_n 0, 1) := by decide +kernel
theorem dX2_init_1 : decode cX2_init 1 = .ok (.invokespecial 1, 3) := by decide +kernel
theorem dX2_init_4 : decode cX2_init 4 = .ok (.aload_n 0, 1) := by decide +kernel
theorem dX2_init_5 : decode cX2_init 5 = .ok (.new 7, 3) := by decide +kernel
theorem dX2_init_8 : decode cX2_init 8 = .ok (.dup, 1) := by decide +kernel
theorem dX2_init_9 : decode cX2_init 9 = .ok (.invokespecial 9, 3) := by decide +kernel
theorem dX2_init_12 : decode cX2_init 12 = .ok (.putfield 10, 3) := by decide +kernel
theorem dX2_init_15 : decode cX2_init 15 = .ok (.aload_n 0, 1) := by decide +kernel
theorem dX2_init_16 : decode cX2_init 16 = .ok (.new 7, 3) := by decide +kernel
theorem dX2_init_19 : decode cX2_init 19 = .ok (.dup, 1) := by decide +kernel
theorem dX2_init_20 : decode cX2_init 20 = .ok (.invokespecial 9, 3) := by decide +kernel
theorem dX2_init_23 : decode cX2_init 23 = .ok (.putfield 16, 3) := by decide +kernel
theorem dX2_init_26 : decode cX2_init 26 = .ok (.aload_n 0, 1) := by decide +kernel
theorem dX2_init_27 : decode cX2_init 27 = .ok (.new 19, 3) := by decide +kernel
theorem dX2_init_30 : decode cX2_init 30 = .ok (.dup, 1) := by decide +kernel
theorem dX2_init_31 : decode cX2_init 31 = .ok (.invokespecial 21, 3) := by decide +kernel
theorem dX2_init_34 : decode cX2_init 34 = .ok (.putfield 22, 3) := by decide +kernel
theorem dX2_init_37 : decode cX2_init 37 = .ok (.return_, 1) := by decide +kernel
set_option maxRecDepth 20000 in
theorem ggX2_sew_X2_hemOf : GoodIn wsX2_sew wsX2_hemOf := goodIn_ca (goodIn_r _ [7, 8, 9, 10, 11, 59, 60, 61] (by decide +kernel) (by decide +kernel)) (goodIn_sub (fun _ h => List.mem_cons_of_mem _ (List.mem_append_left _ (List.mem_append_right _ h))) (by decide +kernel))
set_option maxRecDepth 20000 in
theorem gX2_sew_X2_hemOf : GoodIn wsX2_sew (wsV RX2 26 RX2 yX2_hemOf wsX2_hemOf) := goodIn_app (goodIn_of _ (by decide +kernel)) ggX2_sew_X2_hemOf
set_option maxRecDepth 20000 in
theorem ggX2_sew_X2_requireStitch : GoodIn wsX2_sew wsX2_requireStitch := goodIn_ca (goodIn_r _ [14, 15, 16] (by decide +kernel) (by decide +kernel)) (goodIn_sub (fun _ h => List.mem_cons_of_mem _ (List.mem_append_right _ h)) (by decide +kernel))
set_option maxRecDepth 20000 in
theorem gX2_sew_X2_requireStitch : GoodIn wsX2_sew (va_wsS RX2 30 yX2_requireStitch wsX2_requireStitch) := goodIn_app (goodIn_of _ (by decide +kernel)) ggX2_sew_X2_requireStitch
set_option maxRecDepth 20000 in
theorem ggX2_sew_X0_sewOn : GoodIn wsX2_sew wsX0_sewOn := goodIn_r _ [21, 22, 23, 24, 25, 26, 27, 28, 29, 30, 31, 32, 20, 33, 34, 35, 36, 37, 38, 39, 40, 41, 42, 43, 44, 45, 46, 47, 48, 49, 50, 51, 52, 53, 54, 55, 56, 57, 58] (by decide +kernel) (by decide +kernel)
set_option maxRecDepth 20000 in
theorem gX2_sew_X0_sewOn : GoodIn wsX2_sew (wsV RX2 48 RX0 yX0_sewOn wsX0_sewOn) := goodIn_app (goodIn_of _ (by decide +kernel)) ggX2_sew_X0_sewOn
theorem dX2_sew_0 : decode cX2_sew 0 = .ok (.aload_n 0, 1) := by decide +kernel
theorem dX2_sew_1 : decode cX2_sew 1 = .ok (.iload_n 1, 1) := by decide +kernel
theorem dX2_sew_2 : decode cX2_sew 2 = .ok (.invokevirtual 26, 3) := by decide +kernel
theorem dX2_sew_5 : decode cX2_sew 5 = .ok (.astore_n 3, 1) := by decide +kernel
theorem dX2_sew_6 : decode cX2_sew 6 = .ok (.iload_n 2, 1) := by decide +kernel
theorem dX2_sew_7 : decode cX2_sew 7 = .ok (.invokestatic 30, 3) := by decide +kernel
theorem dX2_sew_10 : decode cX2_sew 10 = .ok (.aload_n 3, 1) := by decide +kernel
theorem dX2_sew_11 : decode cX2_sew 11 = .ok (.getfield 34, 3) := by decide +kernel
theorem dX2_sew_14 : decode cX2_sew 14 = .ok (.getfield 37, 3) := by decide +kernel
theorem dX2_sew_17 : decode cX2_sew 17 = .ok (.bipush 40, 2) := by decide +kernel
theorem dX2_sew_19 : decode cX2_sew 19 = .ok (.if_icmp .lt 13, 3) := by decide +kernel
theorem dX2_sew_22 : decode cX2_sew 22 = .ok (.new 41, 3) := by decide +kernel
theorem dX2_sew_25 : decode cX2_sew 25 = .ok (.dup, 1) := by decide +kernel
theorem dX2_sew_26 : decode cX2_sew 26 = .ok (.ldc 43, 2) := by decide +kernel
theorem dX2_sew_28 : decode cX2_sew 28 = .ok (.invokespecial 45, 3) := by decide +kernel
theorem dX2_sew_31 : decode cX2_sew 31 = .ok (.athrow, 1) := by decide +kernel
theorem dX2_sew_32 : decode cX2_sew 32 = .ok (.aload_n 3, 1) := by decide +kernel
theorem dX2_sew_33 : decode cX2_sew 33 = .ok (.iload_n 2, 1) := by decide +kernel
theorem dX2_sew_34 : decode cX2_sew 34 = .ok (.invokevirtual 48, 3) := by decide +kernel
theorem dX2_sew_37 : decode cX2_sew 37 = .ok (.aload_n 3, 1) := by decide +kernel
theorem dX2_sew_38 : decode cX2_sew 38 = .ok (.getfield 34, 3) := by decide +kernel
theorem dX2_sew_41 : decode cX2_sew 41 = .ok (.getfield 37, 3) := by decide +kernel
theorem dX2_sew_44 : decode cX2_sew 44 = .ok (.ireturn, 1) := by decide +kernel
set_option maxRecDepth 20000 in
theorem ggX2_again_X2_hemOf : GoodIn wsX2_again wsX2_hemOf := goodIn_ca (goodIn_r _ [9, 10, 11, 12, 13, 57, 58, 59] (by decide +kernel) (by decide +kernel)) (goodIn_sub (fun _ h => List.mem_cons_of_mem _ (List.mem_append_right _ h)) (by decide +kernel))
set_option maxRecDepth 20000 in
theorem gX2_again_X2_hemOf : GoodIn wsX2_again (wsV RX2 26 RX2 yX2_hemOf wsX2_hemOf) := goodIn_app (goodIn_of _ (by decide +kernel)) ggX2_again_X2_hemOf
set_option maxRecDepth 20000 in
theorem ggX2_again_X0_sewBeginning : GoodIn wsX2_again wsX0_sewBeginning := goodIn_r _ [18, 19, 20, 21, 22, 23, 24, 25, 26, 27, 28, 29, 30, 31, 32, 33, 17, 34, 35, 36, 37, 38, 39, 40, 41, 42, 43, 44, 45, 46, 47, 48, 49, 50, 51, 52, 53, 54, 55, 56] (by decide +kernel) (by decide +kernel)
set_option maxRecDepth 20000 in
theorem gX2_again_X0_sewBeginning : GoodIn wsX2_again (wsV RX2 58 RX0 yX0_sewBeginning wsX0_sewBeginning) := goodIn_app (goodIn_of _ (by decide +kernel)) ggX2_again_X0_sewBeginning
theorem dX2_again_0 : decode cX2_again 0 = .ok (.aload_n 0, 1) := by decide +kernel
theorem dX2_again_1 : decode cX2_again 1 = .ok (.iload_n 1, 1) := by decide +kernel
theorem dX2_again_2 : decode cX2_again 2 = .ok (.invokevirtual 26, 3) := by decide +kernel
theorem dX2_again_5 : decode cX2_again 5 = .ok (.astore_n 3, 1) := by decide +kernel
theorem dX2_again_6 : decode cX2_again 6 = .ok (.iload_n 2, 1) := by decide +kernel
theorem dX2_again_7 : decode cX2_again 7 = .ok (.iconst 1, 1) := by decide +kernel
theorem dX2_again_8 : decode cX2_again 8 = .ok (.if_icmp .lt 9, 3) := by decide +kernel
theorem dX2_again_11 : decode cX2_again 11 = .ok (.iload_n 2, 1) := by decide +kernel
theorem dX2_again_12 : decode cX2_again 12 = .ok (.bipush 40, 2) := by decide +kernel
theorem dX2_again_14 : decode cX2_again 14 = .ok (.if_icmp .le 13, 3) := by decide +kernel
theorem dX2_again_17 : decode cX2_again 17 = .ok (.new 51, 3) := by decide +kernel
theorem dX2_again_20 : decode cX2_again 20 = .ok (.dup, 1) := by decide +kernel
theorem dX2_again_21 : decode cX2_again 21 = .ok (.ldc 53, 2) := by decide +kernel
theorem dX2_again_23 : decode cX2_again 23 = .ok (.invokespecial 55, 3) := by decide +kernel
theorem dX2_again_26 : decode cX2_again 26 = .ok (.athrow, 1) := by decide +kernel
theorem dX2_again_27 : decode cX2_again 27 = .ok (.aload_n 3, 1) := by decide +kernel
theorem dX2_again_28 : decode cX2_again 28 = .ok (.getfield 34, 3) := by decide +kernel
theorem dX2_again_31 : decode cX2_again 31 = .ok (.getfield 37, 3) := by decide +kernel
theorem dX2_again_34 : decode cX2_again 34 = .ok (.istore 4, 2) := by decide +kernel
theorem dX2_again_36 : decode cX2_again 36 = .ok (.iload 4, 2) := by decide +kernel
theorem dX2_again_38 : decode cX2_again 38 = .ok (.ifCond .eq 12, 3) := by decide +kernel
theorem dX2_again_41 : decode cX2_again 41 = .ok (.iload 4, 2) := by decide +kernel
theorem dX2_again_43 : decode cX2_again 43 = .ok (.iload_n 2, 1) := by decide +kernel
theorem dX2_again_44 : decode cX2_again 44 = .ok (.iadd, 1) := by decide +kernel
theorem dX2_again_45 : decode cX2_again 45 = .ok (.bipush 40, 2) := by decide +kernel
theorem dX2_again_47 : decode cX2_again 47 = .ok (.if_icmp .le 13, 3) := by decide +kernel
theorem dX2_again_50 : decode cX2_again 50 = .ok (.new 41, 3) := by decide +kernel
theorem dX2_again_53 : decode cX2_again 53 = .ok (.dup, 1) := by decide +kernel
theorem dX2_again_54 : decode cX2_again 54 = .ok (.ldc 56, 2) := by decide +kernel
theorem dX2_again_56 : decode cX2_again 56 = .ok (.invokespecial 45, 3) := by decide +kernel
theorem dX2_again_59 : decode cX2_again 59 = .ok (.athrow, 1) := by decide +kernel
theorem dX2_again_60 : decode cX2_again 60 = .ok (.aload_n 3, 1) := by decide +kernel
theorem dX2_again_61 : decode cX2_again 61 = .ok (.iload_n 2, 1) := by decide +kernel
theorem dX2_again_62 : decode cX2_again 62 = .ok (.invokevirtual 58, 3) := by decide +kernel
theorem dX2_again_65 : decode cX2_again 65 = .ok (.aload_n 3, 1) := by decide +kernel
theorem dX2_again_66 : decode cX2_again 66 = .ok (.getfield 34, 3) := by decide +kernel
theorem dX2_again_69 : decode cX2_again 69 = .ok (.getfield 37, 3) := by decide +kernel
theorem dX2_again_72 : decode cX2_again 72 = .ok (.ireturn, 1) := by decide +kernel
set_option maxRecDepth 20000 in
theorem ggX2_unpick_X2_hemOf : GoodIn wsX2_unpick wsX2_hemOf := goodIn_ca (goodIn_r _ [7, 8, 9, 10, 11, 54, 55, 56] (by decide +kernel) (by decide +kernel)) (goodIn_sub (fun _ h => List.mem_cons_of_mem _ (List.mem_append_right _ h)) (by decide +kernel))
set_option maxRecDepth 20000 in
theorem gX2_unpick_X2_hemOf : GoodIn wsX2_unpick (wsV RX2 26 RX2 yX2_hemOf wsX2_hemOf) := goodIn_app (goodIn_of _ (by decide +kernel)) ggX2_unpick_X2_hemOf
set_option maxRecDepth 20000 in
theorem ggX2_unpick_X0_takeOff : GoodIn wsX2_unpick wsX0_takeOff := goodIn_r _ [16, 17, 18, 19, 20, 21, 22, 23, 24, 25, 26, 15, 27, 28, 29, 30, 31, 32, 33, 34, 35, 36, 37, 38, 39, 40, 41, 42, 43, 44, 45, 46, 47, 48, 49, 50, 51, 52, 53] (by decide +kernel) (by decide +kernel)
set_option maxRecDepth 20000 in
theorem gX2_unpick_X0_takeOff : GoodIn wsX2_unpick (wsV RX2 63 RX0 yX0_takeOff wsX0_takeOff) := goodIn_app (goodIn_of _ (by decide +kernel)) ggX2_unpick_X0_takeOff
theorem dX2_unpick_0 : decode cX2_unpick 0 = .ok (.aload_n 0, 1) := by decide +kernel
theorem dX2_unpick_1 : decode cX2_unpick 1 = .ok (.iload_n 1, 1) := by decide +kernel
theorem dX2_unpick_2 : decode cX2_unpick 2 = .ok (.invokevirtual 26, 3) := by decide +kernel
theorem dX2_unpick_5 : decode cX2_unpick 5 = .ok (.astore_n 3, 1) := by decide +kernel
theorem dX2_unpick_6 : decode cX2_unpick 6 = .ok (.iload_n 2, 1) := by decide +kernel
theorem dX2_unpick_7 : decode cX2_unpick 7 = .ok (.iconst 1, 1) := by decide +kernel
theorem dX2_unpick_8 : decode cX2_unpick 8 = .ok (.if_icmp .lt 14, 3) := by decide +kernel
theorem dX2_unpick_11 : decode cX2_unpick 11 = .ok (.iload_n 2, 1) := by decide +kernel
theorem dX2_unpick_12 : decode cX2_unpick 12 = .ok (.aload_n 3, 1) := by decide +kernel
theorem dX2_unpick_13 : decode cX2_unpick 13 = .ok (.getfield 34, 3) := by decide +kernel
theorem dX2_unpick_16 : decode cX2_unpick 16 = .ok (.getfield 37, 3) := by decide +kernel
theorem dX2_unpick_19 : decode cX2_unpick 19 = .ok (.if_icmp .le 13, 3) := by decide +kernel
theorem dX2_unpick_22 : decode cX2_unpick 22 = .ok (.new 51, 3) := by decide +kernel
theorem dX2_unpick_25 : decode cX2_unpick 25 = .ok (.dup, 1) := by decide +kernel
theorem dX2_unpick_26 : decode cX2_unpick 26 = .ok (.ldc 61, 2) := by decide +kernel
theorem dX2_unpick_28 : decode cX2_unpick 28 = .ok (.invokespecial 55, 3) := by decide +kernel
theorem dX2_unpick_31 : decode cX2_unpick 31 = .ok (.athrow, 1) := by decide +kernel
theorem dX2_unpick_32 : decode cX2_unpick 32 = .ok (.aload_n 3, 1) := by decide +kernel
theorem dX2_unpick_33 : decode cX2_unpick 33 = .ok (.iload_n 2, 1) := by decide +kernel
theorem dX2_unpick_34 : decode cX2_unpick 34 = .ok (.invokevirtual 63, 3) := by decide +kernel
theorem dX2_unpick_37 : decode cX2_unpick 37 = .ok (.aload_n 3, 1) := by decide +kernel
theorem dX2_unpick_38 : decode cX2_unpick 38 = .ok (.getfield 34, 3) := by decide +kernel
theorem dX2_unpick_41 : decode cX2_unpick 41 = .ok (.getfield 37, 3) := by decide +kernel
theorem dX2_unpick_44 : decode cX2_unpick 44 = .ok (.ireturn, 1) := by decide +kernel
set_option maxRecDepth 20000 in
theorem ggX2_add_X2_requireStitch : GoodIn wsX2_add wsX2_requireStitch := goodIn_ca (goodIn_r _ [7, 8, 9] (by decide +kernel) (by decide +kernel)) (goodIn_sub (fun _ h => List.mem_cons_of_mem _ (List.mem_append_right _ h)) (by decide +kernel))
set_option maxRecDepth 20000 in
theorem gX2_add_X2_requireStitch : GoodIn wsX2_add (va_wsS RX2 30 yX2_requireStitch wsX2_requireStitch) := goodIn_app (goodIn_of _ (by decide +kernel)) ggX2_add_X2_requireStitch
set_option maxRecDepth 20000 in
theorem ggX2_add_X1_append : GoodIn wsX2_add wsX1_append := goodIn_r _ [14, 15, 16, 20, 21] (by decide +kernel) (by decide +kernel)
set_option maxRecDepth 20000 in
theorem gX2_add_X1_append : GoodIn wsX2_add (wsV RX2 68 RX1 yX1_append wsX1_append) := goodIn_app (goodIn_of _ (by decide +kernel)) ggX2_add_X1_append
theorem dX2_add_0 : decode cX2_add 0 = .ok (.iload_n 1, 1) := by decide +kernel
theorem dX2_add_1 : decode cX2_add 1 = .ok (.invokestatic 30, 3) := by decide +kernel
theorem dX2_add_4 : decode cX2_add 4 = .ok (.aload_n 0, 1) := by decide +kernel
theorem dX2_add_5 : decode cX2_add 5 = .ok (.getfield 22, 3) := by decide +kernel
theorem dX2_add_8 : decode cX2_add 8 = .ok (.getfield 37, 3) := by decide +kernel
theorem dX2_add_11 : decode cX2_add 11 = .ok (.bipush 12, 2) := by decide +kernel
theorem dX2_add_13 : decode cX2_add 13 = .ok (.if_icmp .lt 13, 3) := by decide +kernel
theorem dX2_add_16 : decode cX2_add 16 = .ok (.new 41, 3) := by decide +kernel
theorem dX2_add_19 : decode cX2_add 19 = .ok (.dup, 1) := by decide +kernel
theorem dX2_add_20 : decode cX2_add 20 = .ok (.ldc 66, 2) := by decide +kernel
theorem dX2_add_22 : decode cX2_add 22 = .ok (.invokespecial 45, 3) := by decide +kernel
theorem dX2_add_25 : decode cX2_add 25 = .ok (.athrow, 1) := by decide +kernel
theorem dX2_add_26 : decode cX2_add 26 = .ok (.aload_n 0, 1) := by decide +kernel
theorem dX2_add_27 : decode cX2_add 27 = .ok (.getfield 22, 3) := by decide +kernel
theorem dX2_add_30 : decode cX2_add 30 = .ok (.iload_n 1, 1) := by decide +kernel
theorem dX2_add_31 : decode cX2_add 31 = .ok (.invokevirtual 68, 3) := by decide +kernel
theorem dX2_add_34 : decode cX2_add 34 = .ok (.aload_n 0, 1) := by decide +kernel
theorem dX2_add_35 : decode cX2_add 35 = .ok (.getfield 22, 3) := by decide +kernel
theorem dX2_add_38 : decode cX2_add 38 = .ok (.getfield 37, 3) := by decide +kernel
theorem dX2_add_41 : decode cX2_add 41 = .ok (.ireturn, 1) := by decide +kernel
set_option maxRecDepth 20000 in
theorem ggX2_clear_X1_drop : GoodIn wsX2_clear wsX1_drop := goodIn_r _ [6, 7, 11, 12] (by decide +kernel) (by decide +kernel)
set_option maxRecDepth 20000 in
theorem gX2_clear_X1_drop : GoodIn wsX2_clear (wsV RX2 71 RX1 yX1_drop wsX1_drop) := goodIn_app (goodIn_of _ (by decide +kernel)) ggX2_clear_X1_drop
theorem dX2_clear_0 : decode cX2_clear 0 = .ok (.aload_n 0, 1) := by decide +kernel
theorem dX2_clear_1 : decode cX2_clear 1 = .ok (.getfield 22, 3) := by decide +kernel
theorem dX2_clear_4 : decode cX2_clear 4 = .ok (.getfield 37, 3) := by decide +kernel
theorem dX2_clear_7 : decode cX2_clear 7 = .ok (.istore_n 1, 1) := by decide +kernel
theorem dX2_clear_8 : decode cX2_clear 8 = .ok (.aload_n 0, 1) := by decide +kernel
theorem dX2_clear_9 : decode cX2_clear 9 = .ok (.getfield 22, 3) := by decide +kernel
theorem dX2_clear_12 : decode cX2_clear 12 = .ok (.iload_n 1, 1) := by decide +kernel
theorem dX2_clear_13 : decode cX2_clear 13 = .ok (.invokevirtual 71, 3) := by decide +kernel
theorem dX2_clear_16 : decode cX2_clear 16 = .ok (.iload_n 1, 1) := by decide +kernel
theorem dX2_clear_17 : decode cX2_clear 17 = .ok (.ireturn, 1) := by decide +kernel
set_option maxRecDepth 20000 in
theorem ggX2_stitch_X2_hemOf : GoodIn wsX2_stitch wsX2_hemOf := goodIn_ca (goodIn_r _ [5, 6, 7, 8, 9, 22, 23, 24] (by decide +kernel) (by decide +kernel)) (goodIn_sub (fun _ h => List.mem_cons_of_mem _ (List.mem_append_right _ h)) (by decide +kernel))
set_option maxRecDepth 20000 in
theorem gX2_stitch_X2_hemOf : GoodIn wsX2_stitch (wsV RX2 26 RX2 yX2_hemOf wsX2_hemOf) := goodIn_app (goodIn_of _ (by decide +kernel)) ggX2_stitch_X2_hemOf
set_option maxRecDepth 20000 in
theorem ggX2_stitch_X2_requirePlace : GoodIn wsX2_stitch wsX2_requirePlace := goodIn_ca (goodIn_r _ [12, 6, 7, 25, 26] (by decide +kernel) (by decide +kernel)) (goodIn_sub (fun _ h => List.mem_cons_of_mem _ (List.mem_append_right _ h)) (by decide +kernel))
set_option maxRecDepth 20000 in
theorem gX2_stitch_X2_requirePlace : GoodIn wsX2_stitch (va_wsS RX2 74 yX2_requirePlace wsX2_requirePlace) := goodIn_app (goodIn_of _ (by decide +kernel)) ggX2_stitch_X2_requirePlace
set_option maxRecDepth 20000 in
theorem ggX2_stitch_X1_at : GoodIn wsX2_stitch wsX1_at := goodIn_r _ [17, 18, 19, 25, 26] (by decide +kernel) (by decide +kernel)
set_option maxRecDepth 20000 in
theorem gX2_stitch_X1_at : GoodIn wsX2_stitch (wsV RX2 78 RX1 yX1_at wsX1_at) := goodIn_app (goodIn_of _ (by decide +kernel)) ggX2_stitch_X1_at
theorem dX2_stitch_0 : decode cX2_stitch 0 = .ok (.aload_n 0, 1) := by decide +kernel
theorem dX2_stitch_1 : decode cX2_stitch 1 = .ok (.iload_n 1, 1) := by decide +kernel
theorem dX2_stitch_2 : decode cX2_stitch 2 = .ok (.invokevirtual 26, 3) := by decide +kernel
theorem dX2_stitch_5 : decode cX2_stitch 5 = .ok (.getfield 34, 3) := by decide +kernel
theorem dX2_stitch_8 : decode cX2_stitch 8 = .ok (.astore_n 3, 1) := by decide +kernel
theorem dX2_stitch_9 : decode cX2_stitch 9 = .ok (.aload_n 3, 1) := by decide +kernel
theorem dX2_stitch_10 : decode cX2_stitch 10 = .ok (.iload_n 2, 1) := by decide +kernel
theorem dX2_stitch_11 : decode cX2_stitch 11 = .ok (.invokestatic 74, 3) := by decide +kernel
theorem dX2_stitch_14 : decode cX2_stitch 14 = .ok (.aload_n 3, 1) := by decide +kernel
theorem dX2_stitch_15 : decode cX2_stitch 15 = .ok (.iload_n 2, 1) := by decide +kernel
theorem dX2_stitch_16 : decode cX2_stitch 16 = .ok (.invokevirtual 78, 3) := by decide +kernel
theorem dX2_stitch_19 : decode cX2_stitch 19 = .ok (.ireturn, 1) := by decide +kernel
set_option maxRecDepth 20000 in
theorem ggX2_count_X0_differentRows : GoodIn wsX2_count wsX0_differentRows := goodIn_r _ [10, 11, 12, 13, 14, 9, 15, 16, 17, 18, 19, 20, 21, 22, 23, 24, 25, 26, 27, 28, 29, 30, 31, 32, 33, 34, 35, 36, 37, 38, 39, 61, 62, 63, 64] (by decide +kernel) (by decide +kernel)
set_option maxRecDepth 20000 in
theorem gX2_count_X0_differentRows : GoodIn wsX2_count (wsV RX2 82 RX0 yX0_differentRows wsX0_differentRows) := goodIn_app (goodIn_of _ (by decide +kernel)) ggX2_count_X0_differentRows
set_option maxRecDepth 20000 in
theorem ggX2_count_X2_seamPlace : GoodIn wsX2_count wsX2_seamPlace := goodIn_r _ [44, 3, 45, 17, 18, 9, 19, 11, 20, 46, 47, 48, 43, 49, 4, 50, 51, 52, 28, 53, 30, 54, 55, 33, 56, 57, 26, 27, 29, 31, 32, 34, 35, 36, 37, 38, 39, 58, 59, 60, 61, 62, 63, 64] (by decide +kernel) (by decide +kernel)
set_option maxRecDepth 20000 in
theorem gX2_count_X2_seamPlace : GoodIn wsX2_count (wsV RX2 86 RX2 yX2_seamPlace wsX2_seamPlace) := goodIn_app (goodIn_of _ (by decide +kernel)) ggX2_count_X2_seamPlace
set_option maxRecDepth 20000 in
theorem ggX2_count_X2_seamLengthFrom : GoodIn wsX2_count wsX2_seamLengthFrom := goodIn_r _ [49, 3, 4, 50, 51, 52, 28, 53, 30, 54, 55, 33, 56, 57, 26, 27, 29, 31, 32, 34, 35, 36, 37, 38, 39, 58, 59, 60, 61, 62, 63, 64] (by decide +kernel) (by decide +kernel)
set_option maxRecDepth 20000 in
theorem gX2_count_X2_seamLengthFrom : GoodIn wsX2_count (wsV RX2 89 RX2 yX2_seamLengthFrom wsX2_seamLengthFrom) := goodIn_app (goodIn_of _ (by decide +kernel)) ggX2_count_X2_seamLengthFrom
theorem dX2_count_0 : decode cX2_count 0 = .ok (.iload_n 1, 1) := by decide +kernel
theorem dX2_count_1 : decode cX2_count 1 = .ok (.tableswitch 94 0 5 #[39, 50, 61, 69, 77, 85], 39) := by decide +kernel
theorem dX2_count_40 : decode cX2_count 40 = .ok (.aload_n 0, 1) := by decide +kernel
theorem dX2_count_41 : decode cX2_count 41 = .ok (.getfield 10, 3) := by decide +kernel
theorem dX2_count_44 : decode cX2_count 44 = .ok (.getfield 34, 3) := by decide +kernel
theorem dX2_count_47 : decode cX2_count 47 = .ok (.getfield 37, 3) := by decide +kernel
theorem dX2_count_50 : decode cX2_count 50 = .ok (.ireturn, 1) := by decide +kernel
theorem dX2_count_51 : decode cX2_count 51 = .ok (.aload_n 0, 1) := by decide +kernel
theorem dX2_count_52 : decode cX2_count 52 = .ok (.getfield 16, 3) := by decide +kernel
theorem dX2_count_55 : decode cX2_count 55 = .ok (.getfield 34, 3) := by decide +kernel
theorem dX2_count_58 : decode cX2_count 58 = .ok (.getfield 37, 3) := by decide +kernel
theorem dX2_count_61 : decode cX2_count 61 = .ok (.ireturn, 1) := by decide +kernel
theorem dX2_count_62 : decode cX2_count 62 = .ok (.aload_n 0, 1) := by decide +kernel
theorem dX2_count_63 : decode cX2_count 63 = .ok (.getfield 22, 3) := by decide +kernel
theorem dX2_count_66 : decode cX2_count 66 = .ok (.getfield 37, 3) := by decide +kernel
theorem dX2_count_69 : decode cX2_count 69 = .ok (.ireturn, 1) := by decide +kernel
theorem dX2_count_70 : decode cX2_count 70 = .ok (.aload_n 0, 1) := by decide +kernel
theorem dX2_count_71 : decode cX2_count 71 = .ok (.getfield 10, 3) := by decide +kernel
theorem dX2_count_74 : decode cX2_count 74 = .ok (.invokevirtual 82, 3) := by decide +kernel
theorem dX2_count_77 : decode cX2_count 77 = .ok (.ireturn, 1) := by decide +kernel
theorem dX2_count_78 : decode cX2_count 78 = .ok (.aload_n 0, 1) := by decide +kernel
theorem dX2_count_79 : decode cX2_count 79 = .ok (.getfield 16, 3) := by decide +kernel
theorem dX2_count_82 : decode cX2_count 82 = .ok (.invokevirtual 82, 3) := by decide +kernel
theorem dX2_count_85 : decode cX2_count 85 = .ok (.ireturn, 1) := by decide +kernel
theorem dX2_count_86 : decode cX2_count 86 = .ok (.aload_n 0, 1) := by decide +kernel
theorem dX2_count_87 : decode cX2_count 87 = .ok (.aload_n 0, 1) := by decide +kernel
theorem dX2_count_88 : decode cX2_count 88 = .ok (.invokevirtual 86, 3) := by decide +kernel
theorem dX2_count_91 : decode cX2_count 91 = .ok (.invokevirtual 89, 3) := by decide +kernel
theorem dX2_count_94 : decode cX2_count 94 = .ok (.ireturn, 1) := by decide +kernel
theorem dX2_count_95 : decode cX2_count 95 = .ok (.new 92, 3) := by decide +kernel
theorem dX2_count_98 : decode cX2_count 98 = .ok (.dup, 1) := by decide +kernel
theorem dX2_count_99 : decode cX2_count 99 = .ok (.ldc 94, 2) := by decide +kernel
theorem dX2_count_101 : decode cX2_count 101 = .ok (.invokespecial 96, 3) := by decide +kernel
theorem dX2_count_104 : decode cX2_count 104 = .ok (.athrow, 1) := by decide +kernel
set_option maxRecDepth 20000 in
theorem ggX2_end_X2_hemOf : GoodIn wsX2_end wsX2_hemOf := goodIn_ca (goodIn_r _ [5, 6, 7, 8, 9, 22, 23, 24] (by decide +kernel) (by decide +kernel)) (goodIn_sub (fun _ h => List.mem_cons_of_mem _ (List.mem_append_right _ h)) (by decide +kernel))
set_option maxRecDepth 20000 in
theorem gX2_end_X2_hemOf : GoodIn wsX2_end (wsV RX2 26 RX2 yX2_hemOf wsX2_hemOf) := goodIn_app (goodIn_of _ (by decide +kernel)) ggX2_end_X2_hemOf
set_option maxRecDepth 20000 in
theorem ggX2_end_X2_requirePlace : GoodIn wsX2_end wsX2_requirePlace := goodIn_ca (goodIn_r _ [12, 6, 7, 25, 26] (by decide +kernel) (by decide +kernel)) (goodIn_sub (fun _ h => List.mem_cons_of_mem _ (List.mem_append_right _ h)) (by decide +kernel))
set_option maxRecDepth 20000 in
theorem gX2_end_X2_requirePlace : GoodIn wsX2_end (va_wsS RX2 74 yX2_requirePlace wsX2_requirePlace) := goodIn_app (goodIn_of _ (by decide +kernel)) ggX2_end_X2_requirePlace
set_option maxRecDepth 20000 in
theorem ggX2_end_X0_placeAt : GoodIn wsX2_end wsX0_placeAt := goodIn_r _ [17, 18, 19, 20, 21, 25, 26] (by decide +kernel) (by decide +kernel)
set_option maxRecDepth 20000 in
theorem gX2_end_X0_placeAt : GoodIn wsX2_end (wsV RX2 97 RX0 yX0_placeAt wsX0_placeAt) := goodIn_app (goodIn_of _ (by decide +kernel)) ggX2_end_X0_placeAt
theorem dX2_end_0 : decode cX2_end 0 = .ok (.aload_n 0, 1) := by decide +kernel
theorem dX2_end_1 : decode cX2_end 1 = .ok (.iload_n 1, 1) := by decide +kernel
theorem dX2_end_2 : decode cX2_end 2 = .ok (.invokevirtual 26, 3) := by decide +kernel
theorem dX2_end_5 : decode cX2_end 5 = .ok (.astore_n 3, 1) := by decide +kernel
theorem dX2_end_6 : decode cX2_end 6 = .ok (.aload_n 3, 1) := by decide +kernel
theorem dX2_end_7 : decode cX2_end 7 = .ok (.getfield 34, 3) := by decide +kernel
theorem dX2_end_10 : decode cX2_end 10 = .ok (.iload_n 2, 1) := by decide +kernel
theorem dX2_end_11 : decode cX2_end 11 = .ok (.invokestatic 74, 3) := by decide +kernel
theorem dX2_end_14 : decode cX2_end 14 = .ok (.aload_n 3, 1) := by decide +kernel
theorem dX2_end_15 : decode cX2_end 15 = .ok (.iload_n 2, 1) := by decide +kernel
theorem dX2_end_16 : decode cX2_end 16 = .ok (.invokevirtual 97, 3) := by decide +kernel
theorem dX2_end_19 : decode cX2_end 19 = .ok (.ireturn, 1) := by decide +kernel
set_option maxRecDepth 20000 in
theorem ggX2_rank_X2_hemOf : GoodIn wsX2_rank wsX2_hemOf := goodIn_ca (goodIn_r _ [5, 6, 7, 8, 9, 26, 27, 28] (by decide +kernel) (by decide +kernel)) (goodIn_sub (fun _ h => List.mem_cons_of_mem _ (List.mem_append_right _ h)) (by decide +kernel))
set_option maxRecDepth 20000 in
theorem gX2_rank_X2_hemOf : GoodIn wsX2_rank (wsV RX2 26 RX2 yX2_hemOf wsX2_hemOf) := goodIn_app (goodIn_of _ (by decide +kernel)) ggX2_rank_X2_hemOf
set_option maxRecDepth 20000 in
theorem ggX2_rank_X2_requirePlace : GoodIn wsX2_rank wsX2_requirePlace := goodIn_ca (goodIn_r _ [12, 6, 7, 29, 30] (by decide +kernel) (by decide +kernel)) (goodIn_sub (fun _ h => List.mem_cons_of_mem _ (List.mem_append_right _ h)) (by decide +kernel))
set_option maxRecDepth 20000 in
theorem gX2_rank_X2_requirePlace : GoodIn wsX2_rank (va_wsS RX2 74 yX2_requirePlace wsX2_requirePlace) := goodIn_app (goodIn_of _ (by decide +kernel)) ggX2_rank_X2_requirePlace
set_option maxRecDepth 20000 in
theorem ggX2_rank_X0_rankOf : GoodIn wsX2_rank wsX0_rankOf := goodIn_r _ [17, 18, 19, 20, 21, 16, 22, 23, 24, 25, 29, 30] (by decide +kernel) (by decide +kernel)
set_option maxRecDepth 20000 in
theorem gX2_rank_X0_rankOf : GoodIn wsX2_rank (wsV RX2 100 RX0 yX0_rankOf wsX0_rankOf) := goodIn_app (goodIn_of _ (by decide +kernel)) ggX2_rank_X0_rankOf
theorem dX2_rank_0 : decode cX2_rank 0 = .ok (.aload_n 0, 1) := by decide +kernel
theorem dX2_rank_1 : decode cX2_rank 1 = .ok (.iload_n 1, 1) := by decide +kernel
theorem dX2_rank_2 : decode cX2_rank 2 = .ok (.invokevirtual 26, 3) := by decide +kernel
theorem dX2_rank_5 : decode cX2_rank 5 = .ok (.astore_n 3, 1) := by decide +kernel
theorem dX2_rank_6 : decode cX2_rank 6 = .ok (.aload_n 3, 1) := by decide +kernel
theorem dX2_rank_7 : decode cX2_rank 7 = .ok (.getfield 34, 3) := by decide +kernel
theorem dX2_rank_10 : decode cX2_rank 10 = .ok (.iload_n 2, 1) := by decide +kernel
theorem dX2_rank_11 : decode cX2_rank 11 = .ok (.invokestatic 74, 3) := by decide +kernel
theorem dX2_rank_14 : decode cX2_rank 14 = .ok (.aload_n 3, 1) := by decide +kernel
theorem dX2_rank_15 : decode cX2_rank 15 = .ok (.iload_n 2, 1) := by decide +kernel
theorem dX2_rank_16 : decode cX2_rank 16 = .ok (.invokevirtual 100, 3) := by decide +kernel
theorem dX2_rank_19 : decode cX2_rank 19 = .ok (.ireturn, 1) := by decide +kernel
set_option maxRecDepth 20000 in
theorem ggX2_common_X2_hemOf : GoodIn wsX2_common wsX2_hemOf := goodIn_ca (goodIn_r _ [5, 6, 7, 8, 9, 30, 31, 32] (by decide +kernel) (by decide +kernel)) (goodIn_sub (fun _ h => List.mem_cons_of_mem _ (List.mem_append_right _ h)) (by decide +kernel))
set_option maxRecDepth 20000 in
theorem gX2_common_X2_hemOf : GoodIn wsX2_common (wsV RX2 26 RX2 yX2_hemOf wsX2_hemOf) := goodIn_app (goodIn_of _ (by decide +kernel)) ggX2_common_X2_hemOf
set_option maxRecDepth 20000 in
theorem ggX2_common_X2_requirePlace : GoodIn wsX2_common wsX2_requirePlace := goodIn_ca (goodIn_r _ [12, 6, 7, 33, 34] (by decide +kernel) (by decide +kernel)) (goodIn_sub (fun _ h => List.mem_cons_of_mem _ (List.mem_append_right _ h)) (by decide +kernel))
set_option maxRecDepth 20000 in
theorem gX2_common_X2_requirePlace : GoodIn wsX2_common (va_wsS RX2 74 yX2_requirePlace wsX2_requirePlace) := goodIn_app (goodIn_of _ (by decide +kernel)) ggX2_common_X2_requirePlace
set_option maxRecDepth 20000 in
theorem ggX2_common_X1_sharedWith : GoodIn wsX2_common wsX1_sharedWith := goodIn_r _ [17, 18, 19, 20, 21, 22, 23, 24, 25, 16, 26, 27, 33, 34] (by decide +kernel) (by decide +kernel)
set_option maxRecDepth 20000 in
theorem gX2_common_X1_sharedWith : GoodIn wsX2_common (wsV RX2 103 RX1 yX1_sharedWith wsX1_sharedWith) := goodIn_app (goodIn_of _ (by decide +kernel)) ggX2_common_X1_sharedWith
theorem dX2_common_0 : decode cX2_common 0 = .ok (.aload_n 0, 1) := by decide +kernel
theorem dX2_common_1 : decode cX2_common 1 = .ok (.iload_n 1, 1) := by decide +kernel
theorem dX2_common_2 : decode cX2_common 2 = .ok (.invokevirtual 26, 3) := by decide +kernel
theorem dX2_common_5 : decode cX2_common 5 = .ok (.getfield 34, 3) := by decide +kernel
theorem dX2_common_8 : decode cX2_common 8 = .ok (.astore 4, 2) := by decide +kernel
theorem dX2_common_10 : decode cX2_common 10 = .ok (.aload 4, 2) := by decide +kernel
theorem dX2_common_12 : decode cX2_common 12 = .ok (.iload_n 2, 1) := by decide +kernel
theorem dX2_common_13 : decode cX2_common 13 = .ok (.invokestatic 74, 3) := by decide +kernel
theorem dX2_common_16 : decode cX2_common 16 = .ok (.aload 4, 2) := by decide +kernel
theorem dX2_common_18 : decode cX2_common 18 = .ok (.iload_n 3, 1) := by decide +kernel
theorem dX2_common_19 : decode cX2_common 19 = .ok (.invokestatic 74, 3) := by decide +kernel
theorem dX2_common_22 : decode cX2_common 22 = .ok (.aload 4, 2) := by decide +kernel
theorem dX2_common_24 : decode cX2_common 24 = .ok (.iload_n 2, 1) := by decide +kernel
theorem dX2_common_25 : decode cX2_common 25 = .ok (.aload 4, 2) := by decide +kernel
theorem dX2_common_27 : decode cX2_common 27 = .ok (.iload_n 3, 1) := by decide +kernel
theorem dX2_common_28 : decode cX2_common 28 = .ok (.invokevirtual 103, 3) := by decide +kernel
theorem dX2_common_31 : decode cX2_common 31 = .ok (.ireturn, 1) := by decide +kernel
set_option maxRecDepth 20000 in
theorem ggX2_against_X2_requirePlace : GoodIn wsX2_against wsX2_requirePlace := goodIn_ca (goodIn_r _ [6, 7, 8, 33, 34] (by decide +kernel) (by decide +kernel)) (goodIn_sub (fun _ h => List.mem_cons_of_mem _ (List.mem_append_right _ h)) (by decide +kernel))
set_option maxRecDepth 20000 in
theorem gX2_against_X2_requirePlace : GoodIn wsX2_against (va_wsS RX2 74 yX2_requirePlace wsX2_requirePlace) := goodIn_app (goodIn_of _ (by decide +kernel)) ggX2_against_X2_requirePlace
set_option maxRecDepth 20000 in
theorem ggX2_against_X1_difference : GoodIn wsX2_against wsX1_difference := goodIn_r _ [13, 14, 15, 16, 12, 17, 18, 19, 20, 21, 22, 23, 24, 25, 26, 27, 33, 34] (by decide +kernel) (by decide +kernel)
set_option maxRecDepth 20000 in
theorem gX2_against_X1_difference : GoodIn wsX2_against (wsV RX2 107 RX1 yX1_difference wsX1_difference) := goodIn_app (goodIn_of _ (by decide +kernel)) ggX2_against_X1_difference
theorem dX2_against_0 : decode cX2_against 0 = .ok (.aload_n 0, 1) := by decide +kernel
theorem dX2_against_1 : decode cX2_against 1 = .ok (.getfield 10, 3) := by decide +kernel
theorem dX2_against_4 : decode cX2_against 4 = .ok (.getfield 34, 3) := by decide +kernel
theorem dX2_against_7 : decode cX2_against 7 = .ok (.iload_n 1, 1) := by decide +kernel
theorem dX2_against_8 : decode cX2_against 8 = .ok (.invokestatic 74, 3) := by decide +kernel
theorem dX2_against_11 : decode cX2_against 11 = .ok (.aload_n 0, 1) := by decide +kernel
theorem dX2_against_12 : decode cX2_against 12 = .ok (.getfield 16, 3) := by decide +kernel
theorem dX2_against_15 : decode cX2_against 15 = .ok (.getfield 34, 3) := by decide +kernel
theorem dX2_against_18 : decode cX2_against 18 = .ok (.iload_n 2, 1) := by decide +kernel
theorem dX2_against_19 : decode cX2_against 19 = .ok (.invokestatic 74, 3) := by decide +kernel
theorem dX2_against_22 : decode cX2_against 22 = .ok (.aload_n 0, 1) := by decide +kernel
theorem dX2_against_23 : decode cX2_against 23 = .ok (.getfield 10, 3) := by decide +kernel
theorem dX2_against_26 : decode cX2_against 26 = .ok (.getfield 34, 3) := by decide +kernel
theorem dX2_against_29 : decode cX2_against 29 = .ok (.iload_n 1, 1) := by decide +kernel
theorem dX2_against_30 : decode cX2_against 30 = .ok (.aload_n 0, 1) := by decide +kernel
theorem dX2_against_31 : decode cX2_against 31 = .ok (.getfield 16, 3) := by decide +kernel
theorem dX2_against_34 : decode cX2_against 34 = .ok (.getfield 34, 3) := by decide +kernel
theorem dX2_against_37 : decode cX2_against 37 = .ok (.iload_n 2, 1) := by decide +kernel
theorem dX2_against_38 : decode cX2_against 38 = .ok (.invokevirtual 107, 3) := by decide +kernel
theorem dX2_against_41 : decode cX2_against 41 = .ok (.ireturn, 1) := by decide +kernel
set_option maxRecDepth 20000 in
theorem ggX2_repeat_X2_hemOf : GoodIn wsX2_repeat wsX2_hemOf := goodIn_ca (goodIn_r _ [7, 1, 2, 8, 9, 57, 58, 59] (by decide +kernel) (by decide +kernel)) (goodIn_sub (fun _ h => List.mem_cons_of_mem _ (List.mem_append_right _ h)) (by decide +kernel))
set_option maxRecDepth 20000 in
theorem gX2_repeat_X2_hemOf : GoodIn wsX2_repeat (wsV RX2 26 RX2 yX2_hemOf wsX2_hemOf) := goodIn_app (goodIn_of _ (by decide +kernel)) ggX2_repeat_X2_hemOf
set_option maxRecDepth 20000 in
theorem ggX2_repeat_X0_repeatRank : GoodIn wsX2_repeat wsX0_repeatRank := goodIn_r _ [14, 15, 16, 17, 18, 13, 19, 20, 21, 22, 23, 24, 25, 26, 27, 28, 29, 30, 31, 32, 33, 34, 35, 36, 37, 38, 39, 55, 56, 60, 61] (by decide +kernel) (by decide +kernel)
set_option maxRecDepth 20000 in
theorem gX2_repeat_X0_repeatRank : GoodIn wsX2_repeat (wsV RX2 112 RX0 yX0_repeatRank wsX0_repeatRank) := goodIn_app (goodIn_of _ (by decide +kernel)) ggX2_repeat_X0_repeatRank
set_option maxRecDepth 20000 in
theorem ggX2_repeat_X0_sharedWithNext : GoodIn wsX2_repeat wsX0_sharedWithNext := goodIn_r _ [19, 15, 20, 21, 22, 13, 23, 24, 25, 26, 27, 28, 29, 30, 31, 32, 33, 34, 35, 36, 37, 38, 39, 55, 56, 60, 61] (by decide +kernel) (by decide +kernel)
set_option maxRecDepth 20000 in
theorem gX2_repeat_X0_sharedWithNext : GoodIn wsX2_repeat (wsV RX2 115 RX0 yX0_sharedWithNext wsX0_sharedWithNext) := goodIn_app (goodIn_of _ (by decide +kernel)) ggX2_repeat_X0_sharedWithNext
set_option maxRecDepth 20000 in
theorem ggX2_repeat_X0_placeAt : GoodIn wsX2_repeat wsX0_placeAt := goodIn_r _ [23, 15, 24, 55, 56, 60, 61] (by decide +kernel) (by decide +kernel)
set_option maxRecDepth 20000 in
theorem gX2_repeat_X0_placeAt : GoodIn wsX2_repeat (wsV RX2 97 RX0 yX0_placeAt wsX0_placeAt) := goodIn_app (goodIn_of _ (by decide +kernel)) ggX2_repeat_X0_placeAt
set_option maxRecDepth 20000 in
theorem ggX2_repeat_X1_firstPlaceOf : GoodIn wsX2_repeat wsX1_firstPlaceOf := goodIn_r _ [45, 30, 46, 47, 48, 28, 49, 50, 26, 27, 29, 31, 32, 33, 34, 35, 36, 37, 38, 39, 60, 61] (by decide +kernel) (by decide +kernel)
set_option maxRecDepth 20000 in
theorem gX2_repeat_X1_firstPlaceOf : GoodIn wsX2_repeat (wsV RX2 118 RX1 yX1_firstPlaceOf wsX1_firstPlaceOf) := goodIn_app (goodIn_of _ (by decide +kernel)) ggX2_repeat_X1_firstPlaceOf
set_option maxRecDepth 20000 in
theorem ggX2_repeat_X1_placesOf : GoodIn wsX2_repeat wsX1_placesOf := goodIn_r _ [54, 30, 46, 47, 48, 28, 49, 50, 26, 27, 29, 31, 32, 33, 34, 35, 36, 37, 38, 39, 60, 61] (by decide +kernel) (by decide +kernel)
set_option maxRecDepth 20000 in
theorem gX2_repeat_X1_placesOf : GoodIn wsX2_repeat (wsV RX2 122 RX1 yX1_placesOf wsX1_placesOf) := goodIn_app (goodIn_of _ (by decide +kernel)) ggX2_repeat_X1_placesOf
theorem dX2_repeat_0 : decode cX2_repeat 0 = .ok (.aload_n 0, 1) := by decide +kernel
theorem dX2_repeat_1 : decode cX2_repeat 1 = .ok (.iload_n 1, 1) := by decide +kernel
theorem dX2_repeat_2 : decode cX2_repeat 2 = .ok (.invokevirtual 26, 3) := by decide +kernel
theorem dX2_repeat_5 : decode cX2_repeat 5 = .ok (.astore_n 3, 1) := by decide +kernel
theorem dX2_repeat_6 : decode cX2_repeat 6 = .ok (.iload_n 2, 1) := by decide +kernel
theorem dX2_repeat_7 : decode cX2_repeat 7 = .ok (.ifCond .lt 8, 3) := by decide +kernel
theorem dX2_repeat_10 : decode cX2_repeat 10 = .ok (.iload_n 2, 1) := by decide +kernel
theorem dX2_repeat_11 : decode cX2_repeat 11 = .ok (.iconst 3, 1) := by decide +kernel
theorem dX2_repeat_12 : decode cX2_repeat 12 = .ok (.if_icmp .lt 13, 3) := by decide +kernel
theorem dX2_repeat_15 : decode cX2_repeat 15 = .ok (.new 92, 3) := by decide +kernel
theorem dX2_repeat_18 : decode cX2_repeat 18 = .ok (.dup, 1) := by decide +kernel
theorem dX2_repeat_19 : decode cX2_repeat 19 = .ok (.ldc 110, 2) := by decide +kernel
theorem dX2_repeat_21 : decode cX2_repeat 21 = .ok (.invokespecial 96, 3) := by decide +kernel
theorem dX2_repeat_24 : decode cX2_repeat 24 = .ok (.athrow, 1) := by decide +kernel
theorem dX2_repeat_25 : decode cX2_repeat 25 = .ok (.aload_n 3, 1) := by decide +kernel
theorem dX2_repeat_26 : decode cX2_repeat 26 = .ok (.invokevirtual 112, 3) := by decide +kernel
theorem dX2_repeat_29 : decode cX2_repeat 29 = .ok (.istore 4, 2) := by decide +kernel
theorem dX2_repeat_31 : decode cX2_repeat 31 = .ok (.aload_n 3, 1) := by decide +kernel
theorem dX2_repeat_32 : decode cX2_repeat 32 = .ok (.iload 4, 2) := by decide +kernel
theorem dX2_repeat_34 : decode cX2_repeat 34 = .ok (.invokevirtual 115, 3) := by decide +kernel
theorem dX2_repeat_37 : decode cX2_repeat 37 = .ok (.istore 5, 2) := by decide +kernel
theorem dX2_repeat_39 : decode cX2_repeat 39 = .ok (.iload_n 2, 1) := by decide +kernel
theorem dX2_repeat_40 : decode cX2_repeat 40 = .ok (.ifCond .ne 6, 3) := by decide +kernel
theorem dX2_repeat_43 : decode cX2_repeat 43 = .ok (.iload 5, 2) := by decide +kernel
theorem dX2_repeat_45 : decode cX2_repeat 45 = .ok (.ireturn, 1) := by decide +kernel
theorem dX2_repeat_46 : decode cX2_repeat 46 = .ok (.aload_n 3, 1) := by decide +kernel
theorem dX2_repeat_47 : decode cX2_repeat 47 = .ok (.iload 4, 2) := by decide +kernel
theorem dX2_repeat_49 : decode cX2_repeat 49 = .ok (.invokevirtual 97, 3) := by decide +kernel
theorem dX2_repeat_52 : decode cX2_repeat 52 = .ok (.istore 6, 2) := by decide +kernel
theorem dX2_repeat_54 : decode cX2_repeat 54 = .ok (.iload_n 2, 1) := by decide +kernel
theorem dX2_repeat_55 : decode cX2_repeat 55 = .ok (.iconst 1, 1) := by decide +kernel
theorem dX2_repeat_56 : decode cX2_repeat 56 = .ok (.if_icmp .ne 19, 3) := by decide +kernel
theorem dX2_repeat_59 : decode cX2_repeat 59 = .ok (.aload_n 3, 1) := by decide +kernel
theorem dX2_repeat_60 : decode cX2_repeat 60 = .ok (.getfield 34, 3) := by decide +kernel
theorem dX2_repeat_63 : decode cX2_repeat 63 = .ok (.aload_n 3, 1) := by decide +kernel
theorem dX2_repeat_64 : decode cX2_repeat 64 = .ok (.getfield 34, 3) := by decide +kernel
theorem dX2_repeat_67 : decode cX2_repeat 67 = .ok (.iload 6, 2) := by decide +kernel
theorem dX2_repeat_69 : decode cX2_repeat 69 = .ok (.iload 5, 2) := by decide +kernel
theorem dX2_repeat_71 : decode cX2_repeat 71 = .ok (.invokevirtual 118, 3) := by decide +kernel
theorem dX2_repeat_74 : decode cX2_repeat 74 = .ok (.ireturn, 1) := by decide +kernel
theorem dX2_repeat_75 : decode cX2_repeat 75 = .ok (.aload_n 3, 1) := by decide +kernel
theorem dX2_repeat_76 : decode cX2_repeat 76 = .ok (.getfield 34, 3) := by decide +kernel
theorem dX2_repeat_79 : decode cX2_repeat 79 = .ok (.aload_n 3, 1) := by decide +kernel
theorem dX2_repeat_80 : decode cX2_repeat 80 = .ok (.getfield 34, 3) := by decide +kernel
theorem dX2_repeat_83 : decode cX2_repeat 83 = .ok (.iload 6, 2) := by decide +kernel
theorem dX2_repeat_85 : decode cX2_repeat 85 = .ok (.iload 5, 2) := by decide +kernel
theorem dX2_repeat_87 : decode cX2_repeat 87 = .ok (.invokevirtual 122, 3) := by decide +kernel
theorem dX2_repeat_90 : decode cX2_repeat 90 = .ok (.ireturn, 1) := by decide +kernel
set_option maxRecDepth 20000 in
theorem ggX2_row_X2_hemOf : GoodIn wsX2_row wsX2_hemOf := goodIn_ca (goodIn_r _ [7, 1, 2, 8, 9, 57, 58, 59] (by decide +kernel) (by decide +kernel)) (goodIn_sub (fun _ h => List.mem_cons_of_mem _ (List.mem_append_right _ h)) (by decide +kernel))
set_option maxRecDepth 20000 in
theorem gX2_row_X2_hemOf : GoodIn wsX2_row (wsV RX2 26 RX2 yX2_hemOf wsX2_hemOf) := goodIn_app (goodIn_of _ (by decide +kernel)) ggX2_row_X2_hemOf
set_option maxRecDepth 20000 in
theorem ggX2_row_X0_differentRows : GoodIn wsX2_row wsX0_differentRows := goodIn_r _ [14, 15, 16, 17, 18, 13, 19, 20, 21, 22, 23, 24, 25, 26, 27, 28, 29, 30, 31, 32, 33, 34, 35, 36, 37, 38, 39, 40, 41, 42, 43, 60, 61, 62, 63] (by decide +kernel) (by decide +kernel)
set_option maxRecDepth 20000 in
theorem gX2_row_X0_differentRows : GoodIn wsX2_row (wsV RX2 82 RX0 yX0_differentRows wsX0_differentRows) := goodIn_app (goodIn_of _ (by decide +kernel)) ggX2_row_X0_differentRows
set_option maxRecDepth 20000 in
theorem ggX2_row_X0_rowOfNumber : GoodIn wsX2_row wsX0_rowOfNumber := goodIn_r _ [47, 15, 16, 17, 18, 13, 19, 20, 21, 22, 23, 24, 25, 26, 27, 28, 29, 30, 31, 32, 33, 34, 35, 36, 37, 38, 39, 40, 41, 42, 43, 48, 49, 50, 51, 52, 53, 54, 55, 56, 60, 61, 62, 63] (by decide +kernel) (by decide +kernel)
set_option maxRecDepth 20000 in
theorem gX2_row_X0_rowOfNumber : GoodIn wsX2_row (wsV RX2 127 RX0 yX0_rowOfNumber wsX0_rowOfNumber) := goodIn_app (goodIn_of _ (by decide +kernel)) ggX2_row_X0_rowOfNumber
theorem dX2_row_0 : decode cX2_row 0 = .ok (.aload_n 0, 1) := by decide +kernel
theorem dX2_row_1 : decode cX2_row 1 = .ok (.iload_n 1, 1) := by decide +kernel
theorem dX2_row_2 : decode cX2_row 2 = .ok (.invokevirtual 26, 3) := by decide +kernel
theorem dX2_row_5 : decode cX2_row 5 = .ok (.astore_n 3, 1) := by decide +kernel
theorem dX2_row_6 : decode cX2_row 6 = .ok (.iload_n 2, 1) := by decide +kernel
theorem dX2_row_7 : decode cX2_row 7 = .ok (.ifCond .lt 11, 3) := by decide +kernel
theorem dX2_row_10 : decode cX2_row 10 = .ok (.iload_n 2, 1) := by decide +kernel
theorem dX2_row_11 : decode cX2_row 11 = .ok (.aload_n 3, 1) := by decide +kernel
theorem dX2_row_12 : decode cX2_row 12 = .ok (.invokevirtual 82, 3) := by decide +kernel
theorem dX2_row_15 : decode cX2_row 15 = .ok (.if_icmp .lt 13, 3) := by decide +kernel
theorem dX2_row_18 : decode cX2_row 18 = .ok (.new 92, 3) := by decide +kernel
theorem dX2_row_21 : decode cX2_row 21 = .ok (.dup, 1) := by decide +kernel
theorem dX2_row_22 : decode cX2_row 22 = .ok (.ldc 125, 2) := by decide +kernel
theorem dX2_row_24 : decode cX2_row 24 = .ok (.invokespecial 96, 3) := by decide +kernel
theorem dX2_row_27 : decode cX2_row 27 = .ok (.athrow, 1) := by decide +kernel
theorem dX2_row_28 : decode cX2_row 28 = .ok (.aload_n 3, 1) := by decide +kernel
theorem dX2_row_29 : decode cX2_row 29 = .ok (.iload_n 2, 1) := by decide +kernel
theorem dX2_row_30 : decode cX2_row 30 = .ok (.invokevirtual 127, 3) := by decide +kernel
theorem dX2_row_33 : decode cX2_row 33 = .ok (.ireturn, 1) := by decide +kernel
set_option maxRecDepth 20000 in
theorem ggX2_found_X2_hemOf : GoodIn wsX2_found wsX2_hemOf := goodIn_ca (goodIn_r _ [6, 7, 8, 9, 10, 36, 37, 38] (by decide +kernel) (by decide +kernel)) (goodIn_sub (fun _ h => List.mem_cons_of_mem _ (List.mem_append_right _ h)) (by decide +kernel))
set_option maxRecDepth 20000 in
theorem gX2_found_X2_hemOf : GoodIn wsX2_found (wsV RX2 26 RX2 yX2_hemOf wsX2_hemOf) := goodIn_app (goodIn_of _ (by decide +kernel)) ggX2_found_X2_hemOf
set_option maxRecDepth 20000 in
theorem ggX2_found_X1_placesOf : GoodIn wsX2_found wsX1_placesOf := goodIn_r _ [15, 16, 17, 18, 19, 14, 20, 21, 22, 23, 24, 25, 26, 27, 28, 29, 30, 31, 32, 33, 39, 40] (by decide +kernel) (by decide +kernel)
set_option maxRecDepth 20000 in
theorem gX2_found_X1_placesOf : GoodIn wsX2_found (wsV RX2 122 RX1 yX1_placesOf wsX1_placesOf) := goodIn_app (goodIn_of _ (by decide +kernel)) ggX2_found_X1_placesOf
theorem dX2_found_0 : decode cX2_found 0 = .ok (.aload_n 0, 1) := by decide +kernel
theorem dX2_found_1 : decode cX2_found 1 = .ok (.iload_n 1, 1) := by decide +kernel
theorem dX2_found_2 : decode cX2_found 2 = .ok (.invokevirtual 26, 3) := by decide +kernel
theorem dX2_found_5 : decode cX2_found 5 = .ok (.getfield 34, 3) := by decide +kernel
theorem dX2_found_8 : decode cX2_found 8 = .ok (.aload_n 0, 1) := by decide +kernel
theorem dX2_found_9 : decode cX2_found 9 = .ok (.getfield 22, 3) := by decide +kernel
theorem dX2_found_12 : decode cX2_found 12 = .ok (.iconst 0, 1) := by decide +kernel
theorem dX2_found_13 : decode cX2_found 13 = .ok (.aload_n 0, 1) := by decide +kernel
theorem dX2_found_14 : decode cX2_found 14 = .ok (.getfield 22, 3) := by decide +kernel
theorem dX2_found_17 : decode cX2_found 17 = .ok (.getfield 37, 3) := by decide +kernel
theorem dX2_found_20 : decode cX2_found 20 = .ok (.invokevirtual 122, 3) := by decide +kernel
theorem dX2_found_23 : decode cX2_found 23 = .ok (.ireturn, 1) := by decide +kernel
set_option maxRecDepth 20000 in
theorem ggX2_first_X2_hemOf : GoodIn wsX2_first wsX2_hemOf := goodIn_ca (goodIn_r _ [6, 7, 8, 9, 10, 36, 37, 38] (by decide +kernel) (by decide +kernel)) (goodIn_sub (fun _ h => List.mem_cons_of_mem _ (List.mem_append_right _ h)) (by decide +kernel))
set_option maxRecDepth 20000 in
theorem gX2_first_X2_hemOf : GoodIn wsX2_first (wsV RX2 26 RX2 yX2_hemOf wsX2_hemOf) := goodIn_app (goodIn_of _ (by decide +kernel)) ggX2_first_X2_hemOf
set_option maxRecDepth 20000 in
theorem ggX2_first_X1_firstPlaceOf : GoodIn wsX2_first wsX1_firstPlaceOf := goodIn_r _ [15, 16, 17, 18, 19, 14, 20, 21, 22, 23, 24, 25, 26, 27, 28, 29, 30, 31, 32, 33, 39, 40] (by decide +kernel) (by decide +kernel)
set_option maxRecDepth 20000 in
theorem gX2_first_X1_firstPlaceOf : GoodIn wsX2_first (wsV RX2 118 RX1 yX1_firstPlaceOf wsX1_firstPlaceOf) := goodIn_app (goodIn_of _ (by decide +kernel)) ggX2_first_X1_firstPlaceOf
theorem dX2_first_0 : decode cX2_first 0 = .ok (.aload_n 0, 1) := by decide +kernel
theorem dX2_first_1 : decode cX2_first 1 = .ok (.iload_n 1, 1) := by decide +kernel
theorem dX2_first_2 : decode cX2_first 2 = .ok (.invokevirtual 26, 3) := by decide +kernel
theorem dX2_first_5 : decode cX2_first 5 = .ok (.getfield 34, 3) := by decide +kernel
theorem dX2_first_8 : decode cX2_first 8 = .ok (.aload_n 0, 1) := by decide +kernel
theorem dX2_first_9 : decode cX2_first 9 = .ok (.getfield 22, 3) := by decide +kernel
theorem dX2_first_12 : decode cX2_first 12 = .ok (.iconst 0, 1) := by decide +kernel
theorem dX2_first_13 : decode cX2_first 13 = .ok (.aload_n 0, 1) := by decide +kernel
theorem dX2_first_14 : decode cX2_first 14 = .ok (.getfield 22, 3) := by decide +kernel
theorem dX2_first_17 : decode cX2_first 17 = .ok (.getfield 37, 3) := by decide +kernel
theorem dX2_first_20 : decode cX2_first 20 = .ok (.invokevirtual 118, 3) := by decide +kernel
theorem dX2_first_23 : decode cX2_first 23 = .ok (.ireturn, 1) := by decide +kernel
set_option maxRecDepth 20000 in
theorem ggX2_period_X2_hemOf : GoodIn wsX2_period wsX2_hemOf := goodIn_ca (goodIn_r _ [5, 6, 7, 8, 9, 31, 32, 33] (by decide +kernel) (by decide +kernel)) (goodIn_sub (fun _ h => List.mem_cons_of_mem _ (List.mem_append_right _ h)) (by decide +kernel))
set_option maxRecDepth 20000 in
theorem gX2_period_X2_hemOf : GoodIn wsX2_period (wsV RX2 26 RX2 yX2_hemOf wsX2_hemOf) := goodIn_app (goodIn_of _ (by decide +kernel)) ggX2_period_X2_hemOf
set_option maxRecDepth 20000 in
theorem ggX2_period_X1_leastPeriod : GoodIn wsX2_period wsX1_leastPeriod := goodIn_r _ [14, 15, 16, 17, 18, 13, 19, 20, 21, 22, 23, 24, 25, 26, 27, 28, 34, 35] (by decide +kernel) (by decide +kernel)
set_option maxRecDepth 20000 in
theorem gX2_period_X1_leastPeriod : GoodIn wsX2_period (wsV RX2 130 RX1 yX1_leastPeriod wsX1_leastPeriod) := goodIn_app (goodIn_of _ (by decide +kernel)) ggX2_period_X1_leastPeriod
theorem dX2_period_0 : decode cX2_period 0 = .ok (.aload_n 0, 1) := by decide +kernel
theorem dX2_period_1 : decode cX2_period 1 = .ok (.iload_n 1, 1) := by decide +kernel
theorem dX2_period_2 : decode cX2_period 2 = .ok (.invokevirtual 26, 3) := by decide +kernel
theorem dX2_period_5 : decode cX2_period 5 = .ok (.getfield 34, 3) := by decide +kernel
theorem dX2_period_8 : decode cX2_period 8 = .ok (.invokevirtual 130, 3) := by decide +kernel
theorem dX2_period_11 : decode cX2_period 11 = .ok (.ireturn, 1) := by decide +kernel
set_option maxRecDepth 20000 in
theorem ggX2_turned_X2_hemOf : GoodIn wsX2_turned wsX2_hemOf := goodIn_ca (goodIn_r _ [5, 6, 7, 8, 9, 31, 32, 33] (by decide +kernel) (by decide +kernel)) (goodIn_sub (fun _ h => List.mem_cons_of_mem _ (List.mem_append_right _ h)) (by decide +kernel))
set_option maxRecDepth 20000 in
theorem gX2_turned_X2_hemOf : GoodIn wsX2_turned (wsV RX2 26 RX2 yX2_hemOf wsX2_hemOf) := goodIn_app (goodIn_of _ (by decide +kernel)) ggX2_turned_X2_hemOf
set_option maxRecDepth 20000 in
theorem ggX2_turned_X1_bestBeginning : GoodIn wsX2_turned wsX1_bestBeginning := goodIn_r _ [14, 15, 16, 17, 18, 13, 19, 20, 21, 22, 23, 24, 25, 26, 27, 28, 34, 35] (by decide +kernel) (by decide +kernel)
set_option maxRecDepth 20000 in
theorem gX2_turned_X1_bestBeginning : GoodIn wsX2_turned (wsV RX2 133 RX1 yX1_bestBeginning wsX1_bestBeginning) := goodIn_app (goodIn_of _ (by decide +kernel)) ggX2_turned_X1_bestBeginning
theorem dX2_turned_0 : decode cX2_turned 0 = .ok (.aload_n 0, 1) := by decide +kernel
theorem dX2_turned_1 : decode cX2_turned 1 = .ok (.iload_n 1, 1) := by decide +kernel
theorem dX2_turned_2 : decode cX2_turned 2 = .ok (.invokevirtual 26, 3) := by decide +kernel
theorem dX2_turned_5 : decode cX2_turned 5 = .ok (.getfield 34, 3) := by decide +kernel
theorem dX2_turned_8 : decode cX2_turned 8 = .ok (.invokevirtual 133, 3) := by decide +kernel
theorem dX2_turned_11 : decode cX2_turned 11 = .ok (.ireturn, 1) := by decide +kernel
set_option maxRecDepth 20000 in
theorem ggX2_seam_X2_seamPlace : GoodIn wsX2_seam wsX2_seamPlace := goodIn_r _ [9, 3, 10, 11, 12, 13, 14, 15, 16, 17, 18, 19, 8, 20, 4, 21, 22, 23, 24, 25, 26, 27, 28, 29, 30, 31, 32, 33, 34, 35, 36, 37, 38, 39, 40, 41, 42, 51, 52, 53, 54, 55, 56, 57] (by decide +kernel) (by decide +kernel)
set_option maxRecDepth 20000 in
theorem gX2_seam_X2_seamPlace : GoodIn wsX2_seam (wsV RX2 86 RX2 yX2_seamPlace wsX2_seamPlace) := goodIn_app (goodIn_of _ (by decide +kernel)) ggX2_seam_X2_seamPlace
set_option maxRecDepth 20000 in
theorem ggX2_seam_X2_seamLengthFrom : GoodIn wsX2_seam wsX2_seamLengthFrom := goodIn_r _ [20, 3, 4, 21, 22, 23, 24, 25, 26, 27, 28, 29, 30, 31, 32, 33, 34, 35, 36, 37, 38, 39, 40, 41, 42, 51, 52, 53, 54, 55, 56, 57] (by decide +kernel) (by decide +kernel)
set_option maxRecDepth 20000 in
theorem gX2_seam_X2_seamLengthFrom : GoodIn wsX2_seam (wsV RX2 89 RX2 yX2_seamLengthFrom wsX2_seamLengthFrom) := goodIn_app (goodIn_of _ (by decide +kernel)) ggX2_seam_X2_seamLengthFrom
set_option maxRecDepth 20000 in
theorem ggX2_seam_X1_firstPlaceOf : GoodIn wsX2_seam wsX1_firstPlaceOf := goodIn_r _ [46, 26, 47, 48, 49, 24, 50, 31, 32, 33, 34, 35, 36, 29, 37, 38, 39, 40, 41, 42, 56, 57] (by decide +kernel) (by decide +kernel)
set_option maxRecDepth 20000 in
theorem gX2_seam_X1_firstPlaceOf : GoodIn wsX2_seam (wsV RX2 118 RX1 yX1_firstPlaceOf wsX1_firstPlaceOf) := goodIn_app (goodIn_of _ (by decide +kernel)) ggX2_seam_X1_firstPlaceOf
theorem dX2_seam_0 : decode cX2_seam 0 = .ok (.iload_n 1, 1) := by decide +kernel
theorem dX2_seam_1 : decode cX2_seam 1 = .ok (.ifCond .lt 8, 3) := by decide +kernel
theorem dX2_seam_4 : decode cX2_seam 4 = .ok (.iload_n 1, 1) := by decide +kernel
theorem dX2_seam_5 : decode cX2_seam 5 = .ok (.iconst 3, 1) := by decide +kernel
theorem dX2_seam_6 : decode cX2_seam 6 = .ok (.if_icmp .lt 13, 3) := by decide +kernel
theorem dX2_seam_9 : decode cX2_seam 9 = .ok (.new 92, 3) := by decide +kernel
theorem dX2_seam_12 : decode cX2_seam 12 = .ok (.dup, 1) := by decide +kernel
theorem dX2_seam_13 : decode cX2_seam 13 = .ok (.ldc 110, 2) := by decide +kernel
theorem dX2_seam_15 : decode cX2_seam 15 = .ok (.invokespecial 96, 3) := by decide +kernel
theorem dX2_seam_18 : decode cX2_seam 18 = .ok (.athrow, 1) := by decide +kernel
theorem dX2_seam_19 : decode cX2_seam 19 = .ok (.aload_n 0, 1) := by decide +kernel
theorem dX2_seam_20 : decode cX2_seam 20 = .ok (.invokevirtual 86, 3) := by decide +kernel
theorem dX2_seam_23 : decode cX2_seam 23 = .ok (.istore_n 2, 1) := by decide +kernel
theorem dX2_seam_24 : decode cX2_seam 24 = .ok (.aload_n 0, 1) := by decide +kernel
theorem dX2_seam_25 : decode cX2_seam 25 = .ok (.iload_n 2, 1) := by decide +kernel
theorem dX2_seam_26 : decode cX2_seam 26 = .ok (.invokevirtual 89, 3) := by decide +kernel
theorem dX2_seam_29 : decode cX2_seam 29 = .ok (.istore_n 3, 1) := by decide +kernel
theorem dX2_seam_30 : decode cX2_seam 30 = .ok (.iload_n 1, 1) := by decide +kernel
theorem dX2_seam_31 : decode cX2_seam 31 = .ok (.ifCond .ne 5, 3) := by decide +kernel
theorem dX2_seam_34 : decode cX2_seam 34 = .ok (.iload_n 3, 1) := by decide +kernel
theorem dX2_seam_35 : decode cX2_seam 35 = .ok (.ireturn, 1) := by decide +kernel
theorem dX2_seam_36 : decode cX2_seam 36 = .ok (.iload_n 1, 1) := by decide +kernel
theorem dX2_seam_37 : decode cX2_seam 37 = .ok (.iconst 1, 1) := by decide +kernel
theorem dX2_seam_38 : decode cX2_seam 38 = .ok (.if_icmp .ne 13, 3) := by decide +kernel
theorem dX2_seam_41 : decode cX2_seam 41 = .ok (.aload_n 0, 1) := by decide +kernel
theorem dX2_seam_42 : decode cX2_seam 42 = .ok (.getfield 10, 3) := by decide +kernel
theorem dX2_seam_45 : decode cX2_seam 45 = .ok (.getfield 34, 3) := by decide +kernel
theorem dX2_seam_48 : decode cX2_seam 48 = .ok (.goto 10, 3) := by decide +kernel
theorem dX2_seam_51 : decode cX2_seam 51 = .ok (.aload_n 0, 1) := by decide +kernel
theorem dX2_seam_52 : decode cX2_seam 52 = .ok (.getfield 16, 3) := by decide +kernel
theorem dX2_seam_55 : decode cX2_seam 55 = .ok (.getfield 34, 3) := by decide +kernel
theorem dX2_seam_58 : decode cX2_seam 58 = .ok (.astore 4, 2) := by decide +kernel
theorem dX2_seam_60 : decode cX2_seam 60 = .ok (.aload 4, 2) := by decide +kernel
theorem dX2_seam_62 : decode cX2_seam 62 = .ok (.aload_n 0, 1) := by decide +kernel
theorem dX2_seam_63 : decode cX2_seam 63 = .ok (.getfield 10, 3) := by decide +kernel
theorem dX2_seam_66 : decode cX2_seam 66 = .ok (.getfield 34, 3) := by decide +kernel
theorem dX2_seam_69 : decode cX2_seam 69 = .ok (.iload_n 2, 1) := by decide +kernel
theorem dX2_seam_70 : decode cX2_seam 70 = .ok (.iload_n 3, 1) := by decide +kernel
theorem dX2_seam_71 : decode cX2_seam 71 = .ok (.invokevirtual 118, 3) := by decide +kernel
theorem dX2_seam_74 : decode cX2_seam 74 = .ok (.ireturn, 1) := by decide +kernel
set_option maxRecDepth 20000 in
theorem ggX2_would_X2_hemOf : GoodIn wsX2_would wsX2_hemOf := goodIn_ca (goodIn_r _ [5, 6, 7, 8, 9, 36, 37, 38] (by decide +kernel) (by decide +kernel)) (goodIn_sub (fun _ h => List.mem_cons_of_mem _ (List.mem_append_left _ (List.mem_append_right _ h))) (by decide +kernel))
set_option maxRecDepth 20000 in
theorem gX2_would_X2_hemOf : GoodIn wsX2_would (wsV RX2 26 RX2 yX2_hemOf wsX2_hemOf) := goodIn_app (goodIn_of _ (by decide +kernel)) ggX2_would_X2_hemOf
set_option maxRecDepth 20000 in
theorem ggX2_would_X2_requireStitch : GoodIn wsX2_would wsX2_requireStitch := goodIn_ca (goodIn_r _ [12, 13, 14] (by decide +kernel) (by decide +kernel)) (goodIn_sub (fun _ h => List.mem_cons_of_mem _ (List.mem_append_right _ h)) (by decide +kernel))
set_option maxRecDepth 20000 in
theorem gX2_would_X2_requireStitch : GoodIn wsX2_would (va_wsS RX2 30 yX2_requireStitch wsX2_requireStitch) := goodIn_app (goodIn_of _ (by decide +kernel)) ggX2_would_X2_requireStitch
set_option maxRecDepth 20000 in
theorem ggX2_would_X1_newRowsBy : GoodIn wsX2_would wsX1_newRowsBy := goodIn_r _ [19, 20, 21, 22, 23, 24, 25, 26, 27, 18, 28, 29, 30, 31, 32, 33, 39, 40] (by decide +kernel) (by decide +kernel)
set_option maxRecDepth 20000 in
theorem gX2_would_X1_newRowsBy : GoodIn wsX2_would (wsV RX2 136 RX1 yX1_newRowsBy wsX1_newRowsBy) := goodIn_app (goodIn_of _ (by decide +kernel)) ggX2_would_X1_newRowsBy
theorem dX2_would_0 : decode cX2_would 0 = .ok (.aload_n 0, 1) := by decide +kernel
theorem dX2_would_1 : decode cX2_would 1 = .ok (.iload_n 1, 1) := by decide +kernel
theorem dX2_would_2 : decode cX2_would 2 = .ok (.invokevirtual 26, 3) := by decide +kernel
theorem dX2_would_5 : decode cX2_would 5 = .ok (.astore_n 3, 1) := by decide +kernel
theorem dX2_would_6 : decode cX2_would 6 = .ok (.iload_n 2, 1) := by decide +kernel
theorem dX2_would_7 : decode cX2_would 7 = .ok (.invokestatic 30, 3) := by decide +kernel
theorem dX2_would_10 : decode cX2_would 10 = .ok (.aload_n 3, 1) := by decide +kernel
theorem dX2_would_11 : decode cX2_would 11 = .ok (.getfield 34, 3) := by decide +kernel
theorem dX2_would_14 : decode cX2_would 14 = .ok (.iload_n 2, 1) := by decide +kernel
theorem dX2_would_15 : decode cX2_would 15 = .ok (.invokevirtual 136, 3) := by decide +kernel
theorem dX2_would_18 : decode cX2_would 18 = .ok (.ireturn, 1) := by decide +kernel
set_option maxRecDepth 20000 in
theorem ggX2_advise_X2_hemOf : GoodIn wsX2_advise wsX2_hemOf := goodIn_ca (goodIn_r _ [5, 6, 7, 8, 9, 31, 32, 33] (by decide +kernel) (by decide +kernel)) (goodIn_sub (fun _ h => List.mem_cons_of_mem _ (List.mem_append_right _ h)) (by decide +kernel))
set_option maxRecDepth 20000 in
theorem gX2_advise_X2_hemOf : GoodIn wsX2_advise (wsV RX2 26 RX2 yX2_hemOf wsX2_hemOf) := goodIn_app (goodIn_of _ (by decide +kernel)) ggX2_advise_X2_hemOf
set_option maxRecDepth 20000 in
theorem ggX2_advise_X1_newRowsBy : GoodIn wsX2_advise wsX1_newRowsBy := goodIn_r _ [14, 15, 16, 17, 18, 19, 20, 21, 22, 13, 23, 24, 25, 26, 27, 28, 34, 35] (by decide +kernel) (by decide +kernel)
set_option maxRecDepth 20000 in
theorem gX2_advise_X1_newRowsBy : GoodIn wsX2_advise (wsV RX2 136 RX1 yX1_newRowsBy wsX1_newRowsBy) := goodIn_app (goodIn_of _ (by decide +kernel)) ggX2_advise_X1_newRowsBy
theorem dX2_advise_0 : decode cX2_advise 0 = .ok (.aload_n 0, 1) := by decide +kernel
theorem dX2_advise_1 : decode cX2_advise 1 = .ok (.iload_n 1, 1) := by decide +kernel
theorem dX2_advise_2 : decode cX2_advise 2 = .ok (.invokevirtual 26, 3) := by decide +kernel
theorem dX2_advise_5 : decode cX2_advise 5 = .ok (.getfield 34, 3) := by decide +kernel
theorem dX2_advise_8 : decode cX2_advise 8 = .ok (.astore_n 2, 1) := by decide +kernel
theorem dX2_advise_9 : decode cX2_advise 9 = .ok (.iconst 0, 1) := by decide +kernel
theorem dX2_advise_10 : decode cX2_advise 10 = .ok (.istore_n 3, 1) := by decide +kernel
theorem dX2_advise_11 : decode cX2_advise 11 = .ok (.aload_n 2, 1) := by decide +kernel
theorem dX2_advise_12 : decode cX2_advise 12 = .ok (.iload_n 3, 1) := by decide +kernel
theorem dX2_advise_13 : decode cX2_advise 13 = .ok (.invokevirtual 136, 3) := by decide +kernel
theorem dX2_advise_16 : decode cX2_advise 16 = .ok (.istore 4, 2) := by decide +kernel
theorem dX2_advise_18 : decode cX2_advise 18 = .ok (.iconst 1, 1) := by decide +kernel
theorem dX2_advise_19 : decode cX2_advise 19 = .ok (.istore 5, 2) := by decide +kernel
theorem dX2_advise_21 : decode cX2_advise 21 = .ok (.iload 5, 2) := by decide +kernel
theorem dX2_advise_23 : decode cX2_advise 23 = .ok (.bipush 9, 2) := by decide +kernel
theorem dX2_advise_25 : decode cX2_advise 25 = .ok (.if_icmp .ge 31, 3) := by decide +kernel
theorem dX2_advise_28 : decode cX2_advise 28 = .ok (.aload_n 2, 1) := by decide +kernel
theorem dX2_advise_29 : decode cX2_advise 29 = .ok (.iload 5, 2) := by decide +kernel
theorem dX2_advise_31 : decode cX2_advise 31 = .ok (.invokevirtual 136, 3) := by decide +kernel
theorem dX2_advise_34 : decode cX2_advise 34 = .ok (.istore 6, 2) := by decide +kernel
theorem dX2_advise_36 : decode cX2_advise 36 = .ok (.iload 6, 2) := by decide +kernel
theorem dX2_advise_38 : decode cX2_advise 38 = .ok (.iload 4, 2) := by decide +kernel
theorem dX2_advise_40 : decode cX2_advise 40 = .ok (.if_icmp .ge 10, 3) := by decide +kernel
theorem dX2_advise_43 : decode cX2_advise 43 = .ok (.iload 5, 2) := by decide +kernel
theorem dX2_advise_45 : decode cX2_advise 45 = .ok (.istore_n 3, 1) := by decide +kernel
theorem dX2_advise_46 : decode cX2_advise 46 = .ok (.iload 6, 2) := by decide +kernel
theorem dX2_advise_48 : decode cX2_advise 48 = .ok (.istore 4, 2) := by decide +kernel
theorem dX2_advise_50 : decode cX2_advise 50 = .ok (.iinc 5 1, 3) := by decide +kernel
theorem dX2_advise_53 : decode cX2_advise 53 = .ok (.goto (-32), 3) := by decide +kernel
theorem dX2_advise_56 : decode cX2_advise 56 = .ok (.iload_n 3, 1) := by decide +kernel
theorem dX2_advise_57 : decode cX2_advise 57 = .ok (.ireturn, 1) := by decide +kernel
set_option maxRecDepth 20000 in
theorem ggX2_mean_X0_neighbourPairs : GoodIn wsX2_mean wsX0_neighbourPairs := goodIn_r _ [7, 8, 40, 41, 42, 43] (by decide +kernel) (by decide +kernel)
set_option maxRecDepth 20000 in
theorem gX2_mean_X0_neighbourPairs : GoodIn wsX2_mean (wsV RX2 139 RX0 yX0_neighbourPairs wsX0_neighbourPairs) := goodIn_app (goodIn_of _ (by decide +kernel)) ggX2_mean_X0_neighbourPairs
set_option maxRecDepth 20000 in
theorem ggX2_mean_X0_sharedByNeighbours : GoodIn wsX2_mean wsX0_sharedByNeighbours := goodIn_r _ [12, 8, 13, 14, 15, 6, 16, 17, 18, 19, 20, 21, 22, 23, 24, 25, 26, 27, 28, 29, 30, 31, 32, 33, 34, 35, 36, 40, 41, 42, 43] (by decide +kernel) (by decide +kernel)
set_option maxRecDepth 20000 in
theorem gX2_mean_X0_sharedByNeighbours : GoodIn wsX2_mean (wsV RX2 142 RX0 yX0_sharedByNeighbours wsX0_sharedByNeighbours) := goodIn_app (goodIn_of _ (by decide +kernel)) ggX2_mean_X0_sharedByNeighbours
theorem dX2_mean_0 : decode cX2_mean 0 = .ok (.aload_n 0, 1) := by decide +kernel
theorem dX2_mean_1 : decode cX2_mean 1 = .ok (.getfield 10, 3) := by decide +kernel
theorem dX2_mean_4 : decode cX2_mean 4 = .ok (.invokevirtual 139, 3) := by decide +kernel
theorem dX2_mean_7 : decode cX2_mean 7 = .ok (.aload_n 0, 1) := by decide +kernel
theorem dX2_mean_8 : decode cX2_mean 8 = .ok (.getfield 16, 3) := by decide +kernel
theorem dX2_mean_11 : decode cX2_mean 11 = .ok (.invokevirtual 139, 3) := by decide +kernel
theorem dX2_mean_14 : decode cX2_mean 14 = .ok (.iadd, 1) := by decide +kernel
theorem dX2_mean_15 : decode cX2_mean 15 = .ok (.istore_n 1, 1) := by decide +kernel
theorem dX2_mean_16 : decode cX2_mean 16 = .ok (.iload_n 1, 1) := by decide +kernel
theorem dX2_mean_17 : decode cX2_mean 17 = .ok (.ifCond .ne 5, 3) := by decide +kernel
theorem dX2_mean_20 : decode cX2_mean 20 = .ok (.dconst 0, 1) := by decide +kernel
theorem dX2_mean_21 : decode cX2_mean 21 = .ok (.dreturn, 1) := by decide +kernel
theorem dX2_mean_22 : decode cX2_mean 22 = .ok (.aload_n 0, 1) := by decide +kernel
theorem dX2_mean_23 : decode cX2_mean 23 = .ok (.getfield 10, 3) := by decide +kernel
theorem dX2_mean_26 : decode cX2_mean 26 = .ok (.invokevirtual 142, 3) := by decide +kernel
theorem dX2_mean_29 : decode cX2_mean 29 = .ok (.aload_n 0, 1) := by decide +kernel
theorem dX2_mean_30 : decode cX2_mean 30 = .ok (.getfield 16, 3) := by decide +kernel
theorem dX2_mean_33 : decode cX2_mean 33 = .ok (.invokevirtual 142, 3) := by decide +kernel
theorem dX2_mean_36 : decode cX2_mean 36 = .ok (.iadd, 1) := by decide +kernel
theorem dX2_mean_37 : decode cX2_mean 37 = .ok (.istore_n 2, 1) := by decide +kernel
theorem dX2_mean_38 : decode cX2_mean 38 = .ok (.iload_n 2, 1) := by decide +kernel
theorem dX2_mean_39 : decode cX2_mean 39 = .ok (.i2d, 1) := by decide +kernel
theorem dX2_mean_40 : decode cX2_mean 40 = .ok (.iload_n 1, 1) := by decide +kernel
theorem dX2_mean_41 : decode cX2_mean 41 = .ok (.i2d, 1) := by decide +kernel
theorem dX2_mean_42 : decode cX2_mean 42 = .ok (.ddiv, 1) := by decide +kernel
theorem dX2_mean_43 : decode cX2_mean 43 = .ok (.dreturn, 1) := by decide +kernel
set_option maxRecDepth 20000 in
theorem ggX2_digest_X2_count : GoodIn wsX2_digest wsX2_count := goodIn_ca (goodIn_r _ [7, 8, 9, 10, 11, 2, 12, 13, 14, 15, 16, 17, 18, 19, 20, 21, 22, 23, 24, 25, 26, 27, 28, 29, 30, 31, 32, 33, 34, 35, 36, 37, 38, 39, 40, 41, 42, 43, 44, 45, 46, 47, 48, 6, 49, 50, 51, 52, 53, 54, 55, 56, 57, 58, 59, 60, 61, 62, 132, 133, 134, 135, 136, 137, 138] (by decide +kernel) (by decide +kernel)) (goodIn_sub (fun _ h => List.mem_cons_of_mem _ (List.mem_append_right _ h)) (by decide +kernel))
set_option maxRecDepth 20000 in
theorem gX2_digest_X2_count : GoodIn wsX2_digest (wsV RX2 147 RX2 yX2_count wsX2_count) := goodIn_app (goodIn_of _ (by decide +kernel)) ggX2_digest_X2_count
set_option maxRecDepth 20000 in
theorem ggX2_digest_X2_mixed : GoodIn wsX2_digest wsX2_mixed := goodIn_r _ [65, 66] (by decide +kernel) (by decide +kernel)
set_option maxRecDepth 20000 in
theorem gX2_digest_X2_mixed : GoodIn wsX2_digest (va_wsS RX2 150 yX2_mixed wsX2_mixed) := goodIn_app (goodIn_of _ (by decide +kernel)) ggX2_digest_X2_mixed
set_option maxRecDepth 20000 in
theorem ggX2_digest_X2_hemMixed : GoodIn wsX2_digest wsX2_hemMixed := goodIn_ca (goodIn_r _ [70, 71, 72, 73, 6, 74, 8, 9, 10, 11, 75, 76, 77, 78, 42, 43, 34, 44, 36, 45, 63, 64, 65, 66, 50, 23, 24, 15, 25, 17, 26, 79, 80, 81, 82, 83, 84, 85, 86, 27, 28, 29, 30, 22, 31, 32, 33, 35, 37, 38, 39, 40, 41, 87, 88, 89, 90, 91, 92, 93, 94, 95, 62, 96, 97, 98, 99, 100, 101, 102, 103, 104, 105, 106, 107, 108, 109, 110, 111, 112, 113, 114, 115, 116, 117, 118, 119, 120, 121, 122, 123, 124, 125, 126, 127, 2, 135, 136, 137, 138, 132, 133, 134] (by decide +kernel) (by decide +kernel)) (goodIn_sub (fun _ h => List.mem_cons_of_mem _ (List.mem_append_right _ h)) (by decide +kernel))
set_option maxRecDepth 20000 in
theorem gX2_digest_X2_hemMixed : GoodIn wsX2_digest (wsV RX2 154 RX2 yX2_hemMixed wsX2_hemMixed) := goodIn_app (goodIn_of _ (by decide +kernel)) ggX2_digest_X2_hemMixed
set_option maxRecDepth 20000 in
theorem ggX2_digest_X2_stitchesMixed : GoodIn wsX2_digest wsX2_stitchesMixed := goodIn_r _ [77, 78, 42, 43, 34, 44, 36, 45, 63, 64, 6, 65, 66, 137, 138] (by decide +kernel) (by decide +kernel)
set_option maxRecDepth 20000 in
theorem gX2_digest_X2_stitchesMixed : GoodIn wsX2_digest (va_wsS RX2 157 yX2_stitchesMixed wsX2_stitchesMixed) := goodIn_app (goodIn_of _ (by decide +kernel)) ggX2_digest_X2_stitchesMixed
set_option maxRecDepth 20000 in
theorem ggX2_digest_X2_seam : GoodIn wsX2_digest wsX2_seam := goodIn_ca (goodIn_r _ [131, 8, 9, 10, 11, 46, 47, 48, 6, 49, 50, 23, 24, 15, 25, 17, 26, 51, 52, 53, 54, 55, 56, 57, 34, 58, 36, 59, 60, 39, 61, 62, 32, 33, 35, 37, 38, 40, 41, 42, 43, 44, 45, 88, 89, 90, 91, 92, 93, 94, 95, 132, 133, 134, 135, 136, 137, 138] (by decide +kernel) (by decide +kernel)) (goodIn_sub (fun _ h => List.mem_cons_of_mem _ (List.mem_append_right _ h)) (by decide +kernel))
set_option maxRecDepth 20000 in
theorem gX2_digest_X2_seam : GoodIn wsX2_digest (wsV RX2 161 RX2 yX2_seam wsX2_seam) := goodIn_app (goodIn_of _ (by decide +kernel)) ggX2_digest_X2_seam
theorem dX2_digest_0 : decode cX2_digest 0 = .ok (.ldc2_w 145, 3) := by decide +kernel
theorem dX2_digest_3 : decode cX2_digest 3 = .ok (.lstore_n 1, 1) := by decide +kernel
theorem dX2_digest_4 : decode cX2_digest 4 = .ok (.iconst 0, 1) := by decide +kernel
theorem dX2_digest_5 : decode cX2_digest 5 = .ok (.istore_n 3, 1) := by decide +kernel
theorem dX2_digest_6 : decode cX2_digest 6 = .ok (.iload_n 3, 1) := by decide +kernel
theorem dX2_digest_7 : decode cX2_digest 7 = .ok (.bipush 6, 2) := by decide +kernel
theorem dX2_digest_9 : decode cX2_digest 9 = .ok (.if_icmp .ge 19, 3) := by decide +kernel
theorem dX2_digest_12 : decode cX2_digest 12 = .ok (.lload_n 1, 1) := by decide +kernel
theorem dX2_digest_13 : decode cX2_digest 13 = .ok (.aload_n 0, 1) := by decide +kernel
theorem dX2_digest_14 : decode cX2_digest 14 = .ok (.iload_n 3, 1) := by decide +kernel
theorem dX2_digest_15 : decode cX2_digest 15 = .ok (.invokevirtual 147, 3) := by decide +kernel
theorem dX2_digest_18 : decode cX2_digest 18 = .ok (.invokestatic 150, 3) := by decide +kernel
theorem dX2_digest_21 : decode cX2_digest 21 = .ok (.lstore_n 1, 1) := by decide +kernel
theorem dX2_digest_22 : decode cX2_digest 22 = .ok (.iinc 3 1, 3) := by decide +kernel
theorem dX2_digest_25 : decode cX2_digest 25 = .ok (.goto (-19), 3) := by decide +kernel
theorem dX2_digest_28 : decode cX2_digest 28 = .ok (.aload_n 0, 1) := by decide +kernel
theorem dX2_digest_29 : decode cX2_digest 29 = .ok (.lload_n 1, 1) := by decide +kernel
theorem dX2_digest_30 : decode cX2_digest 30 = .ok (.iconst 0, 1) := by decide +kernel
theorem dX2_digest_31 : decode cX2_digest 31 = .ok (.invokevirtual 154, 3) := by decide +kernel
theorem dX2_digest_34 : decode cX2_digest 34 = .ok (.lstore_n 1, 1) := by decide +kernel
theorem dX2_digest_35 : decode cX2_digest 35 = .ok (.aload_n 0, 1) := by decide +kernel
theorem dX2_digest_36 : decode cX2_digest 36 = .ok (.lload_n 1, 1) := by decide +kernel
theorem dX2_digest_37 : decode cX2_digest 37 = .ok (.iconst 1, 1) := by decide +kernel
theorem dX2_digest_38 : decode cX2_digest 38 = .ok (.invokevirtual 154, 3) := by decide +kernel
theorem dX2_digest_41 : decode cX2_digest 41 = .ok (.lstore_n 1, 1) := by decide +kernel
theorem dX2_digest_42 : decode cX2_digest 42 = .ok (.lload_n 1, 1) := by decide +kernel
theorem dX2_digest_43 : decode cX2_digest 43 = .ok (.aload_n 0, 1) := by decide +kernel
theorem dX2_digest_44 : decode cX2_digest 44 = .ok (.getfield 22, 3) := by decide +kernel
theorem dX2_digest_47 : decode cX2_digest 47 = .ok (.invokestatic 157, 3) := by decide +kernel
theorem dX2_digest_50 : decode cX2_digest 50 = .ok (.lstore_n 1, 1) := by decide +kernel
theorem dX2_digest_51 : decode cX2_digest 51 = .ok (.iconst 0, 1) := by decide +kernel
theorem dX2_digest_52 : decode cX2_digest 52 = .ok (.istore_n 3, 1) := by decide +kernel
theorem dX2_digest_53 : decode cX2_digest 53 = .ok (.iload_n 3, 1) := by decide +kernel
theorem dX2_digest_54 : decode cX2_digest 54 = .ok (.iconst 3, 1) := by decide +kernel
theorem dX2_digest_55 : decode cX2_digest 55 = .ok (.if_icmp .ge 19, 3) := by decide +kernel
theorem dX2_digest_58 : decode cX2_digest 58 = .ok (.lload_n 1, 1) := by decide +kernel
theorem dX2_digest_59 : decode cX2_digest 59 = .ok (.aload_n 0, 1) := by decide +kernel
theorem dX2_digest_60 : decode cX2_digest 60 = .ok (.iload_n 3, 1) := by decide +kernel
theorem dX2_digest_61 : decode cX2_digest 61 = .ok (.invokevirtual 161, 3) := by decide +kernel
theorem dX2_digest_64 : decode cX2_digest 64 = .ok (.invokestatic 150, 3) := by decide +kernel
theorem dX2_digest_67 : decode cX2_digest 67 = .ok (.lstore_n 1, 1) := by decide +kernel
theorem dX2_digest_68 : decode cX2_digest 68 = .ok (.iinc 3 1, 3) := by decide +kernel
theorem dX2_digest_71 : decode cX2_digest 71 = .ok (.goto (-18), 3) := by decide +kernel
theorem dX2_digest_74 : decode cX2_digest 74 = .ok (.lload_n 1, 1) := by decide +kernel
theorem dX2_digest_75 : decode cX2_digest 75 = .ok (.lreturn, 1) := by decide +kernel
set_option maxRecDepth 20000 in
theorem ggX2_hemMixed_X2_hemOf : GoodIn wsX2_hemMixed wsX2_hemOf := goodIn_ca (goodIn_r _ [5, 6, 7, 8, 9, 100, 101, 102] (by decide +kernel) (by decide +kernel)) (goodIn_sub (fun _ h => List.mem_cons_of_mem _ (List.mem_append_right _ h)) (by decide +kernel))
set_option maxRecDepth 20000 in
theorem gX2_hemMixed_X2_hemOf : GoodIn wsX2_hemMixed (wsV RX2 26 RX2 yX2_hemOf wsX2_hemOf) := goodIn_app (goodIn_of _ (by decide +kernel)) ggX2_hemMixed_X2_hemOf
set_option maxRecDepth 20000 in
theorem ggX2_hemMixed_X2_stitchesMixed : GoodIn wsX2_hemMixed wsX2_stitchesMixed := goodIn_r _ [12, 13, 14, 15, 16, 17, 18, 19, 20, 21, 4, 22, 23, 98, 99] (by decide +kernel) (by decide +kernel)
set_option maxRecDepth 20000 in
theorem gX2_hemMixed_X2_stitchesMixed : GoodIn wsX2_hemMixed (va_wsS RX2 157 yX2_stitchesMixed wsX2_stitchesMixed) := goodIn_app (goodIn_of _ (by decide +kernel)) ggX2_hemMixed_X2_stitchesMixed
set_option maxRecDepth 20000 in
theorem ggX2_hemMixed_X0_placeAt : GoodIn wsX2_hemMixed wsX0_placeAt := goodIn_r _ [28, 29, 30, 96, 97, 98, 99] (by decide +kernel) (by decide +kernel)
set_option maxRecDepth 20000 in
theorem gX2_hemMixed_X0_placeAt : GoodIn wsX2_hemMixed (wsV RX2 97 RX0 yX0_placeAt wsX0_placeAt) := goodIn_app (goodIn_of _ (by decide +kernel)) ggX2_hemMixed_X0_placeAt
set_option maxRecDepth 20000 in
theorem ggX2_hemMixed_X2_mixed : GoodIn wsX2_hemMixed wsX2_mixed := goodIn_r _ [22, 23] (by decide +kernel) (by decide +kernel)
set_option maxRecDepth 20000 in
theorem gX2_hemMixed_X2_mixed : GoodIn wsX2_hemMixed (va_wsS RX2 150 yX2_mixed wsX2_mixed) := goodIn_app (goodIn_of _ (by decide +kernel)) ggX2_hemMixed_X2_mixed
set_option maxRecDepth 20000 in
theorem ggX2_hemMixed_X2_repeat : GoodIn wsX2_hemMixed wsX2_repeat := goodIn_ca (goodIn_r _ [34, 6, 7, 1, 2, 3, 4, 5, 8, 9, 35, 36, 37, 27, 38, 29, 39, 40, 41, 42, 43, 25, 26, 28, 30, 44, 45, 46, 16, 47, 18, 48, 49, 50, 51, 52, 14, 15, 17, 19, 53, 24, 54, 55, 56, 57, 58, 59, 60, 61, 62, 63, 64, 65, 66, 96, 97, 100, 101, 102, 98, 99] (by decide +kernel) (by decide +kernel)) (goodIn_sub (fun _ h => List.mem_cons_of_mem _ (List.mem_append_right _ h)) (by decide +kernel))
set_option maxRecDepth 20000 in
theorem gX2_hemMixed_X2_repeat : GoodIn wsX2_hemMixed (wsV RX2 164 RX2 yX2_repeat wsX2_repeat) := goodIn_app (goodIn_of _ (by decide +kernel)) ggX2_hemMixed_X2_repeat
set_option maxRecDepth 20000 in
theorem ggX2_hemMixed_X2_period : GoodIn wsX2_hemMixed wsX2_period := goodIn_ca (goodIn_r _ [70, 1, 2, 3, 4, 5, 6, 7, 8, 9, 71, 72, 73, 16, 74, 18, 62, 45, 46, 47, 48, 49, 50, 51, 52, 14, 15, 17, 19, 96, 97, 100, 101, 102, 98, 99] (by decide +kernel) (by decide +kernel)) (goodIn_sub (fun _ h => List.mem_cons_of_mem _ (List.mem_append_right _ h)) (by decide +kernel))
set_option maxRecDepth 20000 in
theorem gX2_hemMixed_X2_period : GoodIn wsX2_hemMixed (wsV RX2 168 RX2 yX2_period wsX2_period) := goodIn_app (goodIn_of _ (by decide +kernel)) ggX2_hemMixed_X2_period
set_option maxRecDepth 20000 in
theorem ggX2_hemMixed_X2_turned : GoodIn wsX2_hemMixed wsX2_turned := goodIn_ca (goodIn_r _ [78, 1, 2, 3, 4, 5, 6, 7, 8, 9, 79, 80, 81, 16, 82, 18, 83, 84, 85, 86, 87, 88, 89, 90, 52, 14, 15, 17, 19, 96, 97, 100, 101, 102, 98, 99] (by decide +kernel) (by decide +kernel)) (goodIn_sub (fun _ h => List.mem_cons_of_mem _ (List.mem_append_right _ h)) (by decide +kernel))
set_option maxRecDepth 20000 in
theorem gX2_hemMixed_X2_turned : GoodIn wsX2_hemMixed (wsV RX2 171 RX2 yX2_turned wsX2_turned) := goodIn_app (goodIn_of _ (by decide +kernel)) ggX2_hemMixed_X2_turned
set_option maxRecDepth 20000 in
theorem ggX2_hemMixed_X2_found : GoodIn wsX2_hemMixed wsX2_found := goodIn_ca (goodIn_r _ [94, 95, 1, 2, 3, 4, 5, 6, 7, 8, 9, 63, 64, 65, 16, 66, 18, 58, 59, 60, 61, 62, 45, 46, 47, 48, 49, 50, 51, 52, 14, 15, 17, 19, 96, 97, 100, 101, 102, 98, 99] (by decide +kernel) (by decide +kernel)) (goodIn_sub (fun _ h => List.mem_cons_of_mem _ (List.mem_append_right _ h)) (by decide +kernel))
set_option maxRecDepth 20000 in
theorem gX2_hemMixed_X2_found : GoodIn wsX2_hemMixed (wsV RX2 174 RX2 yX2_found wsX2_found) := goodIn_app (goodIn_of _ (by decide +kernel)) ggX2_hemMixed_X2_found
theorem dX2_hemMixed_0 : decode cX2_hemMixed 0 = .ok (.aload_n 0, 1) := by decide +kernel
theorem dX2_hemMixed_1 : decode cX2_hemMixed 1 = .ok (.iload_n 3, 1) := by decide +kernel
theorem dX2_hemMixed_2 : decode cX2_hemMixed 2 = .ok (.invokevirtual 26, 3) := by decide +kernel
theorem dX2_hemMixed_5 : decode cX2_hemMixed 5 = .ok (.astore 4, 2) := by decide +kernel
theorem dX2_hemMixed_7 : decode cX2_hemMixed 7 = .ok (.lload_n 1, 1) := by decide +kernel
theorem dX2_hemMixed_8 : decode cX2_hemMixed 8 = .ok (.aload 4, 2) := by decide +kernel
theorem dX2_hemMixed_10 : decode cX2_hemMixed 10 = .ok (.getfield 34, 3) := by decide +kernel
theorem dX2_hemMixed_13 : decode cX2_hemMixed 13 = .ok (.invokestatic 157, 3) := by decide +kernel
theorem dX2_hemMixed_16 : decode cX2_hemMixed 16 = .ok (.lstore 5, 2) := by decide +kernel
theorem dX2_hemMixed_18 : decode cX2_hemMixed 18 = .ok (.iconst 0, 1) := by decide +kernel
theorem dX2_hemMixed_19 : decode cX2_hemMixed 19 = .ok (.istore 7, 2) := by decide +kernel
theorem dX2_hemMixed_21 : decode cX2_hemMixed 21 = .ok (.iload 7, 2) := by decide +kernel
theorem dX2_hemMixed_23 : decode cX2_hemMixed 23 = .ok (.aload 4, 2) := by decide +kernel
theorem dX2_hemMixed_25 : decode cX2_hemMixed 25 = .ok (.getfield 34, 3) := by decide +kernel
theorem dX2_hemMixed_28 : decode cX2_hemMixed 28 = .ok (.getfield 37, 3) := by decide +kernel
theorem dX2_hemMixed_31 : decode cX2_hemMixed 31 = .ok (.if_icmp .ge 23, 3) := by decide +kernel
theorem dX2_hemMixed_34 : decode cX2_hemMixed 34 = .ok (.lload 5, 2) := by decide +kernel
theorem dX2_hemMixed_36 : decode cX2_hemMixed 36 = .ok (.aload 4, 2) := by decide +kernel
theorem dX2_hemMixed_38 : decode cX2_hemMixed 38 = .ok (.iload 7, 2) := by decide +kernel
theorem dX2_hemMixed_40 : decode cX2_hemMixed 40 = .ok (.invokevirtual 97, 3) := by decide +kernel
theorem dX2_hemMixed_43 : decode cX2_hemMixed 43 = .ok (.invokestatic 150, 3) := by decide +kernel
theorem dX2_hemMixed_46 : decode cX2_hemMixed 46 = .ok (.lstore 5, 2) := by decide +kernel
theorem dX2_hemMixed_48 : decode cX2_hemMixed 48 = .ok (.iinc 7 1, 3) := by decide +kernel
theorem dX2_hemMixed_51 : decode cX2_hemMixed 51 = .ok (.goto (-30), 3) := by decide +kernel
theorem dX2_hemMixed_54 : decode cX2_hemMixed 54 = .ok (.iconst 0, 1) := by decide +kernel
theorem dX2_hemMixed_55 : decode cX2_hemMixed 55 = .ok (.istore 7, 2) := by decide +kernel
theorem dX2_hemMixed_57 : decode cX2_hemMixed 57 = .ok (.iload 7, 2) := by decide +kernel
theorem dX2_hemMixed_59 : decode cX2_hemMixed 59 = .ok (.iconst 3, 1) := by decide +kernel
theorem dX2_hemMixed_60 : decode cX2_hemMixed 60 = .ok (.if_icmp .ge 23, 3) := by decide +kernel
theorem dX2_hemMixed_63 : decode cX2_hemMixed 63 = .ok (.lload 5, 2) := by decide +kernel
theorem dX2_hemMixed_65 : decode cX2_hemMixed 65 = .ok (.aload_n 0, 1) := by decide +kernel
theorem dX2_hemMixed_66 : decode cX2_hemMixed 66 = .ok (.iload_n 3, 1) := by decide +kernel
theorem dX2_hemMixed_67 : decode cX2_hemMixed 67 = .ok (.iload 7, 2) := by decide +kernel
theorem dX2_hemMixed_69 : decode cX2_hemMixed 69 = .ok (.invokevirtual 164, 3) := by decide +kernel
theorem dX2_hemMixed_72 : decode cX2_hemMixed 72 = .ok (.invokestatic 150, 3) := by decide +kernel
theorem dX2_hemMixed_75 : decode cX2_hemMixed 75 = .ok (.lstore 5, 2) := by decide +kernel
theorem dX2_hemMixed_77 : decode cX2_hemMixed 77 = .ok (.iinc 7 1, 3) := by decide +kernel
theorem dX2_hemMixed_80 : decode cX2_hemMixed 80 = .ok (.goto (-23), 3) := by decide +kernel
theorem dX2_hemMixed_83 : decode cX2_hemMixed 83 = .ok (.lload 5, 2) := by decide +kernel
theorem dX2_hemMixed_85 : decode cX2_hemMixed 85 = .ok (.aload_n 0, 1) := by decide +kernel
theorem dX2_hemMixed_86 : decode cX2_hemMixed 86 = .ok (.iload_n 3, 1) := by decide +kernel
theorem dX2_hemMixed_87 : decode cX2_hemMixed 87 = .ok (.invokevirtual 168, 3) := by decide +kernel
theorem dX2_hemMixed_90 : decode cX2_hemMixed 90 = .ok (.invokestatic 150, 3) := by decide +kernel
theorem dX2_hemMixed_93 : decode cX2_hemMixed 93 = .ok (.lstore 5, 2) := by decide +kernel
theorem dX2_hemMixed_95 : decode cX2_hemMixed 95 = .ok (.lload 5, 2) := by decide +kernel
theorem dX2_hemMixed_97 : decode cX2_hemMixed 97 = .ok (.aload_n 0, 1) := by decide +kernel
theorem dX2_hemMixed_98 : decode cX2_hemMixed 98 = .ok (.iload_n 3, 1) := by decide +kernel
theorem dX2_hemMixed_99 : decode cX2_hemMixed 99 = .ok (.invokevirtual 171, 3) := by decide +kernel
theorem dX2_hemMixed_102 : decode cX2_hemMixed 102 = .ok (.invokestatic 150, 3) := by decide +kernel
theorem dX2_hemMixed_105 : decode cX2_hemMixed 105 = .ok (.lstore 5, 2) := by decide +kernel
theorem dX2_hemMixed_107 : decode cX2_hemMixed 107 = .ok (.lload 5, 2) := by decide +kernel
theorem dX2_hemMixed_109 : decode cX2_hemMixed 109 = .ok (.aload_n 0, 1) := by decide +kernel
theorem dX2_hemMixed_110 : decode cX2_hemMixed 110 = .ok (.iload_n 3, 1) := by decide +kernel
theorem dX2_hemMixed_111 : decode cX2_hemMixed 111 = .ok (.invokevirtual 174, 3) := by decide +kernel
theorem dX2_hemMixed_114 : decode cX2_hemMixed 114 = .ok (.invokestatic 150, 3) := by decide +kernel
theorem dX2_hemMixed_117 : decode cX2_hemMixed 117 = .ok (.lreturn, 1) := by decide +kernel
set_option maxRecDepth 20000 in
theorem ggX2_stitchesMixed_X1_at : GoodIn wsX2_stitchesMixed wsX1_at := goodIn_r _ [5, 6, 7, 13, 14] (by decide +kernel) (by decide +kernel)
set_option maxRecDepth 20000 in
theorem gX2_stitchesMixed_X1_at : GoodIn wsX2_stitchesMixed (wsV RX2 78 RX1 yX1_at wsX1_at) := goodIn_app (goodIn_of _ (by decide +kernel)) ggX2_stitchesMixed_X1_at
set_option maxRecDepth 20000 in
theorem ggX2_stitchesMixed_X2_mixed : GoodIn wsX2_stitchesMixed wsX2_mixed := goodIn_r _ [11, 12] (by decide +kernel) (by decide +kernel)
set_option maxRecDepth 20000 in
theorem gX2_stitchesMixed_X2_mixed : GoodIn wsX2_stitchesMixed (va_wsS RX2 150 yX2_mixed wsX2_mixed) := goodIn_app (goodIn_of _ (by decide +kernel)) ggX2_stitchesMixed_X2_mixed
theorem dX2_stitchesMixed_0 : decode cX2_stitchesMixed 0 = .ok (.lload_n 0, 1) := by decide +kernel
theorem dX2_stitchesMixed_1 : decode cX2_stitchesMixed 1 = .ok (.lstore_n 3, 1) := by decide +kernel
theorem dX2_stitchesMixed_2 : decode cX2_stitchesMixed 2 = .ok (.iconst 0, 1) := by decide +kernel
theorem dX2_stitchesMixed_3 : decode cX2_stitchesMixed 3 = .ok (.istore 5, 2) := by decide +kernel
theorem dX2_stitchesMixed_5 : decode cX2_stitchesMixed 5 = .ok (.iload 5, 2) := by decide +kernel
theorem dX2_stitchesMixed_7 : decode cX2_stitchesMixed 7 = .ok (.aload_n 2, 1) := by decide +kernel
theorem dX2_stitchesMixed_8 : decode cX2_stitchesMixed 8 = .ok (.getfield 37, 3) := by decide +kernel
theorem dX2_stitchesMixed_11 : decode cX2_stitchesMixed 11 = .ok (.if_icmp .ge 20, 3) := by decide +kernel
theorem dX2_stitchesMixed_14 : decode cX2_stitchesMixed 14 = .ok (.lload_n 3, 1) := by decide +kernel
theorem dX2_stitchesMixed_15 : decode cX2_stitchesMixed 15 = .ok (.aload_n 2, 1) := by decide +kernel
theorem dX2_stitchesMixed_16 : decode cX2_stitchesMixed 16 = .ok (.iload 5, 2) := by decide +kernel
theorem dX2_stitchesMixed_18 : decode cX2_stitchesMixed 18 = .ok (.invokevirtual 78, 3) := by decide +kernel
theorem dX2_stitchesMixed_21 : decode cX2_stitchesMixed 21 = .ok (.invokestatic 150, 3) := by decide +kernel
theorem dX2_stitchesMixed_24 : decode cX2_stitchesMixed 24 = .ok (.lstore_n 3, 1) := by decide +kernel
theorem dX2_stitchesMixed_25 : decode cX2_stitchesMixed 25 = .ok (.iinc 5 1, 3) := by decide +kernel
theorem dX2_stitchesMixed_28 : decode cX2_stitchesMixed 28 = .ok (.goto (-23), 3) := by decide +kernel
theorem dX2_stitchesMixed_31 : decode cX2_stitchesMixed 31 = .ok (.lload_n 3, 1) := by decide +kernel
theorem dX2_stitchesMixed_32 : decode cX2_stitchesMixed 32 = .ok (.lreturn, 1) := by decide +kernel
theorem dX2_mixed_0 : decode cX2_mixed 0 = .ok (.lload_n 0, 1) := by decide +kernel
theorem dX2_mixed_1 : decode cX2_mixed 1 = .ok (.ldc2_w 177, 3) := by decide +kernel
theorem dX2_mixed_4 : decode cX2_mixed 4 = .ok (.lmul, 1) := by decide +kernel
theorem dX2_mixed_5 : decode cX2_mixed 5 = .ok (.iload_n 2, 1) := by decide +kernel
theorem dX2_mixed_6 : decode cX2_mixed 6 = .ok (.i2l, 1) := by decide +kernel
theorem dX2_mixed_7 : decode cX2_mixed 7 = .ok (.ladd, 1) := by decide +kernel
theorem dX2_mixed_8 : decode cX2_mixed 8 = .ok (.lreturn, 1) := by decide +kernel
theorem dX2_hemOf_0 : decode cX2_hemOf 0 = .ok (.iload_n 1, 1) := by decide +kernel
theorem dX2_hemOf_1 : decode cX2_hemOf 1 = .ok (.ifCond .ne 8, 3) := by decide +kernel
theorem dX2_hemOf_4 : decode cX2_hemOf 4 = .ok (.aload_n 0, 1) := by decide +kernel
theorem dX2_hemOf_5 : decode cX2_hemOf 5 = .ok (.getfield 10, 3) := by decide +kernel
theorem dX2_hemOf_8 : decode cX2_hemOf 8 = .ok (.areturn, 1) := by decide +kernel
theorem dX2_hemOf_9 : decode cX2_hemOf 9 = .ok (.iload_n 1, 1) := by decide +kernel
theorem dX2_hemOf_10 : decode cX2_hemOf 10 = .ok (.iconst 1, 1) := by decide +kernel
theorem dX2_hemOf_11 : decode cX2_hemOf 11 = .ok (.if_icmp .ne 8, 3) := by decide +kernel
theorem dX2_hemOf_14 : decode cX2_hemOf 14 = .ok (.aload_n 0, 1) := by decide +kernel
theorem dX2_hemOf_15 : decode cX2_hemOf 15 = .ok (.getfield 16, 3) := by decide +kernel
theorem dX2_hemOf_18 : decode cX2_hemOf 18 = .ok (.areturn, 1) := by decide +kernel
theorem dX2_hemOf_19 : decode cX2_hemOf 19 = .ok (.new 92, 3) := by decide +kernel
theorem dX2_hemOf_22 : decode cX2_hemOf 22 = .ok (.dup, 1) := by decide +kernel
theorem dX2_hemOf_23 : decode cX2_hemOf 23 = .ok (.ldc 179, 2) := by decide +kernel
theorem dX2_hemOf_25 : decode cX2_hemOf 25 = .ok (.invokespecial 96, 3) := by decide +kernel
theorem dX2_hemOf_28 : decode cX2_hemOf 28 = .ok (.athrow, 1) := by decide +kernel
theorem dX2_requireStitch_0 : decode cX2_requireStitch 0 = .ok (.iload_n 0, 1) := by decide +kernel
theorem dX2_requireStitch_1 : decode cX2_requireStitch 1 = .ok (.ifCond .lt 9, 3) := by decide +kernel
theorem dX2_requireStitch_4 : decode cX2_requireStitch 4 = .ok (.iload_n 0, 1) := by decide +kernel
theorem dX2_requireStitch_5 : decode cX2_requireStitch 5 = .ok (.bipush 9, 2) := by decide +kernel
theorem dX2_requireStitch_7 : decode cX2_requireStitch 7 = .ok (.if_icmp .lt 13, 3) := by decide +kernel
theorem dX2_requireStitch_10 : decode cX2_requireStitch 10 = .ok (.new 51, 3) := by decide +kernel
theorem dX2_requireStitch_13 : decode cX2_requireStitch 13 = .ok (.dup, 1) := by decide +kernel
theorem dX2_requireStitch_14 : decode cX2_requireStitch 14 = .ok (.ldc 181, 2) := by decide +kernel
theorem dX2_requireStitch_16 : decode cX2_requireStitch 16 = .ok (.invokespecial 55, 3) := by decide +kernel
theorem dX2_requireStitch_19 : decode cX2_requireStitch 19 = .ok (.athrow, 1) := by decide +kernel
theorem dX2_requireStitch_20 : decode cX2_requireStitch 20 = .ok (.return_, 1) := by decide +kernel
theorem dX2_requirePlace_0 : decode cX2_requirePlace 0 = .ok (.iload_n 1, 1) := by decide +kernel
theorem dX2_requirePlace_1 : decode cX2_requirePlace 1 = .ok (.ifCond .lt 11, 3) := by decide +kernel
theorem dX2_requirePlace_4 : decode cX2_requirePlace 4 = .ok (.iload_n 1, 1) := by decide +kernel
theorem dX2_requirePlace_5 : decode cX2_requirePlace 5 = .ok (.aload_n 0, 1) := by decide +kernel
theorem dX2_requirePlace_6 : decode cX2_requirePlace 6 = .ok (.getfield 37, 3) := by decide +kernel
theorem dX2_requirePlace_9 : decode cX2_requirePlace 9 = .ok (.if_icmp .lt 13, 3) := by decide +kernel
theorem dX2_requirePlace_12 : decode cX2_requirePlace 12 = .ok (.new 92, 3) := by decide +kernel
theorem dX2_requirePlace_15 : decode cX2_requirePlace 15 = .ok (.dup, 1) := by decide +kernel
theorem dX2_requirePlace_16 : decode cX2_requirePlace 16 = .ok (.ldc 183, 2) := by decide +kernel
theorem dX2_requirePlace_18 : decode cX2_requirePlace 18 = .ok (.invokespecial 96, 3) := by decide +kernel
theorem dX2_requirePlace_21 : decode cX2_requirePlace 21 = .ok (.athrow, 1) := by decide +kernel
theorem dX2_requirePlace_22 : decode cX2_requirePlace 22 = .ok (.return_, 1) := by decide +kernel
set_option maxRecDepth 20000 in
theorem ggX2_seamPlace_X0_placeAt : GoodIn wsX2_seamPlace wsX0_placeAt := goodIn_r _ [6, 7, 8, 40, 41, 42, 43] (by decide +kernel) (by decide +kernel)
set_option maxRecDepth 20000 in
theorem gX2_seamPlace_X0_placeAt : GoodIn wsX2_seamPlace (wsV RX2 97 RX0 yX0_placeAt wsX0_placeAt) := goodIn_app (goodIn_of _ (by decide +kernel)) ggX2_seamPlace_X0_placeAt
set_option maxRecDepth 20000 in
theorem ggX2_seamPlace_X2_seamLengthFrom : GoodIn wsX2_seamPlace wsX2_seamLengthFrom := goodIn_r _ [13, 1, 14, 15, 16, 17, 18, 19, 20, 21, 22, 23, 24, 25, 26, 27, 28, 29, 30, 31, 32, 33, 34, 35, 36, 37, 38, 39, 40, 41, 42, 43] (by decide +kernel) (by decide +kernel)
set_option maxRecDepth 20000 in
theorem gX2_seamPlace_X2_seamLengthFrom : GoodIn wsX2_seamPlace (wsV RX2 89 RX2 yX2_seamLengthFrom wsX2_seamLengthFrom) := goodIn_app (goodIn_of _ (by decide +kernel)) ggX2_seamPlace_X2_seamLengthFrom
theorem dX2_seamPlace_0 : decode cX2_seamPlace 0 = .ok (.iconst (-1), 1) := by decide +kernel
theorem dX2_seamPlace_1 : decode cX2_seamPlace 1 = .ok (.istore_n 1, 1) := by decide +kernel
theorem dX2_seamPlace_2 : decode cX2_seamPlace 2 = .ok (.iconst 0, 1) := by decide +kernel
theorem dX2_seamPlace_3 : decode cX2_seamPlace 3 = .ok (.istore_n 2, 1) := by decide +kernel
theorem dX2_seamPlace_4 : decode cX2_seamPlace 4 = .ok (.iconst 0, 1) := by decide +kernel
theorem dX2_seamPlace_5 : decode cX2_seamPlace 5 = .ok (.istore_n 3, 1) := by decide +kernel
theorem dX2_seamPlace_6 : decode cX2_seamPlace 6 = .ok (.iload_n 3, 1) := by decide +kernel
theorem dX2_seamPlace_7 : decode cX2_seamPlace 7 = .ok (.aload_n 0, 1) := by decide +kernel
theorem dX2_seamPlace_8 : decode cX2_seamPlace 8 = .ok (.getfield 10, 3) := by decide +kernel
theorem dX2_seamPlace_11 : decode cX2_seamPlace 11 = .ok (.getfield 34, 3) := by decide +kernel
theorem dX2_seamPlace_14 : decode cX2_seamPlace 14 = .ok (.getfield 37, 3) := by decide +kernel
theorem dX2_seamPlace_17 : decode cX2_seamPlace 17 = .ok (.if_icmp .ge 39, 3) := by decide +kernel
theorem dX2_seamPlace_20 : decode cX2_seamPlace 20 = .ok (.aload_n 0, 1) := by decide +kernel
theorem dX2_seamPlace_21 : decode cX2_seamPlace 21 = .ok (.getfield 10, 3) := by decide +kernel
theorem dX2_seamPlace_24 : decode cX2_seamPlace 24 = .ok (.iload_n 3, 1) := by decide +kernel
theorem dX2_seamPlace_25 : decode cX2_seamPlace 25 = .ok (.invokevirtual 97, 3) := by decide +kernel
theorem dX2_seamPlace_28 : decode cX2_seamPlace 28 = .ok (.istore 4, 2) := by decide +kernel
theorem dX2_seamPlace_30 : decode cX2_seamPlace 30 = .ok (.aload_n 0, 1) := by decide +kernel
theorem dX2_seamPlace_31 : decode cX2_seamPlace 31 = .ok (.iload 4, 2) := by decide +kernel
theorem dX2_seamPlace_33 : decode cX2_seamPlace 33 = .ok (.invokevirtual 89, 3) := by decide +kernel
theorem dX2_seamPlace_36 : decode cX2_seamPlace 36 = .ok (.istore 5, 2) := by decide +kernel
theorem dX2_seamPlace_38 : decode cX2_seamPlace 38 = .ok (.iload 5, 2) := by decide +kernel
theorem dX2_seamPlace_40 : decode cX2_seamPlace 40 = .ok (.iload_n 2, 1) := by decide +kernel
theorem dX2_seamPlace_41 : decode cX2_seamPlace 41 = .ok (.if_icmp .le 9, 3) := by decide +kernel
theorem dX2_seamPlace_44 : decode cX2_seamPlace 44 = .ok (.iload 4, 2) := by decide +kernel
theorem dX2_seamPlace_46 : decode cX2_seamPlace 46 = .ok (.istore_n 1, 1) := by decide +kernel
theorem dX2_seamPlace_47 : decode cX2_seamPlace 47 = .ok (.iload 5, 2) := by decide +kernel
theorem dX2_seamPlace_49 : decode cX2_seamPlace 49 = .ok (.istore_n 2, 1) := by decide +kernel
theorem dX2_seamPlace_50 : decode cX2_seamPlace 50 = .ok (.iinc 3 1, 3) := by decide +kernel
theorem dX2_seamPlace_53 : decode cX2_seamPlace 53 = .ok (.goto (-47), 3) := by decide +kernel
theorem dX2_seamPlace_56 : decode cX2_seamPlace 56 = .ok (.iload_n 1, 1) := by decide +kernel
theorem dX2_seamPlace_57 : decode cX2_seamPlace 57 = .ok (.ireturn, 1) := by decide +kernel
set_option maxRecDepth 20000 in
theorem ggX2_seamLengthFrom_X1_mostSharedWith : GoodIn wsX2_seamLengthFrom wsX1_mostSharedWith := goodIn_r _ [7, 8, 9, 10, 11, 12, 13, 14, 15, 6, 16, 17, 18, 19, 20, 21, 22, 23, 24, 30, 31] (by decide +kernel) (by decide +kernel)
set_option maxRecDepth 20000 in
theorem gX2_seamLengthFrom_X1_mostSharedWith : GoodIn wsX2_seamLengthFrom (wsV RX2 185 RX1 yX1_mostSharedWith wsX1_mostSharedWith) := goodIn_app (goodIn_of _ (by decide +kernel)) ggX2_seamLengthFrom_X1_mostSharedWith
theorem dX2_seamLengthFrom_0 : decode cX2_seamLengthFrom 0 = .ok (.aload_n 0, 1) := by decide +kernel
theorem dX2_seamLengthFrom_1 : decode cX2_seamLengthFrom 1 = .ok (.getfield 10, 3) := by decide +kernel
theorem dX2_seamLengthFrom_4 : decode cX2_seamLengthFrom 4 = .ok (.getfield 34, 3) := by decide +kernel
theorem dX2_seamLengthFrom_7 : decode cX2_seamLengthFrom 7 = .ok (.iload_n 1, 1) := by decide +kernel
theorem dX2_seamLengthFrom_8 : decode cX2_seamLengthFrom 8 = .ok (.aload_n 0, 1) := by decide +kernel
theorem dX2_seamLengthFrom_9 : decode cX2_seamLengthFrom 9 = .ok (.getfield 16, 3) := by decide +kernel
theorem dX2_seamLengthFrom_12 : decode cX2_seamLengthFrom 12 = .ok (.getfield 34, 3) := by decide +kernel
theorem dX2_seamLengthFrom_15 : decode cX2_seamLengthFrom 15 = .ok (.invokevirtual 185, 3) := by decide +kernel
theorem dX2_seamLengthFrom_18 : decode cX2_seamLengthFrom 18 = .ok (.ireturn, 1) := by decide +kernel
theorem dJ9_max_7cf53_0 : decode cJ9_max_7cf53 0 = .ok (.iload_n 0, 1) := by decide +kernel
theorem dJ9_max_7cf53_1 : decode cJ9_max_7cf53 1 = .ok (.iload_n 1, 1) := by decide +kernel
theorem dJ9_max_7cf53_2 : decode cJ9_max_7cf53 2 = .ok (.if_icmp .lt 7, 3) := by decide +kernel
theorem dJ9_max_7cf53_5 : decode cJ9_max_7cf53 5 = .ok (.iload_n 0, 1) := by decide +kernel
theorem dJ9_max_7cf53_6 : decode cJ9_max_7cf53 6 = .ok (.goto 4, 3) := by decide +kernel
theorem dJ9_max_7cf53_9 : decode cJ9_max_7cf53 9 = .ok (.iload_n 1, 1) := by decide +kernel
theorem dJ9_max_7cf53_10 : decode cJ9_max_7cf53 10 = .ok (.ireturn, 1) := by decide +kernel
theorem dJ9_min_7cf53_0 : decode cJ9_min_7cf53 0 = .ok (.iload_n 0, 1) := by decide +kernel
theorem dJ9_min_7cf53_1 : decode cJ9_min_7cf53 1 = .ok (.iload_n 1, 1) := by decide +kernel
theorem dJ9_min_7cf53_2 : decode cJ9_min_7cf53 2 = .ok (.if_icmp .gt 7, 3) := by decide +kernel
theorem dJ9_min_7cf53_5 : decode cJ9_min_7cf53 5 = .ok (.iload_n 0, 1) := by decide +kernel
theorem dJ9_min_7cf53_6 : decode cJ9_min_7cf53 6 = .ok (.goto 4, 3) := by decide +kernel
theorem dJ9_min_7cf53_9 : decode cJ9_min_7cf53 9 = .ok (.iload_n 1, 1) := by decide +kernel
theorem dJ9_min_7cf53_10 : decode cJ9_min_7cf53 10 = .ok (.ireturn, 1) := by decide +kernel
end
section
theorem dX3_init_0 : decode cX3_init 0 = .ok (.aload_n 0, 1) := by decide +kernel
theorem dX3_init_1 : decode cX3_init 1 = .ok (.invokespecial 1, 3) := by decide +kernel
theorem dX3_init_4 : decode cX3_init 4 = .ok (.aload_n 0, 1) := by decide +kernel
theorem dX3_init_5 : decode cX3_init 5 = .ok (.iconst 2, 1) := by decide +kernel
theorem dX3_init_6 : decode cX3_init 6 = .ok (.bipush 40, 2) := by decide +kernel
theorem dX3_init_8 : decode cX3_init 8 = .ok (.multianewarray 9 2, 4) := by decide +kernel
theorem dX3_init_12 : decode cX3_init 12 = .ok (.putfield 11, 3) := by decide +kernel
theorem dX3_init_15 : decode cX3_init 15 = .ok (.aload_n 0, 1) := by decide +kernel
theorem dX3_init_16 : decode cX3_init 16 = .ok (.iconst 2, 1) := by decide +kernel
theorem dX3_init_17 : decode cX3_init 17 = .ok (.newarray .int, 2) := by decide +kernel
theorem dX3_init_19 : decode cX3_init 19 = .ok (.putfield 14, 3) := by decide +kernel
theorem dX3_init_22 : decode cX3_init 22 = .ok (.aload_n 0, 1) := by decide +kernel
theorem dX3_init_23 : decode cX3_init 23 = .ok (.bipush 12, 2) := by decide +kernel
theorem dX3_init_25 : decode cX3_init 25 = .ok (.newarray .int, 2) := by decide +kernel
theorem dX3_init_27 : decode cX3_init 27 = .ok (.putfield 18, 3) := by decide +kernel
theorem dX3_init_30 : decode cX3_init 30 = .ok (.aload_n 0, 1) := by decide +kernel
theorem dX3_init_31 : decode cX3_init 31 = .ok (.bipush 41, 2) := by decide +kernel
theorem dX3_init_33 : decode cX3_init 33 = .ok (.bipush 41, 2) := by decide +kernel
theorem dX3_init_35 : decode cX3_init 35 = .ok (.multianewarray 9 2, 4) := by decide +kernel
theorem dX3_init_39 : decode cX3_init 39 = .ok (.putfield 21, 3) := by decide +kernel
theorem dX3_init_42 : decode cX3_init 42 = .ok (.aload_n 0, 1) := by decide +kernel
theorem dX3_init_43 : decode cX3_init 43 = .ok (.bipush 40, 2) := by decide +kernel
theorem dX3_init_45 : decode cX3_init 45 = .ok (.newarray .int, 2) := by decide +kernel
theorem dX3_init_47 : decode cX3_init 47 = .ok (.putfield 24, 3) := by decide +kernel
theorem dX3_init_50 : decode cX3_init 50 = .ok (.aload_n 0, 1) := by decide +kernel
theorem dX3_init_51 : decode cX3_init 51 = .ok (.bipush 41, 2) := by decide +kernel
theorem dX3_init_53 : decode cX3_init 53 = .ok (.bipush 41, 2) := by decide +kernel
theorem dX3_init_55 : decode cX3_init 55 = .ok (.multianewarray 9 2, 4) := by decide +kernel
theorem dX3_init_59 : decode cX3_init 59 = .ok (.putfield 27, 3) := by decide +kernel
theorem dX3_init_62 : decode cX3_init 62 = .ok (.return_, 1) := by decide +kernel
theorem dX3_thrown_0 : decode cX3_thrown 0 = .ok (.aload_n 0, 1) := by decide +kernel
theorem dX3_thrown_1 : decode cX3_thrown 1 = .ok (.getfield 30, 3) := by decide +kernel
theorem dX3_thrown_4 : decode cX3_thrown 4 = .ok (.ireturn, 1) := by decide +kernel
theorem dX3_no_0 : decode cX3_no 0 = .ok (.aload_n 0, 1) := by decide +kernel
theorem dX3_no_1 : decode cX3_no 1 = .ok (.iload_n 1, 1) := by decide +kernel
theorem dX3_no_2 : decode cX3_no 2 = .ok (.putfield 30, 3) := by decide +kernel
theorem dX3_no_5 : decode cX3_no 5 = .ok (.iconst 0, 1) := by decide +kernel
theorem dX3_no_6 : decode cX3_no 6 = .ok (.ireturn, 1) := by decide +kernel
theorem dX3_isIn_0 : decode cX3_isIn 0 = .ok (.iload_n 0, 1) := by decide +kernel
theorem dX3_isIn_1 : decode cX3_isIn 1 = .ok (.iload_n 1, 1) := by decide +kernel
theorem dX3_isIn_2 : decode cX3_isIn 2 = .ok (.if_icmp .lt 12, 3) := by decide +kernel
theorem dX3_isIn_5 : decode cX3_isIn 5 = .ok (.iload_n 0, 1) := by decide +kernel
theorem dX3_isIn_6 : decode cX3_isIn 6 = .ok (.iload_n 2, 1) := by decide +kernel
theorem dX3_isIn_7 : decode cX3_isIn 7 = .ok (.if_icmp .gt 7, 3) := by decide +kernel
theorem dX3_isIn_10 : decode cX3_isIn 10 = .ok (.iconst 1, 1) := by decide +kernel
theorem dX3_isIn_11 : decode cX3_isIn 11 = .ok (.goto 4, 3) := by decide +kernel
theorem dX3_isIn_14 : decode cX3_isIn 14 = .ok (.iconst 0, 1) := by decide +kernel
theorem dX3_isIn_15 : decode cX3_isIn 15 = .ok (.ireturn, 1) := by decide +kernel
set_option maxRecDepth 20000 in
theorem ggX3_isHem_X3_isIn : GoodIn wsX3_isHem wsX3_isIn := goodIn_r _ [4] (by decide +kernel) (by decide +kernel)
set_option maxRecDepth 20000 in
theorem gX3_isHem_X3_isIn : GoodIn wsX3_isHem (va_wsS RX3 34 yX3_isIn wsX3_isIn) := goodIn_app (goodIn_of _ (by decide +kernel)) ggX3_isHem_X3_isIn
theorem dX3_isHem_0 : decode cX3_isHem 0 = .ok (.iload_n 0, 1) := by decide +kernel
theorem dX3_isHem_1 : decode cX3_isHem 1 = .ok (.iconst 0, 1) := by decide +kernel
theorem dX3_isHem_2 : decode cX3_isHem 2 = .ok (.iconst 1, 1) := by decide +kernel
theorem dX3_isHem_3 : decode cX3_isHem 3 = .ok (.invokestatic 34, 3) := by decide +kernel
theorem dX3_isHem_6 : decode cX3_isHem 6 = .ok (.ireturn, 1) := by decide +kernel
set_option maxRecDepth 20000 in
theorem ggX3_isStitch_X3_isIn : GoodIn wsX3_isStitch wsX3_isIn := goodIn_r _ [4] (by decide +kernel) (by decide +kernel)
set_option maxRecDepth 20000 in
theorem gX3_isStitch_X3_isIn : GoodIn wsX3_isStitch (va_wsS RX3 34 yX3_isIn wsX3_isIn) := goodIn_app (goodIn_of _ (by decide +kernel)) ggX3_isStitch_X3_isIn
theorem dX3_isStitch_0 : decode cX3_isStitch 0 = .ok (.iload_n 0, 1) := by decide +kernel
theorem dX3_isStitch_1 : decode cX3_isStitch 1 = .ok (.iconst 0, 1) := by decide +kernel
theorem dX3_isStitch_2 : decode cX3_isStitch 2 = .ok (.bipush 8, 2) := by decide +kernel
theorem dX3_isStitch_4 : decode cX3_isStitch 4 = .ok (.invokestatic 34, 3) := by decide +kernel
theorem dX3_isStitch_7 : decode cX3_isStitch 7 = .ok (.ireturn, 1) := by decide +kernel
set_option maxRecDepth 20000 in
theorem ggX3_isPlace_X3_isHem : GoodIn wsX3_isPlace wsX3_isHem := goodIn_r _ [5, 6, 7, 4, 8] (by decide +kernel) (by decide +kernel)
set_option maxRecDepth 20000 in
theorem gX3_isPlace_X3_isHem : GoodIn wsX3_isPlace (va_wsS RX3 38 yX3_isHem wsX3_isHem) := goodIn_app (goodIn_of _ (by decide +kernel)) ggX3_isPlace_X3_isHem
set_option maxRecDepth 20000 in
theorem ggX3_isPlace_X3_isIn : GoodIn wsX3_isPlace wsX3_isIn := goodIn_r _ [8] (by decide +kernel) (by decide +kernel)
set_option maxRecDepth 20000 in
theorem gX3_isPlace_X3_isIn : GoodIn wsX3_isPlace (va_wsS RX3 34 yX3_isIn wsX3_isIn) := goodIn_app (goodIn_of _ (by decide +kernel)) ggX3_isPlace_X3_isIn
theorem dX3_isPlace_0 : decode cX3_isPlace 0 = .ok (.iload_n 1, 1) := by decide +kernel
theorem dX3_isPlace_1 : decode cX3_isPlace 1 = .ok (.invokestatic 38, 3) := by decide +kernel
theorem dX3_isPlace_4 : decode cX3_isPlace 4 = .ok (.ifCond .eq 23, 3) := by decide +kernel
theorem dX3_isPlace_7 : decode cX3_isPlace 7 = .ok (.iload_n 2, 1) := by decide +kernel
theorem dX3_isPlace_8 : decode cX3_isPlace 8 = .ok (.iconst 0, 1) := by decide +kernel
theorem dX3_isPlace_9 : decode cX3_isPlace 9 = .ok (.aload_n 0, 1) := by decide +kernel
theorem dX3_isPlace_10 : decode cX3_isPlace 10 = .ok (.getfield 14, 3) := by decide +kernel
theorem dX3_isPlace_13 : decode cX3_isPlace 13 = .ok (.iload_n 1, 1) := by decide +kernel
theorem dX3_isPlace_14 : decode cX3_isPlace 14 = .ok (.iaload, 1) := by decide +kernel
theorem dX3_isPlace_15 : decode cX3_isPlace 15 = .ok (.iconst 1, 1) := by decide +kernel
theorem dX3_isPlace_16 : decode cX3_isPlace 16 = .ok (.isub, 1) := by decide +kernel
theorem dX3_isPlace_17 : decode cX3_isPlace 17 = .ok (.invokestatic 34, 3) := by decide +kernel
theorem dX3_isPlace_20 : decode cX3_isPlace 20 = .ok (.ifCond .eq 7, 3) := by decide +kernel
theorem dX3_isPlace_23 : decode cX3_isPlace 23 = .ok (.iconst 1, 1) := by decide +kernel
theorem dX3_isPlace_24 : decode cX3_isPlace 24 = .ok (.goto 4, 3) := by decide +kernel
theorem dX3_isPlace_27 : decode cX3_isPlace 27 = .ok (.iconst 0, 1) := by decide +kernel
theorem dX3_isPlace_28 : decode cX3_isPlace 28 = .ok (.ireturn, 1) := by decide +kernel
theorem dX3_compare_0 : decode cX3_compare 0 = .ok (.iload_n 1, 1) := by decide +kernel
theorem dX3_compare_1 : decode cX3_compare 1 = .ok (.istore 5, 2) := by decide +kernel
theorem dX3_compare_3 : decode cX3_compare 3 = .ok (.iload 5, 2) := by decide +kernel
theorem dX3_compare_5 : decode cX3_compare 5 = .ok (.ifCond .lt 72, 3) := by decide +kernel
theorem dX3_compare_8 : decode cX3_compare 8 = .ok (.iload_n 3, 1) := by decide +kernel
theorem dX3_compare_9 : decode cX3_compare 9 = .ok (.istore 6, 2) := by decide +kernel
theorem dX3_compare_11 : decode cX3_compare 11 = .ok (.iload 6, 2) := by decide +kernel
theorem dX3_compare_13 : decode cX3_compare 13 = .ok (.ifCond .lt 58, 3) := by decide +kernel
theorem dX3_compare_16 : decode cX3_compare 16 = .ok (.aload 4, 2) := by decide +kernel
theorem dX3_compare_18 : decode cX3_compare 18 = .ok (.iload 5, 2) := by decide +kernel
theorem dX3_compare_20 : decode cX3_compare 20 = .ok (.aaload, 1) := by decide +kernel
theorem dX3_compare_21 : decode cX3_compare 21 = .ok (.iload 6, 2) := by decide +kernel
theorem dX3_compare_23 : decode cX3_compare 23 = .ok (.iload 5, 2) := by decide +kernel
theorem dX3_compare_25 : decode cX3_compare 25 = .ok (.iload_n 1, 1) := by decide +kernel
theorem dX3_compare_26 : decode cX3_compare 26 = .ok (.if_icmp .ge 37, 3) := by decide +kernel
theorem dX3_compare_29 : decode cX3_compare 29 = .ok (.iload 6, 2) := by decide +kernel
theorem dX3_compare_31 : decode cX3_compare 31 = .ok (.iload_n 3, 1) := by decide +kernel
theorem dX3_compare_32 : decode cX3_compare 32 = .ok (.if_icmp .ge 31, 3) := by decide +kernel
theorem dX3_compare_35 : decode cX3_compare 35 = .ok (.aload_n 0, 1) := by decide +kernel
theorem dX3_compare_36 : decode cX3_compare 36 = .ok (.iload 5, 2) := by decide +kernel
theorem dX3_compare_38 : decode cX3_compare 38 = .ok (.iaload, 1) := by decide +kernel
theorem dX3_compare_39 : decode cX3_compare 39 = .ok (.aload_n 2, 1) := by decide +kernel
theorem dX3_compare_40 : decode cX3_compare 40 = .ok (.iload 6, 2) := by decide +kernel
theorem dX3_compare_42 : decode cX3_compare 42 = .ok (.iaload, 1) := by decide +kernel
theorem dX3_compare_43 : decode cX3_compare 43 = .ok (.if_icmp .ne 20, 3) := by decide +kernel
theorem dX3_compare_46 : decode cX3_compare 46 = .ok (.aload 4, 2) := by decide +kernel
theorem dX3_compare_48 : decode cX3_compare 48 = .ok (.iload 5, 2) := by decide +kernel
theorem dX3_compare_50 : decode cX3_compare 50 = .ok (.iconst 1, 1) := by decide +kernel
theorem dX3_compare_51 : decode cX3_compare 51 = .ok (.iadd, 1) := by decide +kernel
theorem dX3_compare_52 : decode cX3_compare 52 = .ok (.aaload, 1) := by decide +kernel
theorem dX3_compare_53 : decode cX3_compare 53 = .ok (.iload 6, 2) := by decide +kernel
theorem dX3_compare_55 : decode cX3_compare 55 = .ok (.iconst 1, 1) := by decide +kernel
theorem dX3_compare_56 : decode cX3_compare 56 = .ok (.iadd, 1) := by decide +kernel
theorem dX3_compare_57 : decode cX3_compare 57 = .ok (.iaload, 1) := by decide +kernel
theorem dX3_compare_58 : decode cX3_compare 58 = .ok (.iconst 1, 1) := by decide +kernel
theorem dX3_compare_59 : decode cX3_compare 59 = .ok (.iadd, 1) := by decide +kernel
theorem dX3_compare_60 : decode cX3_compare 60 = .ok (.goto 4, 3) := by decide +kernel
theorem dX3_compare_63 : decode cX3_compare 63 = .ok (.iconst 0, 1) := by decide +kernel
theorem dX3_compare_64 : decode cX3_compare 64 = .ok (.iastore, 1) := by decide +kernel
theorem dX3_compare_65 : decode cX3_compare 65 = .ok (.iinc 6 (-1), 3) := by decide +kernel
theorem dX3_compare_68 : decode cX3_compare 68 = .ok (.goto (-57), 3) := by decide +kernel
theorem dX3_compare_71 : decode cX3_compare 71 = .ok (.iinc 5 (-1), 3) := by decide +kernel
theorem dX3_compare_74 : decode cX3_compare 74 = .ok (.goto (-71), 3) := by decide +kernel
theorem dX3_compare_77 : decode cX3_compare 77 = .ok (.return_, 1) := by decide +kernel
theorem dX3_by_0 : decode cX3_by 0 = .ok (.iload_n 2, 1) := by decide +kernel
theorem dX3_by_1 : decode cX3_by 1 = .ok (.iload 6, 2) := by decide +kernel
theorem dX3_by_3 : decode cX3_by 3 = .ok (.iadd, 1) := by decide +kernel
theorem dX3_by_4 : decode cX3_by 4 = .ok (.iload_n 1, 1) := by decide +kernel
theorem dX3_by_5 : decode cX3_by 5 = .ok (.if_icmp .ne 7, 3) := by decide +kernel
theorem dX3_by_8 : decode cX3_by 8 = .ok (.iconst 1, 1) := by decide +kernel
theorem dX3_by_9 : decode cX3_by 9 = .ok (.goto 4, 3) := by decide +kernel
theorem dX3_by_12 : decode cX3_by 12 = .ok (.iconst 0, 1) := by decide +kernel
theorem dX3_by_13 : decode cX3_by 13 = .ok (.istore 7, 2) := by decide +kernel
theorem dX3_by_15 : decode cX3_by 15 = .ok (.iload 7, 2) := by decide +kernel
theorem dX3_by_17 : decode cX3_by 17 = .ok (.ifCond .ne 13, 3) := by decide +kernel
theorem dX3_by_20 : decode cX3_by 20 = .ok (.iload 5, 2) := by decide +kernel
theorem dX3_by_22 : decode cX3_by 22 = .ok (.iload 6, 2) := by decide +kernel
theorem dX3_by_24 : decode cX3_by 24 = .ok (.iadd, 1) := by decide +kernel
theorem dX3_by_25 : decode cX3_by 25 = .ok (.iload 4, 2) := by decide +kernel
theorem dX3_by_27 : decode cX3_by 27 = .ok (.if_icmp .ne 28, 3) := by decide +kernel
theorem dX3_by_30 : decode cX3_by 30 = .ok (.iload 7, 2) := by decide +kernel
theorem dX3_by_32 : decode cX3_by 32 = .ok (.ifCond .eq 21, 3) := by decide +kernel
theorem dX3_by_35 : decode cX3_by 35 = .ok (.iload 5, 2) := by decide +kernel
theorem dX3_by_37 : decode cX3_by 37 = .ok (.iload 6, 2) := by decide +kernel
theorem dX3_by_39 : decode cX3_by 39 = .ok (.iadd, 1) := by decide +kernel
theorem dX3_by_40 : decode cX3_by 40 = .ok (.iload 4, 2) := by decide +kernel
theorem dX3_by_42 : decode cX3_by 42 = .ok (.if_icmp .ne 7, 3) := by decide +kernel
theorem dX3_by_45 : decode cX3_by 45 = .ok (.iconst 0, 1) := by decide +kernel
theorem dX3_by_46 : decode cX3_by 46 = .ok (.goto 8, 3) := by decide +kernel
theorem dX3_by_49 : decode cX3_by 49 = .ok (.iconst (-1), 1) := by decide +kernel
theorem dX3_by_50 : decode cX3_by 50 = .ok (.goto 4, 3) := by decide +kernel
theorem dX3_by_53 : decode cX3_by 53 = .ok (.iconst 1, 1) := by decide +kernel
theorem dX3_by_54 : decode cX3_by 54 = .ok (.ireturn, 1) := by decide +kernel
theorem dX3_by_55 : decode cX3_by 55 = .ok (.aload_n 0, 1) := by decide +kernel
theorem dX3_by_56 : decode cX3_by 56 = .ok (.iload_n 2, 1) := by decide +kernel
theorem dX3_by_57 : decode cX3_by 57 = .ok (.iload 6, 2) := by decide +kernel
theorem dX3_by_59 : decode cX3_by 59 = .ok (.iadd, 1) := by decide +kernel
theorem dX3_by_60 : decode cX3_by 60 = .ok (.iaload, 1) := by decide +kernel
theorem dX3_by_61 : decode cX3_by 61 = .ok (.aload_n 3, 1) := by decide +kernel
theorem dX3_by_62 : decode cX3_by 62 = .ok (.iload 5, 2) := by decide +kernel
theorem dX3_by_64 : decode cX3_by 64 = .ok (.iload 6, 2) := by decide +kernel
theorem dX3_by_66 : decode cX3_by 66 = .ok (.iadd, 1) := by decide +kernel
theorem dX3_by_67 : decode cX3_by 67 = .ok (.iaload, 1) := by decide +kernel
theorem dX3_by_68 : decode cX3_by 68 = .ok (.if_icmp .ge 7, 3) := by decide +kernel
theorem dX3_by_71 : decode cX3_by 71 = .ok (.iconst (-1), 1) := by decide +kernel
theorem dX3_by_72 : decode cX3_by 72 = .ok (.goto 4, 3) := by decide +kernel
theorem dX3_by_75 : decode cX3_by 75 = .ok (.iconst 1, 1) := by decide +kernel
theorem dX3_by_76 : decode cX3_by 76 = .ok (.ireturn, 1) := by decide +kernel
set_option maxRecDepth 20000 in
theorem ggX3_isLess_X3_by : GoodIn wsX3_isLess wsX3_by := goodIn_r _ [7] (by decide +kernel) (by decide +kernel)
set_option maxRecDepth 20000 in
theorem gX3_isLess_X3_by : GoodIn wsX3_isLess (va_wsS RX3 42 yX3_by wsX3_by) := goodIn_app (goodIn_of _ (by decide +kernel)) ggX3_isLess_X3_by
theorem dX3_isLess_0 : decode cX3_isLess 0 = .ok (.aload_n 0, 1) := by decide +kernel
theorem dX3_isLess_1 : decode cX3_isLess 1 = .ok (.getfield 11, 3) := by decide +kernel
theorem dX3_isLess_4 : decode cX3_isLess 4 = .ok (.iload_n 1, 1) := by decide +kernel
theorem dX3_isLess_5 : decode cX3_isLess 5 = .ok (.aaload, 1) := by decide +kernel
theorem dX3_isLess_6 : decode cX3_isLess 6 = .ok (.aload_n 0, 1) := by decide +kernel
theorem dX3_isLess_7 : decode cX3_isLess 7 = .ok (.getfield 14, 3) := by decide +kernel
theorem dX3_isLess_10 : decode cX3_isLess 10 = .ok (.iload_n 1, 1) := by decide +kernel
theorem dX3_isLess_11 : decode cX3_isLess 11 = .ok (.iaload, 1) := by decide +kernel
theorem dX3_isLess_12 : decode cX3_isLess 12 = .ok (.iload_n 2, 1) := by decide +kernel
theorem dX3_isLess_13 : decode cX3_isLess 13 = .ok (.aload_n 0, 1) := by decide +kernel
theorem dX3_isLess_14 : decode cX3_isLess 14 = .ok (.getfield 11, 3) := by decide +kernel
theorem dX3_isLess_17 : decode cX3_isLess 17 = .ok (.iload_n 1, 1) := by decide +kernel
theorem dX3_isLess_18 : decode cX3_isLess 18 = .ok (.aaload, 1) := by decide +kernel
theorem dX3_isLess_19 : decode cX3_isLess 19 = .ok (.aload_n 0, 1) := by decide +kernel
theorem dX3_isLess_20 : decode cX3_isLess 20 = .ok (.getfield 14, 3) := by decide +kernel
theorem dX3_isLess_23 : decode cX3_isLess 23 = .ok (.iload_n 1, 1) := by decide +kernel
theorem dX3_isLess_24 : decode cX3_isLess 24 = .ok (.iaload, 1) := by decide +kernel
theorem dX3_isLess_25 : decode cX3_isLess 25 = .ok (.iload_n 3, 1) := by decide +kernel
theorem dX3_isLess_26 : decode cX3_isLess 26 = .ok (.aload_n 0, 1) := by decide +kernel
theorem dX3_isLess_27 : decode cX3_isLess 27 = .ok (.getfield 21, 3) := by decide +kernel
theorem dX3_isLess_30 : decode cX3_isLess 30 = .ok (.iload_n 2, 1) := by decide +kernel
theorem dX3_isLess_31 : decode cX3_isLess 31 = .ok (.aaload, 1) := by decide +kernel
theorem dX3_isLess_32 : decode cX3_isLess 32 = .ok (.iload_n 3, 1) := by decide +kernel
theorem dX3_isLess_33 : decode cX3_isLess 33 = .ok (.iaload, 1) := by decide +kernel
theorem dX3_isLess_34 : decode cX3_isLess 34 = .ok (.invokestatic 42, 3) := by decide +kernel
theorem dX3_isLess_37 : decode cX3_isLess 37 = .ok (.ifCond .ge 7, 3) := by decide +kernel
theorem dX3_isLess_40 : decode cX3_isLess 40 = .ok (.iconst 1, 1) := by decide +kernel
theorem dX3_isLess_41 : decode cX3_isLess 41 = .ok (.goto 4, 3) := by decide +kernel
theorem dX3_isLess_44 : decode cX3_isLess 44 = .ok (.iconst 0, 1) := by decide +kernel
theorem dX3_isLess_45 : decode cX3_isLess 45 = .ok (.ireturn, 1) := by decide +kernel
set_option maxRecDepth 20000 in
theorem ggX3_rankOf_X3_isLess : GoodIn wsX3_rankOf wsX3_isLess := goodIn_r _ [6, 7, 1, 8, 9, 10, 5, 11, 12, 13, 14, 15, 16, 17, 18, 19] (by decide +kernel) (by decide +kernel)
set_option maxRecDepth 20000 in
theorem gX3_rankOf_X3_isLess : GoodIn wsX3_rankOf (wsV RX3 46 RX3 yX3_isLess wsX3_isLess) := goodIn_app (goodIn_of _ (by decide +kernel)) ggX3_rankOf_X3_isLess
theorem dX3_rankOf_0 : decode cX3_rankOf 0 = .ok (.iconst 0, 1) := by decide +kernel
theorem dX3_rankOf_1 : decode cX3_rankOf 1 = .ok (.istore_n 3, 1) := by decide +kernel
theorem dX3_rankOf_2 : decode cX3_rankOf 2 = .ok (.iconst 0, 1) := by decide +kernel
theorem dX3_rankOf_3 : decode cX3_rankOf 3 = .ok (.istore 4, 2) := by decide +kernel
theorem dX3_rankOf_5 : decode cX3_rankOf 5 = .ok (.iload 4, 2) := by decide +kernel
theorem dX3_rankOf_7 : decode cX3_rankOf 7 = .ok (.aload_n 0, 1) := by decide +kernel
theorem dX3_rankOf_8 : decode cX3_rankOf 8 = .ok (.getfield 14, 3) := by decide +kernel
theorem dX3_rankOf_11 : decode cX3_rankOf 11 = .ok (.iload_n 1, 1) := by decide +kernel
theorem dX3_rankOf_12 : decode cX3_rankOf 12 = .ok (.iaload, 1) := by decide +kernel
theorem dX3_rankOf_13 : decode cX3_rankOf 13 = .ok (.if_icmp .ge 28, 3) := by decide +kernel
theorem dX3_rankOf_16 : decode cX3_rankOf 16 = .ok (.iload_n 3, 1) := by decide +kernel
theorem dX3_rankOf_17 : decode cX3_rankOf 17 = .ok (.aload_n 0, 1) := by decide +kernel
theorem dX3_rankOf_18 : decode cX3_rankOf 18 = .ok (.iload_n 1, 1) := by decide +kernel
theorem dX3_rankOf_19 : decode cX3_rankOf 19 = .ok (.iload 4, 2) := by decide +kernel
theorem dX3_rankOf_21 : decode cX3_rankOf 21 = .ok (.iload_n 2, 1) := by decide +kernel
theorem dX3_rankOf_22 : decode cX3_rankOf 22 = .ok (.invokevirtual 46, 3) := by decide +kernel
theorem dX3_rankOf_25 : decode cX3_rankOf 25 = .ok (.ifCond .eq 7, 3) := by decide +kernel
theorem dX3_rankOf_28 : decode cX3_rankOf 28 = .ok (.iconst 1, 1) := by decide +kernel
theorem dX3_rankOf_29 : decode cX3_rankOf 29 = .ok (.goto 4, 3) := by decide +kernel
theorem dX3_rankOf_32 : decode cX3_rankOf 32 = .ok (.iconst 0, 1) := by decide +kernel
theorem dX3_rankOf_33 : decode cX3_rankOf 33 = .ok (.iadd, 1) := by decide +kernel
theorem dX3_rankOf_34 : decode cX3_rankOf 34 = .ok (.istore_n 3, 1) := by decide +kernel
theorem dX3_rankOf_35 : decode cX3_rankOf 35 = .ok (.iinc 4 1, 3) := by decide +kernel
theorem dX3_rankOf_38 : decode cX3_rankOf 38 = .ok (.goto (-33), 3) := by decide +kernel
theorem dX3_rankOf_41 : decode cX3_rankOf 41 = .ok (.iload_n 3, 1) := by decide +kernel
theorem dX3_rankOf_42 : decode cX3_rankOf 42 = .ok (.ireturn, 1) := by decide +kernel
set_option maxRecDepth 20000 in
theorem ggX3_look_X3_compare : GoodIn wsX3_look wsX3_compare := goodIn_r _ [7] (by decide +kernel) (by decide +kernel)
set_option maxRecDepth 20000 in
theorem gX3_look_X3_compare : GoodIn wsX3_look (va_wsS RX3 49 yX3_compare wsX3_compare) := goodIn_app (goodIn_of _ (by decide +kernel)) ggX3_look_X3_compare
theorem dX3_look_0 : decode cX3_look 0 = .ok (.aload_n 0, 1) := by decide +kernel
theorem dX3_look_1 : decode cX3_look 1 = .ok (.getfield 11, 3) := by decide +kernel
theorem dX3_look_4 : decode cX3_look 4 = .ok (.iload_n 1, 1) := by decide +kernel
theorem dX3_look_5 : decode cX3_look 5 = .ok (.aaload, 1) := by decide +kernel
theorem dX3_look_6 : decode cX3_look 6 = .ok (.aload_n 0, 1) := by decide +kernel
theorem dX3_look_7 : decode cX3_look 7 = .ok (.getfield 14, 3) := by decide +kernel
theorem dX3_look_10 : decode cX3_look 10 = .ok (.iload_n 1, 1) := by decide +kernel
theorem dX3_look_11 : decode cX3_look 11 = .ok (.iaload, 1) := by decide +kernel
theorem dX3_look_12 : decode cX3_look 12 = .ok (.aload_n 0, 1) := by decide +kernel
theorem dX3_look_13 : decode cX3_look 13 = .ok (.getfield 11, 3) := by decide +kernel
theorem dX3_look_16 : decode cX3_look 16 = .ok (.iload_n 1, 1) := by decide +kernel
theorem dX3_look_17 : decode cX3_look 17 = .ok (.aaload, 1) := by decide +kernel
theorem dX3_look_18 : decode cX3_look 18 = .ok (.aload_n 0, 1) := by decide +kernel
theorem dX3_look_19 : decode cX3_look 19 = .ok (.getfield 14, 3) := by decide +kernel
theorem dX3_look_22 : decode cX3_look 22 = .ok (.iload_n 1, 1) := by decide +kernel
theorem dX3_look_23 : decode cX3_look 23 = .ok (.iaload, 1) := by decide +kernel
theorem dX3_look_24 : decode cX3_look 24 = .ok (.aload_n 0, 1) := by decide +kernel
theorem dX3_look_25 : decode cX3_look 25 = .ok (.getfield 21, 3) := by decide +kernel
theorem dX3_look_28 : decode cX3_look 28 = .ok (.invokestatic 49, 3) := by decide +kernel
theorem dX3_look_31 : decode cX3_look 31 = .ok (.return_, 1) := by decide +kernel
set_option maxRecDepth 20000 in
theorem ggX3_order_X3_look : GoodIn wsX3_order wsX3_look := goodIn_r _ [7, 8, 1, 9, 10, 11, 6, 12, 24, 25, 26, 27, 28, 29, 30, 31] (by decide +kernel) (by decide +kernel)
set_option maxRecDepth 20000 in
theorem gX3_order_X3_look : GoodIn wsX3_order (wsV RX3 53 RX3 yX3_look wsX3_look) := goodIn_app (goodIn_of _ (by decide +kernel)) ggX3_order_X3_look
set_option maxRecDepth 20000 in
theorem ggX3_order_X3_rankOf : GoodIn wsX3_order wsX3_rankOf := goodIn_r _ [16, 1, 17, 18, 19, 6, 20, 8, 9, 21, 22, 23, 24, 25, 26, 27, 28, 29, 30, 31] (by decide +kernel) (by decide +kernel)
set_option maxRecDepth 20000 in
theorem gX3_order_X3_rankOf : GoodIn wsX3_order (wsV RX3 57 RX3 yX3_rankOf wsX3_rankOf) := goodIn_app (goodIn_of _ (by decide +kernel)) ggX3_order_X3_rankOf
theorem dX3_order_0 : decode cX3_order 0 = .ok (.aload_n 0, 1) := by decide +kernel
theorem dX3_order_1 : decode cX3_order 1 = .ok (.iload_n 1, 1) := by decide +kernel
theorem dX3_order_2 : decode cX3_order 2 = .ok (.invokevirtual 53, 3) := by decide +kernel
theorem dX3_order_5 : decode cX3_order 5 = .ok (.iconst 0, 1) := by decide +kernel
theorem dX3_order_6 : decode cX3_order 6 = .ok (.istore_n 2, 1) := by decide +kernel
theorem dX3_order_7 : decode cX3_order 7 = .ok (.iload_n 2, 1) := by decide +kernel
theorem dX3_order_8 : decode cX3_order 8 = .ok (.aload_n 0, 1) := by decide +kernel
theorem dX3_order_9 : decode cX3_order 9 = .ok (.getfield 14, 3) := by decide +kernel
theorem dX3_order_12 : decode cX3_order 12 = .ok (.iload_n 1, 1) := by decide +kernel
theorem dX3_order_13 : decode cX3_order 13 = .ok (.iaload, 1) := by decide +kernel
theorem dX3_order_14 : decode cX3_order 14 = .ok (.if_icmp .ge 21, 3) := by decide +kernel
theorem dX3_order_17 : decode cX3_order 17 = .ok (.aload_n 0, 1) := by decide +kernel
theorem dX3_order_18 : decode cX3_order 18 = .ok (.getfield 24, 3) := by decide +kernel
theorem dX3_order_21 : decode cX3_order 21 = .ok (.aload_n 0, 1) := by decide +kernel
theorem dX3_order_22 : decode cX3_order 22 = .ok (.iload_n 1, 1) := by decide +kernel
theorem dX3_order_23 : decode cX3_order 23 = .ok (.iload_n 2, 1) := by decide +kernel
theorem dX3_order_24 : decode cX3_order 24 = .ok (.invokevirtual 57, 3) := by decide +kernel
theorem dX3_order_27 : decode cX3_order 27 = .ok (.iload_n 2, 1) := by decide +kernel
theorem dX3_order_28 : decode cX3_order 28 = .ok (.iastore, 1) := by decide +kernel
theorem dX3_order_29 : decode cX3_order 29 = .ok (.iinc 2 1, 3) := by decide +kernel
theorem dX3_order_32 : decode cX3_order 32 = .ok (.goto (-25), 3) := by decide +kernel
theorem dX3_order_35 : decode cX3_order 35 = .ok (.return_, 1) := by decide +kernel
set_option maxRecDepth 20000 in
theorem ggX3_lookAtBoth_X3_compare : GoodIn wsX3_lookAtBoth wsX3_compare := goodIn_r _ [7] (by decide +kernel) (by decide +kernel)
set_option maxRecDepth 20000 in
theorem gX3_lookAtBoth_X3_compare : GoodIn wsX3_lookAtBoth (va_wsS RX3 49 yX3_compare wsX3_compare) := goodIn_app (goodIn_of _ (by decide +kernel)) ggX3_lookAtBoth_X3_compare
theorem dX3_lookAtBoth_0 : decode cX3_lookAtBoth 0 = .ok (.aload_n 0, 1) := by decide +kernel
theorem dX3_lookAtBoth_1 : decode cX3_lookAtBoth 1 = .ok (.getfield 11, 3) := by decide +kernel
theorem dX3_lookAtBoth_4 : decode cX3_lookAtBoth 4 = .ok (.iconst 0, 1) := by decide +kernel
theorem dX3_lookAtBoth_5 : decode cX3_lookAtBoth 5 = .ok (.aaload, 1) := by decide +kernel
theorem dX3_lookAtBoth_6 : decode cX3_lookAtBoth 6 = .ok (.aload_n 0, 1) := by decide +kernel
theorem dX3_lookAtBoth_7 : decode cX3_lookAtBoth 7 = .ok (.getfield 14, 3) := by decide +kernel
theorem dX3_lookAtBoth_10 : decode cX3_lookAtBoth 10 = .ok (.iconst 0, 1) := by decide +kernel
theorem dX3_lookAtBoth_11 : decode cX3_lookAtBoth 11 = .ok (.iaload, 1) := by decide +kernel
theorem dX3_lookAtBoth_12 : decode cX3_lookAtBoth 12 = .ok (.aload_n 0, 1) := by decide +kernel
theorem dX3_lookAtBoth_13 : decode cX3_lookAtBoth 13 = .ok (.getfield 11, 3) := by decide +kernel
theorem dX3_lookAtBoth_16 : decode cX3_lookAtBoth 16 = .ok (.iconst 1, 1) := by decide +kernel
theorem dX3_lookAtBoth_17 : decode cX3_lookAtBoth 17 = .ok (.aaload, 1) := by decide +kernel
theorem dX3_lookAtBoth_18 : decode cX3_lookAtBoth 18 = .ok (.aload_n 0, 1) := by decide +kernel
theorem dX3_lookAtBoth_19 : decode cX3_lookAtBoth 19 = .ok (.getfield 14, 3) := by decide +kernel
theorem dX3_lookAtBoth_22 : decode cX3_lookAtBoth 22 = .ok (.iconst 1, 1) := by decide +kernel
theorem dX3_lookAtBoth_23 : decode cX3_lookAtBoth 23 = .ok (.iaload, 1) := by decide +kernel
theorem dX3_lookAtBoth_24 : decode cX3_lookAtBoth 24 = .ok (.aload_n 0, 1) := by decide +kernel
theorem dX3_lookAtBoth_25 : decode cX3_lookAtBoth 25 = .ok (.getfield 27, 3) := by decide +kernel
theorem dX3_lookAtBoth_28 : decode cX3_lookAtBoth 28 = .ok (.invokestatic 49, 3) := by decide +kernel
theorem dX3_lookAtBoth_31 : decode cX3_lookAtBoth 31 = .ok (.return_, 1) := by decide +kernel
theorem dX3_mostBefore_0 : decode cX3_mostBefore 0 = .ok (.iconst 0, 1) := by decide +kernel
theorem dX3_mostBefore_1 : decode cX3_mostBefore 1 = .ok (.istore_n 2, 1) := by decide +kernel
theorem dX3_mostBefore_2 : decode cX3_mostBefore 2 = .ok (.iconst 0, 1) := by decide +kernel
theorem dX3_mostBefore_3 : decode cX3_mostBefore 3 = .ok (.istore_n 3, 1) := by decide +kernel
theorem dX3_mostBefore_4 : decode cX3_mostBefore 4 = .ok (.iload_n 3, 1) := by decide +kernel
theorem dX3_mostBefore_5 : decode cX3_mostBefore 5 = .ok (.iload_n 1, 1) := by decide +kernel
theorem dX3_mostBefore_6 : decode cX3_mostBefore 6 = .ok (.if_icmp .ge 22, 3) := by decide +kernel
theorem dX3_mostBefore_9 : decode cX3_mostBefore 9 = .ok (.iload_n 2, 1) := by decide +kernel
theorem dX3_mostBefore_10 : decode cX3_mostBefore 10 = .ok (.aload_n 0, 1) := by decide +kernel
theorem dX3_mostBefore_11 : decode cX3_mostBefore 11 = .ok (.getfield 21, 3) := by decide +kernel
theorem dX3_mostBefore_14 : decode cX3_mostBefore 14 = .ok (.iload_n 1, 1) := by decide +kernel
theorem dX3_mostBefore_15 : decode cX3_mostBefore 15 = .ok (.aaload, 1) := by decide +kernel
theorem dX3_mostBefore_16 : decode cX3_mostBefore 16 = .ok (.iload_n 3, 1) := by decide +kernel
theorem dX3_mostBefore_17 : decode cX3_mostBefore 17 = .ok (.iaload, 1) := by decide +kernel
theorem dX3_mostBefore_18 : decode cX3_mostBefore 18 = .ok (.invokestatic 61, 3) := by decide +kernel
theorem dX3_mostBefore_21 : decode cX3_mostBefore 21 = .ok (.istore_n 2, 1) := by decide +kernel
theorem dX3_mostBefore_22 : decode cX3_mostBefore 22 = .ok (.iinc 3 1, 3) := by decide +kernel
theorem dX3_mostBefore_25 : decode cX3_mostBefore 25 = .ok (.goto (-21), 3) := by decide +kernel
theorem dX3_mostBefore_28 : decode cX3_mostBefore 28 = .ok (.iload_n 2, 1) := by decide +kernel
theorem dX3_mostBefore_29 : decode cX3_mostBefore 29 = .ok (.ireturn, 1) := by decide +kernel
set_option maxRecDepth 20000 in
theorem ggX3_differentRows_X3_look : GoodIn wsX3_differentRows wsX3_look := goodIn_r _ [6, 7, 1, 8, 9, 10, 5, 11, 20, 21, 22, 23, 24, 25, 26, 27] (by decide +kernel) (by decide +kernel)
set_option maxRecDepth 20000 in
theorem gX3_differentRows_X3_look : GoodIn wsX3_differentRows (wsV RX3 53 RX3 yX3_look wsX3_look) := goodIn_app (goodIn_of _ (by decide +kernel)) ggX3_differentRows_X3_look
set_option maxRecDepth 20000 in
theorem ggX3_differentRows_X3_mostBefore : GoodIn wsX3_differentRows wsX3_mostBefore := goodIn_r _ [15, 8, 16, 17, 18, 19, 20, 21, 22, 23, 24, 25, 26, 27] (by decide +kernel) (by decide +kernel)
set_option maxRecDepth 20000 in
theorem gX3_differentRows_X3_mostBefore : GoodIn wsX3_differentRows (wsV RX3 66 RX3 yX3_mostBefore wsX3_mostBefore) := goodIn_app (goodIn_of _ (by decide +kernel)) ggX3_differentRows_X3_mostBefore
theorem dX3_differentRows_0 : decode cX3_differentRows 0 = .ok (.aload_n 0, 1) := by decide +kernel
theorem dX3_differentRows_1 : decode cX3_differentRows 1 = .ok (.iload_n 1, 1) := by decide +kernel
theorem dX3_differentRows_2 : decode cX3_differentRows 2 = .ok (.invokevirtual 53, 3) := by decide +kernel
theorem dX3_differentRows_5 : decode cX3_differentRows 5 = .ok (.iconst 0, 1) := by decide +kernel
theorem dX3_differentRows_6 : decode cX3_differentRows 6 = .ok (.istore_n 2, 1) := by decide +kernel
theorem dX3_differentRows_7 : decode cX3_differentRows 7 = .ok (.iconst 0, 1) := by decide +kernel
theorem dX3_differentRows_8 : decode cX3_differentRows 8 = .ok (.istore_n 3, 1) := by decide +kernel
theorem dX3_differentRows_9 : decode cX3_differentRows 9 = .ok (.iload_n 3, 1) := by decide +kernel
theorem dX3_differentRows_10 : decode cX3_differentRows 10 = .ok (.aload_n 0, 1) := by decide +kernel
theorem dX3_differentRows_11 : decode cX3_differentRows 11 = .ok (.getfield 14, 3) := by decide +kernel
theorem dX3_differentRows_14 : decode cX3_differentRows 14 = .ok (.iload_n 1, 1) := by decide +kernel
theorem dX3_differentRows_15 : decode cX3_differentRows 15 = .ok (.iaload, 1) := by decide +kernel
theorem dX3_differentRows_16 : decode cX3_differentRows 16 = .ok (.if_icmp .ge 26, 3) := by decide +kernel
theorem dX3_differentRows_19 : decode cX3_differentRows 19 = .ok (.iload_n 2, 1) := by decide +kernel
theorem dX3_differentRows_20 : decode cX3_differentRows 20 = .ok (.aload_n 0, 1) := by decide +kernel
theorem dX3_differentRows_21 : decode cX3_differentRows 21 = .ok (.getfield 14, 3) := by decide +kernel
theorem dX3_differentRows_24 : decode cX3_differentRows 24 = .ok (.iload_n 1, 1) := by decide +kernel
theorem dX3_differentRows_25 : decode cX3_differentRows 25 = .ok (.iaload, 1) := by decide +kernel
theorem dX3_differentRows_26 : decode cX3_differentRows 26 = .ok (.iload_n 3, 1) := by decide +kernel
theorem dX3_differentRows_27 : decode cX3_differentRows 27 = .ok (.isub, 1) := by decide +kernel
theorem dX3_differentRows_28 : decode cX3_differentRows 28 = .ok (.aload_n 0, 1) := by decide +kernel
theorem dX3_differentRows_29 : decode cX3_differentRows 29 = .ok (.iload_n 3, 1) := by decide +kernel
theorem dX3_differentRows_30 : decode cX3_differentRows 30 = .ok (.invokevirtual 66, 3) := by decide +kernel
theorem dX3_differentRows_33 : decode cX3_differentRows 33 = .ok (.isub, 1) := by decide +kernel
theorem dX3_differentRows_34 : decode cX3_differentRows 34 = .ok (.iadd, 1) := by decide +kernel
theorem dX3_differentRows_35 : decode cX3_differentRows 35 = .ok (.istore_n 2, 1) := by decide +kernel
theorem dX3_differentRows_36 : decode cX3_differentRows 36 = .ok (.iinc 3 1, 3) := by decide +kernel
theorem dX3_differentRows_39 : decode cX3_differentRows 39 = .ok (.goto (-30), 3) := by decide +kernel
theorem dX3_differentRows_42 : decode cX3_differentRows 42 = .ok (.iload_n 2, 1) := by decide +kernel
theorem dX3_differentRows_43 : decode cX3_differentRows 43 = .ok (.ireturn, 1) := by decide +kernel
theorem dX3_mostBeside_0 : decode cX3_mostBeside 0 = .ok (.iconst 0, 1) := by decide +kernel
theorem dX3_mostBeside_1 : decode cX3_mostBeside 1 = .ok (.istore_n 3, 1) := by decide +kernel
theorem dX3_mostBeside_2 : decode cX3_mostBeside 2 = .ok (.iconst 0, 1) := by decide +kernel
theorem dX3_mostBeside_3 : decode cX3_mostBeside 3 = .ok (.istore 4, 2) := by decide +kernel
theorem dX3_mostBeside_5 : decode cX3_mostBeside 5 = .ok (.iload 4, 2) := by decide +kernel
theorem dX3_mostBeside_7 : decode cX3_mostBeside 7 = .ok (.aload_n 0, 1) := by decide +kernel
theorem dX3_mostBeside_8 : decode cX3_mostBeside 8 = .ok (.getfield 14, 3) := by decide +kernel
theorem dX3_mostBeside_11 : decode cX3_mostBeside 11 = .ok (.iload_n 1, 1) := by decide +kernel
theorem dX3_mostBeside_12 : decode cX3_mostBeside 12 = .ok (.iaload, 1) := by decide +kernel
theorem dX3_mostBeside_13 : decode cX3_mostBeside 13 = .ok (.if_icmp .ge 29, 3) := by decide +kernel
theorem dX3_mostBeside_16 : decode cX3_mostBeside 16 = .ok (.iload 4, 2) := by decide +kernel
theorem dX3_mostBeside_18 : decode cX3_mostBeside 18 = .ok (.iload_n 2, 1) := by decide +kernel
theorem dX3_mostBeside_19 : decode cX3_mostBeside 19 = .ok (.if_icmp .eq 17, 3) := by decide +kernel
theorem dX3_mostBeside_22 : decode cX3_mostBeside 22 = .ok (.iload_n 3, 1) := by decide +kernel
theorem dX3_mostBeside_23 : decode cX3_mostBeside 23 = .ok (.aload_n 0, 1) := by decide +kernel
theorem dX3_mostBeside_24 : decode cX3_mostBeside 24 = .ok (.getfield 21, 3) := by decide +kernel
theorem dX3_mostBeside_27 : decode cX3_mostBeside 27 = .ok (.iload_n 2, 1) := by decide +kernel
theorem dX3_mostBeside_28 : decode cX3_mostBeside 28 = .ok (.aaload, 1) := by decide +kernel
theorem dX3_mostBeside_29 : decode cX3_mostBeside 29 = .ok (.iload 4, 2) := by decide +kernel
theorem dX3_mostBeside_31 : decode cX3_mostBeside 31 = .ok (.iaload, 1) := by decide +kernel
theorem dX3_mostBeside_32 : decode cX3_mostBeside 32 = .ok (.invokestatic 61, 3) := by decide +kernel
theorem dX3_mostBeside_35 : decode cX3_mostBeside 35 = .ok (.istore_n 3, 1) := by decide +kernel
theorem dX3_mostBeside_36 : decode cX3_mostBeside 36 = .ok (.iinc 4 1, 3) := by decide +kernel
theorem dX3_mostBeside_39 : decode cX3_mostBeside 39 = .ok (.goto (-34), 3) := by decide +kernel
theorem dX3_mostBeside_42 : decode cX3_mostBeside 42 = .ok (.iload_n 3, 1) := by decide +kernel
theorem dX3_mostBeside_43 : decode cX3_mostBeside 43 = .ok (.ireturn, 1) := by decide +kernel
theorem dX3_firstPlace_0 : decode cX3_firstPlace 0 = .ok (.iconst 0, 1) := by decide +kernel
theorem dX3_firstPlace_1 : decode cX3_firstPlace 1 = .ok (.istore_n 3, 1) := by decide +kernel
theorem dX3_firstPlace_2 : decode cX3_firstPlace 2 = .ok (.aload_n 0, 1) := by decide +kernel
theorem dX3_firstPlace_3 : decode cX3_firstPlace 3 = .ok (.getfield 21, 3) := by decide +kernel
theorem dX3_firstPlace_6 : decode cX3_firstPlace 6 = .ok (.iload_n 3, 1) := by decide +kernel
theorem dX3_firstPlace_7 : decode cX3_firstPlace 7 = .ok (.aaload, 1) := by decide +kernel
theorem dX3_firstPlace_8 : decode cX3_firstPlace 8 = .ok (.iload_n 1, 1) := by decide +kernel
theorem dX3_firstPlace_9 : decode cX3_firstPlace 9 = .ok (.iaload, 1) := by decide +kernel
theorem dX3_firstPlace_10 : decode cX3_firstPlace 10 = .ok (.iload_n 2, 1) := by decide +kernel
theorem dX3_firstPlace_11 : decode cX3_firstPlace 11 = .ok (.if_icmp .ge 9, 3) := by decide +kernel
theorem dX3_firstPlace_14 : decode cX3_firstPlace 14 = .ok (.iinc 3 1, 3) := by decide +kernel
theorem dX3_firstPlace_17 : decode cX3_firstPlace 17 = .ok (.goto (-15), 3) := by decide +kernel
theorem dX3_firstPlace_20 : decode cX3_firstPlace 20 = .ok (.iload_n 3, 1) := by decide +kernel
theorem dX3_firstPlace_21 : decode cX3_firstPlace 21 = .ok (.ireturn, 1) := by decide +kernel
theorem dX3_placesOf_0 : decode cX3_placesOf 0 = .ok (.iconst 0, 1) := by decide +kernel
theorem dX3_placesOf_1 : decode cX3_placesOf 1 = .ok (.istore 4, 2) := by decide +kernel
theorem dX3_placesOf_3 : decode cX3_placesOf 3 = .ok (.iconst 0, 1) := by decide +kernel
theorem dX3_placesOf_4 : decode cX3_placesOf 4 = .ok (.istore 5, 2) := by decide +kernel
theorem dX3_placesOf_6 : decode cX3_placesOf 6 = .ok (.iload 5, 2) := by decide +kernel
theorem dX3_placesOf_8 : decode cX3_placesOf 8 = .ok (.aload_n 0, 1) := by decide +kernel
theorem dX3_placesOf_9 : decode cX3_placesOf 9 = .ok (.getfield 14, 3) := by decide +kernel
theorem dX3_placesOf_12 : decode cX3_placesOf 12 = .ok (.iload_n 1, 1) := by decide +kernel
theorem dX3_placesOf_13 : decode cX3_placesOf 13 = .ok (.iaload, 1) := by decide +kernel
theorem dX3_placesOf_14 : decode cX3_placesOf 14 = .ok (.if_icmp .ge 32, 3) := by decide +kernel
theorem dX3_placesOf_17 : decode cX3_placesOf 17 = .ok (.iload 4, 2) := by decide +kernel
theorem dX3_placesOf_19 : decode cX3_placesOf 19 = .ok (.aload_n 0, 1) := by decide +kernel
theorem dX3_placesOf_20 : decode cX3_placesOf 20 = .ok (.getfield 21, 3) := by decide +kernel
theorem dX3_placesOf_23 : decode cX3_placesOf 23 = .ok (.iload 5, 2) := by decide +kernel
theorem dX3_placesOf_25 : decode cX3_placesOf 25 = .ok (.aaload, 1) := by decide +kernel
theorem dX3_placesOf_26 : decode cX3_placesOf 26 = .ok (.iload_n 2, 1) := by decide +kernel
theorem dX3_placesOf_27 : decode cX3_placesOf 27 = .ok (.iaload, 1) := by decide +kernel
theorem dX3_placesOf_28 : decode cX3_placesOf 28 = .ok (.iload_n 3, 1) := by decide +kernel
theorem dX3_placesOf_29 : decode cX3_placesOf 29 = .ok (.if_icmp .lt 7, 3) := by decide +kernel
theorem dX3_placesOf_32 : decode cX3_placesOf 32 = .ok (.iconst 1, 1) := by decide +kernel
theorem dX3_placesOf_33 : decode cX3_placesOf 33 = .ok (.goto 4, 3) := by decide +kernel
theorem dX3_placesOf_36 : decode cX3_placesOf 36 = .ok (.iconst 0, 1) := by decide +kernel
theorem dX3_placesOf_37 : decode cX3_placesOf 37 = .ok (.iadd, 1) := by decide +kernel
theorem dX3_placesOf_38 : decode cX3_placesOf 38 = .ok (.istore 4, 2) := by decide +kernel
theorem dX3_placesOf_40 : decode cX3_placesOf 40 = .ok (.iinc 5 1, 3) := by decide +kernel
theorem dX3_placesOf_43 : decode cX3_placesOf 43 = .ok (.goto (-37), 3) := by decide +kernel
theorem dX3_placesOf_46 : decode cX3_placesOf 46 = .ok (.iload 4, 2) := by decide +kernel
theorem dX3_placesOf_48 : decode cX3_placesOf 48 = .ok (.ireturn, 1) := by decide +kernel
set_option maxRecDepth 20000 in
theorem ggX3_repeatTold_X3_look : GoodIn wsX3_repeatTold wsX3_look := goodIn_r _ [7, 8, 1, 2, 9, 10, 6, 11, 31, 32, 33, 34, 35, 36, 37, 38] (by decide +kernel) (by decide +kernel)
set_option maxRecDepth 20000 in
theorem gX3_repeatTold_X3_look : GoodIn wsX3_repeatTold (wsV RX3 53 RX3 yX3_look wsX3_look) := goodIn_app (goodIn_of _ (by decide +kernel)) ggX3_repeatTold_X3_look
set_option maxRecDepth 20000 in
theorem ggX3_repeatTold_X3_mostBeside : GoodIn wsX3_repeatTold wsX3_mostBeside := goodIn_r _ [15, 1, 2, 16, 17, 18, 19, 31, 32, 33, 34, 35, 36, 37, 38] (by decide +kernel) (by decide +kernel)
set_option maxRecDepth 20000 in
theorem gX3_repeatTold_X3_mostBeside : GoodIn wsX3_repeatTold (wsV RX3 70 RX3 yX3_mostBeside wsX3_mostBeside) := goodIn_app (goodIn_of _ (by decide +kernel)) ggX3_repeatTold_X3_mostBeside
set_option maxRecDepth 20000 in
theorem ggX3_repeatTold_X3_isLess : GoodIn wsX3_repeatTold wsX3_isLess := goodIn_r _ [23, 8, 1, 2, 24, 25, 6, 26, 31, 32, 33, 34, 35, 36, 37, 38] (by decide +kernel) (by decide +kernel)
set_option maxRecDepth 20000 in
theorem gX3_repeatTold_X3_isLess : GoodIn wsX3_repeatTold (wsV RX3 46 RX3 yX3_isLess wsX3_isLess) := goodIn_app (goodIn_of _ (by decide +kernel)) ggX3_repeatTold_X3_isLess
set_option maxRecDepth 20000 in
theorem ggX3_repeatTold_X3_placesOf : GoodIn wsX3_repeatTold wsX3_placesOf := goodIn_r _ [30, 1, 2, 31, 32, 33, 34, 35, 36, 37, 38] (by decide +kernel) (by decide +kernel)
set_option maxRecDepth 20000 in
theorem gX3_repeatTold_X3_placesOf : GoodIn wsX3_repeatTold (wsV RX3 73 RX3 yX3_placesOf wsX3_placesOf) := goodIn_app (goodIn_of _ (by decide +kernel)) ggX3_repeatTold_X3_placesOf
theorem dX3_repeatTold_0 : decode cX3_repeatTold 0 = .ok (.aload_n 0, 1) := by decide +kernel
theorem dX3_repeatTold_1 : decode cX3_repeatTold 1 = .ok (.iload_n 1, 1) := by decide +kernel
theorem dX3_repeatTold_2 : decode cX3_repeatTold 2 = .ok (.invokevirtual 53, 3) := by decide +kernel
theorem dX3_repeatTold_5 : decode cX3_repeatTold 5 = .ok (.iconst (-1), 1) := by decide +kernel
theorem dX3_repeatTold_6 : decode cX3_repeatTold 6 = .ok (.istore_n 3, 1) := by decide +kernel
theorem dX3_repeatTold_7 : decode cX3_repeatTold 7 = .ok (.iconst 0, 1) := by decide +kernel
theorem dX3_repeatTold_8 : decode cX3_repeatTold 8 = .ok (.istore 4, 2) := by decide +kernel
theorem dX3_repeatTold_10 : decode cX3_repeatTold 10 = .ok (.iconst 0, 1) := by decide +kernel
theorem dX3_repeatTold_11 : decode cX3_repeatTold 11 = .ok (.istore 5, 2) := by decide +kernel
theorem dX3_repeatTold_13 : decode cX3_repeatTold 13 = .ok (.iload 5, 2) := by decide +kernel
theorem dX3_repeatTold_15 : decode cX3_repeatTold 15 = .ok (.aload_n 0, 1) := by decide +kernel
theorem dX3_repeatTold_16 : decode cX3_repeatTold 16 = .ok (.getfield 14, 3) := by decide +kernel
theorem dX3_repeatTold_19 : decode cX3_repeatTold 19 = .ok (.iload_n 1, 1) := by decide +kernel
theorem dX3_repeatTold_20 : decode cX3_repeatTold 20 = .ok (.iaload, 1) := by decide +kernel
theorem dX3_repeatTold_21 : decode cX3_repeatTold 21 = .ok (.if_icmp .ge 75, 3) := by decide +kernel
theorem dX3_repeatTold_24 : decode cX3_repeatTold 24 = .ok (.aload_n 0, 1) := by decide +kernel
theorem dX3_repeatTold_25 : decode cX3_repeatTold 25 = .ok (.iload_n 1, 1) := by decide +kernel
theorem dX3_repeatTold_26 : decode cX3_repeatTold 26 = .ok (.iload 5, 2) := by decide +kernel
theorem dX3_repeatTold_28 : decode cX3_repeatTold 28 = .ok (.invokevirtual 70, 3) := by decide +kernel
theorem dX3_repeatTold_31 : decode cX3_repeatTold 31 = .ok (.istore 6, 2) := by decide +kernel
theorem dX3_repeatTold_33 : decode cX3_repeatTold 33 = .ok (.iload 6, 2) := by decide +kernel
theorem dX3_repeatTold_35 : decode cX3_repeatTold 35 = .ok (.iload 4, 2) := by decide +kernel
theorem dX3_repeatTold_37 : decode cX3_repeatTold 37 = .ok (.if_icmp .lt 53, 3) := by decide +kernel
theorem dX3_repeatTold_40 : decode cX3_repeatTold 40 = .ok (.iload 6, 2) := by decide +kernel
theorem dX3_repeatTold_42 : decode cX3_repeatTold 42 = .ok (.ifCond .ne 6, 3) := by decide +kernel
theorem dX3_repeatTold_45 : decode cX3_repeatTold 45 = .ok (.goto 45, 3) := by decide +kernel
theorem dX3_repeatTold_48 : decode cX3_repeatTold 48 = .ok (.iload 6, 2) := by decide +kernel
theorem dX3_repeatTold_50 : decode cX3_repeatTold 50 = .ok (.iload 4, 2) := by decide +kernel
theorem dX3_repeatTold_52 : decode cX3_repeatTold 52 = .ok (.if_icmp .ne 31, 3) := by decide +kernel
theorem dX3_repeatTold_55 : decode cX3_repeatTold 55 = .ok (.aload_n 0, 1) := by decide +kernel
theorem dX3_repeatTold_56 : decode cX3_repeatTold 56 = .ok (.getfield 21, 3) := by decide +kernel
theorem dX3_repeatTold_59 : decode cX3_repeatTold 59 = .ok (.iload 5, 2) := by decide +kernel
theorem dX3_repeatTold_61 : decode cX3_repeatTold 61 = .ok (.aaload, 1) := by decide +kernel
theorem dX3_repeatTold_62 : decode cX3_repeatTold 62 = .ok (.iload_n 3, 1) := by decide +kernel
theorem dX3_repeatTold_63 : decode cX3_repeatTold 63 = .ok (.iaload, 1) := by decide +kernel
theorem dX3_repeatTold_64 : decode cX3_repeatTold 64 = .ok (.iload 4, 2) := by decide +kernel
theorem dX3_repeatTold_66 : decode cX3_repeatTold 66 = .ok (.if_icmp .ge 24, 3) := by decide +kernel
theorem dX3_repeatTold_69 : decode cX3_repeatTold 69 = .ok (.aload_n 0, 1) := by decide +kernel
theorem dX3_repeatTold_70 : decode cX3_repeatTold 70 = .ok (.iload_n 1, 1) := by decide +kernel
theorem dX3_repeatTold_71 : decode cX3_repeatTold 71 = .ok (.iload 5, 2) := by decide +kernel
theorem dX3_repeatTold_73 : decode cX3_repeatTold 73 = .ok (.iload_n 3, 1) := by decide +kernel
theorem dX3_repeatTold_74 : decode cX3_repeatTold 74 = .ok (.invokevirtual 46, 3) := by decide +kernel
theorem dX3_repeatTold_77 : decode cX3_repeatTold 77 = .ok (.ifCond .ne 6, 3) := by decide +kernel
theorem dX3_repeatTold_80 : decode cX3_repeatTold 80 = .ok (.goto 10, 3) := by decide +kernel
theorem dX3_repeatTold_83 : decode cX3_repeatTold 83 = .ok (.iload 5, 2) := by decide +kernel
theorem dX3_repeatTold_85 : decode cX3_repeatTold 85 = .ok (.istore_n 3, 1) := by decide +kernel
theorem dX3_repeatTold_86 : decode cX3_repeatTold 86 = .ok (.iload 6, 2) := by decide +kernel
theorem dX3_repeatTold_88 : decode cX3_repeatTold 88 = .ok (.istore 4, 2) := by decide +kernel
theorem dX3_repeatTold_90 : decode cX3_repeatTold 90 = .ok (.iinc 5 1, 3) := by decide +kernel
theorem dX3_repeatTold_93 : decode cX3_repeatTold 93 = .ok (.goto (-80), 3) := by decide +kernel
theorem dX3_repeatTold_96 : decode cX3_repeatTold 96 = .ok (.iload_n 2, 1) := by decide +kernel
theorem dX3_repeatTold_97 : decode cX3_repeatTold 97 = .ok (.ifCond .ne 6, 3) := by decide +kernel
theorem dX3_repeatTold_100 : decode cX3_repeatTold 100 = .ok (.iload 4, 2) := by decide +kernel
theorem dX3_repeatTold_102 : decode cX3_repeatTold 102 = .ok (.ireturn, 1) := by decide +kernel
theorem dX3_repeatTold_103 : decode cX3_repeatTold 103 = .ok (.iload_n 2, 1) := by decide +kernel
theorem dX3_repeatTold_104 : decode cX3_repeatTold 104 = .ok (.iconst 1, 1) := by decide +kernel
theorem dX3_repeatTold_105 : decode cX3_repeatTold 105 = .ok (.if_icmp .ne 7, 3) := by decide +kernel
theorem dX3_repeatTold_108 : decode cX3_repeatTold 108 = .ok (.iload_n 3, 1) := by decide +kernel
theorem dX3_repeatTold_109 : decode cX3_repeatTold 109 = .ok (.goto 20, 3) := by decide +kernel
theorem dX3_repeatTold_112 : decode cX3_repeatTold 112 = .ok (.iload_n 3, 1) := by decide +kernel
theorem dX3_repeatTold_113 : decode cX3_repeatTold 113 = .ok (.iconst (-1), 1) := by decide +kernel
theorem dX3_repeatTold_114 : decode cX3_repeatTold 114 = .ok (.if_icmp .ne 7, 3) := by decide +kernel
theorem dX3_repeatTold_117 : decode cX3_repeatTold 117 = .ok (.iconst 0, 1) := by decide +kernel
theorem dX3_repeatTold_118 : decode cX3_repeatTold 118 = .ok (.goto 11, 3) := by decide +kernel
theorem dX3_repeatTold_121 : decode cX3_repeatTold 121 = .ok (.aload_n 0, 1) := by decide +kernel
theorem dX3_repeatTold_122 : decode cX3_repeatTold 122 = .ok (.iload_n 1, 1) := by decide +kernel
theorem dX3_repeatTold_123 : decode cX3_repeatTold 123 = .ok (.iload_n 3, 1) := by decide +kernel
theorem dX3_repeatTold_124 : decode cX3_repeatTold 124 = .ok (.iload 4, 2) := by decide +kernel
theorem dX3_repeatTold_126 : decode cX3_repeatTold 126 = .ok (.invokevirtual 73, 3) := by decide +kernel
theorem dX3_repeatTold_129 : decode cX3_repeatTold 129 = .ok (.ireturn, 1) := by decide +kernel
theorem dX3_mostAcross_0 : decode cX3_mostAcross 0 = .ok (.iconst 0, 1) := by decide +kernel
theorem dX3_mostAcross_1 : decode cX3_mostAcross 1 = .ok (.istore_n 2, 1) := by decide +kernel
theorem dX3_mostAcross_2 : decode cX3_mostAcross 2 = .ok (.iconst 0, 1) := by decide +kernel
theorem dX3_mostAcross_3 : decode cX3_mostAcross 3 = .ok (.istore_n 3, 1) := by decide +kernel
theorem dX3_mostAcross_4 : decode cX3_mostAcross 4 = .ok (.iload_n 3, 1) := by decide +kernel
theorem dX3_mostAcross_5 : decode cX3_mostAcross 5 = .ok (.aload_n 0, 1) := by decide +kernel
theorem dX3_mostAcross_6 : decode cX3_mostAcross 6 = .ok (.getfield 14, 3) := by decide +kernel
theorem dX3_mostAcross_9 : decode cX3_mostAcross 9 = .ok (.iconst 1, 1) := by decide +kernel
theorem dX3_mostAcross_10 : decode cX3_mostAcross 10 = .ok (.iaload, 1) := by decide +kernel
theorem dX3_mostAcross_11 : decode cX3_mostAcross 11 = .ok (.if_icmp .ge 22, 3) := by decide +kernel
theorem dX3_mostAcross_14 : decode cX3_mostAcross 14 = .ok (.iload_n 2, 1) := by decide +kernel
theorem dX3_mostAcross_15 : decode cX3_mostAcross 15 = .ok (.aload_n 0, 1) := by decide +kernel
theorem dX3_mostAcross_16 : decode cX3_mostAcross 16 = .ok (.getfield 27, 3) := by decide +kernel
theorem dX3_mostAcross_19 : decode cX3_mostAcross 19 = .ok (.iload_n 1, 1) := by decide +kernel
theorem dX3_mostAcross_20 : decode cX3_mostAcross 20 = .ok (.aaload, 1) := by decide +kernel
theorem dX3_mostAcross_21 : decode cX3_mostAcross 21 = .ok (.iload_n 3, 1) := by decide +kernel
theorem dX3_mostAcross_22 : decode cX3_mostAcross 22 = .ok (.iaload, 1) := by decide +kernel
theorem dX3_mostAcross_23 : decode cX3_mostAcross 23 = .ok (.invokestatic 61, 3) := by decide +kernel
theorem dX3_mostAcross_26 : decode cX3_mostAcross 26 = .ok (.istore_n 2, 1) := by decide +kernel
theorem dX3_mostAcross_27 : decode cX3_mostAcross 27 = .ok (.iinc 3 1, 3) := by decide +kernel
theorem dX3_mostAcross_30 : decode cX3_mostAcross 30 = .ok (.goto (-26), 3) := by decide +kernel
theorem dX3_mostAcross_33 : decode cX3_mostAcross 33 = .ok (.iload_n 2, 1) := by decide +kernel
theorem dX3_mostAcross_34 : decode cX3_mostAcross 34 = .ok (.ireturn, 1) := by decide +kernel
set_option maxRecDepth 20000 in
theorem ggX3_seamTold_X3_look : GoodIn wsX3_seamTold wsX3_look := goodIn_r _ [8, 9, 1, 2, 10, 11, 7, 12, 32, 33, 34, 35, 36, 37, 38, 39] (by decide +kernel) (by decide +kernel)
set_option maxRecDepth 20000 in
theorem gX3_seamTold_X3_look : GoodIn wsX3_seamTold (wsV RX3 53 RX3 yX3_look wsX3_look) := goodIn_app (goodIn_of _ (by decide +kernel)) ggX3_seamTold_X3_look
set_option maxRecDepth 20000 in
theorem ggX3_seamTold_X3_lookAtBoth : GoodIn wsX3_seamTold wsX3_lookAtBoth := goodIn_r _ [16, 9, 1, 3, 10, 11, 7, 12, 32, 33, 34, 35, 36, 37, 38, 39] (by decide +kernel) (by decide +kernel)
set_option maxRecDepth 20000 in
theorem gX3_seamTold_X3_lookAtBoth : GoodIn wsX3_seamTold (wsV RX3 77 RX3 yX3_lookAtBoth wsX3_lookAtBoth) := goodIn_app (goodIn_of _ (by decide +kernel)) ggX3_seamTold_X3_lookAtBoth
set_option maxRecDepth 20000 in
theorem ggX3_seamTold_X3_mostAcross : GoodIn wsX3_seamTold wsX3_mostAcross := goodIn_r _ [20, 1, 3, 21, 22, 23, 24, 32, 33, 34, 35, 36, 37, 38, 39] (by decide +kernel) (by decide +kernel)
set_option maxRecDepth 20000 in
theorem gX3_seamTold_X3_mostAcross : GoodIn wsX3_seamTold (wsV RX3 80 RX3 yX3_mostAcross wsX3_mostAcross) := goodIn_app (goodIn_of _ (by decide +kernel)) ggX3_seamTold_X3_mostAcross
set_option maxRecDepth 20000 in
theorem ggX3_seamTold_X3_isLess : GoodIn wsX3_seamTold wsX3_isLess := goodIn_r _ [28, 9, 1, 2, 29, 30, 7, 31, 32, 33, 34, 35, 36, 37, 38, 39] (by decide +kernel) (by decide +kernel)
set_option maxRecDepth 20000 in
theorem gX3_seamTold_X3_isLess : GoodIn wsX3_seamTold (wsV RX3 46 RX3 yX3_isLess wsX3_isLess) := goodIn_app (goodIn_of _ (by decide +kernel)) ggX3_seamTold_X3_isLess
theorem dX3_seamTold_0 : decode cX3_seamTold 0 = .ok (.aload_n 0, 1) := by decide +kernel
theorem dX3_seamTold_1 : decode cX3_seamTold 1 = .ok (.iconst 0, 1) := by decide +kernel
theorem dX3_seamTold_2 : decode cX3_seamTold 2 = .ok (.invokevirtual 53, 3) := by decide +kernel
theorem dX3_seamTold_5 : decode cX3_seamTold 5 = .ok (.aload_n 0, 1) := by decide +kernel
theorem dX3_seamTold_6 : decode cX3_seamTold 6 = .ok (.invokevirtual 77, 3) := by decide +kernel
theorem dX3_seamTold_9 : decode cX3_seamTold 9 = .ok (.iconst (-1), 1) := by decide +kernel
theorem dX3_seamTold_10 : decode cX3_seamTold 10 = .ok (.istore_n 2, 1) := by decide +kernel
theorem dX3_seamTold_11 : decode cX3_seamTold 11 = .ok (.iconst 0, 1) := by decide +kernel
theorem dX3_seamTold_12 : decode cX3_seamTold 12 = .ok (.istore_n 3, 1) := by decide +kernel
theorem dX3_seamTold_13 : decode cX3_seamTold 13 = .ok (.iconst 0, 1) := by decide +kernel
theorem dX3_seamTold_14 : decode cX3_seamTold 14 = .ok (.istore 4, 2) := by decide +kernel
theorem dX3_seamTold_16 : decode cX3_seamTold 16 = .ok (.iload 4, 2) := by decide +kernel
theorem dX3_seamTold_18 : decode cX3_seamTold 18 = .ok (.aload_n 0, 1) := by decide +kernel
theorem dX3_seamTold_19 : decode cX3_seamTold 19 = .ok (.getfield 14, 3) := by decide +kernel
theorem dX3_seamTold_22 : decode cX3_seamTold 22 = .ok (.iconst 0, 1) := by decide +kernel
theorem dX3_seamTold_23 : decode cX3_seamTold 23 = .ok (.iaload, 1) := by decide +kernel
theorem dX3_seamTold_24 : decode cX3_seamTold 24 = .ok (.if_icmp .ge 70, 3) := by decide +kernel
theorem dX3_seamTold_27 : decode cX3_seamTold 27 = .ok (.aload_n 0, 1) := by decide +kernel
theorem dX3_seamTold_28 : decode cX3_seamTold 28 = .ok (.iload 4, 2) := by decide +kernel
theorem dX3_seamTold_30 : decode cX3_seamTold 30 = .ok (.invokevirtual 80, 3) := by decide +kernel
theorem dX3_seamTold_33 : decode cX3_seamTold 33 = .ok (.istore 5, 2) := by decide +kernel
theorem dX3_seamTold_35 : decode cX3_seamTold 35 = .ok (.iload 5, 2) := by decide +kernel
theorem dX3_seamTold_37 : decode cX3_seamTold 37 = .ok (.iload_n 3, 1) := by decide +kernel
theorem dX3_seamTold_38 : decode cX3_seamTold 38 = .ok (.if_icmp .lt 50, 3) := by decide +kernel
theorem dX3_seamTold_41 : decode cX3_seamTold 41 = .ok (.iload 5, 2) := by decide +kernel
theorem dX3_seamTold_43 : decode cX3_seamTold 43 = .ok (.ifCond .ne 6, 3) := by decide +kernel
theorem dX3_seamTold_46 : decode cX3_seamTold 46 = .ok (.goto 42, 3) := by decide +kernel
theorem dX3_seamTold_49 : decode cX3_seamTold 49 = .ok (.iload 5, 2) := by decide +kernel
theorem dX3_seamTold_51 : decode cX3_seamTold 51 = .ok (.iload_n 3, 1) := by decide +kernel
theorem dX3_seamTold_52 : decode cX3_seamTold 52 = .ok (.if_icmp .ne 30, 3) := by decide +kernel
theorem dX3_seamTold_55 : decode cX3_seamTold 55 = .ok (.aload_n 0, 1) := by decide +kernel
theorem dX3_seamTold_56 : decode cX3_seamTold 56 = .ok (.getfield 21, 3) := by decide +kernel
theorem dX3_seamTold_59 : decode cX3_seamTold 59 = .ok (.iload 4, 2) := by decide +kernel
theorem dX3_seamTold_61 : decode cX3_seamTold 61 = .ok (.aaload, 1) := by decide +kernel
theorem dX3_seamTold_62 : decode cX3_seamTold 62 = .ok (.iload_n 2, 1) := by decide +kernel
theorem dX3_seamTold_63 : decode cX3_seamTold 63 = .ok (.iaload, 1) := by decide +kernel
theorem dX3_seamTold_64 : decode cX3_seamTold 64 = .ok (.iload_n 3, 1) := by decide +kernel
theorem dX3_seamTold_65 : decode cX3_seamTold 65 = .ok (.if_icmp .ge 23, 3) := by decide +kernel
theorem dX3_seamTold_68 : decode cX3_seamTold 68 = .ok (.aload_n 0, 1) := by decide +kernel
theorem dX3_seamTold_69 : decode cX3_seamTold 69 = .ok (.iconst 0, 1) := by decide +kernel
theorem dX3_seamTold_70 : decode cX3_seamTold 70 = .ok (.iload 4, 2) := by decide +kernel
theorem dX3_seamTold_72 : decode cX3_seamTold 72 = .ok (.iload_n 2, 1) := by decide +kernel
theorem dX3_seamTold_73 : decode cX3_seamTold 73 = .ok (.invokevirtual 46, 3) := by decide +kernel
theorem dX3_seamTold_76 : decode cX3_seamTold 76 = .ok (.ifCond .ne 6, 3) := by decide +kernel
theorem dX3_seamTold_79 : decode cX3_seamTold 79 = .ok (.goto 9, 3) := by decide +kernel
theorem dX3_seamTold_82 : decode cX3_seamTold 82 = .ok (.iload 4, 2) := by decide +kernel
theorem dX3_seamTold_84 : decode cX3_seamTold 84 = .ok (.istore_n 2, 1) := by decide +kernel
theorem dX3_seamTold_85 : decode cX3_seamTold 85 = .ok (.iload 5, 2) := by decide +kernel
theorem dX3_seamTold_87 : decode cX3_seamTold 87 = .ok (.istore_n 3, 1) := by decide +kernel
theorem dX3_seamTold_88 : decode cX3_seamTold 88 = .ok (.iinc 4 1, 3) := by decide +kernel
theorem dX3_seamTold_91 : decode cX3_seamTold 91 = .ok (.goto (-75), 3) := by decide +kernel
theorem dX3_seamTold_94 : decode cX3_seamTold 94 = .ok (.iload_n 1, 1) := by decide +kernel
theorem dX3_seamTold_95 : decode cX3_seamTold 95 = .ok (.ifCond .ne 5, 3) := by decide +kernel
theorem dX3_seamTold_98 : decode cX3_seamTold 98 = .ok (.iload_n 3, 1) := by decide +kernel
theorem dX3_seamTold_99 : decode cX3_seamTold 99 = .ok (.ireturn, 1) := by decide +kernel
theorem dX3_seamTold_100 : decode cX3_seamTold 100 = .ok (.iload_n 1, 1) := by decide +kernel
theorem dX3_seamTold_101 : decode cX3_seamTold 101 = .ok (.iconst 1, 1) := by decide +kernel
theorem dX3_seamTold_102 : decode cX3_seamTold 102 = .ok (.if_icmp .eq 8, 3) := by decide +kernel
theorem dX3_seamTold_105 : decode cX3_seamTold 105 = .ok (.iload_n 2, 1) := by decide +kernel
theorem dX3_seamTold_106 : decode cX3_seamTold 106 = .ok (.iconst (-1), 1) := by decide +kernel
theorem dX3_seamTold_107 : decode cX3_seamTold 107 = .ok (.if_icmp .ne 5, 3) := by decide +kernel
theorem dX3_seamTold_110 : decode cX3_seamTold 110 = .ok (.iload_n 2, 1) := by decide +kernel
theorem dX3_seamTold_111 : decode cX3_seamTold 111 = .ok (.ireturn, 1) := by decide +kernel
theorem dX3_seamTold_112 : decode cX3_seamTold 112 = .ok (.iconst 0, 1) := by decide +kernel
theorem dX3_seamTold_113 : decode cX3_seamTold 113 = .ok (.istore 4, 2) := by decide +kernel
theorem dX3_seamTold_115 : decode cX3_seamTold 115 = .ok (.aload_n 0, 1) := by decide +kernel
theorem dX3_seamTold_116 : decode cX3_seamTold 116 = .ok (.getfield 27, 3) := by decide +kernel
theorem dX3_seamTold_119 : decode cX3_seamTold 119 = .ok (.iload_n 2, 1) := by decide +kernel
theorem dX3_seamTold_120 : decode cX3_seamTold 120 = .ok (.aaload, 1) := by decide +kernel
theorem dX3_seamTold_121 : decode cX3_seamTold 121 = .ok (.iload 4, 2) := by decide +kernel
theorem dX3_seamTold_123 : decode cX3_seamTold 123 = .ok (.iaload, 1) := by decide +kernel
theorem dX3_seamTold_124 : decode cX3_seamTold 124 = .ok (.iload_n 3, 1) := by decide +kernel
theorem dX3_seamTold_125 : decode cX3_seamTold 125 = .ok (.if_icmp .ge 9, 3) := by decide +kernel
theorem dX3_seamTold_128 : decode cX3_seamTold 128 = .ok (.iinc 4 1, 3) := by decide +kernel
theorem dX3_seamTold_131 : decode cX3_seamTold 131 = .ok (.goto (-16), 3) := by decide +kernel
theorem dX3_seamTold_134 : decode cX3_seamTold 134 = .ok (.iload 4, 2) := by decide +kernel
theorem dX3_seamTold_136 : decode cX3_seamTold 136 = .ok (.ireturn, 1) := by decide +kernel
theorem dX3_isSampleAt_0 : decode cX3_isSampleAt 0 = .ok (.aload_n 0, 1) := by decide +kernel
theorem dX3_isSampleAt_1 : decode cX3_isSampleAt 1 = .ok (.getfield 83, 3) := by decide +kernel
theorem dX3_isSampleAt_4 : decode cX3_isSampleAt 4 = .ok (.ifCond .eq 18, 3) := by decide +kernel
theorem dX3_isSampleAt_7 : decode cX3_isSampleAt 7 = .ok (.iload_n 2, 1) := by decide +kernel
theorem dX3_isSampleAt_8 : decode cX3_isSampleAt 8 = .ok (.aload_n 0, 1) := by decide +kernel
theorem dX3_isSampleAt_9 : decode cX3_isSampleAt 9 = .ok (.getfield 83, 3) := by decide +kernel
theorem dX3_isSampleAt_12 : decode cX3_isSampleAt 12 = .ok (.iadd, 1) := by decide +kernel
theorem dX3_isSampleAt_13 : decode cX3_isSampleAt 13 = .ok (.aload_n 0, 1) := by decide +kernel
theorem dX3_isSampleAt_14 : decode cX3_isSampleAt 14 = .ok (.getfield 14, 3) := by decide +kernel
theorem dX3_isSampleAt_17 : decode cX3_isSampleAt 17 = .ok (.iload_n 1, 1) := by decide +kernel
theorem dX3_isSampleAt_18 : decode cX3_isSampleAt 18 = .ok (.iaload, 1) := by decide +kernel
theorem dX3_isSampleAt_19 : decode cX3_isSampleAt 19 = .ok (.if_icmp .le 5, 3) := by decide +kernel
theorem dX3_isSampleAt_22 : decode cX3_isSampleAt 22 = .ok (.iconst 0, 1) := by decide +kernel
theorem dX3_isSampleAt_23 : decode cX3_isSampleAt 23 = .ok (.ireturn, 1) := by decide +kernel
theorem dX3_isSampleAt_24 : decode cX3_isSampleAt 24 = .ok (.iconst 0, 1) := by decide +kernel
theorem dX3_isSampleAt_25 : decode cX3_isSampleAt 25 = .ok (.istore_n 3, 1) := by decide +kernel
theorem dX3_isSampleAt_26 : decode cX3_isSampleAt 26 = .ok (.iload_n 3, 1) := by decide +kernel
theorem dX3_isSampleAt_27 : decode cX3_isSampleAt 27 = .ok (.aload_n 0, 1) := by decide +kernel
theorem dX3_isSampleAt_28 : decode cX3_isSampleAt 28 = .ok (.getfield 83, 3) := by decide +kernel
theorem dX3_isSampleAt_31 : decode cX3_isSampleAt 31 = .ok (.if_icmp .ge 30, 3) := by decide +kernel
theorem dX3_isSampleAt_34 : decode cX3_isSampleAt 34 = .ok (.aload_n 0, 1) := by decide +kernel
theorem dX3_isSampleAt_35 : decode cX3_isSampleAt 35 = .ok (.getfield 11, 3) := by decide +kernel
theorem dX3_isSampleAt_38 : decode cX3_isSampleAt 38 = .ok (.iload_n 1, 1) := by decide +kernel
theorem dX3_isSampleAt_39 : decode cX3_isSampleAt 39 = .ok (.aaload, 1) := by decide +kernel
theorem dX3_isSampleAt_40 : decode cX3_isSampleAt 40 = .ok (.iload_n 2, 1) := by decide +kernel
theorem dX3_isSampleAt_41 : decode cX3_isSampleAt 41 = .ok (.iload_n 3, 1) := by decide +kernel
theorem dX3_isSampleAt_42 : decode cX3_isSampleAt 42 = .ok (.iadd, 1) := by decide +kernel
theorem dX3_isSampleAt_43 : decode cX3_isSampleAt 43 = .ok (.iaload, 1) := by decide +kernel
theorem dX3_isSampleAt_44 : decode cX3_isSampleAt 44 = .ok (.aload_n 0, 1) := by decide +kernel
theorem dX3_isSampleAt_45 : decode cX3_isSampleAt 45 = .ok (.getfield 18, 3) := by decide +kernel
theorem dX3_isSampleAt_48 : decode cX3_isSampleAt 48 = .ok (.iload_n 3, 1) := by decide +kernel
theorem dX3_isSampleAt_49 : decode cX3_isSampleAt 49 = .ok (.iaload, 1) := by decide +kernel
theorem dX3_isSampleAt_50 : decode cX3_isSampleAt 50 = .ok (.if_icmp .eq 5, 3) := by decide +kernel
theorem dX3_isSampleAt_53 : decode cX3_isSampleAt 53 = .ok (.iconst 0, 1) := by decide +kernel
theorem dX3_isSampleAt_54 : decode cX3_isSampleAt 54 = .ok (.ireturn, 1) := by decide +kernel
theorem dX3_isSampleAt_55 : decode cX3_isSampleAt 55 = .ok (.iinc 3 1, 3) := by decide +kernel
theorem dX3_isSampleAt_58 : decode cX3_isSampleAt 58 = .ok (.goto (-32), 3) := by decide +kernel
theorem dX3_isSampleAt_61 : decode cX3_isSampleAt 61 = .ok (.iconst 1, 1) := by decide +kernel
theorem dX3_isSampleAt_62 : decode cX3_isSampleAt 62 = .ok (.ireturn, 1) := by decide +kernel
set_option maxRecDepth 20000 in
theorem ggX3_foundIn_X3_isSampleAt : GoodIn wsX3_foundIn wsX3_isSampleAt := goodIn_r _ [6, 7, 1, 8, 9, 10, 11, 12, 13, 14, 15, 16, 17] (by decide +kernel) (by decide +kernel)
set_option maxRecDepth 20000 in
theorem gX3_foundIn_X3_isSampleAt : GoodIn wsX3_foundIn (wsV RX3 86 RX3 yX3_isSampleAt wsX3_isSampleAt) := goodIn_app (goodIn_of _ (by decide +kernel)) ggX3_foundIn_X3_isSampleAt
theorem dX3_foundIn_0 : decode cX3_foundIn 0 = .ok (.iconst 0, 1) := by decide +kernel
theorem dX3_foundIn_1 : decode cX3_foundIn 1 = .ok (.istore_n 2, 1) := by decide +kernel
theorem dX3_foundIn_2 : decode cX3_foundIn 2 = .ok (.iconst 0, 1) := by decide +kernel
theorem dX3_foundIn_3 : decode cX3_foundIn 3 = .ok (.istore_n 3, 1) := by decide +kernel
theorem dX3_foundIn_4 : decode cX3_foundIn 4 = .ok (.iload_n 3, 1) := by decide +kernel
theorem dX3_foundIn_5 : decode cX3_foundIn 5 = .ok (.aload_n 0, 1) := by decide +kernel
theorem dX3_foundIn_6 : decode cX3_foundIn 6 = .ok (.getfield 14, 3) := by decide +kernel
theorem dX3_foundIn_9 : decode cX3_foundIn 9 = .ok (.iload_n 1, 1) := by decide +kernel
theorem dX3_foundIn_10 : decode cX3_foundIn 10 = .ok (.iaload, 1) := by decide +kernel
theorem dX3_foundIn_11 : decode cX3_foundIn 11 = .ok (.if_icmp .ge 26, 3) := by decide +kernel
theorem dX3_foundIn_14 : decode cX3_foundIn 14 = .ok (.iload_n 2, 1) := by decide +kernel
theorem dX3_foundIn_15 : decode cX3_foundIn 15 = .ok (.aload_n 0, 1) := by decide +kernel
theorem dX3_foundIn_16 : decode cX3_foundIn 16 = .ok (.iload_n 1, 1) := by decide +kernel
theorem dX3_foundIn_17 : decode cX3_foundIn 17 = .ok (.iload_n 3, 1) := by decide +kernel
theorem dX3_foundIn_18 : decode cX3_foundIn 18 = .ok (.invokevirtual 86, 3) := by decide +kernel
theorem dX3_foundIn_21 : decode cX3_foundIn 21 = .ok (.ifCond .eq 7, 3) := by decide +kernel
theorem dX3_foundIn_24 : decode cX3_foundIn 24 = .ok (.iconst 1, 1) := by decide +kernel
theorem dX3_foundIn_25 : decode cX3_foundIn 25 = .ok (.goto 4, 3) := by decide +kernel
theorem dX3_foundIn_28 : decode cX3_foundIn 28 = .ok (.iconst 0, 1) := by decide +kernel
theorem dX3_foundIn_29 : decode cX3_foundIn 29 = .ok (.iadd, 1) := by decide +kernel
theorem dX3_foundIn_30 : decode cX3_foundIn 30 = .ok (.istore_n 2, 1) := by decide +kernel
theorem dX3_foundIn_31 : decode cX3_foundIn 31 = .ok (.iinc 3 1, 3) := by decide +kernel
theorem dX3_foundIn_34 : decode cX3_foundIn 34 = .ok (.goto (-30), 3) := by decide +kernel
theorem dX3_foundIn_37 : decode cX3_foundIn 37 = .ok (.iload_n 2, 1) := by decide +kernel
theorem dX3_foundIn_38 : decode cX3_foundIn 38 = .ok (.ireturn, 1) := by decide +kernel
theorem dX3_isPeriod_0 : decode cX3_isPeriod 0 = .ok (.iload_n 2, 1) := by decide +kernel
theorem dX3_isPeriod_1 : decode cX3_isPeriod 1 = .ok (.istore_n 3, 1) := by decide +kernel
theorem dX3_isPeriod_2 : decode cX3_isPeriod 2 = .ok (.iload_n 3, 1) := by decide +kernel
theorem dX3_isPeriod_3 : decode cX3_isPeriod 3 = .ok (.aload_n 0, 1) := by decide +kernel
theorem dX3_isPeriod_4 : decode cX3_isPeriod 4 = .ok (.getfield 14, 3) := by decide +kernel
theorem dX3_isPeriod_7 : decode cX3_isPeriod 7 = .ok (.iload_n 1, 1) := by decide +kernel
theorem dX3_isPeriod_8 : decode cX3_isPeriod 8 = .ok (.iaload, 1) := by decide +kernel
theorem dX3_isPeriod_9 : decode cX3_isPeriod 9 = .ok (.if_icmp .ge 32, 3) := by decide +kernel
theorem dX3_isPeriod_12 : decode cX3_isPeriod 12 = .ok (.aload_n 0, 1) := by decide +kernel
theorem dX3_isPeriod_13 : decode cX3_isPeriod 13 = .ok (.getfield 11, 3) := by decide +kernel
theorem dX3_isPeriod_16 : decode cX3_isPeriod 16 = .ok (.iload_n 1, 1) := by decide +kernel
theorem dX3_isPeriod_17 : decode cX3_isPeriod 17 = .ok (.aaload, 1) := by decide +kernel
theorem dX3_isPeriod_18 : decode cX3_isPeriod 18 = .ok (.iload_n 3, 1) := by decide +kernel
theorem dX3_isPeriod_19 : decode cX3_isPeriod 19 = .ok (.iaload, 1) := by decide +kernel
theorem dX3_isPeriod_20 : decode cX3_isPeriod 20 = .ok (.aload_n 0, 1) := by decide +kernel
theorem dX3_isPeriod_21 : decode cX3_isPeriod 21 = .ok (.getfield 11, 3) := by decide +kernel
theorem dX3_isPeriod_24 : decode cX3_isPeriod 24 = .ok (.iload_n 1, 1) := by decide +kernel
theorem dX3_isPeriod_25 : decode cX3_isPeriod 25 = .ok (.aaload, 1) := by decide +kernel
theorem dX3_isPeriod_26 : decode cX3_isPeriod 26 = .ok (.iload_n 3, 1) := by decide +kernel
theorem dX3_isPeriod_27 : decode cX3_isPeriod 27 = .ok (.iload_n 2, 1) := by decide +kernel
theorem dX3_isPeriod_28 : decode cX3_isPeriod 28 = .ok (.isub, 1) := by decide +kernel
theorem dX3_isPeriod_29 : decode cX3_isPeriod 29 = .ok (.iaload, 1) := by decide +kernel
theorem dX3_isPeriod_30 : decode cX3_isPeriod 30 = .ok (.if_icmp .eq 5, 3) := by decide +kernel
theorem dX3_isPeriod_33 : decode cX3_isPeriod 33 = .ok (.iconst 0, 1) := by decide +kernel
theorem dX3_isPeriod_34 : decode cX3_isPeriod 34 = .ok (.ireturn, 1) := by decide +kernel
theorem dX3_isPeriod_35 : decode cX3_isPeriod 35 = .ok (.iinc 3 1, 3) := by decide +kernel
theorem dX3_isPeriod_38 : decode cX3_isPeriod 38 = .ok (.goto (-36), 3) := by decide +kernel
theorem dX3_isPeriod_41 : decode cX3_isPeriod 41 = .ok (.iconst 1, 1) := by decide +kernel
theorem dX3_isPeriod_42 : decode cX3_isPeriod 42 = .ok (.ireturn, 1) := by decide +kernel
set_option maxRecDepth 20000 in
theorem ggX3_periodOf_X3_isPeriod : GoodIn wsX3_periodOf wsX3_isPeriod := goodIn_r _ [10, 1, 11, 12, 13, 14, 15, 16, 17, 18, 19] (by decide +kernel) (by decide +kernel)
set_option maxRecDepth 20000 in
theorem gX3_periodOf_X3_isPeriod : GoodIn wsX3_periodOf (wsV RX3 93 RX3 yX3_isPeriod wsX3_isPeriod) := goodIn_app (goodIn_of _ (by decide +kernel)) ggX3_periodOf_X3_isPeriod
theorem dX3_periodOf_0 : decode cX3_periodOf 0 = .ok (.iconst 1, 1) := by decide +kernel
theorem dX3_periodOf_1 : decode cX3_periodOf 1 = .ok (.aload_n 0, 1) := by decide +kernel
theorem dX3_periodOf_2 : decode cX3_periodOf 2 = .ok (.getfield 14, 3) := by decide +kernel
theorem dX3_periodOf_5 : decode cX3_periodOf 5 = .ok (.iload_n 1, 1) := by decide +kernel
theorem dX3_periodOf_6 : decode cX3_periodOf 6 = .ok (.iaload, 1) := by decide +kernel
theorem dX3_periodOf_7 : decode cX3_periodOf 7 = .ok (.invokestatic 90, 3) := by decide +kernel
theorem dX3_periodOf_10 : decode cX3_periodOf 10 = .ok (.istore_n 2, 1) := by decide +kernel
theorem dX3_periodOf_11 : decode cX3_periodOf 11 = .ok (.aload_n 0, 1) := by decide +kernel
theorem dX3_periodOf_12 : decode cX3_periodOf 12 = .ok (.iload_n 1, 1) := by decide +kernel
theorem dX3_periodOf_13 : decode cX3_periodOf 13 = .ok (.iload_n 2, 1) := by decide +kernel
theorem dX3_periodOf_14 : decode cX3_periodOf 14 = .ok (.invokevirtual 93, 3) := by decide +kernel
theorem dX3_periodOf_17 : decode cX3_periodOf 17 = .ok (.ifCond .ne 9, 3) := by decide +kernel
theorem dX3_periodOf_20 : decode cX3_periodOf 20 = .ok (.iinc 2 1, 3) := by decide +kernel
theorem dX3_periodOf_23 : decode cX3_periodOf 23 = .ok (.goto (-12), 3) := by decide +kernel
theorem dX3_periodOf_26 : decode cX3_periodOf 26 = .ok (.iload_n 2, 1) := by decide +kernel
theorem dX3_periodOf_27 : decode cX3_periodOf 27 = .ok (.ireturn, 1) := by decide +kernel
theorem dX3_isLessAround_0 : decode cX3_isLessAround 0 = .ok (.aload_n 0, 1) := by decide +kernel
theorem dX3_isLessAround_1 : decode cX3_isLessAround 1 = .ok (.getfield 14, 3) := by decide +kernel
theorem dX3_isLessAround_4 : decode cX3_isLessAround 4 = .ok (.iload_n 1, 1) := by decide +kernel
theorem dX3_isLessAround_5 : decode cX3_isLessAround 5 = .ok (.iaload, 1) := by decide +kernel
theorem dX3_isLessAround_6 : decode cX3_isLessAround 6 = .ok (.istore 4, 2) := by decide +kernel
theorem dX3_isLessAround_8 : decode cX3_isLessAround 8 = .ok (.iconst 0, 1) := by decide +kernel
theorem dX3_isLessAround_9 : decode cX3_isLessAround 9 = .ok (.istore 5, 2) := by decide +kernel
theorem dX3_isLessAround_11 : decode cX3_isLessAround 11 = .ok (.iload 5, 2) := by decide +kernel
theorem dX3_isLessAround_13 : decode cX3_isLessAround 13 = .ok (.iload 4, 2) := by decide +kernel
theorem dX3_isLessAround_15 : decode cX3_isLessAround 15 = .ok (.if_icmp .ge 61, 3) := by decide +kernel
theorem dX3_isLessAround_18 : decode cX3_isLessAround 18 = .ok (.aload_n 0, 1) := by decide +kernel
theorem dX3_isLessAround_19 : decode cX3_isLessAround 19 = .ok (.getfield 11, 3) := by decide +kernel
theorem dX3_isLessAround_22 : decode cX3_isLessAround 22 = .ok (.iload_n 1, 1) := by decide +kernel
theorem dX3_isLessAround_23 : decode cX3_isLessAround 23 = .ok (.aaload, 1) := by decide +kernel
theorem dX3_isLessAround_24 : decode cX3_isLessAround 24 = .ok (.iload_n 2, 1) := by decide +kernel
theorem dX3_isLessAround_25 : decode cX3_isLessAround 25 = .ok (.iload 5, 2) := by decide +kernel
theorem dX3_isLessAround_27 : decode cX3_isLessAround 27 = .ok (.iadd, 1) := by decide +kernel
theorem dX3_isLessAround_28 : decode cX3_isLessAround 28 = .ok (.iload 4, 2) := by decide +kernel
theorem dX3_isLessAround_30 : decode cX3_isLessAround 30 = .ok (.irem, 1) := by decide +kernel
theorem dX3_isLessAround_31 : decode cX3_isLessAround 31 = .ok (.iaload, 1) := by decide +kernel
theorem dX3_isLessAround_32 : decode cX3_isLessAround 32 = .ok (.istore 6, 2) := by decide +kernel
theorem dX3_isLessAround_34 : decode cX3_isLessAround 34 = .ok (.aload_n 0, 1) := by decide +kernel
theorem dX3_isLessAround_35 : decode cX3_isLessAround 35 = .ok (.getfield 11, 3) := by decide +kernel
theorem dX3_isLessAround_38 : decode cX3_isLessAround 38 = .ok (.iload_n 1, 1) := by decide +kernel
theorem dX3_isLessAround_39 : decode cX3_isLessAround 39 = .ok (.aaload, 1) := by decide +kernel
theorem dX3_isLessAround_40 : decode cX3_isLessAround 40 = .ok (.iload_n 3, 1) := by decide +kernel
theorem dX3_isLessAround_41 : decode cX3_isLessAround 41 = .ok (.iload 5, 2) := by decide +kernel
theorem dX3_isLessAround_43 : decode cX3_isLessAround 43 = .ok (.iadd, 1) := by decide +kernel
theorem dX3_isLessAround_44 : decode cX3_isLessAround 44 = .ok (.iload 4, 2) := by decide +kernel
theorem dX3_isLessAround_46 : decode cX3_isLessAround 46 = .ok (.irem, 1) := by decide +kernel
theorem dX3_isLessAround_47 : decode cX3_isLessAround 47 = .ok (.iaload, 1) := by decide +kernel
theorem dX3_isLessAround_48 : decode cX3_isLessAround 48 = .ok (.istore 7, 2) := by decide +kernel
theorem dX3_isLessAround_50 : decode cX3_isLessAround 50 = .ok (.iload 6, 2) := by decide +kernel
theorem dX3_isLessAround_52 : decode cX3_isLessAround 52 = .ok (.iload 7, 2) := by decide +kernel
theorem dX3_isLessAround_54 : decode cX3_isLessAround 54 = .ok (.if_icmp .eq 16, 3) := by decide +kernel
theorem dX3_isLessAround_57 : decode cX3_isLessAround 57 = .ok (.iload 6, 2) := by decide +kernel
theorem dX3_isLessAround_59 : decode cX3_isLessAround 59 = .ok (.iload 7, 2) := by decide +kernel
theorem dX3_isLessAround_61 : decode cX3_isLessAround 61 = .ok (.if_icmp .ge 7, 3) := by decide +kernel
theorem dX3_isLessAround_64 : decode cX3_isLessAround 64 = .ok (.iconst 1, 1) := by decide +kernel
theorem dX3_isLessAround_65 : decode cX3_isLessAround 65 = .ok (.goto 4, 3) := by decide +kernel
theorem dX3_isLessAround_68 : decode cX3_isLessAround 68 = .ok (.iconst 0, 1) := by decide +kernel
theorem dX3_isLessAround_69 : decode cX3_isLessAround 69 = .ok (.ireturn, 1) := by decide +kernel
theorem dX3_isLessAround_70 : decode cX3_isLessAround 70 = .ok (.iinc 5 1, 3) := by decide +kernel
theorem dX3_isLessAround_73 : decode cX3_isLessAround 73 = .ok (.goto (-62), 3) := by decide +kernel
theorem dX3_isLessAround_76 : decode cX3_isLessAround 76 = .ok (.iconst 0, 1) := by decide +kernel
theorem dX3_isLessAround_77 : decode cX3_isLessAround 77 = .ok (.ireturn, 1) := by decide +kernel
set_option maxRecDepth 20000 in
theorem ggX3_turnedOf_X3_isLessAround : GoodIn wsX3_turnedOf wsX3_isLessAround := goodIn_r _ [6, 1, 7, 8, 9, 10, 11, 12, 13, 14, 15] (by decide +kernel) (by decide +kernel)
set_option maxRecDepth 20000 in
theorem gX3_turnedOf_X3_isLessAround : GoodIn wsX3_turnedOf (wsV RX3 96 RX3 yX3_isLessAround wsX3_isLessAround) := goodIn_app (goodIn_of _ (by decide +kernel)) ggX3_turnedOf_X3_isLessAround
theorem dX3_turnedOf_0 : decode cX3_turnedOf 0 = .ok (.aload_n 0, 1) := by decide +kernel
theorem dX3_turnedOf_1 : decode cX3_turnedOf 1 = .ok (.getfield 14, 3) := by decide +kernel
theorem dX3_turnedOf_4 : decode cX3_turnedOf 4 = .ok (.iload_n 1, 1) := by decide +kernel
theorem dX3_turnedOf_5 : decode cX3_turnedOf 5 = .ok (.iaload, 1) := by decide +kernel
theorem dX3_turnedOf_6 : decode cX3_turnedOf 6 = .ok (.ifCond .ne 7, 3) := by decide +kernel
theorem dX3_turnedOf_9 : decode cX3_turnedOf 9 = .ok (.iconst (-1), 1) := by decide +kernel
theorem dX3_turnedOf_10 : decode cX3_turnedOf 10 = .ok (.goto 4, 3) := by decide +kernel
theorem dX3_turnedOf_13 : decode cX3_turnedOf 13 = .ok (.iconst 0, 1) := by decide +kernel
theorem dX3_turnedOf_14 : decode cX3_turnedOf 14 = .ok (.istore_n 2, 1) := by decide +kernel
theorem dX3_turnedOf_15 : decode cX3_turnedOf 15 = .ok (.iconst 1, 1) := by decide +kernel
theorem dX3_turnedOf_16 : decode cX3_turnedOf 16 = .ok (.istore_n 3, 1) := by decide +kernel
theorem dX3_turnedOf_17 : decode cX3_turnedOf 17 = .ok (.iload_n 3, 1) := by decide +kernel
theorem dX3_turnedOf_18 : decode cX3_turnedOf 18 = .ok (.aload_n 0, 1) := by decide +kernel
theorem dX3_turnedOf_19 : decode cX3_turnedOf 19 = .ok (.getfield 14, 3) := by decide +kernel
theorem dX3_turnedOf_22 : decode cX3_turnedOf 22 = .ok (.iload_n 1, 1) := by decide +kernel
theorem dX3_turnedOf_23 : decode cX3_turnedOf 23 = .ok (.iaload, 1) := by decide +kernel
theorem dX3_turnedOf_24 : decode cX3_turnedOf 24 = .ok (.if_icmp .ge 21, 3) := by decide +kernel
theorem dX3_turnedOf_27 : decode cX3_turnedOf 27 = .ok (.aload_n 0, 1) := by decide +kernel
theorem dX3_turnedOf_28 : decode cX3_turnedOf 28 = .ok (.iload_n 1, 1) := by decide +kernel
theorem dX3_turnedOf_29 : decode cX3_turnedOf 29 = .ok (.iload_n 3, 1) := by decide +kernel
theorem dX3_turnedOf_30 : decode cX3_turnedOf 30 = .ok (.iload_n 2, 1) := by decide +kernel
theorem dX3_turnedOf_31 : decode cX3_turnedOf 31 = .ok (.invokevirtual 96, 3) := by decide +kernel
theorem dX3_turnedOf_34 : decode cX3_turnedOf 34 = .ok (.ifCond .eq 5, 3) := by decide +kernel
theorem dX3_turnedOf_37 : decode cX3_turnedOf 37 = .ok (.iload_n 3, 1) := by decide +kernel
theorem dX3_turnedOf_38 : decode cX3_turnedOf 38 = .ok (.istore_n 2, 1) := by decide +kernel
theorem dX3_turnedOf_39 : decode cX3_turnedOf 39 = .ok (.iinc 3 1, 3) := by decide +kernel
theorem dX3_turnedOf_42 : decode cX3_turnedOf 42 = .ok (.goto (-25), 3) := by decide +kernel
theorem dX3_turnedOf_45 : decode cX3_turnedOf 45 = .ok (.iload_n 2, 1) := by decide +kernel
theorem dX3_turnedOf_46 : decode cX3_turnedOf 46 = .ok (.ireturn, 1) := by decide +kernel
theorem dX3_more_0 : decode cX3_more 0 = .ok (.aload_n 0, 1) := by decide +kernel
theorem dX3_more_1 : decode cX3_more 1 = .ok (.getfield 14, 3) := by decide +kernel
theorem dX3_more_4 : decode cX3_more 4 = .ok (.iload_n 1, 1) := by decide +kernel
theorem dX3_more_5 : decode cX3_more 5 = .ok (.iaload, 1) := by decide +kernel
theorem dX3_more_6 : decode cX3_more 6 = .ok (.istore_n 3, 1) := by decide +kernel
theorem dX3_more_7 : decode cX3_more 7 = .ok (.iconst 0, 1) := by decide +kernel
theorem dX3_more_8 : decode cX3_more 8 = .ok (.istore 4, 2) := by decide +kernel
theorem dX3_more_10 : decode cX3_more 10 = .ok (.iconst 0, 1) := by decide +kernel
theorem dX3_more_11 : decode cX3_more 11 = .ok (.istore 5, 2) := by decide +kernel
theorem dX3_more_13 : decode cX3_more 13 = .ok (.iload 5, 2) := by decide +kernel
theorem dX3_more_15 : decode cX3_more 15 = .ok (.iload_n 3, 1) := by decide +kernel
theorem dX3_more_16 : decode cX3_more 16 = .ok (.if_icmp .ge 77, 3) := by decide +kernel
theorem dX3_more_19 : decode cX3_more 19 = .ok (.aload_n 0, 1) := by decide +kernel
theorem dX3_more_20 : decode cX3_more 20 = .ok (.getfield 11, 3) := by decide +kernel
theorem dX3_more_23 : decode cX3_more 23 = .ok (.iload_n 1, 1) := by decide +kernel
theorem dX3_more_24 : decode cX3_more 24 = .ok (.aaload, 1) := by decide +kernel
theorem dX3_more_25 : decode cX3_more 25 = .ok (.iload 5, 2) := by decide +kernel
theorem dX3_more_27 : decode cX3_more 27 = .ok (.iaload, 1) := by decide +kernel
theorem dX3_more_28 : decode cX3_more 28 = .ok (.iload_n 2, 1) := by decide +kernel
theorem dX3_more_29 : decode cX3_more 29 = .ok (.if_icmp .eq 6, 3) := by decide +kernel
theorem dX3_more_32 : decode cX3_more 32 = .ok (.goto 55, 3) := by decide +kernel
theorem dX3_more_35 : decode cX3_more 35 = .ok (.iconst 1, 1) := by decide +kernel
theorem dX3_more_36 : decode cX3_more 36 = .ok (.istore 6, 2) := by decide +kernel
theorem dX3_more_38 : decode cX3_more 38 = .ok (.iload 5, 2) := by decide +kernel
theorem dX3_more_40 : decode cX3_more 40 = .ok (.iload 6, 2) := by decide +kernel
theorem dX3_more_42 : decode cX3_more 42 = .ok (.isub, 1) := by decide +kernel
theorem dX3_more_43 : decode cX3_more 43 = .ok (.ifCond .lt 35, 3) := by decide +kernel
theorem dX3_more_46 : decode cX3_more 46 = .ok (.aload_n 0, 1) := by decide +kernel
theorem dX3_more_47 : decode cX3_more 47 = .ok (.getfield 11, 3) := by decide +kernel
theorem dX3_more_50 : decode cX3_more 50 = .ok (.iload_n 1, 1) := by decide +kernel
theorem dX3_more_51 : decode cX3_more 51 = .ok (.aaload, 1) := by decide +kernel
theorem dX3_more_52 : decode cX3_more 52 = .ok (.iload 5, 2) := by decide +kernel
theorem dX3_more_54 : decode cX3_more 54 = .ok (.iload 6, 2) := by decide +kernel
theorem dX3_more_56 : decode cX3_more 56 = .ok (.isub, 1) := by decide +kernel
theorem dX3_more_57 : decode cX3_more 57 = .ok (.iaload, 1) := by decide +kernel
theorem dX3_more_58 : decode cX3_more 58 = .ok (.aload_n 0, 1) := by decide +kernel
theorem dX3_more_59 : decode cX3_more 59 = .ok (.getfield 11, 3) := by decide +kernel
theorem dX3_more_62 : decode cX3_more 62 = .ok (.iload_n 1, 1) := by decide +kernel
theorem dX3_more_63 : decode cX3_more 63 = .ok (.aaload, 1) := by decide +kernel
theorem dX3_more_64 : decode cX3_more 64 = .ok (.iload_n 3, 1) := by decide +kernel
theorem dX3_more_65 : decode cX3_more 65 = .ok (.iload 6, 2) := by decide +kernel
theorem dX3_more_67 : decode cX3_more 67 = .ok (.isub, 1) := by decide +kernel
theorem dX3_more_68 : decode cX3_more 68 = .ok (.iaload, 1) := by decide +kernel
theorem dX3_more_69 : decode cX3_more 69 = .ok (.if_icmp .ne 9, 3) := by decide +kernel
theorem dX3_more_72 : decode cX3_more 72 = .ok (.iinc 6 1, 3) := by decide +kernel
theorem dX3_more_75 : decode cX3_more 75 = .ok (.goto (-37), 3) := by decide +kernel
theorem dX3_more_78 : decode cX3_more 78 = .ok (.iload 4, 2) := by decide +kernel
theorem dX3_more_80 : decode cX3_more 80 = .ok (.iload 6, 2) := by decide +kernel
theorem dX3_more_82 : decode cX3_more 82 = .ok (.invokestatic 61, 3) := by decide +kernel
theorem dX3_more_85 : decode cX3_more 85 = .ok (.istore 4, 2) := by decide +kernel
theorem dX3_more_87 : decode cX3_more 87 = .ok (.iinc 5 1, 3) := by decide +kernel
theorem dX3_more_90 : decode cX3_more 90 = .ok (.goto (-77), 3) := by decide +kernel
theorem dX3_more_93 : decode cX3_more 93 = .ok (.iload_n 3, 1) := by decide +kernel
theorem dX3_more_94 : decode cX3_more 94 = .ok (.iconst 1, 1) := by decide +kernel
theorem dX3_more_95 : decode cX3_more 95 = .ok (.iadd, 1) := by decide +kernel
theorem dX3_more_96 : decode cX3_more 96 = .ok (.iload 4, 2) := by decide +kernel
theorem dX3_more_98 : decode cX3_more 98 = .ok (.isub, 1) := by decide +kernel
theorem dX3_more_99 : decode cX3_more 99 = .ok (.ireturn, 1) := by decide +kernel
set_option maxRecDepth 20000 in
theorem ggX3_sew_X3_isHem : GoodIn wsX3_sew wsX3_isHem := goodIn_r _ [7, 8, 9, 6, 10] (by decide +kernel) (by decide +kernel)
set_option maxRecDepth 20000 in
theorem gX3_sew_X3_isHem : GoodIn wsX3_sew (va_wsS RX3 38 yX3_isHem wsX3_isHem) := goodIn_app (goodIn_of _ (by decide +kernel)) ggX3_sew_X3_isHem
set_option maxRecDepth 20000 in
theorem ggX3_sew_X3_no : GoodIn wsX3_sew wsX3_no := goodIn_r _ [14, 1, 18, 19, 20, 21, 22, 23, 24, 25] (by decide +kernel) (by decide +kernel)
set_option maxRecDepth 20000 in
theorem gX3_sew_X3_no : GoodIn wsX3_sew (wsV RX3 99 RX3 yX3_no wsX3_no) := goodIn_app (goodIn_of _ (by decide +kernel)) ggX3_sew_X3_no
set_option maxRecDepth 20000 in
theorem ggX3_sew_X3_isStitch : GoodIn wsX3_sew wsX3_isStitch := goodIn_r _ [17, 8, 9, 6, 10] (by decide +kernel) (by decide +kernel)
set_option maxRecDepth 20000 in
theorem gX3_sew_X3_isStitch : GoodIn wsX3_sew (va_wsS RX3 102 yX3_isStitch wsX3_isStitch) := goodIn_app (goodIn_of _ (by decide +kernel)) ggX3_sew_X3_isStitch
theorem dX3_sew_0 : decode cX3_sew 0 = .ok (.aload_n 0, 1) := by decide +kernel
theorem dX3_sew_1 : decode cX3_sew 1 = .ok (.iconst 0, 1) := by decide +kernel
theorem dX3_sew_2 : decode cX3_sew 2 = .ok (.putfield 30, 3) := by decide +kernel
theorem dX3_sew_5 : decode cX3_sew 5 = .ok (.iload_n 1, 1) := by decide +kernel
theorem dX3_sew_6 : decode cX3_sew 6 = .ok (.invokestatic 38, 3) := by decide +kernel
theorem dX3_sew_9 : decode cX3_sew 9 = .ok (.ifCond .ne 9, 3) := by decide +kernel
theorem dX3_sew_12 : decode cX3_sew 12 = .ok (.aload_n 0, 1) := by decide +kernel
theorem dX3_sew_13 : decode cX3_sew 13 = .ok (.iconst 1, 1) := by decide +kernel
theorem dX3_sew_14 : decode cX3_sew 14 = .ok (.invokevirtual 99, 3) := by decide +kernel
theorem dX3_sew_17 : decode cX3_sew 17 = .ok (.ireturn, 1) := by decide +kernel
theorem dX3_sew_18 : decode cX3_sew 18 = .ok (.iload_n 2, 1) := by decide +kernel
theorem dX3_sew_19 : decode cX3_sew 19 = .ok (.invokestatic 102, 3) := by decide +kernel
theorem dX3_sew_22 : decode cX3_sew 22 = .ok (.ifCond .ne 9, 3) := by decide +kernel
theorem dX3_sew_25 : decode cX3_sew 25 = .ok (.aload_n 0, 1) := by decide +kernel
theorem dX3_sew_26 : decode cX3_sew 26 = .ok (.iconst 2, 1) := by decide +kernel
theorem dX3_sew_27 : decode cX3_sew 27 = .ok (.invokevirtual 99, 3) := by decide +kernel
theorem dX3_sew_30 : decode cX3_sew 30 = .ok (.ireturn, 1) := by decide +kernel
theorem dX3_sew_31 : decode cX3_sew 31 = .ok (.aload_n 0, 1) := by decide +kernel
theorem dX3_sew_32 : decode cX3_sew 32 = .ok (.getfield 14, 3) := by decide +kernel
theorem dX3_sew_35 : decode cX3_sew 35 = .ok (.iload_n 1, 1) := by decide +kernel
theorem dX3_sew_36 : decode cX3_sew 36 = .ok (.iaload, 1) := by decide +kernel
theorem dX3_sew_37 : decode cX3_sew 37 = .ok (.bipush 40, 2) := by decide +kernel
theorem dX3_sew_39 : decode cX3_sew 39 = .ok (.if_icmp .ne 9, 3) := by decide +kernel
theorem dX3_sew_42 : decode cX3_sew 42 = .ok (.aload_n 0, 1) := by decide +kernel
theorem dX3_sew_43 : decode cX3_sew 43 = .ok (.iconst 3, 1) := by decide +kernel
theorem dX3_sew_44 : decode cX3_sew 44 = .ok (.invokevirtual 99, 3) := by decide +kernel
theorem dX3_sew_47 : decode cX3_sew 47 = .ok (.ireturn, 1) := by decide +kernel
theorem dX3_sew_48 : decode cX3_sew 48 = .ok (.aload_n 0, 1) := by decide +kernel
theorem dX3_sew_49 : decode cX3_sew 49 = .ok (.getfield 11, 3) := by decide +kernel
theorem dX3_sew_52 : decode cX3_sew 52 = .ok (.iload_n 1, 1) := by decide +kernel
theorem dX3_sew_53 : decode cX3_sew 53 = .ok (.aaload, 1) := by decide +kernel
theorem dX3_sew_54 : decode cX3_sew 54 = .ok (.aload_n 0, 1) := by decide +kernel
theorem dX3_sew_55 : decode cX3_sew 55 = .ok (.getfield 14, 3) := by decide +kernel
theorem dX3_sew_58 : decode cX3_sew 58 = .ok (.iload_n 1, 1) := by decide +kernel
theorem dX3_sew_59 : decode cX3_sew 59 = .ok (.iaload, 1) := by decide +kernel
theorem dX3_sew_60 : decode cX3_sew 60 = .ok (.iload_n 2, 1) := by decide +kernel
theorem dX3_sew_61 : decode cX3_sew 61 = .ok (.iastore, 1) := by decide +kernel
theorem dX3_sew_62 : decode cX3_sew 62 = .ok (.aload_n 0, 1) := by decide +kernel
theorem dX3_sew_63 : decode cX3_sew 63 = .ok (.getfield 14, 3) := by decide +kernel
theorem dX3_sew_66 : decode cX3_sew 66 = .ok (.iload_n 1, 1) := by decide +kernel
theorem dX3_sew_67 : decode cX3_sew 67 = .ok (.dup2, 1) := by decide +kernel
theorem dX3_sew_68 : decode cX3_sew 68 = .ok (.iaload, 1) := by decide +kernel
theorem dX3_sew_69 : decode cX3_sew 69 = .ok (.iconst 1, 1) := by decide +kernel
theorem dX3_sew_70 : decode cX3_sew 70 = .ok (.iadd, 1) := by decide +kernel
theorem dX3_sew_71 : decode cX3_sew 71 = .ok (.iastore, 1) := by decide +kernel
theorem dX3_sew_72 : decode cX3_sew 72 = .ok (.aload_n 0, 1) := by decide +kernel
theorem dX3_sew_73 : decode cX3_sew 73 = .ok (.getfield 14, 3) := by decide +kernel
theorem dX3_sew_76 : decode cX3_sew 76 = .ok (.iload_n 1, 1) := by decide +kernel
theorem dX3_sew_77 : decode cX3_sew 77 = .ok (.iaload, 1) := by decide +kernel
theorem dX3_sew_78 : decode cX3_sew 78 = .ok (.ireturn, 1) := by decide +kernel
set_option maxRecDepth 20000 in
theorem ggX3_again_X3_isHem : GoodIn wsX3_again wsX3_isHem := goodIn_r _ [7, 8, 9, 6, 10] (by decide +kernel) (by decide +kernel)
set_option maxRecDepth 20000 in
theorem gX3_again_X3_isHem : GoodIn wsX3_again (va_wsS RX3 38 yX3_isHem wsX3_isHem) := goodIn_app (goodIn_of _ (by decide +kernel)) ggX3_again_X3_isHem
set_option maxRecDepth 20000 in
theorem ggX3_again_X3_no : GoodIn wsX3_again wsX3_no := goodIn_r _ [14, 1, 15, 16, 17, 18, 19, 20, 21, 22] (by decide +kernel) (by decide +kernel)
set_option maxRecDepth 20000 in
theorem gX3_again_X3_no : GoodIn wsX3_again (wsV RX3 99 RX3 yX3_no wsX3_no) := goodIn_app (goodIn_of _ (by decide +kernel)) ggX3_again_X3_no
set_option maxRecDepth 20000 in
theorem ggX3_again_X3_isIn : GoodIn wsX3_again wsX3_isIn := goodIn_r _ [10] (by decide +kernel) (by decide +kernel)
set_option maxRecDepth 20000 in
theorem gX3_again_X3_isIn : GoodIn wsX3_again (va_wsS RX3 34 yX3_isIn wsX3_isIn) := goodIn_app (goodIn_of _ (by decide +kernel)) ggX3_again_X3_isIn
theorem dX3_again_0 : decode cX3_again 0 = .ok (.aload_n 0, 1) := by decide +kernel
theorem dX3_again_1 : decode cX3_again 1 = .ok (.iconst 0, 1) := by decide +kernel
theorem dX3_again_2 : decode cX3_again 2 = .ok (.putfield 30, 3) := by decide +kernel
theorem dX3_again_5 : decode cX3_again 5 = .ok (.iload_n 1, 1) := by decide +kernel
theorem dX3_again_6 : decode cX3_again 6 = .ok (.invokestatic 38, 3) := by decide +kernel
theorem dX3_again_9 : decode cX3_again 9 = .ok (.ifCond .ne 9, 3) := by decide +kernel
theorem dX3_again_12 : decode cX3_again 12 = .ok (.aload_n 0, 1) := by decide +kernel
theorem dX3_again_13 : decode cX3_again 13 = .ok (.iconst 1, 1) := by decide +kernel
theorem dX3_again_14 : decode cX3_again 14 = .ok (.invokevirtual 99, 3) := by decide +kernel
theorem dX3_again_17 : decode cX3_again 17 = .ok (.ireturn, 1) := by decide +kernel
theorem dX3_again_18 : decode cX3_again 18 = .ok (.iload_n 2, 1) := by decide +kernel
theorem dX3_again_19 : decode cX3_again 19 = .ok (.iconst 1, 1) := by decide +kernel
theorem dX3_again_20 : decode cX3_again 20 = .ok (.bipush 40, 2) := by decide +kernel
theorem dX3_again_22 : decode cX3_again 22 = .ok (.invokestatic 34, 3) := by decide +kernel
theorem dX3_again_25 : decode cX3_again 25 = .ok (.ifCond .ne 9, 3) := by decide +kernel
theorem dX3_again_28 : decode cX3_again 28 = .ok (.aload_n 0, 1) := by decide +kernel
theorem dX3_again_29 : decode cX3_again 29 = .ok (.iconst 2, 1) := by decide +kernel
theorem dX3_again_30 : decode cX3_again 30 = .ok (.invokevirtual 99, 3) := by decide +kernel
theorem dX3_again_33 : decode cX3_again 33 = .ok (.ireturn, 1) := by decide +kernel
theorem dX3_again_34 : decode cX3_again 34 = .ok (.aload_n 0, 1) := by decide +kernel
theorem dX3_again_35 : decode cX3_again 35 = .ok (.getfield 14, 3) := by decide +kernel
theorem dX3_again_38 : decode cX3_again 38 = .ok (.iload_n 1, 1) := by decide +kernel
theorem dX3_again_39 : decode cX3_again 39 = .ok (.iaload, 1) := by decide +kernel
theorem dX3_again_40 : decode cX3_again 40 = .ok (.ifCond .eq 16, 3) := by decide +kernel
theorem dX3_again_43 : decode cX3_again 43 = .ok (.aload_n 0, 1) := by decide +kernel
theorem dX3_again_44 : decode cX3_again 44 = .ok (.getfield 14, 3) := by decide +kernel
theorem dX3_again_47 : decode cX3_again 47 = .ok (.iload_n 1, 1) := by decide +kernel
theorem dX3_again_48 : decode cX3_again 48 = .ok (.iaload, 1) := by decide +kernel
theorem dX3_again_49 : decode cX3_again 49 = .ok (.iload_n 2, 1) := by decide +kernel
theorem dX3_again_50 : decode cX3_again 50 = .ok (.iadd, 1) := by decide +kernel
theorem dX3_again_51 : decode cX3_again 51 = .ok (.bipush 40, 2) := by decide +kernel
theorem dX3_again_53 : decode cX3_again 53 = .ok (.if_icmp .le 9, 3) := by decide +kernel
theorem dX3_again_56 : decode cX3_again 56 = .ok (.aload_n 0, 1) := by decide +kernel
theorem dX3_again_57 : decode cX3_again 57 = .ok (.iconst 3, 1) := by decide +kernel
theorem dX3_again_58 : decode cX3_again 58 = .ok (.invokevirtual 99, 3) := by decide +kernel
theorem dX3_again_61 : decode cX3_again 61 = .ok (.ireturn, 1) := by decide +kernel
theorem dX3_again_62 : decode cX3_again 62 = .ok (.aload_n 0, 1) := by decide +kernel
theorem dX3_again_63 : decode cX3_again 63 = .ok (.getfield 14, 3) := by decide +kernel
theorem dX3_again_66 : decode cX3_again 66 = .ok (.iload_n 1, 1) := by decide +kernel
theorem dX3_again_67 : decode cX3_again 67 = .ok (.iaload, 1) := by decide +kernel
theorem dX3_again_68 : decode cX3_again 68 = .ok (.istore_n 3, 1) := by decide +kernel
theorem dX3_again_69 : decode cX3_again 69 = .ok (.iconst 0, 1) := by decide +kernel
theorem dX3_again_70 : decode cX3_again 70 = .ok (.istore 4, 2) := by decide +kernel
theorem dX3_again_72 : decode cX3_again 72 = .ok (.iload 4, 2) := by decide +kernel
theorem dX3_again_74 : decode cX3_again 74 = .ok (.iload_n 2, 1) := by decide +kernel
theorem dX3_again_75 : decode cX3_again 75 = .ok (.if_icmp .ge 29, 3) := by decide +kernel
theorem dX3_again_78 : decode cX3_again 78 = .ok (.aload_n 0, 1) := by decide +kernel
theorem dX3_again_79 : decode cX3_again 79 = .ok (.getfield 11, 3) := by decide +kernel
theorem dX3_again_82 : decode cX3_again 82 = .ok (.iload_n 1, 1) := by decide +kernel
theorem dX3_again_83 : decode cX3_again 83 = .ok (.aaload, 1) := by decide +kernel
theorem dX3_again_84 : decode cX3_again 84 = .ok (.iload_n 3, 1) := by decide +kernel
theorem dX3_again_85 : decode cX3_again 85 = .ok (.iload 4, 2) := by decide +kernel
theorem dX3_again_87 : decode cX3_again 87 = .ok (.iadd, 1) := by decide +kernel
theorem dX3_again_88 : decode cX3_again 88 = .ok (.aload_n 0, 1) := by decide +kernel
theorem dX3_again_89 : decode cX3_again 89 = .ok (.getfield 11, 3) := by decide +kernel
theorem dX3_again_92 : decode cX3_again 92 = .ok (.iload_n 1, 1) := by decide +kernel
theorem dX3_again_93 : decode cX3_again 93 = .ok (.aaload, 1) := by decide +kernel
theorem dX3_again_94 : decode cX3_again 94 = .ok (.iload 4, 2) := by decide +kernel
theorem dX3_again_96 : decode cX3_again 96 = .ok (.iaload, 1) := by decide +kernel
theorem dX3_again_97 : decode cX3_again 97 = .ok (.iastore, 1) := by decide +kernel
theorem dX3_again_98 : decode cX3_again 98 = .ok (.iinc 4 1, 3) := by decide +kernel
theorem dX3_again_101 : decode cX3_again 101 = .ok (.goto (-29), 3) := by decide +kernel
theorem dX3_again_104 : decode cX3_again 104 = .ok (.aload_n 0, 1) := by decide +kernel
theorem dX3_again_105 : decode cX3_again 105 = .ok (.getfield 14, 3) := by decide +kernel
theorem dX3_again_108 : decode cX3_again 108 = .ok (.iload_n 1, 1) := by decide +kernel
theorem dX3_again_109 : decode cX3_again 109 = .ok (.dup2, 1) := by decide +kernel
theorem dX3_again_110 : decode cX3_again 110 = .ok (.iaload, 1) := by decide +kernel
theorem dX3_again_111 : decode cX3_again 111 = .ok (.iload_n 2, 1) := by decide +kernel
theorem dX3_again_112 : decode cX3_again 112 = .ok (.iadd, 1) := by decide +kernel
theorem dX3_again_113 : decode cX3_again 113 = .ok (.iastore, 1) := by decide +kernel
theorem dX3_again_114 : decode cX3_again 114 = .ok (.aload_n 0, 1) := by decide +kernel
theorem dX3_again_115 : decode cX3_again 115 = .ok (.getfield 14, 3) := by decide +kernel
theorem dX3_again_118 : decode cX3_again 118 = .ok (.iload_n 1, 1) := by decide +kernel
theorem dX3_again_119 : decode cX3_again 119 = .ok (.iaload, 1) := by decide +kernel
theorem dX3_again_120 : decode cX3_again 120 = .ok (.ireturn, 1) := by decide +kernel
set_option maxRecDepth 20000 in
theorem ggX3_unpick_X3_isHem : GoodIn wsX3_unpick wsX3_isHem := goodIn_r _ [6, 7, 8, 5, 9] (by decide +kernel) (by decide +kernel)
set_option maxRecDepth 20000 in
theorem gX3_unpick_X3_isHem : GoodIn wsX3_unpick (va_wsS RX3 38 yX3_isHem wsX3_isHem) := goodIn_app (goodIn_of _ (by decide +kernel)) ggX3_unpick_X3_isHem
set_option maxRecDepth 20000 in
theorem ggX3_unpick_X3_no : GoodIn wsX3_unpick wsX3_no := goodIn_r _ [13, 1, 14, 15, 16, 17, 18, 19, 20, 21] (by decide +kernel) (by decide +kernel)
set_option maxRecDepth 20000 in
theorem gX3_unpick_X3_no : GoodIn wsX3_unpick (wsV RX3 99 RX3 yX3_no wsX3_no) := goodIn_app (goodIn_of _ (by decide +kernel)) ggX3_unpick_X3_no
set_option maxRecDepth 20000 in
theorem ggX3_unpick_X3_isIn : GoodIn wsX3_unpick wsX3_isIn := goodIn_r _ [9] (by decide +kernel) (by decide +kernel)
set_option maxRecDepth 20000 in
theorem gX3_unpick_X3_isIn : GoodIn wsX3_unpick (va_wsS RX3 34 yX3_isIn wsX3_isIn) := goodIn_app (goodIn_of _ (by decide +kernel)) ggX3_unpick_X3_isIn
theorem dX3_unpick_0 : decode cX3_unpick 0 = .ok (.aload_n 0, 1) := by decide +kernel
theorem dX3_unpick_1 : decode cX3_unpick 1 = .ok (.iconst 0, 1) := by decide +kernel
theorem dX3_unpick_2 : decode cX3_unpick 2 = .ok (.putfield 30, 3) := by decide +kernel
theorem dX3_unpick_5 : decode cX3_unpick 5 = .ok (.iload_n 1, 1) := by decide +kernel
theorem dX3_unpick_6 : decode cX3_unpick 6 = .ok (.invokestatic 38, 3) := by decide +kernel
theorem dX3_unpick_9 : decode cX3_unpick 9 = .ok (.ifCond .ne 9, 3) := by decide +kernel
theorem dX3_unpick_12 : decode cX3_unpick 12 = .ok (.aload_n 0, 1) := by decide +kernel
theorem dX3_unpick_13 : decode cX3_unpick 13 = .ok (.iconst 1, 1) := by decide +kernel
theorem dX3_unpick_14 : decode cX3_unpick 14 = .ok (.invokevirtual 99, 3) := by decide +kernel
theorem dX3_unpick_17 : decode cX3_unpick 17 = .ok (.ireturn, 1) := by decide +kernel
theorem dX3_unpick_18 : decode cX3_unpick 18 = .ok (.iload_n 2, 1) := by decide +kernel
theorem dX3_unpick_19 : decode cX3_unpick 19 = .ok (.iconst 1, 1) := by decide +kernel
theorem dX3_unpick_20 : decode cX3_unpick 20 = .ok (.aload_n 0, 1) := by decide +kernel
theorem dX3_unpick_21 : decode cX3_unpick 21 = .ok (.getfield 14, 3) := by decide +kernel
theorem dX3_unpick_24 : decode cX3_unpick 24 = .ok (.iload_n 1, 1) := by decide +kernel
theorem dX3_unpick_25 : decode cX3_unpick 25 = .ok (.iaload, 1) := by decide +kernel
theorem dX3_unpick_26 : decode cX3_unpick 26 = .ok (.invokestatic 34, 3) := by decide +kernel
theorem dX3_unpick_29 : decode cX3_unpick 29 = .ok (.ifCond .ne 9, 3) := by decide +kernel
theorem dX3_unpick_32 : decode cX3_unpick 32 = .ok (.aload_n 0, 1) := by decide +kernel
theorem dX3_unpick_33 : decode cX3_unpick 33 = .ok (.iconst 2, 1) := by decide +kernel
theorem dX3_unpick_34 : decode cX3_unpick 34 = .ok (.invokevirtual 99, 3) := by decide +kernel
theorem dX3_unpick_37 : decode cX3_unpick 37 = .ok (.ireturn, 1) := by decide +kernel
theorem dX3_unpick_38 : decode cX3_unpick 38 = .ok (.aload_n 0, 1) := by decide +kernel
theorem dX3_unpick_39 : decode cX3_unpick 39 = .ok (.getfield 14, 3) := by decide +kernel
theorem dX3_unpick_42 : decode cX3_unpick 42 = .ok (.iload_n 1, 1) := by decide +kernel
theorem dX3_unpick_43 : decode cX3_unpick 43 = .ok (.dup2, 1) := by decide +kernel
theorem dX3_unpick_44 : decode cX3_unpick 44 = .ok (.iaload, 1) := by decide +kernel
theorem dX3_unpick_45 : decode cX3_unpick 45 = .ok (.iload_n 2, 1) := by decide +kernel
theorem dX3_unpick_46 : decode cX3_unpick 46 = .ok (.isub, 1) := by decide +kernel
theorem dX3_unpick_47 : decode cX3_unpick 47 = .ok (.iastore, 1) := by decide +kernel
theorem dX3_unpick_48 : decode cX3_unpick 48 = .ok (.aload_n 0, 1) := by decide +kernel
theorem dX3_unpick_49 : decode cX3_unpick 49 = .ok (.getfield 14, 3) := by decide +kernel
theorem dX3_unpick_52 : decode cX3_unpick 52 = .ok (.iload_n 1, 1) := by decide +kernel
theorem dX3_unpick_53 : decode cX3_unpick 53 = .ok (.iaload, 1) := by decide +kernel
theorem dX3_unpick_54 : decode cX3_unpick 54 = .ok (.ireturn, 1) := by decide +kernel
set_option maxRecDepth 20000 in
theorem ggX3_add_X3_isStitch : GoodIn wsX3_add wsX3_isStitch := goodIn_r _ [7, 8, 9, 6, 10] (by decide +kernel) (by decide +kernel)
set_option maxRecDepth 20000 in
theorem gX3_add_X3_isStitch : GoodIn wsX3_add (va_wsS RX3 102 yX3_isStitch wsX3_isStitch) := goodIn_app (goodIn_of _ (by decide +kernel)) ggX3_add_X3_isStitch
set_option maxRecDepth 20000 in
theorem ggX3_add_X3_no : GoodIn wsX3_add wsX3_no := goodIn_r _ [14, 1, 15, 16, 17, 18, 19, 20, 21, 22] (by decide +kernel) (by decide +kernel)
set_option maxRecDepth 20000 in
theorem gX3_add_X3_no : GoodIn wsX3_add (wsV RX3 99 RX3 yX3_no wsX3_no) := goodIn_app (goodIn_of _ (by decide +kernel)) ggX3_add_X3_no
theorem dX3_add_0 : decode cX3_add 0 = .ok (.aload_n 0, 1) := by decide +kernel
theorem dX3_add_1 : decode cX3_add 1 = .ok (.iconst 0, 1) := by decide +kernel
theorem dX3_add_2 : decode cX3_add 2 = .ok (.putfield 30, 3) := by decide +kernel
theorem dX3_add_5 : decode cX3_add 5 = .ok (.iload_n 1, 1) := by decide +kernel
theorem dX3_add_6 : decode cX3_add 6 = .ok (.invokestatic 102, 3) := by decide +kernel
theorem dX3_add_9 : decode cX3_add 9 = .ok (.ifCond .ne 9, 3) := by decide +kernel
theorem dX3_add_12 : decode cX3_add 12 = .ok (.aload_n 0, 1) := by decide +kernel
theorem dX3_add_13 : decode cX3_add 13 = .ok (.iconst 1, 1) := by decide +kernel
theorem dX3_add_14 : decode cX3_add 14 = .ok (.invokevirtual 99, 3) := by decide +kernel
theorem dX3_add_17 : decode cX3_add 17 = .ok (.ireturn, 1) := by decide +kernel
theorem dX3_add_18 : decode cX3_add 18 = .ok (.aload_n 0, 1) := by decide +kernel
theorem dX3_add_19 : decode cX3_add 19 = .ok (.getfield 83, 3) := by decide +kernel
theorem dX3_add_22 : decode cX3_add 22 = .ok (.bipush 12, 2) := by decide +kernel
theorem dX3_add_24 : decode cX3_add 24 = .ok (.if_icmp .ne 9, 3) := by decide +kernel
theorem dX3_add_27 : decode cX3_add 27 = .ok (.aload_n 0, 1) := by decide +kernel
theorem dX3_add_28 : decode cX3_add 28 = .ok (.iconst 2, 1) := by decide +kernel
theorem dX3_add_29 : decode cX3_add 29 = .ok (.invokevirtual 99, 3) := by decide +kernel
theorem dX3_add_32 : decode cX3_add 32 = .ok (.ireturn, 1) := by decide +kernel
theorem dX3_add_33 : decode cX3_add 33 = .ok (.aload_n 0, 1) := by decide +kernel
theorem dX3_add_34 : decode cX3_add 34 = .ok (.getfield 18, 3) := by decide +kernel
theorem dX3_add_37 : decode cX3_add 37 = .ok (.aload_n 0, 1) := by decide +kernel
theorem dX3_add_38 : decode cX3_add 38 = .ok (.getfield 83, 3) := by decide +kernel
theorem dX3_add_41 : decode cX3_add 41 = .ok (.iload_n 1, 1) := by decide +kernel
theorem dX3_add_42 : decode cX3_add 42 = .ok (.iastore, 1) := by decide +kernel
theorem dX3_add_43 : decode cX3_add 43 = .ok (.aload_n 0, 1) := by decide +kernel
theorem dX3_add_44 : decode cX3_add 44 = .ok (.dup, 1) := by decide +kernel
theorem dX3_add_45 : decode cX3_add 45 = .ok (.getfield 83, 3) := by decide +kernel
theorem dX3_add_48 : decode cX3_add 48 = .ok (.iconst 1, 1) := by decide +kernel
theorem dX3_add_49 : decode cX3_add 49 = .ok (.iadd, 1) := by decide +kernel
theorem dX3_add_50 : decode cX3_add 50 = .ok (.putfield 83, 3) := by decide +kernel
theorem dX3_add_53 : decode cX3_add 53 = .ok (.aload_n 0, 1) := by decide +kernel
theorem dX3_add_54 : decode cX3_add 54 = .ok (.getfield 83, 3) := by decide +kernel
theorem dX3_add_57 : decode cX3_add 57 = .ok (.ireturn, 1) := by decide +kernel
theorem dX3_clear_0 : decode cX3_clear 0 = .ok (.aload_n 0, 1) := by decide +kernel
theorem dX3_clear_1 : decode cX3_clear 1 = .ok (.iconst 0, 1) := by decide +kernel
theorem dX3_clear_2 : decode cX3_clear 2 = .ok (.putfield 30, 3) := by decide +kernel
theorem dX3_clear_5 : decode cX3_clear 5 = .ok (.aload_n 0, 1) := by decide +kernel
theorem dX3_clear_6 : decode cX3_clear 6 = .ok (.getfield 83, 3) := by decide +kernel
theorem dX3_clear_9 : decode cX3_clear 9 = .ok (.istore_n 1, 1) := by decide +kernel
theorem dX3_clear_10 : decode cX3_clear 10 = .ok (.aload_n 0, 1) := by decide +kernel
theorem dX3_clear_11 : decode cX3_clear 11 = .ok (.iconst 0, 1) := by decide +kernel
theorem dX3_clear_12 : decode cX3_clear 12 = .ok (.putfield 83, 3) := by decide +kernel
theorem dX3_clear_15 : decode cX3_clear 15 = .ok (.iload_n 1, 1) := by decide +kernel
theorem dX3_clear_16 : decode cX3_clear 16 = .ok (.ireturn, 1) := by decide +kernel
set_option maxRecDepth 20000 in
theorem ggX3_stitch_X3_isPlace : GoodIn wsX3_stitch wsX3_isPlace := goodIn_r _ [7, 8, 9, 10, 6, 11, 12, 13, 14, 19, 20, 21, 22, 23, 24, 25, 26] (by decide +kernel) (by decide +kernel)
set_option maxRecDepth 20000 in
theorem gX3_stitch_X3_isPlace : GoodIn wsX3_stitch (wsV RX3 105 RX3 yX3_isPlace wsX3_isPlace) := goodIn_app (goodIn_of _ (by decide +kernel)) ggX3_stitch_X3_isPlace
set_option maxRecDepth 20000 in
theorem ggX3_stitch_X3_no : GoodIn wsX3_stitch wsX3_no := goodIn_r _ [18, 1, 19, 20, 21, 22, 23, 24, 25, 26] (by decide +kernel) (by decide +kernel)
set_option maxRecDepth 20000 in
theorem gX3_stitch_X3_no : GoodIn wsX3_stitch (wsV RX3 99 RX3 yX3_no wsX3_no) := goodIn_app (goodIn_of _ (by decide +kernel)) ggX3_stitch_X3_no
theorem dX3_stitch_0 : decode cX3_stitch 0 = .ok (.aload_n 0, 1) := by decide +kernel
theorem dX3_stitch_1 : decode cX3_stitch 1 = .ok (.iconst 0, 1) := by decide +kernel
theorem dX3_stitch_2 : decode cX3_stitch 2 = .ok (.putfield 30, 3) := by decide +kernel
theorem dX3_stitch_5 : decode cX3_stitch 5 = .ok (.aload_n 0, 1) := by decide +kernel
theorem dX3_stitch_6 : decode cX3_stitch 6 = .ok (.iload_n 1, 1) := by decide +kernel
theorem dX3_stitch_7 : decode cX3_stitch 7 = .ok (.iload_n 2, 1) := by decide +kernel
theorem dX3_stitch_8 : decode cX3_stitch 8 = .ok (.invokevirtual 105, 3) := by decide +kernel
theorem dX3_stitch_11 : decode cX3_stitch 11 = .ok (.ifCond .eq 14, 3) := by decide +kernel
theorem dX3_stitch_14 : decode cX3_stitch 14 = .ok (.aload_n 0, 1) := by decide +kernel
theorem dX3_stitch_15 : decode cX3_stitch 15 = .ok (.getfield 11, 3) := by decide +kernel
theorem dX3_stitch_18 : decode cX3_stitch 18 = .ok (.iload_n 1, 1) := by decide +kernel
theorem dX3_stitch_19 : decode cX3_stitch 19 = .ok (.aaload, 1) := by decide +kernel
theorem dX3_stitch_20 : decode cX3_stitch 20 = .ok (.iload_n 2, 1) := by decide +kernel
theorem dX3_stitch_21 : decode cX3_stitch 21 = .ok (.iaload, 1) := by decide +kernel
theorem dX3_stitch_22 : decode cX3_stitch 22 = .ok (.goto 8, 3) := by decide +kernel
theorem dX3_stitch_25 : decode cX3_stitch 25 = .ok (.aload_n 0, 1) := by decide +kernel
theorem dX3_stitch_26 : decode cX3_stitch 26 = .ok (.iconst 1, 1) := by decide +kernel
theorem dX3_stitch_27 : decode cX3_stitch 27 = .ok (.invokevirtual 99, 3) := by decide +kernel
theorem dX3_stitch_30 : decode cX3_stitch 30 = .ok (.ireturn, 1) := by decide +kernel
set_option maxRecDepth 20000 in
theorem ggX3_counted_X3_differentRows : GoodIn wsX3_counted wsX3_differentRows := goodIn_r _ [7, 1, 8, 9, 10, 6, 11, 12, 13, 14, 15, 16, 17, 18, 19, 20, 21, 22, 23, 24, 45, 46, 47, 48, 49, 50, 51, 52] (by decide +kernel) (by decide +kernel)
set_option maxRecDepth 20000 in
theorem gX3_counted_X3_differentRows : GoodIn wsX3_counted (wsV RX3 108 RX3 yX3_differentRows wsX3_differentRows) := goodIn_app (goodIn_of _ (by decide +kernel)) ggX3_counted_X3_differentRows
set_option maxRecDepth 20000 in
theorem ggX3_counted_X3_seamTold : GoodIn wsX3_counted wsX3_seamTold := goodIn_r _ [28, 1, 13, 29, 8, 9, 10, 6, 11, 12, 14, 15, 16, 30, 31, 32, 33, 34, 35, 36, 37, 21, 22, 23, 24, 38, 39, 40, 41, 42, 43, 44, 45, 46, 47, 48, 49, 50, 51, 52] (by decide +kernel) (by decide +kernel)
set_option maxRecDepth 20000 in
theorem gX3_counted_X3_seamTold : GoodIn wsX3_counted (wsV RX3 111 RX3 yX3_seamTold wsX3_seamTold) := goodIn_app (goodIn_of _ (by decide +kernel)) ggX3_counted_X3_seamTold
theorem dX3_counted_0 : decode cX3_counted 0 = .ok (.iload_n 1, 1) := by decide +kernel
theorem dX3_counted_1 : decode cX3_counted 1 = .ok (.iconst 2, 1) := by decide +kernel
theorem dX3_counted_2 : decode cX3_counted 2 = .ok (.if_icmp .ge 12, 3) := by decide +kernel
theorem dX3_counted_5 : decode cX3_counted 5 = .ok (.aload_n 0, 1) := by decide +kernel
theorem dX3_counted_6 : decode cX3_counted 6 = .ok (.getfield 14, 3) := by decide +kernel
theorem dX3_counted_9 : decode cX3_counted 9 = .ok (.iload_n 1, 1) := by decide +kernel
theorem dX3_counted_10 : decode cX3_counted 10 = .ok (.iaload, 1) := by decide +kernel
theorem dX3_counted_11 : decode cX3_counted 11 = .ok (.goto 35, 3) := by decide +kernel
theorem dX3_counted_14 : decode cX3_counted 14 = .ok (.iload_n 1, 1) := by decide +kernel
theorem dX3_counted_15 : decode cX3_counted 15 = .ok (.iconst 2, 1) := by decide +kernel
theorem dX3_counted_16 : decode cX3_counted 16 = .ok (.if_icmp .ne 10, 3) := by decide +kernel
theorem dX3_counted_19 : decode cX3_counted 19 = .ok (.aload_n 0, 1) := by decide +kernel
theorem dX3_counted_20 : decode cX3_counted 20 = .ok (.getfield 83, 3) := by decide +kernel
theorem dX3_counted_23 : decode cX3_counted 23 = .ok (.goto 23, 3) := by decide +kernel
theorem dX3_counted_26 : decode cX3_counted 26 = .ok (.iload_n 1, 1) := by decide +kernel
theorem dX3_counted_27 : decode cX3_counted 27 = .ok (.iconst 5, 1) := by decide +kernel
theorem dX3_counted_28 : decode cX3_counted 28 = .ok (.if_icmp .ge 13, 3) := by decide +kernel
theorem dX3_counted_31 : decode cX3_counted 31 = .ok (.aload_n 0, 1) := by decide +kernel
theorem dX3_counted_32 : decode cX3_counted 32 = .ok (.iload_n 1, 1) := by decide +kernel
theorem dX3_counted_33 : decode cX3_counted 33 = .ok (.iconst 3, 1) := by decide +kernel
theorem dX3_counted_34 : decode cX3_counted 34 = .ok (.isub, 1) := by decide +kernel
theorem dX3_counted_35 : decode cX3_counted 35 = .ok (.invokevirtual 108, 3) := by decide +kernel
theorem dX3_counted_38 : decode cX3_counted 38 = .ok (.goto 8, 3) := by decide +kernel
theorem dX3_counted_41 : decode cX3_counted 41 = .ok (.aload_n 0, 1) := by decide +kernel
theorem dX3_counted_42 : decode cX3_counted 42 = .ok (.iconst 0, 1) := by decide +kernel
theorem dX3_counted_43 : decode cX3_counted 43 = .ok (.invokevirtual 111, 3) := by decide +kernel
theorem dX3_counted_46 : decode cX3_counted 46 = .ok (.ireturn, 1) := by decide +kernel
set_option maxRecDepth 20000 in
theorem ggX3_count_X3_isIn : GoodIn wsX3_count wsX3_isIn := goodIn_r _ [5] (by decide +kernel) (by decide +kernel)
set_option maxRecDepth 20000 in
theorem gX3_count_X3_isIn : GoodIn wsX3_count (va_wsS RX3 34 yX3_isIn wsX3_isIn) := goodIn_app (goodIn_of _ (by decide +kernel)) ggX3_count_X3_isIn
set_option maxRecDepth 20000 in
theorem ggX3_count_X3_counted : GoodIn wsX3_count wsX3_counted := goodIn_r _ [9, 10, 11, 12, 13, 14, 4, 15, 16, 17, 18, 19, 20, 21, 22, 23, 24, 25, 26, 27, 28, 29, 30, 31, 32, 33, 34, 35, 36, 37, 38, 39, 40, 41, 42, 43, 44, 45, 46, 47, 48, 49, 50, 51, 52, 57, 58, 59, 60, 61, 62, 63, 64] (by decide +kernel) (by decide +kernel)
set_option maxRecDepth 20000 in
theorem gX3_count_X3_counted : GoodIn wsX3_count (wsV RX3 114 RX3 yX3_counted wsX3_counted) := goodIn_app (goodIn_of _ (by decide +kernel)) ggX3_count_X3_counted
set_option maxRecDepth 20000 in
theorem ggX3_count_X3_no : GoodIn wsX3_count wsX3_no := goodIn_r _ [56, 1, 57, 58, 59, 60, 61, 62, 63, 64] (by decide +kernel) (by decide +kernel)
set_option maxRecDepth 20000 in
theorem gX3_count_X3_no : GoodIn wsX3_count (wsV RX3 99 RX3 yX3_no wsX3_no) := goodIn_app (goodIn_of _ (by decide +kernel)) ggX3_count_X3_no
theorem dX3_count_0 : decode cX3_count 0 = .ok (.aload_n 0, 1) := by decide +kernel
theorem dX3_count_1 : decode cX3_count 1 = .ok (.iconst 0, 1) := by decide +kernel
theorem dX3_count_2 : decode cX3_count 2 = .ok (.putfield 30, 3) := by decide +kernel
theorem dX3_count_5 : decode cX3_count 5 = .ok (.iload_n 1, 1) := by decide +kernel
theorem dX3_count_6 : decode cX3_count 6 = .ok (.iconst 0, 1) := by decide +kernel
theorem dX3_count_7 : decode cX3_count 7 = .ok (.iconst 5, 1) := by decide +kernel
theorem dX3_count_8 : decode cX3_count 8 = .ok (.invokestatic 34, 3) := by decide +kernel
theorem dX3_count_11 : decode cX3_count 11 = .ok (.ifCond .eq 11, 3) := by decide +kernel
theorem dX3_count_14 : decode cX3_count 14 = .ok (.aload_n 0, 1) := by decide +kernel
theorem dX3_count_15 : decode cX3_count 15 = .ok (.iload_n 1, 1) := by decide +kernel
theorem dX3_count_16 : decode cX3_count 16 = .ok (.invokevirtual 114, 3) := by decide +kernel
theorem dX3_count_19 : decode cX3_count 19 = .ok (.goto 8, 3) := by decide +kernel
theorem dX3_count_22 : decode cX3_count 22 = .ok (.aload_n 0, 1) := by decide +kernel
theorem dX3_count_23 : decode cX3_count 23 = .ok (.iconst 1, 1) := by decide +kernel
theorem dX3_count_24 : decode cX3_count 24 = .ok (.invokevirtual 99, 3) := by decide +kernel
theorem dX3_count_27 : decode cX3_count 27 = .ok (.ireturn, 1) := by decide +kernel
set_option maxRecDepth 20000 in
theorem ggX3_end_X3_isPlace : GoodIn wsX3_end wsX3_isPlace := goodIn_r _ [7, 8, 9, 10, 6, 11, 12, 13, 14, 43, 44, 45, 46, 47, 48, 49, 50] (by decide +kernel) (by decide +kernel)
set_option maxRecDepth 20000 in
theorem gX3_end_X3_isPlace : GoodIn wsX3_end (wsV RX3 105 RX3 yX3_isPlace wsX3_isPlace) := goodIn_app (goodIn_of _ (by decide +kernel)) ggX3_end_X3_isPlace
set_option maxRecDepth 20000 in
theorem ggX3_end_X3_no : GoodIn wsX3_end wsX3_no := goodIn_r _ [18, 1, 43, 44, 45, 46, 47, 48, 49, 50] (by decide +kernel) (by decide +kernel)
set_option maxRecDepth 20000 in
theorem gX3_end_X3_no : GoodIn wsX3_end (wsV RX3 99 RX3 yX3_no wsX3_no) := goodIn_app (goodIn_of _ (by decide +kernel)) ggX3_end_X3_no
set_option maxRecDepth 20000 in
theorem ggX3_end_X3_order : GoodIn wsX3_end wsX3_order := goodIn_r _ [22, 8, 2, 23, 24, 25, 6, 26, 27, 28, 29, 30, 31, 32, 33, 34, 35, 36, 37, 38, 39, 40, 41, 42, 43, 44, 45, 46, 47, 48, 49, 50] (by decide +kernel) (by decide +kernel)
set_option maxRecDepth 20000 in
theorem gX3_end_X3_order : GoodIn wsX3_end (wsV RX3 117 RX3 yX3_order wsX3_order) := goodIn_app (goodIn_of _ (by decide +kernel)) ggX3_end_X3_order
theorem dX3_end_0 : decode cX3_end 0 = .ok (.aload_n 0, 1) := by decide +kernel
theorem dX3_end_1 : decode cX3_end 1 = .ok (.iconst 0, 1) := by decide +kernel
theorem dX3_end_2 : decode cX3_end 2 = .ok (.putfield 30, 3) := by decide +kernel
theorem dX3_end_5 : decode cX3_end 5 = .ok (.aload_n 0, 1) := by decide +kernel
theorem dX3_end_6 : decode cX3_end 6 = .ok (.iload_n 1, 1) := by decide +kernel
theorem dX3_end_7 : decode cX3_end 7 = .ok (.iload_n 2, 1) := by decide +kernel
theorem dX3_end_8 : decode cX3_end 8 = .ok (.invokevirtual 105, 3) := by decide +kernel
theorem dX3_end_11 : decode cX3_end 11 = .ok (.ifCond .ne 9, 3) := by decide +kernel
theorem dX3_end_14 : decode cX3_end 14 = .ok (.aload_n 0, 1) := by decide +kernel
theorem dX3_end_15 : decode cX3_end 15 = .ok (.iconst 1, 1) := by decide +kernel
theorem dX3_end_16 : decode cX3_end 16 = .ok (.invokevirtual 99, 3) := by decide +kernel
theorem dX3_end_19 : decode cX3_end 19 = .ok (.ireturn, 1) := by decide +kernel
theorem dX3_end_20 : decode cX3_end 20 = .ok (.aload_n 0, 1) := by decide +kernel
theorem dX3_end_21 : decode cX3_end 21 = .ok (.iload_n 1, 1) := by decide +kernel
theorem dX3_end_22 : decode cX3_end 22 = .ok (.invokevirtual 117, 3) := by decide +kernel
theorem dX3_end_25 : decode cX3_end 25 = .ok (.aload_n 0, 1) := by decide +kernel
theorem dX3_end_26 : decode cX3_end 26 = .ok (.getfield 24, 3) := by decide +kernel
theorem dX3_end_29 : decode cX3_end 29 = .ok (.iload_n 2, 1) := by decide +kernel
theorem dX3_end_30 : decode cX3_end 30 = .ok (.iaload, 1) := by decide +kernel
theorem dX3_end_31 : decode cX3_end 31 = .ok (.ireturn, 1) := by decide +kernel
set_option maxRecDepth 20000 in
theorem ggX3_rank_X3_isPlace : GoodIn wsX3_rank wsX3_isPlace := goodIn_r _ [6, 7, 8, 9, 5, 10, 11, 12, 13, 38, 39, 40, 41, 42, 43, 44, 45] (by decide +kernel) (by decide +kernel)
set_option maxRecDepth 20000 in
theorem gX3_rank_X3_isPlace : GoodIn wsX3_rank (wsV RX3 105 RX3 yX3_isPlace wsX3_isPlace) := goodIn_app (goodIn_of _ (by decide +kernel)) ggX3_rank_X3_isPlace
set_option maxRecDepth 20000 in
theorem ggX3_rank_X3_no : GoodIn wsX3_rank wsX3_no := goodIn_r _ [17, 1, 38, 39, 40, 41, 42, 43, 44, 45] (by decide +kernel) (by decide +kernel)
set_option maxRecDepth 20000 in
theorem gX3_rank_X3_no : GoodIn wsX3_rank (wsV RX3 99 RX3 yX3_no wsX3_no) := goodIn_app (goodIn_of _ (by decide +kernel)) ggX3_rank_X3_no
set_option maxRecDepth 20000 in
theorem ggX3_rank_X3_look : GoodIn wsX3_rank wsX3_look := goodIn_r _ [21, 22, 7, 23, 24, 25, 5, 26, 38, 39, 40, 41, 42, 43, 44, 45] (by decide +kernel) (by decide +kernel)
set_option maxRecDepth 20000 in
theorem gX3_rank_X3_look : GoodIn wsX3_rank (wsV RX3 53 RX3 yX3_look wsX3_look) := goodIn_app (goodIn_of _ (by decide +kernel)) ggX3_rank_X3_look
set_option maxRecDepth 20000 in
theorem ggX3_rank_X3_rankOf : GoodIn wsX3_rank wsX3_rankOf := goodIn_r _ [30, 7, 31, 32, 33, 5, 34, 22, 23, 35, 36, 37, 38, 39, 40, 41, 42, 43, 44, 45] (by decide +kernel) (by decide +kernel)
set_option maxRecDepth 20000 in
theorem gX3_rank_X3_rankOf : GoodIn wsX3_rank (wsV RX3 57 RX3 yX3_rankOf wsX3_rankOf) := goodIn_app (goodIn_of _ (by decide +kernel)) ggX3_rank_X3_rankOf
theorem dX3_rank_0 : decode cX3_rank 0 = .ok (.aload_n 0, 1) := by decide +kernel
theorem dX3_rank_1 : decode cX3_rank 1 = .ok (.iconst 0, 1) := by decide +kernel
theorem dX3_rank_2 : decode cX3_rank 2 = .ok (.putfield 30, 3) := by decide +kernel
theorem dX3_rank_5 : decode cX3_rank 5 = .ok (.aload_n 0, 1) := by decide +kernel
theorem dX3_rank_6 : decode cX3_rank 6 = .ok (.iload_n 1, 1) := by decide +kernel
theorem dX3_rank_7 : decode cX3_rank 7 = .ok (.iload_n 2, 1) := by decide +kernel
theorem dX3_rank_8 : decode cX3_rank 8 = .ok (.invokevirtual 105, 3) := by decide +kernel
theorem dX3_rank_11 : decode cX3_rank 11 = .ok (.ifCond .ne 9, 3) := by decide +kernel
theorem dX3_rank_14 : decode cX3_rank 14 = .ok (.aload_n 0, 1) := by decide +kernel
theorem dX3_rank_15 : decode cX3_rank 15 = .ok (.iconst 1, 1) := by decide +kernel
theorem dX3_rank_16 : decode cX3_rank 16 = .ok (.invokevirtual 99, 3) := by decide +kernel
theorem dX3_rank_19 : decode cX3_rank 19 = .ok (.ireturn, 1) := by decide +kernel
theorem dX3_rank_20 : decode cX3_rank 20 = .ok (.aload_n 0, 1) := by decide +kernel
theorem dX3_rank_21 : decode cX3_rank 21 = .ok (.iload_n 1, 1) := by decide +kernel
theorem dX3_rank_22 : decode cX3_rank 22 = .ok (.invokevirtual 53, 3) := by decide +kernel
theorem dX3_rank_25 : decode cX3_rank 25 = .ok (.aload_n 0, 1) := by decide +kernel
theorem dX3_rank_26 : decode cX3_rank 26 = .ok (.iload_n 1, 1) := by decide +kernel
theorem dX3_rank_27 : decode cX3_rank 27 = .ok (.iload_n 2, 1) := by decide +kernel
theorem dX3_rank_28 : decode cX3_rank 28 = .ok (.invokevirtual 57, 3) := by decide +kernel
theorem dX3_rank_31 : decode cX3_rank 31 = .ok (.ireturn, 1) := by decide +kernel
set_option maxRecDepth 20000 in
theorem ggX3_common_X3_isPlace : GoodIn wsX3_common wsX3_isPlace := goodIn_r _ [7, 8, 9, 10, 6, 11, 12, 13, 14, 27, 28, 29, 30, 31, 32, 33, 34] (by decide +kernel) (by decide +kernel)
set_option maxRecDepth 20000 in
theorem gX3_common_X3_isPlace : GoodIn wsX3_common (wsV RX3 105 RX3 yX3_isPlace wsX3_isPlace) := goodIn_app (goodIn_of _ (by decide +kernel)) ggX3_common_X3_isPlace
set_option maxRecDepth 20000 in
theorem ggX3_common_X3_no : GoodIn wsX3_common wsX3_no := goodIn_r _ [18, 1, 27, 28, 29, 30, 31, 32, 33, 34] (by decide +kernel) (by decide +kernel)
set_option maxRecDepth 20000 in
theorem gX3_common_X3_no : GoodIn wsX3_common (wsV RX3 99 RX3 yX3_no wsX3_no) := goodIn_app (goodIn_of _ (by decide +kernel)) ggX3_common_X3_no
set_option maxRecDepth 20000 in
theorem ggX3_common_X3_look : GoodIn wsX3_common wsX3_look := goodIn_r _ [22, 23, 8, 2, 24, 25, 6, 26, 27, 28, 29, 30, 31, 32, 33, 34] (by decide +kernel) (by decide +kernel)
set_option maxRecDepth 20000 in
theorem gX3_common_X3_look : GoodIn wsX3_common (wsV RX3 53 RX3 yX3_look wsX3_look) := goodIn_app (goodIn_of _ (by decide +kernel)) ggX3_common_X3_look
theorem dX3_common_0 : decode cX3_common 0 = .ok (.aload_n 0, 1) := by decide +kernel
theorem dX3_common_1 : decode cX3_common 1 = .ok (.iconst 0, 1) := by decide +kernel
theorem dX3_common_2 : decode cX3_common 2 = .ok (.putfield 30, 3) := by decide +kernel
theorem dX3_common_5 : decode cX3_common 5 = .ok (.aload_n 0, 1) := by decide +kernel
theorem dX3_common_6 : decode cX3_common 6 = .ok (.iload_n 1, 1) := by decide +kernel
theorem dX3_common_7 : decode cX3_common 7 = .ok (.iload_n 2, 1) := by decide +kernel
theorem dX3_common_8 : decode cX3_common 8 = .ok (.invokevirtual 105, 3) := by decide +kernel
theorem dX3_common_11 : decode cX3_common 11 = .ok (.ifCond .eq 12, 3) := by decide +kernel
theorem dX3_common_14 : decode cX3_common 14 = .ok (.aload_n 0, 1) := by decide +kernel
theorem dX3_common_15 : decode cX3_common 15 = .ok (.iload_n 1, 1) := by decide +kernel
theorem dX3_common_16 : decode cX3_common 16 = .ok (.iload_n 3, 1) := by decide +kernel
theorem dX3_common_17 : decode cX3_common 17 = .ok (.invokevirtual 105, 3) := by decide +kernel
theorem dX3_common_20 : decode cX3_common 20 = .ok (.ifCond .ne 9, 3) := by decide +kernel
theorem dX3_common_23 : decode cX3_common 23 = .ok (.aload_n 0, 1) := by decide +kernel
theorem dX3_common_24 : decode cX3_common 24 = .ok (.iconst 1, 1) := by decide +kernel
theorem dX3_common_25 : decode cX3_common 25 = .ok (.invokevirtual 99, 3) := by decide +kernel
theorem dX3_common_28 : decode cX3_common 28 = .ok (.ireturn, 1) := by decide +kernel
theorem dX3_common_29 : decode cX3_common 29 = .ok (.aload_n 0, 1) := by decide +kernel
theorem dX3_common_30 : decode cX3_common 30 = .ok (.iload_n 1, 1) := by decide +kernel
theorem dX3_common_31 : decode cX3_common 31 = .ok (.invokevirtual 53, 3) := by decide +kernel
theorem dX3_common_34 : decode cX3_common 34 = .ok (.aload_n 0, 1) := by decide +kernel
theorem dX3_common_35 : decode cX3_common 35 = .ok (.getfield 21, 3) := by decide +kernel
theorem dX3_common_38 : decode cX3_common 38 = .ok (.iload_n 2, 1) := by decide +kernel
theorem dX3_common_39 : decode cX3_common 39 = .ok (.aaload, 1) := by decide +kernel
theorem dX3_common_40 : decode cX3_common 40 = .ok (.iload_n 3, 1) := by decide +kernel
theorem dX3_common_41 : decode cX3_common 41 = .ok (.iaload, 1) := by decide +kernel
theorem dX3_common_42 : decode cX3_common 42 = .ok (.ireturn, 1) := by decide +kernel
set_option maxRecDepth 20000 in
theorem ggX3_against_X3_isPlace : GoodIn wsX3_against wsX3_isPlace := goodIn_r _ [9, 3, 10, 11, 8, 12, 13, 14, 15, 30, 31, 32, 33, 34, 35, 36, 37] (by decide +kernel) (by decide +kernel)
set_option maxRecDepth 20000 in
theorem gX3_against_X3_isPlace : GoodIn wsX3_against (wsV RX3 105 RX3 yX3_isPlace wsX3_isPlace) := goodIn_app (goodIn_of _ (by decide +kernel)) ggX3_against_X3_isPlace
set_option maxRecDepth 20000 in
theorem ggX3_against_X3_no : GoodIn wsX3_against wsX3_no := goodIn_r _ [19, 1, 30, 31, 32, 33, 34, 35, 36, 37] (by decide +kernel) (by decide +kernel)
set_option maxRecDepth 20000 in
theorem gX3_against_X3_no : GoodIn wsX3_against (wsV RX3 99 RX3 yX3_no wsX3_no) := goodIn_app (goodIn_of _ (by decide +kernel)) ggX3_against_X3_no
set_option maxRecDepth 20000 in
theorem ggX3_against_X3_lookAtBoth : GoodIn wsX3_against wsX3_lookAtBoth := goodIn_r _ [23, 2, 3, 4, 24, 25, 8, 26, 30, 31, 32, 33, 34, 35, 36, 37] (by decide +kernel) (by decide +kernel)
set_option maxRecDepth 20000 in
theorem gX3_against_X3_lookAtBoth : GoodIn wsX3_against (wsV RX3 77 RX3 yX3_lookAtBoth wsX3_lookAtBoth) := goodIn_app (goodIn_of _ (by decide +kernel)) ggX3_against_X3_lookAtBoth
set_option maxRecDepth 20000 in
theorem ggX3_against_X3_by : GoodIn wsX3_against wsX3_by := goodIn_r _ [29] (by decide +kernel) (by decide +kernel)
set_option maxRecDepth 20000 in
theorem gX3_against_X3_by : GoodIn wsX3_against (va_wsS RX3 42 yX3_by wsX3_by) := goodIn_app (goodIn_of _ (by decide +kernel)) ggX3_against_X3_by
theorem dX3_against_0 : decode cX3_against 0 = .ok (.aload_n 0, 1) := by decide +kernel
theorem dX3_against_1 : decode cX3_against 1 = .ok (.iconst 0, 1) := by decide +kernel
theorem dX3_against_2 : decode cX3_against 2 = .ok (.putfield 30, 3) := by decide +kernel
theorem dX3_against_5 : decode cX3_against 5 = .ok (.aload_n 0, 1) := by decide +kernel
theorem dX3_against_6 : decode cX3_against 6 = .ok (.iconst 0, 1) := by decide +kernel
theorem dX3_against_7 : decode cX3_against 7 = .ok (.iload_n 1, 1) := by decide +kernel
theorem dX3_against_8 : decode cX3_against 8 = .ok (.invokevirtual 105, 3) := by decide +kernel
theorem dX3_against_11 : decode cX3_against 11 = .ok (.ifCond .eq 12, 3) := by decide +kernel
theorem dX3_against_14 : decode cX3_against 14 = .ok (.aload_n 0, 1) := by decide +kernel
theorem dX3_against_15 : decode cX3_against 15 = .ok (.iconst 1, 1) := by decide +kernel
theorem dX3_against_16 : decode cX3_against 16 = .ok (.iload_n 2, 1) := by decide +kernel
theorem dX3_against_17 : decode cX3_against 17 = .ok (.invokevirtual 105, 3) := by decide +kernel
theorem dX3_against_20 : decode cX3_against 20 = .ok (.ifCond .ne 9, 3) := by decide +kernel
theorem dX3_against_23 : decode cX3_against 23 = .ok (.aload_n 0, 1) := by decide +kernel
theorem dX3_against_24 : decode cX3_against 24 = .ok (.iconst 1, 1) := by decide +kernel
theorem dX3_against_25 : decode cX3_against 25 = .ok (.invokevirtual 99, 3) := by decide +kernel
theorem dX3_against_28 : decode cX3_against 28 = .ok (.ireturn, 1) := by decide +kernel
theorem dX3_against_29 : decode cX3_against 29 = .ok (.aload_n 0, 1) := by decide +kernel
theorem dX3_against_30 : decode cX3_against 30 = .ok (.invokevirtual 77, 3) := by decide +kernel
theorem dX3_against_33 : decode cX3_against 33 = .ok (.aload_n 0, 1) := by decide +kernel
theorem dX3_against_34 : decode cX3_against 34 = .ok (.getfield 11, 3) := by decide +kernel
theorem dX3_against_37 : decode cX3_against 37 = .ok (.iconst 0, 1) := by decide +kernel
theorem dX3_against_38 : decode cX3_against 38 = .ok (.aaload, 1) := by decide +kernel
theorem dX3_against_39 : decode cX3_against 39 = .ok (.aload_n 0, 1) := by decide +kernel
theorem dX3_against_40 : decode cX3_against 40 = .ok (.getfield 14, 3) := by decide +kernel
theorem dX3_against_43 : decode cX3_against 43 = .ok (.iconst 0, 1) := by decide +kernel
theorem dX3_against_44 : decode cX3_against 44 = .ok (.iaload, 1) := by decide +kernel
theorem dX3_against_45 : decode cX3_against 45 = .ok (.iload_n 1, 1) := by decide +kernel
theorem dX3_against_46 : decode cX3_against 46 = .ok (.aload_n 0, 1) := by decide +kernel
theorem dX3_against_47 : decode cX3_against 47 = .ok (.getfield 11, 3) := by decide +kernel
theorem dX3_against_50 : decode cX3_against 50 = .ok (.iconst 1, 1) := by decide +kernel
theorem dX3_against_51 : decode cX3_against 51 = .ok (.aaload, 1) := by decide +kernel
theorem dX3_against_52 : decode cX3_against 52 = .ok (.aload_n 0, 1) := by decide +kernel
theorem dX3_against_53 : decode cX3_against 53 = .ok (.getfield 14, 3) := by decide +kernel
theorem dX3_against_56 : decode cX3_against 56 = .ok (.iconst 1, 1) := by decide +kernel
theorem dX3_against_57 : decode cX3_against 57 = .ok (.iaload, 1) := by decide +kernel
theorem dX3_against_58 : decode cX3_against 58 = .ok (.iload_n 2, 1) := by decide +kernel
theorem dX3_against_59 : decode cX3_against 59 = .ok (.aload_n 0, 1) := by decide +kernel
theorem dX3_against_60 : decode cX3_against 60 = .ok (.getfield 27, 3) := by decide +kernel
theorem dX3_against_63 : decode cX3_against 63 = .ok (.iload_n 1, 1) := by decide +kernel
theorem dX3_against_64 : decode cX3_against 64 = .ok (.aaload, 1) := by decide +kernel
theorem dX3_against_65 : decode cX3_against 65 = .ok (.iload_n 2, 1) := by decide +kernel
theorem dX3_against_66 : decode cX3_against 66 = .ok (.iaload, 1) := by decide +kernel
theorem dX3_against_67 : decode cX3_against 67 = .ok (.invokestatic 42, 3) := by decide +kernel
theorem dX3_against_70 : decode cX3_against 70 = .ok (.aload_n 0, 1) := by decide +kernel
theorem dX3_against_71 : decode cX3_against 71 = .ok (.getfield 27, 3) := by decide +kernel
theorem dX3_against_74 : decode cX3_against 74 = .ok (.iload_n 1, 1) := by decide +kernel
theorem dX3_against_75 : decode cX3_against 75 = .ok (.aaload, 1) := by decide +kernel
theorem dX3_against_76 : decode cX3_against 76 = .ok (.iload_n 2, 1) := by decide +kernel
theorem dX3_against_77 : decode cX3_against 77 = .ok (.iaload, 1) := by decide +kernel
theorem dX3_against_78 : decode cX3_against 78 = .ok (.iconst 1, 1) := by decide +kernel
theorem dX3_against_79 : decode cX3_against 79 = .ok (.iadd, 1) := by decide +kernel
theorem dX3_against_80 : decode cX3_against 80 = .ok (.imul, 1) := by decide +kernel
theorem dX3_against_81 : decode cX3_against 81 = .ok (.ireturn, 1) := by decide +kernel
set_option maxRecDepth 20000 in
theorem ggX3_repeat_X3_isHem : GoodIn wsX3_repeat wsX3_isHem := goodIn_r _ [5, 6, 7, 4, 8] (by decide +kernel) (by decide +kernel)
set_option maxRecDepth 20000 in
theorem gX3_repeat_X3_isHem : GoodIn wsX3_repeat (va_wsS RX3 38 yX3_isHem wsX3_isHem) := goodIn_app (goodIn_of _ (by decide +kernel)) ggX3_repeat_X3_isHem
set_option maxRecDepth 20000 in
theorem ggX3_repeat_X3_isIn : GoodIn wsX3_repeat wsX3_isIn := goodIn_r _ [8] (by decide +kernel) (by decide +kernel)
set_option maxRecDepth 20000 in
theorem gX3_repeat_X3_isIn : GoodIn wsX3_repeat (va_wsS RX3 34 yX3_isIn wsX3_isIn) := goodIn_app (goodIn_of _ (by decide +kernel)) ggX3_repeat_X3_isIn
set_option maxRecDepth 20000 in
theorem ggX3_repeat_X3_repeatTold : GoodIn wsX3_repeat wsX3_repeatTold := goodIn_r _ [12, 13, 14, 15, 16, 17, 4, 18, 19, 20, 21, 22, 23, 24, 25, 26, 27, 28, 29, 30, 31, 32, 33, 34, 35, 36, 37, 38, 39, 40, 41, 46, 47, 48, 49, 50, 51, 52, 53] (by decide +kernel) (by decide +kernel)
set_option maxRecDepth 20000 in
theorem gX3_repeat_X3_repeatTold : GoodIn wsX3_repeat (wsV RX3 120 RX3 yX3_repeatTold wsX3_repeatTold) := goodIn_app (goodIn_of _ (by decide +kernel)) ggX3_repeat_X3_repeatTold
set_option maxRecDepth 20000 in
theorem ggX3_repeat_X3_no : GoodIn wsX3_repeat wsX3_no := goodIn_r _ [45, 1, 46, 47, 48, 49, 50, 51, 52, 53] (by decide +kernel) (by decide +kernel)
set_option maxRecDepth 20000 in
theorem gX3_repeat_X3_no : GoodIn wsX3_repeat (wsV RX3 99 RX3 yX3_no wsX3_no) := goodIn_app (goodIn_of _ (by decide +kernel)) ggX3_repeat_X3_no
theorem dX3_repeat_0 : decode cX3_repeat 0 = .ok (.aload_n 0, 1) := by decide +kernel
theorem dX3_repeat_1 : decode cX3_repeat 1 = .ok (.iconst 0, 1) := by decide +kernel
theorem dX3_repeat_2 : decode cX3_repeat 2 = .ok (.putfield 30, 3) := by decide +kernel
theorem dX3_repeat_5 : decode cX3_repeat 5 = .ok (.iload_n 1, 1) := by decide +kernel
theorem dX3_repeat_6 : decode cX3_repeat 6 = .ok (.invokestatic 38, 3) := by decide +kernel
theorem dX3_repeat_9 : decode cX3_repeat 9 = .ok (.ifCond .eq 21, 3) := by decide +kernel
theorem dX3_repeat_12 : decode cX3_repeat 12 = .ok (.iload_n 2, 1) := by decide +kernel
theorem dX3_repeat_13 : decode cX3_repeat 13 = .ok (.iconst 0, 1) := by decide +kernel
theorem dX3_repeat_14 : decode cX3_repeat 14 = .ok (.iconst 2, 1) := by decide +kernel
theorem dX3_repeat_15 : decode cX3_repeat 15 = .ok (.invokestatic 34, 3) := by decide +kernel
theorem dX3_repeat_18 : decode cX3_repeat 18 = .ok (.ifCond .eq 12, 3) := by decide +kernel
theorem dX3_repeat_21 : decode cX3_repeat 21 = .ok (.aload_n 0, 1) := by decide +kernel
theorem dX3_repeat_22 : decode cX3_repeat 22 = .ok (.iload_n 1, 1) := by decide +kernel
theorem dX3_repeat_23 : decode cX3_repeat 23 = .ok (.iload_n 2, 1) := by decide +kernel
theorem dX3_repeat_24 : decode cX3_repeat 24 = .ok (.invokevirtual 120, 3) := by decide +kernel
theorem dX3_repeat_27 : decode cX3_repeat 27 = .ok (.goto 8, 3) := by decide +kernel
theorem dX3_repeat_30 : decode cX3_repeat 30 = .ok (.aload_n 0, 1) := by decide +kernel
theorem dX3_repeat_31 : decode cX3_repeat 31 = .ok (.iconst 1, 1) := by decide +kernel
theorem dX3_repeat_32 : decode cX3_repeat 32 = .ok (.invokevirtual 99, 3) := by decide +kernel
theorem dX3_repeat_35 : decode cX3_repeat 35 = .ok (.ireturn, 1) := by decide +kernel
set_option maxRecDepth 20000 in
theorem ggX3_row_X3_isHem : GoodIn wsX3_row wsX3_isHem := goodIn_r _ [8, 9, 10, 7, 11] (by decide +kernel) (by decide +kernel)
set_option maxRecDepth 20000 in
theorem gX3_row_X3_isHem : GoodIn wsX3_row (va_wsS RX3 38 yX3_isHem wsX3_isHem) := goodIn_app (goodIn_of _ (by decide +kernel)) ggX3_row_X3_isHem
set_option maxRecDepth 20000 in
theorem ggX3_row_X3_no : GoodIn wsX3_row wsX3_no := goodIn_r _ [15, 1, 43, 44, 45, 46, 47, 48, 49, 50] (by decide +kernel) (by decide +kernel)
set_option maxRecDepth 20000 in
theorem gX3_row_X3_no : GoodIn wsX3_row (wsV RX3 99 RX3 yX3_no wsX3_no) := goodIn_app (goodIn_of _ (by decide +kernel)) ggX3_row_X3_no
set_option maxRecDepth 20000 in
theorem ggX3_row_X3_order : GoodIn wsX3_row wsX3_order := goodIn_r _ [19, 2, 3, 20, 21, 22, 7, 23, 24, 4, 25, 26, 27, 28, 29, 30, 31, 32, 33, 34, 35, 36, 37, 38, 43, 44, 45, 46, 47, 48, 49, 50] (by decide +kernel) (by decide +kernel)
set_option maxRecDepth 20000 in
theorem gX3_row_X3_order : GoodIn wsX3_row (wsV RX3 117 RX3 yX3_order wsX3_order) := goodIn_app (goodIn_of _ (by decide +kernel)) ggX3_row_X3_order
set_option maxRecDepth 20000 in
theorem ggX3_row_X3_firstPlace : GoodIn wsX3_row wsX3_firstPlace := goodIn_r _ [42, 4, 43, 44, 45, 46, 47, 48, 49, 50] (by decide +kernel) (by decide +kernel)
set_option maxRecDepth 20000 in
theorem gX3_row_X3_firstPlace : GoodIn wsX3_row (wsV RX3 123 RX3 yX3_firstPlace wsX3_firstPlace) := goodIn_app (goodIn_of _ (by decide +kernel)) ggX3_row_X3_firstPlace
theorem dX3_row_0 : decode cX3_row 0 = .ok (.aload_n 0, 1) := by decide +kernel
theorem dX3_row_1 : decode cX3_row 1 = .ok (.iconst 0, 1) := by decide +kernel
theorem dX3_row_2 : decode cX3_row 2 = .ok (.putfield 30, 3) := by decide +kernel
theorem dX3_row_5 : decode cX3_row 5 = .ok (.iload_n 1, 1) := by decide +kernel
theorem dX3_row_6 : decode cX3_row 6 = .ok (.invokestatic 38, 3) := by decide +kernel
theorem dX3_row_9 : decode cX3_row 9 = .ok (.ifCond .eq 7, 3) := by decide +kernel
theorem dX3_row_12 : decode cX3_row 12 = .ok (.iload_n 2, 1) := by decide +kernel
theorem dX3_row_13 : decode cX3_row 13 = .ok (.ifCond .ge 9, 3) := by decide +kernel
theorem dX3_row_16 : decode cX3_row 16 = .ok (.aload_n 0, 1) := by decide +kernel
theorem dX3_row_17 : decode cX3_row 17 = .ok (.iconst 1, 1) := by decide +kernel
theorem dX3_row_18 : decode cX3_row 18 = .ok (.invokevirtual 99, 3) := by decide +kernel
theorem dX3_row_21 : decode cX3_row 21 = .ok (.ireturn, 1) := by decide +kernel
theorem dX3_row_22 : decode cX3_row 22 = .ok (.aload_n 0, 1) := by decide +kernel
theorem dX3_row_23 : decode cX3_row 23 = .ok (.iload_n 1, 1) := by decide +kernel
theorem dX3_row_24 : decode cX3_row 24 = .ok (.invokevirtual 117, 3) := by decide +kernel
theorem dX3_row_27 : decode cX3_row 27 = .ok (.iload_n 2, 1) := by decide +kernel
theorem dX3_row_28 : decode cX3_row 28 = .ok (.istore_n 3, 1) := by decide +kernel
theorem dX3_row_29 : decode cX3_row 29 = .ok (.iconst 0, 1) := by decide +kernel
theorem dX3_row_30 : decode cX3_row 30 = .ok (.istore 4, 2) := by decide +kernel
theorem dX3_row_32 : decode cX3_row 32 = .ok (.iload 4, 2) := by decide +kernel
theorem dX3_row_34 : decode cX3_row 34 = .ok (.aload_n 0, 1) := by decide +kernel
theorem dX3_row_35 : decode cX3_row 35 = .ok (.getfield 14, 3) := by decide +kernel
theorem dX3_row_38 : decode cX3_row 38 = .ok (.iload_n 1, 1) := by decide +kernel
theorem dX3_row_39 : decode cX3_row 39 = .ok (.iaload, 1) := by decide +kernel
theorem dX3_row_40 : decode cX3_row 40 = .ok (.if_icmp .ge 94, 3) := by decide +kernel
theorem dX3_row_43 : decode cX3_row 43 = .ok (.aload_n 0, 1) := by decide +kernel
theorem dX3_row_44 : decode cX3_row 44 = .ok (.getfield 24, 3) := by decide +kernel
theorem dX3_row_47 : decode cX3_row 47 = .ok (.iload 4, 2) := by decide +kernel
theorem dX3_row_49 : decode cX3_row 49 = .ok (.iaload, 1) := by decide +kernel
theorem dX3_row_50 : decode cX3_row 50 = .ok (.istore 5, 2) := by decide +kernel
theorem dX3_row_52 : decode cX3_row 52 = .ok (.iload 4, 2) := by decide +kernel
theorem dX3_row_54 : decode cX3_row 54 = .ok (.ifCond .ne 7, 3) := by decide +kernel
theorem dX3_row_57 : decode cX3_row 57 = .ok (.iconst 0, 1) := by decide +kernel
theorem dX3_row_58 : decode cX3_row 58 = .ok (.goto 20, 3) := by decide +kernel
theorem dX3_row_61 : decode cX3_row 61 = .ok (.aload_n 0, 1) := by decide +kernel
theorem dX3_row_62 : decode cX3_row 62 = .ok (.getfield 21, 3) := by decide +kernel
theorem dX3_row_65 : decode cX3_row 65 = .ok (.iload 5, 2) := by decide +kernel
theorem dX3_row_67 : decode cX3_row 67 = .ok (.aaload, 1) := by decide +kernel
theorem dX3_row_68 : decode cX3_row 68 = .ok (.aload_n 0, 1) := by decide +kernel
theorem dX3_row_69 : decode cX3_row 69 = .ok (.getfield 24, 3) := by decide +kernel
theorem dX3_row_72 : decode cX3_row 72 = .ok (.iload 4, 2) := by decide +kernel
theorem dX3_row_74 : decode cX3_row 74 = .ok (.iconst 1, 1) := by decide +kernel
theorem dX3_row_75 : decode cX3_row 75 = .ok (.isub, 1) := by decide +kernel
theorem dX3_row_76 : decode cX3_row 76 = .ok (.iaload, 1) := by decide +kernel
theorem dX3_row_77 : decode cX3_row 77 = .ok (.iaload, 1) := by decide +kernel
theorem dX3_row_78 : decode cX3_row 78 = .ok (.istore 6, 2) := by decide +kernel
theorem dX3_row_80 : decode cX3_row 80 = .ok (.aload_n 0, 1) := by decide +kernel
theorem dX3_row_81 : decode cX3_row 81 = .ok (.getfield 14, 3) := by decide +kernel
theorem dX3_row_84 : decode cX3_row 84 = .ok (.iload_n 1, 1) := by decide +kernel
theorem dX3_row_85 : decode cX3_row 85 = .ok (.iaload, 1) := by decide +kernel
theorem dX3_row_86 : decode cX3_row 86 = .ok (.iload 5, 2) := by decide +kernel
theorem dX3_row_88 : decode cX3_row 88 = .ok (.isub, 1) := by decide +kernel
theorem dX3_row_89 : decode cX3_row 89 = .ok (.iload 6, 2) := by decide +kernel
theorem dX3_row_91 : decode cX3_row 91 = .ok (.isub, 1) := by decide +kernel
theorem dX3_row_92 : decode cX3_row 92 = .ok (.istore 7, 2) := by decide +kernel
theorem dX3_row_94 : decode cX3_row 94 = .ok (.iload_n 3, 1) := by decide +kernel
theorem dX3_row_95 : decode cX3_row 95 = .ok (.iload 7, 2) := by decide +kernel
theorem dX3_row_97 : decode cX3_row 97 = .ok (.if_icmp .ge 26, 3) := by decide +kernel
theorem dX3_row_100 : decode cX3_row 100 = .ok (.bipush 64, 2) := by decide +kernel
theorem dX3_row_102 : decode cX3_row 102 = .ok (.aload_n 0, 1) := by decide +kernel
theorem dX3_row_103 : decode cX3_row 103 = .ok (.iload 5, 2) := by decide +kernel
theorem dX3_row_105 : decode cX3_row 105 = .ok (.iload 6, 2) := by decide +kernel
theorem dX3_row_107 : decode cX3_row 107 = .ok (.iload_n 3, 1) := by decide +kernel
theorem dX3_row_108 : decode cX3_row 108 = .ok (.iadd, 1) := by decide +kernel
theorem dX3_row_109 : decode cX3_row 109 = .ok (.iconst 1, 1) := by decide +kernel
theorem dX3_row_110 : decode cX3_row 110 = .ok (.iadd, 1) := by decide +kernel
theorem dX3_row_111 : decode cX3_row 111 = .ok (.invokevirtual 123, 3) := by decide +kernel
theorem dX3_row_114 : decode cX3_row 114 = .ok (.imul, 1) := by decide +kernel
theorem dX3_row_115 : decode cX3_row 115 = .ok (.iload 6, 2) := by decide +kernel
theorem dX3_row_117 : decode cX3_row 117 = .ok (.iadd, 1) := by decide +kernel
theorem dX3_row_118 : decode cX3_row 118 = .ok (.iload_n 3, 1) := by decide +kernel
theorem dX3_row_119 : decode cX3_row 119 = .ok (.iadd, 1) := by decide +kernel
theorem dX3_row_120 : decode cX3_row 120 = .ok (.iconst 1, 1) := by decide +kernel
theorem dX3_row_121 : decode cX3_row 121 = .ok (.iadd, 1) := by decide +kernel
theorem dX3_row_122 : decode cX3_row 122 = .ok (.ireturn, 1) := by decide +kernel
theorem dX3_row_123 : decode cX3_row 123 = .ok (.iload_n 3, 1) := by decide +kernel
theorem dX3_row_124 : decode cX3_row 124 = .ok (.iload 7, 2) := by decide +kernel
theorem dX3_row_126 : decode cX3_row 126 = .ok (.isub, 1) := by decide +kernel
theorem dX3_row_127 : decode cX3_row 127 = .ok (.istore_n 3, 1) := by decide +kernel
theorem dX3_row_128 : decode cX3_row 128 = .ok (.iinc 4 1, 3) := by decide +kernel
theorem dX3_row_131 : decode cX3_row 131 = .ok (.goto (-99), 3) := by decide +kernel
theorem dX3_row_134 : decode cX3_row 134 = .ok (.aload_n 0, 1) := by decide +kernel
theorem dX3_row_135 : decode cX3_row 135 = .ok (.iconst 1, 1) := by decide +kernel
theorem dX3_row_136 : decode cX3_row 136 = .ok (.invokevirtual 99, 3) := by decide +kernel
theorem dX3_row_139 : decode cX3_row 139 = .ok (.ireturn, 1) := by decide +kernel
set_option maxRecDepth 20000 in
theorem ggX3_found_X3_isHem : GoodIn wsX3_found wsX3_isHem := goodIn_r _ [5, 6, 7, 4, 8] (by decide +kernel) (by decide +kernel)
set_option maxRecDepth 20000 in
theorem gX3_found_X3_isHem : GoodIn wsX3_found (va_wsS RX3 38 yX3_isHem wsX3_isHem) := goodIn_app (goodIn_of _ (by decide +kernel)) ggX3_found_X3_isHem
set_option maxRecDepth 20000 in
theorem ggX3_found_X3_foundIn : GoodIn wsX3_found wsX3_foundIn := goodIn_r _ [12, 13, 14, 15, 16, 4, 17, 18, 19, 20, 25, 26, 27, 28, 29, 30, 31, 32] (by decide +kernel) (by decide +kernel)
set_option maxRecDepth 20000 in
theorem gX3_found_X3_foundIn : GoodIn wsX3_found (wsV RX3 126 RX3 yX3_foundIn wsX3_foundIn) := goodIn_app (goodIn_of _ (by decide +kernel)) ggX3_found_X3_foundIn
set_option maxRecDepth 20000 in
theorem ggX3_found_X3_no : GoodIn wsX3_found wsX3_no := goodIn_r _ [24, 1, 25, 26, 27, 28, 29, 30, 31, 32] (by decide +kernel) (by decide +kernel)
set_option maxRecDepth 20000 in
theorem gX3_found_X3_no : GoodIn wsX3_found (wsV RX3 99 RX3 yX3_no wsX3_no) := goodIn_app (goodIn_of _ (by decide +kernel)) ggX3_found_X3_no
theorem dX3_found_0 : decode cX3_found 0 = .ok (.aload_n 0, 1) := by decide +kernel
theorem dX3_found_1 : decode cX3_found 1 = .ok (.iconst 0, 1) := by decide +kernel
theorem dX3_found_2 : decode cX3_found 2 = .ok (.putfield 30, 3) := by decide +kernel
theorem dX3_found_5 : decode cX3_found 5 = .ok (.iload_n 1, 1) := by decide +kernel
theorem dX3_found_6 : decode cX3_found 6 = .ok (.invokestatic 38, 3) := by decide +kernel
theorem dX3_found_9 : decode cX3_found 9 = .ok (.ifCond .eq 11, 3) := by decide +kernel
theorem dX3_found_12 : decode cX3_found 12 = .ok (.aload_n 0, 1) := by decide +kernel
theorem dX3_found_13 : decode cX3_found 13 = .ok (.iload_n 1, 1) := by decide +kernel
theorem dX3_found_14 : decode cX3_found 14 = .ok (.invokevirtual 126, 3) := by decide +kernel
theorem dX3_found_17 : decode cX3_found 17 = .ok (.goto 8, 3) := by decide +kernel
theorem dX3_found_20 : decode cX3_found 20 = .ok (.aload_n 0, 1) := by decide +kernel
theorem dX3_found_21 : decode cX3_found 21 = .ok (.iconst 1, 1) := by decide +kernel
theorem dX3_found_22 : decode cX3_found 22 = .ok (.invokevirtual 99, 3) := by decide +kernel
theorem dX3_found_25 : decode cX3_found 25 = .ok (.ireturn, 1) := by decide +kernel
set_option maxRecDepth 20000 in
theorem ggX3_first_X3_isHem : GoodIn wsX3_first wsX3_isHem := goodIn_r _ [6, 7, 8, 5, 9] (by decide +kernel) (by decide +kernel)
set_option maxRecDepth 20000 in
theorem gX3_first_X3_isHem : GoodIn wsX3_first (va_wsS RX3 38 yX3_isHem wsX3_isHem) := goodIn_app (goodIn_of _ (by decide +kernel)) ggX3_first_X3_isHem
set_option maxRecDepth 20000 in
theorem ggX3_first_X3_no : GoodIn wsX3_first wsX3_no := goodIn_r _ [13, 1, 21, 22, 23, 24, 25, 26, 27, 28] (by decide +kernel) (by decide +kernel)
set_option maxRecDepth 20000 in
theorem gX3_first_X3_no : GoodIn wsX3_first (wsV RX3 99 RX3 yX3_no wsX3_no) := goodIn_app (goodIn_of _ (by decide +kernel)) ggX3_first_X3_no
set_option maxRecDepth 20000 in
theorem ggX3_first_X3_isSampleAt : GoodIn wsX3_first wsX3_isSampleAt := goodIn_r _ [17, 18, 2, 19, 20, 21, 22, 23, 24, 25, 26, 27, 28] (by decide +kernel) (by decide +kernel)
set_option maxRecDepth 20000 in
theorem gX3_first_X3_isSampleAt : GoodIn wsX3_first (wsV RX3 86 RX3 yX3_isSampleAt wsX3_isSampleAt) := goodIn_app (goodIn_of _ (by decide +kernel)) ggX3_first_X3_isSampleAt
theorem dX3_first_0 : decode cX3_first 0 = .ok (.aload_n 0, 1) := by decide +kernel
theorem dX3_first_1 : decode cX3_first 1 = .ok (.iconst 0, 1) := by decide +kernel
theorem dX3_first_2 : decode cX3_first 2 = .ok (.putfield 30, 3) := by decide +kernel
theorem dX3_first_5 : decode cX3_first 5 = .ok (.iload_n 1, 1) := by decide +kernel
theorem dX3_first_6 : decode cX3_first 6 = .ok (.invokestatic 38, 3) := by decide +kernel
theorem dX3_first_9 : decode cX3_first 9 = .ok (.ifCond .ne 9, 3) := by decide +kernel
theorem dX3_first_12 : decode cX3_first 12 = .ok (.aload_n 0, 1) := by decide +kernel
theorem dX3_first_13 : decode cX3_first 13 = .ok (.iconst 1, 1) := by decide +kernel
theorem dX3_first_14 : decode cX3_first 14 = .ok (.invokevirtual 99, 3) := by decide +kernel
theorem dX3_first_17 : decode cX3_first 17 = .ok (.ireturn, 1) := by decide +kernel
theorem dX3_first_18 : decode cX3_first 18 = .ok (.iconst 0, 1) := by decide +kernel
theorem dX3_first_19 : decode cX3_first 19 = .ok (.istore_n 2, 1) := by decide +kernel
theorem dX3_first_20 : decode cX3_first 20 = .ok (.iload_n 2, 1) := by decide +kernel
theorem dX3_first_21 : decode cX3_first 21 = .ok (.aload_n 0, 1) := by decide +kernel
theorem dX3_first_22 : decode cX3_first 22 = .ok (.getfield 14, 3) := by decide +kernel
theorem dX3_first_25 : decode cX3_first 25 = .ok (.iload_n 1, 1) := by decide +kernel
theorem dX3_first_26 : decode cX3_first 26 = .ok (.iaload, 1) := by decide +kernel
theorem dX3_first_27 : decode cX3_first 27 = .ok (.if_icmp .ge 20, 3) := by decide +kernel
theorem dX3_first_30 : decode cX3_first 30 = .ok (.aload_n 0, 1) := by decide +kernel
theorem dX3_first_31 : decode cX3_first 31 = .ok (.iload_n 1, 1) := by decide +kernel
theorem dX3_first_32 : decode cX3_first 32 = .ok (.iload_n 2, 1) := by decide +kernel
theorem dX3_first_33 : decode cX3_first 33 = .ok (.invokevirtual 86, 3) := by decide +kernel
theorem dX3_first_36 : decode cX3_first 36 = .ok (.ifCond .eq 5, 3) := by decide +kernel
theorem dX3_first_39 : decode cX3_first 39 = .ok (.iload_n 2, 1) := by decide +kernel
theorem dX3_first_40 : decode cX3_first 40 = .ok (.ireturn, 1) := by decide +kernel
theorem dX3_first_41 : decode cX3_first 41 = .ok (.iinc 2 1, 3) := by decide +kernel
theorem dX3_first_44 : decode cX3_first 44 = .ok (.goto (-24), 3) := by decide +kernel
theorem dX3_first_47 : decode cX3_first 47 = .ok (.iconst (-1), 1) := by decide +kernel
theorem dX3_first_48 : decode cX3_first 48 = .ok (.ireturn, 1) := by decide +kernel
set_option maxRecDepth 20000 in
theorem ggX3_period_X3_isHem : GoodIn wsX3_period wsX3_isHem := goodIn_r _ [5, 6, 7, 4, 8] (by decide +kernel) (by decide +kernel)
set_option maxRecDepth 20000 in
theorem gX3_period_X3_isHem : GoodIn wsX3_period (va_wsS RX3 38 yX3_isHem wsX3_isHem) := goodIn_app (goodIn_of _ (by decide +kernel)) ggX3_period_X3_isHem
set_option maxRecDepth 20000 in
theorem ggX3_period_X3_periodOf : GoodIn wsX3_period wsX3_periodOf := goodIn_r _ [12, 13, 14, 15, 16, 17, 18, 19, 20, 4, 21, 22, 27, 28, 29, 30, 31, 32, 33, 34] (by decide +kernel) (by decide +kernel)
set_option maxRecDepth 20000 in
theorem gX3_period_X3_periodOf : GoodIn wsX3_period (wsV RX3 129 RX3 yX3_periodOf wsX3_periodOf) := goodIn_app (goodIn_of _ (by decide +kernel)) ggX3_period_X3_periodOf
set_option maxRecDepth 20000 in
theorem ggX3_period_X3_no : GoodIn wsX3_period wsX3_no := goodIn_r _ [26, 1, 27, 28, 29, 30, 31, 32, 33, 34] (by decide +kernel) (by decide +kernel)
set_option maxRecDepth 20000 in
theorem gX3_period_X3_no : GoodIn wsX3_period (wsV RX3 99 RX3 yX3_no wsX3_no) := goodIn_app (goodIn_of _ (by decide +kernel)) ggX3_period_X3_no
theorem dX3_period_0 : decode cX3_period 0 = .ok (.aload_n 0, 1) := by decide +kernel
theorem dX3_period_1 : decode cX3_period 1 = .ok (.iconst 0, 1) := by decide +kernel
theorem dX3_period_2 : decode cX3_period 2 = .ok (.putfield 30, 3) := by decide +kernel
theorem dX3_period_5 : decode cX3_period 5 = .ok (.iload_n 1, 1) := by decide +kernel
theorem dX3_period_6 : decode cX3_period 6 = .ok (.invokestatic 38, 3) := by decide +kernel
theorem dX3_period_9 : decode cX3_period 9 = .ok (.ifCond .eq 11, 3) := by decide +kernel
theorem dX3_period_12 : decode cX3_period 12 = .ok (.aload_n 0, 1) := by decide +kernel
theorem dX3_period_13 : decode cX3_period 13 = .ok (.iload_n 1, 1) := by decide +kernel
theorem dX3_period_14 : decode cX3_period 14 = .ok (.invokevirtual 129, 3) := by decide +kernel
theorem dX3_period_17 : decode cX3_period 17 = .ok (.goto 8, 3) := by decide +kernel
theorem dX3_period_20 : decode cX3_period 20 = .ok (.aload_n 0, 1) := by decide +kernel
theorem dX3_period_21 : decode cX3_period 21 = .ok (.iconst 1, 1) := by decide +kernel
theorem dX3_period_22 : decode cX3_period 22 = .ok (.invokevirtual 99, 3) := by decide +kernel
theorem dX3_period_25 : decode cX3_period 25 = .ok (.ireturn, 1) := by decide +kernel
set_option maxRecDepth 20000 in
theorem ggX3_turned_X3_isHem : GoodIn wsX3_turned wsX3_isHem := goodIn_r _ [5, 6, 7, 4, 8] (by decide +kernel) (by decide +kernel)
set_option maxRecDepth 20000 in
theorem gX3_turned_X3_isHem : GoodIn wsX3_turned (va_wsS RX3 38 yX3_isHem wsX3_isHem) := goodIn_app (goodIn_of _ (by decide +kernel)) ggX3_turned_X3_isHem
set_option maxRecDepth 20000 in
theorem ggX3_turned_X3_turnedOf : GoodIn wsX3_turned wsX3_turnedOf := goodIn_r _ [12, 13, 14, 15, 16, 4, 17, 18, 23, 24, 25, 26, 27, 28, 29, 30] (by decide +kernel) (by decide +kernel)
set_option maxRecDepth 20000 in
theorem gX3_turned_X3_turnedOf : GoodIn wsX3_turned (wsV RX3 132 RX3 yX3_turnedOf wsX3_turnedOf) := goodIn_app (goodIn_of _ (by decide +kernel)) ggX3_turned_X3_turnedOf
set_option maxRecDepth 20000 in
theorem ggX3_turned_X3_no : GoodIn wsX3_turned wsX3_no := goodIn_r _ [22, 1, 23, 24, 25, 26, 27, 28, 29, 30] (by decide +kernel) (by decide +kernel)
set_option maxRecDepth 20000 in
theorem gX3_turned_X3_no : GoodIn wsX3_turned (wsV RX3 99 RX3 yX3_no wsX3_no) := goodIn_app (goodIn_of _ (by decide +kernel)) ggX3_turned_X3_no
theorem dX3_turned_0 : decode cX3_turned 0 = .ok (.aload_n 0, 1) := by decide +kernel
theorem dX3_turned_1 : decode cX3_turned 1 = .ok (.iconst 0, 1) := by decide +kernel
theorem dX3_turned_2 : decode cX3_turned 2 = .ok (.putfield 30, 3) := by decide +kernel
theorem dX3_turned_5 : decode cX3_turned 5 = .ok (.iload_n 1, 1) := by decide +kernel
theorem dX3_turned_6 : decode cX3_turned 6 = .ok (.invokestatic 38, 3) := by decide +kernel
theorem dX3_turned_9 : decode cX3_turned 9 = .ok (.ifCond .eq 11, 3) := by decide +kernel
theorem dX3_turned_12 : decode cX3_turned 12 = .ok (.aload_n 0, 1) := by decide +kernel
theorem dX3_turned_13 : decode cX3_turned 13 = .ok (.iload_n 1, 1) := by decide +kernel
theorem dX3_turned_14 : decode cX3_turned 14 = .ok (.invokevirtual 132, 3) := by decide +kernel
theorem dX3_turned_17 : decode cX3_turned 17 = .ok (.goto 8, 3) := by decide +kernel
theorem dX3_turned_20 : decode cX3_turned 20 = .ok (.aload_n 0, 1) := by decide +kernel
theorem dX3_turned_21 : decode cX3_turned 21 = .ok (.iconst 1, 1) := by decide +kernel
theorem dX3_turned_22 : decode cX3_turned 22 = .ok (.invokevirtual 99, 3) := by decide +kernel
theorem dX3_turned_25 : decode cX3_turned 25 = .ok (.ireturn, 1) := by decide +kernel
set_option maxRecDepth 20000 in
theorem ggX3_seam_X3_isIn : GoodIn wsX3_seam wsX3_isIn := goodIn_r _ [5] (by decide +kernel) (by decide +kernel)
set_option maxRecDepth 20000 in
theorem gX3_seam_X3_isIn : GoodIn wsX3_seam (va_wsS RX3 34 yX3_isIn wsX3_isIn) := goodIn_app (goodIn_of _ (by decide +kernel)) ggX3_seam_X3_isIn
set_option maxRecDepth 20000 in
theorem ggX3_seam_X3_seamTold : GoodIn wsX3_seam wsX3_seamTold := goodIn_r _ [9, 10, 11, 12, 13, 14, 15, 4, 16, 17, 18, 19, 20, 21, 22, 23, 24, 25, 26, 27, 28, 29, 30, 31, 32, 33, 34, 35, 36, 37, 38, 39, 44, 45, 46, 47, 48, 49, 50, 51] (by decide +kernel) (by decide +kernel)
set_option maxRecDepth 20000 in
theorem gX3_seam_X3_seamTold : GoodIn wsX3_seam (wsV RX3 111 RX3 yX3_seamTold wsX3_seamTold) := goodIn_app (goodIn_of _ (by decide +kernel)) ggX3_seam_X3_seamTold
set_option maxRecDepth 20000 in
theorem ggX3_seam_X3_no : GoodIn wsX3_seam wsX3_no := goodIn_r _ [43, 1, 44, 45, 46, 47, 48, 49, 50, 51] (by decide +kernel) (by decide +kernel)
set_option maxRecDepth 20000 in
theorem gX3_seam_X3_no : GoodIn wsX3_seam (wsV RX3 99 RX3 yX3_no wsX3_no) := goodIn_app (goodIn_of _ (by decide +kernel)) ggX3_seam_X3_no
theorem dX3_seam_0 : decode cX3_seam 0 = .ok (.aload_n 0, 1) := by decide +kernel
theorem dX3_seam_1 : decode cX3_seam 1 = .ok (.iconst 0, 1) := by decide +kernel
theorem dX3_seam_2 : decode cX3_seam 2 = .ok (.putfield 30, 3) := by decide +kernel
theorem dX3_seam_5 : decode cX3_seam 5 = .ok (.iload_n 1, 1) := by decide +kernel
theorem dX3_seam_6 : decode cX3_seam 6 = .ok (.iconst 0, 1) := by decide +kernel
theorem dX3_seam_7 : decode cX3_seam 7 = .ok (.iconst 2, 1) := by decide +kernel
theorem dX3_seam_8 : decode cX3_seam 8 = .ok (.invokestatic 34, 3) := by decide +kernel
theorem dX3_seam_11 : decode cX3_seam 11 = .ok (.ifCond .eq 11, 3) := by decide +kernel
theorem dX3_seam_14 : decode cX3_seam 14 = .ok (.aload_n 0, 1) := by decide +kernel
theorem dX3_seam_15 : decode cX3_seam 15 = .ok (.iload_n 1, 1) := by decide +kernel
theorem dX3_seam_16 : decode cX3_seam 16 = .ok (.invokevirtual 111, 3) := by decide +kernel
theorem dX3_seam_19 : decode cX3_seam 19 = .ok (.goto 8, 3) := by decide +kernel
theorem dX3_seam_22 : decode cX3_seam 22 = .ok (.aload_n 0, 1) := by decide +kernel
theorem dX3_seam_23 : decode cX3_seam 23 = .ok (.iconst 1, 1) := by decide +kernel
theorem dX3_seam_24 : decode cX3_seam 24 = .ok (.invokevirtual 99, 3) := by decide +kernel
theorem dX3_seam_27 : decode cX3_seam 27 = .ok (.ireturn, 1) := by decide +kernel
set_option maxRecDepth 20000 in
theorem ggX3_would_X3_isHem : GoodIn wsX3_would wsX3_isHem := goodIn_r _ [5, 6, 7, 4, 8] (by decide +kernel) (by decide +kernel)
set_option maxRecDepth 20000 in
theorem gX3_would_X3_isHem : GoodIn wsX3_would (va_wsS RX3 38 yX3_isHem wsX3_isHem) := goodIn_app (goodIn_of _ (by decide +kernel)) ggX3_would_X3_isHem
set_option maxRecDepth 20000 in
theorem ggX3_would_X3_no : GoodIn wsX3_would wsX3_no := goodIn_r _ [12, 1, 26, 27, 28, 29, 30, 31, 32, 33] (by decide +kernel) (by decide +kernel)
set_option maxRecDepth 20000 in
theorem gX3_would_X3_no : GoodIn wsX3_would (wsV RX3 99 RX3 yX3_no wsX3_no) := goodIn_app (goodIn_of _ (by decide +kernel)) ggX3_would_X3_no
set_option maxRecDepth 20000 in
theorem ggX3_would_X3_isStitch : GoodIn wsX3_would wsX3_isStitch := goodIn_r _ [15, 6, 7, 4, 8] (by decide +kernel) (by decide +kernel)
set_option maxRecDepth 20000 in
theorem gX3_would_X3_isStitch : GoodIn wsX3_would (va_wsS RX3 102 yX3_isStitch wsX3_isStitch) := goodIn_app (goodIn_of _ (by decide +kernel)) ggX3_would_X3_isStitch
set_option maxRecDepth 20000 in
theorem ggX3_would_X3_more : GoodIn wsX3_would wsX3_more := goodIn_r _ [19, 20, 21, 22, 23, 24, 25, 26, 27, 28, 29, 30, 31, 32, 33] (by decide +kernel) (by decide +kernel)
set_option maxRecDepth 20000 in
theorem gX3_would_X3_more : GoodIn wsX3_would (wsV RX3 135 RX3 yX3_more wsX3_more) := goodIn_app (goodIn_of _ (by decide +kernel)) ggX3_would_X3_more
theorem dX3_would_0 : decode cX3_would 0 = .ok (.aload_n 0, 1) := by decide +kernel
theorem dX3_would_1 : decode cX3_would 1 = .ok (.iconst 0, 1) := by decide +kernel
theorem dX3_would_2 : decode cX3_would 2 = .ok (.putfield 30, 3) := by decide +kernel
theorem dX3_would_5 : decode cX3_would 5 = .ok (.iload_n 1, 1) := by decide +kernel
theorem dX3_would_6 : decode cX3_would 6 = .ok (.invokestatic 38, 3) := by decide +kernel
theorem dX3_would_9 : decode cX3_would 9 = .ok (.ifCond .ne 9, 3) := by decide +kernel
theorem dX3_would_12 : decode cX3_would 12 = .ok (.aload_n 0, 1) := by decide +kernel
theorem dX3_would_13 : decode cX3_would 13 = .ok (.iconst 1, 1) := by decide +kernel
theorem dX3_would_14 : decode cX3_would 14 = .ok (.invokevirtual 99, 3) := by decide +kernel
theorem dX3_would_17 : decode cX3_would 17 = .ok (.ireturn, 1) := by decide +kernel
theorem dX3_would_18 : decode cX3_would 18 = .ok (.iload_n 2, 1) := by decide +kernel
theorem dX3_would_19 : decode cX3_would 19 = .ok (.invokestatic 102, 3) := by decide +kernel
theorem dX3_would_22 : decode cX3_would 22 = .ok (.ifCond .eq 12, 3) := by decide +kernel
theorem dX3_would_25 : decode cX3_would 25 = .ok (.aload_n 0, 1) := by decide +kernel
theorem dX3_would_26 : decode cX3_would 26 = .ok (.iload_n 1, 1) := by decide +kernel
theorem dX3_would_27 : decode cX3_would 27 = .ok (.iload_n 2, 1) := by decide +kernel
theorem dX3_would_28 : decode cX3_would 28 = .ok (.invokevirtual 135, 3) := by decide +kernel
theorem dX3_would_31 : decode cX3_would 31 = .ok (.goto 8, 3) := by decide +kernel
theorem dX3_would_34 : decode cX3_would 34 = .ok (.aload_n 0, 1) := by decide +kernel
theorem dX3_would_35 : decode cX3_would 35 = .ok (.iconst 2, 1) := by decide +kernel
theorem dX3_would_36 : decode cX3_would 36 = .ok (.invokevirtual 99, 3) := by decide +kernel
theorem dX3_would_39 : decode cX3_would 39 = .ok (.ireturn, 1) := by decide +kernel
set_option maxRecDepth 20000 in
theorem ggX3_advise_X3_isHem : GoodIn wsX3_advise wsX3_isHem := goodIn_r _ [5, 6, 7, 4, 8] (by decide +kernel) (by decide +kernel)
set_option maxRecDepth 20000 in
theorem gX3_advise_X3_isHem : GoodIn wsX3_advise (va_wsS RX3 38 yX3_isHem wsX3_isHem) := goodIn_app (goodIn_of _ (by decide +kernel)) ggX3_advise_X3_isHem
set_option maxRecDepth 20000 in
theorem ggX3_advise_X3_no : GoodIn wsX3_advise wsX3_no := goodIn_r _ [12, 1, 23, 24, 25, 26, 27, 28, 29, 30] (by decide +kernel) (by decide +kernel)
set_option maxRecDepth 20000 in
theorem gX3_advise_X3_no : GoodIn wsX3_advise (wsV RX3 99 RX3 yX3_no wsX3_no) := goodIn_app (goodIn_of _ (by decide +kernel)) ggX3_advise_X3_no
set_option maxRecDepth 20000 in
theorem ggX3_advise_X3_more : GoodIn wsX3_advise wsX3_more := goodIn_r _ [16, 17, 18, 19, 20, 21, 22, 23, 24, 25, 26, 27, 28, 29, 30] (by decide +kernel) (by decide +kernel)
set_option maxRecDepth 20000 in
theorem gX3_advise_X3_more : GoodIn wsX3_advise (wsV RX3 135 RX3 yX3_more wsX3_more) := goodIn_app (goodIn_of _ (by decide +kernel)) ggX3_advise_X3_more
theorem dX3_advise_0 : decode cX3_advise 0 = .ok (.aload_n 0, 1) := by decide +kernel
theorem dX3_advise_1 : decode cX3_advise 1 = .ok (.iconst 0, 1) := by decide +kernel
theorem dX3_advise_2 : decode cX3_advise 2 = .ok (.putfield 30, 3) := by decide +kernel
theorem dX3_advise_5 : decode cX3_advise 5 = .ok (.iload_n 1, 1) := by decide +kernel
theorem dX3_advise_6 : decode cX3_advise 6 = .ok (.invokestatic 38, 3) := by decide +kernel
theorem dX3_advise_9 : decode cX3_advise 9 = .ok (.ifCond .ne 9, 3) := by decide +kernel
theorem dX3_advise_12 : decode cX3_advise 12 = .ok (.aload_n 0, 1) := by decide +kernel
theorem dX3_advise_13 : decode cX3_advise 13 = .ok (.iconst 1, 1) := by decide +kernel
theorem dX3_advise_14 : decode cX3_advise 14 = .ok (.invokevirtual 99, 3) := by decide +kernel
theorem dX3_advise_17 : decode cX3_advise 17 = .ok (.ireturn, 1) := by decide +kernel
theorem dX3_advise_18 : decode cX3_advise 18 = .ok (.iconst 0, 1) := by decide +kernel
theorem dX3_advise_19 : decode cX3_advise 19 = .ok (.istore_n 2, 1) := by decide +kernel
theorem dX3_advise_20 : decode cX3_advise 20 = .ok (.iconst 1, 1) := by decide +kernel
theorem dX3_advise_21 : decode cX3_advise 21 = .ok (.istore_n 3, 1) := by decide +kernel
theorem dX3_advise_22 : decode cX3_advise 22 = .ok (.iload_n 3, 1) := by decide +kernel
theorem dX3_advise_23 : decode cX3_advise 23 = .ok (.bipush 9, 2) := by decide +kernel
theorem dX3_advise_25 : decode cX3_advise 25 = .ok (.if_icmp .ge 26, 3) := by decide +kernel
theorem dX3_advise_28 : decode cX3_advise 28 = .ok (.aload_n 0, 1) := by decide +kernel
theorem dX3_advise_29 : decode cX3_advise 29 = .ok (.iload_n 1, 1) := by decide +kernel
theorem dX3_advise_30 : decode cX3_advise 30 = .ok (.iload_n 3, 1) := by decide +kernel
theorem dX3_advise_31 : decode cX3_advise 31 = .ok (.invokevirtual 135, 3) := by decide +kernel
theorem dX3_advise_34 : decode cX3_advise 34 = .ok (.aload_n 0, 1) := by decide +kernel
theorem dX3_advise_35 : decode cX3_advise 35 = .ok (.iload_n 1, 1) := by decide +kernel
theorem dX3_advise_36 : decode cX3_advise 36 = .ok (.iload_n 2, 1) := by decide +kernel
theorem dX3_advise_37 : decode cX3_advise 37 = .ok (.invokevirtual 135, 3) := by decide +kernel
theorem dX3_advise_40 : decode cX3_advise 40 = .ok (.if_icmp .ge 5, 3) := by decide +kernel
theorem dX3_advise_43 : decode cX3_advise 43 = .ok (.iload_n 3, 1) := by decide +kernel
theorem dX3_advise_44 : decode cX3_advise 44 = .ok (.istore_n 2, 1) := by decide +kernel
theorem dX3_advise_45 : decode cX3_advise 45 = .ok (.iinc 3 1, 3) := by decide +kernel
theorem dX3_advise_48 : decode cX3_advise 48 = .ok (.goto (-26), 3) := by decide +kernel
theorem dX3_advise_51 : decode cX3_advise 51 = .ok (.iload_n 2, 1) := by decide +kernel
theorem dX3_advise_52 : decode cX3_advise 52 = .ok (.ireturn, 1) := by decide +kernel
set_option maxRecDepth 20000 in
theorem ggX3_mean_X3_order : GoodIn wsX3_mean wsX3_order := goodIn_r _ [9, 2, 4, 10, 11, 12, 8, 13, 14, 3, 15, 16, 17, 18, 19, 20, 21, 22, 23, 24, 25, 26, 27, 28, 29, 30, 31, 32, 33, 34, 35, 36] (by decide +kernel) (by decide +kernel)
set_option maxRecDepth 20000 in
theorem gX3_mean_X3_order : GoodIn wsX3_mean (wsV RX3 117 RX3 yX3_order wsX3_order) := goodIn_app (goodIn_of _ (by decide +kernel)) ggX3_mean_X3_order
theorem dX3_mean_0 : decode cX3_mean 0 = .ok (.aload_n 0, 1) := by decide +kernel
theorem dX3_mean_1 : decode cX3_mean 1 = .ok (.iconst 0, 1) := by decide +kernel
theorem dX3_mean_2 : decode cX3_mean 2 = .ok (.putfield 30, 3) := by decide +kernel
theorem dX3_mean_5 : decode cX3_mean 5 = .ok (.iconst 0, 1) := by decide +kernel
theorem dX3_mean_6 : decode cX3_mean 6 = .ok (.istore_n 1, 1) := by decide +kernel
theorem dX3_mean_7 : decode cX3_mean 7 = .ok (.iconst 0, 1) := by decide +kernel
theorem dX3_mean_8 : decode cX3_mean 8 = .ok (.istore_n 2, 1) := by decide +kernel
theorem dX3_mean_9 : decode cX3_mean 9 = .ok (.iconst 0, 1) := by decide +kernel
theorem dX3_mean_10 : decode cX3_mean 10 = .ok (.istore_n 3, 1) := by decide +kernel
theorem dX3_mean_11 : decode cX3_mean 11 = .ok (.iload_n 3, 1) := by decide +kernel
theorem dX3_mean_12 : decode cX3_mean 12 = .ok (.iconst 2, 1) := by decide +kernel
theorem dX3_mean_13 : decode cX3_mean 13 = .ok (.if_icmp .ge 62, 3) := by decide +kernel
theorem dX3_mean_16 : decode cX3_mean 16 = .ok (.aload_n 0, 1) := by decide +kernel
theorem dX3_mean_17 : decode cX3_mean 17 = .ok (.iload_n 3, 1) := by decide +kernel
theorem dX3_mean_18 : decode cX3_mean 18 = .ok (.invokevirtual 117, 3) := by decide +kernel
theorem dX3_mean_21 : decode cX3_mean 21 = .ok (.iconst 1, 1) := by decide +kernel
theorem dX3_mean_22 : decode cX3_mean 22 = .ok (.istore 4, 2) := by decide +kernel
theorem dX3_mean_24 : decode cX3_mean 24 = .ok (.iload 4, 2) := by decide +kernel
theorem dX3_mean_26 : decode cX3_mean 26 = .ok (.aload_n 0, 1) := by decide +kernel
theorem dX3_mean_27 : decode cX3_mean 27 = .ok (.getfield 14, 3) := by decide +kernel
theorem dX3_mean_30 : decode cX3_mean 30 = .ok (.iload_n 3, 1) := by decide +kernel
theorem dX3_mean_31 : decode cX3_mean 31 = .ok (.iaload, 1) := by decide +kernel
theorem dX3_mean_32 : decode cX3_mean 32 = .ok (.if_icmp .ge 37, 3) := by decide +kernel
theorem dX3_mean_35 : decode cX3_mean 35 = .ok (.iload_n 1, 1) := by decide +kernel
theorem dX3_mean_36 : decode cX3_mean 36 = .ok (.aload_n 0, 1) := by decide +kernel
theorem dX3_mean_37 : decode cX3_mean 37 = .ok (.getfield 21, 3) := by decide +kernel
theorem dX3_mean_40 : decode cX3_mean 40 = .ok (.aload_n 0, 1) := by decide +kernel
theorem dX3_mean_41 : decode cX3_mean 41 = .ok (.getfield 24, 3) := by decide +kernel
theorem dX3_mean_44 : decode cX3_mean 44 = .ok (.iload 4, 2) := by decide +kernel
theorem dX3_mean_46 : decode cX3_mean 46 = .ok (.iconst 1, 1) := by decide +kernel
theorem dX3_mean_47 : decode cX3_mean 47 = .ok (.isub, 1) := by decide +kernel
theorem dX3_mean_48 : decode cX3_mean 48 = .ok (.iaload, 1) := by decide +kernel
theorem dX3_mean_49 : decode cX3_mean 49 = .ok (.aaload, 1) := by decide +kernel
theorem dX3_mean_50 : decode cX3_mean 50 = .ok (.aload_n 0, 1) := by decide +kernel
theorem dX3_mean_51 : decode cX3_mean 51 = .ok (.getfield 24, 3) := by decide +kernel
theorem dX3_mean_54 : decode cX3_mean 54 = .ok (.iload 4, 2) := by decide +kernel
theorem dX3_mean_56 : decode cX3_mean 56 = .ok (.iaload, 1) := by decide +kernel
theorem dX3_mean_57 : decode cX3_mean 57 = .ok (.iaload, 1) := by decide +kernel
theorem dX3_mean_58 : decode cX3_mean 58 = .ok (.iadd, 1) := by decide +kernel
theorem dX3_mean_59 : decode cX3_mean 59 = .ok (.istore_n 1, 1) := by decide +kernel
theorem dX3_mean_60 : decode cX3_mean 60 = .ok (.iinc 2 1, 3) := by decide +kernel
theorem dX3_mean_63 : decode cX3_mean 63 = .ok (.iinc 4 1, 3) := by decide +kernel
theorem dX3_mean_66 : decode cX3_mean 66 = .ok (.goto (-42), 3) := by decide +kernel
theorem dX3_mean_69 : decode cX3_mean 69 = .ok (.iinc 3 1, 3) := by decide +kernel
theorem dX3_mean_72 : decode cX3_mean 72 = .ok (.goto (-61), 3) := by decide +kernel
theorem dX3_mean_75 : decode cX3_mean 75 = .ok (.iload_n 2, 1) := by decide +kernel
theorem dX3_mean_76 : decode cX3_mean 76 = .ok (.ifCond .ne 7, 3) := by decide +kernel
theorem dX3_mean_79 : decode cX3_mean 79 = .ok (.dconst 0, 1) := by decide +kernel
theorem dX3_mean_80 : decode cX3_mean 80 = .ok (.goto 8, 3) := by decide +kernel
theorem dX3_mean_83 : decode cX3_mean 83 = .ok (.iload_n 1, 1) := by decide +kernel
theorem dX3_mean_84 : decode cX3_mean 84 = .ok (.i2d, 1) := by decide +kernel
theorem dX3_mean_85 : decode cX3_mean 85 = .ok (.iload_n 2, 1) := by decide +kernel
theorem dX3_mean_86 : decode cX3_mean 86 = .ok (.i2d, 1) := by decide +kernel
theorem dX3_mean_87 : decode cX3_mean 87 = .ok (.ddiv, 1) := by decide +kernel
theorem dX3_mean_88 : decode cX3_mean 88 = .ok (.dreturn, 1) := by decide +kernel
set_option maxRecDepth 20000 in
theorem ggX3_digest_X3_counted : GoodIn wsX3_digest wsX3_counted := goodIn_r _ [13, 4, 7, 14, 15, 16, 12, 17, 18, 19, 20, 21, 5, 22, 23, 24, 25, 26, 27, 28, 29, 30, 31, 32, 33, 34, 35, 36, 37, 38, 39, 40, 41, 42, 43, 44, 45, 46, 47, 48, 49, 50, 51, 52, 53, 101, 102, 103, 104, 105, 106, 107, 108] (by decide +kernel) (by decide +kernel)
set_option maxRecDepth 20000 in
theorem gX3_digest_X3_counted : GoodIn wsX3_digest (wsV RX3 114 RX3 yX3_counted wsX3_counted) := goodIn_app (goodIn_of _ (by decide +kernel)) ggX3_digest_X3_counted
set_option maxRecDepth 20000 in
theorem ggX3_digest_X3_order : GoodIn wsX3_digest wsX3_order := goodIn_r _ [57, 4, 6, 18, 19, 20, 12, 21, 5, 22, 23, 24, 25, 58, 59, 60, 61, 47, 48, 49, 50, 51, 52, 53, 101, 102, 103, 104, 105, 106, 107, 108] (by decide +kernel) (by decide +kernel)
set_option maxRecDepth 20000 in
theorem gX3_digest_X3_order : GoodIn wsX3_digest (wsV RX3 117 RX3 yX3_order wsX3_order) := goodIn_app (goodIn_of _ (by decide +kernel)) ggX3_digest_X3_order
set_option maxRecDepth 20000 in
theorem ggX3_digest_X3_repeatTold : GoodIn wsX3_digest wsX3_repeatTold := goodIn_r _ [65, 4, 22, 18, 19, 20, 12, 21, 5, 23, 24, 25, 66, 67, 68, 69, 30, 31, 32, 33, 47, 48, 49, 50, 51, 52, 53, 70, 71, 72, 73, 101, 102, 103, 104, 105, 106, 107, 108] (by decide +kernel) (by decide +kernel)
set_option maxRecDepth 20000 in
theorem gX3_digest_X3_repeatTold : GoodIn wsX3_digest (wsV RX3 120 RX3 yX3_repeatTold wsX3_repeatTold) := goodIn_app (goodIn_of _ (by decide +kernel)) ggX3_digest_X3_repeatTold
set_option maxRecDepth 20000 in
theorem ggX3_digest_X3_periodOf : GoodIn wsX3_digest wsX3_periodOf := goodIn_r _ [77, 4, 78, 79, 32, 80, 81, 82, 83, 12, 84, 5, 101, 102, 103, 104, 105, 106, 107, 108] (by decide +kernel) (by decide +kernel)
set_option maxRecDepth 20000 in
theorem gX3_digest_X3_periodOf : GoodIn wsX3_digest (wsV RX3 129 RX3 yX3_periodOf wsX3_periodOf) := goodIn_app (goodIn_of _ (by decide +kernel)) ggX3_digest_X3_periodOf
set_option maxRecDepth 20000 in
theorem ggX3_digest_X3_turnedOf : GoodIn wsX3_digest wsX3_turnedOf := goodIn_r _ [88, 4, 89, 90, 91, 12, 92, 5, 101, 102, 103, 104, 105, 106, 107, 108] (by decide +kernel) (by decide +kernel)
set_option maxRecDepth 20000 in
theorem gX3_digest_X3_turnedOf : GoodIn wsX3_digest (wsV RX3 132 RX3 yX3_turnedOf wsX3_turnedOf) := goodIn_app (goodIn_of _ (by decide +kernel)) ggX3_digest_X3_turnedOf
set_option maxRecDepth 20000 in
theorem ggX3_digest_X3_foundIn : GoodIn wsX3_digest wsX3_foundIn := goodIn_r _ [96, 4, 97, 98, 99, 12, 100, 7, 5, 8, 101, 102, 103, 104, 105, 106, 107, 108] (by decide +kernel) (by decide +kernel)
set_option maxRecDepth 20000 in
theorem gX3_digest_X3_foundIn : GoodIn wsX3_digest (wsV RX3 126 RX3 yX3_foundIn wsX3_foundIn) := goodIn_app (goodIn_of _ (by decide +kernel)) ggX3_digest_X3_foundIn
set_option maxRecDepth 20000 in
theorem ggX3_digest_X3_seamTold : GoodIn wsX3_digest wsX3_seamTold := goodIn_r _ [37, 4, 22, 38, 18, 19, 20, 12, 21, 5, 23, 24, 25, 39, 40, 41, 42, 43, 44, 45, 46, 30, 31, 32, 33, 47, 48, 49, 50, 51, 52, 53, 101, 102, 103, 104, 105, 106, 107, 108] (by decide +kernel) (by decide +kernel)
set_option maxRecDepth 20000 in
theorem gX3_digest_X3_seamTold : GoodIn wsX3_digest (wsV RX3 111 RX3 yX3_seamTold wsX3_seamTold) := goodIn_app (goodIn_of _ (by decide +kernel)) ggX3_digest_X3_seamTold
theorem dX3_digest_0 : decode cX3_digest 0 = .ok (.aload_n 0, 1) := by decide +kernel
theorem dX3_digest_1 : decode cX3_digest 1 = .ok (.iconst 0, 1) := by decide +kernel
theorem dX3_digest_2 : decode cX3_digest 2 = .ok (.putfield 30, 3) := by decide +kernel
theorem dX3_digest_5 : decode cX3_digest 5 = .ok (.ldc2_w 138, 3) := by decide +kernel
theorem dX3_digest_8 : decode cX3_digest 8 = .ok (.lstore_n 1, 1) := by decide +kernel
theorem dX3_digest_9 : decode cX3_digest 9 = .ok (.iconst 0, 1) := by decide +kernel
theorem dX3_digest_10 : decode cX3_digest 10 = .ok (.istore_n 3, 1) := by decide +kernel
theorem dX3_digest_11 : decode cX3_digest 11 = .ok (.iload_n 3, 1) := by decide +kernel
theorem dX3_digest_12 : decode cX3_digest 12 = .ok (.iconst 5, 1) := by decide +kernel
theorem dX3_digest_13 : decode cX3_digest 13 = .ok (.if_icmp .gt 22, 3) := by decide +kernel
theorem dX3_digest_16 : decode cX3_digest 16 = .ok (.lload_n 1, 1) := by decide +kernel
theorem dX3_digest_17 : decode cX3_digest 17 = .ok (.ldc2_w 140, 3) := by decide +kernel
theorem dX3_digest_20 : decode cX3_digest 20 = .ok (.lmul, 1) := by decide +kernel
theorem dX3_digest_21 : decode cX3_digest 21 = .ok (.aload_n 0, 1) := by decide +kernel
theorem dX3_digest_22 : decode cX3_digest 22 = .ok (.iload_n 3, 1) := by decide +kernel
theorem dX3_digest_23 : decode cX3_digest 23 = .ok (.invokevirtual 114, 3) := by decide +kernel
theorem dX3_digest_26 : decode cX3_digest 26 = .ok (.i2l, 1) := by decide +kernel
theorem dX3_digest_27 : decode cX3_digest 27 = .ok (.ladd, 1) := by decide +kernel
theorem dX3_digest_28 : decode cX3_digest 28 = .ok (.lstore_n 1, 1) := by decide +kernel
theorem dX3_digest_29 : decode cX3_digest 29 = .ok (.iinc 3 1, 3) := by decide +kernel
theorem dX3_digest_32 : decode cX3_digest 32 = .ok (.goto (-21), 3) := by decide +kernel
theorem dX3_digest_35 : decode cX3_digest 35 = .ok (.iconst 0, 1) := by decide +kernel
theorem dX3_digest_36 : decode cX3_digest 36 = .ok (.istore_n 3, 1) := by decide +kernel
theorem dX3_digest_37 : decode cX3_digest 37 = .ok (.iload_n 3, 1) := by decide +kernel
theorem dX3_digest_38 : decode cX3_digest 38 = .ok (.iconst 2, 1) := by decide +kernel
theorem dX3_digest_39 : decode cX3_digest 39 = .ok (.if_icmp .ge 151, 3) := by decide +kernel
theorem dX3_digest_42 : decode cX3_digest 42 = .ok (.iconst 0, 1) := by decide +kernel
theorem dX3_digest_43 : decode cX3_digest 43 = .ok (.istore 4, 2) := by decide +kernel
theorem dX3_digest_45 : decode cX3_digest 45 = .ok (.iload 4, 2) := by decide +kernel
theorem dX3_digest_47 : decode cX3_digest 47 = .ok (.aload_n 0, 1) := by decide +kernel
theorem dX3_digest_48 : decode cX3_digest 48 = .ok (.getfield 14, 3) := by decide +kernel
theorem dX3_digest_51 : decode cX3_digest 51 = .ok (.iload_n 3, 1) := by decide +kernel
theorem dX3_digest_52 : decode cX3_digest 52 = .ok (.iaload, 1) := by decide +kernel
theorem dX3_digest_53 : decode cX3_digest 53 = .ok (.if_icmp .ge 26, 3) := by decide +kernel
theorem dX3_digest_56 : decode cX3_digest 56 = .ok (.lload_n 1, 1) := by decide +kernel
theorem dX3_digest_57 : decode cX3_digest 57 = .ok (.ldc2_w 140, 3) := by decide +kernel
theorem dX3_digest_60 : decode cX3_digest 60 = .ok (.lmul, 1) := by decide +kernel
theorem dX3_digest_61 : decode cX3_digest 61 = .ok (.aload_n 0, 1) := by decide +kernel
theorem dX3_digest_62 : decode cX3_digest 62 = .ok (.getfield 11, 3) := by decide +kernel
theorem dX3_digest_65 : decode cX3_digest 65 = .ok (.iload_n 3, 1) := by decide +kernel
theorem dX3_digest_66 : decode cX3_digest 66 = .ok (.aaload, 1) := by decide +kernel
theorem dX3_digest_67 : decode cX3_digest 67 = .ok (.iload 4, 2) := by decide +kernel
theorem dX3_digest_69 : decode cX3_digest 69 = .ok (.iaload, 1) := by decide +kernel
theorem dX3_digest_70 : decode cX3_digest 70 = .ok (.i2l, 1) := by decide +kernel
theorem dX3_digest_71 : decode cX3_digest 71 = .ok (.ladd, 1) := by decide +kernel
theorem dX3_digest_72 : decode cX3_digest 72 = .ok (.lstore_n 1, 1) := by decide +kernel
theorem dX3_digest_73 : decode cX3_digest 73 = .ok (.iinc 4 1, 3) := by decide +kernel
theorem dX3_digest_76 : decode cX3_digest 76 = .ok (.goto (-31), 3) := by decide +kernel
theorem dX3_digest_79 : decode cX3_digest 79 = .ok (.aload_n 0, 1) := by decide +kernel
theorem dX3_digest_80 : decode cX3_digest 80 = .ok (.iload_n 3, 1) := by decide +kernel
theorem dX3_digest_81 : decode cX3_digest 81 = .ok (.invokevirtual 117, 3) := by decide +kernel
theorem dX3_digest_84 : decode cX3_digest 84 = .ok (.iconst 0, 1) := by decide +kernel
theorem dX3_digest_85 : decode cX3_digest 85 = .ok (.istore 4, 2) := by decide +kernel
theorem dX3_digest_87 : decode cX3_digest 87 = .ok (.iload 4, 2) := by decide +kernel
theorem dX3_digest_89 : decode cX3_digest 89 = .ok (.aload_n 0, 1) := by decide +kernel
theorem dX3_digest_90 : decode cX3_digest 90 = .ok (.getfield 14, 3) := by decide +kernel
theorem dX3_digest_93 : decode cX3_digest 93 = .ok (.iload_n 3, 1) := by decide +kernel
theorem dX3_digest_94 : decode cX3_digest 94 = .ok (.iaload, 1) := by decide +kernel
theorem dX3_digest_95 : decode cX3_digest 95 = .ok (.if_icmp .ge 24, 3) := by decide +kernel
theorem dX3_digest_98 : decode cX3_digest 98 = .ok (.lload_n 1, 1) := by decide +kernel
theorem dX3_digest_99 : decode cX3_digest 99 = .ok (.ldc2_w 140, 3) := by decide +kernel
theorem dX3_digest_102 : decode cX3_digest 102 = .ok (.lmul, 1) := by decide +kernel
theorem dX3_digest_103 : decode cX3_digest 103 = .ok (.aload_n 0, 1) := by decide +kernel
theorem dX3_digest_104 : decode cX3_digest 104 = .ok (.getfield 24, 3) := by decide +kernel
theorem dX3_digest_107 : decode cX3_digest 107 = .ok (.iload 4, 2) := by decide +kernel
theorem dX3_digest_109 : decode cX3_digest 109 = .ok (.iaload, 1) := by decide +kernel
theorem dX3_digest_110 : decode cX3_digest 110 = .ok (.i2l, 1) := by decide +kernel
theorem dX3_digest_111 : decode cX3_digest 111 = .ok (.ladd, 1) := by decide +kernel
theorem dX3_digest_112 : decode cX3_digest 112 = .ok (.lstore_n 1, 1) := by decide +kernel
theorem dX3_digest_113 : decode cX3_digest 113 = .ok (.iinc 4 1, 3) := by decide +kernel
theorem dX3_digest_116 : decode cX3_digest 116 = .ok (.goto (-29), 3) := by decide +kernel
theorem dX3_digest_119 : decode cX3_digest 119 = .ok (.iconst 0, 1) := by decide +kernel
theorem dX3_digest_120 : decode cX3_digest 120 = .ok (.istore 4, 2) := by decide +kernel
theorem dX3_digest_122 : decode cX3_digest 122 = .ok (.iload 4, 2) := by decide +kernel
theorem dX3_digest_124 : decode cX3_digest 124 = .ok (.iconst 2, 1) := by decide +kernel
theorem dX3_digest_125 : decode cX3_digest 125 = .ok (.if_icmp .gt 24, 3) := by decide +kernel
theorem dX3_digest_128 : decode cX3_digest 128 = .ok (.lload_n 1, 1) := by decide +kernel
theorem dX3_digest_129 : decode cX3_digest 129 = .ok (.ldc2_w 140, 3) := by decide +kernel
theorem dX3_digest_132 : decode cX3_digest 132 = .ok (.lmul, 1) := by decide +kernel
theorem dX3_digest_133 : decode cX3_digest 133 = .ok (.aload_n 0, 1) := by decide +kernel
theorem dX3_digest_134 : decode cX3_digest 134 = .ok (.iload_n 3, 1) := by decide +kernel
theorem dX3_digest_135 : decode cX3_digest 135 = .ok (.iload 4, 2) := by decide +kernel
theorem dX3_digest_137 : decode cX3_digest 137 = .ok (.invokevirtual 120, 3) := by decide +kernel
theorem dX3_digest_140 : decode cX3_digest 140 = .ok (.i2l, 1) := by decide +kernel
theorem dX3_digest_141 : decode cX3_digest 141 = .ok (.ladd, 1) := by decide +kernel
theorem dX3_digest_142 : decode cX3_digest 142 = .ok (.lstore_n 1, 1) := by decide +kernel
theorem dX3_digest_143 : decode cX3_digest 143 = .ok (.iinc 4 1, 3) := by decide +kernel
theorem dX3_digest_146 : decode cX3_digest 146 = .ok (.goto (-24), 3) := by decide +kernel
theorem dX3_digest_149 : decode cX3_digest 149 = .ok (.lload_n 1, 1) := by decide +kernel
theorem dX3_digest_150 : decode cX3_digest 150 = .ok (.ldc2_w 140, 3) := by decide +kernel
theorem dX3_digest_153 : decode cX3_digest 153 = .ok (.lmul, 1) := by decide +kernel
theorem dX3_digest_154 : decode cX3_digest 154 = .ok (.aload_n 0, 1) := by decide +kernel
theorem dX3_digest_155 : decode cX3_digest 155 = .ok (.iload_n 3, 1) := by decide +kernel
theorem dX3_digest_156 : decode cX3_digest 156 = .ok (.invokevirtual 129, 3) := by decide +kernel
theorem dX3_digest_159 : decode cX3_digest 159 = .ok (.i2l, 1) := by decide +kernel
theorem dX3_digest_160 : decode cX3_digest 160 = .ok (.ladd, 1) := by decide +kernel
theorem dX3_digest_161 : decode cX3_digest 161 = .ok (.ldc2_w 140, 3) := by decide +kernel
theorem dX3_digest_164 : decode cX3_digest 164 = .ok (.lmul, 1) := by decide +kernel
theorem dX3_digest_165 : decode cX3_digest 165 = .ok (.aload_n 0, 1) := by decide +kernel
theorem dX3_digest_166 : decode cX3_digest 166 = .ok (.iload_n 3, 1) := by decide +kernel
theorem dX3_digest_167 : decode cX3_digest 167 = .ok (.invokevirtual 132, 3) := by decide +kernel
theorem dX3_digest_170 : decode cX3_digest 170 = .ok (.i2l, 1) := by decide +kernel
theorem dX3_digest_171 : decode cX3_digest 171 = .ok (.ladd, 1) := by decide +kernel
theorem dX3_digest_172 : decode cX3_digest 172 = .ok (.ldc2_w 140, 3) := by decide +kernel
theorem dX3_digest_175 : decode cX3_digest 175 = .ok (.lmul, 1) := by decide +kernel
theorem dX3_digest_176 : decode cX3_digest 176 = .ok (.aload_n 0, 1) := by decide +kernel
theorem dX3_digest_177 : decode cX3_digest 177 = .ok (.iload_n 3, 1) := by decide +kernel
theorem dX3_digest_178 : decode cX3_digest 178 = .ok (.invokevirtual 126, 3) := by decide +kernel
theorem dX3_digest_181 : decode cX3_digest 181 = .ok (.i2l, 1) := by decide +kernel
theorem dX3_digest_182 : decode cX3_digest 182 = .ok (.ladd, 1) := by decide +kernel
theorem dX3_digest_183 : decode cX3_digest 183 = .ok (.lstore_n 1, 1) := by decide +kernel
theorem dX3_digest_184 : decode cX3_digest 184 = .ok (.iinc 3 1, 3) := by decide +kernel
theorem dX3_digest_187 : decode cX3_digest 187 = .ok (.goto (-150), 3) := by decide +kernel
theorem dX3_digest_190 : decode cX3_digest 190 = .ok (.iconst 0, 1) := by decide +kernel
theorem dX3_digest_191 : decode cX3_digest 191 = .ok (.istore_n 3, 1) := by decide +kernel
theorem dX3_digest_192 : decode cX3_digest 192 = .ok (.iload_n 3, 1) := by decide +kernel
theorem dX3_digest_193 : decode cX3_digest 193 = .ok (.aload_n 0, 1) := by decide +kernel
theorem dX3_digest_194 : decode cX3_digest 194 = .ok (.getfield 83, 3) := by decide +kernel
theorem dX3_digest_197 : decode cX3_digest 197 = .ok (.if_icmp .ge 23, 3) := by decide +kernel
theorem dX3_digest_200 : decode cX3_digest 200 = .ok (.lload_n 1, 1) := by decide +kernel
theorem dX3_digest_201 : decode cX3_digest 201 = .ok (.ldc2_w 140, 3) := by decide +kernel
theorem dX3_digest_204 : decode cX3_digest 204 = .ok (.lmul, 1) := by decide +kernel
theorem dX3_digest_205 : decode cX3_digest 205 = .ok (.aload_n 0, 1) := by decide +kernel
theorem dX3_digest_206 : decode cX3_digest 206 = .ok (.getfield 18, 3) := by decide +kernel
theorem dX3_digest_209 : decode cX3_digest 209 = .ok (.iload_n 3, 1) := by decide +kernel
theorem dX3_digest_210 : decode cX3_digest 210 = .ok (.iaload, 1) := by decide +kernel
theorem dX3_digest_211 : decode cX3_digest 211 = .ok (.i2l, 1) := by decide +kernel
theorem dX3_digest_212 : decode cX3_digest 212 = .ok (.ladd, 1) := by decide +kernel
theorem dX3_digest_213 : decode cX3_digest 213 = .ok (.lstore_n 1, 1) := by decide +kernel
theorem dX3_digest_214 : decode cX3_digest 214 = .ok (.iinc 3 1, 3) := by decide +kernel
theorem dX3_digest_217 : decode cX3_digest 217 = .ok (.goto (-25), 3) := by decide +kernel
theorem dX3_digest_220 : decode cX3_digest 220 = .ok (.iconst 0, 1) := by decide +kernel
theorem dX3_digest_221 : decode cX3_digest 221 = .ok (.istore_n 3, 1) := by decide +kernel
theorem dX3_digest_222 : decode cX3_digest 222 = .ok (.iload_n 3, 1) := by decide +kernel
theorem dX3_digest_223 : decode cX3_digest 223 = .ok (.iconst 2, 1) := by decide +kernel
theorem dX3_digest_224 : decode cX3_digest 224 = .ok (.if_icmp .gt 22, 3) := by decide +kernel
theorem dX3_digest_227 : decode cX3_digest 227 = .ok (.lload_n 1, 1) := by decide +kernel
theorem dX3_digest_228 : decode cX3_digest 228 = .ok (.ldc2_w 140, 3) := by decide +kernel
theorem dX3_digest_231 : decode cX3_digest 231 = .ok (.lmul, 1) := by decide +kernel
theorem dX3_digest_232 : decode cX3_digest 232 = .ok (.aload_n 0, 1) := by decide +kernel
theorem dX3_digest_233 : decode cX3_digest 233 = .ok (.iload_n 3, 1) := by decide +kernel
theorem dX3_digest_234 : decode cX3_digest 234 = .ok (.invokevirtual 111, 3) := by decide +kernel
theorem dX3_digest_237 : decode cX3_digest 237 = .ok (.i2l, 1) := by decide +kernel
theorem dX3_digest_238 : decode cX3_digest 238 = .ok (.ladd, 1) := by decide +kernel
theorem dX3_digest_239 : decode cX3_digest 239 = .ok (.lstore_n 1, 1) := by decide +kernel
theorem dX3_digest_240 : decode cX3_digest 240 = .ok (.iinc 3 1, 3) := by decide +kernel
theorem dX3_digest_243 : decode cX3_digest 243 = .ok (.goto (-21), 3) := by decide +kernel
theorem dX3_digest_246 : decode cX3_digest 246 = .ok (.lload_n 1, 1) := by decide +kernel
theorem dX3_digest_247 : decode cX3_digest 247 = .ok (.lreturn, 1) := by decide +kernel
end
section
set_option maxRecDepth 20000 in
theorem ggL_sew_X2_sew : GoodIn wsL_sew wsX2_sew := goodIn_ca (goodIn_ca (goodIn_ca (goodIn_r _ [8, 9, 10, 11, 12, 13, 7, 14, 15, 16, 17, 18, 19, 20, 21, 22, 23, 24, 25, 26, 27, 28, 29, 30, 31, 32, 33, 34, 35, 36, 37, 38, 39, 40, 41, 42, 43, 44, 45, 46, 47, 48, 49, 50, 51, 52, 53, 54, 55, 56, 57, 58, 59, 60, 61, 62, 63, 64, 65, 66, 67, 68] (by decide +kernel) (by decide +kernel)) (goodIn_sub (fun _ h => List.mem_cons_of_mem _ (List.mem_append_left _ (List.mem_append_left _ (List.mem_append_right _ h)))) (by decide +kernel))) (goodIn_sub (fun _ h => List.mem_cons_of_mem _ (List.mem_append_left _ (List.mem_append_right _ h))) (by decide +kernel))) (goodIn_sub (fun _ h => List.mem_cons_of_mem _ (List.mem_append_right _ h)) (by decide +kernel))
set_option maxRecDepth 20000 in
theorem gL_sew_X2_sew : GoodIn wsL_sew (wsV RL 7 RX2 yX2_sew wsX2_sew) := goodIn_app (goodIn_of _ (by decide +kernel)) ggL_sew_X2_sew
theorem dL_sew_0 : decode cL_sew 0 = .ok (.aload_n 3, 1) := by decide +kernel
theorem dL_sew_1 : decode cL_sew 1 = .ok (.iconst 0, 1) := by decide +kernel
theorem dL_sew_2 : decode cL_sew 2 = .ok (.aload_n 0, 1) := by decide +kernel
theorem dL_sew_3 : decode cL_sew 3 = .ok (.iload_n 1, 1) := by decide +kernel
theorem dL_sew_4 : decode cL_sew 4 = .ok (.iload_n 2, 1) := by decide +kernel
theorem dL_sew_5 : decode cL_sew 5 = .ok (.invokevirtual 7, 3) := by decide +kernel
theorem dL_sew_8 : decode cL_sew 8 = .ok (.i2l, 1) := by decide +kernel
theorem dL_sew_9 : decode cL_sew 9 = .ok (.lastore, 1) := by decide +kernel
theorem dL_sew_10 : decode cL_sew 10 = .ok (.goto 15, 3) := by decide +kernel
theorem dL_sew_13 : decode cL_sew 13 = .ok (.astore 4, 2) := by decide +kernel
theorem dL_sew_15 : decode cL_sew 15 = .ok (.iconst 1, 1) := by decide +kernel
theorem dL_sew_16 : decode cL_sew 16 = .ok (.ireturn, 1) := by decide +kernel
theorem dL_sew_17 : decode cL_sew 17 = .ok (.astore 4, 2) := by decide +kernel
theorem dL_sew_19 : decode cL_sew 19 = .ok (.iconst 2, 1) := by decide +kernel
theorem dL_sew_20 : decode cL_sew 20 = .ok (.ireturn, 1) := by decide +kernel
theorem dL_sew_21 : decode cL_sew 21 = .ok (.astore 4, 2) := by decide +kernel
theorem dL_sew_23 : decode cL_sew 23 = .ok (.iconst 3, 1) := by decide +kernel
theorem dL_sew_24 : decode cL_sew 24 = .ok (.ireturn, 1) := by decide +kernel
theorem dL_sew_25 : decode cL_sew 25 = .ok (.iconst 0, 1) := by decide +kernel
theorem dL_sew_26 : decode cL_sew 26 = .ok (.ireturn, 1) := by decide +kernel
set_option maxRecDepth 20000 in
theorem ggL_again_X2_again : GoodIn wsL_again wsX2_again := goodIn_ca (goodIn_ca (goodIn_ca (goodIn_r _ [8, 9, 10, 11, 12, 13, 14, 15, 7, 16, 17, 18, 19, 20, 21, 22, 23, 24, 25, 26, 27, 28, 29, 30, 31, 32, 33, 34, 35, 36, 37, 38, 39, 40, 41, 42, 43, 44, 45, 46, 47, 48, 49, 50, 51, 52, 53, 54, 55, 56, 57, 58, 59, 60, 61, 62, 63, 64, 65, 66] (by decide +kernel) (by decide +kernel)) (goodIn_sub (fun _ h => List.mem_cons_of_mem _ (List.mem_append_left _ (List.mem_append_left _ (List.mem_append_right _ h)))) (by decide +kernel))) (goodIn_sub (fun _ h => List.mem_cons_of_mem _ (List.mem_append_left _ (List.mem_append_right _ h))) (by decide +kernel))) (goodIn_sub (fun _ h => List.mem_cons_of_mem _ (List.mem_append_right _ h)) (by decide +kernel))
set_option maxRecDepth 20000 in
theorem gL_again_X2_again : GoodIn wsL_again (wsV RL 19 RX2 yX2_again wsX2_again) := goodIn_app (goodIn_of _ (by decide +kernel)) ggL_again_X2_again
theorem dL_again_0 : decode cL_again 0 = .ok (.aload_n 3, 1) := by decide +kernel
theorem dL_again_1 : decode cL_again 1 = .ok (.iconst 0, 1) := by decide +kernel
theorem dL_again_2 : decode cL_again 2 = .ok (.aload_n 0, 1) := by decide +kernel
theorem dL_again_3 : decode cL_again 3 = .ok (.iload_n 1, 1) := by decide +kernel
theorem dL_again_4 : decode cL_again 4 = .ok (.iload_n 2, 1) := by decide +kernel
theorem dL_again_5 : decode cL_again 5 = .ok (.invokevirtual 19, 3) := by decide +kernel
theorem dL_again_8 : decode cL_again 8 = .ok (.i2l, 1) := by decide +kernel
theorem dL_again_9 : decode cL_again 9 = .ok (.lastore, 1) := by decide +kernel
theorem dL_again_10 : decode cL_again 10 = .ok (.goto 15, 3) := by decide +kernel
theorem dL_again_13 : decode cL_again 13 = .ok (.astore 4, 2) := by decide +kernel
theorem dL_again_15 : decode cL_again 15 = .ok (.iconst 1, 1) := by decide +kernel
theorem dL_again_16 : decode cL_again 16 = .ok (.ireturn, 1) := by decide +kernel
theorem dL_again_17 : decode cL_again 17 = .ok (.astore 4, 2) := by decide +kernel
theorem dL_again_19 : decode cL_again 19 = .ok (.iconst 2, 1) := by decide +kernel
theorem dL_again_20 : decode cL_again 20 = .ok (.ireturn, 1) := by decide +kernel
theorem dL_again_21 : decode cL_again 21 = .ok (.astore 4, 2) := by decide +kernel
theorem dL_again_23 : decode cL_again 23 = .ok (.iconst 3, 1) := by decide +kernel
theorem dL_again_24 : decode cL_again 24 = .ok (.ireturn, 1) := by decide +kernel
theorem dL_again_25 : decode cL_again 25 = .ok (.iconst 0, 1) := by decide +kernel
theorem dL_again_26 : decode cL_again 26 = .ok (.ireturn, 1) := by decide +kernel
set_option maxRecDepth 20000 in
theorem ggL_unpick_X2_unpick : GoodIn wsL_unpick wsX2_unpick := goodIn_ca (goodIn_ca (goodIn_r _ [7, 8, 9, 10, 11, 12, 6, 13, 14, 15, 16, 17, 18, 19, 20, 21, 22, 23, 24, 25, 26, 27, 28, 29, 30, 31, 32, 33, 34, 35, 36, 37, 38, 39, 40, 41, 42, 43, 44, 45, 46, 47, 48, 49, 50, 51, 52, 53, 54, 55, 56, 57, 58, 59, 60, 61, 62] (by decide +kernel) (by decide +kernel)) (goodIn_sub (fun _ h => List.mem_cons_of_mem _ (List.mem_append_left _ (List.mem_append_right _ h))) (by decide +kernel))) (goodIn_sub (fun _ h => List.mem_cons_of_mem _ (List.mem_append_right _ h)) (by decide +kernel))
set_option maxRecDepth 20000 in
theorem gL_unpick_X2_unpick : GoodIn wsL_unpick (wsV RL 22 RX2 yX2_unpick wsX2_unpick) := goodIn_app (goodIn_of _ (by decide +kernel)) ggL_unpick_X2_unpick
theorem dL_unpick_0 : decode cL_unpick 0 = .ok (.aload_n 3, 1) := by decide +kernel
theorem dL_unpick_1 : decode cL_unpick 1 = .ok (.iconst 0, 1) := by decide +kernel
theorem dL_unpick_2 : decode cL_unpick 2 = .ok (.aload_n 0, 1) := by decide +kernel
theorem dL_unpick_3 : decode cL_unpick 3 = .ok (.iload_n 1, 1) := by decide +kernel
theorem dL_unpick_4 : decode cL_unpick 4 = .ok (.iload_n 2, 1) := by decide +kernel
theorem dL_unpick_5 : decode cL_unpick 5 = .ok (.invokevirtual 22, 3) := by decide +kernel
theorem dL_unpick_8 : decode cL_unpick 8 = .ok (.i2l, 1) := by decide +kernel
theorem dL_unpick_9 : decode cL_unpick 9 = .ok (.lastore, 1) := by decide +kernel
theorem dL_unpick_10 : decode cL_unpick 10 = .ok (.goto 11, 3) := by decide +kernel
theorem dL_unpick_13 : decode cL_unpick 13 = .ok (.astore 4, 2) := by decide +kernel
theorem dL_unpick_15 : decode cL_unpick 15 = .ok (.iconst 1, 1) := by decide +kernel
theorem dL_unpick_16 : decode cL_unpick 16 = .ok (.ireturn, 1) := by decide +kernel
theorem dL_unpick_17 : decode cL_unpick 17 = .ok (.astore 4, 2) := by decide +kernel
theorem dL_unpick_19 : decode cL_unpick 19 = .ok (.iconst 2, 1) := by decide +kernel
theorem dL_unpick_20 : decode cL_unpick 20 = .ok (.ireturn, 1) := by decide +kernel
theorem dL_unpick_21 : decode cL_unpick 21 = .ok (.iconst 0, 1) := by decide +kernel
theorem dL_unpick_22 : decode cL_unpick 22 = .ok (.ireturn, 1) := by decide +kernel
set_option maxRecDepth 20000 in
theorem ggL_add_X2_add : GoodIn wsL_add wsX2_add := goodIn_ca (goodIn_ca (goodIn_r _ [7, 8, 9, 10, 11, 12, 6, 13, 14, 15, 16, 17, 18, 19, 20, 21, 22, 23, 24, 25, 26, 27] (by decide +kernel) (by decide +kernel)) (goodIn_sub (fun _ h => List.mem_cons_of_mem _ (List.mem_append_left _ (List.mem_append_right _ h))) (by decide +kernel))) (goodIn_sub (fun _ h => List.mem_cons_of_mem _ (List.mem_append_right _ h)) (by decide +kernel))
set_option maxRecDepth 20000 in
theorem gL_add_X2_add : GoodIn wsL_add (wsV RL 25 RX2 yX2_add wsX2_add) := goodIn_app (goodIn_of _ (by decide +kernel)) ggL_add_X2_add
theorem dL_add_0 : decode cL_add 0 = .ok (.aload_n 2, 1) := by decide +kernel
theorem dL_add_1 : decode cL_add 1 = .ok (.iconst 0, 1) := by decide +kernel
theorem dL_add_2 : decode cL_add 2 = .ok (.aload_n 0, 1) := by decide +kernel
theorem dL_add_3 : decode cL_add 3 = .ok (.iload_n 1, 1) := by decide +kernel
theorem dL_add_4 : decode cL_add 4 = .ok (.invokevirtual 25, 3) := by decide +kernel
theorem dL_add_7 : decode cL_add 7 = .ok (.i2l, 1) := by decide +kernel
theorem dL_add_8 : decode cL_add 8 = .ok (.lastore, 1) := by decide +kernel
theorem dL_add_9 : decode cL_add 9 = .ok (.goto 9, 3) := by decide +kernel
theorem dL_add_12 : decode cL_add 12 = .ok (.astore_n 3, 1) := by decide +kernel
theorem dL_add_13 : decode cL_add 13 = .ok (.iconst 1, 1) := by decide +kernel
theorem dL_add_14 : decode cL_add 14 = .ok (.ireturn, 1) := by decide +kernel
theorem dL_add_15 : decode cL_add 15 = .ok (.astore_n 3, 1) := by decide +kernel
theorem dL_add_16 : decode cL_add 16 = .ok (.iconst 2, 1) := by decide +kernel
theorem dL_add_17 : decode cL_add 17 = .ok (.ireturn, 1) := by decide +kernel
theorem dL_add_18 : decode cL_add 18 = .ok (.iconst 0, 1) := by decide +kernel
theorem dL_add_19 : decode cL_add 19 = .ok (.ireturn, 1) := by decide +kernel
set_option maxRecDepth 20000 in
theorem ggL_stitch_X2_stitch : GoodIn wsL_stitch wsX2_stitch := goodIn_ca (goodIn_r _ [6, 7, 8, 9, 5, 10, 11, 12, 13, 14, 15, 16, 17, 18, 19, 20, 21, 22, 23, 24, 25, 26, 27, 28, 29, 30, 31] (by decide +kernel) (by decide +kernel)) (goodIn_sub (fun _ h => List.mem_cons_of_mem _ (List.mem_append_right _ h)) (by decide +kernel))
set_option maxRecDepth 20000 in
theorem gL_stitch_X2_stitch : GoodIn wsL_stitch (wsV RL 29 RX2 yX2_stitch wsX2_stitch) := goodIn_app (goodIn_of _ (by decide +kernel)) ggL_stitch_X2_stitch
theorem dL_stitch_0 : decode cL_stitch 0 = .ok (.aload_n 3, 1) := by decide +kernel
theorem dL_stitch_1 : decode cL_stitch 1 = .ok (.iconst 0, 1) := by decide +kernel
theorem dL_stitch_2 : decode cL_stitch 2 = .ok (.aload_n 0, 1) := by decide +kernel
theorem dL_stitch_3 : decode cL_stitch 3 = .ok (.iload_n 1, 1) := by decide +kernel
theorem dL_stitch_4 : decode cL_stitch 4 = .ok (.iload_n 2, 1) := by decide +kernel
theorem dL_stitch_5 : decode cL_stitch 5 = .ok (.invokevirtual 29, 3) := by decide +kernel
theorem dL_stitch_8 : decode cL_stitch 8 = .ok (.i2l, 1) := by decide +kernel
theorem dL_stitch_9 : decode cL_stitch 9 = .ok (.lastore, 1) := by decide +kernel
theorem dL_stitch_10 : decode cL_stitch 10 = .ok (.goto 7, 3) := by decide +kernel
theorem dL_stitch_13 : decode cL_stitch 13 = .ok (.astore 4, 2) := by decide +kernel
theorem dL_stitch_15 : decode cL_stitch 15 = .ok (.iconst 1, 1) := by decide +kernel
theorem dL_stitch_16 : decode cL_stitch 16 = .ok (.ireturn, 1) := by decide +kernel
theorem dL_stitch_17 : decode cL_stitch 17 = .ok (.iconst 0, 1) := by decide +kernel
theorem dL_stitch_18 : decode cL_stitch 18 = .ok (.ireturn, 1) := by decide +kernel
set_option maxRecDepth 20000 in
theorem ggL_count_X2_count : GoodIn wsL_count wsX2_count := goodIn_ca (goodIn_r _ [6, 7, 8, 9, 10, 11, 12, 13, 14, 15, 16, 17, 18, 19, 20, 21, 22, 23, 24, 25, 26, 27, 28, 29, 30, 31, 32, 33, 34, 35, 36, 37, 38, 39, 40, 41, 42, 43, 44, 45, 46, 47, 48, 5, 49, 50, 51, 52, 53, 54, 55, 56, 57, 58, 59, 60, 61, 62, 63, 64, 65, 66, 67, 68, 69] (by decide +kernel) (by decide +kernel)) (goodIn_sub (fun _ h => List.mem_cons_of_mem _ (List.mem_append_right _ h)) (by decide +kernel))
set_option maxRecDepth 20000 in
theorem gL_count_X2_count : GoodIn wsL_count (wsV RL 32 RX2 yX2_count wsX2_count) := goodIn_app (goodIn_of _ (by decide +kernel)) ggL_count_X2_count
theorem dL_count_0 : decode cL_count 0 = .ok (.aload_n 2, 1) := by decide +kernel
theorem dL_count_1 : decode cL_count 1 = .ok (.iconst 0, 1) := by decide +kernel
theorem dL_count_2 : decode cL_count 2 = .ok (.aload_n 0, 1) := by decide +kernel
theorem dL_count_3 : decode cL_count 3 = .ok (.iload_n 1, 1) := by decide +kernel
theorem dL_count_4 : decode cL_count 4 = .ok (.invokevirtual 32, 3) := by decide +kernel
theorem dL_count_7 : decode cL_count 7 = .ok (.i2l, 1) := by decide +kernel
theorem dL_count_8 : decode cL_count 8 = .ok (.lastore, 1) := by decide +kernel
theorem dL_count_9 : decode cL_count 9 = .ok (.goto 6, 3) := by decide +kernel
theorem dL_count_12 : decode cL_count 12 = .ok (.astore_n 3, 1) := by decide +kernel
theorem dL_count_13 : decode cL_count 13 = .ok (.iconst 1, 1) := by decide +kernel
theorem dL_count_14 : decode cL_count 14 = .ok (.ireturn, 1) := by decide +kernel
theorem dL_count_15 : decode cL_count 15 = .ok (.iconst 0, 1) := by decide +kernel
theorem dL_count_16 : decode cL_count 16 = .ok (.ireturn, 1) := by decide +kernel
set_option maxRecDepth 20000 in
theorem ggL_end_X2_end : GoodIn wsL_end wsX2_end := goodIn_ca (goodIn_r _ [6, 7, 8, 9, 5, 10, 11, 12, 13, 14, 15, 16, 17, 18, 19, 20, 21, 22, 23, 24, 25, 26, 27, 28, 29, 30, 31] (by decide +kernel) (by decide +kernel)) (goodIn_sub (fun _ h => List.mem_cons_of_mem _ (List.mem_append_right _ h)) (by decide +kernel))
set_option maxRecDepth 20000 in
theorem gL_end_X2_end : GoodIn wsL_end (wsV RL 35 RX2 yX2_end wsX2_end) := goodIn_app (goodIn_of _ (by decide +kernel)) ggL_end_X2_end
theorem dL_end_0 : decode cL_end 0 = .ok (.aload_n 3, 1) := by decide +kernel
theorem dL_end_1 : decode cL_end 1 = .ok (.iconst 0, 1) := by decide +kernel
theorem dL_end_2 : decode cL_end 2 = .ok (.aload_n 0, 1) := by decide +kernel
theorem dL_end_3 : decode cL_end 3 = .ok (.iload_n 1, 1) := by decide +kernel
theorem dL_end_4 : decode cL_end 4 = .ok (.iload_n 2, 1) := by decide +kernel
theorem dL_end_5 : decode cL_end 5 = .ok (.invokevirtual 35, 3) := by decide +kernel
theorem dL_end_8 : decode cL_end 8 = .ok (.i2l, 1) := by decide +kernel
theorem dL_end_9 : decode cL_end 9 = .ok (.lastore, 1) := by decide +kernel
theorem dL_end_10 : decode cL_end 10 = .ok (.goto 7, 3) := by decide +kernel
theorem dL_end_13 : decode cL_end 13 = .ok (.astore 4, 2) := by decide +kernel
theorem dL_end_15 : decode cL_end 15 = .ok (.iconst 1, 1) := by decide +kernel
theorem dL_end_16 : decode cL_end 16 = .ok (.ireturn, 1) := by decide +kernel
theorem dL_end_17 : decode cL_end 17 = .ok (.iconst 0, 1) := by decide +kernel
theorem dL_end_18 : decode cL_end 18 = .ok (.ireturn, 1) := by decide +kernel
set_option maxRecDepth 20000 in
theorem ggL_rank_X2_rank : GoodIn wsL_rank wsX2_rank := goodIn_ca (goodIn_r _ [6, 7, 8, 9, 5, 10, 11, 12, 13, 14, 15, 16, 17, 18, 19, 20, 21, 22, 23, 24, 25, 26, 27, 28, 29, 30, 31, 32, 33, 34, 35] (by decide +kernel) (by decide +kernel)) (goodIn_sub (fun _ h => List.mem_cons_of_mem _ (List.mem_append_right _ h)) (by decide +kernel))
set_option maxRecDepth 20000 in
theorem gL_rank_X2_rank : GoodIn wsL_rank (wsV RL 38 RX2 yX2_rank wsX2_rank) := goodIn_app (goodIn_of _ (by decide +kernel)) ggL_rank_X2_rank
theorem dL_rank_0 : decode cL_rank 0 = .ok (.aload_n 3, 1) := by decide +kernel
theorem dL_rank_1 : decode cL_rank 1 = .ok (.iconst 0, 1) := by decide +kernel
theorem dL_rank_2 : decode cL_rank 2 = .ok (.aload_n 0, 1) := by decide +kernel
theorem dL_rank_3 : decode cL_rank 3 = .ok (.iload_n 1, 1) := by decide +kernel
theorem dL_rank_4 : decode cL_rank 4 = .ok (.iload_n 2, 1) := by decide +kernel
theorem dL_rank_5 : decode cL_rank 5 = .ok (.invokevirtual 38, 3) := by decide +kernel
theorem dL_rank_8 : decode cL_rank 8 = .ok (.i2l, 1) := by decide +kernel
theorem dL_rank_9 : decode cL_rank 9 = .ok (.lastore, 1) := by decide +kernel
theorem dL_rank_10 : decode cL_rank 10 = .ok (.goto 7, 3) := by decide +kernel
theorem dL_rank_13 : decode cL_rank 13 = .ok (.astore 4, 2) := by decide +kernel
theorem dL_rank_15 : decode cL_rank 15 = .ok (.iconst 1, 1) := by decide +kernel
theorem dL_rank_16 : decode cL_rank 16 = .ok (.ireturn, 1) := by decide +kernel
theorem dL_rank_17 : decode cL_rank 17 = .ok (.iconst 0, 1) := by decide +kernel
theorem dL_rank_18 : decode cL_rank 18 = .ok (.ireturn, 1) := by decide +kernel
set_option maxRecDepth 20000 in
theorem ggL_common_X2_common : GoodIn wsL_common wsX2_common := goodIn_ca (goodIn_r _ [6, 7, 8, 9, 5, 10, 11, 12, 13, 14, 15, 16, 17, 18, 19, 20, 21, 22, 23, 24, 25, 26, 27, 28, 29, 30, 31, 32, 33, 34, 35, 36, 37, 38, 39] (by decide +kernel) (by decide +kernel)) (goodIn_sub (fun _ h => List.mem_cons_of_mem _ (List.mem_append_right _ h)) (by decide +kernel))
set_option maxRecDepth 20000 in
theorem gL_common_X2_common : GoodIn wsL_common (wsV RL 41 RX2 yX2_common wsX2_common) := goodIn_app (goodIn_of _ (by decide +kernel)) ggL_common_X2_common
theorem dL_common_0 : decode cL_common 0 = .ok (.aload 4, 2) := by decide +kernel
theorem dL_common_2 : decode cL_common 2 = .ok (.iconst 0, 1) := by decide +kernel
theorem dL_common_3 : decode cL_common 3 = .ok (.aload_n 0, 1) := by decide +kernel
theorem dL_common_4 : decode cL_common 4 = .ok (.iload_n 1, 1) := by decide +kernel
theorem dL_common_5 : decode cL_common 5 = .ok (.iload_n 2, 1) := by decide +kernel
theorem dL_common_6 : decode cL_common 6 = .ok (.iload_n 3, 1) := by decide +kernel
theorem dL_common_7 : decode cL_common 7 = .ok (.invokevirtual 41, 3) := by decide +kernel
theorem dL_common_10 : decode cL_common 10 = .ok (.i2l, 1) := by decide +kernel
theorem dL_common_11 : decode cL_common 11 = .ok (.lastore, 1) := by decide +kernel
theorem dL_common_12 : decode cL_common 12 = .ok (.goto 7, 3) := by decide +kernel
theorem dL_common_15 : decode cL_common 15 = .ok (.astore 5, 2) := by decide +kernel
theorem dL_common_17 : decode cL_common 17 = .ok (.iconst 1, 1) := by decide +kernel
theorem dL_common_18 : decode cL_common 18 = .ok (.ireturn, 1) := by decide +kernel
theorem dL_common_19 : decode cL_common 19 = .ok (.iconst 0, 1) := by decide +kernel
theorem dL_common_20 : decode cL_common 20 = .ok (.ireturn, 1) := by decide +kernel
set_option maxRecDepth 20000 in
theorem ggL_against_X2_against : GoodIn wsL_against wsX2_against := goodIn_ca (goodIn_r _ [6, 7, 8, 9, 10, 5, 11, 12, 13, 14, 15, 16, 17, 18, 19, 20, 21, 22, 23, 24, 25, 26, 27, 28, 29, 30, 31, 32, 33, 34, 35, 36, 37, 38, 39] (by decide +kernel) (by decide +kernel)) (goodIn_sub (fun _ h => List.mem_cons_of_mem _ (List.mem_append_right _ h)) (by decide +kernel))
set_option maxRecDepth 20000 in
theorem gL_against_X2_against : GoodIn wsL_against (wsV RL 45 RX2 yX2_against wsX2_against) := goodIn_app (goodIn_of _ (by decide +kernel)) ggL_against_X2_against
theorem dL_against_0 : decode cL_against 0 = .ok (.aload_n 3, 1) := by decide +kernel
theorem dL_against_1 : decode cL_against 1 = .ok (.iconst 0, 1) := by decide +kernel
theorem dL_against_2 : decode cL_against 2 = .ok (.aload_n 0, 1) := by decide +kernel
theorem dL_against_3 : decode cL_against 3 = .ok (.iload_n 1, 1) := by decide +kernel
theorem dL_against_4 : decode cL_against 4 = .ok (.iload_n 2, 1) := by decide +kernel
theorem dL_against_5 : decode cL_against 5 = .ok (.invokevirtual 45, 3) := by decide +kernel
theorem dL_against_8 : decode cL_against 8 = .ok (.i2l, 1) := by decide +kernel
theorem dL_against_9 : decode cL_against 9 = .ok (.lastore, 1) := by decide +kernel
theorem dL_against_10 : decode cL_against 10 = .ok (.goto 7, 3) := by decide +kernel
theorem dL_against_13 : decode cL_against 13 = .ok (.astore 4, 2) := by decide +kernel
theorem dL_against_15 : decode cL_against 15 = .ok (.iconst 1, 1) := by decide +kernel
theorem dL_against_16 : decode cL_against 16 = .ok (.ireturn, 1) := by decide +kernel
theorem dL_against_17 : decode cL_against 17 = .ok (.iconst 0, 1) := by decide +kernel
theorem dL_against_18 : decode cL_against 18 = .ok (.ireturn, 1) := by decide +kernel
set_option maxRecDepth 20000 in
theorem ggL_repeat_X2_repeat : GoodIn wsL_repeat wsX2_repeat := goodIn_ca (goodIn_r _ [6, 7, 8, 9, 10, 11, 5, 12, 13, 14, 15, 16, 17, 18, 19, 20, 21, 22, 23, 24, 25, 26, 27, 28, 29, 30, 31, 32, 33, 34, 35, 36, 37, 38, 39, 40, 41, 42, 43, 44, 45, 46, 47, 48, 49, 50, 51, 52, 53, 54, 55, 56, 57, 58, 59, 60, 61, 62, 63, 64, 65, 66] (by decide +kernel) (by decide +kernel)) (goodIn_sub (fun _ h => List.mem_cons_of_mem _ (List.mem_append_right _ h)) (by decide +kernel))
set_option maxRecDepth 20000 in
theorem gL_repeat_X2_repeat : GoodIn wsL_repeat (wsV RL 48 RX2 yX2_repeat wsX2_repeat) := goodIn_app (goodIn_of _ (by decide +kernel)) ggL_repeat_X2_repeat
theorem dL_repeat_0 : decode cL_repeat 0 = .ok (.aload_n 3, 1) := by decide +kernel
theorem dL_repeat_1 : decode cL_repeat 1 = .ok (.iconst 0, 1) := by decide +kernel
theorem dL_repeat_2 : decode cL_repeat 2 = .ok (.aload_n 0, 1) := by decide +kernel
theorem dL_repeat_3 : decode cL_repeat 3 = .ok (.iload_n 1, 1) := by decide +kernel
theorem dL_repeat_4 : decode cL_repeat 4 = .ok (.iload_n 2, 1) := by decide +kernel
theorem dL_repeat_5 : decode cL_repeat 5 = .ok (.invokevirtual 48, 3) := by decide +kernel
theorem dL_repeat_8 : decode cL_repeat 8 = .ok (.i2l, 1) := by decide +kernel
theorem dL_repeat_9 : decode cL_repeat 9 = .ok (.lastore, 1) := by decide +kernel
theorem dL_repeat_10 : decode cL_repeat 10 = .ok (.goto 7, 3) := by decide +kernel
theorem dL_repeat_13 : decode cL_repeat 13 = .ok (.astore 4, 2) := by decide +kernel
theorem dL_repeat_15 : decode cL_repeat 15 = .ok (.iconst 1, 1) := by decide +kernel
theorem dL_repeat_16 : decode cL_repeat 16 = .ok (.ireturn, 1) := by decide +kernel
theorem dL_repeat_17 : decode cL_repeat 17 = .ok (.iconst 0, 1) := by decide +kernel
theorem dL_repeat_18 : decode cL_repeat 18 = .ok (.ireturn, 1) := by decide +kernel
set_option maxRecDepth 20000 in
theorem ggL_row_X2_row : GoodIn wsL_row wsX2_row := goodIn_ca (goodIn_r _ [6, 7, 8, 9, 10, 11, 5, 12, 13, 14, 15, 16, 17, 18, 19, 20, 21, 22, 23, 24, 25, 26, 27, 28, 29, 30, 31, 32, 33, 34, 35, 36, 37, 38, 39, 40, 41, 42, 43, 44, 45, 46, 47, 48, 49, 50, 51, 52, 53, 54, 55, 56, 57, 58, 59, 60, 61, 62, 63, 64, 65, 66, 67, 68] (by decide +kernel) (by decide +kernel)) (goodIn_sub (fun _ h => List.mem_cons_of_mem _ (List.mem_append_right _ h)) (by decide +kernel))
set_option maxRecDepth 20000 in
theorem gL_row_X2_row : GoodIn wsL_row (wsV RL 51 RX2 yX2_row wsX2_row) := goodIn_app (goodIn_of _ (by decide +kernel)) ggL_row_X2_row
theorem dL_row_0 : decode cL_row 0 = .ok (.aload_n 3, 1) := by decide +kernel
theorem dL_row_1 : decode cL_row 1 = .ok (.iconst 0, 1) := by decide +kernel
theorem dL_row_2 : decode cL_row 2 = .ok (.aload_n 0, 1) := by decide +kernel
theorem dL_row_3 : decode cL_row 3 = .ok (.iload_n 1, 1) := by decide +kernel
theorem dL_row_4 : decode cL_row 4 = .ok (.iload_n 2, 1) := by decide +kernel
theorem dL_row_5 : decode cL_row 5 = .ok (.invokevirtual 51, 3) := by decide +kernel
theorem dL_row_8 : decode cL_row 8 = .ok (.i2l, 1) := by decide +kernel
theorem dL_row_9 : decode cL_row 9 = .ok (.lastore, 1) := by decide +kernel
theorem dL_row_10 : decode cL_row 10 = .ok (.goto 7, 3) := by decide +kernel
theorem dL_row_13 : decode cL_row 13 = .ok (.astore 4, 2) := by decide +kernel
theorem dL_row_15 : decode cL_row 15 = .ok (.iconst 1, 1) := by decide +kernel
theorem dL_row_16 : decode cL_row 16 = .ok (.ireturn, 1) := by decide +kernel
theorem dL_row_17 : decode cL_row 17 = .ok (.iconst 0, 1) := by decide +kernel
theorem dL_row_18 : decode cL_row 18 = .ok (.ireturn, 1) := by decide +kernel
set_option maxRecDepth 20000 in
theorem ggL_found_X2_found : GoodIn wsL_found wsX2_found := goodIn_ca (goodIn_r _ [6, 7, 8, 9, 10, 5, 11, 12, 13, 14, 15, 16, 17, 18, 19, 20, 21, 22, 23, 24, 25, 26, 27, 28, 29, 30, 31, 32, 33, 34, 35, 36, 37, 38, 39, 40, 41, 42, 43, 44, 45] (by decide +kernel) (by decide +kernel)) (goodIn_sub (fun _ h => List.mem_cons_of_mem _ (List.mem_append_right _ h)) (by decide +kernel))
set_option maxRecDepth 20000 in
theorem gL_found_X2_found : GoodIn wsL_found (wsV RL 54 RX2 yX2_found wsX2_found) := goodIn_app (goodIn_of _ (by decide +kernel)) ggL_found_X2_found
theorem dL_found_0 : decode cL_found 0 = .ok (.aload_n 2, 1) := by decide +kernel
theorem dL_found_1 : decode cL_found 1 = .ok (.iconst 0, 1) := by decide +kernel
theorem dL_found_2 : decode cL_found 2 = .ok (.aload_n 0, 1) := by decide +kernel
theorem dL_found_3 : decode cL_found 3 = .ok (.iload_n 1, 1) := by decide +kernel
theorem dL_found_4 : decode cL_found 4 = .ok (.invokevirtual 54, 3) := by decide +kernel
theorem dL_found_7 : decode cL_found 7 = .ok (.i2l, 1) := by decide +kernel
theorem dL_found_8 : decode cL_found 8 = .ok (.lastore, 1) := by decide +kernel
theorem dL_found_9 : decode cL_found 9 = .ok (.goto 6, 3) := by decide +kernel
theorem dL_found_12 : decode cL_found 12 = .ok (.astore_n 3, 1) := by decide +kernel
theorem dL_found_13 : decode cL_found 13 = .ok (.iconst 1, 1) := by decide +kernel
theorem dL_found_14 : decode cL_found 14 = .ok (.ireturn, 1) := by decide +kernel
theorem dL_found_15 : decode cL_found 15 = .ok (.iconst 0, 1) := by decide +kernel
theorem dL_found_16 : decode cL_found 16 = .ok (.ireturn, 1) := by decide +kernel
set_option maxRecDepth 20000 in
theorem ggL_first_X2_first : GoodIn wsL_first wsX2_first := goodIn_ca (goodIn_r _ [6, 7, 8, 9, 10, 5, 11, 12, 13, 14, 15, 16, 17, 18, 19, 20, 21, 22, 23, 24, 25, 26, 27, 28, 29, 30, 31, 32, 33, 34, 35, 36, 37, 38, 39, 40, 41, 42, 43, 44, 45] (by decide +kernel) (by decide +kernel)) (goodIn_sub (fun _ h => List.mem_cons_of_mem _ (List.mem_append_right _ h)) (by decide +kernel))
set_option maxRecDepth 20000 in
theorem gL_first_X2_first : GoodIn wsL_first (wsV RL 57 RX2 yX2_first wsX2_first) := goodIn_app (goodIn_of _ (by decide +kernel)) ggL_first_X2_first
theorem dL_first_0 : decode cL_first 0 = .ok (.aload_n 2, 1) := by decide +kernel
theorem dL_first_1 : decode cL_first 1 = .ok (.iconst 0, 1) := by decide +kernel
theorem dL_first_2 : decode cL_first 2 = .ok (.aload_n 0, 1) := by decide +kernel
theorem dL_first_3 : decode cL_first 3 = .ok (.iload_n 1, 1) := by decide +kernel
theorem dL_first_4 : decode cL_first 4 = .ok (.invokevirtual 57, 3) := by decide +kernel
theorem dL_first_7 : decode cL_first 7 = .ok (.i2l, 1) := by decide +kernel
theorem dL_first_8 : decode cL_first 8 = .ok (.lastore, 1) := by decide +kernel
theorem dL_first_9 : decode cL_first 9 = .ok (.goto 6, 3) := by decide +kernel
theorem dL_first_12 : decode cL_first 12 = .ok (.astore_n 3, 1) := by decide +kernel
theorem dL_first_13 : decode cL_first 13 = .ok (.iconst 1, 1) := by decide +kernel
theorem dL_first_14 : decode cL_first 14 = .ok (.ireturn, 1) := by decide +kernel
theorem dL_first_15 : decode cL_first 15 = .ok (.iconst 0, 1) := by decide +kernel
theorem dL_first_16 : decode cL_first 16 = .ok (.ireturn, 1) := by decide +kernel
set_option maxRecDepth 20000 in
theorem ggL_period_X2_period : GoodIn wsL_period wsX2_period := goodIn_ca (goodIn_r _ [6, 7, 8, 9, 5, 10, 11, 12, 13, 14, 15, 16, 17, 18, 19, 20, 21, 22, 23, 24, 25, 26, 27, 28, 29, 30, 31, 32, 33, 34, 35, 36, 37, 38, 39, 40] (by decide +kernel) (by decide +kernel)) (goodIn_sub (fun _ h => List.mem_cons_of_mem _ (List.mem_append_right _ h)) (by decide +kernel))
set_option maxRecDepth 20000 in
theorem gL_period_X2_period : GoodIn wsL_period (wsV RL 60 RX2 yX2_period wsX2_period) := goodIn_app (goodIn_of _ (by decide +kernel)) ggL_period_X2_period
theorem dL_period_0 : decode cL_period 0 = .ok (.aload_n 2, 1) := by decide +kernel
theorem dL_period_1 : decode cL_period 1 = .ok (.iconst 0, 1) := by decide +kernel
theorem dL_period_2 : decode cL_period 2 = .ok (.aload_n 0, 1) := by decide +kernel
theorem dL_period_3 : decode cL_period 3 = .ok (.iload_n 1, 1) := by decide +kernel
theorem dL_period_4 : decode cL_period 4 = .ok (.invokevirtual 60, 3) := by decide +kernel
theorem dL_period_7 : decode cL_period 7 = .ok (.i2l, 1) := by decide +kernel
theorem dL_period_8 : decode cL_period 8 = .ok (.lastore, 1) := by decide +kernel
theorem dL_period_9 : decode cL_period 9 = .ok (.goto 6, 3) := by decide +kernel
theorem dL_period_12 : decode cL_period 12 = .ok (.astore_n 3, 1) := by decide +kernel
theorem dL_period_13 : decode cL_period 13 = .ok (.iconst 1, 1) := by decide +kernel
theorem dL_period_14 : decode cL_period 14 = .ok (.ireturn, 1) := by decide +kernel
theorem dL_period_15 : decode cL_period 15 = .ok (.iconst 0, 1) := by decide +kernel
theorem dL_period_16 : decode cL_period 16 = .ok (.ireturn, 1) := by decide +kernel
set_option maxRecDepth 20000 in
theorem ggL_turned_X2_turned : GoodIn wsL_turned wsX2_turned := goodIn_ca (goodIn_r _ [6, 7, 8, 9, 5, 10, 11, 12, 13, 14, 15, 16, 17, 18, 19, 20, 21, 22, 23, 24, 25, 26, 27, 28, 29, 30, 31, 32, 33, 34, 35, 36, 37, 38, 39, 40] (by decide +kernel) (by decide +kernel)) (goodIn_sub (fun _ h => List.mem_cons_of_mem _ (List.mem_append_right _ h)) (by decide +kernel))
set_option maxRecDepth 20000 in
theorem gL_turned_X2_turned : GoodIn wsL_turned (wsV RL 63 RX2 yX2_turned wsX2_turned) := goodIn_app (goodIn_of _ (by decide +kernel)) ggL_turned_X2_turned
theorem dL_turned_0 : decode cL_turned 0 = .ok (.aload_n 2, 1) := by decide +kernel
theorem dL_turned_1 : decode cL_turned 1 = .ok (.iconst 0, 1) := by decide +kernel
theorem dL_turned_2 : decode cL_turned 2 = .ok (.aload_n 0, 1) := by decide +kernel
theorem dL_turned_3 : decode cL_turned 3 = .ok (.iload_n 1, 1) := by decide +kernel
theorem dL_turned_4 : decode cL_turned 4 = .ok (.invokevirtual 63, 3) := by decide +kernel
theorem dL_turned_7 : decode cL_turned 7 = .ok (.i2l, 1) := by decide +kernel
theorem dL_turned_8 : decode cL_turned 8 = .ok (.lastore, 1) := by decide +kernel
theorem dL_turned_9 : decode cL_turned 9 = .ok (.goto 6, 3) := by decide +kernel
theorem dL_turned_12 : decode cL_turned 12 = .ok (.astore_n 3, 1) := by decide +kernel
theorem dL_turned_13 : decode cL_turned 13 = .ok (.iconst 1, 1) := by decide +kernel
theorem dL_turned_14 : decode cL_turned 14 = .ok (.ireturn, 1) := by decide +kernel
theorem dL_turned_15 : decode cL_turned 15 = .ok (.iconst 0, 1) := by decide +kernel
theorem dL_turned_16 : decode cL_turned 16 = .ok (.ireturn, 1) := by decide +kernel
set_option maxRecDepth 20000 in
theorem ggL_seam_X2_seam : GoodIn wsL_seam wsX2_seam := goodIn_ca (goodIn_r _ [6, 7, 8, 9, 10, 11, 12, 13, 5, 14, 15, 16, 17, 18, 19, 20, 21, 22, 23, 24, 25, 26, 27, 28, 29, 30, 31, 32, 33, 34, 35, 36, 37, 38, 39, 40, 41, 42, 43, 44, 45, 46, 47, 48, 49, 50, 51, 52, 53, 54, 55, 56, 57, 58, 59, 60, 61, 62] (by decide +kernel) (by decide +kernel)) (goodIn_sub (fun _ h => List.mem_cons_of_mem _ (List.mem_append_right _ h)) (by decide +kernel))
set_option maxRecDepth 20000 in
theorem gL_seam_X2_seam : GoodIn wsL_seam (wsV RL 66 RX2 yX2_seam wsX2_seam) := goodIn_app (goodIn_of _ (by decide +kernel)) ggL_seam_X2_seam
theorem dL_seam_0 : decode cL_seam 0 = .ok (.aload_n 2, 1) := by decide +kernel
theorem dL_seam_1 : decode cL_seam 1 = .ok (.iconst 0, 1) := by decide +kernel
theorem dL_seam_2 : decode cL_seam 2 = .ok (.aload_n 0, 1) := by decide +kernel
theorem dL_seam_3 : decode cL_seam 3 = .ok (.iload_n 1, 1) := by decide +kernel
theorem dL_seam_4 : decode cL_seam 4 = .ok (.invokevirtual 66, 3) := by decide +kernel
theorem dL_seam_7 : decode cL_seam 7 = .ok (.i2l, 1) := by decide +kernel
theorem dL_seam_8 : decode cL_seam 8 = .ok (.lastore, 1) := by decide +kernel
theorem dL_seam_9 : decode cL_seam 9 = .ok (.goto 6, 3) := by decide +kernel
theorem dL_seam_12 : decode cL_seam 12 = .ok (.astore_n 3, 1) := by decide +kernel
theorem dL_seam_13 : decode cL_seam 13 = .ok (.iconst 1, 1) := by decide +kernel
theorem dL_seam_14 : decode cL_seam 14 = .ok (.ireturn, 1) := by decide +kernel
theorem dL_seam_15 : decode cL_seam 15 = .ok (.iconst 0, 1) := by decide +kernel
theorem dL_seam_16 : decode cL_seam 16 = .ok (.ireturn, 1) := by decide +kernel
set_option maxRecDepth 20000 in
theorem ggL_would_X2_would : GoodIn wsL_would wsX2_would := goodIn_ca (goodIn_ca (goodIn_r _ [7, 8, 9, 10, 6, 11, 12, 13, 14, 15, 16, 17, 18, 19, 20, 21, 22, 23, 24, 25, 26, 27, 28, 29, 30, 31, 32, 33, 34, 35, 36, 37, 38, 39, 40, 41, 42, 43, 44, 45, 46] (by decide +kernel) (by decide +kernel)) (goodIn_sub (fun _ h => List.mem_cons_of_mem _ (List.mem_append_left _ (List.mem_append_right _ h))) (by decide +kernel))) (goodIn_sub (fun _ h => List.mem_cons_of_mem _ (List.mem_append_right _ h)) (by decide +kernel))
set_option maxRecDepth 20000 in
theorem gL_would_X2_would : GoodIn wsL_would (wsV RL 69 RX2 yX2_would wsX2_would) := goodIn_app (goodIn_of _ (by decide +kernel)) ggL_would_X2_would
theorem dL_would_0 : decode cL_would 0 = .ok (.aload_n 3, 1) := by decide +kernel
theorem dL_would_1 : decode cL_would 1 = .ok (.iconst 0, 1) := by decide +kernel
theorem dL_would_2 : decode cL_would 2 = .ok (.aload_n 0, 1) := by decide +kernel
theorem dL_would_3 : decode cL_would 3 = .ok (.iload_n 1, 1) := by decide +kernel
theorem dL_would_4 : decode cL_would 4 = .ok (.iload_n 2, 1) := by decide +kernel
theorem dL_would_5 : decode cL_would 5 = .ok (.invokevirtual 69, 3) := by decide +kernel
theorem dL_would_8 : decode cL_would 8 = .ok (.i2l, 1) := by decide +kernel
theorem dL_would_9 : decode cL_would 9 = .ok (.lastore, 1) := by decide +kernel
theorem dL_would_10 : decode cL_would 10 = .ok (.goto 11, 3) := by decide +kernel
theorem dL_would_13 : decode cL_would 13 = .ok (.astore 4, 2) := by decide +kernel
theorem dL_would_15 : decode cL_would 15 = .ok (.iconst 1, 1) := by decide +kernel
theorem dL_would_16 : decode cL_would 16 = .ok (.ireturn, 1) := by decide +kernel
theorem dL_would_17 : decode cL_would 17 = .ok (.astore 4, 2) := by decide +kernel
theorem dL_would_19 : decode cL_would 19 = .ok (.iconst 2, 1) := by decide +kernel
theorem dL_would_20 : decode cL_would 20 = .ok (.ireturn, 1) := by decide +kernel
theorem dL_would_21 : decode cL_would 21 = .ok (.iconst 0, 1) := by decide +kernel
theorem dL_would_22 : decode cL_would 22 = .ok (.ireturn, 1) := by decide +kernel
set_option maxRecDepth 20000 in
theorem ggL_advise_X2_advise : GoodIn wsL_advise wsX2_advise := goodIn_ca (goodIn_r _ [6, 7, 8, 9, 5, 10, 11, 12, 13, 14, 15, 16, 17, 18, 19, 20, 21, 22, 23, 24, 25, 26, 27, 28, 29, 30, 31, 32, 33, 34, 35, 36, 37, 38, 39, 40] (by decide +kernel) (by decide +kernel)) (goodIn_sub (fun _ h => List.mem_cons_of_mem _ (List.mem_append_right _ h)) (by decide +kernel))
set_option maxRecDepth 20000 in
theorem gL_advise_X2_advise : GoodIn wsL_advise (wsV RL 72 RX2 yX2_advise wsX2_advise) := goodIn_app (goodIn_of _ (by decide +kernel)) ggL_advise_X2_advise
theorem dL_advise_0 : decode cL_advise 0 = .ok (.aload_n 2, 1) := by decide +kernel
theorem dL_advise_1 : decode cL_advise 1 = .ok (.iconst 0, 1) := by decide +kernel
theorem dL_advise_2 : decode cL_advise 2 = .ok (.aload_n 0, 1) := by decide +kernel
theorem dL_advise_3 : decode cL_advise 3 = .ok (.iload_n 1, 1) := by decide +kernel
theorem dL_advise_4 : decode cL_advise 4 = .ok (.invokevirtual 72, 3) := by decide +kernel
theorem dL_advise_7 : decode cL_advise 7 = .ok (.i2l, 1) := by decide +kernel
theorem dL_advise_8 : decode cL_advise 8 = .ok (.lastore, 1) := by decide +kernel
theorem dL_advise_9 : decode cL_advise 9 = .ok (.goto 6, 3) := by decide +kernel
theorem dL_advise_12 : decode cL_advise 12 = .ok (.astore_n 3, 1) := by decide +kernel
theorem dL_advise_13 : decode cL_advise 13 = .ok (.iconst 1, 1) := by decide +kernel
theorem dL_advise_14 : decode cL_advise 14 = .ok (.ireturn, 1) := by decide +kernel
theorem dL_advise_15 : decode cL_advise 15 = .ok (.iconst 0, 1) := by decide +kernel
theorem dL_advise_16 : decode cL_advise 16 = .ok (.ireturn, 1) := by decide +kernel
set_option maxRecDepth 20000 in
theorem ggL_law_X2_init : GoodIn wsL_law wsX2_init := goodIn_r _ [9, 10, 11, 12, 13, 14, 15, 16, 17, 18, 19, 20, 21, 22, 23, 24, 25, 26, 27, 28, 29, 30, 31, 32, 33, 34, 35, 36, 588, 589, 577, 578, 579, 590, 591] (by decide +kernel) (by decide +kernel)
set_option maxRecDepth 20000 in
theorem gL_law_X2_init : GoodIn wsL_law (wsX2_init) := ggL_law_X2_init
set_option maxRecDepth 20000 in
theorem ggL_law_X3_init : GoodIn wsL_law wsX3_init := goodIn_r _ [39, 40, 11, 12, 41, 28, 42, 43, 44, 45, 46, 47, 580, 581, 582, 583, 584, 585, 586, 587] (by decide +kernel) (by decide +kernel)
set_option maxRecDepth 20000 in
theorem gL_law_X3_init : GoodIn wsL_law (wsX3_init) := ggL_law_X3_init
set_option maxRecDepth 20000 in
theorem ggL_law_L_sew : GoodIn wsL_law wsL_sew := goodIn_ca (goodIn_ca (goodIn_ca (goodIn_r _ [51, 52, 53, 54, 55, 56, 57, 2, 58, 59, 60, 61, 62, 63, 64, 65, 66, 16, 17, 67, 68, 69, 70, 71, 72, 73, 74, 15, 75, 27, 76, 77, 78, 20, 79, 35, 34, 80, 81, 82, 83, 29, 84, 85, 86, 87, 88, 89, 90, 91, 92, 93, 94, 95, 96, 97, 98, 99, 100, 101, 102, 103, 588, 589, 590, 591, 577, 578, 579] (by decide +kernel) (by decide +kernel)) (goodIn_sub (fun _ h => List.mem_append_left _ (List.mem_append_left _ (List.mem_append_right _ h))) (by decide +kernel))) (goodIn_sub (fun _ h => List.mem_append_left _ (List.mem_append_right _ h)) (by decide +kernel))) (goodIn_sub (fun _ h => List.mem_append_right _ h) (by decide +kernel))
set_option maxRecDepth 20000 in
theorem gL_law_L_sew : GoodIn wsL_law (va_wsS RL 79 yL_sew wsL_sew) := goodIn_app (goodIn_of _ (by decide +kernel)) ggL_law_L_sew
set_option maxRecDepth 20000 in
theorem ggL_law_X3_sew : GoodIn wsL_law wsX3_sew := goodIn_r _ [107, 108, 43, 42, 109, 110, 5, 111, 112, 113, 114, 115, 116, 117, 118, 119, 120, 121, 580, 581, 582, 583, 584, 585, 586, 587] (by decide +kernel) (by decide +kernel)
set_option maxRecDepth 20000 in
theorem gL_law_X3_sew : GoodIn wsL_law (wsV RL 84 RX3 yX3_sew wsX3_sew) := goodIn_app (goodIn_of _ (by decide +kernel)) ggL_law_X3_sew
set_option maxRecDepth 20000 in
theorem ggL_law_X3_thrown : GoodIn wsL_law wsX3_thrown := goodIn_r _ [125, 108, 580, 581, 582, 583, 584, 585, 586, 587] (by decide +kernel) (by decide +kernel)
set_option maxRecDepth 20000 in
theorem gL_law_X3_thrown : GoodIn wsL_law (wsV RL 85 RX3 yX3_thrown wsX3_thrown) := goodIn_app (goodIn_of _ (by decide +kernel)) ggL_law_X3_thrown
set_option maxRecDepth 20000 in
theorem ggL_law_L_again : GoodIn wsL_law wsL_again := goodIn_ca (goodIn_ca (goodIn_ca (goodIn_r _ [128, 52, 53, 54, 129, 130, 131, 2, 132, 70, 71, 59, 60, 61, 62, 63, 64, 65, 66, 16, 17, 133, 134, 135, 15, 136, 27, 137, 101, 102, 20, 103, 35, 34, 76, 77, 78, 79, 80, 81, 82, 83, 29, 84, 85, 86, 87, 88, 89, 90, 91, 92, 93, 94, 95, 96, 97, 98, 99, 100, 588, 589, 590, 591, 577, 578, 579] (by decide +kernel) (by decide +kernel)) (goodIn_sub (fun _ h => List.mem_append_right _ h) (by decide +kernel))) (goodIn_sub (fun _ h => List.mem_append_left _ (List.mem_append_left _ (List.mem_append_right _ h))) (by decide +kernel))) (goodIn_sub (fun _ h => List.mem_append_left _ (List.mem_append_right _ h)) (by decide +kernel))
set_option maxRecDepth 20000 in
theorem gL_law_L_again : GoodIn wsL_law (va_wsS RL 89 yL_again wsL_again) := goodIn_app (goodIn_of _ (by decide +kernel)) ggL_law_L_again
set_option maxRecDepth 20000 in
theorem ggL_law_X3_again : GoodIn wsL_law wsX3_again := goodIn_r _ [141, 108, 43, 42, 109, 110, 5, 111, 112, 113, 114, 115, 116, 117, 118, 580, 581, 582, 583, 584, 585, 586, 587] (by decide +kernel) (by decide +kernel)
set_option maxRecDepth 20000 in
theorem gL_law_X3_again : GoodIn wsL_law (wsV RL 91 RX3 yX3_again wsX3_again) := goodIn_app (goodIn_of _ (by decide +kernel)) ggL_law_X3_again
set_option maxRecDepth 20000 in
theorem ggL_law_L_unpick : GoodIn wsL_law wsL_unpick := goodIn_ca (goodIn_ca (goodIn_r _ [144, 52, 53, 145, 146, 147, 2, 148, 70, 71, 61, 62, 63, 64, 65, 66, 16, 17, 149, 150, 151, 15, 152, 27, 153, 154, 155, 20, 156, 35, 80, 81, 82, 83, 29, 84, 85, 86, 87, 88, 89, 90, 91, 92, 93, 94, 95, 96, 97, 98, 99, 100, 101, 102, 103, 34, 588, 589, 590, 591, 577, 578, 579] (by decide +kernel) (by decide +kernel)) (goodIn_sub (fun _ h => List.mem_append_right _ h) (by decide +kernel))) (goodIn_sub (fun _ h => List.mem_append_left _ (List.mem_append_right _ h)) (by decide +kernel))
set_option maxRecDepth 20000 in
theorem gL_law_L_unpick : GoodIn wsL_law (va_wsS RL 92 yL_unpick wsL_unpick) := goodIn_app (goodIn_of _ (by decide +kernel)) ggL_law_L_unpick
set_option maxRecDepth 20000 in
theorem ggL_law_X3_unpick : GoodIn wsL_law wsX3_unpick := goodIn_r _ [160, 108, 43, 109, 110, 5, 111, 112, 113, 114, 115, 116, 117, 118, 580, 581, 582, 583, 584, 585, 586, 587] (by decide +kernel) (by decide +kernel)
set_option maxRecDepth 20000 in
theorem gL_law_X3_unpick : GoodIn wsL_law (wsV RL 94 RX3 yX3_unpick wsX3_unpick) := goodIn_app (goodIn_of _ (by decide +kernel)) ggL_law_X3_unpick
set_option maxRecDepth 20000 in
theorem ggL_law_L_add : GoodIn wsL_law wsL_add := goodIn_ca (goodIn_ca (goodIn_r _ [163, 53, 54, 164, 165, 166, 2, 167, 59, 60, 21, 67, 68, 69, 70, 71, 168, 77, 78, 20, 79, 35, 34, 577, 578, 579, 590, 591] (by decide +kernel) (by decide +kernel)) (goodIn_sub (fun _ h => List.mem_append_left _ (List.mem_append_left _ (List.mem_append_right _ h))) (by decide +kernel))) (goodIn_sub (fun _ h => List.mem_append_right _ h) (by decide +kernel))
set_option maxRecDepth 20000 in
theorem gL_law_L_add : GoodIn wsL_law (va_wsS RL 95 yL_add wsL_add) := goodIn_app (goodIn_of _ (by decide +kernel)) ggL_law_L_add
set_option maxRecDepth 20000 in
theorem ggL_law_X3_add : GoodIn wsL_law wsX3_add := goodIn_r _ [172, 108, 173, 44, 119, 120, 5, 121, 112, 113, 114, 115, 116, 117, 118, 580, 581, 582, 583, 584, 585, 586, 587] (by decide +kernel) (by decide +kernel)
set_option maxRecDepth 20000 in
theorem gL_law_X3_add : GoodIn wsL_law (wsV RL 98 RX3 yX3_add wsX3_add) := goodIn_app (goodIn_of _ (by decide +kernel)) ggL_law_X3_add
set_option maxRecDepth 20000 in
theorem ggL_law_X2_clear : GoodIn wsL_law wsX2_clear := goodIn_r _ [177, 21, 178, 154, 155, 20, 156, 35, 577, 578, 579, 590, 591] (by decide +kernel) (by decide +kernel)
set_option maxRecDepth 20000 in
theorem gL_law_X2_clear : GoodIn wsL_law (wsV RL 99 RX2 yX2_clear wsX2_clear) := goodIn_app (goodIn_of _ (by decide +kernel)) ggL_law_X2_clear
set_option maxRecDepth 20000 in
theorem ggL_law_X3_clear : GoodIn wsL_law wsX3_clear := goodIn_r _ [182, 108, 173, 580, 581, 582, 583, 584, 585, 586, 587] (by decide +kernel) (by decide +kernel)
set_option maxRecDepth 20000 in
theorem gL_law_X3_clear : GoodIn wsL_law (wsV RL 102 RX3 yX3_clear wsX3_clear) := goodIn_app (goodIn_of _ (by decide +kernel)) ggL_law_X3_clear
set_option maxRecDepth 20000 in
theorem ggL_law_L_stitch : GoodIn wsL_law wsL_stitch := goodIn_ca (goodIn_r _ [185, 52, 186, 187, 188, 2, 189, 61, 62, 63, 64, 65, 66, 16, 17, 190, 191, 192, 193, 101, 102, 20, 103, 35, 34, 588, 589, 577, 578, 579, 590, 591] (by decide +kernel) (by decide +kernel)) (goodIn_sub (fun _ h => List.mem_append_left _ (List.mem_append_right _ h)) (by decide +kernel))
set_option maxRecDepth 20000 in
theorem gL_law_L_stitch : GoodIn wsL_law (va_wsS RL 103 yL_stitch wsL_stitch) := goodIn_app (goodIn_of _ (by decide +kernel)) ggL_law_L_stitch
set_option maxRecDepth 20000 in
theorem ggL_law_X3_stitch : GoodIn wsL_law wsX3_stitch := goodIn_r _ [197, 108, 42, 198, 199, 200, 5, 201, 43, 109, 110, 111, 112, 113, 114, 115, 116, 117, 118, 580, 581, 582, 583, 584, 585, 586, 587] (by decide +kernel) (by decide +kernel)
set_option maxRecDepth 20000 in
theorem gL_law_X3_stitch : GoodIn wsL_law (wsV RL 105 RX3 yX3_stitch wsX3_stitch) := goodIn_app (goodIn_of _ (by decide +kernel)) ggL_law_X3_stitch
set_option maxRecDepth 20000 in
theorem ggL_law_L_count : GoodIn wsL_law wsL_count := goodIn_ca (goodIn_r _ [204, 52, 205, 206, 207, 2, 208, 65, 66, 16, 17, 21, 209, 210, 211, 15, 212, 27, 213, 214, 215, 216, 217, 218, 219, 220, 29, 221, 222, 223, 224, 225, 93, 94, 20, 95, 35, 96, 97, 98, 99, 100, 101, 102, 103, 34, 226, 227, 228, 229, 230, 231, 232, 233, 234, 235, 236, 237, 238, 239, 240, 241, 92, 577, 578, 579, 588, 589, 590, 591] (by decide +kernel) (by decide +kernel)) (goodIn_sub (fun _ h => List.mem_append_left _ (List.mem_append_right _ h)) (by decide +kernel))
set_option maxRecDepth 20000 in
theorem gL_law_L_count : GoodIn wsL_law (va_wsS RL 106 yL_count wsL_count) := goodIn_app (goodIn_of _ (by decide +kernel)) ggL_law_L_count
set_option maxRecDepth 20000 in
theorem ggL_law_X3_count : GoodIn wsL_law wsX3_count := goodIn_r _ [245, 108, 112, 113, 5, 114, 246, 247, 248, 249, 43, 173, 250, 251, 252, 253, 254, 255, 256, 257, 42, 45, 258, 259, 260, 261, 262, 263, 264, 265, 240, 98, 241, 266, 267, 268, 269, 47, 270, 271, 272, 273, 274, 275, 276, 277, 278, 279, 280, 281, 282, 283, 284, 115, 116, 117, 118, 580, 581, 582, 583, 584, 585, 586, 587] (by decide +kernel) (by decide +kernel)
set_option maxRecDepth 20000 in
theorem gL_law_X3_count : GoodIn wsL_law (wsV RL 108 RX3 yX3_count wsX3_count) := goodIn_app (goodIn_of _ (by decide +kernel)) ggL_law_X3_count
set_option maxRecDepth 20000 in
theorem ggL_law_L_end : GoodIn wsL_law wsL_end := goodIn_ca (goodIn_r _ [287, 52, 288, 289, 290, 2, 291, 61, 62, 63, 64, 65, 66, 16, 17, 190, 191, 192, 230, 218, 219, 15, 220, 27, 29, 588, 589, 577, 578, 579, 590, 591] (by decide +kernel) (by decide +kernel)) (goodIn_sub (fun _ h => List.mem_append_left _ (List.mem_append_right _ h)) (by decide +kernel))
set_option maxRecDepth 20000 in
theorem gL_law_L_end : GoodIn wsL_law (va_wsS RL 109 yL_end wsL_end) := goodIn_app (goodIn_of _ (by decide +kernel)) ggL_law_L_end
set_option maxRecDepth 20000 in
theorem ggL_law_X3_end : GoodIn wsL_law wsX3_end := goodIn_r _ [295, 108, 46, 198, 199, 200, 5, 201, 43, 109, 110, 111, 112, 113, 114, 115, 116, 117, 118, 296, 297, 298, 299, 254, 255, 256, 257, 42, 45, 258, 259, 260, 300, 301, 302, 303, 278, 279, 280, 281, 282, 283, 284, 580, 581, 582, 583, 584, 585, 586, 587] (by decide +kernel) (by decide +kernel)
set_option maxRecDepth 20000 in
theorem gL_law_X3_end : GoodIn wsL_law (wsV RL 111 RX3 yX3_end wsX3_end) := goodIn_app (goodIn_of _ (by decide +kernel)) ggL_law_X3_end
set_option maxRecDepth 20000 in
theorem ggL_law_L_rank : GoodIn wsL_law wsL_rank := goodIn_ca (goodIn_r _ [306, 52, 307, 308, 309, 2, 310, 61, 62, 63, 64, 65, 66, 16, 17, 190, 191, 192, 311, 312, 313, 15, 314, 27, 217, 218, 219, 220, 29, 588, 589, 577, 578, 579, 590, 591] (by decide +kernel) (by decide +kernel)) (goodIn_sub (fun _ h => List.mem_append_left _ (List.mem_append_right _ h)) (by decide +kernel))
set_option maxRecDepth 20000 in
theorem gL_law_L_rank : GoodIn wsL_law (va_wsS RL 112 yL_rank wsL_rank) := goodIn_app (goodIn_of _ (by decide +kernel)) ggL_law_L_rank
set_option maxRecDepth 20000 in
theorem ggL_law_X3_rank : GoodIn wsL_law wsX3_rank := goodIn_r _ [318, 108, 198, 199, 200, 5, 201, 43, 109, 110, 111, 112, 113, 114, 115, 116, 117, 118, 254, 255, 256, 257, 42, 45, 258, 259, 260, 300, 301, 302, 303, 278, 279, 280, 281, 282, 283, 284, 580, 581, 582, 583, 584, 585, 586, 587] (by decide +kernel) (by decide +kernel)
set_option maxRecDepth 20000 in
theorem gL_law_X3_rank : GoodIn wsL_law (wsV RL 114 RX3 yX3_rank wsX3_rank) := goodIn_app (goodIn_of _ (by decide +kernel)) ggL_law_X3_rank
set_option maxRecDepth 20000 in
theorem ggL_law_L_common : GoodIn wsL_law wsL_common := goodIn_ca (goodIn_r _ [321, 52, 322, 323, 324, 2, 325, 61, 62, 63, 64, 65, 66, 16, 17, 190, 191, 192, 326, 93, 94, 20, 95, 35, 96, 97, 98, 99, 100, 101, 102, 103, 34, 588, 589, 577, 578, 579, 590, 591] (by decide +kernel) (by decide +kernel)) (goodIn_sub (fun _ h => List.mem_append_left _ (List.mem_append_right _ h)) (by decide +kernel))
set_option maxRecDepth 20000 in
theorem gL_law_L_common : GoodIn wsL_law (va_wsS RL 115 yL_common wsL_common) := goodIn_app (goodIn_of _ (by decide +kernel)) ggL_law_L_common
set_option maxRecDepth 20000 in
theorem ggL_law_X3_common : GoodIn wsL_law wsX3_common := goodIn_r _ [330, 108, 45, 198, 199, 200, 5, 201, 43, 109, 110, 111, 112, 113, 114, 115, 116, 117, 118, 254, 255, 256, 257, 42, 258, 259, 260, 580, 581, 582, 583, 584, 585, 586, 587] (by decide +kernel) (by decide +kernel)
set_option maxRecDepth 20000 in
theorem gL_law_X3_common : GoodIn wsL_law (wsV RL 118 RX3 yX3_common wsX3_common) := goodIn_app (goodIn_of _ (by decide +kernel)) ggL_law_X3_common
set_option maxRecDepth 20000 in
theorem ggL_law_L_against : GoodIn wsL_law wsL_against := goodIn_ca (goodIn_r _ [333, 52, 334, 335, 336, 2, 337, 16, 17, 190, 191, 192, 65, 66, 338, 89, 90, 20, 91, 92, 93, 94, 95, 35, 96, 97, 98, 99, 100, 101, 102, 103, 34, 577, 578, 579, 588, 589, 590, 591] (by decide +kernel) (by decide +kernel)) (goodIn_sub (fun _ h => List.mem_append_left _ (List.mem_append_right _ h)) (by decide +kernel))
set_option maxRecDepth 20000 in
theorem gL_law_L_against : GoodIn wsL_law (va_wsS RL 119 yL_against wsL_against) := goodIn_app (goodIn_of _ (by decide +kernel)) ggL_law_L_against
set_option maxRecDepth 20000 in
theorem ggL_law_X3_against : GoodIn wsL_law wsX3_against := goodIn_r _ [342, 108, 42, 43, 47, 198, 199, 200, 5, 201, 109, 110, 111, 112, 113, 114, 115, 116, 117, 118, 270, 271, 272, 273, 258, 259, 260, 282, 283, 284, 580, 581, 582, 583, 584, 585, 586, 587] (by decide +kernel) (by decide +kernel)
set_option maxRecDepth 20000 in
theorem gL_law_X3_against : GoodIn wsL_law (wsV RL 121 RX3 yX3_against wsX3_against) := goodIn_app (goodIn_of _ (by decide +kernel)) ggL_law_X3_against
set_option maxRecDepth 20000 in
theorem ggL_law_L_repeat : GoodIn wsL_law wsL_repeat := goodIn_ca (goodIn_r _ [345, 52, 346, 347, 348, 2, 349, 65, 66, 61, 62, 63, 64, 16, 17, 350, 351, 352, 15, 353, 27, 221, 222, 223, 224, 217, 218, 219, 220, 29, 225, 93, 94, 20, 95, 35, 96, 97, 98, 99, 100, 101, 102, 103, 34, 354, 230, 355, 356, 357, 358, 359, 360, 361, 362, 92, 363, 364, 365, 366, 588, 589, 577, 578, 579, 590, 591] (by decide +kernel) (by decide +kernel)) (goodIn_sub (fun _ h => List.mem_append_left _ (List.mem_append_right _ h)) (by decide +kernel))
set_option maxRecDepth 20000 in
theorem gL_law_L_repeat : GoodIn wsL_law (va_wsS RL 122 yL_repeat wsL_repeat) := goodIn_app (goodIn_of _ (by decide +kernel)) ggL_law_L_repeat
set_option maxRecDepth 20000 in
theorem ggL_law_X3_repeat : GoodIn wsL_law wsX3_repeat := goodIn_r _ [370, 108, 109, 110, 5, 111, 112, 113, 114, 371, 372, 373, 374, 43, 45, 254, 255, 256, 257, 42, 258, 259, 260, 375, 376, 377, 378, 265, 240, 98, 241, 278, 279, 280, 281, 282, 283, 284, 379, 380, 381, 382, 115, 116, 117, 118, 580, 581, 582, 583, 584, 585, 586, 587] (by decide +kernel) (by decide +kernel)
set_option maxRecDepth 20000 in
theorem gL_law_X3_repeat : GoodIn wsL_law (wsV RL 124 RX3 yX3_repeat wsX3_repeat) := goodIn_app (goodIn_of _ (by decide +kernel)) ggL_law_X3_repeat
set_option maxRecDepth 20000 in
theorem ggL_law_L_row : GoodIn wsL_law wsL_row := goodIn_ca (goodIn_r _ [385, 52, 386, 387, 388, 2, 389, 65, 66, 61, 62, 63, 64, 16, 17, 209, 210, 211, 15, 212, 27, 213, 214, 215, 216, 217, 218, 219, 220, 29, 221, 222, 223, 224, 225, 93, 94, 20, 95, 35, 96, 97, 98, 99, 100, 101, 102, 103, 34, 390, 391, 392, 393, 394, 356, 357, 358, 359, 360, 361, 362, 92, 577, 578, 579, 588, 589, 590, 591] (by decide +kernel) (by decide +kernel)) (goodIn_sub (fun _ h => List.mem_append_left _ (List.mem_append_right _ h)) (by decide +kernel))
set_option maxRecDepth 20000 in
theorem gL_law_L_row : GoodIn wsL_law (va_wsS RL 125 yL_row wsL_row) := goodIn_app (goodIn_of _ (by decide +kernel)) ggL_law_L_row
set_option maxRecDepth 20000 in
theorem ggL_law_X3_row : GoodIn wsL_law wsX3_row := goodIn_r _ [398, 108, 43, 46, 45, 109, 110, 5, 111, 112, 113, 114, 115, 116, 117, 118, 296, 297, 298, 299, 254, 255, 256, 257, 42, 258, 259, 260, 300, 301, 302, 303, 278, 279, 280, 281, 282, 283, 284, 399, 400, 401, 402, 580, 581, 582, 583, 584, 585, 586, 587] (by decide +kernel) (by decide +kernel)
set_option maxRecDepth 20000 in
theorem gL_law_X3_row : GoodIn wsL_law (wsV RL 127 RX3 yX3_row wsX3_row) := goodIn_app (goodIn_of _ (by decide +kernel)) ggL_law_X3_row
set_option maxRecDepth 20000 in
theorem ggL_law_L_found : GoodIn wsL_law wsL_found := goodIn_ca (goodIn_r _ [405, 52, 406, 407, 408, 2, 409, 21, 61, 62, 63, 64, 65, 66, 16, 17, 363, 364, 365, 20, 366, 35, 359, 360, 361, 362, 92, 93, 94, 95, 96, 97, 98, 99, 100, 101, 102, 103, 34, 588, 589, 577, 578, 579, 590, 591] (by decide +kernel) (by decide +kernel)) (goodIn_sub (fun _ h => List.mem_append_left _ (List.mem_append_right _ h)) (by decide +kernel))
set_option maxRecDepth 20000 in
theorem gL_law_L_found : GoodIn wsL_law (va_wsS RL 128 yL_found wsL_found) := goodIn_app (goodIn_of _ (by decide +kernel)) ggL_law_L_found
set_option maxRecDepth 20000 in
theorem ggL_law_X3_found : GoodIn wsL_law wsX3_found := goodIn_r _ [413, 108, 109, 110, 5, 111, 112, 113, 114, 414, 415, 416, 417, 43, 418, 419, 420, 421, 173, 42, 44, 115, 116, 117, 118, 580, 581, 582, 583, 584, 585, 586, 587] (by decide +kernel) (by decide +kernel)
set_option maxRecDepth 20000 in
theorem gL_law_X3_found : GoodIn wsL_law (wsV RL 130 RX3 yX3_found wsX3_found) := goodIn_app (goodIn_of _ (by decide +kernel)) ggL_law_X3_found
set_option maxRecDepth 20000 in
theorem ggL_law_L_first : GoodIn wsL_law wsL_first := goodIn_ca (goodIn_r _ [424, 52, 425, 426, 427, 2, 428, 21, 61, 62, 63, 64, 65, 66, 16, 17, 355, 356, 357, 20, 358, 35, 359, 360, 361, 362, 92, 93, 94, 95, 96, 97, 98, 99, 100, 101, 102, 103, 34, 588, 589, 577, 578, 579, 590, 591] (by decide +kernel) (by decide +kernel)) (goodIn_sub (fun _ h => List.mem_append_left _ (List.mem_append_right _ h)) (by decide +kernel))
set_option maxRecDepth 20000 in
theorem gL_law_L_first : GoodIn wsL_law (va_wsS RL 131 yL_first wsL_first) := goodIn_app (goodIn_of _ (by decide +kernel)) ggL_law_L_first
set_option maxRecDepth 20000 in
theorem ggL_law_X3_first : GoodIn wsL_law wsX3_first := goodIn_r _ [432, 108, 43, 109, 110, 5, 111, 112, 113, 114, 115, 116, 117, 118, 418, 419, 420, 421, 173, 42, 44, 580, 581, 582, 583, 584, 585, 586, 587] (by decide +kernel) (by decide +kernel)
set_option maxRecDepth 20000 in
theorem gL_law_X3_first : GoodIn wsL_law (wsV RL 133 RX3 yX3_first wsX3_first) := goodIn_app (goodIn_of _ (by decide +kernel)) ggL_law_X3_first
set_option maxRecDepth 20000 in
theorem ggL_law_L_period : GoodIn wsL_law wsL_period := goodIn_ca (goodIn_r _ [435, 52, 436, 437, 438, 2, 439, 61, 62, 63, 64, 65, 66, 16, 17, 440, 441, 442, 20, 443, 35, 92, 93, 94, 95, 96, 97, 98, 99, 100, 101, 102, 103, 34, 588, 589, 577, 578, 579, 590, 591] (by decide +kernel) (by decide +kernel)) (goodIn_sub (fun _ h => List.mem_append_left _ (List.mem_append_right _ h)) (by decide +kernel))
set_option maxRecDepth 20000 in
theorem gL_law_L_period : GoodIn wsL_law (va_wsS RL 134 yL_period wsL_period) := goodIn_app (goodIn_of _ (by decide +kernel)) ggL_law_L_period
set_option maxRecDepth 20000 in
theorem ggL_law_X3_period : GoodIn wsL_law wsX3_period := goodIn_r _ [447, 108, 109, 110, 5, 111, 112, 113, 114, 448, 449, 450, 451, 43, 452, 97, 98, 99, 453, 454, 455, 456, 42, 115, 116, 117, 118, 580, 581, 582, 583, 584, 585, 586, 587] (by decide +kernel) (by decide +kernel)
set_option maxRecDepth 20000 in
theorem gL_law_X3_period : GoodIn wsL_law (wsV RL 136 RX3 yX3_period wsX3_period) := goodIn_app (goodIn_of _ (by decide +kernel)) ggL_law_X3_period
set_option maxRecDepth 20000 in
theorem ggL_law_L_turned : GoodIn wsL_law wsL_turned := goodIn_ca (goodIn_r _ [459, 52, 460, 461, 462, 2, 463, 61, 62, 63, 64, 65, 66, 16, 17, 464, 465, 466, 20, 467, 35, 468, 469, 470, 471, 472, 473, 474, 475, 100, 101, 102, 103, 34, 588, 589, 577, 578, 579, 590, 591] (by decide +kernel) (by decide +kernel)) (goodIn_sub (fun _ h => List.mem_append_left _ (List.mem_append_right _ h)) (by decide +kernel))
set_option maxRecDepth 20000 in
theorem gL_law_L_turned : GoodIn wsL_law (va_wsS RL 137 yL_turned wsL_turned) := goodIn_app (goodIn_of _ (by decide +kernel)) ggL_law_L_turned
set_option maxRecDepth 20000 in
theorem ggL_law_X3_turned : GoodIn wsL_law wsX3_turned := goodIn_r _ [479, 108, 109, 110, 5, 111, 112, 113, 114, 480, 481, 482, 483, 43, 484, 485, 486, 487, 42, 115, 116, 117, 118, 580, 581, 582, 583, 584, 585, 586, 587] (by decide +kernel) (by decide +kernel)
set_option maxRecDepth 20000 in
theorem gL_law_X3_turned : GoodIn wsL_law (wsV RL 139 RX3 yX3_turned wsX3_turned) := goodIn_app (goodIn_of _ (by decide +kernel)) ggL_law_X3_turned
set_option maxRecDepth 20000 in
theorem ggL_law_L_seam : GoodIn wsL_law wsL_seam := goodIn_ca (goodIn_r _ [490, 52, 491, 492, 493, 2, 494, 65, 66, 16, 17, 226, 227, 228, 229, 230, 218, 219, 15, 220, 27, 29, 231, 232, 233, 234, 235, 236, 237, 20, 238, 35, 239, 240, 98, 241, 92, 93, 94, 95, 96, 97, 99, 100, 101, 102, 103, 34, 355, 356, 357, 358, 359, 360, 361, 362, 577, 578, 579, 588, 589, 590, 591] (by decide +kernel) (by decide +kernel)) (goodIn_sub (fun _ h => List.mem_append_left _ (List.mem_append_right _ h)) (by decide +kernel))
set_option maxRecDepth 20000 in
theorem gL_law_L_seam : GoodIn wsL_law (va_wsS RL 140 yL_seam wsL_seam) := goodIn_app (goodIn_of _ (by decide +kernel)) ggL_law_L_seam
set_option maxRecDepth 20000 in
theorem ggL_law_X3_seam : GoodIn wsL_law wsX3_seam := goodIn_r _ [498, 108, 112, 113, 5, 114, 266, 267, 268, 269, 43, 45, 47, 254, 255, 256, 257, 42, 258, 259, 260, 270, 271, 272, 273, 274, 275, 276, 277, 265, 240, 98, 241, 278, 279, 280, 281, 282, 283, 284, 115, 116, 117, 118, 580, 581, 582, 583, 584, 585, 586, 587] (by decide +kernel) (by decide +kernel)
set_option maxRecDepth 20000 in
theorem gL_law_X3_seam : GoodIn wsL_law (wsV RL 142 RX3 yX3_seam wsX3_seam) := goodIn_app (goodIn_of _ (by decide +kernel)) ggL_law_X3_seam
set_option maxRecDepth 20000 in
theorem ggL_law_L_would : GoodIn wsL_law wsL_would := goodIn_ca (goodIn_ca (goodIn_r _ [501, 52, 53, 502, 503, 504, 2, 505, 61, 62, 63, 64, 65, 66, 16, 17, 67, 68, 69, 70, 71, 506, 507, 508, 20, 509, 35, 239, 240, 98, 241, 100, 101, 102, 103, 34, 510, 511, 512, 513, 588, 589, 577, 578, 579, 590, 591] (by decide +kernel) (by decide +kernel)) (goodIn_sub (fun _ h => List.mem_append_left _ (List.mem_append_right _ h)) (by decide +kernel))) (goodIn_sub (fun _ h => List.mem_append_right _ h) (by decide +kernel))
set_option maxRecDepth 20000 in
theorem gL_law_L_would : GoodIn wsL_law (va_wsS RL 143 yL_would wsL_would) := goodIn_app (goodIn_of _ (by decide +kernel)) ggL_law_L_would
set_option maxRecDepth 20000 in
theorem ggL_law_X3_would : GoodIn wsL_law wsX3_would := goodIn_r _ [517, 108, 109, 110, 5, 111, 112, 113, 114, 115, 116, 117, 118, 119, 120, 121, 518, 519, 520, 521, 43, 42, 265, 240, 98, 241, 580, 581, 582, 583, 584, 585, 586, 587] (by decide +kernel) (by decide +kernel)
set_option maxRecDepth 20000 in
theorem gL_law_X3_would : GoodIn wsL_law (wsV RL 145 RX3 yX3_would wsX3_would) := goodIn_app (goodIn_of _ (by decide +kernel)) ggL_law_X3_would
set_option maxRecDepth 20000 in
theorem ggL_law_L_advise : GoodIn wsL_law wsL_advise := goodIn_ca (goodIn_r _ [524, 52, 525, 526, 527, 2, 528, 61, 62, 63, 64, 65, 66, 16, 17, 506, 507, 508, 20, 509, 35, 239, 240, 98, 241, 100, 101, 102, 103, 34, 510, 511, 512, 513, 588, 589, 577, 578, 579, 590, 591] (by decide +kernel) (by decide +kernel)) (goodIn_sub (fun _ h => List.mem_append_left _ (List.mem_append_right _ h)) (by decide +kernel))
set_option maxRecDepth 20000 in
theorem gL_law_L_advise : GoodIn wsL_law (va_wsS RL 146 yL_advise wsL_advise) := goodIn_app (goodIn_of _ (by decide +kernel)) ggL_law_L_advise
set_option maxRecDepth 20000 in
theorem ggL_law_X3_advise : GoodIn wsL_law wsX3_advise := goodIn_r _ [532, 108, 109, 110, 5, 111, 112, 113, 114, 115, 116, 117, 118, 518, 519, 520, 521, 43, 42, 265, 240, 98, 241, 580, 581, 582, 583, 584, 585, 586, 587] (by decide +kernel) (by decide +kernel)
set_option maxRecDepth 20000 in
theorem gL_law_X3_advise : GoodIn wsL_law (wsV RL 148 RX3 yX3_advise wsX3_advise) := goodIn_app (goodIn_of _ (by decide +kernel)) ggL_law_X3_advise
set_option maxRecDepth 20000 in
theorem ggL_law_X2_mean : GoodIn wsL_law wsX2_mean := goodIn_r _ [536, 16, 17, 537, 538, 539, 15, 540, 27, 541, 542, 543, 544, 221, 222, 223, 224, 217, 218, 219, 220, 29, 225, 93, 94, 20, 95, 35, 96, 97, 98, 99, 100, 101, 102, 103, 34, 577, 578, 579, 588, 589, 590, 591] (by decide +kernel) (by decide +kernel)
set_option maxRecDepth 20000 in
theorem gL_law_X2_mean : GoodIn wsL_law (wsV RL 149 RX2 yX2_mean wsX2_mean) := goodIn_app (goodIn_of _ (by decide +kernel)) ggL_law_X2_mean
set_option maxRecDepth 20000 in
theorem ggL_law_X3_mean : GoodIn wsL_law wsX3_mean := goodIn_r _ [548, 108, 43, 45, 46, 296, 297, 298, 5, 299, 254, 255, 256, 257, 42, 258, 259, 260, 300, 301, 302, 303, 278, 279, 280, 281, 282, 283, 284, 580, 581, 582, 583, 584, 585, 586, 587] (by decide +kernel) (by decide +kernel)
set_option maxRecDepth 20000 in
theorem gL_law_X3_mean : GoodIn wsL_law (wsV RL 153 RX3 yX3_mean wsX3_mean) := goodIn_app (goodIn_of _ (by decide +kernel)) ggL_law_X3_mean
set_option maxRecDepth 20000 in
theorem ggL_law_X2_digest : GoodIn wsL_law wsX2_digest := goodIn_ca (goodIn_r _ [552, 553, 21, 554, 206, 207, 2, 208, 65, 66, 16, 17, 209, 210, 211, 15, 212, 27, 213, 214, 215, 216, 217, 218, 219, 220, 29, 221, 222, 223, 224, 225, 93, 94, 20, 95, 35, 96, 97, 98, 99, 100, 101, 102, 103, 34, 226, 227, 228, 229, 230, 231, 232, 233, 234, 235, 236, 237, 238, 239, 240, 241, 92, 555, 556, 557, 558, 559, 560, 561, 562, 61, 62, 63, 64, 563, 564, 565, 193, 566, 347, 348, 349, 350, 351, 352, 353, 354, 355, 356, 357, 358, 359, 360, 361, 362, 363, 364, 365, 366, 567, 437, 438, 439, 440, 441, 442, 443, 568, 461, 462, 463, 464, 465, 466, 467, 468, 469, 470, 471, 472, 473, 474, 475, 569, 407, 408, 409, 570, 492, 493, 494, 577, 578, 579, 588, 589, 590, 591] (by decide +kernel) (by decide +kernel)) (goodIn_sub (fun _ h => List.mem_append_left _ (List.mem_append_right _ h)) (by decide +kernel))
set_option maxRecDepth 20000 in
theorem gL_law_X2_digest : GoodIn wsL_law (wsV RL 154 RX2 yX2_digest wsX2_digest) := goodIn_app (goodIn_of _ (by decide +kernel)) ggL_law_X2_digest
set_option maxRecDepth 20000 in
theorem ggL_law_X3_digest : GoodIn wsL_law wsX3_digest := goodIn_r _ [574, 108, 575, 576, 43, 42, 46, 173, 44, 246, 247, 248, 5, 249, 250, 251, 252, 253, 254, 255, 256, 257, 45, 258, 259, 260, 261, 262, 263, 264, 265, 240, 98, 241, 266, 267, 268, 269, 47, 270, 271, 272, 273, 274, 275, 276, 277, 278, 279, 280, 281, 282, 283, 284, 296, 297, 298, 299, 300, 301, 302, 303, 371, 372, 373, 374, 375, 376, 377, 378, 379, 380, 381, 382, 448, 449, 450, 451, 452, 97, 99, 453, 454, 455, 456, 480, 481, 482, 483, 484, 485, 486, 487, 414, 415, 416, 417, 418, 419, 420, 421, 580, 581, 582, 583, 584, 585, 586, 587] (by decide +kernel) (by decide +kernel)
set_option maxRecDepth 20000 in
theorem gL_law_X3_digest : GoodIn wsL_law (wsV RL 158 RX3 yX3_digest wsX3_digest) := goodIn_app (goodIn_of _ (by decide +kernel)) ggL_law_X3_digest
theorem dL_law_0 : decode cL_law 0 = .ok (.new 8, 3) := by decide +kernel
theorem dL_law_3 : decode cL_law 3 = .ok (.dup, 1) := by decide +kernel
theorem dL_law_4 : decode cL_law 4 = .ok (.invokespecial 75, 3) := by decide +kernel
theorem dL_law_7 : decode cL_law 7 = .ok (.astore_n 1, 1) := by decide +kernel
theorem dL_law_8 : decode cL_law 8 = .ok (.new 76, 3) := by decide +kernel
theorem dL_law_11 : decode cL_law 11 = .ok (.dup, 1) := by decide +kernel
theorem dL_law_12 : decode cL_law 12 = .ok (.invokespecial 78, 3) := by decide +kernel
theorem dL_law_15 : decode cL_law 15 = .ok (.astore_n 2, 1) := by decide +kernel
theorem dL_law_16 : decode cL_law 16 = .ok (.iconst 1, 1) := by decide +kernel
theorem dL_law_17 : decode cL_law 17 = .ok (.newarray .long, 2) := by decide +kernel
theorem dL_law_19 : decode cL_law 19 = .ok (.astore_n 3, 1) := by decide +kernel
theorem dL_law_20 : decode cL_law 20 = .ok (.iconst 0, 1) := by decide +kernel
theorem dL_law_21 : decode cL_law 21 = .ok (.istore 4, 2) := by decide +kernel
theorem dL_law_23 : decode cL_law 23 = .ok (.iload 4, 2) := by decide +kernel
theorem dL_law_25 : decode cL_law 25 = .ok (.aload_n 0, 1) := by decide +kernel
theorem dL_law_26 : decode cL_law 26 = .ok (.arraylength, 1) := by decide +kernel
theorem dL_law_27 : decode cL_law 27 = .ok (.iconst 4, 1) := by decide +kernel
theorem dL_law_28 : decode cL_law 28 = .ok (.isub, 1) := by decide +kernel
theorem dL_law_29 : decode cL_law 29 = .ok (.if_icmp .gt 1393, 3) := by decide +kernel
theorem dL_law_32 : decode cL_law 32 = .ok (.aload_n 0, 1) := by decide +kernel
theorem dL_law_33 : decode cL_law 33 = .ok (.iload 4, 2) := by decide +kernel
theorem dL_law_35 : decode cL_law 35 = .ok (.iaload, 1) := by decide +kernel
theorem dL_law_36 : decode cL_law 36 = .ok (.bipush 31, 2) := by decide +kernel
theorem dL_law_38 : decode cL_law 38 = .ok (.iand, 1) := by decide +kernel
theorem dL_law_39 : decode cL_law 39 = .ok (.tableswitch 1377 0 21 #[101, 169, 237, 305, 361, 374, 442, 498, 566, 634, 714, 782, 850, 918, 974, 1030, 1086, 1142, 1198, 1266, 1322, 1363], 101) := by decide +kernel
theorem dL_law_140 : decode cL_law 140 = .ok (.aload_n 1, 1) := by decide +kernel
theorem dL_law_141 : decode cL_law 141 = .ok (.aload_n 0, 1) := by decide +kernel
theorem dL_law_142 : decode cL_law 142 = .ok (.iload 4, 2) := by decide +kernel
theorem dL_law_144 : decode cL_law 144 = .ok (.iconst 1, 1) := by decide +kernel
theorem dL_law_145 : decode cL_law 145 = .ok (.iadd, 1) := by decide +kernel
theorem dL_law_146 : decode cL_law 146 = .ok (.iaload, 1) := by decide +kernel
theorem dL_law_147 : decode cL_law 147 = .ok (.aload_n 0, 1) := by decide +kernel
theorem dL_law_148 : decode cL_law 148 = .ok (.iload 4, 2) := by decide +kernel
theorem dL_law_150 : decode cL_law 150 = .ok (.iconst 2, 1) := by decide +kernel
theorem dL_law_151 : decode cL_law 151 = .ok (.iadd, 1) := by decide +kernel
theorem dL_law_152 : decode cL_law 152 = .ok (.iaload, 1) := by decide +kernel
theorem dL_law_153 : decode cL_law 153 = .ok (.aload_n 3, 1) := by decide +kernel
theorem dL_law_154 : decode cL_law 154 = .ok (.invokestatic 79, 3) := by decide +kernel
theorem dL_law_157 : decode cL_law 157 = .ok (.istore 5, 2) := by decide +kernel
theorem dL_law_159 : decode cL_law 159 = .ok (.aload_n 2, 1) := by decide +kernel
theorem dL_law_160 : decode cL_law 160 = .ok (.aload_n 0, 1) := by decide +kernel
theorem dL_law_161 : decode cL_law 161 = .ok (.iload 4, 2) := by decide +kernel
theorem dL_law_163 : decode cL_law 163 = .ok (.iconst 1, 1) := by decide +kernel
theorem dL_law_164 : decode cL_law 164 = .ok (.iadd, 1) := by decide +kernel
theorem dL_law_165 : decode cL_law 165 = .ok (.iaload, 1) := by decide +kernel
theorem dL_law_166 : decode cL_law 166 = .ok (.aload_n 0, 1) := by decide +kernel
theorem dL_law_167 : decode cL_law 167 = .ok (.iload 4, 2) := by decide +kernel
theorem dL_law_169 : decode cL_law 169 = .ok (.iconst 2, 1) := by decide +kernel
theorem dL_law_170 : decode cL_law 170 = .ok (.iadd, 1) := by decide +kernel
theorem dL_law_171 : decode cL_law 171 = .ok (.iaload, 1) := by decide +kernel
theorem dL_law_172 : decode cL_law 172 = .ok (.invokevirtual 84, 3) := by decide +kernel
theorem dL_law_175 : decode cL_law 175 = .ok (.istore 6, 2) := by decide +kernel
theorem dL_law_177 : decode cL_law 177 = .ok (.aload_n 2, 1) := by decide +kernel
theorem dL_law_178 : decode cL_law 178 = .ok (.invokevirtual 85, 3) := by decide +kernel
theorem dL_law_181 : decode cL_law 181 = .ok (.iload 5, 2) := by decide +kernel
theorem dL_law_183 : decode cL_law 183 = .ok (.if_icmp .eq 5, 3) := by decide +kernel
theorem dL_law_186 : decode cL_law 186 = .ok (.iconst 0, 1) := by decide +kernel
theorem dL_law_187 : decode cL_law 187 = .ok (.ireturn, 1) := by decide +kernel
theorem dL_law_188 : decode cL_law 188 = .ok (.iload 5, 2) := by decide +kernel
theorem dL_law_190 : decode cL_law 190 = .ok (.ifCond .ne 15, 3) := by decide +kernel
theorem dL_law_193 : decode cL_law 193 = .ok (.aload_n 3, 1) := by decide +kernel
theorem dL_law_194 : decode cL_law 194 = .ok (.iconst 0, 1) := by decide +kernel
theorem dL_law_195 : decode cL_law 195 = .ok (.laload, 1) := by decide +kernel
theorem dL_law_196 : decode cL_law 196 = .ok (.iload 6, 2) := by decide +kernel
theorem dL_law_198 : decode cL_law 198 = .ok (.i2l, 1) := by decide +kernel
theorem dL_law_199 : decode cL_law 199 = .ok (.lcmp, 1) := by decide +kernel
theorem dL_law_200 : decode cL_law 200 = .ok (.ifCond .eq 5, 3) := by decide +kernel
theorem dL_law_203 : decode cL_law 203 = .ok (.iconst 0, 1) := by decide +kernel
theorem dL_law_204 : decode cL_law 204 = .ok (.ireturn, 1) := by decide +kernel
theorem dL_law_205 : decode cL_law 205 = .ok (.goto 1211, 3) := by decide +kernel
theorem dL_law_208 : decode cL_law 208 = .ok (.aload_n 1, 1) := by decide +kernel
theorem dL_law_209 : decode cL_law 209 = .ok (.aload_n 0, 1) := by decide +kernel
theorem dL_law_210 : decode cL_law 210 = .ok (.iload 4, 2) := by decide +kernel
theorem dL_law_212 : decode cL_law 212 = .ok (.iconst 1, 1) := by decide +kernel
theorem dL_law_213 : decode cL_law 213 = .ok (.iadd, 1) := by decide +kernel
theorem dL_law_214 : decode cL_law 214 = .ok (.iaload, 1) := by decide +kernel
theorem dL_law_215 : decode cL_law 215 = .ok (.aload_n 0, 1) := by decide +kernel
theorem dL_law_216 : decode cL_law 216 = .ok (.iload 4, 2) := by decide +kernel
theorem dL_law_218 : decode cL_law 218 = .ok (.iconst 2, 1) := by decide +kernel
theorem dL_law_219 : decode cL_law 219 = .ok (.iadd, 1) := by decide +kernel
theorem dL_law_220 : decode cL_law 220 = .ok (.iaload, 1) := by decide +kernel
theorem dL_law_221 : decode cL_law 221 = .ok (.aload_n 3, 1) := by decide +kernel
theorem dL_law_222 : decode cL_law 222 = .ok (.invokestatic 89, 3) := by decide +kernel
theorem dL_law_225 : decode cL_law 225 = .ok (.istore 5, 2) := by decide +kernel
theorem dL_law_227 : decode cL_law 227 = .ok (.aload_n 2, 1) := by decide +kernel
theorem dL_law_228 : decode cL_law 228 = .ok (.aload_n 0, 1) := by decide +kernel
theorem dL_law_229 : decode cL_law 229 = .ok (.iload 4, 2) := by decide +kernel
theorem dL_law_231 : decode cL_law 231 = .ok (.iconst 1, 1) := by decide +kernel
theorem dL_law_232 : decode cL_law 232 = .ok (.iadd, 1) := by decide +kernel
theorem dL_law_233 : decode cL_law 233 = .ok (.iaload, 1) := by decide +kernel
theorem dL_law_234 : decode cL_law 234 = .ok (.aload_n 0, 1) := by decide +kernel
theorem dL_law_235 : decode cL_law 235 = .ok (.iload 4, 2) := by decide +kernel
theorem dL_law_237 : decode cL_law 237 = .ok (.iconst 2, 1) := by decide +kernel
theorem dL_law_238 : decode cL_law 238 = .ok (.iadd, 1) := by decide +kernel
theorem dL_law_239 : decode cL_law 239 = .ok (.iaload, 1) := by decide +kernel
theorem dL_law_240 : decode cL_law 240 = .ok (.invokevirtual 91, 3) := by decide +kernel
theorem dL_law_243 : decode cL_law 243 = .ok (.istore 6, 2) := by decide +kernel
theorem dL_law_245 : decode cL_law 245 = .ok (.aload_n 2, 1) := by decide +kernel
theorem dL_law_246 : decode cL_law 246 = .ok (.invokevirtual 85, 3) := by decide +kernel
theorem dL_law_249 : decode cL_law 249 = .ok (.iload 5, 2) := by decide +kernel
theorem dL_law_251 : decode cL_law 251 = .ok (.if_icmp .eq 5, 3) := by decide +kernel
theorem dL_law_254 : decode cL_law 254 = .ok (.iconst 0, 1) := by decide +kernel
theorem dL_law_255 : decode cL_law 255 = .ok (.ireturn, 1) := by decide +kernel
theorem dL_law_256 : decode cL_law 256 = .ok (.iload 5, 2) := by decide +kernel
theorem dL_law_258 : decode cL_law 258 = .ok (.ifCond .ne 15, 3) := by decide +kernel
theorem dL_law_261 : decode cL_law 261 = .ok (.aload_n 3, 1) := by decide +kernel
theorem dL_law_262 : decode cL_law 262 = .ok (.iconst 0, 1) := by decide +kernel
theorem dL_law_263 : decode cL_law 263 = .ok (.laload, 1) := by decide +kernel
theorem dL_law_264 : decode cL_law 264 = .ok (.iload 6, 2) := by decide +kernel
theorem dL_law_266 : decode cL_law 266 = .ok (.i2l, 1) := by decide +kernel
theorem dL_law_267 : decode cL_law 267 = .ok (.lcmp, 1) := by decide +kernel
theorem dL_law_268 : decode cL_law 268 = .ok (.ifCond .eq 5, 3) := by decide +kernel
theorem dL_law_271 : decode cL_law 271 = .ok (.iconst 0, 1) := by decide +kernel
theorem dL_law_272 : decode cL_law 272 = .ok (.ireturn, 1) := by decide +kernel
theorem dL_law_273 : decode cL_law 273 = .ok (.goto 1143, 3) := by decide +kernel
theorem dL_law_276 : decode cL_law 276 = .ok (.aload_n 1, 1) := by decide +kernel
theorem dL_law_277 : decode cL_law 277 = .ok (.aload_n 0, 1) := by decide +kernel
theorem dL_law_278 : decode cL_law 278 = .ok (.iload 4, 2) := by decide +kernel
theorem dL_law_280 : decode cL_law 280 = .ok (.iconst 1, 1) := by decide +kernel
theorem dL_law_281 : decode cL_law 281 = .ok (.iadd, 1) := by decide +kernel
theorem dL_law_282 : decode cL_law 282 = .ok (.iaload, 1) := by decide +kernel
theorem dL_law_283 : decode cL_law 283 = .ok (.aload_n 0, 1) := by decide +kernel
theorem dL_law_284 : decode cL_law 284 = .ok (.iload 4, 2) := by decide +kernel
theorem dL_law_286 : decode cL_law 286 = .ok (.iconst 2, 1) := by decide +kernel
theorem dL_law_287 : decode cL_law 287 = .ok (.iadd, 1) := by decide +kernel
theorem dL_law_288 : decode cL_law 288 = .ok (.iaload, 1) := by decide +kernel
theorem dL_law_289 : decode cL_law 289 = .ok (.aload_n 3, 1) := by decide +kernel
theorem dL_law_290 : decode cL_law 290 = .ok (.invokestatic 92, 3) := by decide +kernel
theorem dL_law_293 : decode cL_law 293 = .ok (.istore 5, 2) := by decide +kernel
theorem dL_law_295 : decode cL_law 295 = .ok (.aload_n 2, 1) := by decide +kernel
theorem dL_law_296 : decode cL_law 296 = .ok (.aload_n 0, 1) := by decide +kernel
theorem dL_law_297 : decode cL_law 297 = .ok (.iload 4, 2) := by decide +kernel
theorem dL_law_299 : decode cL_law 299 = .ok (.iconst 1, 1) := by decide +kernel
theorem dL_law_300 : decode cL_law 300 = .ok (.iadd, 1) := by decide +kernel
theorem dL_law_301 : decode cL_law 301 = .ok (.iaload, 1) := by decide +kernel
theorem dL_law_302 : decode cL_law 302 = .ok (.aload_n 0, 1) := by decide +kernel
theorem dL_law_303 : decode cL_law 303 = .ok (.iload 4, 2) := by decide +kernel
theorem dL_law_305 : decode cL_law 305 = .ok (.iconst 2, 1) := by decide +kernel
theorem dL_law_306 : decode cL_law 306 = .ok (.iadd, 1) := by decide +kernel
theorem dL_law_307 : decode cL_law 307 = .ok (.iaload, 1) := by decide +kernel
theorem dL_law_308 : decode cL_law 308 = .ok (.invokevirtual 94, 3) := by decide +kernel
theorem dL_law_311 : decode cL_law 311 = .ok (.istore 6, 2) := by decide +kernel
theorem dL_law_313 : decode cL_law 313 = .ok (.aload_n 2, 1) := by decide +kernel
theorem dL_law_314 : decode cL_law 314 = .ok (.invokevirtual 85, 3) := by decide +kernel
theorem dL_law_317 : decode cL_law 317 = .ok (.iload 5, 2) := by decide +kernel
theorem dL_law_319 : decode cL_law 319 = .ok (.if_icmp .eq 5, 3) := by decide +kernel
theorem dL_law_322 : decode cL_law 322 = .ok (.iconst 0, 1) := by decide +kernel
theorem dL_law_323 : decode cL_law 323 = .ok (.ireturn, 1) := by decide +kernel
theorem dL_law_324 : decode cL_law 324 = .ok (.iload 5, 2) := by decide +kernel
theorem dL_law_326 : decode cL_law 326 = .ok (.ifCond .ne 15, 3) := by decide +kernel
theorem dL_law_329 : decode cL_law 329 = .ok (.aload_n 3, 1) := by decide +kernel
theorem dL_law_330 : decode cL_law 330 = .ok (.iconst 0, 1) := by decide +kernel
theorem dL_law_331 : decode cL_law 331 = .ok (.laload, 1) := by decide +kernel
theorem dL_law_332 : decode cL_law 332 = .ok (.iload 6, 2) := by decide +kernel
theorem dL_law_334 : decode cL_law 334 = .ok (.i2l, 1) := by decide +kernel
theorem dL_law_335 : decode cL_law 335 = .ok (.lcmp, 1) := by decide +kernel
theorem dL_law_336 : decode cL_law 336 = .ok (.ifCond .eq 5, 3) := by decide +kernel
theorem dL_law_339 : decode cL_law 339 = .ok (.iconst 0, 1) := by decide +kernel
theorem dL_law_340 : decode cL_law 340 = .ok (.ireturn, 1) := by decide +kernel
theorem dL_law_341 : decode cL_law 341 = .ok (.goto 1075, 3) := by decide +kernel
theorem dL_law_344 : decode cL_law 344 = .ok (.aload_n 1, 1) := by decide +kernel
theorem dL_law_345 : decode cL_law 345 = .ok (.aload_n 0, 1) := by decide +kernel
theorem dL_law_346 : decode cL_law 346 = .ok (.iload 4, 2) := by decide +kernel
theorem dL_law_348 : decode cL_law 348 = .ok (.iconst 1, 1) := by decide +kernel
theorem dL_law_349 : decode cL_law 349 = .ok (.iadd, 1) := by decide +kernel
theorem dL_law_350 : decode cL_law 350 = .ok (.iaload, 1) := by decide +kernel
theorem dL_law_351 : decode cL_law 351 = .ok (.aload_n 3, 1) := by decide +kernel
theorem dL_law_352 : decode cL_law 352 = .ok (.invokestatic 95, 3) := by decide +kernel
theorem dL_law_355 : decode cL_law 355 = .ok (.istore 5, 2) := by decide +kernel
theorem dL_law_357 : decode cL_law 357 = .ok (.aload_n 2, 1) := by decide +kernel
theorem dL_law_358 : decode cL_law 358 = .ok (.aload_n 0, 1) := by decide +kernel
theorem dL_law_359 : decode cL_law 359 = .ok (.iload 4, 2) := by decide +kernel
theorem dL_law_361 : decode cL_law 361 = .ok (.iconst 1, 1) := by decide +kernel
theorem dL_law_362 : decode cL_law 362 = .ok (.iadd, 1) := by decide +kernel
theorem dL_law_363 : decode cL_law 363 = .ok (.iaload, 1) := by decide +kernel
theorem dL_law_364 : decode cL_law 364 = .ok (.invokevirtual 98, 3) := by decide +kernel
theorem dL_law_367 : decode cL_law 367 = .ok (.istore 6, 2) := by decide +kernel
theorem dL_law_369 : decode cL_law 369 = .ok (.aload_n 2, 1) := by decide +kernel
theorem dL_law_370 : decode cL_law 370 = .ok (.invokevirtual 85, 3) := by decide +kernel
theorem dL_law_373 : decode cL_law 373 = .ok (.iload 5, 2) := by decide +kernel
theorem dL_law_375 : decode cL_law 375 = .ok (.if_icmp .eq 5, 3) := by decide +kernel
theorem dL_law_378 : decode cL_law 378 = .ok (.iconst 0, 1) := by decide +kernel
theorem dL_law_379 : decode cL_law 379 = .ok (.ireturn, 1) := by decide +kernel
theorem dL_law_380 : decode cL_law 380 = .ok (.iload 5, 2) := by decide +kernel
theorem dL_law_382 : decode cL_law 382 = .ok (.ifCond .ne 15, 3) := by decide +kernel
theorem dL_law_385 : decode cL_law 385 = .ok (.aload_n 3, 1) := by decide +kernel
theorem dL_law_386 : decode cL_law 386 = .ok (.iconst 0, 1) := by decide +kernel
theorem dL_law_387 : decode cL_law 387 = .ok (.laload, 1) := by decide +kernel
theorem dL_law_388 : decode cL_law 388 = .ok (.iload 6, 2) := by decide +kernel
theorem dL_law_390 : decode cL_law 390 = .ok (.i2l, 1) := by decide +kernel
theorem dL_law_391 : decode cL_law 391 = .ok (.lcmp, 1) := by decide +kernel
theorem dL_law_392 : decode cL_law 392 = .ok (.ifCond .eq 5, 3) := by decide +kernel
theorem dL_law_395 : decode cL_law 395 = .ok (.iconst 0, 1) := by decide +kernel
theorem dL_law_396 : decode cL_law 396 = .ok (.ireturn, 1) := by decide +kernel
theorem dL_law_397 : decode cL_law 397 = .ok (.goto 1019, 3) := by decide +kernel
theorem dL_law_400 : decode cL_law 400 = .ok (.aload_n 1, 1) := by decide +kernel
theorem dL_law_401 : decode cL_law 401 = .ok (.invokevirtual 99, 3) := by decide +kernel
theorem dL_law_404 : decode cL_law 404 = .ok (.aload_n 2, 1) := by decide +kernel
theorem dL_law_405 : decode cL_law 405 = .ok (.invokevirtual 102, 3) := by decide +kernel
theorem dL_law_408 : decode cL_law 408 = .ok (.if_icmp .eq 1008, 3) := by decide +kernel
theorem dL_law_411 : decode cL_law 411 = .ok (.iconst 0, 1) := by decide +kernel
theorem dL_law_412 : decode cL_law 412 = .ok (.ireturn, 1) := by decide +kernel
theorem dL_law_413 : decode cL_law 413 = .ok (.aload_n 1, 1) := by decide +kernel
theorem dL_law_414 : decode cL_law 414 = .ok (.aload_n 0, 1) := by decide +kernel
theorem dL_law_415 : decode cL_law 415 = .ok (.iload 4, 2) := by decide +kernel
theorem dL_law_417 : decode cL_law 417 = .ok (.iconst 1, 1) := by decide +kernel
theorem dL_law_418 : decode cL_law 418 = .ok (.iadd, 1) := by decide +kernel
theorem dL_law_419 : decode cL_law 419 = .ok (.iaload, 1) := by decide +kernel
theorem dL_law_420 : decode cL_law 420 = .ok (.aload_n 0, 1) := by decide +kernel
theorem dL_law_421 : decode cL_law 421 = .ok (.iload 4, 2) := by decide +kernel
theorem dL_law_423 : decode cL_law 423 = .ok (.iconst 2, 1) := by decide +kernel
theorem dL_law_424 : decode cL_law 424 = .ok (.iadd, 1) := by decide +kernel
theorem dL_law_425 : decode cL_law 425 = .ok (.iaload, 1) := by decide +kernel
theorem dL_law_426 : decode cL_law 426 = .ok (.aload_n 3, 1) := by decide +kernel
theorem dL_law_427 : decode cL_law 427 = .ok (.invokestatic 103, 3) := by decide +kernel
theorem dL_law_430 : decode cL_law 430 = .ok (.istore 5, 2) := by decide +kernel
theorem dL_law_432 : decode cL_law 432 = .ok (.aload_n 2, 1) := by decide +kernel
theorem dL_law_433 : decode cL_law 433 = .ok (.aload_n 0, 1) := by decide +kernel
theorem dL_law_434 : decode cL_law 434 = .ok (.iload 4, 2) := by decide +kernel
theorem dL_law_436 : decode cL_law 436 = .ok (.iconst 1, 1) := by decide +kernel
theorem dL_law_437 : decode cL_law 437 = .ok (.iadd, 1) := by decide +kernel
theorem dL_law_438 : decode cL_law 438 = .ok (.iaload, 1) := by decide +kernel
theorem dL_law_439 : decode cL_law 439 = .ok (.aload_n 0, 1) := by decide +kernel
theorem dL_law_440 : decode cL_law 440 = .ok (.iload 4, 2) := by decide +kernel
theorem dL_law_442 : decode cL_law 442 = .ok (.iconst 2, 1) := by decide +kernel
theorem dL_law_443 : decode cL_law 443 = .ok (.iadd, 1) := by decide +kernel
theorem dL_law_444 : decode cL_law 444 = .ok (.iaload, 1) := by decide +kernel
theorem dL_law_445 : decode cL_law 445 = .ok (.invokevirtual 105, 3) := by decide +kernel
theorem dL_law_448 : decode cL_law 448 = .ok (.istore 6, 2) := by decide +kernel
theorem dL_law_450 : decode cL_law 450 = .ok (.aload_n 2, 1) := by decide +kernel
theorem dL_law_451 : decode cL_law 451 = .ok (.invokevirtual 85, 3) := by decide +kernel
theorem dL_law_454 : decode cL_law 454 = .ok (.iload 5, 2) := by decide +kernel
theorem dL_law_456 : decode cL_law 456 = .ok (.if_icmp .eq 5, 3) := by decide +kernel
theorem dL_law_459 : decode cL_law 459 = .ok (.iconst 0, 1) := by decide +kernel
theorem dL_law_460 : decode cL_law 460 = .ok (.ireturn, 1) := by decide +kernel
theorem dL_law_461 : decode cL_law 461 = .ok (.iload 5, 2) := by decide +kernel
theorem dL_law_463 : decode cL_law 463 = .ok (.ifCond .ne 15, 3) := by decide +kernel
theorem dL_law_466 : decode cL_law 466 = .ok (.aload_n 3, 1) := by decide +kernel
theorem dL_law_467 : decode cL_law 467 = .ok (.iconst 0, 1) := by decide +kernel
theorem dL_law_468 : decode cL_law 468 = .ok (.laload, 1) := by decide +kernel
theorem dL_law_469 : decode cL_law 469 = .ok (.iload 6, 2) := by decide +kernel
theorem dL_law_471 : decode cL_law 471 = .ok (.i2l, 1) := by decide +kernel
theorem dL_law_472 : decode cL_law 472 = .ok (.lcmp, 1) := by decide +kernel
theorem dL_law_473 : decode cL_law 473 = .ok (.ifCond .eq 5, 3) := by decide +kernel
theorem dL_law_476 : decode cL_law 476 = .ok (.iconst 0, 1) := by decide +kernel
theorem dL_law_477 : decode cL_law 477 = .ok (.ireturn, 1) := by decide +kernel
theorem dL_law_478 : decode cL_law 478 = .ok (.goto 938, 3) := by decide +kernel
theorem dL_law_481 : decode cL_law 481 = .ok (.aload_n 1, 1) := by decide +kernel
theorem dL_law_482 : decode cL_law 482 = .ok (.aload_n 0, 1) := by decide +kernel
theorem dL_law_483 : decode cL_law 483 = .ok (.iload 4, 2) := by decide +kernel
theorem dL_law_485 : decode cL_law 485 = .ok (.iconst 1, 1) := by decide +kernel
theorem dL_law_486 : decode cL_law 486 = .ok (.iadd, 1) := by decide +kernel
theorem dL_law_487 : decode cL_law 487 = .ok (.iaload, 1) := by decide +kernel
theorem dL_law_488 : decode cL_law 488 = .ok (.aload_n 3, 1) := by decide +kernel
theorem dL_law_489 : decode cL_law 489 = .ok (.invokestatic 106, 3) := by decide +kernel
theorem dL_law_492 : decode cL_law 492 = .ok (.istore 5, 2) := by decide +kernel
theorem dL_law_494 : decode cL_law 494 = .ok (.aload_n 2, 1) := by decide +kernel
theorem dL_law_495 : decode cL_law 495 = .ok (.aload_n 0, 1) := by decide +kernel
theorem dL_law_496 : decode cL_law 496 = .ok (.iload 4, 2) := by decide +kernel
theorem dL_law_498 : decode cL_law 498 = .ok (.iconst 1, 1) := by decide +kernel
theorem dL_law_499 : decode cL_law 499 = .ok (.iadd, 1) := by decide +kernel
theorem dL_law_500 : decode cL_law 500 = .ok (.iaload, 1) := by decide +kernel
theorem dL_law_501 : decode cL_law 501 = .ok (.invokevirtual 108, 3) := by decide +kernel
theorem dL_law_504 : decode cL_law 504 = .ok (.istore 6, 2) := by decide +kernel
theorem dL_law_506 : decode cL_law 506 = .ok (.aload_n 2, 1) := by decide +kernel
theorem dL_law_507 : decode cL_law 507 = .ok (.invokevirtual 85, 3) := by decide +kernel
theorem dL_law_510 : decode cL_law 510 = .ok (.iload 5, 2) := by decide +kernel
theorem dL_law_512 : decode cL_law 512 = .ok (.if_icmp .eq 5, 3) := by decide +kernel
theorem dL_law_515 : decode cL_law 515 = .ok (.iconst 0, 1) := by decide +kernel
theorem dL_law_516 : decode cL_law 516 = .ok (.ireturn, 1) := by decide +kernel
theorem dL_law_517 : decode cL_law 517 = .ok (.iload 5, 2) := by decide +kernel
theorem dL_law_519 : decode cL_law 519 = .ok (.ifCond .ne 15, 3) := by decide +kernel
theorem dL_law_522 : decode cL_law 522 = .ok (.aload_n 3, 1) := by decide +kernel
theorem dL_law_523 : decode cL_law 523 = .ok (.iconst 0, 1) := by decide +kernel
theorem dL_law_524 : decode cL_law 524 = .ok (.laload, 1) := by decide +kernel
theorem dL_law_525 : decode cL_law 525 = .ok (.iload 6, 2) := by decide +kernel
theorem dL_law_527 : decode cL_law 527 = .ok (.i2l, 1) := by decide +kernel
theorem dL_law_528 : decode cL_law 528 = .ok (.lcmp, 1) := by decide +kernel
theorem dL_law_529 : decode cL_law 529 = .ok (.ifCond .eq 5, 3) := by decide +kernel
theorem dL_law_532 : decode cL_law 532 = .ok (.iconst 0, 1) := by decide +kernel
theorem dL_law_533 : decode cL_law 533 = .ok (.ireturn, 1) := by decide +kernel
theorem dL_law_534 : decode cL_law 534 = .ok (.goto 882, 3) := by decide +kernel
theorem dL_law_537 : decode cL_law 537 = .ok (.aload_n 1, 1) := by decide +kernel
theorem dL_law_538 : decode cL_law 538 = .ok (.aload_n 0, 1) := by decide +kernel
theorem dL_law_539 : decode cL_law 539 = .ok (.iload 4, 2) := by decide +kernel
theorem dL_law_541 : decode cL_law 541 = .ok (.iconst 1, 1) := by decide +kernel
theorem dL_law_542 : decode cL_law 542 = .ok (.iadd, 1) := by decide +kernel
theorem dL_law_543 : decode cL_law 543 = .ok (.iaload, 1) := by decide +kernel
theorem dL_law_544 : decode cL_law 544 = .ok (.aload_n 0, 1) := by decide +kernel
theorem dL_law_545 : decode cL_law 545 = .ok (.iload 4, 2) := by decide +kernel
theorem dL_law_547 : decode cL_law 547 = .ok (.iconst 2, 1) := by decide +kernel
theorem dL_law_548 : decode cL_law 548 = .ok (.iadd, 1) := by decide +kernel
theorem dL_law_549 : decode cL_law 549 = .ok (.iaload, 1) := by decide +kernel
theorem dL_law_550 : decode cL_law 550 = .ok (.aload_n 3, 1) := by decide +kernel
theorem dL_law_551 : decode cL_law 551 = .ok (.invokestatic 109, 3) := by decide +kernel
theorem dL_law_554 : decode cL_law 554 = .ok (.istore 5, 2) := by decide +kernel
theorem dL_law_556 : decode cL_law 556 = .ok (.aload_n 2, 1) := by decide +kernel
theorem dL_law_557 : decode cL_law 557 = .ok (.aload_n 0, 1) := by decide +kernel
theorem dL_law_558 : decode cL_law 558 = .ok (.iload 4, 2) := by decide +kernel
theorem dL_law_560 : decode cL_law 560 = .ok (.iconst 1, 1) := by decide +kernel
theorem dL_law_561 : decode cL_law 561 = .ok (.iadd, 1) := by decide +kernel
theorem dL_law_562 : decode cL_law 562 = .ok (.iaload, 1) := by decide +kernel
theorem dL_law_563 : decode cL_law 563 = .ok (.aload_n 0, 1) := by decide +kernel
theorem dL_law_564 : decode cL_law 564 = .ok (.iload 4, 2) := by decide +kernel
theorem dL_law_566 : decode cL_law 566 = .ok (.iconst 2, 1) := by decide +kernel
theorem dL_law_567 : decode cL_law 567 = .ok (.iadd, 1) := by decide +kernel
theorem dL_law_568 : decode cL_law 568 = .ok (.iaload, 1) := by decide +kernel
theorem dL_law_569 : decode cL_law 569 = .ok (.invokevirtual 111, 3) := by decide +kernel
theorem dL_law_572 : decode cL_law 572 = .ok (.istore 6, 2) := by decide +kernel
theorem dL_law_574 : decode cL_law 574 = .ok (.aload_n 2, 1) := by decide +kernel
theorem dL_law_575 : decode cL_law 575 = .ok (.invokevirtual 85, 3) := by decide +kernel
theorem dL_law_578 : decode cL_law 578 = .ok (.iload 5, 2) := by decide +kernel
theorem dL_law_580 : decode cL_law 580 = .ok (.if_icmp .eq 5, 3) := by decide +kernel
theorem dL_law_583 : decode cL_law 583 = .ok (.iconst 0, 1) := by decide +kernel
theorem dL_law_584 : decode cL_law 584 = .ok (.ireturn, 1) := by decide +kernel
theorem dL_law_585 : decode cL_law 585 = .ok (.iload 5, 2) := by decide +kernel
theorem dL_law_587 : decode cL_law 587 = .ok (.ifCond .ne 15, 3) := by decide +kernel
theorem dL_law_590 : decode cL_law 590 = .ok (.aload_n 3, 1) := by decide +kernel
theorem dL_law_591 : decode cL_law 591 = .ok (.iconst 0, 1) := by decide +kernel
theorem dL_law_592 : decode cL_law 592 = .ok (.laload, 1) := by decide +kernel
theorem dL_law_593 : decode cL_law 593 = .ok (.iload 6, 2) := by decide +kernel
theorem dL_law_595 : decode cL_law 595 = .ok (.i2l, 1) := by decide +kernel
theorem dL_law_596 : decode cL_law 596 = .ok (.lcmp, 1) := by decide +kernel
theorem dL_law_597 : decode cL_law 597 = .ok (.ifCond .eq 5, 3) := by decide +kernel
theorem dL_law_600 : decode cL_law 600 = .ok (.iconst 0, 1) := by decide +kernel
theorem dL_law_601 : decode cL_law 601 = .ok (.ireturn, 1) := by decide +kernel
theorem dL_law_602 : decode cL_law 602 = .ok (.goto 814, 3) := by decide +kernel
theorem dL_law_605 : decode cL_law 605 = .ok (.aload_n 1, 1) := by decide +kernel
theorem dL_law_606 : decode cL_law 606 = .ok (.aload_n 0, 1) := by decide +kernel
theorem dL_law_607 : decode cL_law 607 = .ok (.iload 4, 2) := by decide +kernel
theorem dL_law_609 : decode cL_law 609 = .ok (.iconst 1, 1) := by decide +kernel
theorem dL_law_610 : decode cL_law 610 = .ok (.iadd, 1) := by decide +kernel
theorem dL_law_611 : decode cL_law 611 = .ok (.iaload, 1) := by decide +kernel
theorem dL_law_612 : decode cL_law 612 = .ok (.aload_n 0, 1) := by decide +kernel
theorem dL_law_613 : decode cL_law 613 = .ok (.iload 4, 2) := by decide +kernel
theorem dL_law_615 : decode cL_law 615 = .ok (.iconst 2, 1) := by decide +kernel
theorem dL_law_616 : decode cL_law 616 = .ok (.iadd, 1) := by decide +kernel
theorem dL_law_617 : decode cL_law 617 = .ok (.iaload, 1) := by decide +kernel
theorem dL_law_618 : decode cL_law 618 = .ok (.aload_n 3, 1) := by decide +kernel
theorem dL_law_619 : decode cL_law 619 = .ok (.invokestatic 112, 3) := by decide +kernel
theorem dL_law_622 : decode cL_law 622 = .ok (.istore 5, 2) := by decide +kernel
theorem dL_law_624 : decode cL_law 624 = .ok (.aload_n 2, 1) := by decide +kernel
theorem dL_law_625 : decode cL_law 625 = .ok (.aload_n 0, 1) := by decide +kernel
theorem dL_law_626 : decode cL_law 626 = .ok (.iload 4, 2) := by decide +kernel
theorem dL_law_628 : decode cL_law 628 = .ok (.iconst 1, 1) := by decide +kernel
theorem dL_law_629 : decode cL_law 629 = .ok (.iadd, 1) := by decide +kernel
theorem dL_law_630 : decode cL_law 630 = .ok (.iaload, 1) := by decide +kernel
theorem dL_law_631 : decode cL_law 631 = .ok (.aload_n 0, 1) := by decide +kernel
theorem dL_law_632 : decode cL_law 632 = .ok (.iload 4, 2) := by decide +kernel
theorem dL_law_634 : decode cL_law 634 = .ok (.iconst 2, 1) := by decide +kernel
theorem dL_law_635 : decode cL_law 635 = .ok (.iadd, 1) := by decide +kernel
theorem dL_law_636 : decode cL_law 636 = .ok (.iaload, 1) := by decide +kernel
theorem dL_law_637 : decode cL_law 637 = .ok (.invokevirtual 114, 3) := by decide +kernel
theorem dL_law_640 : decode cL_law 640 = .ok (.istore 6, 2) := by decide +kernel
theorem dL_law_642 : decode cL_law 642 = .ok (.aload_n 2, 1) := by decide +kernel
theorem dL_law_643 : decode cL_law 643 = .ok (.invokevirtual 85, 3) := by decide +kernel
theorem dL_law_646 : decode cL_law 646 = .ok (.iload 5, 2) := by decide +kernel
theorem dL_law_648 : decode cL_law 648 = .ok (.if_icmp .eq 5, 3) := by decide +kernel
theorem dL_law_651 : decode cL_law 651 = .ok (.iconst 0, 1) := by decide +kernel
theorem dL_law_652 : decode cL_law 652 = .ok (.ireturn, 1) := by decide +kernel
theorem dL_law_653 : decode cL_law 653 = .ok (.iload 5, 2) := by decide +kernel
theorem dL_law_655 : decode cL_law 655 = .ok (.ifCond .ne 15, 3) := by decide +kernel
theorem dL_law_658 : decode cL_law 658 = .ok (.aload_n 3, 1) := by decide +kernel
theorem dL_law_659 : decode cL_law 659 = .ok (.iconst 0, 1) := by decide +kernel
theorem dL_law_660 : decode cL_law 660 = .ok (.laload, 1) := by decide +kernel
theorem dL_law_661 : decode cL_law 661 = .ok (.iload 6, 2) := by decide +kernel
theorem dL_law_663 : decode cL_law 663 = .ok (.i2l, 1) := by decide +kernel
theorem dL_law_664 : decode cL_law 664 = .ok (.lcmp, 1) := by decide +kernel
theorem dL_law_665 : decode cL_law 665 = .ok (.ifCond .eq 5, 3) := by decide +kernel
theorem dL_law_668 : decode cL_law 668 = .ok (.iconst 0, 1) := by decide +kernel
theorem dL_law_669 : decode cL_law 669 = .ok (.ireturn, 1) := by decide +kernel
theorem dL_law_670 : decode cL_law 670 = .ok (.goto 746, 3) := by decide +kernel
theorem dL_law_673 : decode cL_law 673 = .ok (.aload_n 1, 1) := by decide +kernel
theorem dL_law_674 : decode cL_law 674 = .ok (.aload_n 0, 1) := by decide +kernel
theorem dL_law_675 : decode cL_law 675 = .ok (.iload 4, 2) := by decide +kernel
theorem dL_law_677 : decode cL_law 677 = .ok (.iconst 1, 1) := by decide +kernel
theorem dL_law_678 : decode cL_law 678 = .ok (.iadd, 1) := by decide +kernel
theorem dL_law_679 : decode cL_law 679 = .ok (.iaload, 1) := by decide +kernel
theorem dL_law_680 : decode cL_law 680 = .ok (.aload_n 0, 1) := by decide +kernel
theorem dL_law_681 : decode cL_law 681 = .ok (.iload 4, 2) := by decide +kernel
theorem dL_law_683 : decode cL_law 683 = .ok (.iconst 2, 1) := by decide +kernel
theorem dL_law_684 : decode cL_law 684 = .ok (.iadd, 1) := by decide +kernel
theorem dL_law_685 : decode cL_law 685 = .ok (.iaload, 1) := by decide +kernel
theorem dL_law_686 : decode cL_law 686 = .ok (.aload_n 0, 1) := by decide +kernel
theorem dL_law_687 : decode cL_law 687 = .ok (.iload 4, 2) := by decide +kernel
theorem dL_law_689 : decode cL_law 689 = .ok (.iconst 3, 1) := by decide +kernel
theorem dL_law_690 : decode cL_law 690 = .ok (.iadd, 1) := by decide +kernel
theorem dL_law_691 : decode cL_law 691 = .ok (.iaload, 1) := by decide +kernel
theorem dL_law_692 : decode cL_law 692 = .ok (.aload_n 3, 1) := by decide +kernel
theorem dL_law_693 : decode cL_law 693 = .ok (.invokestatic 115, 3) := by decide +kernel
theorem dL_law_696 : decode cL_law 696 = .ok (.istore 5, 2) := by decide +kernel
theorem dL_law_698 : decode cL_law 698 = .ok (.aload_n 2, 1) := by decide +kernel
theorem dL_law_699 : decode cL_law 699 = .ok (.aload_n 0, 1) := by decide +kernel
theorem dL_law_700 : decode cL_law 700 = .ok (.iload 4, 2) := by decide +kernel
theorem dL_law_702 : decode cL_law 702 = .ok (.iconst 1, 1) := by decide +kernel
theorem dL_law_703 : decode cL_law 703 = .ok (.iadd, 1) := by decide +kernel
theorem dL_law_704 : decode cL_law 704 = .ok (.iaload, 1) := by decide +kernel
theorem dL_law_705 : decode cL_law 705 = .ok (.aload_n 0, 1) := by decide +kernel
theorem dL_law_706 : decode cL_law 706 = .ok (.iload 4, 2) := by decide +kernel
theorem dL_law_708 : decode cL_law 708 = .ok (.iconst 2, 1) := by decide +kernel
theorem dL_law_709 : decode cL_law 709 = .ok (.iadd, 1) := by decide +kernel
theorem dL_law_710 : decode cL_law 710 = .ok (.iaload, 1) := by decide +kernel
theorem dL_law_711 : decode cL_law 711 = .ok (.aload_n 0, 1) := by decide +kernel
theorem dL_law_712 : decode cL_law 712 = .ok (.iload 4, 2) := by decide +kernel
theorem dL_law_714 : decode cL_law 714 = .ok (.iconst 3, 1) := by decide +kernel
theorem dL_law_715 : decode cL_law 715 = .ok (.iadd, 1) := by decide +kernel
theorem dL_law_716 : decode cL_law 716 = .ok (.iaload, 1) := by decide +kernel
theorem dL_law_717 : decode cL_law 717 = .ok (.invokevirtual 118, 3) := by decide +kernel
theorem dL_law_720 : decode cL_law 720 = .ok (.istore 6, 2) := by decide +kernel
theorem dL_law_722 : decode cL_law 722 = .ok (.aload_n 2, 1) := by decide +kernel
theorem dL_law_723 : decode cL_law 723 = .ok (.invokevirtual 85, 3) := by decide +kernel
theorem dL_law_726 : decode cL_law 726 = .ok (.iload 5, 2) := by decide +kernel
theorem dL_law_728 : decode cL_law 728 = .ok (.if_icmp .eq 5, 3) := by decide +kernel
theorem dL_law_731 : decode cL_law 731 = .ok (.iconst 0, 1) := by decide +kernel
theorem dL_law_732 : decode cL_law 732 = .ok (.ireturn, 1) := by decide +kernel
theorem dL_law_733 : decode cL_law 733 = .ok (.iload 5, 2) := by decide +kernel
theorem dL_law_735 : decode cL_law 735 = .ok (.ifCond .ne 15, 3) := by decide +kernel
theorem dL_law_738 : decode cL_law 738 = .ok (.aload_n 3, 1) := by decide +kernel
theorem dL_law_739 : decode cL_law 739 = .ok (.iconst 0, 1) := by decide +kernel
theorem dL_law_740 : decode cL_law 740 = .ok (.laload, 1) := by decide +kernel
theorem dL_law_741 : decode cL_law 741 = .ok (.iload 6, 2) := by decide +kernel
theorem dL_law_743 : decode cL_law 743 = .ok (.i2l, 1) := by decide +kernel
theorem dL_law_744 : decode cL_law 744 = .ok (.lcmp, 1) := by decide +kernel
theorem dL_law_745 : decode cL_law 745 = .ok (.ifCond .eq 5, 3) := by decide +kernel
theorem dL_law_748 : decode cL_law 748 = .ok (.iconst 0, 1) := by decide +kernel
theorem dL_law_749 : decode cL_law 749 = .ok (.ireturn, 1) := by decide +kernel
theorem dL_law_750 : decode cL_law 750 = .ok (.goto 666, 3) := by decide +kernel
theorem dL_law_753 : decode cL_law 753 = .ok (.aload_n 1, 1) := by decide +kernel
theorem dL_law_754 : decode cL_law 754 = .ok (.aload_n 0, 1) := by decide +kernel
theorem dL_law_755 : decode cL_law 755 = .ok (.iload 4, 2) := by decide +kernel
theorem dL_law_757 : decode cL_law 757 = .ok (.iconst 1, 1) := by decide +kernel
theorem dL_law_758 : decode cL_law 758 = .ok (.iadd, 1) := by decide +kernel
theorem dL_law_759 : decode cL_law 759 = .ok (.iaload, 1) := by decide +kernel
theorem dL_law_760 : decode cL_law 760 = .ok (.aload_n 0, 1) := by decide +kernel
theorem dL_law_761 : decode cL_law 761 = .ok (.iload 4, 2) := by decide +kernel
theorem dL_law_763 : decode cL_law 763 = .ok (.iconst 2, 1) := by decide +kernel
theorem dL_law_764 : decode cL_law 764 = .ok (.iadd, 1) := by decide +kernel
theorem dL_law_765 : decode cL_law 765 = .ok (.iaload, 1) := by decide +kernel
theorem dL_law_766 : decode cL_law 766 = .ok (.aload_n 3, 1) := by decide +kernel
theorem dL_law_767 : decode cL_law 767 = .ok (.invokestatic 119, 3) := by decide +kernel
theorem dL_law_770 : decode cL_law 770 = .ok (.istore 5, 2) := by decide +kernel
theorem dL_law_772 : decode cL_law 772 = .ok (.aload_n 2, 1) := by decide +kernel
theorem dL_law_773 : decode cL_law 773 = .ok (.aload_n 0, 1) := by decide +kernel
theorem dL_law_774 : decode cL_law 774 = .ok (.iload 4, 2) := by decide +kernel
theorem dL_law_776 : decode cL_law 776 = .ok (.iconst 1, 1) := by decide +kernel
theorem dL_law_777 : decode cL_law 777 = .ok (.iadd, 1) := by decide +kernel
theorem dL_law_778 : decode cL_law 778 = .ok (.iaload, 1) := by decide +kernel
theorem dL_law_779 : decode cL_law 779 = .ok (.aload_n 0, 1) := by decide +kernel
theorem dL_law_780 : decode cL_law 780 = .ok (.iload 4, 2) := by decide +kernel
theorem dL_law_782 : decode cL_law 782 = .ok (.iconst 2, 1) := by decide +kernel
theorem dL_law_783 : decode cL_law 783 = .ok (.iadd, 1) := by decide +kernel
theorem dL_law_784 : decode cL_law 784 = .ok (.iaload, 1) := by decide +kernel
theorem dL_law_785 : decode cL_law 785 = .ok (.invokevirtual 121, 3) := by decide +kernel
theorem dL_law_788 : decode cL_law 788 = .ok (.istore 6, 2) := by decide +kernel
theorem dL_law_790 : decode cL_law 790 = .ok (.aload_n 2, 1) := by decide +kernel
theorem dL_law_791 : decode cL_law 791 = .ok (.invokevirtual 85, 3) := by decide +kernel
theorem dL_law_794 : decode cL_law 794 = .ok (.iload 5, 2) := by decide +kernel
theorem dL_law_796 : decode cL_law 796 = .ok (.if_icmp .eq 5, 3) := by decide +kernel
theorem dL_law_799 : decode cL_law 799 = .ok (.iconst 0, 1) := by decide +kernel
theorem dL_law_800 : decode cL_law 800 = .ok (.ireturn, 1) := by decide +kernel
theorem dL_law_801 : decode cL_law 801 = .ok (.iload 5, 2) := by decide +kernel
theorem dL_law_803 : decode cL_law 803 = .ok (.ifCond .ne 15, 3) := by decide +kernel
theorem dL_law_806 : decode cL_law 806 = .ok (.aload_n 3, 1) := by decide +kernel
theorem dL_law_807 : decode cL_law 807 = .ok (.iconst 0, 1) := by decide +kernel
theorem dL_law_808 : decode cL_law 808 = .ok (.laload, 1) := by decide +kernel
theorem dL_law_809 : decode cL_law 809 = .ok (.iload 6, 2) := by decide +kernel
theorem dL_law_811 : decode cL_law 811 = .ok (.i2l, 1) := by decide +kernel
theorem dL_law_812 : decode cL_law 812 = .ok (.lcmp, 1) := by decide +kernel
theorem dL_law_813 : decode cL_law 813 = .ok (.ifCond .eq 5, 3) := by decide +kernel
theorem dL_law_816 : decode cL_law 816 = .ok (.iconst 0, 1) := by decide +kernel
theorem dL_law_817 : decode cL_law 817 = .ok (.ireturn, 1) := by decide +kernel
theorem dL_law_818 : decode cL_law 818 = .ok (.goto 598, 3) := by decide +kernel
theorem dL_law_821 : decode cL_law 821 = .ok (.aload_n 1, 1) := by decide +kernel
theorem dL_law_822 : decode cL_law 822 = .ok (.aload_n 0, 1) := by decide +kernel
theorem dL_law_823 : decode cL_law 823 = .ok (.iload 4, 2) := by decide +kernel
theorem dL_law_825 : decode cL_law 825 = .ok (.iconst 1, 1) := by decide +kernel
theorem dL_law_826 : decode cL_law 826 = .ok (.iadd, 1) := by decide +kernel
theorem dL_law_827 : decode cL_law 827 = .ok (.iaload, 1) := by decide +kernel
theorem dL_law_828 : decode cL_law 828 = .ok (.aload_n 0, 1) := by decide +kernel
theorem dL_law_829 : decode cL_law 829 = .ok (.iload 4, 2) := by decide +kernel
theorem dL_law_831 : decode cL_law 831 = .ok (.iconst 2, 1) := by decide +kernel
theorem dL_law_832 : decode cL_law 832 = .ok (.iadd, 1) := by decide +kernel
theorem dL_law_833 : decode cL_law 833 = .ok (.iaload, 1) := by decide +kernel
theorem dL_law_834 : decode cL_law 834 = .ok (.aload_n 3, 1) := by decide +kernel
theorem dL_law_835 : decode cL_law 835 = .ok (.invokestatic 122, 3) := by decide +kernel
theorem dL_law_838 : decode cL_law 838 = .ok (.istore 5, 2) := by decide +kernel
theorem dL_law_840 : decode cL_law 840 = .ok (.aload_n 2, 1) := by decide +kernel
theorem dL_law_841 : decode cL_law 841 = .ok (.aload_n 0, 1) := by decide +kernel
theorem dL_law_842 : decode cL_law 842 = .ok (.iload 4, 2) := by decide +kernel
theorem dL_law_844 : decode cL_law 844 = .ok (.iconst 1, 1) := by decide +kernel
theorem dL_law_845 : decode cL_law 845 = .ok (.iadd, 1) := by decide +kernel
theorem dL_law_846 : decode cL_law 846 = .ok (.iaload, 1) := by decide +kernel
theorem dL_law_847 : decode cL_law 847 = .ok (.aload_n 0, 1) := by decide +kernel
theorem dL_law_848 : decode cL_law 848 = .ok (.iload 4, 2) := by decide +kernel
theorem dL_law_850 : decode cL_law 850 = .ok (.iconst 2, 1) := by decide +kernel
theorem dL_law_851 : decode cL_law 851 = .ok (.iadd, 1) := by decide +kernel
theorem dL_law_852 : decode cL_law 852 = .ok (.iaload, 1) := by decide +kernel
theorem dL_law_853 : decode cL_law 853 = .ok (.invokevirtual 124, 3) := by decide +kernel
theorem dL_law_856 : decode cL_law 856 = .ok (.istore 6, 2) := by decide +kernel
theorem dL_law_858 : decode cL_law 858 = .ok (.aload_n 2, 1) := by decide +kernel
theorem dL_law_859 : decode cL_law 859 = .ok (.invokevirtual 85, 3) := by decide +kernel
theorem dL_law_862 : decode cL_law 862 = .ok (.iload 5, 2) := by decide +kernel
theorem dL_law_864 : decode cL_law 864 = .ok (.if_icmp .eq 5, 3) := by decide +kernel
theorem dL_law_867 : decode cL_law 867 = .ok (.iconst 0, 1) := by decide +kernel
theorem dL_law_868 : decode cL_law 868 = .ok (.ireturn, 1) := by decide +kernel
theorem dL_law_869 : decode cL_law 869 = .ok (.iload 5, 2) := by decide +kernel
theorem dL_law_871 : decode cL_law 871 = .ok (.ifCond .ne 15, 3) := by decide +kernel
theorem dL_law_874 : decode cL_law 874 = .ok (.aload_n 3, 1) := by decide +kernel
theorem dL_law_875 : decode cL_law 875 = .ok (.iconst 0, 1) := by decide +kernel
theorem dL_law_876 : decode cL_law 876 = .ok (.laload, 1) := by decide +kernel
theorem dL_law_877 : decode cL_law 877 = .ok (.iload 6, 2) := by decide +kernel
theorem dL_law_879 : decode cL_law 879 = .ok (.i2l, 1) := by decide +kernel
theorem dL_law_880 : decode cL_law 880 = .ok (.lcmp, 1) := by decide +kernel
theorem dL_law_881 : decode cL_law 881 = .ok (.ifCond .eq 5, 3) := by decide +kernel
theorem dL_law_884 : decode cL_law 884 = .ok (.iconst 0, 1) := by decide +kernel
theorem dL_law_885 : decode cL_law 885 = .ok (.ireturn, 1) := by decide +kernel
theorem dL_law_886 : decode cL_law 886 = .ok (.goto 530, 3) := by decide +kernel
theorem dL_law_889 : decode cL_law 889 = .ok (.aload_n 1, 1) := by decide +kernel
theorem dL_law_890 : decode cL_law 890 = .ok (.aload_n 0, 1) := by decide +kernel
theorem dL_law_891 : decode cL_law 891 = .ok (.iload 4, 2) := by decide +kernel
theorem dL_law_893 : decode cL_law 893 = .ok (.iconst 1, 1) := by decide +kernel
theorem dL_law_894 : decode cL_law 894 = .ok (.iadd, 1) := by decide +kernel
theorem dL_law_895 : decode cL_law 895 = .ok (.iaload, 1) := by decide +kernel
theorem dL_law_896 : decode cL_law 896 = .ok (.aload_n 0, 1) := by decide +kernel
theorem dL_law_897 : decode cL_law 897 = .ok (.iload 4, 2) := by decide +kernel
theorem dL_law_899 : decode cL_law 899 = .ok (.iconst 2, 1) := by decide +kernel
theorem dL_law_900 : decode cL_law 900 = .ok (.iadd, 1) := by decide +kernel
theorem dL_law_901 : decode cL_law 901 = .ok (.iaload, 1) := by decide +kernel
theorem dL_law_902 : decode cL_law 902 = .ok (.aload_n 3, 1) := by decide +kernel
theorem dL_law_903 : decode cL_law 903 = .ok (.invokestatic 125, 3) := by decide +kernel
theorem dL_law_906 : decode cL_law 906 = .ok (.istore 5, 2) := by decide +kernel
theorem dL_law_908 : decode cL_law 908 = .ok (.aload_n 2, 1) := by decide +kernel
theorem dL_law_909 : decode cL_law 909 = .ok (.aload_n 0, 1) := by decide +kernel
theorem dL_law_910 : decode cL_law 910 = .ok (.iload 4, 2) := by decide +kernel
theorem dL_law_912 : decode cL_law 912 = .ok (.iconst 1, 1) := by decide +kernel
theorem dL_law_913 : decode cL_law 913 = .ok (.iadd, 1) := by decide +kernel
theorem dL_law_914 : decode cL_law 914 = .ok (.iaload, 1) := by decide +kernel
theorem dL_law_915 : decode cL_law 915 = .ok (.aload_n 0, 1) := by decide +kernel
theorem dL_law_916 : decode cL_law 916 = .ok (.iload 4, 2) := by decide +kernel
theorem dL_law_918 : decode cL_law 918 = .ok (.iconst 2, 1) := by decide +kernel
theorem dL_law_919 : decode cL_law 919 = .ok (.iadd, 1) := by decide +kernel
theorem dL_law_920 : decode cL_law 920 = .ok (.iaload, 1) := by decide +kernel
theorem dL_law_921 : decode cL_law 921 = .ok (.invokevirtual 127, 3) := by decide +kernel
theorem dL_law_924 : decode cL_law 924 = .ok (.istore 6, 2) := by decide +kernel
theorem dL_law_926 : decode cL_law 926 = .ok (.aload_n 2, 1) := by decide +kernel
theorem dL_law_927 : decode cL_law 927 = .ok (.invokevirtual 85, 3) := by decide +kernel
theorem dL_law_930 : decode cL_law 930 = .ok (.iload 5, 2) := by decide +kernel
theorem dL_law_932 : decode cL_law 932 = .ok (.if_icmp .eq 5, 3) := by decide +kernel
theorem dL_law_935 : decode cL_law 935 = .ok (.iconst 0, 1) := by decide +kernel
theorem dL_law_936 : decode cL_law 936 = .ok (.ireturn, 1) := by decide +kernel
theorem dL_law_937 : decode cL_law 937 = .ok (.iload 5, 2) := by decide +kernel
theorem dL_law_939 : decode cL_law 939 = .ok (.ifCond .ne 15, 3) := by decide +kernel
theorem dL_law_942 : decode cL_law 942 = .ok (.aload_n 3, 1) := by decide +kernel
theorem dL_law_943 : decode cL_law 943 = .ok (.iconst 0, 1) := by decide +kernel
theorem dL_law_944 : decode cL_law 944 = .ok (.laload, 1) := by decide +kernel
theorem dL_law_945 : decode cL_law 945 = .ok (.iload 6, 2) := by decide +kernel
theorem dL_law_947 : decode cL_law 947 = .ok (.i2l, 1) := by decide +kernel
theorem dL_law_948 : decode cL_law 948 = .ok (.lcmp, 1) := by decide +kernel
theorem dL_law_949 : decode cL_law 949 = .ok (.ifCond .eq 5, 3) := by decide +kernel
theorem dL_law_952 : decode cL_law 952 = .ok (.iconst 0, 1) := by decide +kernel
theorem dL_law_953 : decode cL_law 953 = .ok (.ireturn, 1) := by decide +kernel
theorem dL_law_954 : decode cL_law 954 = .ok (.goto 462, 3) := by decide +kernel
theorem dL_law_957 : decode cL_law 957 = .ok (.aload_n 1, 1) := by decide +kernel
theorem dL_law_958 : decode cL_law 958 = .ok (.aload_n 0, 1) := by decide +kernel
theorem dL_law_959 : decode cL_law 959 = .ok (.iload 4, 2) := by decide +kernel
theorem dL_law_961 : decode cL_law 961 = .ok (.iconst 1, 1) := by decide +kernel
theorem dL_law_962 : decode cL_law 962 = .ok (.iadd, 1) := by decide +kernel
theorem dL_law_963 : decode cL_law 963 = .ok (.iaload, 1) := by decide +kernel
theorem dL_law_964 : decode cL_law 964 = .ok (.aload_n 3, 1) := by decide +kernel
theorem dL_law_965 : decode cL_law 965 = .ok (.invokestatic 128, 3) := by decide +kernel
theorem dL_law_968 : decode cL_law 968 = .ok (.istore 5, 2) := by decide +kernel
theorem dL_law_970 : decode cL_law 970 = .ok (.aload_n 2, 1) := by decide +kernel
theorem dL_law_971 : decode cL_law 971 = .ok (.aload_n 0, 1) := by decide +kernel
theorem dL_law_972 : decode cL_law 972 = .ok (.iload 4, 2) := by decide +kernel
theorem dL_law_974 : decode cL_law 974 = .ok (.iconst 1, 1) := by decide +kernel
theorem dL_law_975 : decode cL_law 975 = .ok (.iadd, 1) := by decide +kernel
theorem dL_law_976 : decode cL_law 976 = .ok (.iaload, 1) := by decide +kernel
theorem dL_law_977 : decode cL_law 977 = .ok (.invokevirtual 130, 3) := by decide +kernel
theorem dL_law_980 : decode cL_law 980 = .ok (.istore 6, 2) := by decide +kernel
theorem dL_law_982 : decode cL_law 982 = .ok (.aload_n 2, 1) := by decide +kernel
theorem dL_law_983 : decode cL_law 983 = .ok (.invokevirtual 85, 3) := by decide +kernel
theorem dL_law_986 : decode cL_law 986 = .ok (.iload 5, 2) := by decide +kernel
theorem dL_law_988 : decode cL_law 988 = .ok (.if_icmp .eq 5, 3) := by decide +kernel
theorem dL_law_991 : decode cL_law 991 = .ok (.iconst 0, 1) := by decide +kernel
theorem dL_law_992 : decode cL_law 992 = .ok (.ireturn, 1) := by decide +kernel
theorem dL_law_993 : decode cL_law 993 = .ok (.iload 5, 2) := by decide +kernel
theorem dL_law_995 : decode cL_law 995 = .ok (.ifCond .ne 15, 3) := by decide +kernel
theorem dL_law_998 : decode cL_law 998 = .ok (.aload_n 3, 1) := by decide +kernel
theorem dL_law_999 : decode cL_law 999 = .ok (.iconst 0, 1) := by decide +kernel
theorem dL_law_1000 : decode cL_law 1000 = .ok (.laload, 1) := by decide +kernel
theorem dL_law_1001 : decode cL_law 1001 = .ok (.iload 6, 2) := by decide +kernel
theorem dL_law_1003 : decode cL_law 1003 = .ok (.i2l, 1) := by decide +kernel
theorem dL_law_1004 : decode cL_law 1004 = .ok (.lcmp, 1) := by decide +kernel
theorem dL_law_1005 : decode cL_law 1005 = .ok (.ifCond .eq 5, 3) := by decide +kernel
theorem dL_law_1008 : decode cL_law 1008 = .ok (.iconst 0, 1) := by decide +kernel
theorem dL_law_1009 : decode cL_law 1009 = .ok (.ireturn, 1) := by decide +kernel
theorem dL_law_1010 : decode cL_law 1010 = .ok (.goto 406, 3) := by decide +kernel
theorem dL_law_1013 : decode cL_law 1013 = .ok (.aload_n 1, 1) := by decide +kernel
theorem dL_law_1014 : decode cL_law 1014 = .ok (.aload_n 0, 1) := by decide +kernel
theorem dL_law_1015 : decode cL_law 1015 = .ok (.iload 4, 2) := by decide +kernel
theorem dL_law_1017 : decode cL_law 1017 = .ok (.iconst 1, 1) := by decide +kernel
theorem dL_law_1018 : decode cL_law 1018 = .ok (.iadd, 1) := by decide +kernel
theorem dL_law_1019 : decode cL_law 1019 = .ok (.iaload, 1) := by decide +kernel
theorem dL_law_1020 : decode cL_law 1020 = .ok (.aload_n 3, 1) := by decide +kernel
theorem dL_law_1021 : decode cL_law 1021 = .ok (.invokestatic 131, 3) := by decide +kernel
theorem dL_law_1024 : decode cL_law 1024 = .ok (.istore 5, 2) := by decide +kernel
theorem dL_law_1026 : decode cL_law 1026 = .ok (.aload_n 2, 1) := by decide +kernel
theorem dL_law_1027 : decode cL_law 1027 = .ok (.aload_n 0, 1) := by decide +kernel
theorem dL_law_1028 : decode cL_law 1028 = .ok (.iload 4, 2) := by decide +kernel
theorem dL_law_1030 : decode cL_law 1030 = .ok (.iconst 1, 1) := by decide +kernel
theorem dL_law_1031 : decode cL_law 1031 = .ok (.iadd, 1) := by decide +kernel
theorem dL_law_1032 : decode cL_law 1032 = .ok (.iaload, 1) := by decide +kernel
theorem dL_law_1033 : decode cL_law 1033 = .ok (.invokevirtual 133, 3) := by decide +kernel
theorem dL_law_1036 : decode cL_law 1036 = .ok (.istore 6, 2) := by decide +kernel
theorem dL_law_1038 : decode cL_law 1038 = .ok (.aload_n 2, 1) := by decide +kernel
theorem dL_law_1039 : decode cL_law 1039 = .ok (.invokevirtual 85, 3) := by decide +kernel
theorem dL_law_1042 : decode cL_law 1042 = .ok (.iload 5, 2) := by decide +kernel
theorem dL_law_1044 : decode cL_law 1044 = .ok (.if_icmp .eq 5, 3) := by decide +kernel
theorem dL_law_1047 : decode cL_law 1047 = .ok (.iconst 0, 1) := by decide +kernel
theorem dL_law_1048 : decode cL_law 1048 = .ok (.ireturn, 1) := by decide +kernel
theorem dL_law_1049 : decode cL_law 1049 = .ok (.iload 5, 2) := by decide +kernel
theorem dL_law_1051 : decode cL_law 1051 = .ok (.ifCond .ne 15, 3) := by decide +kernel
theorem dL_law_1054 : decode cL_law 1054 = .ok (.aload_n 3, 1) := by decide +kernel
theorem dL_law_1055 : decode cL_law 1055 = .ok (.iconst 0, 1) := by decide +kernel
theorem dL_law_1056 : decode cL_law 1056 = .ok (.laload, 1) := by decide +kernel
theorem dL_law_1057 : decode cL_law 1057 = .ok (.iload 6, 2) := by decide +kernel
theorem dL_law_1059 : decode cL_law 1059 = .ok (.i2l, 1) := by decide +kernel
theorem dL_law_1060 : decode cL_law 1060 = .ok (.lcmp, 1) := by decide +kernel
theorem dL_law_1061 : decode cL_law 1061 = .ok (.ifCond .eq 5, 3) := by decide +kernel
theorem dL_law_1064 : decode cL_law 1064 = .ok (.iconst 0, 1) := by decide +kernel
theorem dL_law_1065 : decode cL_law 1065 = .ok (.ireturn, 1) := by decide +kernel
theorem dL_law_1066 : decode cL_law 1066 = .ok (.goto 350, 3) := by decide +kernel
theorem dL_law_1069 : decode cL_law 1069 = .ok (.aload_n 1, 1) := by decide +kernel
theorem dL_law_1070 : decode cL_law 1070 = .ok (.aload_n 0, 1) := by decide +kernel
theorem dL_law_1071 : decode cL_law 1071 = .ok (.iload 4, 2) := by decide +kernel
theorem dL_law_1073 : decode cL_law 1073 = .ok (.iconst 1, 1) := by decide +kernel
theorem dL_law_1074 : decode cL_law 1074 = .ok (.iadd, 1) := by decide +kernel
theorem dL_law_1075 : decode cL_law 1075 = .ok (.iaload, 1) := by decide +kernel
theorem dL_law_1076 : decode cL_law 1076 = .ok (.aload_n 3, 1) := by decide +kernel
theorem dL_law_1077 : decode cL_law 1077 = .ok (.invokestatic 134, 3) := by decide +kernel
theorem dL_law_1080 : decode cL_law 1080 = .ok (.istore 5, 2) := by decide +kernel
theorem dL_law_1082 : decode cL_law 1082 = .ok (.aload_n 2, 1) := by decide +kernel
theorem dL_law_1083 : decode cL_law 1083 = .ok (.aload_n 0, 1) := by decide +kernel
theorem dL_law_1084 : decode cL_law 1084 = .ok (.iload 4, 2) := by decide +kernel
theorem dL_law_1086 : decode cL_law 1086 = .ok (.iconst 1, 1) := by decide +kernel
theorem dL_law_1087 : decode cL_law 1087 = .ok (.iadd, 1) := by decide +kernel
theorem dL_law_1088 : decode cL_law 1088 = .ok (.iaload, 1) := by decide +kernel
theorem dL_law_1089 : decode cL_law 1089 = .ok (.invokevirtual 136, 3) := by decide +kernel
theorem dL_law_1092 : decode cL_law 1092 = .ok (.istore 6, 2) := by decide +kernel
theorem dL_law_1094 : decode cL_law 1094 = .ok (.aload_n 2, 1) := by decide +kernel
theorem dL_law_1095 : decode cL_law 1095 = .ok (.invokevirtual 85, 3) := by decide +kernel
theorem dL_law_1098 : decode cL_law 1098 = .ok (.iload 5, 2) := by decide +kernel
theorem dL_law_1100 : decode cL_law 1100 = .ok (.if_icmp .eq 5, 3) := by decide +kernel
theorem dL_law_1103 : decode cL_law 1103 = .ok (.iconst 0, 1) := by decide +kernel
theorem dL_law_1104 : decode cL_law 1104 = .ok (.ireturn, 1) := by decide +kernel
theorem dL_law_1105 : decode cL_law 1105 = .ok (.iload 5, 2) := by decide +kernel
theorem dL_law_1107 : decode cL_law 1107 = .ok (.ifCond .ne 15, 3) := by decide +kernel
theorem dL_law_1110 : decode cL_law 1110 = .ok (.aload_n 3, 1) := by decide +kernel
theorem dL_law_1111 : decode cL_law 1111 = .ok (.iconst 0, 1) := by decide +kernel
theorem dL_law_1112 : decode cL_law 1112 = .ok (.laload, 1) := by decide +kernel
theorem dL_law_1113 : decode cL_law 1113 = .ok (.iload 6, 2) := by decide +kernel
theorem dL_law_1115 : decode cL_law 1115 = .ok (.i2l, 1) := by decide +kernel
theorem dL_law_1116 : decode cL_law 1116 = .ok (.lcmp, 1) := by decide +kernel
theorem dL_law_1117 : decode cL_law 1117 = .ok (.ifCond .eq 5, 3) := by decide +kernel
theorem dL_law_1120 : decode cL_law 1120 = .ok (.iconst 0, 1) := by decide +kernel
theorem dL_law_1121 : decode cL_law 1121 = .ok (.ireturn, 1) := by decide +kernel
theorem dL_law_1122 : decode cL_law 1122 = .ok (.goto 294, 3) := by decide +kernel
theorem dL_law_1125 : decode cL_law 1125 = .ok (.aload_n 1, 1) := by decide +kernel
theorem dL_law_1126 : decode cL_law 1126 = .ok (.aload_n 0, 1) := by decide +kernel
theorem dL_law_1127 : decode cL_law 1127 = .ok (.iload 4, 2) := by decide +kernel
theorem dL_law_1129 : decode cL_law 1129 = .ok (.iconst 1, 1) := by decide +kernel
theorem dL_law_1130 : decode cL_law 1130 = .ok (.iadd, 1) := by decide +kernel
theorem dL_law_1131 : decode cL_law 1131 = .ok (.iaload, 1) := by decide +kernel
theorem dL_law_1132 : decode cL_law 1132 = .ok (.aload_n 3, 1) := by decide +kernel
theorem dL_law_1133 : decode cL_law 1133 = .ok (.invokestatic 137, 3) := by decide +kernel
theorem dL_law_1136 : decode cL_law 1136 = .ok (.istore 5, 2) := by decide +kernel
theorem dL_law_1138 : decode cL_law 1138 = .ok (.aload_n 2, 1) := by decide +kernel
theorem dL_law_1139 : decode cL_law 1139 = .ok (.aload_n 0, 1) := by decide +kernel
theorem dL_law_1140 : decode cL_law 1140 = .ok (.iload 4, 2) := by decide +kernel
theorem dL_law_1142 : decode cL_law 1142 = .ok (.iconst 1, 1) := by decide +kernel
theorem dL_law_1143 : decode cL_law 1143 = .ok (.iadd, 1) := by decide +kernel
theorem dL_law_1144 : decode cL_law 1144 = .ok (.iaload, 1) := by decide +kernel
theorem dL_law_1145 : decode cL_law 1145 = .ok (.invokevirtual 139, 3) := by decide +kernel
theorem dL_law_1148 : decode cL_law 1148 = .ok (.istore 6, 2) := by decide +kernel
theorem dL_law_1150 : decode cL_law 1150 = .ok (.aload_n 2, 1) := by decide +kernel
theorem dL_law_1151 : decode cL_law 1151 = .ok (.invokevirtual 85, 3) := by decide +kernel
theorem dL_law_1154 : decode cL_law 1154 = .ok (.iload 5, 2) := by decide +kernel
theorem dL_law_1156 : decode cL_law 1156 = .ok (.if_icmp .eq 5, 3) := by decide +kernel
theorem dL_law_1159 : decode cL_law 1159 = .ok (.iconst 0, 1) := by decide +kernel
theorem dL_law_1160 : decode cL_law 1160 = .ok (.ireturn, 1) := by decide +kernel
theorem dL_law_1161 : decode cL_law 1161 = .ok (.iload 5, 2) := by decide +kernel
theorem dL_law_1163 : decode cL_law 1163 = .ok (.ifCond .ne 15, 3) := by decide +kernel
theorem dL_law_1166 : decode cL_law 1166 = .ok (.aload_n 3, 1) := by decide +kernel
theorem dL_law_1167 : decode cL_law 1167 = .ok (.iconst 0, 1) := by decide +kernel
theorem dL_law_1168 : decode cL_law 1168 = .ok (.laload, 1) := by decide +kernel
theorem dL_law_1169 : decode cL_law 1169 = .ok (.iload 6, 2) := by decide +kernel
theorem dL_law_1171 : decode cL_law 1171 = .ok (.i2l, 1) := by decide +kernel
theorem dL_law_1172 : decode cL_law 1172 = .ok (.lcmp, 1) := by decide +kernel
theorem dL_law_1173 : decode cL_law 1173 = .ok (.ifCond .eq 5, 3) := by decide +kernel
theorem dL_law_1176 : decode cL_law 1176 = .ok (.iconst 0, 1) := by decide +kernel
theorem dL_law_1177 : decode cL_law 1177 = .ok (.ireturn, 1) := by decide +kernel
theorem dL_law_1178 : decode cL_law 1178 = .ok (.goto 238, 3) := by decide +kernel
theorem dL_law_1181 : decode cL_law 1181 = .ok (.aload_n 1, 1) := by decide +kernel
theorem dL_law_1182 : decode cL_law 1182 = .ok (.aload_n 0, 1) := by decide +kernel
theorem dL_law_1183 : decode cL_law 1183 = .ok (.iload 4, 2) := by decide +kernel
theorem dL_law_1185 : decode cL_law 1185 = .ok (.iconst 1, 1) := by decide +kernel
theorem dL_law_1186 : decode cL_law 1186 = .ok (.iadd, 1) := by decide +kernel
theorem dL_law_1187 : decode cL_law 1187 = .ok (.iaload, 1) := by decide +kernel
theorem dL_law_1188 : decode cL_law 1188 = .ok (.aload_n 3, 1) := by decide +kernel
theorem dL_law_1189 : decode cL_law 1189 = .ok (.invokestatic 140, 3) := by decide +kernel
theorem dL_law_1192 : decode cL_law 1192 = .ok (.istore 5, 2) := by decide +kernel
theorem dL_law_1194 : decode cL_law 1194 = .ok (.aload_n 2, 1) := by decide +kernel
theorem dL_law_1195 : decode cL_law 1195 = .ok (.aload_n 0, 1) := by decide +kernel
theorem dL_law_1196 : decode cL_law 1196 = .ok (.iload 4, 2) := by decide +kernel
theorem dL_law_1198 : decode cL_law 1198 = .ok (.iconst 1, 1) := by decide +kernel
theorem dL_law_1199 : decode cL_law 1199 = .ok (.iadd, 1) := by decide +kernel
theorem dL_law_1200 : decode cL_law 1200 = .ok (.iaload, 1) := by decide +kernel
theorem dL_law_1201 : decode cL_law 1201 = .ok (.invokevirtual 142, 3) := by decide +kernel
theorem dL_law_1204 : decode cL_law 1204 = .ok (.istore 6, 2) := by decide +kernel
theorem dL_law_1206 : decode cL_law 1206 = .ok (.aload_n 2, 1) := by decide +kernel
theorem dL_law_1207 : decode cL_law 1207 = .ok (.invokevirtual 85, 3) := by decide +kernel
theorem dL_law_1210 : decode cL_law 1210 = .ok (.iload 5, 2) := by decide +kernel
theorem dL_law_1212 : decode cL_law 1212 = .ok (.if_icmp .eq 5, 3) := by decide +kernel
theorem dL_law_1215 : decode cL_law 1215 = .ok (.iconst 0, 1) := by decide +kernel
theorem dL_law_1216 : decode cL_law 1216 = .ok (.ireturn, 1) := by decide +kernel
theorem dL_law_1217 : decode cL_law 1217 = .ok (.iload 5, 2) := by decide +kernel
theorem dL_law_1219 : decode cL_law 1219 = .ok (.ifCond .ne 15, 3) := by decide +kernel
theorem dL_law_1222 : decode cL_law 1222 = .ok (.aload_n 3, 1) := by decide +kernel
theorem dL_law_1223 : decode cL_law 1223 = .ok (.iconst 0, 1) := by decide +kernel
theorem dL_law_1224 : decode cL_law 1224 = .ok (.laload, 1) := by decide +kernel
theorem dL_law_1225 : decode cL_law 1225 = .ok (.iload 6, 2) := by decide +kernel
theorem dL_law_1227 : decode cL_law 1227 = .ok (.i2l, 1) := by decide +kernel
theorem dL_law_1228 : decode cL_law 1228 = .ok (.lcmp, 1) := by decide +kernel
theorem dL_law_1229 : decode cL_law 1229 = .ok (.ifCond .eq 5, 3) := by decide +kernel
theorem dL_law_1232 : decode cL_law 1232 = .ok (.iconst 0, 1) := by decide +kernel
theorem dL_law_1233 : decode cL_law 1233 = .ok (.ireturn, 1) := by decide +kernel
theorem dL_law_1234 : decode cL_law 1234 = .ok (.goto 182, 3) := by decide +kernel
theorem dL_law_1237 : decode cL_law 1237 = .ok (.aload_n 1, 1) := by decide +kernel
theorem dL_law_1238 : decode cL_law 1238 = .ok (.aload_n 0, 1) := by decide +kernel
theorem dL_law_1239 : decode cL_law 1239 = .ok (.iload 4, 2) := by decide +kernel
theorem dL_law_1241 : decode cL_law 1241 = .ok (.iconst 1, 1) := by decide +kernel
theorem dL_law_1242 : decode cL_law 1242 = .ok (.iadd, 1) := by decide +kernel
theorem dL_law_1243 : decode cL_law 1243 = .ok (.iaload, 1) := by decide +kernel
theorem dL_law_1244 : decode cL_law 1244 = .ok (.aload_n 0, 1) := by decide +kernel
theorem dL_law_1245 : decode cL_law 1245 = .ok (.iload 4, 2) := by decide +kernel
theorem dL_law_1247 : decode cL_law 1247 = .ok (.iconst 2, 1) := by decide +kernel
theorem dL_law_1248 : decode cL_law 1248 = .ok (.iadd, 1) := by decide +kernel
theorem dL_law_1249 : decode cL_law 1249 = .ok (.iaload, 1) := by decide +kernel
theorem dL_law_1250 : decode cL_law 1250 = .ok (.aload_n 3, 1) := by decide +kernel
theorem dL_law_1251 : decode cL_law 1251 = .ok (.invokestatic 143, 3) := by decide +kernel
theorem dL_law_1254 : decode cL_law 1254 = .ok (.istore 5, 2) := by decide +kernel
theorem dL_law_1256 : decode cL_law 1256 = .ok (.aload_n 2, 1) := by decide +kernel
theorem dL_law_1257 : decode cL_law 1257 = .ok (.aload_n 0, 1) := by decide +kernel
theorem dL_law_1258 : decode cL_law 1258 = .ok (.iload 4, 2) := by decide +kernel
theorem dL_law_1260 : decode cL_law 1260 = .ok (.iconst 1, 1) := by decide +kernel
theorem dL_law_1261 : decode cL_law 1261 = .ok (.iadd, 1) := by decide +kernel
theorem dL_law_1262 : decode cL_law 1262 = .ok (.iaload, 1) := by decide +kernel
theorem dL_law_1263 : decode cL_law 1263 = .ok (.aload_n 0, 1) := by decide +kernel
theorem dL_law_1264 : decode cL_law 1264 = .ok (.iload 4, 2) := by decide +kernel
theorem dL_law_1266 : decode cL_law 1266 = .ok (.iconst 2, 1) := by decide +kernel
theorem dL_law_1267 : decode cL_law 1267 = .ok (.iadd, 1) := by decide +kernel
theorem dL_law_1268 : decode cL_law 1268 = .ok (.iaload, 1) := by decide +kernel
theorem dL_law_1269 : decode cL_law 1269 = .ok (.invokevirtual 145, 3) := by decide +kernel
theorem dL_law_1272 : decode cL_law 1272 = .ok (.istore 6, 2) := by decide +kernel
theorem dL_law_1274 : decode cL_law 1274 = .ok (.aload_n 2, 1) := by decide +kernel
theorem dL_law_1275 : decode cL_law 1275 = .ok (.invokevirtual 85, 3) := by decide +kernel
theorem dL_law_1278 : decode cL_law 1278 = .ok (.iload 5, 2) := by decide +kernel
theorem dL_law_1280 : decode cL_law 1280 = .ok (.if_icmp .eq 5, 3) := by decide +kernel
theorem dL_law_1283 : decode cL_law 1283 = .ok (.iconst 0, 1) := by decide +kernel
theorem dL_law_1284 : decode cL_law 1284 = .ok (.ireturn, 1) := by decide +kernel
theorem dL_law_1285 : decode cL_law 1285 = .ok (.iload 5, 2) := by decide +kernel
theorem dL_law_1287 : decode cL_law 1287 = .ok (.ifCond .ne 15, 3) := by decide +kernel
theorem dL_law_1290 : decode cL_law 1290 = .ok (.aload_n 3, 1) := by decide +kernel
theorem dL_law_1291 : decode cL_law 1291 = .ok (.iconst 0, 1) := by decide +kernel
theorem dL_law_1292 : decode cL_law 1292 = .ok (.laload, 1) := by decide +kernel
theorem dL_law_1293 : decode cL_law 1293 = .ok (.iload 6, 2) := by decide +kernel
theorem dL_law_1295 : decode cL_law 1295 = .ok (.i2l, 1) := by decide +kernel
theorem dL_law_1296 : decode cL_law 1296 = .ok (.lcmp, 1) := by decide +kernel
theorem dL_law_1297 : decode cL_law 1297 = .ok (.ifCond .eq 5, 3) := by decide +kernel
theorem dL_law_1300 : decode cL_law 1300 = .ok (.iconst 0, 1) := by decide +kernel
theorem dL_law_1301 : decode cL_law 1301 = .ok (.ireturn, 1) := by decide +kernel
theorem dL_law_1302 : decode cL_law 1302 = .ok (.goto 114, 3) := by decide +kernel
theorem dL_law_1305 : decode cL_law 1305 = .ok (.aload_n 1, 1) := by decide +kernel
theorem dL_law_1306 : decode cL_law 1306 = .ok (.aload_n 0, 1) := by decide +kernel
theorem dL_law_1307 : decode cL_law 1307 = .ok (.iload 4, 2) := by decide +kernel
theorem dL_law_1309 : decode cL_law 1309 = .ok (.iconst 1, 1) := by decide +kernel
theorem dL_law_1310 : decode cL_law 1310 = .ok (.iadd, 1) := by decide +kernel
theorem dL_law_1311 : decode cL_law 1311 = .ok (.iaload, 1) := by decide +kernel
theorem dL_law_1312 : decode cL_law 1312 = .ok (.aload_n 3, 1) := by decide +kernel
theorem dL_law_1313 : decode cL_law 1313 = .ok (.invokestatic 146, 3) := by decide +kernel
theorem dL_law_1316 : decode cL_law 1316 = .ok (.istore 5, 2) := by decide +kernel
theorem dL_law_1318 : decode cL_law 1318 = .ok (.aload_n 2, 1) := by decide +kernel
theorem dL_law_1319 : decode cL_law 1319 = .ok (.aload_n 0, 1) := by decide +kernel
theorem dL_law_1320 : decode cL_law 1320 = .ok (.iload 4, 2) := by decide +kernel
theorem dL_law_1322 : decode cL_law 1322 = .ok (.iconst 1, 1) := by decide +kernel
theorem dL_law_1323 : decode cL_law 1323 = .ok (.iadd, 1) := by decide +kernel
theorem dL_law_1324 : decode cL_law 1324 = .ok (.iaload, 1) := by decide +kernel
theorem dL_law_1325 : decode cL_law 1325 = .ok (.invokevirtual 148, 3) := by decide +kernel
theorem dL_law_1328 : decode cL_law 1328 = .ok (.istore 6, 2) := by decide +kernel
theorem dL_law_1330 : decode cL_law 1330 = .ok (.aload_n 2, 1) := by decide +kernel
theorem dL_law_1331 : decode cL_law 1331 = .ok (.invokevirtual 85, 3) := by decide +kernel
theorem dL_law_1334 : decode cL_law 1334 = .ok (.iload 5, 2) := by decide +kernel
theorem dL_law_1336 : decode cL_law 1336 = .ok (.if_icmp .eq 5, 3) := by decide +kernel
theorem dL_law_1339 : decode cL_law 1339 = .ok (.iconst 0, 1) := by decide +kernel
theorem dL_law_1340 : decode cL_law 1340 = .ok (.ireturn, 1) := by decide +kernel
theorem dL_law_1341 : decode cL_law 1341 = .ok (.iload 5, 2) := by decide +kernel
theorem dL_law_1343 : decode cL_law 1343 = .ok (.ifCond .ne 15, 3) := by decide +kernel
theorem dL_law_1346 : decode cL_law 1346 = .ok (.aload_n 3, 1) := by decide +kernel
theorem dL_law_1347 : decode cL_law 1347 = .ok (.iconst 0, 1) := by decide +kernel
theorem dL_law_1348 : decode cL_law 1348 = .ok (.laload, 1) := by decide +kernel
theorem dL_law_1349 : decode cL_law 1349 = .ok (.iload 6, 2) := by decide +kernel
theorem dL_law_1351 : decode cL_law 1351 = .ok (.i2l, 1) := by decide +kernel
theorem dL_law_1352 : decode cL_law 1352 = .ok (.lcmp, 1) := by decide +kernel
theorem dL_law_1353 : decode cL_law 1353 = .ok (.ifCond .eq 5, 3) := by decide +kernel
theorem dL_law_1356 : decode cL_law 1356 = .ok (.iconst 0, 1) := by decide +kernel
theorem dL_law_1357 : decode cL_law 1357 = .ok (.ireturn, 1) := by decide +kernel
theorem dL_law_1358 : decode cL_law 1358 = .ok (.goto 58, 3) := by decide +kernel
theorem dL_law_1361 : decode cL_law 1361 = .ok (.aload_n 1, 1) := by decide +kernel
theorem dL_law_1362 : decode cL_law 1362 = .ok (.invokevirtual 149, 3) := by decide +kernel
theorem dL_law_1365 : decode cL_law 1365 = .ok (.dstore 5, 2) := by decide +kernel
theorem dL_law_1367 : decode cL_law 1367 = .ok (.aload_n 2, 1) := by decide +kernel
theorem dL_law_1368 : decode cL_law 1368 = .ok (.invokevirtual 153, 3) := by decide +kernel
theorem dL_law_1371 : decode cL_law 1371 = .ok (.dstore 7, 2) := by decide +kernel
theorem dL_law_1373 : decode cL_law 1373 = .ok (.dload 5, 2) := by decide +kernel
theorem dL_law_1375 : decode cL_law 1375 = .ok (.dload 7, 2) := by decide +kernel
theorem dL_law_1377 : decode cL_law 1377 = .ok (.dcmp .l, 1) := by decide +kernel
theorem dL_law_1378 : decode cL_law 1378 = .ok (.ifCond .eq 21, 3) := by decide +kernel
theorem dL_law_1381 : decode cL_law 1381 = .ok (.dload 5, 2) := by decide +kernel
theorem dL_law_1383 : decode cL_law 1383 = .ok (.dload 5, 2) := by decide +kernel
theorem dL_law_1385 : decode cL_law 1385 = .ok (.dcmp .l, 1) := by decide +kernel
theorem dL_law_1386 : decode cL_law 1386 = .ok (.ifCond .eq 11, 3) := by decide +kernel
theorem dL_law_1389 : decode cL_law 1389 = .ok (.dload 7, 2) := by decide +kernel
theorem dL_law_1391 : decode cL_law 1391 = .ok (.dload 7, 2) := by decide +kernel
theorem dL_law_1393 : decode cL_law 1393 = .ok (.dcmp .l, 1) := by decide +kernel
theorem dL_law_1394 : decode cL_law 1394 = .ok (.ifCond .ne 5, 3) := by decide +kernel
theorem dL_law_1397 : decode cL_law 1397 = .ok (.iconst 0, 1) := by decide +kernel
theorem dL_law_1398 : decode cL_law 1398 = .ok (.ireturn, 1) := by decide +kernel
theorem dL_law_1399 : decode cL_law 1399 = .ok (.goto 17, 3) := by decide +kernel
theorem dL_law_1402 : decode cL_law 1402 = .ok (.aload_n 1, 1) := by decide +kernel
theorem dL_law_1403 : decode cL_law 1403 = .ok (.invokevirtual 154, 3) := by decide +kernel
theorem dL_law_1406 : decode cL_law 1406 = .ok (.aload_n 2, 1) := by decide +kernel
theorem dL_law_1407 : decode cL_law 1407 = .ok (.invokevirtual 158, 3) := by decide +kernel
theorem dL_law_1410 : decode cL_law 1410 = .ok (.lcmp, 1) := by decide +kernel
theorem dL_law_1411 : decode cL_law 1411 = .ok (.ifCond .eq 5, 3) := by decide +kernel
theorem dL_law_1414 : decode cL_law 1414 = .ok (.iconst 0, 1) := by decide +kernel
theorem dL_law_1415 : decode cL_law 1415 = .ok (.ireturn, 1) := by decide +kernel
theorem dL_law_1416 : decode cL_law 1416 = .ok (.iinc 4 4, 3) := by decide +kernel
theorem dL_law_1419 : decode cL_law 1419 = .ok (.goto (-1396), 3) := by decide +kernel
theorem dL_law_1422 : decode cL_law 1422 = .ok (.iconst 1, 1) := by decide +kernel
theorem dL_law_1423 : decode cL_law 1423 = .ok (.ireturn, 1) := by decide +kernel
end
section
/-! ===== numbers: every int of the walks is zI of a whole number ===== -/
def zI (z : Int) : Int32 := Int32.ofInt z
theorem zI_add (a b : Int) : zI a + zI b = zI (a + b) := (Int32.ofInt_add a b).symm
theorem zI_sub (a b : Int) : zI a - zI b = zI (a - b) := (Int32.ofInt_sub a b).symm
theorem zI_mul (a b : Int) : zI a * zI b = zI (a * b) := (Int32.ofInt_mul a b).symm
theorem zI_neg (a : Int) : -zI a = zI (-a) := (Int32.ofInt_neg a).symm
theorem zI_of (x : Int32) : x = zI x.toInt := (Int32.ofInt_toInt x).symm
theorem zI_toInt {a : Int} (h : -2147483648 ≤ a ∧ a ≤ 2147483647) : (zI a).toInt = a := Int32.toInt_ofInt_of_le (by omega) (by omega)
theorem zI_nat {a : Int} (h : 0 ≤ a ∧ a ≤ 2147483647) : (zI a).toNatClampNeg = a.toNat := Int32.toNatClampNeg_ofInt_of_le (by omega) (by omega)
theorem zI_0 : (0 : Int32) = zI 0 := rfl
theorem zI_eq {a b : Int} (h : -2147483648 ≤ a ∧ a ≤ 2147483647 ∧ -2147483648 ≤ b ∧ b ≤ 2147483647) : zI a = zI b ↔ a = b :=
  ⟨fun q => by have := congrArg Int32.toInt q; rwa [zI_toInt ⟨h.1, h.2.1⟩, zI_toInt ⟨h.2.2.1, h.2.2.2⟩] at this, fun q => by rw [q]⟩
theorem zI_lt {a b : Int} (h : -2147483648 ≤ a ∧ a ≤ 2147483647 ∧ -2147483648 ≤ b ∧ b ≤ 2147483647) : zI a < zI b ↔ a < b := by
  rw [Int32.lt_iff_toInt_lt, zI_toInt ⟨h.1, h.2.1⟩, zI_toInt ⟨h.2.2.1, h.2.2.2⟩]
theorem zI_le {a b : Int} (h : -2147483648 ≤ a ∧ a ≤ 2147483647 ∧ -2147483648 ≤ b ∧ b ≤ 2147483647) : zI a ≤ zI b ↔ a ≤ b := by
  rw [Int32.le_iff_toInt_le, zI_toInt ⟨h.1, h.2.1⟩, zI_toInt ⟨h.2.2.1, h.2.2.2⟩]
theorem zI_in {a : Int} {n : Nat} (h : 0 ≤ a ∧ a < (n : Int)) (h2 : a ≤ 2147483647) : vp_in (zI a) n := by
  rw [vp_in_iff, zI_toInt ⟨by omega, h2⟩]
  exact h
theorem zI_rng (x : Int32) : -2147483648 ≤ x.toInt ∧ x.toInt ≤ 2147483647 := by
  have h1 := Int32.le_toInt x
  have h2 := Int32.toInt_lt x
  omega
def lI (z : Int) : Int64 := Int64.ofInt z
theorem lI_add (a b : Int) : lI a + lI b = lI (a + b) := (Int64.ofInt_add a b).symm
theorem lI_mul (a b : Int) : lI a * lI b = lI (a * b) := (Int64.ofInt_mul a b).symm
theorem zI_long {a : Int} (h : -2147483648 ≤ a ∧ a ≤ 2147483647) : (zI a).toInt64 = lI a := by
  apply Int64.toInt_inj.mp
  rw [Int32.toInt_toInt64, zI_toInt h]
  exact (Int64.toInt_ofInt_of_le (by omega) (by omega)).symm
theorem zI_rem {a b : Int} (h : 0 ≤ a ∧ a ≤ 2147483647 ∧ 0 < b ∧ b ≤ 2147483647) : zI a - zI a / zI b * zI b = zI (a % b) := by
  have ea : zI a = nI a.toNat := by
    rw [nI, zI]; rw [← Int32.ofInt_eq_ofNat]; congr 1; omega
  have eb : zI b = nI b.toNat := by
    rw [nI, zI]; rw [← Int32.ofInt_eq_ofNat]; congr 1; omega
  rw [ea, eb, pk_rem (by omega) (by omega) (by omega)]
  have e1 : a = (a.toNat : Int) := by omega
  have e2 : b = (b.toNat : Int) := by omega
  rw [nI, zI, ← Int32.ofInt_eq_ofNat]
  congr 1
  rw [Int.natCast_emod, ← e1, ← e2]
/-! ===== the world: 103 cells, each known by a number; its ints are M cell place ===== -/
abbrev kE : Type := va_G × (ClassId × ClassId × ClassId) × (Int → Nat)
abbrev kM : Type := Int → Int → Int
def kU (M : kM) (c j v : Int) : kM := fun k i => if k = c ∧ i = j then v else M k i
theorem kU_same (M : kM) (c j v : Int) : kU M c j v c j = v := if_pos ⟨rfl, rfl⟩
theorem kU_cell {M : kM} {c j v k i : Int} (h : k ≠ c) : kU M c j v k i = M k i := if_neg (fun q => h q.1)
theorem kU_place {M : kM} {c j v k i : Int} (h : i ≠ j) : kU M c j v k i = M k i := if_neg (fun q => h q.2)
theorem kU_at {M : kM} {c j v k i : Int} : kU M c j v k i = if k = c ∧ i = j then v else M k i := rfl
/-- which cells are arrays of ints, and how long they are -/
def kArr (c : Int) (n : Nat) : Prop := (3 ≤ c ∧ c < 6 ∧ n = 40) ∨ (8 ≤ c ∧ c < 10 ∧ n = 40) ∨ (13 ≤ c ∧ c < 15 ∧ n = 40) ∨ (c = 15 ∧ n = 2) ∨ (c = 16 ∧ n = 12) ∨ (18 ≤ c ∧ c < 59 ∧ n = 41) ∨ (c = 59 ∧ n = 40) ∨ (61 ≤ c ∧ c < 102 ∧ n = 41)
def kLen (c : Int) : Nat := if c < 15 then 40 else if c = 15 then 2 else if c = 16 then 12 else if c = 59 then 40 else 41
theorem kArr_len {c : Int} {n : Nat} (h : kArr c n) : kLen c = n := by
  unfold kArr at h
  unfold kLen
  split
  · omega
  split
  · omega
  split
  · omega
  split
  · omega
  omega
/-- arrays of arrays: cell c, its first row is r0, n rows -/
def kRows (ad : Int → Nat) (r0 : Int) (n : Nat) : Nat → Option Nat := fun j => if j < n then some (ad (r0 + (j : Int))) else none
def kC (E : kE) (M : kM) (c : Int) : va_E :=
  if c < 3 then .inr (1, [.ref (E.2.2 (c + 3)), .int (zI (M c 1))])
  else if 6 ≤ c ∧ c < 8 then .inr (0, [.ref (E.2.2 (c - 6)), .ref (E.2.2 (c + 2))])
  else if c = 10 then .inr (2, [.ref (E.2.2 6), .ref (E.2.2 7), .ref (E.2.2 2)])
  else if c = 11 then .inr (3, [.int (zI (M 11 0)), .ref (E.2.2 12), .ref (E.2.2 15), .ref (E.2.2 16), .int (zI (M 11 4)), .ref (E.2.2 17), .ref (E.2.2 59), .ref (E.2.2 60)])
  else if c = 12 then .inl (E.2.1.2.1, 2, .inr (.inr (.inr (.inr (kRows E.2.2 13 2)))))
  else if c = 17 then .inl (E.2.1.2.1, 41, .inr (.inr (.inr (.inr (kRows E.2.2 18 41)))))
  else if c = 60 then .inl (E.2.1.2.1, 41, .inr (.inr (.inr (.inr (kRows E.2.2 61 41)))))
  else if c = 102 then .inl (E.2.1.2.2, 1, .inr (.inl (fun j => lI (M 102 (j : Int)))))
  else .inl (E.2.1.1, kLen c, .inl (fun j => zI (M c (j : Int))))
def kW (E : kE) (M : kM) : va_W := (List.range 103).map (fun k : Nat => (E.2.2 (k : Int), kC E M (k : Int)))
abbrev kT (E : kE) : List (ClassId × FieldType) := [(E.2.1.1, .int), (E.2.1.2.1, .array .int), (E.2.1.2.2, .long)]
def kInj (E : kE) : Prop := ∀ i j : Int, 0 ≤ i → i < 103 → 0 ≤ j → j < 103 → E.2.2 i = E.2.2 j → i = j
def kA (E : kE) (sz : Nat) : Nat → Prop := fun q => (∃ c : Int, 0 ≤ c ∧ c < 103 ∧ q = E.2.2 c) ∨ sz ≤ q
theorem kC_congr {E : kE} {M M' : kM} {c : Int} (hc : 0 ≤ c ∧ c < 103) (h : ∀ i, M' c i = M c i) : kC E M' c = kC E M c := by
  unfold kC
  by_cases h1 : c = 11
  · subst h1; simp [h]
  by_cases h2 : c = 102
  · subst h2; simp [h]
  simp only [h, h1, h2, if_false]
theorem kW_len (E : kE) (M : kM) : (kW E M).length = 103 := by simp [kW]
theorem kW_get (E : kE) (M : kM) {c : Int} (h : 0 ≤ c ∧ c < 103) : (kW E M)[c.toNat]? = some (E.2.2 c, kC E M c) := by
  have h1 : c.toNat < 103 := by omega
  have h2 : ((c.toNat : Nat) : Int) = c := by omega
  simp only [kW, List.getElem?_map, List.getElem?_range h1, Option.map_some, h2]
theorem kW_inv {E : kE} {M : kM} {k : Nat} {q : Nat × va_E} (h : (kW E M)[k]? = some q) : k < 103 ∧ q = (E.2.2 (k : Int), kC E M (k : Int)) := by
  have h1 : k < 103 := by rw [← kW_len E M]; exact (List.getElem?_eq_some_iff.mp h).1
  refine ⟨h1, ?_⟩
  have h2 := kW_get E M (c := (k : Int)) (by omega)
  rw [Int.toNat_natCast, h] at h2
  exact Option.some.inj h2
theorem kW_set {E : kE} {M M' : kM} {c : Int} {e : va_E} (hc : 0 ≤ c ∧ c < 103) (he : kC E M' c = e) (ho : ∀ k : Int, k ≠ c → ∀ i, M' k i = M k i) : (kW E M).set c.toNat (E.2.2 c, e) = kW E M' := by
  apply List.ext_getElem?
  intro k
  by_cases hk : k < 103
  · have g := kW_get E M' (c := (k : Int)) (by omega)
    rw [Int.toNat_natCast] at g
    rw [g]
    by_cases e1 : k = c.toNat
    · subst e1
      have h2 : ((c.toNat : Nat) : Int) = c := by omega
      rw [List.getElem?_set_self (by rw [kW_len]; exact hk), h2, he]
    · rw [List.getElem?_set_ne (Ne.symm e1)]
      have g2 := kW_get E M (c := (k : Int)) (by omega)
      rw [Int.toNat_natCast] at g2
      rw [g2, kC_congr (by omega) (ho (k : Int) (by omega))]
  · rw [List.getElem?_eq_none (by rw [List.length_set, kW_len]; omega), List.getElem?_eq_none (by rw [kW_len]; omega)]
theorem kW_D {E : kE} (hE : kInj E) (M : kM) {A : Nat → Prop} (hA : ∀ c : Int, 0 ≤ c → c < 103 → A (E.2.2 c)) : va_D A (kW E M) := by
  refine ⟨fun i j x y hi hj hxy => ?_, fun k q hk => ?_⟩
  · obtain ⟨h1, rfl⟩ := kW_inv hi
    obtain ⟨h2, rfl⟩ := kW_inv hj
    have := hE (i : Int) (j : Int) (by omega) (by omega) (by omega) (by omega) hxy
    omega
  · obtain ⟨h1, rfl⟩ := kW_inv hk
    exact hA _ (by omega) (by omega)
theorem kW_DA {E : kE} (hE : kInj E) (M : kM) (sz : Nat) : va_D (kA E sz) (kW E M) := kW_D hE M (fun c h1 h2 => Or.inl ⟨c, h1, h2, rfl⟩)
theorem kC_S {E : kE} {M : kM} {c : Int} (h : 0 ≤ c ∧ c < 3) : kC E M c = .inr (1, [.ref (E.2.2 (c + 3)), .int (zI (M c 1))]) := if_pos h.2
theorem kC_H {E : kE} {M : kM} {c : Int} (h : 6 ≤ c ∧ c < 8) : kC E M c = .inr (0, [.ref (E.2.2 (c - 6)), .ref (E.2.2 (c + 2))]) := by
  unfold kC
  rw [if_neg (by omega), if_pos h]
theorem kC_X {E : kE} {M : kM} : kC E M 10 = .inr (2, [.ref (E.2.2 6), .ref (E.2.2 7), .ref (E.2.2 2)]) := by simp [kC]
theorem kC_Y {E : kE} {M : kM} : kC E M 11 = .inr (3, [.int (zI (M 11 0)), .ref (E.2.2 12), .ref (E.2.2 15), .ref (E.2.2 16), .int (zI (M 11 4)), .ref (E.2.2 17), .ref (E.2.2 59), .ref (E.2.2 60)]) := by simp [kC]
theorem kC_L {E : kE} {M : kM} : kC E M 102 = .inl (E.2.1.2.2, 1, .inr (.inl (fun j => lI (M 102 (j : Int))))) := by simp [kC]
theorem kC_A {E : kE} {M : kM} {c : Int} {n : Nat} (h : kArr c n) : kC E M c = .inl (E.2.1.1, n, .inl (fun j => zI (M c (j : Int)))) := by
  have hl := kArr_len h
  unfold kArr at h
  unfold kC
  rw [if_neg (by omega), if_neg (by omega), if_neg (by omega), if_neg (by omega), if_neg (by omega), if_neg (by omega), if_neg (by omega), if_neg (by omega), hl]
theorem kArr_rng {c : Int} {n : Nat} (h : kArr c n) : 0 ≤ c ∧ c < 103 ∧ (n : Int) ≤ 41 := by
  unfold kArr at h
  omega
/-- a row of an array of arrays -/
def kRow (c r i : Int) (n : Nat) : Prop := (c = 12 ∧ r = 13 + i ∧ 0 ≤ i ∧ i < 2 ∧ n = 2) ∨ (c = 17 ∧ r = 18 + i ∧ 0 ≤ i ∧ i < 41 ∧ n = 41) ∨ (c = 60 ∧ r = 61 + i ∧ 0 ≤ i ∧ i < 41 ∧ n = 41)
theorem kC_G {E : kE} {M : kM} {c r i : Int} {n : Nat} (h : kRow c r i n) : ∃ f : Nat → Option Nat, kC E M c = .inl (E.2.1.2.1, n, .inr (.inr (.inr (.inr f)))) ∧ f i.toNat = some (E.2.2 r) := by
  rcases h with ⟨rfl, rfl, h1, h2, rfl⟩ | ⟨rfl, rfl, h1, h2, rfl⟩ | ⟨rfl, rfl, h1, h2, rfl⟩
  · exact ⟨kRows E.2.2 13 2, by simp [kC], by rw [kRows, if_pos (by omega), show ((i.toNat : Nat) : Int) = i by omega]⟩
  · exact ⟨kRows E.2.2 18 41, by simp [kC], by rw [kRows, if_pos (by omega), show ((i.toNat : Nat) : Int) = i by omega]⟩
  · exact ⟨kRows E.2.2 61 41, by simp [kC], by rw [kRows, if_pos (by omega), show ((i.toNat : Nat) : Int) = i by omega]⟩
/-- the links to a nest mate's private fields, which no word list holds -/
def kN (U : State) : Prop := va_Nw (.fieldLinkNest RX0 36 "HemSuffixes$Stitches" "length" "I" "HemSuffixes") U ∧ va_Nw (.fieldLinkNest RX2 37 "HemSuffixes$Stitches" "length" "I" "HemSuffixes") U ∧ va_Nw (.fieldLinkNest RX2 34 "HemSuffixes$Hem" "stitches" "LHemSuffixes$Stitches;" "HemSuffixes") U
def kK (E : kE) (U : State) : Prop := va_K E.1 vwCl (kT E) U ∧ kN U
theorem kN.warm {s U : State} (hW : s.WarmedH U.vm) (h : kN s) : kN U := ⟨va_Nw.warmF hW h.1, va_Nw.warmF hW h.2.1, va_Nw.warmF hW h.2.2⟩
theorem kN.same {u U : State} (hv : u.vm = U.vm) (h : kN u) : kN U := ⟨va_Nw.same rfl hv h.1, va_Nw.same rfl hv h.2.1, va_Nw.same rfl hv h.2.2⟩
theorem kK.warm {E : kE} {s U : State} (hW : s.WarmedH U.vm) (h : kK E s) : kK E U := ⟨va_K.moved hW.alike h.1, kN.warm hW h.2⟩
theorem kK.same {E : kE} {u U : State} (hv : u.vm = U.vm) (h : kK E u) : kK E U := ⟨va_K.moved (by rw [hv]; exact Vm.Alike.refl U.vm) h.1, kN.same hv h.2⟩
end
section
section KY
variable {p : Program} {l : Launch} {e : Env} {R : Room} {s : State} {m : MethodId} {args : Array Value} {below : List Frame} {meth : Method} {c : Code} {H : Heap} {locs : List Loc} {cells slots : Nat} {Q : State → Prop}
variable {cc : ByteArray} {pc : Nat} {ls : Array Slot} {rest : List Value} {E : kE} {M : kM} {nL : Nat} {Ts : List Cond} {own : String}
/-! numbers -/
theorem k_push (hx : p.tables.exec = Jvm.exec) (hb : c.code = cc) {n : Int} (hdg : decode cc pc = .ok (.iconst n, 1)) (k : W p l e R s m args below meth c H locs cells slots Q (F0 m (pc + 1) ls (.int (zI n) :: rest))) : W p l e R s m args below meth c H locs cells slots Q (F0 m pc ls rest) := lv_iconst hx hb hdg rfl k
theorem k_bpush (hx : p.tables.exec = Jvm.exec) (hb : c.code = cc) {n : Int} (hdg : decode cc pc = .ok (.bipush n, 2)) (hv : (Int8.ofInt n).toInt32 = zI n) (k : W p l e R s m args below meth c H locs cells slots Q (F0 m (pc + 2) ls (.int (zI n) :: rest))) : W p l e R s m args below meth c H locs cells slots Q (F0 m pc ls rest) := lv_bipush hx hb hdg hv k
theorem k_add (hx : p.tables.exec = Jvm.exec) (hb : c.code = cc) {a b : Int} (hdg : decode cc pc = .ok (.iadd, 1)) (k : W p l e R s m args below meth c H locs cells slots Q (F0 m (pc + 1) ls (.int (zI (a + b)) :: rest))) : W p l e R s m args below meth c H locs cells slots Q (F0 m pc ls (.int (zI b) :: .int (zI a) :: rest)) := lv_iadd hx hb hdg (by rw [zI_add]; exact k)
theorem k_sub (hx : p.tables.exec = Jvm.exec) (hb : c.code = cc) {a b : Int} (hdg : decode cc pc = .ok (.isub, 1)) (k : W p l e R s m args below meth c H locs cells slots Q (F0 m (pc + 1) ls (.int (zI (a - b)) :: rest))) : W p l e R s m args below meth c H locs cells slots Q (F0 m pc ls (.int (zI b) :: .int (zI a) :: rest)) := lv_isub hx hb hdg (by rw [zI_sub]; exact k)
theorem k_mul (hx : p.tables.exec = Jvm.exec) (hb : c.code = cc) {a b : Int} (hdg : decode cc pc = .ok (.imul, 1)) (k : W p l e R s m args below meth c H locs cells slots Q (F0 m (pc + 1) ls (.int (zI (a * b)) :: rest))) : W p l e R s m args below meth c H locs cells slots Q (F0 m pc ls (.int (zI b) :: .int (zI a) :: rest)) := lv_imul hx hb hdg (by rw [zI_mul]; exact k)
theorem k_rem (hx : p.tables.exec = Jvm.exec) (hb : c.code = cc) {a b : Int} (hdg : decode cc pc = .ok (.irem, 1)) (h : 0 ≤ a ∧ a ≤ 2147483647 ∧ 0 < b ∧ b ≤ 2147483647) (k : W p l e R s m args below meth c H locs cells slots Q (F0 m (pc + 1) ls (.int (zI (a % b)) :: rest))) : W p l e R s m args below meth c H locs cells slots Q (F0 m pc ls (.int (zI b) :: .int (zI a) :: rest)) :=
  lv_irem hx hb hdg (fun q => by have := (zI_eq (a := b) (b := 0) (by omega)).mp q; omega) (by rw [zI_rem h]; exact k)
theorem k_neg (hx : p.tables.exec = Jvm.exec) (hb : c.code = cc) {a : Int} (hdg : decode cc pc = .ok (.ineg, 1)) (k : W p l e R s m args below meth c H locs cells slots Q (F0 m (pc + 1) ls (.int (zI (-a)) :: rest))) : W p l e R s m args below meth c H locs cells slots Q (F0 m pc ls (.int (zI a) :: rest)) := lv_ineg hx hb hdg (by rw [zI_neg]; exact k)
theorem k_i2l (hx : p.tables.exec = Jvm.exec) (hb : c.code = cc) {a : Int} (hdg : decode cc pc = .ok (.i2l, 1)) (h : -2147483648 ≤ a ∧ a ≤ 2147483647) (k : W p l e R s m args below meth c H locs cells slots Q (F0 m (pc + 1) ls (.long (lI a) :: rest))) : W p l e R s m args below meth c H locs cells slots Q (F0 m pc ls (.int (zI a) :: rest)) := lv_i2l hx hb hdg (zI_long h) k
theorem k_ladd (hx : p.tables.exec = Jvm.exec) (hb : c.code = cc) {a b : Int} (hdg : decode cc pc = .ok (.ladd, 1)) (k : W p l e R s m args below meth c H locs cells slots Q (F0 m (pc + 1) ls (.long (lI (a + b)) :: rest))) : W p l e R s m args below meth c H locs cells slots Q (F0 m pc ls (.long (lI b) :: .long (lI a) :: rest)) := lv_ladd hx hb hdg (by rw [lI_add]; exact k)
theorem k_lmul (hx : p.tables.exec = Jvm.exec) (hb : c.code = cc) {a b : Int} (hdg : decode cc pc = .ok (.lmul, 1)) (k : W p l e R s m args below meth c H locs cells slots Q (F0 m (pc + 1) ls (.long (lI (a * b)) :: rest))) : W p l e R s m args below meth c H locs cells slots Q (F0 m pc ls (.long (lI b) :: .long (lI a) :: rest)) := lv_lmul hx hb hdg (by rw [lI_mul]; exact k)
theorem k_inc (hx : p.tables.exec = Jvm.exec) (hb : c.code = cc) {i k : Nat} {n a : Int} {lv lv' : List (Nat × Value)} (hdg : decode cc pc = .ok (.iinc i n, 3)) (h : lv_has ls nL lv) (hk : lv[k]? = some (i, .int (zI a))) (hn : i < nL) (hl : (i, Value.int (zI (a + n))) :: lv.filter (fun q => !(q.1 == i) && !(q.1 + 1 == i && q.2.category == 2)) = lv')
    (kk : ∀ ls' : Array Slot, lv_has ls' nL lv' → W p l e R s m args below meth c H locs cells slots Q (F0 m (pc + 3) ls' rest)) : W p l e R s m args below meth c H locs cells slots Q (F0 m pc ls rest) :=
  lv_iinc (v := zI (a + n)) hx hb hdg h hk (zI_add a n) hn hl kk
theorem k_incN (hx : p.tables.exec = Jvm.exec) (hb : c.code = cc) {i k : Nat} {n a v : Int} {lv lv' : List (Nat × Value)} (hdg : decode cc pc = .ok (.iinc i n, 3)) (h : lv_has ls nL lv) (hk : lv[k]? = some (i, .int (zI a))) (hv : v = a + n) (hn : i < nL) (hl : (i, Value.int (zI v)) :: lv.filter (fun q => !(q.1 == i) && !(q.1 + 1 == i && q.2.category == 2)) = lv')
    (kk : ∀ ls' : Array Slot, lv_has ls' nL lv' → W p l e R s m args below meth c H locs cells slots Q (F0 m (pc + 3) ls' rest)) : W p l e R s m args below meth c H locs cells slots Q (F0 m pc ls rest) :=
  lv_iinc (v := zI v) hx hb hdg h hk (by rw [hv]; exact zI_add a n) hn hl kk
theorem k_nm {a : Int} (k : ∀ v : Int, v = a → W p l e R s m args below meth c H locs cells slots Q (F0 m pc ls (.int (zI v) :: rest))) : W p l e R s m args below meth c H locs cells slots Q (F0 m pc ls (.int (zI a) :: rest)) := k a rfl
theorem k_nml {a : Int} (k : ∀ v : Int, v = a → W p l e R s m args below meth c H locs cells slots Q (F0 m pc ls (.long (lI v) :: rest))) : W p l e R s m args below meth c H locs cells slots Q (F0 m pc ls (.long (lI a) :: rest)) := k a rfl
theorem k_ldc2 (hx : p.tables.exec = Jvm.exec) (hb : c.code = cc) {index : Nat} {v : Int64} (hown : s.vm.findClass own = some m.cls) (hconst : (Cond.constantLong own index v).before args s = true) {n : Int} (hv : v = lI n) (hdg : decode cc pc = .ok (.ldc2_w index, 3)) (k : W p l e R s m args below meth c H locs cells slots Q (F0 m (pc + 3) ls (.long (lI n) :: rest))) : W p l e R s m args below meth c H locs cells slots Q (F0 m pc ls rest) := by
  subst hv
  exact lv_ldc2 hx hb hown hconst hdg k
/-! branches -/
theorem k_lt (hx : p.tables.exec = Jvm.exec) (hb : c.code = cc) {a b : Int} {off : Int} {tgt : Nat} (hdg : decode cc pc = .ok (.if_icmp .lt off, 3)) (ht : (pc : Int) + off = (tgt : Int)) (h : -2147483648 ≤ a ∧ a ≤ 2147483647 ∧ -2147483648 ≤ b ∧ b ≤ 2147483647)
    (kt : a < b → W p l e R s m args below meth c H locs cells slots Q (F0 m tgt ls rest)) (kf : b ≤ a → W p l e R s m args below meth c H locs cells slots Q (F0 m (pc + 3) ls rest)) : W p l e R s m args below meth c H locs cells slots Q (F0 m pc ls (.int (zI b) :: .int (zI a) :: rest)) :=
  lv_icmp_lt hx hb hdg ht (fun q => kt ((zI_lt h).mp q)) (fun q => kf (by rw [zI_lt h] at q; omega))
theorem k_le (hx : p.tables.exec = Jvm.exec) (hb : c.code = cc) {a b : Int} {off : Int} {tgt : Nat} (hdg : decode cc pc = .ok (.if_icmp .le off, 3)) (ht : (pc : Int) + off = (tgt : Int)) (h : -2147483648 ≤ a ∧ a ≤ 2147483647 ∧ -2147483648 ≤ b ∧ b ≤ 2147483647)
    (kt : a ≤ b → W p l e R s m args below meth c H locs cells slots Q (F0 m tgt ls rest)) (kf : b < a → W p l e R s m args below meth c H locs cells slots Q (F0 m (pc + 3) ls rest)) : W p l e R s m args below meth c H locs cells slots Q (F0 m pc ls (.int (zI b) :: .int (zI a) :: rest)) :=
  lv_icmp_le hx hb hdg ht (fun q => kt ((zI_le h).mp q)) (fun q => kf (by rw [zI_le h] at q; omega))
theorem k_gt (hx : p.tables.exec = Jvm.exec) (hb : c.code = cc) {a b : Int} {off : Int} {tgt : Nat} (hdg : decode cc pc = .ok (.if_icmp .gt off, 3)) (ht : (pc : Int) + off = (tgt : Int)) (h : -2147483648 ≤ a ∧ a ≤ 2147483647 ∧ -2147483648 ≤ b ∧ b ≤ 2147483647)
    (kt : b < a → W p l e R s m args below meth c H locs cells slots Q (F0 m tgt ls rest)) (kf : a ≤ b → W p l e R s m args below meth c H locs cells slots Q (F0 m (pc + 3) ls rest)) : W p l e R s m args below meth c H locs cells slots Q (F0 m pc ls (.int (zI b) :: .int (zI a) :: rest)) :=
  lv_icmp_gt hx hb hdg ht (fun q => kt ((zI_lt (by omega)).mp q)) (fun q => kf (by rw [zI_lt (by omega)] at q; omega))
theorem k_ge (hx : p.tables.exec = Jvm.exec) (hb : c.code = cc) {a b : Int} {off : Int} {tgt : Nat} (hdg : decode cc pc = .ok (.if_icmp .ge off, 3)) (ht : (pc : Int) + off = (tgt : Int)) (h : -2147483648 ≤ a ∧ a ≤ 2147483647 ∧ -2147483648 ≤ b ∧ b ≤ 2147483647)
    (kt : b ≤ a → W p l e R s m args below meth c H locs cells slots Q (F0 m tgt ls rest)) (kf : a < b → W p l e R s m args below meth c H locs cells slots Q (F0 m (pc + 3) ls rest)) : W p l e R s m args below meth c H locs cells slots Q (F0 m pc ls (.int (zI b) :: .int (zI a) :: rest)) :=
  lv_icmp_ge hx hb hdg ht (fun q => kt ((zI_le (by omega)).mp q)) (fun q => kf (by rw [zI_le (by omega)] at q; omega))
theorem k_eq (hx : p.tables.exec = Jvm.exec) (hb : c.code = cc) {a b : Int} {off : Int} {tgt : Nat} (hdg : decode cc pc = .ok (.if_icmp .eq off, 3)) (ht : (pc : Int) + off = (tgt : Int)) (h : -2147483648 ≤ a ∧ a ≤ 2147483647 ∧ -2147483648 ≤ b ∧ b ≤ 2147483647)
    (kt : a = b → W p l e R s m args below meth c H locs cells slots Q (F0 m tgt ls rest)) (kf : a ≠ b → W p l e R s m args below meth c H locs cells slots Q (F0 m (pc + 3) ls rest)) : W p l e R s m args below meth c H locs cells slots Q (F0 m pc ls (.int (zI b) :: .int (zI a) :: rest)) :=
  lv_icmp_eq hx hb hdg ht (fun q => kt ((zI_eq h).mp q)) (fun q => kf (fun z => q ((zI_eq h).mpr z)))
theorem k_ne (hx : p.tables.exec = Jvm.exec) (hb : c.code = cc) {a b : Int} {off : Int} {tgt : Nat} (hdg : decode cc pc = .ok (.if_icmp .ne off, 3)) (ht : (pc : Int) + off = (tgt : Int)) (h : -2147483648 ≤ a ∧ a ≤ 2147483647 ∧ -2147483648 ≤ b ∧ b ≤ 2147483647)
    (kt : a ≠ b → W p l e R s m args below meth c H locs cells slots Q (F0 m tgt ls rest)) (kf : a = b → W p l e R s m args below meth c H locs cells slots Q (F0 m (pc + 3) ls rest)) : W p l e R s m args below meth c H locs cells slots Q (F0 m pc ls (.int (zI b) :: .int (zI a) :: rest)) :=
  lv_icmp_ne hx hb hdg ht (fun q => kt (fun z => q ((zI_eq h).mpr z))) (fun q => kf ((zI_eq h).mp q))
theorem k_lt0 (hx : p.tables.exec = Jvm.exec) (hb : c.code = cc) {a : Int} {off : Int} {tgt : Nat} (hdg : decode cc pc = .ok (.ifCond .lt off, 3)) (ht : (pc : Int) + off = (tgt : Int)) (h : -2147483648 ≤ a ∧ a ≤ 2147483647)
    (kt : a < 0 → W p l e R s m args below meth c H locs cells slots Q (F0 m tgt ls rest)) (kf : 0 ≤ a → W p l e R s m args below meth c H locs cells slots Q (F0 m (pc + 3) ls rest)) : W p l e R s m args below meth c H locs cells slots Q (F0 m pc ls (.int (zI a) :: rest)) :=
  lv_if_lt hx hb hdg ht (fun q => kt ((zI_lt (b := 0) (by omega)).mp q)) (fun q => kf (by rw [zI_0, zI_lt (by omega)] at q; omega))
theorem k_le0 (hx : p.tables.exec = Jvm.exec) (hb : c.code = cc) {a : Int} {off : Int} {tgt : Nat} (hdg : decode cc pc = .ok (.ifCond .le off, 3)) (ht : (pc : Int) + off = (tgt : Int)) (h : -2147483648 ≤ a ∧ a ≤ 2147483647)
    (kt : a ≤ 0 → W p l e R s m args below meth c H locs cells slots Q (F0 m tgt ls rest)) (kf : 0 < a → W p l e R s m args below meth c H locs cells slots Q (F0 m (pc + 3) ls rest)) : W p l e R s m args below meth c H locs cells slots Q (F0 m pc ls (.int (zI a) :: rest)) :=
  lv_if_le hx hb hdg ht (fun q => kt ((zI_le (b := 0) (by omega)).mp q)) (fun q => kf (by rw [zI_0, zI_le (by omega)] at q; omega))
theorem k_gt0 (hx : p.tables.exec = Jvm.exec) (hb : c.code = cc) {a : Int} {off : Int} {tgt : Nat} (hdg : decode cc pc = .ok (.ifCond .gt off, 3)) (ht : (pc : Int) + off = (tgt : Int)) (h : -2147483648 ≤ a ∧ a ≤ 2147483647)
    (kt : 0 < a → W p l e R s m args below meth c H locs cells slots Q (F0 m tgt ls rest)) (kf : a ≤ 0 → W p l e R s m args below meth c H locs cells slots Q (F0 m (pc + 3) ls rest)) : W p l e R s m args below meth c H locs cells slots Q (F0 m pc ls (.int (zI a) :: rest)) :=
  lv_if_gt hx hb hdg ht (fun q => kt ((zI_lt (a := 0) (by omega)).mp q)) (fun q => kf (by rw [zI_0, zI_lt (by omega)] at q; omega))
theorem k_ge0 (hx : p.tables.exec = Jvm.exec) (hb : c.code = cc) {a : Int} {off : Int} {tgt : Nat} (hdg : decode cc pc = .ok (.ifCond .ge off, 3)) (ht : (pc : Int) + off = (tgt : Int)) (h : -2147483648 ≤ a ∧ a ≤ 2147483647)
    (kt : 0 ≤ a → W p l e R s m args below meth c H locs cells slots Q (F0 m tgt ls rest)) (kf : a < 0 → W p l e R s m args below meth c H locs cells slots Q (F0 m (pc + 3) ls rest)) : W p l e R s m args below meth c H locs cells slots Q (F0 m pc ls (.int (zI a) :: rest)) :=
  lv_if_ge hx hb hdg ht (fun q => kt ((zI_le (a := 0) (by omega)).mp q)) (fun q => kf (by rw [zI_0, zI_le (by omega)] at q; omega))
theorem k_eq0 (hx : p.tables.exec = Jvm.exec) (hb : c.code = cc) {a : Int} {off : Int} {tgt : Nat} (hdg : decode cc pc = .ok (.ifCond .eq off, 3)) (ht : (pc : Int) + off = (tgt : Int)) (h : -2147483648 ≤ a ∧ a ≤ 2147483647)
    (kt : a = 0 → W p l e R s m args below meth c H locs cells slots Q (F0 m tgt ls rest)) (kf : a ≠ 0 → W p l e R s m args below meth c H locs cells slots Q (F0 m (pc + 3) ls rest)) : W p l e R s m args below meth c H locs cells slots Q (F0 m pc ls (.int (zI a) :: rest)) :=
  lv_if_eq hx hb hdg ht (fun q => kt ((zI_eq (b := 0) (by omega)).mp q)) (fun q => kf (fun z => q (by rw [z]; rfl)))
theorem k_ne0 (hx : p.tables.exec = Jvm.exec) (hb : c.code = cc) {a : Int} {off : Int} {tgt : Nat} (hdg : decode cc pc = .ok (.ifCond .ne off, 3)) (ht : (pc : Int) + off = (tgt : Int)) (h : -2147483648 ≤ a ∧ a ≤ 2147483647)
    (kt : a ≠ 0 → W p l e R s m args below meth c H locs cells slots Q (F0 m tgt ls rest)) (kf : a = 0 → W p l e R s m args below meth c H locs cells slots Q (F0 m (pc + 3) ls rest)) : W p l e R s m args below meth c H locs cells slots Q (F0 m pc ls (.int (zI a) :: rest)) :=
  lv_if_ne hx hb hdg ht (fun q => kt (fun z => q (by rw [z]; rfl))) (fun q => kf ((zI_eq (b := 0) (by omega)).mp q))
/-! fields: the classes of the world are 0 Hem, 1 Stitches, 2 HemSuffixes, 3 HemSuffixesModel -/
theorem k_get (S : CallFix p m c cc nL s args Ts own) (hK : kK E s) (hP : va_P E.1 vwCl (kW E M) H) {x : Int} (hx : 0 ≤ x ∧ x < 103) {C ref : String} {T : u_T} {N ci index : Nat} {fs : List Value} (he : kC E M x = .inr (ci, fs)) (hc : vwCl[ci]? = some (C, T, N)) (hin : ∀ w ∈ u_ws C T N, w ∈ Ts) (k : Nat) (hk : k < N)
    (hlink : (Cond.fieldLink own index ref (T k).2.1 (T k).2.2.1).before args s = true) (hsame : (T k).1 = ref) {v : Value} (hv : fs[k]? = some v) (hdg : decode cc pc = .ok (.getfield index, 3)) (kk : W p l e R s m args below meth c H locs cells slots Q (F0 m (pc + 3) ls (v :: rest))) : W p l e R s m args below meth c H locs cells slots Q (F0 m pc ls (.ref (E.2.2 x) :: rest)) :=
  va_get S.1 S.2.1 S.2.2.2.2 hin S.2.2.2.1 hK.1 hP x.toNat (by rw [kW_get E M hx, he]) hc k hk hlink (fun y hy => by rw [← hsame]; exact hy) hv hdg kk
theorem k_kinds (S : CallFix p m c cc nL s args Ts own) (hK : kK E s) (hP : va_P E.1 vwCl (kW E M) H) (hin : ∀ w ∈ wsX10, w ∈ Ts) {index : Nat} (hlink : (Cond.fieldLink own index "HemSuffixes$Stitches" "kinds" "[I").before args s = true) (hdg : decode cc pc = .ok (.getfield index, 3)) {x : Int} (hc : 0 ≤ x ∧ x < 3)
    (kk : W p l e R s m args below meth c H locs cells slots Q (F0 m (pc + 3) ls (.ref (E.2.2 (x + 3)) :: rest))) : W p l e R s m args below meth c H locs cells slots Q (F0 m pc ls (.ref (E.2.2 x) :: rest)) :=
  k_get (C := RX1) (T := TX1) S hK hP (by omega) (kC_S hc) rfl hin 0 (by decide) hlink rfl rfl hdg kk
theorem k_length (S : CallFix p m c cc nL s args Ts own) (hK : kK E s) (hP : va_P E.1 vwCl (kW E M) H) (hin : ∀ w ∈ wsX10, w ∈ Ts) {index : Nat} (hlink : (Cond.fieldLink own index "HemSuffixes$Stitches" "length" "I").before args s = true) (hdg : decode cc pc = .ok (.getfield index, 3)) {x : Int} (hc : 0 ≤ x ∧ x < 3)
    (kk : W p l e R s m args below meth c H locs cells slots Q (F0 m (pc + 3) ls (.int (zI (M x 1)) :: rest))) : W p l e R s m args below meth c H locs cells slots Q (F0 m pc ls (.ref (E.2.2 x) :: rest)) :=
  k_get (C := RX1) (T := TX1) S hK hP (by omega) (kC_S hc) rfl hin 1 (by decide) hlink rfl rfl hdg kk
theorem k_stitches (S : CallFix p m c cc nL s args Ts own) (hK : kK E s) (hP : va_P E.1 vwCl (kW E M) H) (hin : ∀ w ∈ wsX00, w ∈ Ts) {index : Nat} (hlink : (Cond.fieldLink own index "HemSuffixes$Hem" "stitches" "LHemSuffixes$Stitches;").before args s = true) (hdg : decode cc pc = .ok (.getfield index, 3)) {x : Int} (hc : 6 ≤ x ∧ x < 8) (y : Int) (hy : y = x - 6)
    (kk : W p l e R s m args below meth c H locs cells slots Q (F0 m (pc + 3) ls (.ref (E.2.2 y) :: rest))) : W p l e R s m args below meth c H locs cells slots Q (F0 m pc ls (.ref (E.2.2 x) :: rest)) := by
  subst hy
  exact k_get (C := RX0) (T := TX0) S hK hP (by omega) (kC_H hc) rfl hin 0 (by decide) hlink rfl rfl hdg kk
theorem k_order (S : CallFix p m c cc nL s args Ts own) (hK : kK E s) (hP : va_P E.1 vwCl (kW E M) H) (hin : ∀ w ∈ wsX00, w ∈ Ts) {index : Nat} (hlink : (Cond.fieldLink own index "HemSuffixes$Hem" "placesInOrder" "[I").before args s = true) (hdg : decode cc pc = .ok (.getfield index, 3)) {x : Int} (hc : 6 ≤ x ∧ x < 8) (y : Int) (hy : y = x + 2)
    (kk : W p l e R s m args below meth c H locs cells slots Q (F0 m (pc + 3) ls (.ref (E.2.2 y) :: rest))) : W p l e R s m args below meth c H locs cells slots Q (F0 m pc ls (.ref (E.2.2 x) :: rest)) := by
  subst hy
  exact k_get (C := RX0) (T := TX0) S hK hP (by omega) (kC_H hc) rfl hin 1 (by decide) hlink rfl rfl hdg kk
theorem k_getN (S : CallFix p m c cc nL s args Ts own) (hK : kK E s) (hP : va_P E.1 vwCl (kW E M) H) {x : Int} (hx : 0 ≤ x ∧ x < 103) {C ref host : String} {T : u_T} {N ci index : Nat} {fs : List Value} (he : kC E M x = .inr (ci, fs)) (hc : vwCl[ci]? = some (C, T, N)) (hin : ∀ w ∈ u_ws C T N, w ∈ Ts) (k : Nat) (hk : k < N)
    (hlink : va_Nw (.fieldLinkNest own index ref (T k).2.1 (T k).2.2.1 host) s) (hsame : (T k).1 = ref) {v : Value} (hv : fs[k]? = some v) (hdg : decode cc pc = .ok (.getfield index, 3)) (kk : W p l e R s m args below meth c H locs cells slots Q (F0 m (pc + 3) ls (v :: rest))) : W p l e R s m args below meth c H locs cells slots Q (F0 m pc ls (.ref (E.2.2 x) :: rest)) :=
  va_getN S.1 S.2.1 S.2.2.2.2 hin S.2.2.2.1 hK.1 hP x.toNat (by rw [kW_get E M hx, he]) hc k hk (va_Nw.use rfl hlink) (fun y hy => by rw [← hsame]; exact hy) hv hdg kk
theorem k_lengthN (S : CallFix p m c cc nL s args Ts own) (hK : kK E s) (hP : va_P E.1 vwCl (kW E M) H) (hin : ∀ w ∈ wsX10, w ∈ Ts) {index : Nat} (hlink : va_Nw (.fieldLinkNest own index "HemSuffixes$Stitches" "length" "I" "HemSuffixes") s) (hdg : decode cc pc = .ok (.getfield index, 3)) {x : Int} (hc : 0 ≤ x ∧ x < 3)
    (kk : W p l e R s m args below meth c H locs cells slots Q (F0 m (pc + 3) ls (.int (zI (M x 1)) :: rest))) : W p l e R s m args below meth c H locs cells slots Q (F0 m pc ls (.ref (E.2.2 x) :: rest)) :=
  k_getN (C := RX1) (T := TX1) S hK hP (by omega) (kC_S hc) rfl hin 1 (by decide) hlink rfl rfl hdg kk
theorem k_stitchesN (S : CallFix p m c cc nL s args Ts own) (hK : kK E s) (hP : va_P E.1 vwCl (kW E M) H) (hin : ∀ w ∈ wsX00, w ∈ Ts) {index : Nat} (hlink : va_Nw (.fieldLinkNest own index "HemSuffixes$Hem" "stitches" "LHemSuffixes$Stitches;" "HemSuffixes") s) (hdg : decode cc pc = .ok (.getfield index, 3)) {x : Int} (hc : 6 ≤ x ∧ x < 8) (y : Int) (hy : y = x - 6)
    (kk : W p l e R s m args below meth c H locs cells slots Q (F0 m (pc + 3) ls (.ref (E.2.2 y) :: rest))) : W p l e R s m args below meth c H locs cells slots Q (F0 m pc ls (.ref (E.2.2 x) :: rest)) := by
  subst hy
  exact k_getN (C := RX0) (T := TX0) S hK hP (by omega) (kC_H hc) rfl hin 0 (by decide) hlink rfl rfl hdg kk
/-- a reference held by the HemSuffixes object: field k leads to cell y -/
theorem k_own (S : CallFix p m c cc nL s args Ts own) (hK : kK E s) (hP : va_P E.1 vwCl (kW E M) H) (hin : ∀ w ∈ wsX20, w ∈ Ts) (k : Nat) (hk : k < 3) {index : Nat} (hlink : (Cond.fieldLink own index "HemSuffixes" (TX2 k).2.1 (TX2 k).2.2.1).before args s = true) (hdg : decode cc pc = .ok (.getfield index, 3)) {x : Int} (hc : x = 10) (y : Int) (hy : ([.ref (E.2.2 6), .ref (E.2.2 7), .ref (E.2.2 2)] : List Value)[k]? = some (.ref (E.2.2 y))) (hs : (TX2 k).1 = "HemSuffixes")
    (kk : W p l e R s m args below meth c H locs cells slots Q (F0 m (pc + 3) ls (.ref (E.2.2 y) :: rest))) : W p l e R s m args below meth c H locs cells slots Q (F0 m pc ls (.ref (E.2.2 x) :: rest)) := by
  subst hc
  exact k_get (C := RX2) (T := TX2) S hK hP (by omega) kC_X rfl hin k hk hlink hs hy hdg kk
/-- what the model holds: field k, a reference or an int -/
theorem k_mod (S : CallFix p m c cc nL s args Ts own) (hK : kK E s) (hP : va_P E.1 vwCl (kW E M) H) (hin : ∀ w ∈ wsX30, w ∈ Ts) (k : Nat) (hk : k < 8) {index : Nat} (hlink : (Cond.fieldLink own index "HemSuffixesModel" (TX3 k).2.1 (TX3 k).2.2.1).before args s = true) (hdg : decode cc pc = .ok (.getfield index, 3)) {x : Int} (hc : x = 11) (v : Value)
    (hy : ([.int (zI (M 11 0)), .ref (E.2.2 12), .ref (E.2.2 15), .ref (E.2.2 16), .int (zI (M 11 4)), .ref (E.2.2 17), .ref (E.2.2 59), .ref (E.2.2 60)] : List Value)[k]? = some v) (hs : (TX3 k).1 = "HemSuffixesModel")
    (kk : W p l e R s m args below meth c H locs cells slots Q (F0 m (pc + 3) ls (v :: rest))) : W p l e R s m args below meth c H locs cells slots Q (F0 m pc ls (.ref (E.2.2 x) :: rest)) := by
  subst hc
  exact k_get (C := RX3) (T := TX3) S hK hP (by omega) kC_Y rfl hin k hk hlink hs hy hdg kk
/-! stores into fields: a world's number changes -/
theorem k_putlength (S : CallFix p m c cc nL s args Ts own) (hK : kK E s) (hE : kInj E) {sz : Nat} {H0 : Heap} (hP : va_P E.1 vwCl (kW E M) H) (hS : va_S (kA E sz) H0 H locs) (hin : ∀ w ∈ wsX10, w ∈ Ts) {index : Nat} (hlink : (Cond.fieldLink own index "HemSuffixes$Stitches" "length" "I").before args s = true) (hdg : decode cc pc = .ok (.putfield index, 3)) {x v : Int} (hc : 0 ≤ x ∧ x < 3)
    (kk : ∀ (H1 : Heap) (locs1 : List Loc), va_P E.1 vwCl (kW E (kU M x 1 v)) H1 → va_S (kA E sz) H0 H1 locs1 → W p l e R s m args below meth c H1 locs1 cells slots Q (F0 m (pc + 3) ls rest)) : W p l e R s m args below meth c H locs cells slots Q (F0 m pc ls (.int (zI v) :: .ref (E.2.2 x) :: rest)) := by
  refine va_put (ty := .int) (C := RX1) (T := TX1) (N := 2) (ci := 1) S.1 S.2.1 S.2.2.2.2 hin tyX1 tyX1_ok nmX1 S.2.2.2.1 hK.1 hP (kW_DA hE M sz) hS x.toNat (by rw [kW_get E M (by omega), kC_S hc]) rfl 1 (by decide) hlink (fun y hy => hy) rfl rfl rfl rfl (Nat.le_of_ble_eq_true rfl) hdg (fun H1 locs1 h1 _ h3 => kk H1 locs1 ?_ h3)
  rw [kW_set (M' := kU M x 1 v) (by omega) (by rw [kC_S hc, kU_same]; rfl) (fun k hk i => kU_cell hk)] at h1
  exact h1
theorem k_putmod (S : CallFix p m c cc nL s args Ts own) (hK : kK E s) (hE : kInj E) {sz : Nat} {H0 : Heap} (hP : va_P E.1 vwCl (kW E M) H) (hS : va_S (kA E sz) H0 H locs) (hin : ∀ w ∈ wsX30, w ∈ Ts) (k : Nat) (hk0 : k = 0 ∨ k = 4) {index : Nat} (hlink : (Cond.fieldLink own index "HemSuffixesModel" (TX3 k).2.1 (TX3 k).2.2.1).before args s = true) (hdg : decode cc pc = .ok (.putfield index, 3)) {x v : Int} (hc : x = 11)
    (kk : ∀ (H1 : Heap) (locs1 : List Loc), va_P E.1 vwCl (kW E (kU M 11 (k : Int) v)) H1 → va_S (kA E sz) H0 H1 locs1 → W p l e R s m args below meth c H1 locs1 cells slots Q (F0 m (pc + 3) ls rest)) : W p l e R s m args below meth c H locs cells slots Q (F0 m pc ls (.int (zI v) :: .ref (E.2.2 x) :: rest)) := by
  subst hc
  rcases hk0 with rfl | rfl
  · refine va_put (ty := .int) (C := RX3) (T := TX3) (N := 8) (ci := 3) S.1 S.2.1 S.2.2.2.2 hin tyX3 tyX3_ok nmX3 S.2.2.2.1 hK.1 hP (kW_DA hE M sz) hS 11 (by rw [show (11 : Nat) = (11 : Int).toNat from rfl, kW_get E M (by omega), kC_Y]) rfl 0 (by decide) hlink (fun y hy => hy) rfl rfl rfl rfl (Nat.le_of_ble_eq_true rfl) hdg (fun H1 locs1 h1 _ h3 => kk H1 locs1 ?_ h3)
    rw [show (11 : Nat) = (11 : Int).toNat from rfl, kW_set (M' := kU M 11 0 v) (by omega) (by rw [kC_Y, kU_same, kU_place (by decide)]; rfl) (fun k hk i => kU_cell hk)] at h1
    exact h1
  · refine va_put (ty := .int) (C := RX3) (T := TX3) (N := 8) (ci := 3) S.1 S.2.1 S.2.2.2.2 hin tyX3 tyX3_ok nmX3 S.2.2.2.1 hK.1 hP (kW_DA hE M sz) hS 11 (by rw [show (11 : Nat) = (11 : Int).toNat from rfl, kW_get E M (by omega), kC_Y]) rfl 4 (by decide) hlink (fun y hy => hy) rfl rfl rfl rfl (Nat.le_of_ble_eq_true rfl) hdg (fun H1 locs1 h1 _ h3 => kk H1 locs1 ?_ h3)
    rw [show (11 : Nat) = (11 : Int).toNat from rfl, kW_set (M' := kU M 11 4 v) (by omega) (by rw [kC_Y, kU_same, kU_place (by decide)]; rfl) (fun k hk i => kU_cell hk)] at h1
    exact h1
/-! arrays -/
theorem k_ald (S : CallFix p m c cc nL s args Ts own) (hK : kK E s) (hP : va_P E.1 vwCl (kW E M) H) {x i : Int} (n : Nat) (hc : kArr x n) (hi : 0 ≤ i ∧ i < (n : Int)) (hdg : decode cc pc = .ok (.iaload, 1))
    (kk : W p l e R s m args below meth c H locs cells slots Q (F0 m (pc + 1) ls (.int (zI (M x i)) :: rest))) : W p l e R s m args below meth c H locs cells slots Q (F0 m pc ls (.int (zI i) :: .ref (E.2.2 x) :: rest)) := by
  have hr := kArr_rng hc
  refine va_iald S.1 S.2.1 hK.1 hP x.toNat 0 (by rw [kW_get E M (by omega), kC_A hc]) rfl (zI_in hi (by omega)) hdg ?_
  rw [zI_nat (by omega), show ((i.toNat : Nat) : Int) = i by omega]
  exact kk
theorem k_ast (S : CallFix p m c cc nL s args Ts own) (hK : kK E s) (hE : kInj E) {sz : Nat} {H0 : Heap} (hP : va_P E.1 vwCl (kW E M) H) (hS : va_S (kA E sz) H0 H locs) {x i v : Int} (n : Nat) (hc : kArr x n) (hi : 0 ≤ i ∧ i < (n : Int)) (hdg : decode cc pc = .ok (.iastore, 1))
    (kk : ∀ (H1 : Heap) (locs1 : List Loc), va_P E.1 vwCl (kW E (kU M x i v)) H1 → va_S (kA E sz) H0 H1 locs1 → W p l e R s m args below meth c H1 locs1 cells slots Q (F0 m (pc + 1) ls rest)) : W p l e R s m args below meth c H locs cells slots Q (F0 m pc ls (.int (zI v) :: .int (zI i) :: .ref (E.2.2 x) :: rest)) := by
  have hr := kArr_rng hc
  refine va_iast S.1 S.2.1 hK.1 hP (kW_DA hE M sz) hS x.toNat 0 (by rw [kW_get E M (by omega), kC_A hc]) rfl (zI_in hi (by omega)) hdg (fun H1 locs1 h1 _ h3 => kk H1 locs1 ?_ h3)
  rw [kW_set (M' := kU M x i v) (by omega) ?_ (fun k hk i => kU_cell hk)] at h1
  · exact h1
  · rw [kC_A hc, zI_nat (by omega)]
    congr 4
    funext j
    unfold upd
    split
    · rename_i h
      rw [h, show ((i.toNat : Nat) : Int) = i by omega, kU_same]
    · rw [kU_place (by omega)]
theorem k_alen (S : CallFix p m c cc nL s args Ts own) (hK : kK E s) (hP : va_P E.1 vwCl (kW E M) H) {x : Int} (n : Nat) (hc : kArr x n) (hdg : decode cc pc = .ok (.arraylength, 1))
    (kk : W p l e R s m args below meth c H locs cells slots Q (F0 m (pc + 1) ls (.int (zI (n : Int)) :: rest))) : W p l e R s m args below meth c H locs cells slots Q (F0 m pc ls (.ref (E.2.2 x) :: rest)) := by
  have hr := kArr_rng hc
  exact va_alen (v := zI (n : Int)) S.1 S.2.1 hK.1 hP x.toNat 0 (by rw [kW_get E M (by omega), kC_A hc]) rfl (by rw [zI]; exact (Int32.ofInt_eq_ofNat).symm) hdg kk
theorem k_aald (S : CallFix p m c cc nL s args Ts own) (hK : kK E s) (hP : va_P E.1 vwCl (kW E M) H) {x i : Int} (r : Int) (n : Nat) (hc : kRow x r i n) (hdg : decode cc pc = .ok (.aaload, 1))
    (kk : W p l e R s m args below meth c H locs cells slots Q (F0 m (pc + 1) ls (.ref (E.2.2 r) :: rest))) : W p l e R s m args below meth c H locs cells slots Q (F0 m pc ls (.int (zI i) :: .ref (E.2.2 x) :: rest)) := by
  obtain ⟨f, h1, h2⟩ := kC_G (E := E) (M := M) hc
  have hr : 0 ≤ x ∧ x < 103 ∧ 0 ≤ i ∧ i < (n : Int) ∧ n ≤ 41 := by unfold kRow at hc; omega
  have hlt : (zI i).toNatClampNeg < n := by rw [zI_nat (by omega)]; omega
  have hin : vp_in (zI i) n := zI_in (by omega) (by omega)
  have ha : (kW E M)[x.toNat]? = some (E.2.2 x, .inl (E.2.1.2.1, n, .inr (.inr (.inr (.inr f))))) := by rw [kW_get E M (by omega), h1]
  refine W.aald (v := .ref (E.2.2 r)) (ty := .array .int) S.1 S.2.1 (hP x.toNat _ ha) ((hK.1.2 1 (E.2.1.2.1, .array .int) rfl).1 n (fun j => va_rf (f j))) rfl (fun q => by cases q) (by show ¬ (zI i < 0 ∨ (arrV _ _ _).slots.size ≤ _); rw [arrV_size]; exact hin) ?_ rfl rfl hdg kk
  show (arrV _ _ _).slots[_]? = _
  rw [arrV_read _ _ hlt, zI_nat (by omega), h2]
  rfl
end KY
end
section
/-! contracts over the world of 103 cells: kRO reads alone (an int), kROl (a long), kRW (an int, the world changes), kRV (nothing comes back) -/
def kPre (E : kE) (M : kM) (av : List Value) : Array Value → State → Prop := va_Pc av (fun U => va_P E.1 vwCl (kW E M) U.heap ∧ kK E U)
def kPreW (E : kE) (M : kM) (sz : Nat) (av : List Value) : Array Value → State → Prop := va_Pc av (fun U => U.heap.size = sz ∧ va_P E.1 vwCl (kW E M) U.heap ∧ kK E U)
def kRO (l : Launch) (y : MethodName) (ws : List Cond) (rm : Room) (E : kE) (M : kM) (av : List Value) (post : Int → Prop) : Prop := Met l y ws rm (kPre E M av) (vp_Si (fun r => ∃ z : Int, r = zI z ∧ post z)) 0 0 (fun _ => False)
def kROl (l : Launch) (y : MethodName) (ws : List Cond) (rm : Room) (E : kE) (M : kM) (av : List Value) (post : Int → Prop) : Prop := Met l y ws rm (kPre E M av) (vp_Sl (fun r => ∃ z : Int, r = lI z ∧ post z)) 0 0 (fun _ => False)
def kRW (l : Launch) (y : MethodName) (ws : List Cond) (rm : Room) (E : kE) (M : kM) (av : List Value) (post : Int → kM → Prop) : Prop := ∀ sz : Nat, Met l y ws rm (kPreW E M sz av) (va_Qi (fun r (u : Int × kM) => r = zI u.1 ∧ post u.1 u.2) (fun u t => va_P E.1 vwCl (kW E u.2) t.heap) (kA E sz)) 0 0 (kA E sz)
def kRWl (l : Launch) (y : MethodName) (ws : List Cond) (rm : Room) (E : kE) (M : kM) (av : List Value) (post : Int → kM → Prop) : Prop := ∀ sz : Nat, Met l y ws rm (kPreW E M sz av) (va_Ql (fun r (u : Int × kM) => r = lI u.1 ∧ post u.1 u.2) (fun u t => va_P E.1 vwCl (kW E u.2) t.heap) (kA E sz)) 0 0 (kA E sz)
def kRV (l : Launch) (y : MethodName) (ws : List Cond) (rm : Room) (E : kE) (M : kM) (av : List Value) (post : kM → Prop) : Prop := ∀ sz : Nat, Met l y ws rm (kPreW E M sz av) (va_Qv (fun u : kM => post u) (fun u t => va_P E.1 vwCl (kW E u) t.heap) (kA E sz)) 0 0 (kA E sz)
theorem kPre_blind {E : kE} {M : kM} {av : List Value} : FrameBlind (kPre E M av) := fun a U g mk q => ⟨q.1, q.2.1, kK.same (u := U) (U := U.calling g mk a) rfl q.2.2⟩
theorem kPreW_blind {E : kE} {M : kM} {sz : Nat} {av : List Value} : FrameBlind (kPreW E M sz av) := fun a U g mk q => ⟨q.1, q.2.1, q.2.2.1, kK.same (u := U) (U := U.calling g mk a) rfl q.2.2.2⟩
/-! a body, from its entry: Q is whatever is owed at the end; 'ends' pays it -/
theorem kRO_of {l : Launch} {y : MethodName} {ws ws' : List Cond} {rm : Room} {E : kE} {M : kM} {av : List Value} {post : Int → Prop} {cc : ByteArray} {maxL : Nat} {rt : FieldType} (own : String) (hy : plainName y.cls = true) (hw : ws = Cond.code y cc maxL (some rt) :: ws') (ho : y.cls = own) (hlen : (lg_sl av).length ≤ maxL)
    (hrt : ∀ z : Int, post z → narrow rt (.int (zI z)) = .int (zI z))
    (body : ∀ (p : Program) (e : Env) (s : State) (m : MethodId) (args : Array Value) (below : List Frame) (meth : Method) (c : Code) (ls : Array Slot) (Q : State → Prop), CallFix p m c cc maxL s args ws own → va_P E.1 vwCl (kW E M) s.heap → kK E s →
      (∀ (pc : Nat) (ls : Array Slot) (z : Int), decode cc pc = .ok (.ireturn, 1) → post z → W p l e rm s m args below meth c s.heap [] 0 0 Q (F0 m pc ls [.int (zI z)])) → lv_has ls maxL (lv_args 0 av) → W p l e rm s m args below meth c s.heap [] 0 0 Q (F0 m 0 ls [])) : kRO l y ws rm E M av post := by
  refine Met.ofW (cc := cc) (maxL := maxL) (ret := some rt) hy hw ?_
  intro p e s m args below meth c s₁ B hml hv
  obtain ⟨rfl, hP, hK⟩ := hv
  have hx := B.exec
  have hb := B.bytes
  have hr := B.returns
  have hlocks := B.notSynchronized
  have hl := lv_entry av (n := maxL) hlen
  rw [lg_entry_eq]
  generalize (lg_sl av ++ List.replicate (maxL - (lg_sl av).length) Slot.unset).toArray = ls at hl ⊢
  refine body p e s m _ below meth c ls _ ⟨hx, hb, hml, by rw [← ho]; exact findClass_of_methodNamed B.named, atoms_spec (ws := ws) B.pre⟩ hP hK (fun pc ls z hdg hp => ?_) hl
  exact W.zret (v := zI z) hx hb hr (hrt z hp) (fun t ht hW => ⟨zI z, rfl, ⟨z, rfl, hp⟩, ht⟩) (fun q hq => absurd hq List.not_mem_nil) hdg hlocks
theorem kROl_of {l : Launch} {y : MethodName} {ws ws' : List Cond} {rm : Room} {E : kE} {M : kM} {av : List Value} {post : Int → Prop} {cc : ByteArray} {maxL : Nat} (own : String) (hy : plainName y.cls = true) (hw : ws = Cond.code y cc maxL (some .long) :: ws') (ho : y.cls = own) (hlen : (lg_sl av).length ≤ maxL)
    (body : ∀ (p : Program) (e : Env) (s : State) (m : MethodId) (args : Array Value) (below : List Frame) (meth : Method) (c : Code) (ls : Array Slot) (Q : State → Prop), CallFix p m c cc maxL s args ws own → va_P E.1 vwCl (kW E M) s.heap → kK E s →
      (∀ (pc : Nat) (ls : Array Slot) (z : Int), decode cc pc = .ok (.lreturn, 1) → post z → W p l e rm s m args below meth c s.heap [] 0 0 Q (F0 m pc ls [.long (lI z)])) → lv_has ls maxL (lv_args 0 av) → W p l e rm s m args below meth c s.heap [] 0 0 Q (F0 m 0 ls [])) : kROl l y ws rm E M av post := by
  refine Met.ofW (cc := cc) (maxL := maxL) (ret := some .long) hy hw ?_
  intro p e s m args below meth c s₁ B hml hv
  obtain ⟨rfl, hP, hK⟩ := hv
  have hx := B.exec
  have hb := B.bytes
  have hr := B.returns
  have hlocks := B.notSynchronized
  have hl := lv_entry av (n := maxL) hlen
  rw [lg_entry_eq]
  generalize (lg_sl av ++ List.replicate (maxL - (lg_sl av).length) Slot.unset).toArray = ls at hl ⊢
  refine body p e s m _ below meth c ls _ ⟨hx, hb, hml, by rw [← ho]; exact findClass_of_methodNamed B.named, atoms_spec (ws := ws) B.pre⟩ hP hK (fun pc ls z hdg hp => ?_) hl
  exact W.lret (v := lI z) hx hb hr (fun t ht hW => ⟨lI z, rfl, ⟨z, rfl, hp⟩, ht⟩) (fun q hq => absurd hq List.not_mem_nil) hdg hlocks
theorem kRW_of {l : Launch} {y : MethodName} {ws ws' : List Cond} {rm : Room} {E : kE} {M : kM} {av : List Value} {post : Int → kM → Prop} {cc : ByteArray} {maxL : Nat} {rt : FieldType} (own : String) (hy : plainName y.cls = true) (hw : ws = Cond.code y cc maxL (some rt) :: ws') (ho : y.cls = own) (hlen : (lg_sl av).length ≤ maxL)
    (hrt : ∀ (z : Int) (M1 : kM), post z M1 → narrow rt (.int (zI z)) = .int (zI z))
    (body : ∀ (p : Program) (e : Env) (s : State) (m : MethodId) (args : Array Value) (below : List Frame) (meth : Method) (c : Code) (ls : Array Slot) (Q : State → Prop), CallFix p m c cc maxL s args ws own → va_P E.1 vwCl (kW E M) s.heap → va_S (kA E s.heap.size) s.heap s.heap [] → kK E s →
      (∀ (pc : Nat) (ls : Array Slot) (z : Int) (M1 : kM) (H : Heap) (locs : List Loc), decode cc pc = .ok (.ireturn, 1) → va_P E.1 vwCl (kW E M1) H → va_S (kA E s.heap.size) s.heap H locs → post z M1 → W p l e rm s m args below meth c H locs 0 0 Q (F0 m pc ls [.int (zI z)])) → lv_has ls maxL (lv_args 0 av) → W p l e rm s m args below meth c s.heap [] 0 0 Q (F0 m 0 ls [])) : kRW l y ws rm E M av post := by
  intro sz
  refine Met.ofW (cc := cc) (maxL := maxL) (ret := some rt) hy hw ?_
  intro p e s m args below meth c s₁ B hml hv
  obtain ⟨rfl, rfl, hP, hK⟩ := hv
  have hx := B.exec
  have hb := B.bytes
  have hr := B.returns
  have hlocks := B.notSynchronized
  have hl := lv_entry av (n := maxL) hlen
  rw [lg_entry_eq]
  generalize (lg_sl av ++ List.replicate (maxL - (lg_sl av).length) Slot.unset).toArray = ls at hl ⊢
  refine body p e s m _ below meth c ls _ ⟨hx, hb, hml, by rw [← ho]; exact findClass_of_methodNamed B.named, atoms_spec (ws := ws) B.pre⟩ hP va_S.rf hK (fun pc ls z M1 H locs hdg hP1 hS hp => ?_) hl
  exact W.zret (v := zI z) hx hb hr (hrt z M1 hp) (fun t ht hW => ⟨⟨zI z, (z, M1), rfl, ⟨rfl, hp⟩, by subst ht; exact hP1⟩, hS.F ht⟩) hS.2.2 hdg hlocks
theorem kRWl_of {l : Launch} {y : MethodName} {ws ws' : List Cond} {rm : Room} {E : kE} {M : kM} {av : List Value} {post : Int → kM → Prop} {cc : ByteArray} {maxL : Nat} (own : String) (hy : plainName y.cls = true) (hw : ws = Cond.code y cc maxL (some .long) :: ws') (ho : y.cls = own) (hlen : (lg_sl av).length ≤ maxL)
    (body : ∀ (p : Program) (e : Env) (s : State) (m : MethodId) (args : Array Value) (below : List Frame) (meth : Method) (c : Code) (ls : Array Slot) (Q : State → Prop), CallFix p m c cc maxL s args ws own → va_P E.1 vwCl (kW E M) s.heap → va_S (kA E s.heap.size) s.heap s.heap [] → kK E s →
      (∀ (pc : Nat) (ls : Array Slot) (z : Int) (M1 : kM) (H : Heap) (locs : List Loc), decode cc pc = .ok (.lreturn, 1) → va_P E.1 vwCl (kW E M1) H → va_S (kA E s.heap.size) s.heap H locs → post z M1 → W p l e rm s m args below meth c H locs 0 0 Q (F0 m pc ls [.long (lI z)])) → lv_has ls maxL (lv_args 0 av) → W p l e rm s m args below meth c s.heap [] 0 0 Q (F0 m 0 ls [])) : kRWl l y ws rm E M av post := by
  intro sz
  refine Met.ofW (cc := cc) (maxL := maxL) (ret := some .long) hy hw ?_
  intro p e s m args below meth c s₁ B hml hv
  obtain ⟨rfl, rfl, hP, hK⟩ := hv
  have hx := B.exec
  have hb := B.bytes
  have hr := B.returns
  have hlocks := B.notSynchronized
  have hl := lv_entry av (n := maxL) hlen
  rw [lg_entry_eq]
  generalize (lg_sl av ++ List.replicate (maxL - (lg_sl av).length) Slot.unset).toArray = ls at hl ⊢
  refine body p e s m _ below meth c ls _ ⟨hx, hb, hml, by rw [← ho]; exact findClass_of_methodNamed B.named, atoms_spec (ws := ws) B.pre⟩ hP va_S.rf hK (fun pc ls z M1 H locs hdg hP1 hS hp => ?_) hl
  exact W.lret (v := lI z) hx hb hr (fun t ht hW => ⟨⟨lI z, (z, M1), rfl, ⟨rfl, hp⟩, by subst ht; exact hP1⟩, hS.F ht⟩) hS.2.2 hdg hlocks
theorem kRV_of {l : Launch} {y : MethodName} {ws ws' : List Cond} {rm : Room} {E : kE} {M : kM} {av : List Value} {post : kM → Prop} {cc : ByteArray} {maxL : Nat} (own : String) (hy : plainName y.cls = true) (hw : ws = Cond.code y cc maxL none :: ws') (ho : y.cls = own) (hlen : (lg_sl av).length ≤ maxL)
    (body : ∀ (p : Program) (e : Env) (s : State) (m : MethodId) (args : Array Value) (below : List Frame) (meth : Method) (c : Code) (ls : Array Slot) (Q : State → Prop), CallFix p m c cc maxL s args ws own → va_P E.1 vwCl (kW E M) s.heap → va_S (kA E s.heap.size) s.heap s.heap [] → kK E s →
      (∀ (pc : Nat) (ls : Array Slot) (M1 : kM) (H : Heap) (locs : List Loc), decode cc pc = .ok (.return_, 1) → va_P E.1 vwCl (kW E M1) H → va_S (kA E s.heap.size) s.heap H locs → post M1 → W p l e rm s m args below meth c H locs 0 0 Q (F0 m pc ls [])) → lv_has ls maxL (lv_args 0 av) → W p l e rm s m args below meth c s.heap [] 0 0 Q (F0 m 0 ls [])) : kRV l y ws rm E M av post := by
  intro sz
  refine Met.ofW (cc := cc) (maxL := maxL) (ret := none) hy hw ?_
  intro p e s m args below meth c s₁ B hml hv
  obtain ⟨rfl, rfl, hP, hK⟩ := hv
  have hx := B.exec
  have hb := B.bytes
  have hr := B.returns
  have hlocks := B.notSynchronized
  have hl := lv_entry av (n := maxL) hlen
  rw [lg_entry_eq]
  generalize (lg_sl av ++ List.replicate (maxL - (lg_sl av).length) Slot.unset).toArray = ls at hl ⊢
  refine body p e s m _ below meth c ls _ ⟨hx, hb, hml, by rw [← ho]; exact findClass_of_methodNamed B.named, atoms_spec (ws := ws) B.pre⟩ hP va_S.rf hK (fun pc ls M1 H locs hdg hP1 hS hp => ?_) hl
  exact W.vret hx hb hr (fun t ht hW => ⟨⟨M1, rfl, hp, by subst ht; exact hP1⟩, hS.F ht⟩) hS.2.2 hdg hlocks
/-- an int that is a truth value, or any int -/
theorem k_nari {post : Int → Prop} : ∀ z : Int, post z → narrow .int (.int (zI z)) = .int (zI z) := fun _ _ => rfl
theorem k_nariW {post : Int → kM → Prop} : ∀ (z : Int) (M1 : kM), post z M1 → narrow .int (.int (zI z)) = .int (zI z) := fun _ _ _ => rfl
theorem k_narb {z : Int} (h : z = 0 ∨ z = 1) : narrow .boolean (.int (zI z)) = .int (zI z) := by
  rcases h with rfl | rfl <;> decide
section KC
variable {p : Program} {l : Launch} {e : Env} {R : Room} {s : State} {m : MethodId} {args : Array Value} {below : List Frame} {meth : Method} {c : Code} {H H0 : Heap} {locs : List Loc} {cells slots : Nat} {Q : State → Prop}
variable {cc bytes : ByteArray} {pc : Nat} {ls : Array Slot} {rest st : List Value} {E : kE} {M : kM} {nL maxL index n : Nat} {Ts ws : List Cond} {own C : String} {y : MethodName} {ret : Option FieldType} {rm : Room} {As : List Value} {b : Nat}
theorem k_rS (hK : kK E s) (hP : va_P E.1 vwCl (kW E M) H) {x : Int} (h : 0 ≤ x ∧ x < 3) : ∃ cell : Cell, H[E.2.2 x]? = some cell ∧ cell.vm.isStatics = false ∧ s.vm.findClass RX1 = some cell.cls :=
  va_recv (q := (RX1, TX1, 2)) hK.1 hP (ci := 1) (q0 := x.toNat) rfl (by rw [kW_get E M (by omega), kC_S h])
theorem k_rH (hK : kK E s) (hP : va_P E.1 vwCl (kW E M) H) {x : Int} (h : 6 ≤ x ∧ x < 8) : ∃ cell : Cell, H[E.2.2 x]? = some cell ∧ cell.vm.isStatics = false ∧ s.vm.findClass RX0 = some cell.cls :=
  va_recv (q := (RX0, TX0, 2)) hK.1 hP (ci := 0) (q0 := x.toNat) rfl (by rw [kW_get E M (by omega), kC_H h])
theorem k_rX (hK : kK E s) (hP : va_P E.1 vwCl (kW E M) H) {x : Int} (h : x = 10) : ∃ cell : Cell, H[E.2.2 x]? = some cell ∧ cell.vm.isStatics = false ∧ s.vm.findClass RX2 = some cell.cls := by
  subst h
  exact va_recv (q := (RX2, TX2, 3)) hK.1 hP (ci := 2) (q0 := (10 : Int).toNat) rfl (by rw [kW_get E M (by omega), kC_X])
theorem k_rY (hK : kK E s) (hP : va_P E.1 vwCl (kW E M) H) {x : Int} (h : x = 11) : ∃ cell : Cell, H[E.2.2 x]? = some cell ∧ cell.vm.isStatics = false ∧ s.vm.findClass RX3 = some cell.cls := by
  subst h
  exact va_recv (q := (RX3, TX3, 8)) hK.1 hP (ci := 3) (q0 := (11 : Int).toNat) rfl (by rw [kW_get E M (by omega), kC_Y])
theorem k_max (S : CallFix p m c cc nL s args Ts own) (hsz : ls.size = nL) (hlink : (Cond.methodLink own index Lib.Math.max.name).before args s = true) (hstat : (Cond.static Lib.Math.max.name).before args s = true) (hini : (Cond.initialized "java/lang/Math").before args s = true) (hcode : (Cond.code Lib.Math.max.name Lib.Math.max.code 2 (some .int)).before args s = true)
    (hR : 1 ≤ R.frames ∧ (rest.map fun v => v.category).sum + 13 ≤ R.locals) (hf : cells ≤ R.cells ∧ slots ≤ R.slots) {a b : Int} (h : -2147483648 ≤ a ∧ a ≤ 2147483647 ∧ -2147483648 ≤ b ∧ b ≤ 2147483647) (hdg : decode cc pc = .ok (.invokestatic index, 3))
    (kk : ∀ z : Int, (a < b ∧ z = b) ∨ (b ≤ a ∧ z = a) → W p l e R s m args below meth c H locs cells slots Q (F0 m (pc + 3) ls (.int (zI z) :: rest))) : W p l e R s m args below meth c H locs cells slots Q (F0 m pc ls (.int (zI b) :: .int (zI a) :: rest)) := by
  refine va_mmax S.1 S.2.1 (S.2.2.1.trans hsz.symm) S.2.2.2.1 hlink hstat hini hcode hR.1 hR.2 hf.1 hf.2 hdg ?_
  split
  · rename_i q
    exact kk b (Or.inl ⟨(zI_lt h).mp q, rfl⟩)
  · rename_i q
    exact kk a (Or.inr ⟨by rw [zI_lt h] at q; omega, rfl⟩)
theorem k_min (S : CallFix p m c cc nL s args Ts own) (hsz : ls.size = nL) (hlink : (Cond.methodLink own index Lib.Math.min.name).before args s = true) (hstat : (Cond.static Lib.Math.min.name).before args s = true) (hini : (Cond.initialized "java/lang/Math").before args s = true) (hcode : (Cond.code Lib.Math.min.name Lib.Math.min.code 2 (some .int)).before args s = true)
    (hR : 1 ≤ R.frames ∧ (rest.map fun v => v.category).sum + 13 ≤ R.locals) (hf : cells ≤ R.cells ∧ slots ≤ R.slots) {a b : Int} (h : -2147483648 ≤ a ∧ a ≤ 2147483647 ∧ -2147483648 ≤ b ∧ b ≤ 2147483647) (hdg : decode cc pc = .ok (.invokestatic index, 3))
    (kk : ∀ z : Int, (b < a ∧ z = b) ∨ (a ≤ b ∧ z = a) → W p l e R s m args below meth c H locs cells slots Q (F0 m (pc + 3) ls (.int (zI z) :: rest))) : W p l e R s m args below meth c H locs cells slots Q (F0 m pc ls (.int (zI b) :: .int (zI a) :: rest)) := by
  refine va_mmin S.1 S.2.1 (S.2.2.1.trans hsz.symm) S.2.2.2.1 hlink hstat hini hcode hR.1 hR.2 hf.1 hf.2 hdg ?_
  split
  · rename_i q
    exact kk b (Or.inl ⟨(zI_lt (by omega)).mp q, rfl⟩)
  · rename_i q
    exact kk a (Or.inr ⟨by rw [zI_lt (by omega)] at q; omega, rfl⟩)
/-! calls -/
theorem k_callV {post : Int → Prop} (S : CallFix p m c cc nL s args Ts own) (hK : kK E s) (hP : va_P E.1 vwCl (kW E M) H) (hM : kRO l y ws rm E M (.ref b :: As) post) (cw : CallW R s args own C index y bytes maxL ret ws rm 0 0 n)
    (hrecv : ∃ cellB : Cell, H[b]? = some cellB ∧ cellB.vm.isStatics = false ∧ s.vm.findClass C = some cellB.cls) (hn : As.length = n) (hsz : ls.size = nL) (hst : st = As.reverse ++ .ref b :: rest) (hw : (rest.map fun v => v.category).sum ≤ 8) (hdg : decode cc pc = .ok (.invokevirtual index, 3)) (hf : cells + 0 ≤ R.cells ∧ slots + 0 ≤ R.slots)
    (kk : ∀ z : Int, post z → W p l e R s m args below meth c H locs cells slots Q (F0 m (pc + 3) ls (.int (zI z) :: rest))) : W p l e R s m args below meth c H locs cells slots Q (F0 m pc ls st) := by
  refine vp_callSi (W.runV S hM cw ⟨kPre_blind, hrecv, fun U hU hW => ⟨rfl, by rw [hU]; exact hP, kK.warm hW hK⟩⟩ rfl hn hsz hst (lv_room hw) hdg hf) (fun r hr => ?_)
  obtain ⟨z, rfl, hz⟩ := hr
  exact kk z hz
theorem k_callS {post : Int → Prop} (S : CallFix p m c cc nL s args Ts own) (hK : kK E s) (hP : va_P E.1 vwCl (kW E M) H) (hM : kRO l y ws rm E M As post) (cw : CallB R s args own index y bytes maxL ret ws rm 0 0 n ∧ (Cond.static y).before args s = true)
    (hn : As.length = n) (hsz : ls.size = nL) (hst : st = As.reverse ++ rest) (hw : (rest.map fun v => v.category).sum ≤ 8) (hdg : decode cc pc = .ok (.invokestatic index, 3)) (hf : cells + 0 ≤ R.cells ∧ slots + 0 ≤ R.slots)
    (kk : ∀ z : Int, post z → W p l e R s m args below meth c H locs cells slots Q (F0 m (pc + 3) ls (.int (zI z) :: rest))) : W p l e R s m args below meth c H locs cells slots Q (F0 m pc ls st) := by
  refine vp_callSi (W.runS S hM cw ⟨kPre_blind, fun U hU hW => ⟨rfl, by rw [hU]; exact hP, kK.warm hW hK⟩⟩ rfl hn hsz hst (lv_room hw) hdg hf) (fun r hr => ?_)
  obtain ⟨z, rfl, hz⟩ := hr
  exact kk z hz
theorem k_callVl {post : Int → Prop} (S : CallFix p m c cc nL s args Ts own) (hK : kK E s) (hP : va_P E.1 vwCl (kW E M) H) (hM : kROl l y ws rm E M (.ref b :: As) post) (cw : CallW R s args own C index y bytes maxL ret ws rm 0 0 n)
    (hrecv : ∃ cellB : Cell, H[b]? = some cellB ∧ cellB.vm.isStatics = false ∧ s.vm.findClass C = some cellB.cls) (hn : As.length = n) (hsz : ls.size = nL) (hst : st = As.reverse ++ .ref b :: rest) (hw : (rest.map fun v => v.category).sum ≤ 8) (hdg : decode cc pc = .ok (.invokevirtual index, 3)) (hf : cells + 0 ≤ R.cells ∧ slots + 0 ≤ R.slots)
    (kk : ∀ z : Int, post z → W p l e R s m args below meth c H locs cells slots Q (F0 m (pc + 3) ls (.long (lI z) :: rest))) : W p l e R s m args below meth c H locs cells slots Q (F0 m pc ls st) := by
  refine vp_callSl (W.runV S hM cw ⟨kPre_blind, hrecv, fun U hU hW => ⟨rfl, by rw [hU]; exact hP, kK.warm hW hK⟩⟩ rfl hn hsz hst (lv_room hw) hdg hf) (fun r hr => ?_)
  obtain ⟨z, rfl, hz⟩ := hr
  exact kk z hz
theorem k_callSl {post : Int → Prop} (S : CallFix p m c cc nL s args Ts own) (hK : kK E s) (hP : va_P E.1 vwCl (kW E M) H) (hM : kROl l y ws rm E M As post) (cw : CallB R s args own index y bytes maxL ret ws rm 0 0 n ∧ (Cond.static y).before args s = true)
    (hn : As.length = n) (hsz : ls.size = nL) (hst : st = As.reverse ++ rest) (hw : (rest.map fun v => v.category).sum ≤ 8) (hdg : decode cc pc = .ok (.invokestatic index, 3)) (hf : cells + 0 ≤ R.cells ∧ slots + 0 ≤ R.slots)
    (kk : ∀ z : Int, post z → W p l e R s m args below meth c H locs cells slots Q (F0 m (pc + 3) ls (.long (lI z) :: rest))) : W p l e R s m args below meth c H locs cells slots Q (F0 m pc ls st) := by
  refine vp_callSl (W.runS S hM cw ⟨kPre_blind, fun U hU hW => ⟨rfl, by rw [hU]; exact hP, kK.warm hW hK⟩⟩ rfl hn hsz hst (lv_room hw) hdg hf) (fun r hr => ?_)
  obtain ⟨z, rfl, hz⟩ := hr
  exact kk z hz
theorem kA_le {sz sz0 : Nat} (h : sz0 ≤ sz) : ∀ q, kA E sz q → kA E sz0 q := fun q hq => hq.elim Or.inl (fun h2 => Or.inr (Nat.le_trans h h2))
theorem k_callVW {post : Int → kM → Prop} (S : CallFix p m c cc nL s args Ts own) (hK : kK E s) (hP : va_P E.1 vwCl (kW E M) H) (hS : va_S (kA E H0.size) H0 H locs) (hM : kRW l y ws rm E M (.ref b :: As) post) (cw : CallW R s args own C index y bytes maxL ret ws rm 0 0 n)
    (hrecv : ∃ cellB : Cell, H[b]? = some cellB ∧ cellB.vm.isStatics = false ∧ s.vm.findClass C = some cellB.cls) (hn : As.length = n) (hsz : ls.size = nL) (hst : st = As.reverse ++ .ref b :: rest) (hw : (rest.map fun v => v.category).sum ≤ 8) (hdg : decode cc pc = .ok (.invokevirtual index, 3)) (hf : cells + 0 ≤ R.cells ∧ slots + 0 ≤ R.slots)
    (kk : ∀ (z : Int) (M1 : kM) (H1 : Heap) (locs1 : List Loc), post z M1 → va_P E.1 vwCl (kW E M1) H1 → va_S (kA E H0.size) H0 H1 locs1 → W p l e R s m args below meth c H1 locs1 cells slots Q (F0 m (pc + 3) ls (.int (zI z) :: rest))) : W p l e R s m args below meth c H locs cells slots Q (F0 m pc ls st) := by
  refine va_calli (va_runV S (hM H.size) cw ⟨kPreW_blind, hrecv, fun U hU hW => ⟨rfl, by rw [hU], by rw [hU]; exact hP, kK.warm hW hK⟩⟩ rfl hn hsz hst (lv_room hw) hdg hf) hS (fun q _ h => kA_le hS.1 q h) (kA_le hS.1) (fun r u t H1 locs1 ht hvm hw hB hz hk hS1 => ?_)
  obtain ⟨rfl, hz⟩ := hw
  rw [ht] at hB
  exact kk u.1 u.2 H1 locs1 hz hB hS1
theorem k_callSW {post : Int → kM → Prop} (S : CallFix p m c cc nL s args Ts own) (hK : kK E s) (hP : va_P E.1 vwCl (kW E M) H) (hS : va_S (kA E H0.size) H0 H locs) (hM : kRW l y ws rm E M As post) (cw : CallB R s args own index y bytes maxL ret ws rm 0 0 n ∧ (Cond.static y).before args s = true)
    (hn : As.length = n) (hsz : ls.size = nL) (hst : st = As.reverse ++ rest) (hw : (rest.map fun v => v.category).sum ≤ 8) (hdg : decode cc pc = .ok (.invokestatic index, 3)) (hf : cells + 0 ≤ R.cells ∧ slots + 0 ≤ R.slots)
    (kk : ∀ (z : Int) (M1 : kM) (H1 : Heap) (locs1 : List Loc), post z M1 → va_P E.1 vwCl (kW E M1) H1 → va_S (kA E H0.size) H0 H1 locs1 → W p l e R s m args below meth c H1 locs1 cells slots Q (F0 m (pc + 3) ls (.int (zI z) :: rest))) : W p l e R s m args below meth c H locs cells slots Q (F0 m pc ls st) := by
  refine va_calli (va_runS S (hM H.size) cw ⟨kPreW_blind, fun U hU hW => ⟨rfl, by rw [hU], by rw [hU]; exact hP, kK.warm hW hK⟩⟩ rfl hn hsz hst (lv_room hw) hdg hf) hS (fun q _ h => kA_le hS.1 q h) (kA_le hS.1) (fun r u t H1 locs1 ht hvm hw hB hz hk hS1 => ?_)
  obtain ⟨rfl, hz⟩ := hw
  rw [ht] at hB
  exact kk u.1 u.2 H1 locs1 hz hB hS1
theorem k_callVWl {post : Int → kM → Prop} (S : CallFix p m c cc nL s args Ts own) (hK : kK E s) (hP : va_P E.1 vwCl (kW E M) H) (hS : va_S (kA E H0.size) H0 H locs) (hM : kRWl l y ws rm E M (.ref b :: As) post) (cw : CallW R s args own C index y bytes maxL ret ws rm 0 0 n)
    (hrecv : ∃ cellB : Cell, H[b]? = some cellB ∧ cellB.vm.isStatics = false ∧ s.vm.findClass C = some cellB.cls) (hn : As.length = n) (hsz : ls.size = nL) (hst : st = As.reverse ++ .ref b :: rest) (hw : (rest.map fun v => v.category).sum ≤ 8) (hdg : decode cc pc = .ok (.invokevirtual index, 3)) (hf : cells + 0 ≤ R.cells ∧ slots + 0 ≤ R.slots)
    (kk : ∀ (z : Int) (M1 : kM) (H1 : Heap) (locs1 : List Loc), post z M1 → va_P E.1 vwCl (kW E M1) H1 → va_S (kA E H0.size) H0 H1 locs1 → W p l e R s m args below meth c H1 locs1 cells slots Q (F0 m (pc + 3) ls (.long (lI z) :: rest))) : W p l e R s m args below meth c H locs cells slots Q (F0 m pc ls st) := by
  refine va_calll (va_runV S (hM H.size) cw ⟨kPreW_blind, hrecv, fun U hU hW => ⟨rfl, by rw [hU], by rw [hU]; exact hP, kK.warm hW hK⟩⟩ rfl hn hsz hst (lv_room hw) hdg hf) hS (fun q _ h => kA_le hS.1 q h) (kA_le hS.1) (fun r u t H1 locs1 ht hvm hw hB hz hk hS1 => ?_)
  obtain ⟨rfl, hz⟩ := hw
  rw [ht] at hB
  exact kk u.1 u.2 H1 locs1 hz hB hS1
theorem k_callVV {post : kM → Prop} (S : CallFix p m c cc nL s args Ts own) (hK : kK E s) (hP : va_P E.1 vwCl (kW E M) H) (hS : va_S (kA E H0.size) H0 H locs) (hM : kRV l y ws rm E M (.ref b :: As) post) (cw : CallW R s args own C index y bytes maxL ret ws rm 0 0 n)
    (hrecv : ∃ cellB : Cell, H[b]? = some cellB ∧ cellB.vm.isStatics = false ∧ s.vm.findClass C = some cellB.cls) (hn : As.length = n) (hsz : ls.size = nL) (hst : st = As.reverse ++ .ref b :: rest) (hw : (rest.map fun v => v.category).sum ≤ 8) (hdg : decode cc pc = .ok (.invokevirtual index, 3)) (hf : cells + 0 ≤ R.cells ∧ slots + 0 ≤ R.slots)
    (kk : ∀ (M1 : kM) (H1 : Heap) (locs1 : List Loc), post M1 → va_P E.1 vwCl (kW E M1) H1 → va_S (kA E H0.size) H0 H1 locs1 → W p l e R s m args below meth c H1 locs1 cells slots Q (F0 m (pc + 3) ls rest)) : W p l e R s m args below meth c H locs cells slots Q (F0 m pc ls st) := by
  refine va_callv (va_runV S (hM H.size) cw ⟨kPreW_blind, hrecv, fun U hU hW => ⟨rfl, by rw [hU], by rw [hU]; exact hP, kK.warm hW hK⟩⟩ rfl hn hsz hst (lv_room hw) hdg hf) hS (fun q _ h => kA_le hS.1 q h) (kA_le hS.1) (fun u t H1 locs1 ht hvm hw hB hz hk hS1 => ?_)
  rw [ht] at hB
  exact kk u H1 locs1 hw hB hS1
theorem k_callSV {post : kM → Prop} (S : CallFix p m c cc nL s args Ts own) (hK : kK E s) (hP : va_P E.1 vwCl (kW E M) H) (hS : va_S (kA E H0.size) H0 H locs) (hM : kRV l y ws rm E M As post) (cw : CallB R s args own index y bytes maxL ret ws rm 0 0 n ∧ (Cond.static y).before args s = true)
    (hn : As.length = n) (hsz : ls.size = nL) (hst : st = As.reverse ++ rest) (hw : (rest.map fun v => v.category).sum ≤ 8) (hdg : decode cc pc = .ok (.invokestatic index, 3)) (hf : cells + 0 ≤ R.cells ∧ slots + 0 ≤ R.slots)
    (kk : ∀ (M1 : kM) (H1 : Heap) (locs1 : List Loc), post M1 → va_P E.1 vwCl (kW E M1) H1 → va_S (kA E H0.size) H0 H1 locs1 → W p l e R s m args below meth c H1 locs1 cells slots Q (F0 m (pc + 3) ls rest)) : W p l e R s m args below meth c H locs cells slots Q (F0 m pc ls st) := by
  refine va_callv (va_runS S (hM H.size) cw ⟨kPreW_blind, fun U hU hW => ⟨rfl, by rw [hU], by rw [hU]; exact hP, kK.warm hW hK⟩⟩ rfl hn hsz hst (lv_room hw) hdg hf) hS (fun q _ h => kA_le hS.1 q h) (kA_le hS.1) (fun u t H1 locs1 ht hvm hw hB hz hk hS1 => ?_)
  rw [ht] at hB
  exact kk u H1 locs1 hw hB hS1
end KC
end
section
/-! ===== what the walks speak of: rows of whole numbers, compared ===== -/
/-- the stitches of a hem or the sample (0, 1, 2) are as many as they may be, and 0 to 8 -/
def kWf (M : kM) : Prop := ∀ i : Int, 0 ≤ i ∧ i < 3 → 0 ≤ M i 1 ∧ M i 1 ≤ 40 ∧ ∀ j : Int, 0 ≤ j → j < M i 1 → 0 ≤ M (i + 3) j ∧ M (i + 3) j ≤ 8
/-- m stitches are the same from a on and from b on -/
def kEq (x : Int → Int) (a : Int) (y : Int → Int) (b m : Int) : Prop := ∀ t : Int, 0 ≤ t → t < m → x (a + t) = y (b + t)
/-- the ends at a and at b have k stitches in common -/
def kLC (x : Int → Int) (nx a : Int) (y : Int → Int) (ny b k : Int) : Prop := 0 ≤ k ∧ a + k ≤ nx ∧ b + k ≤ ny ∧ kEq x a y b k ∧ (a + k = nx ∨ b + k = ny ∨ x (a + k) ≠ y (b + k))
/-- with k in common, the end at a is less -/
def kLt (x : Int → Int) (nx a : Int) (y : Int → Int) (ny b k : Int) : Prop := (a + k = nx ∧ b + k < ny) ∨ (a + k < nx ∧ b + k < ny ∧ x (a + k) < y (b + k))
/-- z is the greatest of S, 0 if there is nothing greater -/
def kMx (S : Int → Prop) (z : Int) : Prop := 0 ≤ z ∧ (z = 0 ∨ S z) ∧ ∀ v, S v → v ≤ z
noncomputable def kIf (P : Prop) (a b : Int) : Int := @ite Int P (Classical.propDecidable P) a b
theorem kIf_t {P : Prop} {a b : Int} (h : P) : kIf P a b = a := if_pos h
theorem kIf_f {P : Prop} {a b : Int} (h : ¬ P) : kIf P a b = b := if_neg h
/-- for how many numbers of 0 to n - 1 it holds -/
noncomputable def kCnt (P : Int → Prop) : Nat → Int
  | 0 => 0
  | n + 1 => kCnt P n + kIf (P (n : Int)) 1 0
def kSum (f : Int → Int) : Nat → Int
  | 0 => 0
  | n + 1 => kSum f n + f (n : Int)
theorem kCnt_step (P : Int → Prop) {k : Int} (h : 0 ≤ k) : kCnt P (k + 1).toNat = kCnt P k.toNat + kIf (P k) 1 0 := by
  have e : (k + 1).toNat = k.toNat + 1 := by omega
  rw [e, kCnt, show ((k.toNat : Nat) : Int) = k by omega]
theorem kCnt_t (P : Int → Prop) {k : Int} (h : 0 ≤ k) (q : P k) : kCnt P (k + 1).toNat = kCnt P k.toNat + 1 := by rw [kCnt_step P h, kIf_t q]
theorem kCnt_f (P : Int → Prop) {k : Int} (h : 0 ≤ k) (q : ¬ P k) : kCnt P (k + 1).toNat = kCnt P k.toNat := by rw [kCnt_step P h, kIf_f q]; omega
theorem kCnt_rng (P : Int → Prop) : ∀ n : Nat, 0 ≤ kCnt P n ∧ kCnt P n ≤ (n : Int)
  | 0 => ⟨Int.le_refl _, Int.le_refl _⟩
  | n + 1 => by
    have ih := kCnt_rng P n
    rw [kCnt]
    by_cases h : P (n : Int)
    · rw [kIf_t h]; omega
    · rw [kIf_f h]; omega
theorem kCnt_tail (P : Int → Prop) (m : Nat) : ∀ n : Nat, m ≤ n → (∀ k : Int, (m : Int) ≤ k → k < (n : Int) → ¬ P k) → kCnt P n = kCnt P m
  | 0, h, _ => by rw [show m = 0 by omega]
  | n + 1, h, hf => by
    by_cases e : m = n + 1
    · rw [e]
    · rw [kCnt, kIf_f (hf (n : Int) (by omega) (by omega)), kCnt_tail P m n (by omega) (fun k h1 h2 => hf k h1 (by omega))]
      omega
theorem kSum_step (f : Int → Int) {k : Int} (h : 0 ≤ k) : kSum f (k + 1).toNat = kSum f k.toNat + f k := by
  have e : (k + 1).toNat = k.toNat + 1 := by omega
  rw [e, kSum, show ((k.toNat : Nat) : Int) = k by omega]
theorem kCnt_0 (P : Int → Prop) : kCnt P (0 : Int).toNat = 0 := rfl
theorem kSum_0 (f : Int → Int) : kSum f (0 : Int).toNat = 0 := rfl
theorem kMx_one {S : Int → Prop} {z w : Int} (h : kMx S z) (h2 : kMx S w) : z = w := by
  obtain ⟨a1, a2, a3⟩ := h
  obtain ⟨b1, b2, b3⟩ := h2
  have h1 : z ≤ w := by
    rcases a2 with q | q
    · omega
    · exact b3 z q
  have h2 : w ≤ z := by
    rcases b2 with q | q
    · omega
    · exact a3 w q
  omega
theorem kLC_one {x y : Int → Int} {nx a ny b k w : Int} (h : kLC x nx a y ny b k) (h2 : kLC x nx a y ny b w) : k = w := by
  obtain ⟨a1, a2, a3, a4, a5⟩ := h
  obtain ⟨b1, b2, b3, b4, b5⟩ := h2
  rcases Int.lt_or_le k w with q | q
  · have := b4 k a1 q
    omega
  · rcases Int.lt_or_le w k with q2 | q2
    · have := a4 w b1 q2
      omega
    · omega
/-- lengths in common, told by a function -/
def kcp (x y : Int → Int) : Nat → Int → Int → Int
  | 0, _, _ => 0
  | n + 1, a, b => if x a = y b then kcp x y n (a + 1) (b + 1) + 1 else 0
def kL (x : Int → Int) (nx a : Int) (y : Int → Int) (ny b : Int) : Int := kcp x y (min (nx - a) (ny - b)).toNat a b
theorem kcp_spec (x y : Int → Int) : ∀ (n : Nat) (a b : Int), 0 ≤ kcp x y n a b ∧ kcp x y n a b ≤ (n : Int) ∧ kEq x a y b (kcp x y n a b) ∧ (kcp x y n a b = (n : Int) ∨ x (a + kcp x y n a b) ≠ y (b + kcp x y n a b))
  | 0, a, b => ⟨Int.le_refl _, Int.le_refl _, fun t h1 h2 => absurd h2 (by simp [kcp]; omega), Or.inl rfl⟩
  | n + 1, a, b => by
    by_cases h : x a = y b
    · obtain ⟨h1, h2, h3, h4⟩ := kcp_spec x y n (a + 1) (b + 1)
      have e : kcp x y (n + 1) a b = kcp x y n (a + 1) (b + 1) + 1 := by rw [kcp, if_pos h]
      rw [e]
      generalize kcp x y n (a + 1) (b + 1) = k at h1 h2 h3 h4 ⊢
      refine ⟨by omega, by omega, fun t t1 t2 => ?_, ?_⟩
      · by_cases e0 : t = 0
        · rw [e0, Int.add_zero, Int.add_zero]; exact h
        · have := h3 (t - 1) (by omega) (by omega)
          rw [show a + 1 + (t - 1) = a + t by omega, show b + 1 + (t - 1) = b + t by omega] at this
          exact this
      · rcases h4 with h4 | h4
        · exact Or.inl (by omega)
        · refine Or.inr ?_
          rw [show a + (k + 1) = a + 1 + k by omega, show b + (k + 1) = b + 1 + k by omega]
          exact h4
    · have e : kcp x y (n + 1) a b = 0 := by rw [kcp, if_neg h]
      rw [e]
      exact ⟨Int.le_refl _, by omega, fun t t1 t2 => absurd t2 (by omega), Or.inr (by rw [Int.add_zero, Int.add_zero]; exact h)⟩
theorem kL_spec {x y : Int → Int} {nx a ny b : Int} (ha : a ≤ nx) (hb : b ≤ ny) : kLC x nx a y ny b (kL x nx a y ny b) := by
  obtain ⟨h1, h2, h3, h4⟩ := kcp_spec x y (min (nx - a) (ny - b)).toNat a b
  unfold kL
  generalize kcp x y (min (nx - a) (ny - b)).toNat a b = k at h1 h2 h3 h4 ⊢
  refine ⟨h1, by omega, by omega, h3, ?_⟩
  rcases h4 with h4 | h4
  · omega
  · exact Or.inr (Or.inr h4)
theorem kL_of {x y : Int → Int} {nx a ny b k : Int} (h : kLC x nx a y ny b k) : k = kL x nx a y ny b := by
  have h2 := h
  obtain ⟨h1, h3, h4, -⟩ := h2
  exact kLC_one h (kL_spec (by omega) (by omega))
/-- a comparison as promise 12 wants it: less than 0, 0, more than 0 -/
def kD (x : Int → Int) (nx a : Int) (y : Int → Int) (ny b z : Int) : Prop := ∃ k : Int, kLC x nx a y ny b k ∧ ((a + k = nx ∧ b + k = ny ∧ z = 0) ∨ (kLt x nx a y ny b k ∧ z = -(k + 1)) ∨ (kLt y ny b x nx a k ∧ z = k + 1))
/-- where m stitches of y from b on stand first in x; -1 if nowhere -/
def kFst (x : Int → Int) (nx : Int) (y : Int → Int) (b m z : Int) : Prop := (z = -1 ∧ ∀ a : Int, 0 ≤ a → a + m ≤ nx → ¬ kEq x a y b m) ∨ (0 ≤ z ∧ z + m ≤ nx ∧ kEq x z y b m ∧ ∀ a : Int, 0 ≤ a → a < z → ¬ kEq x a y b m)
def kAtP (x : Int → Int) (nx : Int) (y : Int → Int) (b m : Int) : Int → Prop := fun a => a + m ≤ nx ∧ kEq x a y b m
def kPer (x : Int → Int) (n p : Int) : Prop := kEq x 0 x p (n - p)
def kRot (x : Int → Int) (n a t : Int) : Int := if a + t < n then x (a + t) else x (a + t - n)
def kRL (x : Int → Int) (n a b : Int) : Prop := ∃ t : Int, 0 ≤ t ∧ t < n ∧ kRot x n a t < kRot x n b t ∧ ∀ u : Int, 0 ≤ u → u < t → kRot x n a u = kRot x n b u
noncomputable def kBst (x : Int → Int) (n : Int) : Nat → Int
  | 0 => 0
  | k + 1 => kIf (kRL x n ((k : Int) + 1) (kBst x n k)) ((k : Int) + 1) (kBst x n k)
/-- s stitches ahead of p are the same as the last s -/
def kBk (x : Int → Int) (n p s : Int) : Prop := 0 ≤ s ∧ s ≤ p ∧ (∀ t : Int, 0 ≤ t → t < s → x (p - 1 - t) = x (n - 1 - t)) ∧ (s = p ∨ x (p - 1 - s) ≠ x (n - 1 - s))
def kNewS (x : Int → Int) (n st : Int) : Int → Prop := fun v => ∃ e s : Int, 0 ≤ e ∧ e < n ∧ x e = st ∧ kBk x n e s ∧ v = 1 + s
theorem kBk_one {x : Int → Int} {n p s w : Int} (h : kBk x n p s) (h2 : kBk x n p w) : s = w := by
  obtain ⟨a1, a2, a3, a4⟩ := h
  obtain ⟨b1, b2, b3, b4⟩ := h2
  rcases Int.lt_or_le s w with q | q
  · have := b3 s a1 q
    omega
  · rcases Int.lt_or_le w s with q2 | q2
    · have := a3 w b1 q2
      omega
    · omega
theorem kEq_0 (x : Int → Int) (a : Int) (y : Int → Int) (b : Int) : kEq x a y b 0 := fun t h1 h2 => absurd h2 (by omega)
theorem kEq_succ {x : Int → Int} {a : Int} {y : Int → Int} {b m : Int} (h : kEq x a y b m) (q : x (a + m) = y (b + m)) : kEq x a y b (m + 1) := fun t h1 h2 => by
  by_cases e : t = m
  · rw [e]; exact q
  · exact h t h1 (by omega)
def kCom (x : Int → Int) (nx a : Int) (y : Int → Int) (ny : Int) : Int → Prop := fun v => ∃ b : Int, 0 ≤ b ∧ b < ny ∧ kLC x nx a y ny b v
theorem kLC_iff {x y : Int → Int} {nx a ny b k m : Int} (h : kLC x nx a y ny b k) (ha : a + m ≤ nx) (hb : b + m ≤ ny) : m ≤ k ↔ kEq x a y b m := by
  obtain ⟨h1, h2, h3, h4, h5⟩ := h
  refine ⟨fun q t t1 t2 => h4 t t1 (by omega), fun q => ?_⟩
  rcases Int.lt_or_le k m with g | g
  · have := q k h1 g
    omega
  · exact g
theorem kRL_no {x : Int → Int} {n a b t : Int} (ht : 0 ≤ t) (h : ∀ u : Int, 0 ≤ u → u < t → kRot x n a u = kRot x n b u) (h2 : kRot x n b t < kRot x n a t) : ¬ kRL x n a b := by
  rintro ⟨u, g1, g2, g3, g4⟩
  rcases Int.lt_or_le u t with g | g
  · have := h u g1 g
    omega
  · by_cases e : u = t
    · subst e; omega
    · have := g4 t ht (by omega)
      omega
theorem kBst_step {x : Int → Int} {n p : Int} (hp : 1 ≤ p) : kBst x n p.toNat = kIf (kRL x n p (kBst x n (p - 1).toNat)) p (kBst x n (p - 1).toNat) := by
  obtain ⟨k, hk⟩ : ∃ k : Nat, p = (k : Int) + 1 := ⟨(p - 1).toNat, by omega⟩
  subst hk
  rw [show ((k : Int) + 1).toNat = k + 1 by omega, show ((k : Int) + 1 - 1).toNat = k by omega, kBst]
end
section
/-! ===== the order of the ends of a hem ===== -/
/-- the end at a is less than the end at b -/
def kSL (x : Int → Int) (n a b : Int) : Prop := ∃ k : Int, kLC x n a x n b k ∧ kLt x n a x n b k
theorem kEq_symm {x : Int → Int} {a : Int} {y : Int → Int} {b m : Int} (h : kEq x a y b m) : kEq y b x a m := fun t h1 h2 => (h t h1 h2).symm
theorem kLC_symm {x : Int → Int} {nx a : Int} {y : Int → Int} {ny b k : Int} (h : kLC x nx a y ny b k) : kLC y ny b x nx a k := by
  obtain ⟨h1, h2, h3, h4, h5⟩ := h
  refine ⟨h1, h3, h2, kEq_symm h4, ?_⟩
  omega
theorem kSL_irr {x : Int → Int} {n a : Int} : ¬ kSL x n a a := by
  rintro ⟨k, -, h⟩
  unfold kLt at h
  omega
theorem kSL_trans {x : Int → Int} {n a b c : Int} (h : kSL x n a b) (h2 : kSL x n b c) : kSL x n a c := by
  obtain ⟨k, ⟨a1, a2, a3, a4, a5⟩, a6⟩ := h
  obtain ⟨w, ⟨b1, b2, b3, b4, b5⟩, b6⟩ := h2
  unfold kLt at a6 b6
  rcases Int.lt_or_le k w with g | g
  · have e := b4 k a1 g
    refine ⟨k, ⟨a1, a2, by omega, fun t t1 t2 => (a4 t t1 t2).trans (b4 t t1 (by omega)), ?_⟩, ?_⟩
    · omega
    · unfold kLt; omega
  · rcases Int.lt_or_le w k with g2 | g2
    · have e := a4 w b1 g2
      refine ⟨w, ⟨b1, by omega, b3, fun t t1 t2 => (a4 t t1 (by omega)).trans (b4 t t1 t2), ?_⟩, ?_⟩
      · omega
      · unfold kLt; omega
    · have e : w = k := by omega
      subst e
      refine ⟨w, ⟨b1, a2, b3, fun t t1 t2 => (a4 t t1 t2).trans (b4 t t1 t2), ?_⟩, ?_⟩
      · omega
      · unfold kLt; omega
theorem kSL_total {x : Int → Int} {n a b : Int} (ha : a ≤ n) (hb : b ≤ n) (h : a ≠ b) : kSL x n a b ∨ kSL x n b a := by
  have h1 := kL_spec (x := x) (y := x) ha hb
  have h2 := h1
  obtain ⟨a1, a2, a3, a4, a5⟩ := h2
  by_cases g : kLt x n a x n b (kL x n a x n b)
  · exact Or.inl ⟨_, h1, g⟩
  · refine Or.inr ⟨_, kLC_symm h1, ?_⟩
    unfold kLt at g ⊢
    omega
theorem kSL_asymm {x : Int → Int} {n a b : Int} (h : kSL x n a b) : ¬ kSL x n b a := fun q => kSL_irr (kSL_trans h q)
/-- P tells the places of the ends in their order -/
def kOrd (x : Int → Int) (n : Int) (P : Int → Int) : Prop := (∀ r : Int, 0 ≤ r → r < n → 0 ≤ P r ∧ P r < n) ∧ ∀ r s : Int, 0 ≤ r → r < s → s < n → kSL x n (P r) (P s)
def kO (M : kM) (h : Int) : Prop := kOrd (M (h + 3)) (M h 1) (M (8 + h))
/-- the first w of P are the ends from place d on, in their order -/
def kOrdW (x : Int → Int) (n : Int) (P : Int → Int) (w d : Int) : Prop := (∀ r : Int, 0 ≤ r → r < w → d ≤ P r ∧ P r < n) ∧ ∀ r s : Int, 0 ≤ r → r < s → s < w → kSL x n (P r) (P s)
theorem kD_neg {x : Int → Int} {n a b z : Int} (h : kD x n a x n b z) (hz : z < 0) : kSL x n a b := by
  obtain ⟨k, h1, h2⟩ := h
  refine ⟨k, h1, ?_⟩
  have := h1.1
  rcases h2 with ⟨_, _, g⟩ | ⟨g, _⟩ | ⟨_, g⟩
  · omega
  · exact g
  · omega
theorem kD_pos {x : Int → Int} {n a b z : Int} (h : kD x n a x n b z) (hz : 0 ≤ z) (hab : a ≠ b) : kSL x n b a := by
  obtain ⟨k, h1, h2⟩ := h
  refine ⟨k, kLC_symm h1, ?_⟩
  have := h1.1
  rcases h2 with ⟨g1, g2, g⟩ | ⟨_, g⟩ | ⟨g, _⟩
  · omega
  · omega
  · exact g
/-- an end is put in: those that are greater have gone up by one -/
theorem kOrdW_put {x : Int → Int} {n : Int} {P N : Int → Int} {w d r : Int} (h : kOrdW x n P w (d + 1)) (hr : 0 ≤ r ∧ r ≤ w) (hd : d < n) (h1 : ∀ j : Int, 0 ≤ j → j < r → N j = P j) (h2 : N r = d) (h3 : ∀ j : Int, r < j → j ≤ w → N j = P (j - 1))
    (h4 : ∀ j : Int, r ≤ j → j < w → kSL x n d (P j)) (h5 : 0 < r → kSL x n (P (r - 1)) d) : kOrdW x n N (w + 1) d := by
  obtain ⟨g1, g2⟩ := h
  refine ⟨fun j j1 j2 => ?_, fun a b a1 ab b1 => ?_⟩
  · rcases Int.lt_or_le j r with q | q
    · rw [h1 j j1 q]; have := g1 j j1 (by omega); omega
    · by_cases e : j = r
      · rw [e, h2]; omega
      · rw [h3 j (by omega) (by omega)]; have := g1 (j - 1) (by omega) (by omega); omega
  · rcases Int.lt_or_le b r with q | q
    · rw [h1 a a1 (by omega), h1 b (by omega) q]; exact g2 a b a1 ab (by omega)
    · by_cases e : b = r
      · rw [e, h2, h1 a a1 (by omega)]
        by_cases e2 : a = r - 1
        · rw [e2]; exact h5 (by omega)
        · exact kSL_trans (g2 a (r - 1) a1 (by omega) (by omega)) (h5 (by omega))
      · rw [h3 b (by omega) (by omega)]
        rcases Int.lt_or_le a r with q2 | q2
        · rw [h1 a a1 q2]; exact g2 a (b - 1) a1 (by omega) (by omega)
        · by_cases e2 : a = r
          · rw [e2, h2]; exact h4 (b - 1) (by omega) (by omega)
          · rw [h3 a (by omega) (by omega)]; exact g2 (a - 1) (b - 1) (by omega) (by omega) (by omega)
/-- what an end has in common with the next one in the order -/
def kNx (x : Int → Int) (n : Int) (P : Int → Int) (r : Int) : Int := if 0 ≤ r ∧ r + 1 < n then kL x n (P r) x n (P (r + 1)) else 0
def kRw (x : Int → Int) (n : Int) (P : Int → Int) (r : Int) : Int := n - P r - kNx x n P (r - 1)
theorem kNx_in {x : Int → Int} {n : Int} {P : Int → Int} {r : Int} (h : 0 ≤ r ∧ r + 1 < n) : kNx x n P r = kL x n (P r) x n (P (r + 1)) := if_pos h
theorem kNx_out {x : Int → Int} {n : Int} {P : Int → Int} {r : Int} (h : ¬ (0 ≤ r ∧ r + 1 < n)) : kNx x n P r = 0 := if_neg h
theorem kNx_rng {x : Int → Int} {n : Int} {P : Int → Int} (h : kOrd x n P) (r : Int) : 0 ≤ kNx x n P r ∧ (0 ≤ r → r + 1 < n → kNx x n P r ≤ n - P r ∧ kNx x n P r ≤ n - P (r + 1)) ∧ (0 ≤ n → kNx x n P r ≤ n) := by
  by_cases g : 0 ≤ r ∧ r + 1 < n
  · rw [kNx_in g]
    have h1 := h.1 r g.1 (by omega)
    have h2 := h.1 (r + 1) (by omega) g.2
    obtain ⟨a1, a2, a3, -, -⟩ := kL_spec (x := x) (nx := n) (a := P r) (y := x) (ny := n) (b := P (r + 1)) (by omega) (by omega)
    omega
  · rw [kNx_out g]; omega
theorem kRw_rng {x : Int → Int} {n : Int} {P : Int → Int} (h : kOrd x n P) {r : Int} (hr : 0 ≤ r ∧ r < n) : 0 ≤ kRw x n P r ∧ kRw x n P r ≤ n := by
  have h1 := h.1 r hr.1 hr.2
  obtain ⟨a1, a2, a3⟩ := kNx_rng h (r - 1)
  unfold kRw
  by_cases g : 1 ≤ r
  · have := a2 (by omega) (by omega)
    rw [show r - 1 + 1 = r by omega] at this
    omega
  · rw [kNx_out (by omega)]; omega
theorem kWf_len {M : kM} {i v : Int} (hW : kWf M) (hi : 0 ≤ i ∧ i < 3) (hv : 0 ≤ v ∧ v ≤ M i 1) : kWf (kU M i 1 v) := by
  intro k hk
  obtain ⟨a1, a2, a3⟩ := hW k hk
  by_cases e : k = i
  · subst e
    rw [kU_same]
    refine ⟨by omega, by omega, fun j j1 j2 => ?_⟩
    rw [kU_cell (by omega)]
    exact a3 j j1 (by omega)
  · rw [kU_cell e]
    refine ⟨a1, a2, fun j j1 j2 => ?_⟩
    rw [kU_cell (by omega)]
    exact a3 j j1 j2
theorem kWf_app {M : kM} {i st : Int} (hW : kWf M) (hi : 0 ≤ i ∧ i < 3) (hs : 0 ≤ st ∧ st ≤ 8) (hl : M i 1 < 40) : kWf (kU (kU M (i + 3) (M i 1) st) i 1 (M i 1 + 1)) := by
  intro k hk
  obtain ⟨a1, a2, a3⟩ := hW k hk
  by_cases e : k = i
  · subst e
    rw [kU_same]
    refine ⟨by omega, by omega, fun j j1 j2 => ?_⟩
    rw [kU_cell (by omega)]
    by_cases e2 : j = M k 1
    · rw [e2, kU_same]; exact hs
    · rw [kU_place e2]; exact a3 j j1 (by omega)
  · rw [kU_cell e, kU_cell (by omega)]
    refine ⟨a1, a2, fun j j1 j2 => ?_⟩
    rw [kU_cell (by omega), kU_cell (by omega)]
    exact a3 j j1 j2
theorem kWf_congr {M N : kM} (hW : kWf M) (h : ∀ c i : Int, 0 ≤ c → c < 6 → N c i = M c i) : kWf N := by
  intro k hk
  obtain ⟨a1, a2, a3⟩ := hW k hk
  rw [h k 1 (by omega) (by omega)]
  refine ⟨a1, a2, fun j j1 j2 => ?_⟩
  rw [h (k + 3) j (by omega) (by omega)]
  exact a3 j j1 j2
theorem kOrd_congr {x x' : Int → Int} {n n' : Int} {P P' : Int → Int} (h : kOrd x n P) (hn : n' = n) (hx : ∀ j : Int, 0 ≤ j → j < n → x' j = x j) (hP : ∀ r : Int, 0 ≤ r → r < n → P' r = P r) : kOrd x' n' P' := by
  subst hn
  refine ⟨fun r r1 r2 => by rw [hP r r1 r2]; exact h.1 r r1 r2, fun r s r1 rs s1 => ?_⟩
  rw [hP r r1 (by omega), hP s (by omega) s1]
  have b1 := h.1 r r1 (by omega)
  have b2 := h.1 s (by omega) s1
  obtain ⟨k, ⟨a1, a2, a3, a4, a5⟩, a6⟩ := h.2 r s r1 rs s1
  refine ⟨k, ⟨a1, a2, a3, fun t t1 t2 => ?_, ?_⟩, ?_⟩
  · rw [hx _ (by omega) (by omega), hx _ (by omega) (by omega)]; exact a4 t t1 t2
  · by_cases g : P r + k = n' ∨ P s + k = n'
    · omega
    · rw [hx _ (by omega) (by omega), hx _ (by omega) (by omega)]; omega
  · unfold kLt at a6 ⊢
    by_cases g : P r + k = n' ∨ P s + k = n'
    · omega
    · rw [hx _ (by omega) (by omega), hx _ (by omega) (by omega)]; omega
end
section
/-! ===== what the reference reckons with ===== -/
def kWm (M : kM) : Prop := (∀ h : Int, 0 ≤ h ∧ h < 2 → 0 ≤ M 15 h ∧ M 15 h ≤ 40 ∧ ∀ j : Int, 0 ≤ j → j < M 15 h → 0 ≤ M (13 + h) j ∧ M (13 + h) j ≤ 8) ∧ 0 ≤ M 11 4 ∧ M 11 4 ≤ 12 ∧ ∀ j : Int, 0 ≤ j → j < M 11 4 → 0 ≤ M 16 j ∧ M 16 j ≤ 8
def kSame (M : kM) (h : Int) : Prop := ∀ a b : Int, 0 ≤ a → a ≤ M 15 h → 0 ≤ b → b ≤ M 15 h → M (18 + a) b = kL (M (13 + h)) (M 15 h) a (M (13 + h)) (M 15 h) b
def kBoth (M : kM) : Prop := ∀ a b : Int, 0 ≤ a → a ≤ M 15 0 → 0 ≤ b → b ≤ M 15 1 → M (61 + a) b = kL (M 13) (M 15 0) a (M 14) (M 15 1) b
/-- outside of the cells lo to hi nothing has changed -/
def kF (lo hi : Int) (M N : kM) : Prop := ∀ c k : Int, (c < lo ∨ hi < c) → N c k = M c k
theorem kF_row {lo hi : Int} {M N : kM} (h : kF lo hi M N) {c : Int} (hc : c < lo ∨ hi < c) : N c = M c := funext (fun k => h c k hc)
theorem kF_refl (lo hi : Int) (M : kM) : kF lo hi M M := fun _ _ _ => rfl
theorem kF_trans {lo hi : Int} {M N O : kM} (h : kF lo hi M N) (h2 : kF lo hi N O) : kF lo hi M O := fun c k g => (h2 c k g).trans (h c k g)
theorem kF_mono {lo hi lo' hi' : Int} {M N : kM} (h : kF lo hi M N) (h1 : lo' ≤ lo ∧ hi ≤ hi') : kF lo' hi' M N := fun c k g => h c k (by omega)
theorem kWm_F {lo hi : Int} {M N : kM} (hW : kWm M) (h : kF lo hi M N) (hl : 16 < lo) : kWm N := by
  obtain ⟨a1, a2, a3, a4⟩ := hW
  refine ⟨fun c hc => ?_, ?_, ?_, fun j j1 j2 => ?_⟩
  · rw [h 15 c (by omega)]
    obtain ⟨b1, b2, b3⟩ := a1 c hc
    exact ⟨b1, b2, fun j j1 j2 => by rw [h (13 + c) j (by omega)]; exact b3 j j1 j2⟩
  · rw [h 11 4 (by omega)]; exact a2
  · rw [h 11 4 (by omega)]; exact a3
  · rw [h 11 4 (by omega)] at j2
    rw [h 16 j (by omega)]; exact a4 j j1 j2
theorem kL_rng {x : Int → Int} {nx a : Int} {y : Int → Int} {ny b : Int} (ha : a ≤ nx) (hb : b ≤ ny) : 0 ≤ kL x nx a y ny b ∧ a + kL x nx a y ny b ≤ nx ∧ b + kL x nx a y ny b ≤ ny := by
  obtain ⟨h1, h2, h3, -, -⟩ := kL_spec (x := x) (y := y) ha hb
  exact ⟨h1, h2, h3⟩
theorem kL_hit {x : Int → Int} {nx a : Int} {y : Int → Int} {ny b : Int} (ha : a < nx) (hb : b < ny) (h : x a = y b) : kL x nx a y ny b = kL x nx (a + 1) y ny (b + 1) + 1 := by
  obtain ⟨h1, h2, h3, h4, h5⟩ := kL_spec (x := x) (nx := nx) (a := a + 1) (y := y) (ny := ny) (b := b + 1) (by omega) (by omega)
  refine (kL_of ⟨by omega, by omega, by omega, fun t t1 t2 => ?_, ?_⟩).symm
  · by_cases e : t = 0
    · rw [e, Int.add_zero, Int.add_zero]; exact h
    · have := h4 (t - 1) (by omega) (by omega)
      rw [show a + 1 + (t - 1) = a + t by omega, show b + 1 + (t - 1) = b + t by omega] at this
      exact this
  · rw [show a + (kL x nx (a + 1) y ny (b + 1) + 1) = a + 1 + kL x nx (a + 1) y ny (b + 1) by omega, show b + (kL x nx (a + 1) y ny (b + 1) + 1) = b + 1 + kL x nx (a + 1) y ny (b + 1) by omega]
    exact h5
theorem kL_miss {x : Int → Int} {nx a : Int} {y : Int → Int} {ny b : Int} (ha : a ≤ nx) (hb : b ≤ ny) (h : a = nx ∨ b = ny ∨ x a ≠ y b) : kL x nx a y ny b = 0 :=
  (kL_of ⟨Int.le_refl _, by omega, by omega, kEq_0 _ _ _ _, by rw [Int.add_zero, Int.add_zero]; exact h⟩).symm
theorem kL_symm {x : Int → Int} {nx a : Int} {y : Int → Int} {ny b : Int} (ha : a ≤ nx) (hb : b ≤ ny) : kL x nx a y ny b = kL y ny b x nx a := kL_of (kLC_symm (kL_spec ha hb))
/-- the greatest of f at 0 to n - 1, 0 at least -/
def kMaxF (f : Int → Int) : Nat → Int
  | 0 => 0
  | n + 1 => if kMaxF f n < f (n : Int) then f (n : Int) else kMaxF f n
theorem kMaxF_0 (f : Int → Int) : kMaxF f (0 : Int).toNat = 0 := rfl
theorem kMaxF_step (f : Int → Int) {k : Int} (h : 0 ≤ k) : kMaxF f (k + 1).toNat = if kMaxF f k.toNat < f k then f k else kMaxF f k.toNat := by
  have e : (k + 1).toNat = k.toNat + 1 := by omega
  rw [e, kMaxF, show ((k.toNat : Nat) : Int) = k by omega]
theorem kMaxF_rng (f : Int → Int) : ∀ n : Nat, 0 ≤ kMaxF f n ∧ (∀ k : Int, 0 ≤ k → k < (n : Int) → f k ≤ kMaxF f n) ∧ (kMaxF f n = 0 ∨ ∃ k : Int, 0 ≤ k ∧ k < (n : Int) ∧ f k = kMaxF f n)
  | 0 => ⟨Int.le_refl _, fun k k1 k2 => absurd k2 (by omega), Or.inl rfl⟩
  | n + 1 => by
    obtain ⟨h1, h2, h3⟩ := kMaxF_rng f n
    rw [kMaxF]
    split
    · refine ⟨by omega, fun k k1 k2 => ?_, Or.inr ⟨(n : Int), by omega, by omega, rfl⟩⟩
      by_cases e : k = (n : Int)
      · rw [e]; exact Int.le_refl _
      · have := h2 k k1 (by omega); omega
    · refine ⟨h1, fun k k1 k2 => ?_, ?_⟩
      · by_cases e : k = (n : Int)
        · rw [e]; omega
        · exact h2 k k1 (by omega)
      · rcases h3 with h3 | ⟨k, k1, k2, k3⟩
        · exact Or.inl h3
        · exact Or.inr ⟨k, k1, by omega, k3⟩
theorem kMaxF_congr {f g : Int → Int} : ∀ n : Nat, (∀ k : Int, 0 ≤ k → k < (n : Int) → f k = g k) → kMaxF f n = kMaxF g n
  | 0, _ => rfl
  | n + 1, h => by rw [kMaxF, kMaxF, kMaxF_congr n (fun k k1 k2 => h k k1 (by omega)), h (n : Int) (by omega) (by omega)]
theorem kSum_congr {f g : Int → Int} : ∀ n : Nat, (∀ k : Int, 0 ≤ k → k < (n : Int) → f k = g k) → kSum f n = kSum g n
  | 0, _ => rfl
  | n + 1, h => by rw [kSum, kSum, kSum_congr n (fun k k1 k2 => h k k1 (by omega)), h (n : Int) (by omega) (by omega)]
theorem kCnt_congr {P R : Int → Prop} : ∀ n : Nat, (∀ k : Int, 0 ≤ k → k < (n : Int) → (P k ↔ R k)) → kCnt P n = kCnt R n
  | 0, _ => rfl
  | n + 1, h => by
    have e := h (n : Int) (by omega) (by omega)
    rw [kCnt, kCnt, kCnt_congr n (fun k k1 k2 => h k k1 (by omega))]
    by_cases g : P (n : Int)
    · rw [kIf_t g, kIf_t (e.mp g)]
    · rw [kIf_f g, kIf_f (fun q => g (e.mpr q))]
theorem kCnt_lt {P : Int → Prop} : ∀ n : Nat, (∃ k : Int, 0 ≤ k ∧ k < (n : Int) ∧ ¬ P k) → kCnt P n < (n : Int)
  | 0, h => by obtain ⟨k, k1, k2, -⟩ := h; omega
  | n + 1, h => by
    obtain ⟨k, k1, k2, k3⟩ := h
    rw [kCnt]
    by_cases e : k = (n : Int)
    · subst e
      rw [kIf_f k3]
      have := (kCnt_rng P n).2
      omega
    · have := kCnt_lt n ⟨k, k1, by omega, k3⟩
      by_cases g : P (n : Int)
      · rw [kIf_t g]; omega
      · rw [kIf_f g]; omega
theorem kCnt_lt2 {P R : Int → Prop} : ∀ n : Nat, (∀ k : Int, 0 ≤ k → k < (n : Int) → P k → R k) → kCnt P n ≤ kCnt R n ∧ ((∃ k : Int, 0 ≤ k ∧ k < (n : Int) ∧ R k ∧ ¬ P k) → kCnt P n < kCnt R n)
  | 0, _ => ⟨Int.le_refl _, fun h => by obtain ⟨k, k1, k2, -⟩ := h; omega⟩
  | n + 1, h => by
    obtain ⟨a1, a2⟩ := kCnt_lt2 n (fun k k1 k2 => h k k1 (by omega))
    rw [kCnt, kCnt]
    have e := h (n : Int) (by omega) (by omega)
    by_cases g : P (n : Int)
    · rw [kIf_t g, kIf_t (e g)]
      refine ⟨by omega, fun q => ?_⟩
      obtain ⟨k, k1, k2, k3, k4⟩ := q
      by_cases e2 : k = (n : Int)
      · subst e2; exact absurd g k4
      · have := a2 ⟨k, k1, by omega, k3, k4⟩; omega
    · rw [kIf_f g]
      by_cases g2 : R (n : Int)
      · rw [kIf_t g2]
        exact ⟨by omega, fun _ => by omega⟩
      · rw [kIf_f g2]
        refine ⟨by omega, fun q => ?_⟩
        obtain ⟨k, k1, k2, k3, k4⟩ := q
        by_cases e2 : k = (n : Int)
        · subst e2; exact absurd k3 g2
        · have := a2 ⟨k, k1, by omega, k3, k4⟩; omega
/-- the rank of the end at p: how many are less -/
noncomputable def kRk (x : Int → Int) (n p : Int) : Int := kCnt (fun b => kSL x n b p) n.toNat
theorem kRk_lt {x : Int → Int} {n a b : Int} (ha : 0 ≤ a ∧ a < n) (h : kSL x n a b) : kRk x n a < kRk x n b :=
  (kCnt_lt2 n.toNat (fun k k1 k2 g => kSL_trans g h)).2 ⟨a, ha.1, by omega, h, kSL_irr⟩
theorem kRk_rng {x : Int → Int} {n a : Int} (ha : 0 ≤ a ∧ a < n) : 0 ≤ kRk x n a ∧ kRk x n a < n := by
  refine ⟨(kCnt_rng _ _).1, ?_⟩
  have := kCnt_lt (P := fun b => kSL x n b a) n.toNat ⟨a, ha.1, by omega, kSL_irr⟩
  unfold kRk
  omega
theorem kRk_inj {x : Int → Int} {n a b : Int} (ha : 0 ≤ a ∧ a < n) (hb : 0 ≤ b ∧ b < n) (h : kRk x n a = kRk x n b) : a = b := by
  by_cases e : a = b
  · exact e
  · rcases kSL_total (x := x) (n := n) (a := a) (b := b) (by omega) (by omega) e with g | g
    · have := kRk_lt ha g; omega
    · have := kRk_lt hb g; omega
/-- each rank is that of a place -/
theorem kOnto : ∀ (n : Nat) (f : Int → Int), (∀ a : Int, 0 ≤ a → a < (n : Int) → 0 ≤ f a ∧ f a < (n : Int)) → (∀ a b : Int, 0 ≤ a → a < (n : Int) → 0 ≤ b → b < (n : Int) → f a = f b → a = b) → ∀ r : Int, 0 ≤ r → r < (n : Int) → ∃ a : Int, 0 ≤ a ∧ a < (n : Int) ∧ f a = r
  | 0, _, _, _ => fun r r1 r2 => by omega
  | n + 1, f, h1, h2 => by
    intro r r1 r2
    by_cases g : f (n : Int) = r
    · exact ⟨(n : Int), by omega, by omega, g⟩
    · -- the value n is moved to where f n was
      have hn := h1 (n : Int) (by omega) (by omega)
      have key := kOnto n (fun a => if f a = (n : Int) then f (n : Int) else f a) (fun a a1 a2 => ?_) (fun a b a1 a2 b1 b2 e => ?_)
      · by_cases g2 : r = (n : Int)
        · -- then f n < n, and some a has f a = n; it is the one that is sent to f n
          obtain ⟨a, a1, a2, a3⟩ := key (f (n : Int)) hn.1 (by omega)
          by_cases g3 : f a = (n : Int)
          · exact ⟨a, a1, by omega, by rw [g3, g2]⟩
          · rw [if_neg g3] at a3
            have := h2 a (n : Int) a1 (by omega) (by omega) (by omega) a3
            omega
        · obtain ⟨a, a1, a2, a3⟩ := key r r1 (by omega)
          by_cases g3 : f a = (n : Int)
          · rw [if_pos g3] at a3
            exact absurd a3 g
          · rw [if_neg g3] at a3
            exact ⟨a, a1, by omega, a3⟩
      · have q := h1 a a1 (by omega)
        by_cases g3 : f a = (n : Int)
        · rw [if_pos g3]
          refine ⟨hn.1, ?_⟩
          by_cases g4 : f (n : Int) = (n : Int)
          · have := h2 a (n : Int) a1 (by omega) (by omega) (by omega) (by rw [g3, g4]); omega
          · omega
        · rw [if_neg g3]; omega
      · by_cases g3 : f a = (n : Int) <;> by_cases g4 : f b = (n : Int)
        · exact h2 a b a1 (by omega) b1 (by omega) (by rw [g3, g4])
        · rw [if_pos g3, if_neg g4] at e
          have := h2 (n : Int) b (by omega) (by omega) b1 (by omega) e; omega
        · rw [if_neg g3, if_pos g4] at e
          have := h2 a (n : Int) a1 (by omega) (by omega) (by omega) e; omega
        · rw [if_neg g3, if_neg g4] at e
          exact h2 a b a1 (by omega) b1 (by omega) e
theorem kRk_onto {x : Int → Int} {n r : Int} (hr : 0 ≤ r ∧ r < n) : ∃ a : Int, 0 ≤ a ∧ a < n ∧ kRk x n a = r := by
  obtain ⟨a, a1, a2, a3⟩ := kOnto n.toNat (kRk x n) (fun a a1 a2 => by have := kRk_rng (x := x) (n := n) (a := a) (by omega); omega) (fun a b a1 a2 b1 b2 e => kRk_inj (n := n) (by omega) (by omega) e) r hr.1 (by omega)
  exact ⟨a, a1, by omega, a3⟩
theorem kOrd_rk {x : Int → Int} {n : Int} {P : Int → Int} (h : ∀ a : Int, 0 ≤ a → a < n → P (kRk x n a) = a) : kOrd x n P := by
  refine ⟨fun r r1 r2 => ?_, fun r s r1 rs s1 => ?_⟩
  · obtain ⟨a, a1, a2, a3⟩ := kRk_onto (x := x) (n := n) (r := r) (by omega)
    rw [← a3, h a a1 a2]; omega
  · obtain ⟨a, a1, a2, a3⟩ := kRk_onto (x := x) (n := n) (r := r) (by omega)
    obtain ⟨b, b1, b2, b3⟩ := kRk_onto (x := x) (n := n) (r := s) (by omega)
    rw [← a3, ← b3, h a a1 a2, h b b1 b2]
    have hne : a ≠ b := by rintro rfl; omega
    rcases kSL_total (x := x) (n := n) (a := a) (b := b) (by omega) (by omega) hne with g | g
    · exact g
    · have := kRk_lt (n := n) ⟨b1, b2⟩ g; omega
/-- an order is the only one -/
theorem kOrd_at {x : Int → Int} {n : Int} {P : Int → Int} (h : kOrd x n P) {r : Int} (hr : 0 ≤ r ∧ r < n) : kRk x n (P r) = r := by
  -- the rank goes up along P, and stays in 0 .. n - 1
  have up : ∀ (k : Nat) (r : Int), r = (k : Int) → r < n → r ≤ kRk x n (P r) := by
    intro k
    induction k with
    | zero => intro r h0 h1; rw [h0]; exact (kCnt_rng _ _).1
    | succ k ih =>
      intro r h0 h1
      have a1 := ih (r - 1) (by omega) (by omega)
      have a2 := kRk_lt (x := x) (n := n) (h.1 (r - 1) (by omega) (by omega)) (h.2 (r - 1) r (by omega) (by omega) h1)
      omega
  have dn : ∀ (k : Nat) (r : Int), n - 1 - r = (k : Int) → 0 ≤ r → kRk x n (P r) ≤ r := by
    intro k
    induction k with
    | zero =>
      intro r h0 h1
      have := (kRk_rng (x := x) (n := n) (h.1 r h1 (by omega))).2
      omega
    | succ k ih =>
      intro r h0 h1
      have a1 := ih (r + 1) (by omega) (by omega)
      have a2 := kRk_lt (x := x) (n := n) (h.1 r h1 (by omega)) (h.2 r (r + 1) h1 (by omega) (by omega))
      omega
  have := up r.toNat r (by omega) hr.2
  have := dn (n - 1 - r).toNat r (by omega) hr.1
  omega
theorem kOrd_one {x : Int → Int} {n : Int} {P P' : Int → Int} (h : kOrd x n P) (h' : kOrd x n P') {r : Int} (hr : 0 ≤ r ∧ r < n) : P r = P' r := by
  have a := kOrd_at h hr
  have b := kOrd_at h' hr
  exact kRk_inj (h.1 r hr.1 hr.2) (h'.1 r hr.1 hr.2) (a.trans b.symm)
theorem kOrd_rk_at {x : Int → Int} {n : Int} {P : Int → Int} (h : kOrd x n P) {a : Int} (ha : 0 ≤ a ∧ a < n) : P (kRk x n a) = a := by
  have hr := kRk_rng (x := x) ha
  exact kRk_inj (h.1 _ hr.1 hr.2) ha (kOrd_at h hr)
end
section
noncomputable def kMb (x : Int → Int) (n a : Int) : Int := kMaxF (fun b => kL x n a x n b) a.toNat
noncomputable def kDr (x : Int → Int) (n a : Int) : Int := n - a - kMb x n a
noncomputable def kMbs (x : Int → Int) (n a : Int) : Int := kMaxF (fun b => if b = a then 0 else kL x n a x n b) n.toNat
noncomputable def kMac (x : Int → Int) (nx : Int) (y : Int → Int) (ny a : Int) : Int := kMaxF (fun b => kL x nx a y ny b) ny.toNat
/-- of the places 0 to w - 1 the one with the most by f, of several with as many the one whose row is least, of those the first -/
def kTop (f : Int → Int) (x : Int → Int) (n w b k : Int) : Prop := (b = -1 ∧ k = 0 ∧ ∀ a : Int, 0 ≤ a → a < w → f a ≤ 0) ∨ (0 ≤ b ∧ b < w ∧ 0 < k ∧ k = f b ∧ ∀ a : Int, 0 ≤ a → a < w → f a < k ∨ (f a = k ∧ ((k ≤ kL x n a x n b ∧ b ≤ a) ∨ (kL x n a x n b < k ∧ kSL x n b a))))
theorem kTop_0 (f : Int → Int) (x : Int → Int) (n : Int) : kTop f x n 0 (-1) 0 := Or.inl ⟨rfl, rfl, fun a h1 h2 => absurd h2 (by omega)⟩
theorem kTop_skip {f : Int → Int} {x : Int → Int} {n w b k : Int} (h : kTop f x n w b k) (h0 : f w < k ∨ f w ≤ 0) : kTop f x n (w + 1) b k := by
  rcases h with ⟨h1, h2, h3⟩ | ⟨h1, h2, h3, h4, h5⟩
  · refine Or.inl ⟨h1, h2, fun a a1 a2 => ?_⟩
    by_cases e : a = w
    · rw [e]; omega
    · exact h3 a a1 (by omega)
  · refine Or.inr ⟨h1, by omega, h3, h4, fun a a1 a2 => ?_⟩
    by_cases e : a = w
    · rw [e]; omega
    · exact h5 a a1 (by omega)
theorem kL_self {x : Int → Int} {n a : Int} (h : a ≤ n) : kL x n a x n a = n - a :=
  (kL_of ⟨by omega, by omega, by omega, fun _ _ _ => rfl, by omega⟩).symm
theorem kTop_new {f : Int → Int} {x : Int → Int} {n w b k : Int} (h : kTop f x n w b k) (hw : 0 ≤ w ∧ w < n) (hf : f w ≤ n - w) (h0 : k < f w) : kTop f x n (w + 1) w (f w) := by
  have hk : 0 ≤ k := by rcases h with ⟨_, g, _⟩ | ⟨_, _, g, _⟩ <;> omega
  refine Or.inr ⟨hw.1, by omega, by omega, rfl, fun a a1 a2 => ?_⟩
  by_cases e : a = w
  · subst e
    exact Or.inr ⟨rfl, Or.inl ⟨by rw [kL_self (by omega)]; exact hf, Int.le_refl _⟩⟩
  · rcases h with ⟨h1, h2, h3⟩ | ⟨h1, h2, h3, h4, h5⟩
    · have := h3 a a1 (by omega); exact Or.inl (by omega)
    · have := h5 a a1 (by omega); exact Or.inl (by omega)
theorem kTop_eq1 {f : Int → Int} {x : Int → Int} {n w b k : Int} (h : kTop f x n w b k) (h0 : f w = k) (h1 : k ≤ kL x n w x n b) : kTop f x n (w + 1) b k := by
  rcases h with ⟨g1, g2, g3⟩ | ⟨g1, g2, g3, g4, g5⟩
  · exact kTop_skip (Or.inl ⟨g1, g2, g3⟩) (by omega)
  · refine Or.inr ⟨g1, by omega, g3, g4, fun a a1 a2 => ?_⟩
    by_cases e : a = w
    · subst e; exact Or.inr ⟨h0, Or.inl ⟨h1, by omega⟩⟩
    · exact g5 a a1 (by omega)
theorem kTop_eq2 {f : Int → Int} {x : Int → Int} {n w b k : Int} (h : kTop f x n w b k) (hw : 0 ≤ w ∧ w < n) (h0 : f w = k) (h1 : kL x n w x n b < k) (h2 : ¬ kSL x n w b) : kTop f x n (w + 1) b k := by
  rcases h with ⟨g1, g2, g3⟩ | ⟨g1, g2, g3, g4, g5⟩
  · exact kTop_skip (Or.inl ⟨g1, g2, g3⟩) (by omega)
  · refine Or.inr ⟨g1, by omega, g3, g4, fun a a1 a2 => ?_⟩
    by_cases e : a = w
    · subst e
      refine Or.inr ⟨h0, Or.inr ⟨h1, ?_⟩⟩
      have hne : a ≠ b := by omega
      exact (kSL_total (x := x) (n := n) (a := a) (b := b) (by omega) (by omega) hne).resolve_left h2
    · exact g5 a a1 (by omega)
/-- an end that is the same as b for m stitches stands to a as b does, if a differs from b before -/
theorem kSL_like {x : Int → Int} {n a b c m : Int} (ha : a ≤ n) (hb : b ≤ n) (hc : c ≤ n) (h1 : m ≤ kL x n c x n b) (h2 : kL x n a x n b < m) : kL x n a x n c = kL x n a x n b ∧ (kSL x n a b ↔ kSL x n a c) := by
  obtain ⟨a1, a2, a3, a4, a5⟩ := kL_spec (x := x) (y := x) (nx := n) (ny := n) (a := a) (b := b) ha hb
  obtain ⟨b1, b2, b3, b4, b5⟩ := kL_spec (x := x) (y := x) (nx := n) (ny := n) (a := c) (b := b) hc hb
  generalize hk : kL x n a x n b = k at *
  generalize hw : kL x n c x n b = w at *
  have e1 := b4 k a1 (by omega)
  have hlc : kLC x n a x n c k := by
    refine ⟨a1, a2, by omega, fun t t1 t2 => (a4 t t1 t2).trans (b4 t t1 (by omega)).symm, ?_⟩
    rcases a5 with g | g | g
    · exact Or.inl g
    · omega
    · exact Or.inr (Or.inr (by rw [e1]; exact g))
  have hlb : kLC x n a x n b k := ⟨a1, a2, a3, a4, a5⟩
  refine ⟨(kL_of hlc).symm, fun q => ?_, fun q => ?_⟩
  · obtain ⟨k', q1, q2⟩ := q
    have := kLC_one hlb q1
    subst this
    refine ⟨k, hlc, ?_⟩
    unfold kLt at q2 ⊢
    omega
  · obtain ⟨k', q1, q2⟩ := q
    have := kLC_one hlc q1
    subst this
    refine ⟨k, hlb, ?_⟩
    unfold kLt at q2 ⊢
    omega
theorem kTop_eq3 {f : Int → Int} {x : Int → Int} {n w b k : Int} (h : kTop f x n w b k) (hw : 0 ≤ w ∧ w < n) (hf : f w ≤ n - w) (h0 : f w = k) (hk : 0 < k) (h1 : kL x n w x n b < k) (h2 : kSL x n w b) : kTop f x n (w + 1) w (f w) := by
  rcases h with ⟨g1, g2, g3⟩ | ⟨g1, g2, g3, g4, g5⟩
  · omega
  · rw [h0]
    refine Or.inr ⟨hw.1, by omega, g3, h0.symm, fun a a1 a2 => ?_⟩
    by_cases e : a = w
    · subst e
      exact Or.inr ⟨h0, Or.inl ⟨by rw [kL_self (by omega)]; omega, Int.le_refl _⟩⟩
    · rcases g5 a a1 (by omega) with q | ⟨q, q2⟩
      · exact Or.inl q
      · refine Or.inr ⟨q, Or.inr ?_⟩
        rcases q2 with ⟨q3, q4⟩ | ⟨q3, q4⟩
        · obtain ⟨r1, r2⟩ := kSL_like (x := x) (n := n) (a := w) (b := b) (c := a) (m := k) (by omega) (by omega) (by omega) q3 h1
          rw [kL_symm (by omega) (by omega), r1]
          exact ⟨h1, r2.mp h2⟩
        · refine ⟨?_, kSL_trans h2 q4⟩
          rcases Int.lt_or_le (kL x n a x n w) k with r | r
          · exact r
          · exfalso
            -- then a is the same as w for k stitches, w differs from b before, and is less: so is a
            have e1 : kL x n b x n w < k := by rw [kL_symm (by omega) (by omega)]; exact h1
            obtain ⟨r1, r2⟩ := kSL_like (x := x) (n := n) (a := b) (b := w) (c := a) (m := k) (by omega) (by omega) (by omega) r e1
            exact kSL_asymm h2 (r2.mpr q4)
theorem kTop_one {f : Int → Int} {x : Int → Int} {n w b k b' k' : Int} (hw : w ≤ n) (h : kTop f x n w b k) (h' : kTop f x n w b' k') : b = b' ∧ k = k' := by
  rcases h with ⟨a1, a2, a3⟩ | ⟨a1, a2, a3, a4, a5⟩ <;> rcases h' with ⟨c1, c2, c3⟩ | ⟨c1, c2, c3, c4, c5⟩
  · omega
  · have := a3 b' c1 c2; omega
  · have := c3 b a1 a2; omega
  · have p1 := a5 b' c1 c2
    have p2 := c5 b a1 a2
    have e : k = k' := by omega
    subst e
    refine ⟨?_, rfl⟩
    have s1 : kL x n b' x n b = kL x n b x n b' := kL_symm (by omega) (by omega)
    rcases p1 with p1 | ⟨-, p1⟩
    · omega
    · rcases p2 with p2 | ⟨-, p2⟩
      · omega
      · rcases p1 with ⟨q1, q2⟩ | ⟨q1, q2⟩ <;> rcases p2 with ⟨r1, r2⟩ | ⟨r1, r2⟩
        · omega
        · omega
        · omega
        · exact absurd r2 (kSL_asymm q2)
def kIsRep (x : Int → Int) (n w z : Int) : Prop := ∃ b k : Int, kTop (kMbs x n) x n n b k ∧ ((w = 0 ∧ z = k) ∨ (w = 1 ∧ z = b) ∨ (w ≠ 0 ∧ w ≠ 1 ∧ ((b = -1 ∧ z = 0) ∨ (0 ≤ b ∧ z = kCnt (fun c => k ≤ kL x n c x n b) n.toNat))))
def kIsSeam (x : Int → Int) (nx : Int) (y : Int → Int) (ny w z : Int) : Prop := ∃ b k : Int, kTop (kMac x nx y ny) x nx nx b k ∧ ((w = 0 ∧ z = k) ∨ (w = 1 ∧ z = b) ∨ (w ≠ 0 ∧ w ≠ 1 ∧ ((b = -1 ∧ z = -1) ∨ (0 ≤ b ∧ 0 ≤ z ∧ z < ny ∧ k ≤ kL x nx b y ny z ∧ ∀ c : Int, 0 ≤ c → c < z → kL x nx b y ny c < k))))
def kSmp (x : Int → Int) (n : Int) (y : Int → Int) (m : Int) : Int → Prop := fun a => 0 < m ∧ a + m ≤ n ∧ kEq x a y 0 m
def kIsPer (x : Int → Int) (n z : Int) : Prop := (n = 0 ∧ z = 0) ∨ (1 ≤ z ∧ z ≤ n ∧ kPer x n z ∧ ∀ p : Int, 1 ≤ p → p < z → ¬ kPer x n p)
theorem kRot_mod {x : Int → Int} {n a t : Int} (ha : 0 ≤ a ∧ a < n) (ht : 0 ≤ t ∧ t < n) : x ((a + t) % n) = kRot x n a t := by
  unfold kRot
  split
  · rw [Int.emod_eq_of_lt (by omega) (by omega)]
  · rw [← Int.sub_emod_right, Int.emod_eq_of_lt (by omega) (by omega)]
theorem kMaxF_le {f : Int → Int} {n : Nat} {u : Int} (hu : 0 ≤ u) (h : ∀ k : Int, 0 ≤ k → k < (n : Int) → f k ≤ u) : kMaxF f n ≤ u := by
  rcases (kMaxF_rng f n).2.2 with g | ⟨k, k1, k2, k3⟩
  · omega
  · rw [← k3]; exact h k k1 k2
theorem kMbs_rng {x : Int → Int} {n a : Int} (ha : 0 ≤ a ∧ a < n) : 0 ≤ kMbs x n a ∧ kMbs x n a ≤ n - a := by
  refine ⟨(kMaxF_rng _ _).1, kMaxF_le (by omega) (fun k k1 k2 => ?_)⟩
  split
  · omega
  · have := kL_rng (x := x) (y := x) (nx := n) (ny := n) (a := a) (b := k) (by omega) (by omega)
    omega
theorem kMac_rng {x : Int → Int} {nx : Int} {y : Int → Int} {ny a : Int} (ha : 0 ≤ a ∧ a ≤ nx) : 0 ≤ kMac x nx y ny a ∧ kMac x nx y ny a ≤ nx - a := by
  refine ⟨(kMaxF_rng _ _).1, kMaxF_le (by omega) (fun k k1 k2 => ?_)⟩
  have := kL_rng (x := x) (y := y) (nx := nx) (ny := ny) (a := a) (b := k) (by omega) (by omega)
  omega
theorem kMb_rng {x : Int → Int} {n a : Int} (ha : 0 ≤ a ∧ a < n) : 0 ≤ kMb x n a ∧ kMb x n a ≤ n - a := by
  refine ⟨(kMaxF_rng _ _).1, kMaxF_le (by omega) (fun k k1 k2 => ?_)⟩
  have := kL_rng (x := x) (y := x) (nx := n) (ny := n) (a := a) (b := k) (by omega) (by omega)
  omega
end
section
/-! ===== both reckonings come to the same ===== -/
theorem kLeast (P : Int → Prop) : ∀ (m : Nat) (k : Int), k = (m : Int) → P k → ∃ j : Int, 0 ≤ j ∧ j ≤ k ∧ P j ∧ ∀ i : Int, 0 ≤ i → i < j → ¬ P i := by
  intro m
  induction m using Nat.strongRecOn with
  | ind m ih =>
    intro k hk hP
    by_cases h : ∃ i : Int, 0 ≤ i ∧ i < k ∧ P i
    · obtain ⟨i, i1, i2, i3⟩ := h
      obtain ⟨j, j1, j2, j3, j4⟩ := ih i.toNat (by omega) i (by omega) i3
      exact ⟨j, j1, by omega, j3, j4⟩
    · exact ⟨k, by omega, Int.le_refl _, hP, fun i i1 i2 i3 => h ⟨i, i1, i2, i3⟩⟩
theorem kL_tr {x y z : Int → Int} {nx a ny b nz c m : Int} (ha : a ≤ nx) (hb : b ≤ ny) (hc : c ≤ nz) (h1 : m ≤ kL x nx a y ny b) (h2 : m ≤ kL y ny b z nz c) : m ≤ kL x nx a z nz c := by
  have s1 := kL_spec (x := x) (y := y) ha hb
  have s2 := kL_spec (x := y) (y := z) hb hc
  have s3 := kL_spec (x := x) (y := z) ha hc
  have r1 := s1.2.1
  have r2 := s2.2.2.1
  refine (kLC_iff s3 (by omega) (by omega)).mpr (fun t t1 t2 => ?_)
  rw [s1.2.2.2.1 t t1 (by omega), s2.2.2.2.1 t t1 (by omega)]
theorem kL_mid {x : Int → Int} {n a b c : Int} (ha : a ≤ n) (hb : b ≤ n) (hc : c ≤ n) (h1 : kSL x n a b) (h2 : kSL x n b c) : kL x n a x n c ≤ kL x n a x n b ∧ kL x n a x n c ≤ kL x n b x n c := by
  have sy := kL_symm (x := x) (y := x) (nx := n) (ny := n) (a := a) (b := c) ha hc
  have sy2 := kL_symm (x := x) (y := x) (nx := n) (ny := n) (a := a) (b := b) ha hb
  constructor
  · rcases Int.lt_or_le (kL x n a x n b) (kL x n a x n c) with q | q
    · have := (kSL_like (x := x) (n := n) (a := b) (b := a) (c := c) (m := kL x n a x n c) hb ha hc (by omega) (by omega)).2
      exact absurd (this.mpr h2) (kSL_asymm h1)
    · exact q
  · rcases Int.lt_or_le (kL x n b x n c) (kL x n a x n c) with q | q
    · have := (kSL_like (x := x) (n := n) (a := b) (b := c) (c := a) (m := kL x n a x n c) hb hc ha (by omega) (by omega)).2
      exact absurd (this.mp h2) (kSL_asymm h1)
    · exact q
/-- two ends have no more in common than the neighbours between them -/
theorem kNx_min {x : Int → Int} {n : Int} {P : Int → Int} (h : kOrd x n P) {r s t : Int} (hr : 0 ≤ r) (hs : s < n) (h1 : r ≤ t) (h2 : t < s) : kL x n (P r) x n (P s) ≤ kNx x n P t := by
  have br := h.1 r hr (by omega)
  have bs := h.1 s (by omega) hs
  have bt := h.1 t (by omega) (by omega)
  have bu := h.1 (t + 1) (by omega) (by omega)
  rw [kNx_in (by omega)]
  have e1 : kL x n (P r) x n (P s) ≤ kL x n (P t) x n (P s) := by
    by_cases q : r = t
    · rw [q]; exact Int.le_refl _
    · exact (kL_mid (by omega) (by omega) (by omega) (h.2 r t hr (by omega) (by omega)) (h.2 t s (by omega) h2 hs)).2
  have e2 : kL x n (P t) x n (P s) ≤ kL x n (P t) x n (P (t + 1)) := by
    by_cases q : s = t + 1
    · rw [q]; exact Int.le_refl _
    · exact (kL_mid (by omega) (by omega) (by omega) (h.2 t (t + 1) (by omega) (by omega) (by omega)) (h.2 (t + 1) s (by omega) (by omega) hs)).1
  omega
/-- any two different places: their ranks, and the neighbours at the lesser one -/
theorem kNx_pair {x : Int → Int} {n : Int} {P : Int → Int} (h : kOrd x n P) {a b : Int} (ha : 0 ≤ a ∧ a < n) (hb : 0 ≤ b ∧ b < n) (hab : a ≠ b) : ∃ t : Int, 0 ≤ t ∧ t + 1 < n ∧ t ≤ kRk x n a ∧ kL x n a x n b ≤ kNx x n P t := by
  have ra := kRk_rng (x := x) ha
  have rb := kRk_rng (x := x) hb
  have pa := kOrd_rk_at h ha
  have pb := kOrd_rk_at h hb
  have hne : kRk x n a ≠ kRk x n b := fun q => hab (kRk_inj ha hb q)
  rcases Int.lt_or_le (kRk x n a) (kRk x n b) with q | q
  · refine ⟨kRk x n a, by omega, by omega, Int.le_refl _, ?_⟩
    have := kNx_min h (r := kRk x n a) (s := kRk x n b) (t := kRk x n a) ra.1 rb.2 (Int.le_refl _) q
    rw [pa, pb] at this
    exact this
  · refine ⟨kRk x n b, by omega, by omega, q, ?_⟩
    have := kNx_min h (r := kRk x n b) (s := kRk x n a) (t := kRk x n b) rb.1 ra.2 (Int.le_refl _) (by omega)
    rw [pa, pb, kL_symm (by omega) (by omega)] at this
    exact this
/-! counting -/
theorem kCnt_drop {Q : Int → Prop} {j : Int} : ∀ n : Nat, 0 ≤ j → j < (n : Int) → Q j → kCnt Q n = kCnt (fun k => Q k ∧ k ≠ j) n + 1
  | 0, h0, h1, _ => by omega
  | n + 1, h0, h1, hq => by
    rw [kCnt, kCnt]
    by_cases e : j = (n : Int)
    · subst e
      rw [kIf_t hq, kIf_f (fun q => q.2 rfl)]
      have : kCnt Q n = kCnt (fun k => Q k ∧ k ≠ (n : Int)) n := kCnt_congr n (fun k k1 k2 => ⟨fun q => ⟨q, by omega⟩, fun q => q.1⟩)
      omega
    · have ih := kCnt_drop (Q := Q) n h0 (by omega) hq
      by_cases g : Q (n : Int)
      · rw [kIf_t g, kIf_t ⟨g, Ne.symm e⟩]; omega
      · rw [kIf_f g, kIf_f (fun q => g q.1)]; omega
theorem kCnt_inj {R : Int → Int → Prop} : ∀ (m : Nat) (n : Nat) (P Q : Int → Prop), (∀ i : Int, 0 ≤ i → i < (m : Int) → P i → ∃ j : Int, 0 ≤ j ∧ j < (n : Int) ∧ Q j ∧ R i j) → (∀ i i' j : Int, P i → P i' → R i j → R i' j → i = i') → kCnt P m ≤ kCnt Q n
  | 0, n, P, Q, _, _ => (kCnt_rng Q n).1
  | m + 1, n, P, Q, h1, h2 => by
    rw [kCnt]
    by_cases g : P (m : Int)
    · rw [kIf_t g]
      obtain ⟨j, j1, j2, j3, j4⟩ := h1 (m : Int) (by omega) (by omega) g
      rw [kCnt_drop n j1 j2 j3]
      have ih := kCnt_inj m n (fun i => P i ∧ i ≠ (m : Int)) (fun k => Q k ∧ k ≠ j) (fun i i1 i2 i3 => by
        obtain ⟨k, k1, k2, k3, k4⟩ := h1 i i1 (by omega) i3.1
        refine ⟨k, k1, k2, ⟨k3, fun e => ?_⟩, k4⟩
        subst e
        exact i3.2 (h2 _ _ _ i3.1 g k4 j4)) (fun i i' k p1 p2 r1 r2 => h2 i i' k p1.1 p2.1 r1 r2)
      have e2 : kCnt P m = kCnt (fun i => P i ∧ i ≠ (m : Int)) m := kCnt_congr m (fun k k1 k2 => ⟨fun q => ⟨q, by omega⟩, fun q => q.1⟩)
      omega
    · rw [kIf_f g]
      have ih := kCnt_inj m n P Q (fun i i1 i2 i3 => h1 i i1 (by omega) i3) h2
      omega
theorem kSum_add (f g : Int → Int) : ∀ n : Nat, kSum (fun k => f k + g k) n = kSum f n + kSum g n
  | 0 => rfl
  | n + 1 => by rw [kSum, kSum, kSum, kSum_add f g n]; omega
theorem kSum_zero : ∀ n : Nat, kSum (fun _ => 0) n = 0
  | 0 => rfl
  | n + 1 => by rw [kSum, kSum_zero n]; rfl
theorem kSum_cnt (P : Int → Prop) : ∀ n : Nat, kSum (fun k => kIf (P k) 1 0) n = kCnt P n
  | 0 => rfl
  | n + 1 => by rw [kSum, kCnt, kSum_cnt P n]
theorem kSum_swap (R : Int → Int → Prop) (n : Nat) : ∀ m : Nat, kSum (fun a => kCnt (R a) n) m = kSum (fun t => kCnt (fun a => R a t) m) n
  | 0 => (kSum_zero n).symm
  | m + 1 => by
    rw [kSum, kSum_swap R n m]
    have e : (fun t => kCnt (fun a => R a t) (m + 1)) = fun t => kCnt (fun a => R a t) m + kIf (R (m : Int) t) 1 0 := rfl
    rw [e, kSum_add, kSum_cnt]
theorem kCnt_seg (lo hi : Int) : ∀ n : Nat, 0 ≤ lo → lo ≤ hi → kCnt (fun t => lo < t + 1 ∧ t + 1 ≤ hi) n = (if (n : Int) ≤ lo then 0 else if (n : Int) ≤ hi then (n : Int) - lo else hi - lo)
  | 0, h0, h1 => by rw [if_pos (by omega)]; rfl
  | n + 1, h0, h1 => by
    rw [kCnt, kCnt_seg lo hi n h0 h1]
    by_cases g : lo < (n : Int) + 1 ∧ (n : Int) + 1 ≤ hi
    · rw [kIf_t g]
      split <;> split <;> (try split) <;> omega
    · rw [kIf_f g]
      split <;> split <;> (try split) <;> omega
theorem kMb_lt {x : Int → Int} {n a m : Int} (h : kMb x n a < m) {b : Int} (hb : 0 ≤ b ∧ b < a) : kL x n a x n b < m := by
  have := (kMaxF_rng (fun b => kL x n a x n b) a.toNat).2.1 b hb.1 (by omega)
  unfold kMb at h
  omega
/-- the number of different rows: by places, or by ranks -/
theorem kRw_tot {x : Int → Int} {n : Int} {P : Int → Int} (hn : 0 ≤ n) (h : kOrd x n P) : kSum (kRw x n P) n.toNat = kSum (kDr x n) n.toNat := by
  have e1 : kSum (kDr x n) n.toNat = kSum (fun a => kCnt (fun t => kMb x n a < t + 1 ∧ t + 1 ≤ n - a) n.toNat) n.toNat := by
    refine kSum_congr _ (fun a a1 a2 => ?_)
    have hb := kMb_rng (x := x) (n := n) (a := a) (by omega)
    rw [kCnt_seg _ _ _ hb.1 hb.2]
    unfold kDr
    split <;> (try split) <;> omega
  have e2 : kSum (kRw x n P) n.toNat = kSum (fun r => kCnt (fun t => kNx x n P (r - 1) < t + 1 ∧ t + 1 ≤ n - P r) n.toNat) n.toNat := by
    refine kSum_congr _ (fun r r1 r2 => ?_)
    have hb := h.1 r r1 (by omega)
    obtain ⟨c1, c2, c3⟩ := kNx_rng h (r - 1)
    have c4 : kNx x n P (r - 1) ≤ n - P r := by
      by_cases g : 1 ≤ r
      · have := (c2 (by omega) (by omega)).2
        rwa [show r - 1 + 1 = r by omega] at this
      · rw [kNx_out (by omega)]; omega
    rw [kCnt_seg _ _ _ c1 c4]
    unfold kRw
    split <;> (try split) <;> omega
  rw [e1, e2, kSum_swap (fun a t => kMb x n a < t + 1 ∧ t + 1 ≤ n - a), kSum_swap (fun r t => kNx x n P (r - 1) < t + 1 ∧ t + 1 ≤ n - P r)]
  refine kSum_congr _ (fun t t1 t2 => ?_)
  have le1 : kCnt (fun a => kMb x n a < t + 1 ∧ t + 1 ≤ n - a) n.toNat ≤ kCnt (fun r => kNx x n P (r - 1) < t + 1 ∧ t + 1 ≤ n - P r) n.toNat := by
    refine kCnt_inj (R := fun a r => 0 ≤ a ∧ a < n ∧ 0 ≤ r ∧ r < n ∧ t + 1 ≤ kL x n a x n (P r)) _ _ _ _ (fun a a1 a2 a3 => ?_) (fun a b r p1 p2 r1 r2 => ?_)
    · have ra := kRk_rng (x := x) (n := n) (a := a) (by omega)
      obtain ⟨r, r1, r2, r3, r4⟩ := kLeast (fun r => t + 1 ≤ kL x n a x n (P r)) (kRk x n a).toNat (kRk x n a) (by omega) (by
        show t + 1 ≤ kL x n a x n (P (kRk x n a))
        rw [kOrd_rk_at h (by omega), kL_self (by omega)]; exact a3.2)
      have hb := h.1 r r1 (by omega)
      have hl := kL_rng (x := x) (y := x) (nx := n) (ny := n) (a := a) (b := P r) (by omega) (by omega)
      refine ⟨r, r1, by omega, ⟨?_, by omega⟩, by omega, by omega, r1, by omega, r3⟩
      rcases Int.lt_or_le (kNx x n P (r - 1)) (t + 1) with q | q
      · exact q
      · exfalso
        by_cases g : 1 ≤ r
        · rw [kNx_in (by omega), show r - 1 + 1 = r by omega] at q
          have hb2 := h.1 (r - 1) (by omega) (by omega)
          refine r4 (r - 1) (by omega) (by omega) (kL_tr (y := x) (ny := n) (b := P r) (by omega) (by omega) (by omega) r3 ?_)
          rw [kL_symm (by omega) (by omega)]; exact q
        · rw [kNx_out (by omega)] at q; omega
    · obtain ⟨c1, c2, c3, c4, c5⟩ := r1
      obtain ⟨d1, d2, -, -, d5⟩ := r2
      have hb := h.1 r c3 c4
      have sb := kL_symm (x := x) (y := x) (nx := n) (ny := n) (a := b) (b := P r) (by omega) (by omega)
      have q := kL_tr (x := x) (y := x) (z := x) (nx := n) (ny := n) (nz := n) (a := a) (b := P r) (c := b) (m := t + 1) (by omega) (by omega) (by omega) c5 (by omega)
      have sq := kL_symm (x := x) (y := x) (nx := n) (ny := n) (a := a) (b := b) (by omega) (by omega)
      rcases Int.lt_or_le a b with g | g
      · have := kMb_lt p2.1 (b := a) (by omega); omega
      · rcases Int.lt_or_le b a with g2 | g2
        · have := kMb_lt p1.1 (b := b) (by omega); omega
        · omega
  have le2 : kCnt (fun r => kNx x n P (r - 1) < t + 1 ∧ t + 1 ≤ n - P r) n.toNat ≤ kCnt (fun a => kMb x n a < t + 1 ∧ t + 1 ≤ n - a) n.toNat := by
    refine kCnt_inj (R := fun r a => 0 ≤ a ∧ a < n ∧ 0 ≤ r ∧ r < n ∧ t + 1 ≤ kL x n (P r) x n a) _ _ _ _ (fun r r1 r2 r3 => ?_) (fun r s a p1 p2 q1 q2 => ?_)
    · have hb := h.1 r r1 (by omega)
      obtain ⟨a, a1, a2, a3, a4⟩ := kLeast (fun a => t + 1 ≤ kL x n (P r) x n a) (P r).toNat (P r) (by omega) (by
        show t + 1 ≤ kL x n (P r) x n (P r)
        rw [kL_self (by omega)]; exact r3.2)
      have hl := kL_rng (x := x) (y := x) (nx := n) (ny := n) (a := P r) (b := a) (by omega) (by omega)
      refine ⟨a, a1, by omega, ⟨?_, by omega⟩, a1, by omega, r1, by omega, a3⟩
      rcases (kMaxF_rng (fun b => kL x n a x n b) a.toNat).2.2 with q | ⟨b, b1, b2, b3⟩
      · show kMaxF _ _ < _
        omega
      · show kMaxF _ _ < _
        rw [← b3]
        rcases Int.lt_or_le (kL x n a x n b) (t + 1) with q | q
        · exact q
        · exact absurd (kL_tr (x := x) (y := x) (z := x) (nx := n) (ny := n) (nz := n) (b := a) (by omega) (by omega) (by omega) a3 q) (a4 b b1 (by omega))
    · obtain ⟨c1, c2, c3, c4, c5⟩ := q1
      obtain ⟨-, -, d3, d4, d5⟩ := q2
      have hr := h.1 r c3 c4
      have hs := h.1 s d3 d4
      have sy := kL_symm (x := x) (y := x) (nx := n) (ny := n) (a := P s) (b := a) (by omega) (by omega)
      have q := kL_tr (x := x) (y := x) (z := x) (nx := n) (ny := n) (nz := n) (a := P r) (b := a) (c := P s) (m := t + 1) (by omega) (by omega) (by omega) c5 (by omega)
      have sy2 := kL_symm (x := x) (y := x) (nx := n) (ny := n) (a := P r) (b := P s) (by omega) (by omega)
      rcases Int.lt_or_le r s with g | g
      · have := kNx_min h (r := r) (s := s) (t := s - 1) c3 d4 (by omega) (by omega)
        have := p2.1
        omega
      · rcases Int.lt_or_le s r with g2 | g2
        · have := kNx_min h (r := s) (s := r) (t := r - 1) d3 c4 (by omega) (by omega)
          have := p1.1
          omega
        · omega
  omega
/-! the longest repeat, the seam: the first rank with the most, and the first place of its row -/
theorem kTop_class {f : Int → Int} {x : Int → Int} {n : Int} {P : Int → Int} (h : kOrd x n P) {q w k : Int} (hq : 0 ≤ q ∧ q < n) (hk : 0 < k) (hw : kFst x n x (P q) k w) (hPk : P q + k ≤ n) (h0 : 0 ≤ w)
    (h1 : ∀ a : Int, 0 ≤ a → a < n → f a ≤ k) (h2 : k ≤ kL x n w x n (P q) → k ≤ f w) (h3 : ∀ a : Int, 0 ≤ a → a < n → f a = k → q ≤ kRk x n a) : kTop f x n n w k := by
  have bq := h.1 q hq.1 hq.2
  obtain ⟨w1, w2, w3⟩ : w + k ≤ n ∧ kEq x w x (P q) k ∧ ∀ a : Int, 0 ≤ a → a < w → ¬ kEq x a x (P q) k := by
    rcases hw with ⟨g, -⟩ | ⟨-, g1, g2, g3⟩
    · omega
    · exact ⟨g1, g2, g3⟩
  have lw : k ≤ kL x n w x n (P q) := (kLC_iff (kL_spec (by omega) (by omega)) (by omega) (by omega)).mpr w2
  have fw := h2 lw
  have fw2 := h1 w h0 (by omega)
  refine Or.inr ⟨h0, by omega, hk, by omega, fun a a1 a2 => ?_⟩
  have fa := h1 a a1 a2
  rcases Int.lt_or_le (f a) k with g | g
  · exact Or.inl g
  · refine Or.inr ⟨by omega, ?_⟩
    rcases Int.lt_or_le (kL x n a x n w) k with g2 | g2
    · refine Or.inr ⟨g2, ?_⟩
      have hne : a ≠ w := by
        rintro rfl
        rw [kL_self (by omega)] at g2; omega
      rcases kSL_total (x := x) (n := n) (a := a) (b := w) (by omega) (by omega) hne with g3 | g3
      · exfalso
        have lw2 : k ≤ kL x n (P q) x n w := by rw [kL_symm (by omega) (by omega)]; exact lw
        have := (kSL_like (x := x) (n := n) (a := a) (b := w) (c := P q) (m := k) (by omega) (by omega) (by omega) lw2 g2).2.mp g3
        have r1 := kRk_lt (x := x) (n := n) ⟨a1, a2⟩ this
        rw [kOrd_at h hq] at r1
        have := h3 a a1 a2 (by omega)
        omega
      · exact g3
    · refine Or.inl ⟨g2, ?_⟩
      rcases Int.lt_or_le a w with g3 | g3
      · have s1 := kL_tr (x := x) (y := x) (z := x) (nx := n) (ny := n) (nz := n) (a := a) (b := w) (c := P q) (m := k) (by omega) (by omega) (by omega) g2 lw
        have s2 := kL_rng (x := x) (y := x) (nx := n) (ny := n) (a := a) (b := w) (by omega) (by omega)
        exact absurd ((kLC_iff (kL_spec (x := x) (y := x) (nx := n) (ny := n) (a := a) (b := P q) (by omega) (by omega)) (by omega) (by omega)).mp s1) (w3 a a1 g3)
      · exact g3
theorem kMbs_le {x : Int → Int} {n : Int} {P : Int → Int} (h : kOrd x n P) {k : Int} (hk : 0 ≤ k) (h1 : ∀ r : Int, 0 ≤ r → r < n → kNx x n P r ≤ k) {a : Int} (ha : 0 ≤ a ∧ a < n) : kMbs x n a ≤ k := by
  refine kMaxF_le hk (fun b b1 b2 => ?_)
  split
  · exact hk
  · rename_i g
    obtain ⟨t, t1, t2, -, t4⟩ := kNx_pair h ha (b := b) (by omega) (Ne.symm g)
    have := h1 t t1 (by omega)
    omega
theorem kRep_none {x : Int → Int} {n : Int} {P : Int → Int} (h : kOrd x n P) (h1 : ∀ r : Int, 0 ≤ r → r < n → kNx x n P r ≤ 0) : kTop (kMbs x n) x n n (-1) 0 :=
  Or.inl ⟨rfl, rfl, fun a a1 a2 => kMbs_le h (Int.le_refl _) h1 ⟨a1, a2⟩⟩
theorem kRep_some {x : Int → Int} {n : Int} {P : Int → Int} (h : kOrd x n P) {q w : Int} (hq : 0 ≤ q ∧ q < n) (hk : 0 < kNx x n P q) (h1 : ∀ r : Int, 0 ≤ r → r < n → kNx x n P r ≤ kNx x n P q) (h2 : ∀ r : Int, 0 ≤ r → r < q → kNx x n P r < kNx x n P q) (hw : kFst x n x (P q) (kNx x n P q) w) (h0 : 0 ≤ w) : kTop (kMbs x n) x n n w (kNx x n P q) := by
  have hq2 : q + 1 < n := by
    rcases Int.lt_or_le (q + 1) n with g | g
    · exact g
    · rw [kNx_out (by omega)] at hk; omega
  have b1 := h.1 q hq.1 hq.2
  have b2 := h.1 (q + 1) (by omega) hq2
  have hl := ((kNx_rng h q).2.1 hq.1 hq2)
  refine kTop_class h hq hk hw (by omega) h0 (fun a a1 a2 => kMbs_le h (by omega) h1 ⟨a1, a2⟩) (fun g => ?_) (fun a a1 a2 e => ?_)
  · have hwn : w < n := by
      have := (kL_rng (x := x) (y := x) (nx := n) (ny := n) (a := w) (b := P q) (by
        rcases hw with ⟨g, -⟩ | ⟨-, g, -, -⟩ <;> omega) (by omega)).2.1
      omega
    have rg := (kMaxF_rng (fun b => if b = w then 0 else kL x n w x n b) n.toNat).2.1
    by_cases e : P q = w
    · have hne : P (q + 1) ≠ w := by
        intro e2
        have := h.2 q (q + 1) hq.1 (by omega) hq2
        rw [e, e2] at this
        exact kSL_irr this
      have := rg (P (q + 1)) b2.1 (by omega)
      rw [if_neg hne] at this
      rw [kNx_in ⟨hq.1, hq2⟩, e]
      unfold kMbs
      exact this
    · have := rg (P q) b1.1 (by omega)
      rw [if_neg e] at this
      unfold kMbs
      omega
  · rcases (kMaxF_rng (fun b => if b = a then 0 else kL x n a x n b) n.toNat).2.2 with g | ⟨b, c1, c2, c3⟩
    · unfold kMbs at e; omega
    · unfold kMbs at e
      have hne : a ≠ b := by
        rintro rfl
        rw [if_pos rfl] at c3; omega
      rw [if_neg (Ne.symm hne), e] at c3
      obtain ⟨t, t1, t2, t3, t4⟩ := kNx_pair h ⟨a1, a2⟩ (b := b) (by omega) hne
      rcases Int.lt_or_le t q with g | g
      · have := h2 t t1 g; omega
      · omega
theorem kMac_of {x : Int → Int} {nx : Int} {y : Int → Int} {ny a z : Int} (ha : a ≤ nx) (h : kMx (kCom x nx a y ny) z) : z = kMac x nx y ny a := by
  obtain ⟨h1, h2, h3⟩ := h
  obtain ⟨g1, g2, g3⟩ := kMaxF_rng (fun b => kL x nx a y ny b) ny.toNat
  have e1 : z ≤ kMac x nx y ny a := by
    rcases h2 with q | ⟨b, b1, b2, b3⟩
    · unfold kMac; omega
    · rw [kL_of b3]; exact g2 b b1 (by omega)
  have e2 : kMac x nx y ny a ≤ z := by
    rcases g3 with q | ⟨b, b1, b2, b3⟩
    · unfold kMac; omega
    · unfold kMac; rw [← b3]; exact h3 _ ⟨b, b1, by omega, kL_spec ha (by omega)⟩
  omega
theorem kSeam_some {x : Int → Int} {nx : Int} {y : Int → Int} {ny : Int} {P : Int → Int} (h : kOrd x nx P) {q w : Int} (hq : 0 ≤ q ∧ q < nx) (hk : 0 < kMac x nx y ny (P q)) (h1 : ∀ r : Int, 0 ≤ r → r < nx → kMac x nx y ny (P r) ≤ kMac x nx y ny (P q)) (h2 : ∀ r : Int, 0 ≤ r → r < q → kMac x nx y ny (P r) < kMac x nx y ny (P q)) (hw : kFst x nx x (P q) (kMac x nx y ny (P q)) w) (h0 : 0 ≤ w) : kTop (kMac x nx y ny) x nx nx w (kMac x nx y ny (P q)) := by
  have b1 := h.1 q hq.1 hq.2
  have hr := kMac_rng (x := x) (y := y) (nx := nx) (ny := ny) (a := P q) (by omega)
  refine kTop_class h hq hk hw (by omega) h0 (fun a a1 a2 => ?_) (fun g => ?_) (fun a a1 a2 e => ?_)
  · have ra := kRk_rng (x := x) (n := nx) ⟨a1, a2⟩
    have := h1 (kRk x nx a) ra.1 ra.2
    rwa [kOrd_rk_at h ⟨a1, a2⟩] at this
  · have hwn : w ≤ nx := by
      rcases hw with ⟨g, -⟩ | ⟨-, g, -, -⟩ <;> omega
    rcases (kMaxF_rng (fun b => kL x nx (P q) y ny b) ny.toNat).2.2 with e | ⟨b, c1, c2, c3⟩
    · unfold kMac at hk; omega
    · have := kL_tr (x := x) (y := x) (z := y) (nx := nx) (ny := nx) (nz := ny) (a := w) (b := P q) (c := b) (m := kMac x nx y ny (P q)) hwn (by omega) (by omega) g (by rw [c3]; exact Int.le_refl _)
      have := (kMaxF_rng (fun b => kL x nx w y ny b) ny.toNat).2.1 b c1 c2
      show _ ≤ kMaxF _ _
      omega
  · have ra := kRk_rng (x := x) (n := nx) ⟨a1, a2⟩
    rcases Int.lt_or_le (kRk x nx a) q with g | g
    · have := h2 (kRk x nx a) ra.1 g
      rw [kOrd_rk_at h ⟨a1, a2⟩] at this
      omega
    · exact g
theorem kSeam_none {x : Int → Int} {nx : Int} {y : Int → Int} {ny : Int} {P : Int → Int} (h : kOrd x nx P) (h1 : ∀ r : Int, 0 ≤ r → r < nx → kMac x nx y ny (P r) ≤ 0) : kTop (kMac x nx y ny) x nx nx (-1) 0 :=
  Or.inl ⟨rfl, rfl, fun a a1 a2 => by
    have ra := kRk_rng (x := x) (n := nx) ⟨a1, a2⟩
    have := h1 (kRk x nx a) ra.1 ra.2
    rwa [kOrd_rk_at h ⟨a1, a2⟩] at this⟩
end
section
/-! ===== what the calls answer, by relations that leave one answer ===== -/
def kIsCount (x : Int → Int) (nx : Int) (y : Int → Int) (ny m w z : Int) : Prop := (w = 0 ∧ z = nx) ∨ (w = 1 ∧ z = ny) ∨ (w = 2 ∧ z = m) ∨ (w = 3 ∧ z = kSum (kDr x nx) nx.toNat) ∨ (w = 4 ∧ z = kSum (kDr y ny) ny.toNat) ∨ (w = 5 ∧ kIsSeam x nx y ny 0 z)
def kIsEnd (x : Int → Int) (n r z : Int) : Prop := 0 ≤ z ∧ z < n ∧ kRk x n z = r
def kIsRow (x : Int → Int) (n num z : Int) : Prop := ∃ (P : Int → Int) (r lf w : Int), kOrd x n P ∧ 0 ≤ r ∧ r < n ∧ lf = num - kSum (kRw x n P) r.toNat ∧ 0 ≤ lf ∧ lf < kRw x n P r ∧ kFst x n x (P r) (kNx x n P (r - 1) + lf + 1) w ∧ z = 64 * w + (kNx x n P (r - 1) + lf + 1)
def kIsFirst (x : Int → Int) (n : Int) (y : Int → Int) (m z : Int) : Prop := (z = -1 ∧ ∀ a : Int, 0 ≤ a → a < n → ¬ kSmp x n y m a) ∨ (0 ≤ z ∧ z < n ∧ kSmp x n y m z ∧ ∀ a : Int, 0 ≤ a → a < z → ¬ kSmp x n y m a)
def kIsTurn (x : Int → Int) (n z : Int) : Prop := (n = 0 ∧ z = -1) ∨ (0 < n ∧ z = kBst x n (n - 1).toNat)
def kIsNew (x : Int → Int) (n st z : Int) : Prop := ∃ k : Int, kMx (kNewS x n st) k ∧ z = n + 1 - k
def kArg (f : Int → Int) : Nat → Int
  | 0 => 0
  | k + 1 => if f ((k : Int) + 1) < f (kArg f k) then (k : Int) + 1 else kArg f k
def kIsAdv (x : Int → Int) (n z : Int) : Prop := ∃ f : Int → Int, (∀ s : Int, 0 ≤ s → s ≤ 8 → kIsNew x n s (f s)) ∧ z = kArg f 8
noncomputable def kTot (x : Int → Int) (n : Int) : Int := kSum (kDr x n) n.toNat
theorem kD_one {x : Int → Int} {nx a : Int} {y : Int → Int} {ny b z w : Int} (h : kD x nx a y ny b z) (h2 : kD x nx a y ny b w) : z = w := by
  obtain ⟨k, a1, a2⟩ := h
  obtain ⟨k', b1, b2⟩ := h2
  have e := kLC_one a1 b1
  subst e
  unfold kLt at a2 b2
  omega
theorem kFst_one {x : Int → Int} {nx : Int} {y : Int → Int} {b m z w : Int} (hm : 0 ≤ m) (h : kFst x nx y b m z) (h2 : kFst x nx y b m w) : z = w := by
  rcases h with ⟨a1, a2⟩ | ⟨a1, a2, a3, a4⟩ <;> rcases h2 with ⟨b1, b2⟩ | ⟨b1, b2, b3, b4⟩
  · omega
  · exact absurd b3 (a2 w b1 b2)
  · exact absurd a3 (b2 z a1 a2)
  · rcases Int.lt_or_le z w with g | g
    · exact absurd a3 (b4 z a1 g)
    · rcases Int.lt_or_le w z with g2 | g2
      · exact absurd b3 (a4 w b1 g2)
      · omega
theorem kIsEnd_one {x : Int → Int} {n r z w : Int} (h : kIsEnd x n r z) (h2 : kIsEnd x n r w) : z = w :=
  kRk_inj ⟨h.1, h.2.1⟩ ⟨h2.1, h2.2.1⟩ (h.2.2.trans h2.2.2.symm)
theorem kIsRep_one {x : Int → Int} {n w z z' : Int} (h : kIsRep x n w z) (h2 : kIsRep x n w z') : z = z' := by
  obtain ⟨b, k, a1, a2⟩ := h
  obtain ⟨b', k', b1, b2⟩ := h2
  obtain ⟨rfl, rfl⟩ := kTop_one (Int.le_refl _) a1 b1
  omega
theorem kIsSeam_one {x : Int → Int} {nx : Int} {y : Int → Int} {ny w z z' : Int} (h : kIsSeam x nx y ny w z) (h2 : kIsSeam x nx y ny w z') : z = z' := by
  obtain ⟨b, k, a1, a2⟩ := h
  obtain ⟨b', k', b1, b2⟩ := h2
  obtain ⟨rfl, rfl⟩ := kTop_one (Int.le_refl _) a1 b1
  rcases a2 with a2 | a2 | ⟨a2, a3, a4⟩
  · omega
  · omega
  · rcases b2 with b2 | b2 | ⟨b2, b3, b4⟩
    · omega
    · omega
    · rcases a4 with a4 | ⟨a4, a5, a6, a7, a8⟩
      · omega
      · rcases b4 with b4 | ⟨b4, b5, b6, b7, b8⟩
        · omega
        · rcases Int.lt_or_le z z' with g | g
          · have := b8 z a5 g; omega
          · rcases Int.lt_or_le z' z with g2 | g2
            · have := a8 z' b5 g2; omega
            · omega
theorem kIsCount_one {x : Int → Int} {nx : Int} {y : Int → Int} {ny m w z z' : Int} (h : kIsCount x nx y ny m w z) (h2 : kIsCount x nx y ny m w z') : z = z' := by
  unfold kIsCount at h h2
  rcases h with h | h | h | h | h | ⟨h, g⟩ <;> rcases h2 with h2 | h2 | h2 | h2 | h2 | ⟨h2, g2⟩ <;> first | omega | exact kIsSeam_one g g2
theorem kNx_congr {x : Int → Int} {n : Int} {P P' : Int → Int} (h : kOrd x n P) (h' : kOrd x n P') (r : Int) : kNx x n P r = kNx x n P' r := by
  by_cases g : 0 ≤ r ∧ r + 1 < n
  · rw [kNx_in g, kNx_in g, kOrd_one h h' (r := r) (by omega), kOrd_one h h' (r := r + 1) (by omega)]
  · rw [kNx_out g, kNx_out g]
theorem kRw_congr {x : Int → Int} {n : Int} {P P' : Int → Int} (h : kOrd x n P) (h' : kOrd x n P') {r : Int} (hr : 0 ≤ r ∧ r < n) : kRw x n P r = kRw x n P' r := by
  unfold kRw
  rw [kNx_congr h h', kOrd_one h h' hr]
theorem kSum_mono {f : Int → Int} {n : Int} (h : ∀ k : Int, 0 ≤ k → k < n → 0 ≤ f k) : ∀ (d : Nat) (a b : Int), b - a = (d : Int) → 0 ≤ a → b ≤ n → kSum f a.toNat ≤ kSum f b.toNat
  | 0, a, b, h1, _, _ => by rw [show b = a by omega]; exact Int.le_refl _
  | d + 1, a, b, h1, h2, h3 => by
    have ih := kSum_mono h d a (b - 1) (by omega) h2 (by omega)
    have e := kSum_step f (k := b - 1) (by omega)
    rw [show b - 1 + 1 = b by omega] at e
    have := h (b - 1) (by omega) (by omega)
    omega
theorem kIsRow_one {x : Int → Int} {n num z z' : Int} (h : kIsRow x n num z) (h2 : kIsRow x n num z') : z = z' := by
  obtain ⟨P, r, lf, w, a1, a2, a3, a4, a5, a6, a7, a8⟩ := h
  obtain ⟨P', r', lf', w', b1, b2, b3, b4, b5, b6, b7, b8⟩ := h2
  have es : ∀ q : Int, 0 ≤ q → q ≤ n → kSum (kRw x n P') q.toNat = kSum (kRw x n P) q.toNat := fun q q1 q2 => kSum_congr _ (fun k k1 k2 => kRw_congr b1 a1 (by omega))
  have nn : ∀ k : Int, 0 ≤ k → k < n → 0 ≤ kRw x n P k := fun k k1 k2 => (kRw_rng a1 ⟨k1, k2⟩).1
  rw [es r' b2 (by omega)] at b4
  rw [kRw_congr b1 a1 ⟨b2, b3⟩] at b6
  rw [kNx_congr b1 a1, kOrd_one b1 a1 ⟨b2, b3⟩] at b7
  rw [kNx_congr b1 a1] at b8
  have e : r = r' := by
    rcases Int.lt_or_le r r' with g | g
    · have m1 := kSum_mono nn (r' - (r + 1)).toNat (r + 1) r' (by omega) (by omega) (by omega)
      rw [kSum_step _ a2] at m1
      omega
    · rcases Int.lt_or_le r' r with g2 | g2
      · have m1 := kSum_mono nn (r - (r' + 1)).toNat (r' + 1) r (by omega) (by omega) (by omega)
        rw [kSum_step _ b2] at m1
        omega
      · omega
  subst e
  have e2 : lf = lf' := by omega
  subst e2
  have hk := (kNx_rng a1 (r - 1)).1
  have := kFst_one (by omega) a7 b7
  omega
theorem kIsFirst_one {x : Int → Int} {n : Int} {y : Int → Int} {m z z' : Int} (h : kIsFirst x n y m z) (h2 : kIsFirst x n y m z') : z = z' := by
  rcases h with ⟨a1, a2⟩ | ⟨a1, a2, a3, a4⟩ <;> rcases h2 with ⟨b1, b2⟩ | ⟨b1, b2, b3, b4⟩
  · omega
  · exact absurd b3 (a2 z' b1 b2)
  · exact absurd a3 (b2 z a1 a2)
  · rcases Int.lt_or_le z z' with g | g
    · exact absurd a3 (b4 z a1 g)
    · rcases Int.lt_or_le z' z with g2 | g2
      · exact absurd b3 (a4 z' b1 g2)
      · omega
theorem kIsPer_one {x : Int → Int} {n z z' : Int} (h : kIsPer x n z) (h2 : kIsPer x n z') : z = z' := by
  rcases h with ⟨a1, a2⟩ | ⟨a1, a2, a3, a4⟩ <;> rcases h2 with ⟨b1, b2⟩ | ⟨b1, b2, b3, b4⟩
  · omega
  · omega
  · omega
  · rcases Int.lt_or_le z z' with g | g
    · exact absurd a3 (b4 z a1 g)
    · rcases Int.lt_or_le z' z with g2 | g2
      · exact absurd b3 (a4 z' b1 g2)
      · omega
theorem kIsTurn_one {x : Int → Int} {n z z' : Int} (h : kIsTurn x n z) (h2 : kIsTurn x n z') : z = z' := by
  unfold kIsTurn at h h2
  omega
theorem kIsNew_one {x : Int → Int} {n st z z' : Int} (h : kIsNew x n st z) (h2 : kIsNew x n st z') : z = z' := by
  obtain ⟨k, a1, a2⟩ := h
  obtain ⟨k', b1, b2⟩ := h2
  have := kMx_one a1 b1
  omega
theorem kArg_rng (f : Int → Int) : ∀ k : Nat, 0 ≤ kArg f k ∧ kArg f k ≤ (k : Int)
  | 0 => ⟨Int.le_refl _, Int.le_refl _⟩
  | k + 1 => by
    have ih := kArg_rng f k
    rw [kArg]
    split <;> omega
theorem kArg_step (f : Int → Int) {k : Int} (h : 1 ≤ k) : kArg f k.toNat = if f k < f (kArg f (k - 1).toNat) then k else kArg f (k - 1).toNat := by
  obtain ⟨j, hj⟩ : ∃ j : Nat, k = (j : Int) + 1 := ⟨(k - 1).toNat, by omega⟩
  subst hj
  rw [show ((j : Int) + 1).toNat = j + 1 by omega, show ((j : Int) + 1 - 1).toNat = j by omega, kArg]
theorem kArg_congr {f g : Int → Int} : ∀ k : Nat, (∀ s : Int, 0 ≤ s → s ≤ (k : Int) → f s = g s) → kArg f k = kArg g k
  | 0, _ => rfl
  | k + 1, h => by
    have r := kArg_rng g k
    rw [kArg, kArg, kArg_congr k (fun s s1 s2 => h s s1 (by omega)), h _ (by omega) (by omega), h _ r.1 (by omega)]
theorem kIsAdv_one {x : Int → Int} {n z z' : Int} (h : kIsAdv x n z) (h2 : kIsAdv x n z') : z = z' := by
  obtain ⟨f, a1, a2⟩ := h
  obtain ⟨g, b1, b2⟩ := h2
  rw [a2, b2]
  exact kArg_congr 8 (fun s s1 s2 => kIsNew_one (a1 s s1 (by omega)) (b1 s s1 (by omega)))
/-- the number that a relation leaves -/
noncomputable def kVal (R : Int → Prop) : Int := Classical.epsilon R
theorem kVal_of {R : Int → Prop} {z : Int} (h : R z) (u : ∀ a b : Int, R a → R b → a = b) : z = kVal R := u _ _ h (Classical.epsilon_spec ⟨z, h⟩)
/-- the checksum: d becomes d * 31 + x for each of the next numbers -/
def kMix (d : Int) (f : Int → Int) : Nat → Int
  | 0 => d
  | n + 1 => kMix d f n * 31 + f (n : Int)
theorem kMix_step (d : Int) (f : Int → Int) {k : Int} (h : 0 ≤ k) : kMix d f (k + 1).toNat = kMix d f k.toNat * 31 + f k := by
  have e : (k + 1).toNat = k.toNat + 1 := by omega
  rw [e, kMix, show ((k.toNat : Nat) : Int) = k by omega]
noncomputable def kDigH (d : Int) (x : Int → Int) (n : Int) (y : Int → Int) (m : Int) : Int :=
  ((kMix (kMix (kMix d x n.toNat) (fun r => kVal (kIsEnd x n r)) n.toNat) (fun w => kVal (kIsRep x n w)) 3 * 31 + kVal (kIsPer x n)) * 31 + kVal (kIsTurn x n)) * 31 + kCnt (kSmp x n y m) n.toNat
noncomputable def kDig (x : Int → Int) (nx : Int) (y : Int → Int) (ny : Int) (s : Int → Int) (m : Int) : Int :=
  kMix (kMix (kDigH (kDigH (kMix 1483 (fun w => kVal (kIsCount x nx y ny m w)) 6) x nx s m) y ny s m) s m.toNat) (fun w => kVal (kIsSeam x nx y ny w)) 3
/-- outside of the reference's tables and of what it says it throws, nothing has changed -/
def kFm (M N : kM) : Prop := ∀ c k : Int, (c < 18 ∨ 101 < c) → (c ≠ 11 ∨ k ≠ 0) → N c k = M c k
def kFt (M N : kM) : Prop := ∀ c k : Int, (c ≠ 11 ∨ k ≠ 0) → N c k = M c k
theorem kFt_of {M N : kM} {v : Int} (h : N = kU M 11 0 v) : kFt M N := fun c k g => by
  rw [h, kU_at, if_neg (by omega)]
theorem kFt_11 {M N : kM} {v : Int} (h : N = kU M 11 0 v) : N 11 0 = v := by rw [h, kU_same]
theorem kFt_trans {M N O : kM} (h : kFt M N) (h2 : kFt N O) : kFt M O := fun c k g => (h2 c k g).trans (h c k g)
theorem kFt_m {M N : kM} (h : kFt M N) : kFm M N := fun c k _ g => h c k g
theorem kFm_trans {M N O : kM} (h : kFm M N) (h2 : kFm N O) : kFm M O := fun c k g g2 => (h2 c k g g2).trans (h c k g g2)
theorem kFm_F {lo hi : Int} {M N : kM} (h : kF lo hi M N) (h1 : 18 ≤ lo ∧ hi ≤ 101) : kFm M N := fun c k g _ => h c k (by omega)
theorem kFm_row {M N : kM} (h : kFm M N) {c : Int} (hc : (c < 18 ∨ 101 < c) ∧ c ≠ 11) : N c = M c := funext (fun k => h c k hc.1 (Or.inl hc.2))
theorem kWm_m {M N : kM} (hW : kWm M) (h : kFm M N) : kWm N := by
  obtain ⟨a1, a2, a3, a4⟩ := hW
  refine ⟨fun c hc => ?_, ?_, ?_, fun j j1 j2 => ?_⟩
  · rw [h 15 c (by omega) (by omega)]
    obtain ⟨b1, b2, b3⟩ := a1 c hc
    exact ⟨b1, b2, fun j j1 j2 => by rw [h (13 + c) j (by omega) (by omega)]; exact b3 j j1 j2⟩
  · rw [h 11 4 (by omega) (by omega)]; exact a2
  · rw [h 11 4 (by omega) (by omega)]; exact a3
  · rw [h 11 4 (by omega) (by omega)] at j2
    rw [h 16 j (by omega) (by omega)]; exact a4 j j1 j2
theorem kWm_t {M N : kM} (hW : kWm M) (h : kFt M N) : kWm N := kWm_m hW (kFt_m h)
end
section
noncomputable def kDH (d : Int) (x : Int → Int) (nx : Int) (y : Int → Int) (ny : Int) (s : Int → Int) (m h : Int) : Int := if h = 0 then d else if h = 1 then kDigH d x nx s m else kDigH (kDigH d x nx s m) y ny s m
theorem kDH_step {d : Int} {M : kM} {h : Int} (hh : 0 ≤ h ∧ h < 2) : kDH d (M 13) (M 15 0) (M 14) (M 15 1) (M 16) (M 11 4) (h + 1) = kDigH (kDH d (M 13) (M 15 0) (M 14) (M 15 1) (M 16) (M 11 4) h) (M (13 + h)) (M 15 h) (M 16) (M 11 4) := by
  rcases (show h = 0 ∨ h = 1 by omega) with rfl | rfl
  · rfl
  · rfl
theorem kDH_stepC {d : Int} {M : kM} {h : Int} (hh : 0 ≤ h ∧ h < 2) : kDH d (M 3) (M 0 1) (M 4) (M 1 1) (M 5) (M 2 1) (h + 1) = kDigH (kDH d (M 3) (M 0 1) (M 4) (M 1 1) (M 5) (M 2 1) h) (M (h + 3)) (M h 1) (M 5) (M 2 1) := by
  rcases (show h = 0 ∨ h = 1 by omega) with rfl | rfl
  · rfl
  · rfl
end
section
/-! ===== methods that answer a cell; methods that throw (one exception, nothing else changes) ===== -/
def kROr (l : Launch) (y : MethodName) (ws : List Cond) (rm : Room) (E : kE) (M : kM) (av : List Value) (x : Int) : Prop := Met l y ws rm (kPre E M av) (va_Sq (fun r => r = some (E.2.2 x))) 0 0 (fun _ => False)
theorem kROr_of {l : Launch} {y : MethodName} {ws ws' : List Cond} {rm : Room} {E : kE} {M : kM} {av : List Value} {x : Int} {cc : ByteArray} {maxL : Nat} {nm : String} (own : String) (hy : plainName y.cls = true) (hw : ws = Cond.code y cc maxL (some (.object nm)) :: ws') (ho : y.cls = own) (hlen : (lg_sl av).length ≤ maxL)
    (body : ∀ (p : Program) (e : Env) (s : State) (m : MethodId) (args : Array Value) (below : List Frame) (meth : Method) (c : Code) (ls : Array Slot) (Q : State → Prop), CallFix p m c cc maxL s args ws own → va_P E.1 vwCl (kW E M) s.heap → kK E s →
      (∀ (pc : Nat) (ls : Array Slot), decode cc pc = .ok (.areturn, 1) → W p l e rm s m args below meth c s.heap [] 0 0 Q (F0 m pc ls [.ref (E.2.2 x)])) → lv_has ls maxL (lv_args 0 av) → W p l e rm s m args below meth c s.heap [] 0 0 Q (F0 m 0 ls [])) : kROr l y ws rm E M av x := by
  refine Met.ofW (cc := cc) (maxL := maxL) (ret := some (.object nm)) hy hw ?_
  intro p e s m args below meth c s₁ B hml hv
  obtain ⟨rfl, hP, hK⟩ := hv
  have hx := B.exec
  have hb := B.bytes
  have hr := B.returns
  have hlocks := B.notSynchronized
  have hl := lv_entry av (n := maxL) hlen
  rw [lg_entry_eq]
  generalize (lg_sl av ++ List.replicate (maxL - (lg_sl av).length) Slot.unset).toArray = ls at hl ⊢
  refine body p e s m _ below meth c ls _ ⟨hx, hb, hml, by rw [← ho]; exact findClass_of_methodNamed B.named, atoms_spec (ws := ws) B.pre⟩ hP hK (fun pc ls hdg => ?_) hl
  exact W.aret (v := .ref (E.2.2 x)) hx hb hr (Or.inl ⟨_, rfl⟩) (Or.inr ⟨_, rfl⟩) (fun t ht hW => ⟨some (E.2.2 x), rfl, rfl, ht⟩) (fun q hq => absurd hq List.not_mem_nil) hdg hlocks
abbrev kISE : String := "java/lang/IllegalStateException"
abbrev kIAE : String := "java/lang/IllegalArgumentException"
abbrev kIOB : String := "java/lang/IndexOutOfBoundsException"
abbrev kNms : List String := ["java/lang/RuntimeException", "java/lang/Exception"]
/-- the texts that are thrown, by their places in the class file -/
def kStr : List (Nat × String) := [(94, "what is not 0 to 5"), (179, "hem is not 0 to 1"), (110, "what is not 0 to 2"), (181, "stitch is not 0 to 8"), (43, "the hem is full"), (53, "many is not 1 to 40"), (56, "the hem is empty, or has no room"), (61, "the hem has not so many stitches"), (66, "the sample is full"), (183, "there is no such place"), (125, "there is no such row")]
abbrev kDc (nm : String) : Cond := .declares ⟨nm, "<init>", "(Ljava/lang/String;)V"⟩
abbrev kBs (X : String) : List Cond := [Cond.castable X X, kDc "java/lang/RuntimeException", kDc "java/lang/Exception", kDc "java/lang/Throwable"]
/-- what the tables say of the exceptions, beside the words -/
def kXs (U : State) : Prop := (va_Nw (kDc "java/lang/RuntimeException") U ∧ va_Nw (kDc "java/lang/Exception") U ∧ va_Nw (kDc "java/lang/Throwable") U) ∧ (va_Nw (.castable kISE kISE) U ∧ va_Nw (.castable kIAE kIAE) U ∧ va_Nw (.castable kIOB kIOB) U) ∧ (va_Nc kISE kIOB U ∧ va_Nc kISE kIAE U ∧ va_Nc kIAE kIOB U) ∧ ∀ q ∈ kStr, ∃ sa : Nat, vk_R RX2 q.1 q.2 sa U
theorem kXs.warm {s U : State} (hW : s.WarmedH U.vm) (h : kXs s) : kXs U :=
  ⟨⟨va_Nw.warmD hW h.1.1, va_Nw.warmD hW h.1.2.1, va_Nw.warmD hW h.1.2.2⟩, ⟨va_Nw.warmC hW h.2.1.1, va_Nw.warmC hW h.2.1.2.1, va_Nw.warmC hW h.2.1.2.2⟩, ⟨va_Nc.moved hW.alike h.2.2.1.1, va_Nc.moved hW.alike h.2.2.1.2.1, va_Nc.moved hW.alike h.2.2.1.2.2⟩, fun q hq => by
    obtain ⟨sa, h1⟩ := h.2.2.2 q hq
    exact ⟨sa, vk_R.warm hW h1⟩⟩
theorem kXs.same {u U : State} (hv : u.vm = U.vm) (h : kXs u) : kXs U :=
  ⟨⟨va_Nw.same rfl hv h.1.1, va_Nw.same rfl hv h.1.2.1, va_Nw.same rfl hv h.1.2.2⟩, ⟨va_Nw.same rfl hv h.2.1.1, va_Nw.same rfl hv h.2.1.2.1, va_Nw.same rfl hv h.2.1.2.2⟩, ⟨va_Nc.moved (by rw [hv]; exact Vm.Alike.refl U.vm) h.2.2.1.1, va_Nc.moved (by rw [hv]; exact Vm.Alike.refl U.vm) h.2.2.1.2.1, va_Nc.moved (by rw [hv]; exact Vm.Alike.refl U.vm) h.2.2.1.2.2⟩, fun q hq => by
    obtain ⟨sa, h1⟩ := h.2.2.2 q hq
    exact ⟨sa, vk_R.same hv.symm h1⟩⟩
def kZ (A : Nat → Prop) (U : State) (H : Heap) : Prop := vx_Zq Bundle.tN "UNASSIGNED_STACK" Bundle.steD A U H ∧ vx_Zq Bundle.tN "SUPPRESSED_SENTINEL" Bundle.listD A U H
theorem kZ.moved {A : Nat → Prop} {u U : State} {H : Heap} (hvm : u.vm.Alike U.vm) (h : kZ A u H) : kZ A U H := ⟨vx_Zq.moved hvm h.1, vx_Zq.moved hvm h.2⟩
theorem kZ.call {E : kE} {s U : State} {H0 H : Heap} {locs : List Loc} (hW : s.WarmedH U.vm) (h : kZ (kA E H0.size) s H0) (hS : va_S (kA E H0.size) H0 H locs) : kZ (kA E H.size) U H :=
  ⟨((h.1.kept hS.2.1).narrow (kA_le hS.1)).moved hW.alike, ((h.2.kept hS.2.1).narrow (kA_le hS.1)).moved hW.alike⟩
def kPreX (E : kE) (M : kM) (sz : Nat) (av : List Value) : Array Value → State → Prop := va_Pc av (fun U => U.heap.size = sz ∧ va_P E.1 vwCl (kW E M) U.heap ∧ kK E U ∧ kXs U ∧ kZ (kA E sz) U U.heap)
theorem kPreX_blind {E : kE} {M : kM} {sz : Nat} {av : List Value} : FrameBlind (kPreX E M sz av) := fun a U g mk q => ⟨q.1, q.2.1, q.2.2.1, kK.same (u := U) (U := U.calling g mk a) rfl q.2.2.2.1, kXs.same (u := U) (U := U.calling g mk a) rfl q.2.2.2.2.1, kZ.moved (u := U) (U := U.calling g mk a) (Vm.Alike.refl U.vm) q.2.2.2.2.2⟩
def kXC (E : kE) (M : kM) (X : String) (sz : Nat) : String → State → State → Prop := vx_X (fun _ : Unit => True) (fun X' (_ : Unit) t => X' = X ∧ va_P E.1 vwCl (kW E M) t.heap) (kA E sz)
def kTX (l : Launch) (y : MethodName) (ws : List Cond) (rm : Room) (E : kE) (M : kM) (av : List Value) (X : String) : Prop := ∀ sz : Nat, vx_Met l y ws rm (kPreX E M sz av) (fun _ _ _ _ => False) (kXC E M X sz) 1 6 (kA E sz)
abbrev kXQ (E : kE) (M : kM) (X : String) (below : List Frame) (args : Array Value) (s : State) : State → Prop := vx_MQ below (fun _ _ _ _ => False) (kXC E M X s.heap.size) args s 1 6 (kA E s.heap.size)
theorem kTX_of {l : Launch} {y : MethodName} {ws ws' : List Cond} {rm : Room} {E : kE} {M : kM} {av : List Value} {X : String} {cc : ByteArray} {maxL : Nat} {ret : Option FieldType} (own : String) (hy : plainName y.cls = true) (hw : ws = Cond.code y cc maxL ret :: ws') (ho : y.cls = own) (hlen : (lg_sl av).length ≤ maxL)
    (body : ∀ (p : Program) (e : Env) (s : State) (m : MethodId) (args : Array Value) (below : List Frame) (meth : Method) (c : Code) (ls : Array Slot), CallFix p m c cc maxL s args ws own → va_P E.1 vwCl (kW E M) s.heap → kK E s → kXs s → kZ (kA E s.heap.size) s s.heap → meth.locks = false → (∀ x ∈ c.exceptionTable.toList, False) →
      lv_has ls maxL (lv_args 0 av) → W p l e rm s m args below meth c s.heap [] 0 0 (kXQ E M X below args s) (F0 m 0 ls [])) : kTX l y ws rm E M av X := by
  intro sz
  refine vx_ofW (cc := cc) (maxL := maxL) (ret := ret) hy hw ?_
  intro p e s m args below meth c s₁ B hml htab hv
  obtain ⟨rfl, rfl, hP, hK, hX, hZ⟩ := hv
  have hl := lv_entry av (n := maxL) hlen
  rw [lg_entry_eq]
  generalize (lg_sl av ++ List.replicate (maxL - (lg_sl av).length) Slot.unset).toArray = ls at hl ⊢
  exact body p e s m _ below meth c ls ⟨B.exec, B.bytes, hml, by rw [← ho]; exact findClass_of_methodNamed B.named, atoms_spec (ws := ws) B.pre⟩ hP hK hX hZ B.notSynchronized htab hl
/-- ints of a method that ends with a code after a catch: at most one cell of six slots comes -/
def kRT (l : Launch) (y : MethodName) (ws : List Cond) (rm : Room) (E : kE) (M : kM) (av : List Value) (k : Int) : Prop := ∀ sz : Nat, Met l y ws rm (kPreX E M sz av) (va_Qi (fun r (_ : Unit) => r = zI k) (fun _ t => va_P E.1 vwCl (kW E M) t.heap) (kA E sz)) 1 6 (kA E sz)
section KT
variable {p : Program} {l : Launch} {e : Env} {R : Room} {s : State} {m : MethodId} {args : Array Value} {below : List Frame} {meth : Method} {c : Code} {H H0 : Heap} {locs : List Loc} {cells slots : Nat} {Q : State → Prop}
variable {cc bytes : ByteArray} {pc : Nat} {ls : Array Slot} {rest st : List Value} {E : kE} {M : kM} {nL maxL index n : Nat} {Ts ws : List Cond} {own C : String} {y : MethodName} {ret : Option FieldType} {rm : Room} {As : List Value} {b : Nat}
theorem k_callVr {x : Int} (S : CallFix p m c cc nL s args Ts own) (hK : kK E s) (hP : va_P E.1 vwCl (kW E M) H) (hM : kROr l y ws rm E M (.ref b :: As) x) (cw : CallW R s args own C index y bytes maxL ret ws rm 0 0 n)
    (hrecv : ∃ cellB : Cell, H[b]? = some cellB ∧ cellB.vm.isStatics = false ∧ s.vm.findClass C = some cellB.cls) (hn : As.length = n) (hsz : ls.size = nL) (hst : st = As.reverse ++ .ref b :: rest) (hw : (rest.map fun v => v.category).sum ≤ 8) (hdg : decode cc pc = .ok (.invokevirtual index, 3)) (hf : cells + 0 ≤ R.cells ∧ slots + 0 ≤ R.slots)
    (kk : W p l e R s m args below meth c H locs cells slots Q (F0 m (pc + 3) ls (.ref (E.2.2 x) :: rest))) : W p l e R s m args below meth c H locs cells slots Q (F0 m pc ls st) := by
  refine va_csq (W.runV S hM cw ⟨kPre_blind, hrecv, fun U hU hW => ⟨rfl, by rw [hU]; exact hP, kK.warm hW hK⟩⟩ rfl hn hsz hst (lv_room hw) hdg hf) (fun r hr => ?_)
  subst hr
  exact kk
/-- a call that throws -/
theorem k_thr {X : String} {Qa : State → Outcome → State → Prop} (hr : vx_Run p l e R s m args below meth c H locs cells slots 1 6 (F0 m pc ls st) rest Qa (kXC E M X H.size) (kA E H.size)) (hQ : ∀ a o t, ¬ Qa a o t) (hS : va_S (kA E H0.size) H0 H locs)
    (kx : ∀ (ce : Cell) (q9 : Addr) (H1 : Heap) (locs1 : List Loc), va_P E.1 vwCl (kW E M) H1 → va_S (kA E H0.size) H0 H1 locs1 → H1[q9]? = some ce → ce.vm = .none → s.vm.findClass X = some ce.cls → vx_W p l e R s m args below meth c H1 locs1 (cells + 1) (slots + 6) Q (F0 m pc ls rest) q9) : W p l e R s m args below meth c H locs cells slots Q (F0 m pc ls st) := by
  intro T hT Z
  rcases hr T hT Z with ⟨v, st₀, t, T', L, h0, X', hL, e1, e2, hq, st⟩ | ⟨q, st₀, t, T', L, E', ce, h0, X', hL, e1, e2, ⟨u, hp, hb, hF⟩, hce, hcv, hcl, st⟩
  · exact absurd hq (hQ _ _ _)
  · obtain ⟨rfl, hb⟩ := hb
    obtain ⟨k1, k2, k3⟩ := vx_keep h0 e1 hS (fun q _ h => kA_le hS.1 q h) (kA_le hS.1) hL hF
    obtain ⟨t2, a1, b1⟩ := kx ce q T'.heap (locs ++ L) (by rw [e1]; exact hb) k3 (by rw [e1]; exact hce) hcv hcl T' rfl X'
    exact ⟨t2, st.trans a1, b1⟩
theorem k_out {X : String} {ce : Cell} {q9 : Addr} (htab : ∀ x ∈ c.exceptionTable.toList, False) (hlocks : meth.locks = false) (hP : va_P E.1 vwCl (kW E M) H) (hS : va_S (kA E s.heap.size) s.heap H locs) (hc : H[q9]? = some ce) (hv : ce.vm = .none) (hcl : s.vm.findClass X = some ce.cls) (h1 : cells ≤ 1 ∧ slots ≤ 6) :
    vx_W p l e R s m args below meth c H locs cells slots (kXQ E M X below args s) (F0 m pc ls rest) q9 :=
  vx_out (fun x hx => (htab x hx).elim) hlocks hc hv hcl (fun t ht _ => ⟨(), trivial, ⟨rfl, by rw [ht]; exact hP⟩, hS.F ht⟩) hS.2.2 h1.1 h1.2
theorem k_runVX {X : String} (S : CallFix p m c cc nL s args Ts own) (hK : kK E s) (hX : kXs s) (hZ : kZ (kA E H0.size) s H0) (hP : va_P E.1 vwCl (kW E M) H) (hS : va_S (kA E H0.size) H0 H locs) (hM : kTX l y ws rm E M (.ref b :: As) X) (cw : CallW R s args own C index y bytes maxL ret ws rm 1 6 n)
    (hrecv : ∃ cellB : Cell, H[b]? = some cellB ∧ cellB.vm.isStatics = false ∧ s.vm.findClass C = some cellB.cls) (hn : As.length = n) (hsz : ls.size = nL) (hst : st = As.reverse ++ .ref b :: rest) (hw : (rest.map fun v => v.category).sum ≤ 8) (hdg : decode cc pc = .ok (.invokevirtual index, 3)) (hf : cells + 1 ≤ R.cells ∧ slots + 6 ≤ R.slots) :
    vx_Run p l e R s m args below meth c H locs cells slots 1 6 (F0 m pc ls st) rest (fun _ _ _ => False) (kXC E M X H.size) (kA E H.size) :=
  vx_runV S (hM H.size) cw ⟨kPreX_blind, hrecv, fun U hU hW => ⟨rfl, by rw [hU], by rw [hU]; exact hP, kK.warm hW hK, kXs.warm hW hX, by rw [hU]; exact kZ.call hW hZ hS⟩⟩ rfl hn hsz hst (lv_room hw) hdg hf
theorem k_runSX {X : String} (S : CallFix p m c cc nL s args Ts own) (hK : kK E s) (hX : kXs s) (hZ : kZ (kA E H0.size) s H0) (hP : va_P E.1 vwCl (kW E M) H) (hS : va_S (kA E H0.size) H0 H locs) (hM : kTX l y ws rm E M As X) (cw : CallB R s args own index y bytes maxL ret ws rm 1 6 n ∧ (Cond.static y).before args s = true)
    (hn : As.length = n) (hsz : ls.size = nL) (hst : st = As.reverse ++ rest) (hw : (rest.map fun v => v.category).sum ≤ 8) (hdg : decode cc pc = .ok (.invokestatic index, 3)) (hf : cells + 1 ≤ R.cells ∧ slots + 6 ≤ R.slots) :
    vx_Run p l e R s m args below meth c H locs cells slots 1 6 (F0 m pc ls st) rest (fun _ _ _ => False) (kXC E M X H.size) (kA E H.size) :=
  vx_runS S (hM H.size) cw ⟨kPreX_blind, fun U hU hW => ⟨rfl, by rw [hU], by rw [hU]; exact hP, kK.warm hW hK, kXs.warm hW hX, by rw [hU]; exact kZ.call hW hZ hS⟩⟩ rfl hn hsz hst (lv_room hw) hdg hf
/-- 'throw new X(text)', as the class's own methods do it -/
theorem k_throw {X text : String} {ik is ic : Nat} (S : CallFix p m c cc nL s args Ts RX2) (hst : l.stackTraces = false) (hX : kXs s) (hZ : kZ (kA E s.heap.size) s s.heap) (hP : va_P E.1 vwCl (kW E M) s.heap) (hlocks : meth.locks = false) (htab : ∀ x ∈ c.exceptionTable.toList, False) (hsz : ls.size = nL)
    (hcls : Bundle.fit X = true) (hk : (Cond.classLink RX2 ik X).before args s = true) (hini : (Cond.initialized X).before args s = true) (hin : ∀ w ∈ (vx_atS RX2 ic X kNms).filter goodWord, w ∈ Ts) (hB : ∀ w ∈ (vx_atS RX2 ic X kNms).filter (fun w => !goodWord w), w ∈ kBs X) (hca : va_Nw (.castable X X) s)
    (hgood : ∀ w ∈ Cond.classLink RX2 ik X :: Cond.initialized X :: vx_atS RX2 ic X kNms, vx_ot w = true) (hstr : (is, text) ∈ kStr)
    (d0 : decode cc pc = .ok (.new ik, 3)) (d3 : decode cc (pc + 3) = .ok (.dup, 1)) (d4 : decode cc (pc + 4) = .ok (.ldc is, 2)) (d6 : decode cc (pc + 6) = .ok (.invokespecial ic, 3)) (d9 : decode cc (pc + 9) = .ok (.athrow, 1))
    (hR : 5 < R.frames ∧ (rest.map fun v => v.category).sum + 82 ≤ R.locals ∧ 1 ≤ R.cells ∧ 6 ≤ R.slots) : W p l e R s m args below meth c s.heap [] 0 0 (kXQ E M X below args s) (F0 m pc ls rest) := by
  obtain ⟨sa, hsa⟩ := hX.2.2.2 _ hstr
  refine vx_throwS (names := kNms) (A := kA E s.heap.size) S.1 S.2.1 hst S.2.2.2.1 hcls (by decide) hk hini hsa (vx_hat (B := kBs X) (fun w hw => S.2.2.2.2 w (hin w hw)) hB (vx_c (va_Nw.use rfl hca) (vx_c (va_Nw.use rfl hX.1.1) (vx_c (va_Nw.use rfl hX.1.2.1) (vx_c (va_Nw.use rfl hX.1.2.2) vx_n))))) hgood hZ.1 hZ.2 va_S.rf (hsz.trans S.2.2.1.symm) d0 d3 d4 d6 d9
    (fun x hx => (htab x hx).elim) hR.1 hR.2.1 (by omega) (by omega) hlocks (fun t _ h1 h2 => ⟨(), trivial, ⟨rfl, hP.kept (fun k q hk => h2 q.1 (vx_lt hP hk))⟩, ⟨h1, fun q hq _ => h2 q hq⟩⟩) (fun q hq => absurd hq List.not_mem_nil) (by omega) (by omega)
end KT
theorem kg_45 : ∀ w ∈ Cond.classLink RX2 41 kISE :: Cond.initialized kISE :: vx_atS RX2 45 kISE kNms, vx_ot w = true := by decide +kernel
theorem kg_55 : ∀ w ∈ Cond.classLink RX2 51 kIAE :: Cond.initialized kIAE :: vx_atS RX2 55 kIAE kNms, vx_ot w = true := by decide +kernel
theorem kg_96 : ∀ w ∈ Cond.classLink RX2 92 kIOB :: Cond.initialized kIOB :: vx_atS RX2 96 kIOB kNms, vx_ot w = true := by decide +kernel
theorem kb_45 : ∀ w ∈ (vx_atS RX2 45 kISE kNms).filter (fun w => !goodWord w), w ∈ kBs kISE := by decide +kernel
theorem kb_55 : ∀ w ∈ (vx_atS RX2 55 kIAE kNms).filter (fun w => !goodWord w), w ∈ kBs kIAE := by decide +kernel
theorem kb_96 : ∀ w ∈ (vx_atS RX2 96 kIOB kNms).filter (fun w => !goodWord w), w ∈ kBs kIOB := by decide +kernel
end
section
def kROv (l : Launch) (y : MethodName) (ws : List Cond) (rm : Room) (E : kE) (M : kM) (av : List Value) : Prop := Met l y ws rm (kPre E M av) (va_Sv (fun _ => True)) 0 0 (fun _ => False)
theorem kROv_of {l : Launch} {y : MethodName} {ws ws' : List Cond} {rm : Room} {E : kE} {M : kM} {av : List Value} {cc : ByteArray} {maxL : Nat} (own : String) (hy : plainName y.cls = true) (hw : ws = Cond.code y cc maxL none :: ws') (ho : y.cls = own) (hlen : (lg_sl av).length ≤ maxL)
    (body : ∀ (p : Program) (e : Env) (s : State) (m : MethodId) (args : Array Value) (below : List Frame) (meth : Method) (c : Code) (ls : Array Slot) (Q : State → Prop), CallFix p m c cc maxL s args ws own → va_P E.1 vwCl (kW E M) s.heap → kK E s →
      (∀ (pc : Nat) (ls : Array Slot), decode cc pc = .ok (.return_, 1) → W p l e rm s m args below meth c s.heap [] 0 0 Q (F0 m pc ls [])) → lv_has ls maxL (lv_args 0 av) → W p l e rm s m args below meth c s.heap [] 0 0 Q (F0 m 0 ls [])) : kROv l y ws rm E M av := by
  refine Met.ofW (cc := cc) (maxL := maxL) (ret := none) hy hw ?_
  intro p e s m args below meth c s₁ B hml hv
  obtain ⟨rfl, hP, hK⟩ := hv
  have hx := B.exec
  have hb := B.bytes
  have hr := B.returns
  have hlocks := B.notSynchronized
  have hl := lv_entry av (n := maxL) hlen
  rw [lg_entry_eq]
  generalize (lg_sl av ++ List.replicate (maxL - (lg_sl av).length) Slot.unset).toArray = ls at hl ⊢
  refine body p e s m _ below meth c ls _ ⟨hx, hb, hml, by rw [← ho]; exact findClass_of_methodNamed B.named, atoms_spec (ws := ws) B.pre⟩ hP hK (fun pc ls hdg => ?_) hl
  exact W.vret hx hb hr (fun t ht hW => ⟨rfl, trivial, ht⟩) (fun q hq => absurd hq List.not_mem_nil) hdg hlocks
section KV
variable {p : Program} {l : Launch} {e : Env} {R : Room} {s : State} {m : MethodId} {args : Array Value} {below : List Frame} {meth : Method} {c : Code} {H H0 : Heap} {locs : List Loc} {cells slots : Nat} {Q : State → Prop}
variable {cc bytes : ByteArray} {pc : Nat} {ls : Array Slot} {rest st : List Value} {E : kE} {M : kM} {nL maxL index n : Nat} {Ts ws : List Cond} {own C : String} {y : MethodName} {ret : Option FieldType} {rm : Room} {As : List Value} {b : Nat}
theorem k_callSv (S : CallFix p m c cc nL s args Ts own) (hK : kK E s) (hP : va_P E.1 vwCl (kW E M) H) (hM : kROv l y ws rm E M As) (cw : CallB R s args own index y bytes maxL ret ws rm 0 0 n ∧ (Cond.static y).before args s = true)
    (hn : As.length = n) (hsz : ls.size = nL) (hst : st = As.reverse ++ rest) (hw : (rest.map fun v => v.category).sum ≤ 8) (hdg : decode cc pc = .ok (.invokestatic index, 3)) (hf : cells + 0 ≤ R.cells ∧ slots + 0 ≤ R.slots)
    (kk : W p l e R s m args below meth c H locs cells slots Q (F0 m (pc + 3) ls rest)) : W p l e R s m args below meth c H locs cells slots Q (F0 m pc ls st) :=
  va_csv (W.runS S hM cw ⟨kPre_blind, fun U hU hW => ⟨rfl, by rw [hU]; exact hP, kK.warm hW hK⟩⟩ rfl hn hsz hst (lv_room hw) hdg hf) (fun _ => kk)
end KV
theorem kFst_ex {x : Int → Int} {n p k : Int} (hp : 0 ≤ p) (h : p + k ≤ n) : ∃ b : Int, 0 ≤ b ∧ b ≤ p ∧ kFst x n x p k b := by
  obtain ⟨b, b1, b2, b3, b4⟩ := kLeast (fun b => kEq x b x p k) p.toNat p (by omega) (fun _ _ _ => rfl)
  exact ⟨b, b1, b2, Or.inr ⟨b1, by omega, b3, b4⟩⟩
/-- the first place in the other hem of the row at p, which is that at b too -/
theorem kSeam_at {x : Int → Int} {nx : Int} {y : Int → Int} {ny p b k z : Int} (hp : 0 ≤ p ∧ p + k ≤ nx) (hk : 0 < k) (hb0 : 0 ≤ b) (hb : kFst x nx x p k b) (hkm : k = kMac x nx y ny p) (hz : kFst y ny x p k z) : 0 ≤ z ∧ z < ny ∧ k ≤ kL x nx b y ny z ∧ ∀ c : Int, 0 ≤ c → c < z → kL x nx b y ny c < k := by
  obtain ⟨b1, b2⟩ : b + k ≤ nx ∧ kEq x b x p k := by
    rcases hb with ⟨g, -⟩ | ⟨-, g1, g2, -⟩
    · omega
    · exact ⟨g1, g2⟩
  rcases hz with ⟨z1, z2⟩ | ⟨z1, z2, z3, z4⟩
  · exfalso
    rcases (kMaxF_rng (fun c => kL x nx p y ny c) ny.toNat).2.2 with e | ⟨c, c1, c2, c3⟩
    · unfold kMac at hkm; omega
    · have hc := kL_spec (x := x) (y := y) (nx := nx) (ny := ny) (a := p) (b := c) (by omega) (by omega)
      have e : k = kL x nx p y ny c := by unfold kMac at hkm; omega
      have := hc.2.2.1
      exact z2 c c1 (by omega) (kEq_symm ((kLC_iff hc (by omega) (by omega)).mp (by omega)))
  · refine ⟨z1, by omega, (kLC_iff (kL_spec (by omega) (by omega)) b1 z2).mpr (fun t t1 t2 => (b2 t t1 t2).trans (z3 t t1 t2).symm), fun c c1 c2 => ?_⟩
    rcases Int.lt_or_le (kL x nx b y ny c) k with g | g
    · exact g
    · have hc := kL_spec (x := x) (y := y) (nx := nx) (ny := ny) (a := b) (b := c) (by omega) (by omega)
      have h2 := hc.2.2.1
      have q := (kLC_iff hc b1 (by omega)).mp g
      exact absurd (fun t t1 t2 => (q t t1 t2).symm.trans (b2 t t1 t2)) (z4 c c1 c2)
theorem kCnt_smp {x : Int → Int} {n : Int} {y : Int → Int} {m z : Int} (h : (m < 1 ∧ z = 0) ∨ (1 ≤ m ∧ z = kCnt (kAtP x n y 0 m) n.toNat)) : z = kCnt (kSmp x n y m) n.toNat := by
  rcases h with ⟨h1, h2⟩ | ⟨h1, h2⟩
  · rw [h2, kCnt_tail (kSmp x n y m) 0 n.toNat (by omega) (fun k k1 k2 q => by have := q.1; omega)]; rfl
  · rw [h2]
    exact kCnt_congr _ (fun k k1 k2 => ⟨fun q => ⟨by omega, q.1, q.2⟩, fun q => q.2⟩)
theorem kFirst_smp {x : Int → Int} {n : Int} {y : Int → Int} {m z : Int} (h : (m < 1 ∧ z = -1) ∨ (1 ≤ m ∧ kFst x n y 0 m z)) : kIsFirst x n y m z := by
  rcases h with ⟨h1, h2⟩ | ⟨h1, ⟨h2, h3⟩ | ⟨h2, h3, h4, h5⟩⟩
  · exact Or.inl ⟨h2, fun a a1 a2 q => by have := q.1; omega⟩
  · exact Or.inl ⟨h2, fun a a1 a2 q => h3 a a1 q.2.1 q.2.2⟩
  · exact Or.inr ⟨h2, by omega, ⟨by omega, h3, h4⟩, fun a a1 a2 q => h5 a a1 a2 q.2.2⟩
theorem kPlaces_rep {x : Int → Int} {n p b k : Int} (hk : 0 ≤ k) (hp : 0 ≤ p ∧ p + k ≤ n) (hb0 : 0 ≤ b) (hb : kFst x n x p k b) : kCnt (kAtP x n x p k) n.toNat = kCnt (fun c => k ≤ kL x n c x n b) n.toNat := by
  obtain ⟨b1, b2⟩ : b + k ≤ n ∧ kEq x b x p k := by
    rcases hb with ⟨g, -⟩ | ⟨-, g1, g2, -⟩
    · omega
    · exact ⟨g1, g2⟩
  refine kCnt_congr _ (fun c c1 c2 => ⟨fun q => ?_, fun q => ?_⟩)
  · exact (kLC_iff (kL_spec (by omega) (by omega)) q.1 b1).mpr (fun t t1 t2 => (q.2 t t1 t2).trans (b2 t t1 t2).symm)
  · have hc := kL_spec (x := x) (y := x) (nx := n) (ny := n) (a := c) (b := b) (by omega) (by omega)
    have h2 := hc.2.1
    have h3 : c + k ≤ n := by omega
    have e := (kLC_iff hc h3 b1).mp q
    exact ⟨h3, fun t t1 t2 => (e t t1 t2).trans (b2 t t1 t2)⟩
end
