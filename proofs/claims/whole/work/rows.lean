section
-- ===== PART A: goes FIRST, ahead of the names: the tables' words, and 'selects' of the private methods out of them =====
/-- a private method of a class that the tables say can be made, by its rows of tables_1 -/
def lw_okq (q : MethodName × Nat) : Prop := (q.1.cls ≠ "java/lang/invoke/MethodHandle" ∧ q.1.cls ≠ "java/lang/invoke/VarHandle") ∧ Cond.instantiable q.1.cls q.2 ∈ tables_1 ∧ Cond.privateMethod q.1 ∈ tables_1 ∧ Cond.instanceMethod q.1 ∈ tables_1
theorem lw_p0 : lw_okq (⟨"TollLedger", "isOther", "(I)Z"⟩, 10) := ⟨⟨by decide +kernel, by decide +kernel⟩, List.mem_of_getElem? (i := 21) (by decide +kernel), List.mem_of_getElem? (i := 264) (by decide +kernel), List.mem_of_getElem? (i := 265) (by decide +kernel)⟩
theorem lw_p1 : lw_okq (⟨"TollLedger", "charge", "(Z)I"⟩, 10) := ⟨⟨by decide +kernel, by decide +kernel⟩, List.mem_of_getElem? (i := 21) (by decide +kernel), List.mem_of_getElem? (i := 268) (by decide +kernel), List.mem_of_getElem? (i := 269) (by decide +kernel)⟩
theorem lw_p2 : lw_okq (⟨"TollLedger$State", "reserveOf", "(I)I"⟩, 6) := ⟨⟨by decide +kernel, by decide +kernel⟩, List.mem_of_getElem? (i := 29) (by decide +kernel), List.mem_of_getElem? (i := 276) (by decide +kernel), List.mem_of_getElem? (i := 277) (by decide +kernel)⟩
theorem lw_p3 : lw_okq (⟨"TollLedger$Book", "insert", "(LTollLedger$Offer;)V"⟩, 2) := ⟨⟨by decide +kernel, by decide +kernel⟩, List.mem_of_getElem? (i := 145) (by decide +kernel), List.mem_of_getElem? (i := 373) (by decide +kernel), List.mem_of_getElem? (i := 374) (by decide +kernel)⟩
theorem lw_p4 : lw_okq (⟨"TollLedger", "greatestDelivery", "(IIII)I"⟩, 10) := ⟨⟨by decide +kernel, by decide +kernel⟩, List.mem_of_getElem? (i := 21) (by decide +kernel), List.mem_of_getElem? (i := 385) (by decide +kernel), List.mem_of_getElem? (i := 386) (by decide +kernel)⟩
theorem lw_p5 : lw_okq (⟨"TollLedger", "spendingFor", "(IIII)I"⟩, 10) := ⟨⟨by decide +kernel, by decide +kernel⟩, List.mem_of_getElem? (i := 21) (by decide +kernel), List.mem_of_getElem? (i := 389) (by decide +kernel), List.mem_of_getElem? (i := 390) (by decide +kernel)⟩
theorem lw_p6 : lw_okq (⟨"TollLedger$State", "tollRate", "(III)I"⟩, 6) := ⟨⟨by decide +kernel, by decide +kernel⟩, List.mem_of_getElem? (i := 29) (by decide +kernel), List.mem_of_getElem? (i := 403) (by decide +kernel), List.mem_of_getElem? (i := 404) (by decide +kernel)⟩
theorem lw_p7 : lw_okq (⟨"TollLedger", "isHushed", "(II)Z"⟩, 10) := ⟨⟨by decide +kernel, by decide +kernel⟩, List.mem_of_getElem? (i := 21) (by decide +kernel), List.mem_of_getElem? (i := 409) (by decide +kernel), List.mem_of_getElem? (i := 410) (by decide +kernel)⟩
theorem lw_p8 : lw_okq (⟨"TollLedger$Taking", "startPlan", "()V"⟩, 13) := ⟨⟨by decide +kernel, by decide +kernel⟩, List.mem_of_getElem? (i := 139) (by decide +kernel), List.mem_of_getElem? (i := 417) (by decide +kernel), List.mem_of_getElem? (i := 418) (by decide +kernel)⟩
theorem lw_p9 : lw_okq (⟨"TollLedger$Taking", "goThrough", "(II)V"⟩, 13) := ⟨⟨by decide +kernel, by decide +kernel⟩, List.mem_of_getElem? (i := 139) (by decide +kernel), List.mem_of_getElem? (i := 424) (by decide +kernel), List.mem_of_getElem? (i := 425) (by decide +kernel)⟩
theorem lw_p10 : lw_okq (⟨"java/util/ArrayList", "fastRemove", "([Ljava/lang/Object;I)V"⟩, 3) := ⟨⟨by decide +kernel, by decide +kernel⟩, List.mem_of_getElem? (i := 59) (by decide +kernel), List.mem_of_getElem? (i := 451) (by decide +kernel), List.mem_of_getElem? (i := 452) (by decide +kernel)⟩
theorem lw_p11 : lw_okq (⟨"TollLedger", "canPlace", "(I)Z"⟩, 10) := ⟨⟨by decide +kernel, by decide +kernel⟩, List.mem_of_getElem? (i := 21) (by decide +kernel), List.mem_of_getElem? (i := 478) (by decide +kernel), List.mem_of_getElem? (i := 479) (by decide +kernel)⟩
theorem lw_p12 : lw_okq (⟨"java/util/ArrayList", "add", "(Ljava/lang/Object;[Ljava/lang/Object;I)V"⟩, 3) := ⟨⟨by decide +kernel, by decide +kernel⟩, List.mem_of_getElem? (i := 59) (by decide +kernel), List.mem_of_getElem? (i := 531) (by decide +kernel), List.mem_of_getElem? (i := 532) (by decide +kernel)⟩
theorem lw_p13 : lw_okq (⟨"java/util/ArrayList", "grow", "()[Ljava/lang/Object;"⟩, 3) := ⟨⟨by decide +kernel, by decide +kernel⟩, List.mem_of_getElem? (i := 59) (by decide +kernel), List.mem_of_getElem? (i := 535) (by decide +kernel), List.mem_of_getElem? (i := 536) (by decide +kernel)⟩
theorem lw_p14 : lw_okq (⟨"java/util/ArrayList", "grow", "(I)[Ljava/lang/Object;"⟩, 3) := ⟨⟨by decide +kernel, by decide +kernel⟩, List.mem_of_getElem? (i := 59) (by decide +kernel), List.mem_of_getElem? (i := 539) (by decide +kernel), List.mem_of_getElem? (i := 540) (by decide +kernel)⟩
theorem lw_p15 : lw_okq (⟨"TollLedger$Leaves", "fillLines", "(LTollLedger$Lines;)V"⟩, 1) := ⟨⟨by decide +kernel, by decide +kernel⟩, List.mem_of_getElem? (i := 208) (by decide +kernel), List.mem_of_getElem? (i := 699) (by decide +kernel), List.mem_of_getElem? (i := 700) (by decide +kernel)⟩
def lw_privs_1 : List (MethodName × Nat) := [(⟨"TollLedger", "isOther", "(I)Z"⟩, 10), (⟨"TollLedger", "charge", "(Z)I"⟩, 10), (⟨"TollLedger$State", "reserveOf", "(I)I"⟩, 6), (⟨"TollLedger$Book", "insert", "(LTollLedger$Offer;)V"⟩, 2), (⟨"TollLedger", "greatestDelivery", "(IIII)I"⟩, 10), (⟨"TollLedger", "spendingFor", "(IIII)I"⟩, 10), (⟨"TollLedger$State", "tollRate", "(III)I"⟩, 6), (⟨"TollLedger", "isHushed", "(II)Z"⟩, 10), (⟨"TollLedger$Taking", "startPlan", "()V"⟩, 13), (⟨"TollLedger$Taking", "goThrough", "(II)V"⟩, 13), (⟨"java/util/ArrayList", "fastRemove", "([Ljava/lang/Object;I)V"⟩, 3), (⟨"TollLedger", "canPlace", "(I)Z"⟩, 10), (⟨"java/util/ArrayList", "add", "(Ljava/lang/Object;[Ljava/lang/Object;I)V"⟩, 3), (⟨"java/util/ArrayList", "grow", "()[Ljava/lang/Object;"⟩, 3), (⟨"java/util/ArrayList", "grow", "(I)[Ljava/lang/Object;"⟩, 3), (⟨"TollLedger$Leaves", "fillLines", "(LTollLedger$Lines;)V"⟩, 1)]
theorem lw_r1 : ∀ q ∈ lw_privs_1, lw_okq q := List.forall_mem_cons.mpr ⟨lw_p0, List.forall_mem_cons.mpr ⟨lw_p1, List.forall_mem_cons.mpr ⟨lw_p2, List.forall_mem_cons.mpr ⟨lw_p3, List.forall_mem_cons.mpr ⟨lw_p4, List.forall_mem_cons.mpr ⟨lw_p5, List.forall_mem_cons.mpr ⟨lw_p6, List.forall_mem_cons.mpr ⟨lw_p7, List.forall_mem_cons.mpr ⟨lw_p8, List.forall_mem_cons.mpr ⟨lw_p9, List.forall_mem_cons.mpr ⟨lw_p10, List.forall_mem_cons.mpr ⟨lw_p11, List.forall_mem_cons.mpr ⟨lw_p12, List.forall_mem_cons.mpr ⟨lw_p13, List.forall_mem_cons.mpr ⟨lw_p14, List.forall_mem_cons.mpr ⟨lw_p15, fun _ h => absurd h List.not_mem_nil⟩⟩⟩⟩⟩⟩⟩⟩⟩⟩⟩⟩⟩⟩⟩⟩
theorem lw_p16 : lw_okq (⟨"TollLedger$Leaves", "inner", "(I)I"⟩, 1) := ⟨⟨by decide +kernel, by decide +kernel⟩, List.mem_of_getElem? (i := 208) (by decide +kernel), List.mem_of_getElem? (i := 726) (by decide +kernel), List.mem_of_getElem? (i := 727) (by decide +kernel)⟩
theorem lw_p17 : lw_okq (⟨"TollLedgerModel", "begin", "(Z)I"⟩, 39) := ⟨⟨by decide +kernel, by decide +kernel⟩, List.mem_of_getElem? (i := 733) (by decide +kernel), List.mem_of_getElem? (i := 877) (by decide +kernel), List.mem_of_getElem? (i := 878) (by decide +kernel)⟩
theorem lw_p18 : lw_okq (⟨"TollLedgerModel", "fundsIn", "(II)I"⟩, 39) := ⟨⟨by decide +kernel, by decide +kernel⟩, List.mem_of_getElem? (i := 733) (by decide +kernel), List.mem_of_getElem? (i := 881) (by decide +kernel), List.mem_of_getElem? (i := 882) (by decide +kernel)⟩
theorem lw_p19 : lw_okq (⟨"TollLedgerModel", "reserve", "(I)I"⟩, 39) := ⟨⟨by decide +kernel, by decide +kernel⟩, List.mem_of_getElem? (i := 733) (by decide +kernel), List.mem_of_getElem? (i := 889) (by decide +kernel), List.mem_of_getElem? (i := 890) (by decide +kernel)⟩
theorem lw_p20 : lw_okq (⟨"TollLedgerModel", "pieces", "(I)I"⟩, 39) := ⟨⟨by decide +kernel, by decide +kernel⟩, List.mem_of_getElem? (i := 733) (by decide +kernel), List.mem_of_getElem? (i := 893) (by decide +kernel), List.mem_of_getElem? (i := 894) (by decide +kernel)⟩
theorem lw_p21 : lw_okq (⟨"TollLedgerModel", "owns", "(I)Z"⟩, 39) := ⟨⟨by decide +kernel, by decide +kernel⟩, List.mem_of_getElem? (i := 733) (by decide +kernel), List.mem_of_getElem? (i := 897) (by decide +kernel), List.mem_of_getElem? (i := 898) (by decide +kernel)⟩
theorem lw_p22 : lw_okq (⟨"TollLedgerModel", "spending", "(III)J"⟩, 39) := ⟨⟨by decide +kernel, by decide +kernel⟩, List.mem_of_getElem? (i := 733) (by decide +kernel), List.mem_of_getElem? (i := 923) (by decide +kernel), List.mem_of_getElem? (i := 924) (by decide +kernel)⟩
theorem lw_p23 : lw_okq (⟨"TollLedgerModel", "costOf", "(JIII)J"⟩, 39) := ⟨⟨by decide +kernel, by decide +kernel⟩, List.mem_of_getElem? (i := 733) (by decide +kernel), List.mem_of_getElem? (i := 928) (by decide +kernel), List.mem_of_getElem? (i := 929) (by decide +kernel)⟩
theorem lw_p24 : lw_okq (⟨"TollLedgerModel", "take", "(IIIJJJ)V"⟩, 39) := ⟨⟨by decide +kernel, by decide +kernel⟩, List.mem_of_getElem? (i := 733) (by decide +kernel), List.mem_of_getElem? (i := 934) (by decide +kernel), List.mem_of_getElem? (i := 935) (by decide +kernel)⟩
theorem lw_p25 : lw_okq (⟨"TollLedgerModel", "nextOf", "(III)I"⟩, 39) := ⟨⟨by decide +kernel, by decide +kernel⟩, List.mem_of_getElem? (i := 733) (by decide +kernel), List.mem_of_getElem? (i := 938) (by decide +kernel), List.mem_of_getElem? (i := 939) (by decide +kernel)⟩
theorem lw_p26 : lw_okq (⟨"TollLedgerModel", "inBook", "(III)Z"⟩, 39) := ⟨⟨by decide +kernel, by decide +kernel⟩, List.mem_of_getElem? (i := 733) (by decide +kernel), List.mem_of_getElem? (i := 942) (by decide +kernel), List.mem_of_getElem? (i := 943) (by decide +kernel)⟩
theorem lw_p27 : lw_okq (⟨"TollLedgerModel", "ahead", "(II)Z"⟩, 39) := ⟨⟨by decide +kernel, by decide +kernel⟩, List.mem_of_getElem? (i := 733) (by decide +kernel), List.mem_of_getElem? (i := 946) (by decide +kernel), List.mem_of_getElem? (i := 947) (by decide +kernel)⟩
theorem lw_p28 : lw_okq (⟨"TollLedgerModel", "canTake", "(IIIIJJ)Z"⟩, 39) := ⟨⟨by decide +kernel, by decide +kernel⟩, List.mem_of_getElem? (i := 733) (by decide +kernel), List.mem_of_getElem? (i := 950) (by decide +kernel), List.mem_of_getElem? (i := 951) (by decide +kernel)⟩
theorem lw_p29 : lw_okq (⟨"TollLedgerModel", "priceOf", "(II)I"⟩, 39) := ⟨⟨by decide +kernel, by decide +kernel⟩, List.mem_of_getElem? (i := 733) (by decide +kernel), List.mem_of_getElem? (i := 954) (by decide +kernel), List.mem_of_getElem? (i := 955) (by decide +kernel)⟩
theorem lw_p30 : lw_okq (⟨"TollLedgerModel", "note", "(IIII)V"⟩, 39) := ⟨⟨by decide +kernel, by decide +kernel⟩, List.mem_of_getElem? (i := 733) (by decide +kernel), List.mem_of_getElem? (i := 958) (by decide +kernel), List.mem_of_getElem? (i := 959) (by decide +kernel)⟩
theorem lw_p31 : lw_okq (⟨"TollLedgerModel", "carryOut", "(II)V"⟩, 39) := ⟨⟨by decide +kernel, by decide +kernel⟩, List.mem_of_getElem? (i := 733) (by decide +kernel), List.mem_of_getElem? (i := 962) (by decide +kernel), List.mem_of_getElem? (i := 963) (by decide +kernel)⟩
def lw_privs_2 : List (MethodName × Nat) := [(⟨"TollLedger$Leaves", "inner", "(I)I"⟩, 1), (⟨"TollLedgerModel", "begin", "(Z)I"⟩, 39), (⟨"TollLedgerModel", "fundsIn", "(II)I"⟩, 39), (⟨"TollLedgerModel", "reserve", "(I)I"⟩, 39), (⟨"TollLedgerModel", "pieces", "(I)I"⟩, 39), (⟨"TollLedgerModel", "owns", "(I)Z"⟩, 39), (⟨"TollLedgerModel", "spending", "(III)J"⟩, 39), (⟨"TollLedgerModel", "costOf", "(JIII)J"⟩, 39), (⟨"TollLedgerModel", "take", "(IIIJJJ)V"⟩, 39), (⟨"TollLedgerModel", "nextOf", "(III)I"⟩, 39), (⟨"TollLedgerModel", "inBook", "(III)Z"⟩, 39), (⟨"TollLedgerModel", "ahead", "(II)Z"⟩, 39), (⟨"TollLedgerModel", "canTake", "(IIIIJJ)Z"⟩, 39), (⟨"TollLedgerModel", "priceOf", "(II)I"⟩, 39), (⟨"TollLedgerModel", "note", "(IIII)V"⟩, 39), (⟨"TollLedgerModel", "carryOut", "(II)V"⟩, 39)]
theorem lw_r2 : ∀ q ∈ lw_privs_2, lw_okq q := List.forall_mem_cons.mpr ⟨lw_p16, List.forall_mem_cons.mpr ⟨lw_p17, List.forall_mem_cons.mpr ⟨lw_p18, List.forall_mem_cons.mpr ⟨lw_p19, List.forall_mem_cons.mpr ⟨lw_p20, List.forall_mem_cons.mpr ⟨lw_p21, List.forall_mem_cons.mpr ⟨lw_p22, List.forall_mem_cons.mpr ⟨lw_p23, List.forall_mem_cons.mpr ⟨lw_p24, List.forall_mem_cons.mpr ⟨lw_p25, List.forall_mem_cons.mpr ⟨lw_p26, List.forall_mem_cons.mpr ⟨lw_p27, List.forall_mem_cons.mpr ⟨lw_p28, List.forall_mem_cons.mpr ⟨lw_p29, List.forall_mem_cons.mpr ⟨lw_p30, List.forall_mem_cons.mpr ⟨lw_p31, fun _ h => absurd h List.not_mem_nil⟩⟩⟩⟩⟩⟩⟩⟩⟩⟩⟩⟩⟩⟩⟩⟩
theorem lw_p32 : lw_okq (⟨"TollLedgerModel", "change", "(IIJ)V"⟩, 39) := ⟨⟨by decide +kernel, by decide +kernel⟩, List.mem_of_getElem? (i := 733) (by decide +kernel), List.mem_of_getElem? (i := 966) (by decide +kernel), List.mem_of_getElem? (i := 967) (by decide +kernel)⟩
theorem lw_p33 : lw_okq (⟨"TollLedgerModel", "moveOffer", "(II)V"⟩, 39) := ⟨⟨by decide +kernel, by decide +kernel⟩, List.mem_of_getElem? (i := 733) (by decide +kernel), List.mem_of_getElem? (i := 970) (by decide +kernel), List.mem_of_getElem? (i := 971) (by decide +kernel)⟩
theorem lw_p34 : lw_okq (⟨"TollLedgerModel", "place", "(IIII)V"⟩, 39) := ⟨⟨by decide +kernel, by decide +kernel⟩, List.mem_of_getElem? (i := 733) (by decide +kernel), List.mem_of_getElem? (i := 978) (by decide +kernel), List.mem_of_getElem? (i := 979) (by decide +kernel)⟩
theorem lw_p35 : lw_okq (⟨"TollLedgerModel", "findOffer", "(I)I"⟩, 39) := ⟨⟨by decide +kernel, by decide +kernel⟩, List.mem_of_getElem? (i := 733) (by decide +kernel), List.mem_of_getElem? (i := 986) (by decide +kernel), List.mem_of_getElem? (i := 987) (by decide +kernel)⟩
theorem lw_p36 : lw_okq (⟨"TollLedgerModel", "findDeposit", "(I)I"⟩, 39) := ⟨⟨by decide +kernel, by decide +kernel⟩, List.mem_of_getElem? (i := 733) (by decide +kernel), List.mem_of_getElem? (i := 998) (by decide +kernel), List.mem_of_getElem? (i := 999) (by decide +kernel)⟩
theorem lw_p37 : lw_okq (⟨"TollLedgerModel", "leaf", "(I)I"⟩, 39) := ⟨⟨by decide +kernel, by decide +kernel⟩, List.mem_of_getElem? (i := 733) (by decide +kernel), List.mem_of_getElem? (i := 1045) (by decide +kernel), List.mem_of_getElem? (i := 1046) (by decide +kernel)⟩
theorem lw_p38 : lw_okq (⟨"TollLedgerModel", "lineLeaf", "(I)I"⟩, 39) := ⟨⟨by decide +kernel, by decide +kernel⟩, List.mem_of_getElem? (i := 733) (by decide +kernel), List.mem_of_getElem? (i := 1050) (by decide +kernel), List.mem_of_getElem? (i := 1051) (by decide +kernel)⟩
def lw_privs_3 : List (MethodName × Nat) := [(⟨"TollLedgerModel", "change", "(IIJ)V"⟩, 39), (⟨"TollLedgerModel", "moveOffer", "(II)V"⟩, 39), (⟨"TollLedgerModel", "place", "(IIII)V"⟩, 39), (⟨"TollLedgerModel", "findOffer", "(I)I"⟩, 39), (⟨"TollLedgerModel", "findDeposit", "(I)I"⟩, 39), (⟨"TollLedgerModel", "leaf", "(I)I"⟩, 39), (⟨"TollLedgerModel", "lineLeaf", "(I)I"⟩, 39)]
theorem lw_r3 : ∀ q ∈ lw_privs_3, lw_okq q := List.forall_mem_cons.mpr ⟨lw_p32, List.forall_mem_cons.mpr ⟨lw_p33, List.forall_mem_cons.mpr ⟨lw_p34, List.forall_mem_cons.mpr ⟨lw_p35, List.forall_mem_cons.mpr ⟨lw_p36, List.forall_mem_cons.mpr ⟨lw_p37, List.forall_mem_cons.mpr ⟨lw_p38, fun _ h => absurd h List.not_mem_nil⟩⟩⟩⟩⟩⟩⟩
def lw_privs : List (MethodName × Nat) := lw_privs_1 ++ (lw_privs_2 ++ (lw_privs_3))
def lw_tbl : List Cond := k2_sels lw_privs ++ tables_1
theorem lw_privs_ok : ∀ q ∈ lw_privs, lw_okq q := by
  show ∀ q ∈ lw_privs_1 ++ (lw_privs_2 ++ (lw_privs_3)), lw_okq q
  exact List.forall_mem_append.mpr ⟨lw_r1, List.forall_mem_append.mpr ⟨lw_r2, lw_r3⟩⟩
end
section
/-! names: classes and their fields, methods; the words that keep -/
def BIG : List Cond := lw_tbl.filter goodWord
theorem bgA {w : Cond} (h : w ∈ lw_tbl) (hg : goodWord w = true) : w ∈ BIG := List.mem_filter.mpr ⟨h, hg⟩
theorem bgG {w : Cond} (h : w ∈ BIG) : goodWord w = true := (List.mem_filter.mp h).2
theorem bgT {w : Cond} (h : w ∈ BIG) : w ∈ lw_tbl := (List.mem_filter.mp h).1
theorem tb_all {w : Cond} (h : w ∈ tables_1) : w ∈ lw_tbl := List.mem_append_right _ h
theorem inT1 {w : Cond} (i : Nat) (h : tables_1_1[i]? = some w) : w ∈ lw_tbl := tb_all (by unfold tables_1; exact List.mem_append_left _ (List.mem_of_getElem? h))
theorem inT2 {w : Cond} (i : Nat) (h : tables_1_2[i]? = some w) : w ∈ lw_tbl := tb_all (by unfold tables_1; exact List.mem_append_right _ (List.mem_append_left _ (List.mem_of_getElem? h)))
theorem inT3 {w : Cond} (i : Nat) (h : tables_1_3[i]? = some w) : w ∈ lw_tbl := tb_all (by unfold tables_1; exact List.mem_append_right _ (List.mem_append_right _ (List.mem_append_left _ (List.mem_of_getElem? h))))
theorem inT4 {w : Cond} (i : Nat) (h : tables_1_4[i]? = some w) : w ∈ lw_tbl := tb_all (by unfold tables_1; exact List.mem_append_right _ (List.mem_append_right _ (List.mem_append_right _ (List.mem_append_left _ (List.mem_of_getElem? h)))))
theorem inT5 {w : Cond} (i : Nat) (h : tables_1_5[i]? = some w) : w ∈ lw_tbl := tb_all (by unfold tables_1; exact List.mem_append_right _ (List.mem_append_right _ (List.mem_append_right _ (List.mem_append_right _ (List.mem_of_getElem? h)))))
theorem inP {q : MethodName × Nat} (i : Nat) (h : lw_privs[i]? = some q) : Cond.selects q.1.cls q.1 q.1 ∈ lw_tbl := List.mem_append_left _ (List.mem_map.mpr ⟨q, List.mem_of_getElem? h, rfl⟩)
def T_TL : u_T := fun k => match k with
  | 0 => ("TollLedger", "state", "LTollLedger$State;", true)
  | 1 => ("TollLedger", "taking", "LTollLedger$Taking;", true)
  | 2 => ("TollLedger", "leaves", "LTollLedger$Leaves;", true)
  | 3 => ("TollLedger", "signer", "I", false)
  | 4 => ("TollLedger", "signedNumber", "I", false)
  | 5 => ("TollLedger", "spendAsset", "I", false)
  | 6 => ("TollLedger", "spendMax", "I", false)
  | 7 => ("TollLedger", "spendPartial", "Z", false)
  | 8 => ("TollLedger", "clock", "I", false)
  | _ => ("TollLedger", "burntCoins", "I", false)
def ty_TL : Nat → FieldType := fun k => match k with
  | 0 => .object "TollLedger$State"
  | 1 => .object "TollLedger$Taking"
  | 2 => .object "TollLedger$Leaves"
  | 3 => .int
  | 4 => .int
  | 5 => .int
  | 6 => .int
  | 7 => .boolean
  | 8 => .int
  | _ => .int
theorem nm_TL : ∀ a, a < 10 → ∀ b, b < 10 → a ≠ b → (T_TL a).2.1 ≠ (T_TL b).2.1 := by decide +kernel
theorem tk_TL : ∀ k, k < 10 → parseFieldDescriptor (T_TL k).2.2.1 = some (ty_TL k) := by decide +kernel
theorem in_TL : ∀ w ∈ u_ws "TollLedger" T_TL 10, w ∈ BIG := by
  intro w h
  obtain ⟨k, hk, rfl⟩ := List.mem_map.mp h
  have hk := List.mem_range.mp hk
  match k, hk with
  | 0, _ => exact bgA (inT1 228 rfl) rfl
  | 1, _ => exact bgA (inT1 230 rfl) rfl
  | 2, _ => exact bgA (inT1 232 rfl) rfl
  | 3, _ => exact bgA (inT1 234 rfl) rfl
  | 4, _ => exact bgA (inT1 236 rfl) rfl
  | 5, _ => exact bgA (inT1 238 rfl) rfl
  | 6, _ => exact bgA (inT2 0 rfl) rfl
  | 7, _ => exact bgA (inT2 2 rfl) rfl
  | 8, _ => exact bgA (inT2 4 rfl) rfl
  | 9, _ => exact bgA (inT2 6 rfl) rfl
  | k + 10, hk => exact absurd hk (by omega)
def T_ST : u_T := fun k => match k with
  | 0 => ("TollLedger$State", "accounts", "[LTollLedger$Account;", true)
  | 1 => ("TollLedger$State", "lines", "LTollLedger$Lines;", true)
  | 2 => ("TollLedger$State", "offers", "Ljava/util/ArrayList;", true)
  | 3 => ("TollLedger$State", "deposits", "Ljava/util/ArrayList;", true)
  | 4 => ("TollLedger$State", "lastOfferId", "I", false)
  | _ => ("TollLedger$State", "lastDepositId", "I", false)
def ty_ST : Nat → FieldType := fun k => match k with
  | 0 => .array (.object "TollLedger$Account")
  | 1 => .object "TollLedger$Lines"
  | 2 => .object "java/util/ArrayList"
  | 3 => .object "java/util/ArrayList"
  | 4 => .int
  | _ => .int
theorem nm_ST : ∀ a, a < 6 → ∀ b, b < 6 → a ≠ b → (T_ST a).2.1 ≠ (T_ST b).2.1 := by decide +kernel
theorem tk_ST : ∀ k, k < 6 → parseFieldDescriptor (T_ST k).2.2.1 = some (ty_ST k) := by decide +kernel
theorem in_ST : ∀ w ∈ u_ws "TollLedger$State" T_ST 6, w ∈ BIG := by
  intro w h
  obtain ⟨k, hk, rfl⟩ := List.mem_map.mp h
  have hk := List.mem_range.mp hk
  match k, hk with
  | 0, _ => exact bgA (inT1 125 rfl) rfl
  | 1, _ => exact bgA (inT1 127 rfl) rfl
  | 2, _ => exact bgA (inT1 129 rfl) rfl
  | 3, _ => exact bgA (inT1 131 rfl) rfl
  | 4, _ => exact bgA (inT1 133 rfl) rfl
  | 5, _ => exact bgA (inT1 135 rfl) rfl
  | k + 6, hk => exact absurd hk (by omega)
def T_LN : u_T := fun k => match k with
  | 0 => ("TollLedger$Lines", "balances", "[I", true)
  | 1 => ("TollLedger$Lines", "limits", "[I", true)
  | _ => ("TollLedger$Lines", "quiets", "[Z", true)
def ty_LN : Nat → FieldType := fun k => match k with
  | 0 => .array .int
  | 1 => .array .int
  | _ => .array .boolean
theorem nm_LN : ∀ a, a < 3 → ∀ b, b < 3 → a ≠ b → (T_LN a).2.1 ≠ (T_LN b).2.1 := by decide +kernel
theorem tk_LN : ∀ k, k < 3 → parseFieldDescriptor (T_LN k).2.2.1 = some (ty_LN k) := by decide +kernel
theorem in_LN : ∀ w ∈ u_ws "TollLedger$Lines" T_LN 3, w ∈ BIG := by
  intro w h
  obtain ⟨k, hk, rfl⟩ := List.mem_map.mp h
  have hk := List.mem_range.mp hk
  match k, hk with
  | 0, _ => exact bgA (inT1 49 rfl) rfl
  | 1, _ => exact bgA (inT1 51 rfl) rfl
  | 2, _ => exact bgA (inT1 53 rfl) rfl
  | k + 3, hk => exact absurd hk (by omega)
def T_BK : u_T := fun k => match k with
  | 0 => ("TollLedger$Book", "row", "[LTollLedger$Offer;", true)
  | _ => ("TollLedger$Book", "size", "I", false)
def ty_BK : Nat → FieldType := fun k => match k with
  | 0 => .array (.object "TollLedger$Offer")
  | _ => .int
theorem nm_BK : ∀ a, a < 2 → ∀ b, b < 2 → a ≠ b → (T_BK a).2.1 ≠ (T_BK b).2.1 := by decide +kernel
theorem tk_BK : ∀ k, k < 2 → parseFieldDescriptor (T_BK k).2.2.1 = some (ty_BK k) := by decide +kernel
theorem in_BK : ∀ w ∈ u_ws "TollLedger$Book" T_BK 2, w ∈ BIG := by
  intro w h
  obtain ⟨k, hk, rfl⟩ := List.mem_map.mp h
  have hk := List.mem_range.mp hk
  match k, hk with
  | 0, _ => exact bgA (inT1 158 rfl) rfl
  | 1, _ => exact bgA (inT1 160 rfl) rfl
  | k + 2, hk => exact absurd hk (by omega)
def T_TK : u_T := fun k => match k with
  | 0 => ("TollLedger$Taking", "state", "LTollLedger$State;", true)
  | 1 => ("TollLedger$Taking", "book", "LTollLedger$Book;", true)
  | 2 => ("TollLedger$Taking", "amounts", "[I", true)
  | 3 => ("TollLedger$Taking", "prices", "[I", true)
  | 4 => ("TollLedger$Taking", "funds", "[I", true)
  | 5 => ("TollLedger$Taking", "purses", "[I", true)
  | 6 => ("TollLedger$Taking", "taker", "I", false)
  | 7 => ("TollLedger$Taking", "paid", "I", false)
  | 8 => ("TollLedger$Taking", "got", "I", false)
  | 9 => ("TollLedger$Taking", "reached", "I", false)
  | 10 => ("TollLedger$Taking", "taken", "I", false)
  | 11 => ("TollLedger$Taking", "price", "I", false)
  | _ => ("TollLedger$Taking", "cost", "I", false)
def ty_TK : Nat → FieldType := fun k => match k with
  | 0 => .object "TollLedger$State"
  | 1 => .object "TollLedger$Book"
  | 2 => .array .int
  | 3 => .array .int
  | 4 => .array .int
  | 5 => .array .int
  | 6 => .int
  | 7 => .int
  | 8 => .int
  | 9 => .int
  | 10 => .int
  | 11 => .int
  | _ => .int
theorem nm_TK : ∀ a, a < 13 → ∀ b, b < 13 → a ≠ b → (T_TK a).2.1 ≠ (T_TK b).2.1 := by decide +kernel
theorem tk_TK : ∀ k, k < 13 → parseFieldDescriptor (T_TK k).2.2.1 = some (ty_TK k) := by decide +kernel
theorem in_TK : ∀ w ∈ u_ws "TollLedger$Taking" T_TK 13, w ∈ BIG := by
  intro w h
  obtain ⟨k, hk, rfl⟩ := List.mem_map.mp h
  have hk := List.mem_range.mp hk
  match k, hk with
  | 0, _ => exact bgA (inT1 180 rfl) rfl
  | 1, _ => exact bgA (inT1 182 rfl) rfl
  | 2, _ => exact bgA (inT1 184 rfl) rfl
  | 3, _ => exact bgA (inT1 186 rfl) rfl
  | 4, _ => exact bgA (inT1 188 rfl) rfl
  | 5, _ => exact bgA (inT1 190 rfl) rfl
  | 6, _ => exact bgA (inT1 192 rfl) rfl
  | 7, _ => exact bgA (inT1 194 rfl) rfl
  | 8, _ => exact bgA (inT1 196 rfl) rfl
  | 9, _ => exact bgA (inT1 198 rfl) rfl
  | 10, _ => exact bgA (inT1 200 rfl) rfl
  | 11, _ => exact bgA (inT1 202 rfl) rfl
  | 12, _ => exact bgA (inT1 204 rfl) rfl
  | k + 13, hk => exact absurd hk (by omega)
def T_LV : u_T := fun k => match k with
  | _ => ("TollLedger$Leaves", "row", "[I", true)
def ty_LV : Nat → FieldType := fun k => match k with
  | _ => .array .int
theorem nm_LV : ∀ a, a < 1 → ∀ b, b < 1 → a ≠ b → (T_LV a).2.1 ≠ (T_LV b).2.1 := by decide +kernel
theorem tk_LV : ∀ k, k < 1 → parseFieldDescriptor (T_LV k).2.2.1 = some (ty_LV k) := by decide +kernel
theorem in_LV : ∀ w ∈ u_ws "TollLedger$Leaves" T_LV 1, w ∈ BIG := by
  intro w h
  obtain ⟨k, hk, rfl⟩ := List.mem_map.mp h
  have hk := List.mem_range.mp hk
  match k, hk with
  | 0, _ => exact bgA (inT1 214 rfl) rfl
  | k + 1, hk => exact absurd hk (by omega)
def T_AC : u_T := fun k => match k with
  | 0 => ("TollLedger$Account", "exists", "Z", false)
  | 1 => ("TollLedger$Account", "coins", "I", false)
  | 2 => ("TollLedger$Account", "number", "I", false)
  | _ => ("TollLedger$Account", "rate", "I", false)
def ty_AC : Nat → FieldType := fun k => match k with
  | 0 => .boolean
  | 1 => .int
  | 2 => .int
  | _ => .int
theorem nm_AC : ∀ a, a < 4 → ∀ b, b < 4 → a ≠ b → (T_AC a).2.1 ≠ (T_AC b).2.1 := by decide +kernel
theorem tk_AC : ∀ k, k < 4 → parseFieldDescriptor (T_AC k).2.2.1 = some (ty_AC k) := by decide +kernel
theorem in_AC : ∀ w ∈ u_ws "TollLedger$Account" T_AC 4, w ∈ BIG := by
  intro w h
  obtain ⟨k, hk, rfl⟩ := List.mem_map.mp h
  have hk := List.mem_range.mp hk
  match k, hk with
  | 0, _ => exact bgA (inT1 100 rfl) rfl
  | 1, _ => exact bgA (inT1 102 rfl) rfl
  | 2, _ => exact bgA (inT1 104 rfl) rfl
  | 3, _ => exact bgA (inT1 106 rfl) rfl
  | k + 4, hk => exact absurd hk (by omega)
def T_OF : u_T := fun k => match k with
  | 0 => ("TollLedger$Offer", "id", "I", false)
  | 1 => ("TollLedger$Offer", "owner", "I", false)
  | 2 => ("TollLedger$Offer", "wants", "I", false)
  | 3 => ("TollLedger$Offer", "w", "I", false)
  | 4 => ("TollLedger$Offer", "gives", "I", false)
  | _ => ("TollLedger$Offer", "g", "I", false)
def ty_OF : Nat → FieldType := fun k => match k with
  | 0 => .int
  | 1 => .int
  | 2 => .int
  | 3 => .int
  | 4 => .int
  | _ => .int
theorem nm_OF : ∀ a, a < 6 → ∀ b, b < 6 → a ≠ b → (T_OF a).2.1 ≠ (T_OF b).2.1 := by decide +kernel
theorem tk_OF : ∀ k, k < 6 → parseFieldDescriptor (T_OF k).2.2.1 = some (ty_OF k) := by decide +kernel
theorem in_OF : ∀ w ∈ u_ws "TollLedger$Offer" T_OF 6, w ∈ BIG := by
  intro w h
  obtain ⟨k, hk, rfl⟩ := List.mem_map.mp h
  have hk := List.mem_range.mp hk
  match k, hk with
  | 0, _ => exact bgA (inT3 33 rfl) rfl
  | 1, _ => exact bgA (inT3 35 rfl) rfl
  | 2, _ => exact bgA (inT3 37 rfl) rfl
  | 3, _ => exact bgA (inT3 39 rfl) rfl
  | 4, _ => exact bgA (inT3 41 rfl) rfl
  | 5, _ => exact bgA (inT3 43 rfl) rfl
  | k + 6, hk => exact absurd hk (by omega)
def T_DP : u_T := fun k => match k with
  | 0 => ("TollLedger$Deposit", "id", "I", false)
  | 1 => ("TollLedger$Deposit", "from", "I", false)
  | 2 => ("TollLedger$Deposit", "to", "I", false)
  | 3 => ("TollLedger$Deposit", "coins", "I", false)
  | 4 => ("TollLedger$Deposit", "after", "I", false)
  | _ => ("TollLedger$Deposit", "until", "I", false)
def ty_DP : Nat → FieldType := fun k => match k with
  | 0 => .int
  | 1 => .int
  | 2 => .int
  | 3 => .int
  | 4 => .int
  | _ => .int
theorem nm_DP : ∀ a, a < 6 → ∀ b, b < 6 → a ≠ b → (T_DP a).2.1 ≠ (T_DP b).2.1 := by decide +kernel
theorem tk_DP : ∀ k, k < 6 → parseFieldDescriptor (T_DP k).2.2.1 = some (ty_DP k) := by decide +kernel
theorem in_DP : ∀ w ∈ u_ws "TollLedger$Deposit" T_DP 6, w ∈ BIG := by
  intro w h
  obtain ⟨k, hk, rfl⟩ := List.mem_map.mp h
  have hk := List.mem_range.mp hk
  match k, hk with
  | 0, _ => exact bgA (inT3 139 rfl) rfl
  | 1, _ => exact bgA (inT3 141 rfl) rfl
  | 2, _ => exact bgA (inT3 143 rfl) rfl
  | 3, _ => exact bgA (inT3 145 rfl) rfl
  | 4, _ => exact bgA (inT3 147 rfl) rfl
  | 5, _ => exact bgA (inT3 149 rfl) rfl
  | k + 6, hk => exact absurd hk (by omega)
def T_AL : u_T := fun k => match k with
  | 0 => ("java/util/AbstractList", "modCount", "I", false)
  | 1 => ("java/util/ArrayList", "elementData", "[Ljava/lang/Object;", false)
  | _ => ("java/util/ArrayList", "size", "I", false)
def ty_AL : Nat → FieldType := fun k => match k with
  | 0 => .int
  | 1 => .array (.object "java/lang/Object")
  | _ => .int
theorem nm_AL : ∀ a, a < 3 → ∀ b, b < 3 → a ≠ b → (T_AL a).2.1 ≠ (T_AL b).2.1 := by decide +kernel
theorem tk_AL : ∀ k, k < 3 → parseFieldDescriptor (T_AL k).2.2.1 = some (ty_AL k) := by decide +kernel
theorem in_AL : ∀ w ∈ u_ws "java/util/ArrayList" T_AL 3, w ∈ BIG := by
  intro w h
  obtain ⟨k, hk, rfl⟩ := List.mem_map.mp h
  have hk := List.mem_range.mp hk
  match k, hk with
  | 0, _ => exact bgA (inT1 81 rfl) rfl
  | 1, _ => exact bgA (inT1 77 rfl) rfl
  | 2, _ => exact bgA (inT1 79 rfl) rfl
  | k + 3, hk => exact absurd hk (by omega)
def T_MD : u_T := fun k => match k with
  | 0 => ("TollLedgerModel", "exists", "[Z", false)
  | 1 => ("TollLedgerModel", "coins", "[I", false)
  | 2 => ("TollLedgerModel", "numbers", "[I", false)
  | 3 => ("TollLedgerModel", "rates", "[I", false)
  | 4 => ("TollLedgerModel", "balances", "[I", false)
  | 5 => ("TollLedgerModel", "limits", "[I", false)
  | 6 => ("TollLedgerModel", "quiets", "[Z", false)
  | 7 => ("TollLedgerModel", "offers", "I", false)
  | 8 => ("TollLedgerModel", "lastOffer", "I", false)
  | 9 => ("TollLedgerModel", "offerId", "[I", false)
  | 10 => ("TollLedgerModel", "ownerOf", "[I", false)
  | 11 => ("TollLedgerModel", "wantsOf", "[I", false)
  | 12 => ("TollLedgerModel", "givesOf", "[I", false)
  | 13 => ("TollLedgerModel", "wOf", "[I", false)
  | 14 => ("TollLedgerModel", "gOf", "[I", false)
  | 15 => ("TollLedgerModel", "deposits", "I", false)
  | 16 => ("TollLedgerModel", "lastDeposit", "I", false)
  | 17 => ("TollLedgerModel", "depositId", "[I", false)
  | 18 => ("TollLedgerModel", "fromOf", "[I", false)
  | 19 => ("TollLedgerModel", "toOf", "[I", false)
  | 20 => ("TollLedgerModel", "heldOf", "[I", false)
  | 21 => ("TollLedgerModel", "afterOf", "[I", false)
  | 22 => ("TollLedgerModel", "untilOf", "[I", false)
  | 23 => ("TollLedgerModel", "me", "I", false)
  | 24 => ("TollLedgerModel", "myNumber", "I", false)
  | 25 => ("TollLedgerModel", "spendAsset", "I", false)
  | 26 => ("TollLedgerModel", "spendMost", "I", false)
  | 27 => ("TollLedgerModel", "partly", "Z", false)
  | 28 => ("TollLedgerModel", "clock", "I", false)
  | 29 => ("TollLedgerModel", "burned", "I", false)
  | 30 => ("TollLedgerModel", "taken", "[I", false)
  | 31 => ("TollLedgerModel", "prices", "[I", false)
  | 32 => ("TollLedgerModel", "seen", "[Z", false)
  | 33 => ("TollLedgerModel", "gone", "[Z", false)
  | 34 => ("TollLedgerModel", "spent", "[J", false)
  | 35 => ("TollLedgerModel", "got", "I", false)
  | 36 => ("TollLedgerModel", "priceSum", "J", false)
  | 37 => ("TollLedgerModel", "costSum", "J", false)
  | _ => ("TollLedgerModel", "inner", "[I", false)
def ty_MD : Nat → FieldType := fun k => match k with
  | 0 => .array .boolean
  | 1 => .array .int
  | 2 => .array .int
  | 3 => .array .int
  | 4 => .array .int
  | 5 => .array .int
  | 6 => .array .boolean
  | 7 => .int
  | 8 => .int
  | 9 => .array .int
  | 10 => .array .int
  | 11 => .array .int
  | 12 => .array .int
  | 13 => .array .int
  | 14 => .array .int
  | 15 => .int
  | 16 => .int
  | 17 => .array .int
  | 18 => .array .int
  | 19 => .array .int
  | 20 => .array .int
  | 21 => .array .int
  | 22 => .array .int
  | 23 => .int
  | 24 => .int
  | 25 => .int
  | 26 => .int
  | 27 => .boolean
  | 28 => .int
  | 29 => .int
  | 30 => .array .int
  | 31 => .array .int
  | 32 => .array .boolean
  | 33 => .array .boolean
  | 34 => .array .long
  | 35 => .int
  | 36 => .long
  | 37 => .long
  | _ => .array .int
theorem nm_MD : ∀ a, a < 39 → ∀ b, b < 39 → a ≠ b → (T_MD a).2.1 ≠ (T_MD b).2.1 := by decide +kernel
theorem tk_MD : ∀ k, k < 39 → parseFieldDescriptor (T_MD k).2.2.1 = some (ty_MD k) := by decide +kernel
theorem in_MD : ∀ w ∈ u_ws "TollLedgerModel" T_MD 39, w ∈ BIG := by
  intro w h
  obtain ⟨k, hk, rfl⟩ := List.mem_map.mp h
  have hk := List.mem_range.mp hk
  match k, hk with
  | 0, _ => exact bgA (inT4 58 rfl) rfl
  | 1, _ => exact bgA (inT4 60 rfl) rfl
  | 2, _ => exact bgA (inT4 62 rfl) rfl
  | 3, _ => exact bgA (inT4 64 rfl) rfl
  | 4, _ => exact bgA (inT4 66 rfl) rfl
  | 5, _ => exact bgA (inT4 68 rfl) rfl
  | 6, _ => exact bgA (inT4 70 rfl) rfl
  | 7, _ => exact bgA (inT4 72 rfl) rfl
  | 8, _ => exact bgA (inT4 74 rfl) rfl
  | 9, _ => exact bgA (inT4 76 rfl) rfl
  | 10, _ => exact bgA (inT4 78 rfl) rfl
  | 11, _ => exact bgA (inT4 80 rfl) rfl
  | 12, _ => exact bgA (inT4 82 rfl) rfl
  | 13, _ => exact bgA (inT4 84 rfl) rfl
  | 14, _ => exact bgA (inT4 86 rfl) rfl
  | 15, _ => exact bgA (inT4 88 rfl) rfl
  | 16, _ => exact bgA (inT4 90 rfl) rfl
  | 17, _ => exact bgA (inT4 92 rfl) rfl
  | 18, _ => exact bgA (inT4 94 rfl) rfl
  | 19, _ => exact bgA (inT4 96 rfl) rfl
  | 20, _ => exact bgA (inT4 98 rfl) rfl
  | 21, _ => exact bgA (inT4 100 rfl) rfl
  | 22, _ => exact bgA (inT4 102 rfl) rfl
  | 23, _ => exact bgA (inT4 104 rfl) rfl
  | 24, _ => exact bgA (inT4 106 rfl) rfl
  | 25, _ => exact bgA (inT4 108 rfl) rfl
  | 26, _ => exact bgA (inT4 110 rfl) rfl
  | 27, _ => exact bgA (inT4 112 rfl) rfl
  | 28, _ => exact bgA (inT4 114 rfl) rfl
  | 29, _ => exact bgA (inT4 116 rfl) rfl
  | 30, _ => exact bgA (inT4 118 rfl) rfl
  | 31, _ => exact bgA (inT4 120 rfl) rfl
  | 32, _ => exact bgA (inT4 122 rfl) rfl
  | 33, _ => exact bgA (inT4 124 rfl) rfl
  | 34, _ => exact bgA (inT4 126 rfl) rfl
  | 35, _ => exact bgA (inT4 128 rfl) rfl
  | 36, _ => exact bgA (inT4 130 rfl) rfl
  | 37, _ => exact bgA (inT4 132 rfl) rfl
  | 38, _ => exact bgA (inT4 134 rfl) rfl
  | k + 39, hk => exact absurd hk (by omega)
abbrev vwCl : List vw_C := [("TollLedger", T_TL, 10), ("TollLedger$State", T_ST, 6), ("TollLedger$Lines", T_LN, 3), ("TollLedger$Book", T_BK, 2), ("TollLedger$Taking", T_TK, 13), ("TollLedger$Leaves", T_LV, 1), ("TollLedger$Account", T_AC, 4), ("TollLedger$Offer", T_OF, 6), ("TollLedger$Deposit", T_DP, 6), ("java/util/ArrayList", T_AL, 3), ("TollLedgerModel", T_MD, 39)]
def SPM : List (String × Nat × MethodName × String) := [("TollLedger$State", 19, ⟨"TollLedger$Lines", "<init>", "()V"⟩, "TollLedger"), ("TollLedger$State", 34, ⟨"TollLedger$Account", "<init>", "()V"⟩, "TollLedger"), ("TollLedger$Taking", 11, ⟨"TollLedger$Book", "<init>", "()V"⟩, "TollLedger"), ("TollLedger", 27, ⟨"TollLedger$Leaves", "<init>", "()V"⟩, "TollLedger"), ("TollLedger$State", 76, ⟨"TollLedger", "issuerOf", "(I)I"⟩, "TollLedger"), ("TollLedger$State", 84, ⟨"TollLedger", "currencyOf", "(I)I"⟩, "TollLedger"), ("TollLedger$State", 109, ⟨"TollLedger$Offer", "<init>", "()V"⟩, "TollLedger"), ("TollLedger$State", 129, ⟨"TollLedger$Deposit", "<init>", "()V"⟩, "TollLedger")]
def SPC : List (String × String) := [("TollLedger$Offer", "TollLedger$Offer"), ("TollLedger$Deposit", "TollLedger$Deposit"), ("TollLedger", "java/lang/Object"), ("TollLedger$State", "java/lang/Object"), ("TollLedger$Lines", "java/lang/Object"), ("TollLedger$Account", "java/lang/Object"), ("TollLedger$Taking", "java/lang/Object"), ("TollLedger$Book", "java/lang/Object"), ("TollLedger$Leaves", "java/lang/Object"), ("TollLedgerModel", "java/lang/Object"), ("TollLedger$Offer", "java/lang/Object"), ("TollLedger$Deposit", "java/lang/Object")]
abbrev b_TL_init : ByteArray := prog_1_method_1_code
abbrev y_TL_init : MethodName := ⟨"TollLedger", "<init>", "()V"⟩
abbrev r_TL_init : Option FieldType := (Option.none : Option FieldType)
theorem wc_TL_init : Cond.code y_TL_init b_TL_init 1 r_TL_init ∈ BIG := bgA (inT1 24 rfl) rfl
abbrev b_OJ_init : ByteArray := object_method_1_code
abbrev y_OJ_init : MethodName := ⟨"java/lang/Object", "<init>", "()V"⟩
abbrev r_OJ_init : Option FieldType := (Option.none : Option FieldType)
theorem wc_OJ_init : Cond.code y_OJ_init b_OJ_init 1 r_OJ_init ∈ BIG := bgA (inT1 27 rfl) rfl
abbrev b_ST_init : ByteArray := prog_8_method_1_code
abbrev y_ST_init : MethodName := ⟨"TollLedger$State", "<init>", "()V"⟩
abbrev r_ST_init : Option FieldType := (Option.none : Option FieldType)
theorem wc_ST_init : Cond.code y_ST_init b_ST_init 2 r_ST_init ∈ BIG := bgA (inT1 32 rfl) rfl
abbrev b_LN_init : ByteArray := prog_6_method_1_code
abbrev y_LN_init : MethodName := ⟨"TollLedger$Lines", "<init>", "()V"⟩
abbrev r_LN_init : Option FieldType := (Option.none : Option FieldType)
theorem wc_LN_init : Cond.code y_LN_init b_LN_init 1 r_LN_init ∈ BIG := bgA (inT1 40 rfl) rfl
abbrev b_AL_init : ByteArray := prog_19_method_2_code
abbrev y_AL_init : MethodName := ⟨"java/util/ArrayList", "<init>", "()V"⟩
abbrev r_AL_init : Option FieldType := (Option.none : Option FieldType)
theorem wc_AL_init : Cond.code y_AL_init b_AL_init 1 r_AL_init ∈ BIG := bgA (inT1 62 rfl) rfl
abbrev b_AB_init : ByteArray := prog_18_method_1_code
abbrev y_AB_init : MethodName := ⟨"java/util/AbstractList", "<init>", "()V"⟩
abbrev r_AB_init : Option FieldType := (Option.none : Option FieldType)
theorem wc_AB_init : Cond.code y_AB_init b_AB_init 1 r_AB_init ∈ BIG := bgA (inT1 65 rfl) rfl
abbrev b_AX_init : ByteArray := prog_17_method_1_code
abbrev y_AX_init : MethodName := ⟨"java/util/AbstractCollection", "<init>", "()V"⟩
abbrev r_AX_init : Option FieldType := (Option.none : Option FieldType)
theorem wc_AX_init : Cond.code y_AX_init b_AX_init 1 r_AX_init ∈ BIG := bgA (inT1 68 rfl) rfl
abbrev b_AC_init : ByteArray := prog_2_method_1_code
abbrev y_AC_init : MethodName := ⟨"TollLedger$Account", "<init>", "()V"⟩
abbrev r_AC_init : Option FieldType := (Option.none : Option FieldType)
theorem wc_AC_init : Cond.code y_AC_init b_AC_init 1 r_AC_init ∈ BIG := bgA (inT1 87 rfl) rfl
abbrev b_TK_init : ByteArray := prog_9_method_1_code
abbrev y_TK_init : MethodName := ⟨"TollLedger$Taking", "<init>", "(LTollLedger$State;)V"⟩
abbrev r_TK_init : Option FieldType := (Option.none : Option FieldType)
theorem wc_TK_init : Cond.code y_TK_init b_TK_init 2 r_TK_init ∈ BIG := bgA (inT1 142 rfl) rfl
abbrev b_BK_init : ByteArray := prog_3_method_1_code
abbrev y_BK_init : MethodName := ⟨"TollLedger$Book", "<init>", "()V"⟩
abbrev r_BK_init : Option FieldType := (Option.none : Option FieldType)
theorem wc_BK_init : Cond.code y_BK_init b_BK_init 1 r_BK_init ∈ BIG := bgA (inT1 148 rfl) rfl
abbrev b_LV_init : ByteArray := prog_5_method_1_code
abbrev y_LV_init : MethodName := ⟨"TollLedger$Leaves", "<init>", "()V"⟩
abbrev r_LV_init : Option FieldType := (Option.none : Option FieldType)
theorem wc_LV_init : Cond.code y_LV_init b_LV_init 1 r_LV_init ∈ BIG := bgA (inT1 211 rfl) rfl
abbrev b_TL_by : ByteArray := prog_1_method_2_code
abbrev y_TL_by : MethodName := ⟨"TollLedger", "by", "(II)Z"⟩
abbrev r_TL_by : Option FieldType := (Option.some FieldType.boolean)
theorem wc_TL_by : Cond.code y_TL_by b_TL_by 3 r_TL_by ∈ BIG := bgA (inT2 12 rfl) rfl
abbrev b_TL_isAccount : ByteArray := prog_1_method_29_code
abbrev y_TL_isAccount : MethodName := ⟨"TollLedger", "isAccount", "(I)Z"⟩
abbrev r_TL_isAccount : Option FieldType := (Option.some FieldType.boolean)
theorem wc_TL_isAccount : Cond.code y_TL_isAccount b_TL_isAccount 1 r_TL_isAccount ∈ BIG := bgA (inT2 15 rfl) rfl
abbrev b_TL_isWithin : ByteArray := prog_1_method_28_code
abbrev y_TL_isWithin : MethodName := ⟨"TollLedger", "isWithin", "(III)Z"⟩
abbrev r_TL_isWithin : Option FieldType := (Option.some FieldType.boolean)
theorem wc_TL_isWithin : Cond.code y_TL_isWithin b_TL_isWithin 3 r_TL_isWithin ∈ BIG := bgA (inT2 18 rfl) rfl
abbrev b_TL_send : ByteArray := prog_1_method_3_code
abbrev y_TL_send : MethodName := ⟨"TollLedger", "send", "(II)I"⟩
abbrev r_TL_send : Option FieldType := (Option.some FieldType.int)
theorem wc_TL_send : Cond.code y_TL_send b_TL_send 5 r_TL_send ∈ BIG := bgA (inT2 22 rfl) rfl
abbrev b_TL_isOther : ByteArray := prog_1_method_27_code
abbrev y_TL_isOther : MethodName := ⟨"TollLedger", "isOther", "(I)Z"⟩
abbrev r_TL_isOther : Option FieldType := (Option.some FieldType.boolean)
theorem wc_TL_isOther : Cond.code y_TL_isOther b_TL_isOther 2 r_TL_isOther ∈ BIG := bgA (inT2 26 rfl) rfl
abbrev b_TL_charge : ByteArray := prog_1_method_22_code
abbrev y_TL_charge : MethodName := ⟨"TollLedger", "charge", "(Z)I"⟩
abbrev r_TL_charge : Option FieldType := (Option.some FieldType.int)
theorem wc_TL_charge : Cond.code y_TL_charge b_TL_charge 3 r_TL_charge ∈ BIG := bgA (inT2 30 rfl) rfl
abbrev b_ST_fundsOf : ByteArray := prog_8_method_5_code
abbrev y_ST_fundsOf : MethodName := ⟨"TollLedger$State", "fundsOf", "(II)I"⟩
abbrev r_ST_fundsOf : Option FieldType := (Option.some FieldType.int)
theorem wc_ST_fundsOf : Cond.code y_ST_fundsOf b_ST_fundsOf 4 r_ST_fundsOf ∈ BIG := bgA (inT2 34 rfl) rfl
abbrev b_ST_reserveOf : ByteArray := prog_8_method_3_code
abbrev y_ST_reserveOf : MethodName := ⟨"TollLedger$State", "reserveOf", "(I)I"⟩
abbrev r_ST_reserveOf : Option FieldType := (Option.some FieldType.int)
theorem wc_ST_reserveOf : Cond.code y_ST_reserveOf b_ST_reserveOf 2 r_ST_reserveOf ∈ BIG := bgA (inT2 38 rfl) rfl
abbrev b_ST_piecesOf : ByteArray := prog_8_method_2_code
abbrev y_ST_piecesOf : MethodName := ⟨"TollLedger$State", "piecesOf", "(I)I"⟩
abbrev r_ST_piecesOf : Option FieldType := (Option.some FieldType.int)
theorem wc_ST_piecesOf : Cond.code y_ST_piecesOf b_ST_piecesOf 4 r_ST_piecesOf ∈ BIG := bgA (inT2 42 rfl) rfl
abbrev b_LN_piecesOf : ByteArray := prog_6_method_6_code
abbrev y_LN_piecesOf : MethodName := ⟨"TollLedger$Lines", "piecesOf", "(I)I"⟩
abbrev r_LN_piecesOf : Option FieldType := (Option.some FieldType.int)
theorem wc_LN_piecesOf : Cond.code y_LN_piecesOf b_LN_piecesOf 5 r_LN_piecesOf ∈ BIG := bgA (inT2 46 rfl) rfl
abbrev b_LN_side : ByteArray := prog_6_method_2_code
abbrev y_LN_side : MethodName := ⟨"TollLedger$Lines", "side", "(III)I"⟩
abbrev r_LN_side : Option FieldType := (Option.some FieldType.int)
theorem wc_LN_side : Cond.code y_LN_side b_LN_side 3 r_LN_side ∈ BIG := bgA (inT2 49 rfl) rfl
abbrev b_LN_isPiece : ByteArray := prog_6_method_3_code
abbrev y_LN_isPiece : MethodName := ⟨"TollLedger$Lines", "isPiece", "(I)Z"⟩
abbrev r_LN_isPiece : Option FieldType := (Option.some FieldType.boolean)
theorem wc_LN_isPiece : Cond.code y_LN_isPiece b_LN_isPiece 2 r_LN_isPiece ∈ BIG := bgA (inT2 53 rfl) rfl
abbrev b_AL_size : ByteArray := prog_19_method_8_code
abbrev y_AL_size : MethodName := ⟨"java/util/ArrayList", "size", "()I"⟩
abbrev r_AL_size : Option FieldType := (Option.some FieldType.int)
theorem wc_AL_size : Cond.code y_AL_size b_AL_size 1 r_AL_size ∈ BIG := bgA (inT2 57 rfl) rfl
abbrev b_AL_get : ByteArray := prog_19_method_20_code
abbrev y_AL_get : MethodName := ⟨"java/util/ArrayList", "get", "(I)Ljava/lang/Object;"⟩
abbrev r_AL_get : Option FieldType := (Option.some (FieldType.object "java/lang/Object"))
theorem wc_AL_get : Cond.code y_AL_get b_AL_get 2 r_AL_get ∈ BIG := bgA (inT2 61 rfl) rfl
abbrev b_OB_checkIndex : ByteArray := prog_23_method_17_code
abbrev y_OB_checkIndex : MethodName := ⟨"java/util/Objects", "checkIndex", "(II)I"⟩
abbrev r_OB_checkIndex : Option FieldType := (Option.some FieldType.int)
theorem wc_OB_checkIndex : Cond.code y_OB_checkIndex b_OB_checkIndex 2 r_OB_checkIndex ∈ BIG := bgA (inT2 64 rfl) rfl
abbrev b_PC_checkIndex : ByteArray := prog_27_method_11_code
abbrev y_PC_checkIndex : MethodName := ⟨"jdk/internal/util/Preconditions", "checkIndex", "(IILjava/util/function/BiFunction;)I"⟩
abbrev r_PC_checkIndex : Option FieldType := (Option.some FieldType.int)
theorem wc_PC_checkIndex : Cond.code y_PC_checkIndex b_PC_checkIndex 3 r_PC_checkIndex ∈ BIG := bgA (inT2 67 rfl) rfl
abbrev b_AL_elementData : ByteArray := prog_19_method_18_code
abbrev y_AL_elementData : MethodName := ⟨"java/util/ArrayList", "elementData", "(I)Ljava/lang/Object;"⟩
abbrev r_AL_elementData : Option FieldType := (Option.some (FieldType.object "java/lang/Object"))
theorem wc_AL_elementData : Cond.code y_AL_elementData b_AL_elementData 2 r_AL_elementData ∈ BIG := bgA (inT2 71 rfl) rfl
abbrev b_MT_max : ByteArray := prog_15_method_65_code
abbrev y_MT_max : MethodName := ⟨"java/lang/Math", "max", "(II)I"⟩
abbrev r_MT_max : Option FieldType := (Option.some FieldType.int)
theorem wc_MT_max : Cond.code y_MT_max b_MT_max 2 r_MT_max ∈ BIG := bgA (inT2 76 rfl) rfl
abbrev b_TL_issuerOf : ByteArray := prog_1_method_33_code
abbrev y_TL_issuerOf : MethodName := ⟨"TollLedger", "issuerOf", "(I)I"⟩
abbrev r_TL_issuerOf : Option FieldType := (Option.some FieldType.int)
theorem wc_TL_issuerOf : Cond.code y_TL_issuerOf b_TL_issuerOf 1 r_TL_issuerOf ∈ BIG := bgA (inT2 79 rfl) rfl
abbrev b_TL_currencyOf : ByteArray := prog_1_method_34_code
abbrev y_TL_currencyOf : MethodName := ⟨"TollLedger", "currencyOf", "(I)I"⟩
abbrev r_TL_currencyOf : Option FieldType := (Option.some FieldType.int)
theorem wc_TL_currencyOf : Cond.code y_TL_currencyOf b_TL_currencyOf 1 r_TL_currencyOf ∈ BIG := bgA (inT2 83 rfl) rfl
abbrev b_ST_change : ByteArray := prog_8_method_9_code
abbrev y_ST_change : MethodName := ⟨"TollLedger$State", "change", "(III)V"⟩
abbrev r_ST_change : Option FieldType := (Option.none : Option FieldType)
theorem wc_ST_change : Cond.code y_ST_change b_ST_change 4 r_ST_change ∈ BIG := bgA (inT2 88 rfl) rfl
abbrev b_LN_grow : ByteArray := prog_6_method_5_code
abbrev y_LN_grow : MethodName := ⟨"TollLedger$Lines", "grow", "(IIII)V"⟩
abbrev r_LN_grow : Option FieldType := (Option.none : Option FieldType)
theorem wc_LN_grow : Cond.code y_LN_grow b_LN_grow 5 r_LN_grow ∈ BIG := bgA (inT2 92 rfl) rfl
abbrev b_TL_trust : ByteArray := prog_1_method_4_code
abbrev y_TL_trust : MethodName := ⟨"TollLedger", "trust", "(IIIZ)I"⟩
abbrev r_TL_trust : Option FieldType := (Option.some FieldType.int)
theorem wc_TL_trust : Cond.code y_TL_trust b_TL_trust 8 r_TL_trust ∈ BIG := bgA (inT2 96 rfl) rfl
abbrev b_TL_isCurrency : ByteArray := prog_1_method_31_code
abbrev y_TL_isCurrency : MethodName := ⟨"TollLedger", "isCurrency", "(I)Z"⟩
abbrev r_TL_isCurrency : Option FieldType := (Option.some FieldType.boolean)
theorem wc_TL_isCurrency : Cond.code y_TL_isCurrency b_TL_isCurrency 1 r_TL_isCurrency ∈ BIG := bgA (inT2 99 rfl) rfl
abbrev b_ST_affordsOneMore : ByteArray := prog_8_method_4_code
abbrev y_ST_affordsOneMore : MethodName := ⟨"TollLedger$State", "affordsOneMore", "(II)Z"⟩
abbrev r_ST_affordsOneMore : Option FieldType := (Option.some FieldType.boolean)
theorem wc_ST_affordsOneMore : Cond.code y_ST_affordsOneMore b_ST_affordsOneMore 3 r_ST_affordsOneMore ∈ BIG := bgA (inT2 106 rfl) rfl
abbrev b_TL_rate : ByteArray := prog_1_method_5_code
abbrev y_TL_rate : MethodName := ⟨"TollLedger", "rate", "(I)I"⟩
abbrev r_TL_rate : Option FieldType := (Option.some FieldType.int)
theorem wc_TL_rate : Cond.code y_TL_rate b_TL_rate 3 r_TL_rate ∈ BIG := bgA (inT2 110 rfl) rfl
abbrev b_TL_spend : ByteArray := prog_1_method_6_code
abbrev y_TL_spend : MethodName := ⟨"TollLedger", "spend", "(IIZ)Z"⟩
abbrev r_TL_spend : Option FieldType := (Option.some FieldType.boolean)
theorem wc_TL_spend : Cond.code y_TL_spend b_TL_spend 4 r_TL_spend ∈ BIG := bgA (inT2 114 rfl) rfl
abbrev b_TL_isAsset : ByteArray := prog_1_method_30_code
abbrev y_TL_isAsset : MethodName := ⟨"TollLedger", "isAsset", "(I)Z"⟩
abbrev r_TL_isAsset : Option FieldType := (Option.some FieldType.boolean)
theorem wc_TL_isAsset : Cond.code y_TL_isAsset b_TL_isAsset 1 r_TL_isAsset ∈ BIG := bgA (inT2 117 rfl) rfl
abbrev b_TL_pay : ByteArray := prog_1_method_7_code
abbrev y_TL_pay : MethodName := ⟨"TollLedger", "pay", "(III)I"⟩
abbrev r_TL_pay : Option FieldType := (Option.some FieldType.int)
theorem wc_TL_pay : Cond.code y_TL_pay b_TL_pay 8 r_TL_pay ∈ BIG := bgA (inT2 121 rfl) rfl
abbrev b_TK_open : ByteArray := prog_9_method_2_code
abbrev y_TK_open : MethodName := ⟨"TollLedger$Taking", "open", "(III)V"⟩
abbrev r_TK_open : Option FieldType := (Option.none : Option FieldType)
theorem wc_TK_open : Cond.code y_TK_open b_TK_open 5 r_TK_open ∈ BIG := bgA (inT2 125 rfl) rfl
abbrev b_BK_gather : ByteArray := prog_3_method_2_code
abbrev y_BK_gather : MethodName := ⟨"TollLedger$Book", "gather", "(Ljava/util/ArrayList;III)V"⟩
abbrev r_BK_gather : Option FieldType := (Option.none : Option FieldType)
theorem wc_BK_gather : Cond.code y_BK_gather b_BK_gather 7 r_BK_gather ∈ BIG := bgA (inT2 129 rfl) rfl
abbrev b_BK_insert : ByteArray := prog_3_method_3_code
abbrev y_BK_insert : MethodName := ⟨"TollLedger$Book", "insert", "(LTollLedger$Offer;)V"⟩
abbrev r_BK_insert : Option FieldType := (Option.none : Option FieldType)
theorem wc_BK_insert : Cond.code y_BK_insert b_BK_insert 3 r_BK_insert ∈ BIG := bgA (inT2 135 rfl) rfl
abbrev b_OF_isBetterThan : ByteArray := prog_7_method_2_code
abbrev y_OF_isBetterThan : MethodName := ⟨"TollLedger$Offer", "isBetterThan", "(LTollLedger$Offer;)Z"⟩
abbrev r_OF_isBetterThan : Option FieldType := (Option.some FieldType.boolean)
theorem wc_OF_isBetterThan : Cond.code y_OF_isBetterThan b_OF_isBetterThan 2 r_OF_isBetterThan ∈ BIG := bgA (inT2 139 rfl) rfl
abbrev b_MT_min : ByteArray := prog_15_method_69_code
abbrev y_MT_min : MethodName := ⟨"java/lang/Math", "min", "(II)I"⟩
abbrev r_MT_min : Option FieldType := (Option.some FieldType.int)
theorem wc_MT_min : Cond.code y_MT_min b_MT_min 2 r_MT_min ∈ BIG := bgA (inT2 143 rfl) rfl
abbrev b_TL_greatestDelivery : ByteArray := prog_1_method_23_code
abbrev y_TL_greatestDelivery : MethodName := ⟨"TollLedger", "greatestDelivery", "(IIII)I"⟩
abbrev r_TL_greatestDelivery : Option FieldType := (Option.some FieldType.int)
theorem wc_TL_greatestDelivery : Cond.code y_TL_greatestDelivery b_TL_greatestDelivery 7 r_TL_greatestDelivery ∈ BIG := bgA (inT2 147 rfl) rfl
abbrev b_TL_spendingFor : ByteArray := prog_1_method_24_code
abbrev y_TL_spendingFor : MethodName := ⟨"TollLedger", "spendingFor", "(IIII)I"⟩
abbrev r_TL_spendingFor : Option FieldType := (Option.some FieldType.int)
theorem wc_TL_spendingFor : Cond.code y_TL_spendingFor b_TL_spendingFor 7 r_TL_spendingFor ∈ BIG := bgA (inT2 151 rfl) rfl
abbrev b_LN_hasRoom : ByteArray := prog_6_method_4_code
abbrev y_LN_hasRoom : MethodName := ⟨"TollLedger$Lines", "hasRoom", "(II)Z"⟩
abbrev r_LN_hasRoom : Option FieldType := (Option.some FieldType.boolean)
theorem wc_LN_hasRoom : Cond.code y_LN_hasRoom b_LN_hasRoom 3 r_LN_hasRoom ∈ BIG := bgA (inT2 157 rfl) rfl
abbrev b_ST_costOf : ByteArray := prog_8_method_7_code
abbrev y_ST_costOf : MethodName := ⟨"TollLedger$State", "costOf", "(IIII)I"⟩
abbrev r_ST_costOf : Option FieldType := (Option.some FieldType.int)
theorem wc_ST_costOf : Cond.code y_ST_costOf b_ST_costOf 7 r_ST_costOf ∈ BIG := bgA (inT2 161 rfl) rfl
abbrev b_ST_tollRate : ByteArray := prog_8_method_6_code
abbrev y_ST_tollRate : MethodName := ⟨"TollLedger$State", "tollRate", "(III)I"⟩
abbrev r_ST_tollRate : Option FieldType := (Option.some FieldType.int)
theorem wc_ST_tollRate : Cond.code y_ST_tollRate b_ST_tollRate 5 r_ST_tollRate ∈ BIG := bgA (inT2 165 rfl) rfl
abbrev b_TL_isHushed : ByteArray := prog_1_method_25_code
abbrev y_TL_isHushed : MethodName := ⟨"TollLedger", "isHushed", "(II)Z"⟩
abbrev r_TL_isHushed : Option FieldType := (Option.some FieldType.boolean)
theorem wc_TL_isHushed : Cond.code y_TL_isHushed b_TL_isHushed 5 r_TL_isHushed ∈ BIG := bgA (inT2 171 rfl) rfl
abbrev b_TK_planAll : ByteArray := prog_9_method_3_code
abbrev y_TK_planAll : MethodName := ⟨"TollLedger$Taking", "planAll", "(I)V"⟩
abbrev r_TK_planAll : Option FieldType := (Option.none : Option FieldType)
theorem wc_TK_planAll : Cond.code y_TK_planAll b_TK_planAll 3 r_TK_planAll ∈ BIG := bgA (inT2 175 rfl) rfl
abbrev b_TK_startPlan : ByteArray := prog_9_method_6_code
abbrev y_TK_startPlan : MethodName := ⟨"TollLedger$Taking", "startPlan", "()V"⟩
abbrev r_TK_startPlan : Option FieldType := (Option.none : Option FieldType)
theorem wc_TK_startPlan : Cond.code y_TK_startPlan b_TK_startPlan 1 r_TK_startPlan ∈ BIG := bgA (inT2 179 rfl) rfl
abbrev b_TK_goThrough : ByteArray := prog_9_method_7_code
abbrev y_TK_goThrough : MethodName := ⟨"TollLedger$Taking", "goThrough", "(II)V"⟩
abbrev r_TK_goThrough : Option FieldType := (Option.none : Option FieldType)
theorem wc_TK_goThrough : Cond.code y_TK_goThrough b_TK_goThrough 7 r_TK_goThrough ∈ BIG := bgA (inT2 186 rfl) rfl
abbrev b_ST_mostMovable : ByteArray := prog_8_method_8_code
abbrev y_ST_mostMovable : MethodName := ⟨"TollLedger$State", "mostMovable", "(IIII)I"⟩
abbrev r_ST_mostMovable : Option FieldType := (Option.some FieldType.int)
theorem wc_ST_mostMovable : Cond.code y_ST_mostMovable b_ST_mostMovable 5 r_ST_mostMovable ∈ BIG := bgA (inT2 190 rfl) rfl
abbrev b_OF_priceOf : ByteArray := prog_7_method_3_code
abbrev y_OF_priceOf : MethodName := ⟨"TollLedger$Offer", "priceOf", "(I)I"⟩
abbrev r_OF_priceOf : Option FieldType := (Option.some FieldType.int)
theorem wc_OF_priceOf : Cond.code y_OF_priceOf b_OF_priceOf 2 r_OF_priceOf ∈ BIG := bgA (inT2 195 rfl) rfl
abbrev b_TK_carryOut : ByteArray := prog_9_method_9_code
abbrev y_TK_carryOut : MethodName := ⟨"TollLedger$Taking", "carryOut", "()V"⟩
abbrev r_TK_carryOut : Option FieldType := (Option.none : Option FieldType)
theorem wc_TK_carryOut : Cond.code y_TK_carryOut b_TK_carryOut 4 r_TK_carryOut ∈ BIG := bgA (inT2 200 rfl) rfl
abbrev b_ST_dropSpentOffers : ByteArray := prog_8_method_14_code
abbrev y_ST_dropSpentOffers : MethodName := ⟨"TollLedger$State", "dropSpentOffers", "()V"⟩
abbrev r_ST_dropSpentOffers : Option FieldType := (Option.none : Option FieldType)
theorem wc_ST_dropSpentOffers : Cond.code y_ST_dropSpentOffers b_ST_dropSpentOffers 2 r_ST_dropSpentOffers ∈ BIG := bgA (inT2 205 rfl) rfl
abbrev b_AL_remove : ByteArray := prog_19_method_29_code
abbrev y_AL_remove : MethodName := ⟨"java/util/ArrayList", "remove", "(I)Ljava/lang/Object;"⟩
abbrev r_AL_remove : Option FieldType := (Option.some (FieldType.object "java/lang/Object"))
theorem wc_AL_remove : Cond.code y_AL_remove b_AL_remove 4 r_AL_remove ∈ BIG := bgA (inT2 209 rfl) rfl
abbrev b_AL_fastRemove : ByteArray := prog_19_method_39_code
abbrev y_AL_fastRemove : MethodName := ⟨"java/util/ArrayList", "fastRemove", "([Ljava/lang/Object;I)V"⟩
abbrev r_AL_fastRemove : Option FieldType := (Option.none : Option FieldType)
theorem wc_AL_fastRemove : Cond.code y_AL_fastRemove b_AL_fastRemove 4 r_AL_fastRemove ∈ BIG := bgA (inT2 213 rfl) rfl
abbrev b_TL_offer : ByteArray := prog_1_method_8_code
abbrev y_TL_offer : MethodName := ⟨"TollLedger", "offer", "(IIIII)I"⟩
abbrev r_TL_offer : Option FieldType := (Option.some FieldType.int)
theorem wc_TL_offer : Cond.code y_TL_offer b_TL_offer 10 r_TL_offer ∈ BIG := bgA (inT2 218 rfl) rfl
abbrev b_TK_planCrossing : ByteArray := prog_9_method_4_code
abbrev y_TK_planCrossing : MethodName := ⟨"TollLedger$Taking", "planCrossing", "(III)V"⟩
abbrev r_TK_planCrossing : Option FieldType := (Option.none : Option FieldType)
theorem wc_TK_planCrossing : Cond.code y_TK_planCrossing b_TK_planCrossing 9 r_TK_planCrossing ∈ BIG := bgA (inT2 222 rfl) rfl
abbrev b_TK_isCrossed : ByteArray := prog_9_method_5_code
abbrev y_TK_isCrossed : MethodName := ⟨"TollLedger$Taking", "isCrossed", "(LTollLedger$Offer;II)Z"⟩
abbrev r_TK_isCrossed : Option FieldType := (Option.some FieldType.boolean)
theorem wc_TK_isCrossed : Cond.code y_TK_isCrossed b_TK_isCrossed 3 r_TK_isCrossed ∈ BIG := bgA (inT2 225 rfl) rfl
abbrev b_OF_mostFor : ByteArray := prog_7_method_4_code
abbrev y_OF_mostFor : MethodName := ⟨"TollLedger$Offer", "mostFor", "(I)J"⟩
abbrev r_OF_mostFor : Option FieldType := (Option.some FieldType.long)
theorem wc_OF_mostFor : Cond.code y_OF_mostFor b_OF_mostFor 2 r_OF_mostFor ∈ BIG := bgA (inT2 229 rfl) rfl
abbrev b_MT_minL : ByteArray := prog_15_method_70_code
abbrev y_MT_minL : MethodName := ⟨"java/lang/Math", "min", "(JJ)J"⟩
abbrev r_MT_minL : Option FieldType := (Option.some FieldType.long)
theorem wc_MT_minL : Cond.code y_MT_minL b_MT_minL 4 r_MT_minL ∈ BIG := bgA (inT2 232 rfl) rfl
abbrev b_TK_countUnfunded : ByteArray := prog_9_method_8_code
abbrev y_TK_countUnfunded : MethodName := ⟨"TollLedger$Taking", "countUnfunded", "()I"⟩
abbrev r_TK_countUnfunded : Option FieldType := (Option.some FieldType.int)
theorem wc_TK_countUnfunded : Cond.code y_TK_countUnfunded b_TK_countUnfunded 3 r_TK_countUnfunded ∈ BIG := bgA (inT2 236 rfl) rfl
abbrev b_TL_canPlace : ByteArray := prog_1_method_26_code
abbrev y_TL_canPlace : MethodName := ⟨"TollLedger", "canPlace", "(I)Z"⟩
abbrev r_TL_canPlace : Option FieldType := (Option.some FieldType.boolean)
theorem wc_TL_canPlace : Cond.code y_TL_canPlace b_TL_canPlace 2 r_TL_canPlace ∈ BIG := bgA (inT3 0 rfl) rfl
abbrev b_ST_addOffer : ByteArray := prog_8_method_12_code
abbrev y_ST_addOffer : MethodName := ⟨"TollLedger$State", "addOffer", "(IIIII)V"⟩
abbrev r_ST_addOffer : Option FieldType := (Option.none : Option FieldType)
theorem wc_ST_addOffer : Cond.code y_ST_addOffer b_ST_addOffer 7 r_ST_addOffer ∈ BIG := bgA (inT3 5 rfl) rfl
abbrev b_OF_init : ByteArray := prog_7_method_1_code
abbrev y_OF_init : MethodName := ⟨"TollLedger$Offer", "<init>", "()V"⟩
abbrev r_OF_init : Option FieldType := (Option.none : Option FieldType)
theorem wc_OF_init : Cond.code y_OF_init b_OF_init 1 r_OF_init ∈ BIG := bgA (inT3 9 rfl) rfl
abbrev b_AL_add : ByteArray := prog_19_method_25_code
abbrev y_AL_add : MethodName := ⟨"java/util/ArrayList", "add", "(Ljava/lang/Object;)Z"⟩
abbrev r_AL_add : Option FieldType := (Option.some FieldType.boolean)
theorem wc_AL_add : Cond.code y_AL_add b_AL_add 2 r_AL_add ∈ BIG := bgA (inT3 49 rfl) rfl
abbrev b_AL_add3 : ByteArray := prog_19_method_24_code
abbrev y_AL_add3 : MethodName := ⟨"java/util/ArrayList", "add", "(Ljava/lang/Object;[Ljava/lang/Object;I)V"⟩
abbrev r_AL_add3 : Option FieldType := (Option.none : Option FieldType)
theorem wc_AL_add3 : Cond.code y_AL_add3 b_AL_add3 4 r_AL_add3 ∈ BIG := bgA (inT3 53 rfl) rfl
abbrev b_AL_grow : ByteArray := prog_19_method_7_code
abbrev y_AL_grow : MethodName := ⟨"java/util/ArrayList", "grow", "()[Ljava/lang/Object;"⟩
abbrev r_AL_grow : Option FieldType := (Option.some (FieldType.array (FieldType.object "java/lang/Object")))
theorem wc_AL_grow : Cond.code y_AL_grow b_AL_grow 1 r_AL_grow ∈ BIG := bgA (inT3 57 rfl) rfl
abbrev b_AL_grow1 : ByteArray := prog_19_method_6_code
abbrev y_AL_grow1 : MethodName := ⟨"java/util/ArrayList", "grow", "(I)[Ljava/lang/Object;"⟩
abbrev r_AL_grow1 : Option FieldType := (Option.some (FieldType.array (FieldType.object "java/lang/Object")))
theorem wc_AL_grow1 : Cond.code y_AL_grow1 b_AL_grow1 4 r_AL_grow1 ∈ BIG := bgA (inT3 61 rfl) rfl
abbrev b_AS_newLength : ByteArray := prog_26_method_27_code
abbrev y_AS_newLength : MethodName := ⟨"jdk/internal/util/ArraysSupport", "newLength", "(III)I"⟩
abbrev r_AS_newLength : Option FieldType := (Option.some FieldType.int)
theorem wc_AS_newLength : Cond.code y_AS_newLength b_AS_newLength 4 r_AS_newLength ∈ BIG := bgA (inT3 64 rfl) rfl
abbrev b_AS_hugeLength : ByteArray := prog_26_method_28_code
abbrev y_AS_hugeLength : MethodName := ⟨"jdk/internal/util/ArraysSupport", "hugeLength", "(II)I"⟩
abbrev r_AS_hugeLength : Option FieldType := (Option.some FieldType.int)
theorem wc_AS_hugeLength : Cond.code y_AS_hugeLength b_AS_hugeLength 3 r_AS_hugeLength ∈ BIG := bgA (inT3 69 rfl) rfl
abbrev b_AR_copyOf : ByteArray := prog_20_method_119_code
abbrev y_AR_copyOf : MethodName := ⟨"java/util/Arrays", "copyOf", "([Ljava/lang/Object;I)[Ljava/lang/Object;"⟩
abbrev r_AR_copyOf : Option FieldType := (Option.some (FieldType.array (FieldType.object "java/lang/Object")))
theorem wc_AR_copyOf : Cond.code y_AR_copyOf b_AR_copyOf 2 r_AR_copyOf ∈ BIG := bgA (inT3 72 rfl) rfl
abbrev b_AR_copyOf3 : ByteArray := prog_20_method_120_code
abbrev y_AR_copyOf3 : MethodName := ⟨"java/util/Arrays", "copyOf", "([Ljava/lang/Object;ILjava/lang/Class;)[Ljava/lang/Object;"⟩
abbrev r_AR_copyOf3 : Option FieldType := (Option.some (FieldType.array (FieldType.object "java/lang/Object")))
theorem wc_AR_copyOf3 : Cond.code y_AR_copyOf3 b_AR_copyOf3 4 r_AR_copyOf3 ∈ BIG := bgA (inT3 90 rfl) rfl
abbrev b_TL_cancel : ByteArray := prog_1_method_9_code
abbrev y_TL_cancel : MethodName := ⟨"TollLedger", "cancel", "(I)I"⟩
abbrev r_TL_cancel : Option FieldType := (Option.some FieldType.int)
theorem wc_TL_cancel : Cond.code y_TL_cancel b_TL_cancel 4 r_TL_cancel ∈ BIG := bgA (inT3 101 rfl) rfl
abbrev b_ST_placeOfOffer : ByteArray := prog_8_method_10_code
abbrev y_ST_placeOfOffer : MethodName := ⟨"TollLedger$State", "placeOfOffer", "(I)I"⟩
abbrev r_ST_placeOfOffer : Option FieldType := (Option.some FieldType.int)
theorem wc_ST_placeOfOffer : Cond.code y_ST_placeOfOffer b_ST_placeOfOffer 3 r_ST_placeOfOffer ∈ BIG := bgA (inT3 105 rfl) rfl
abbrev b_TL_deposit : ByteArray := prog_1_method_10_code
abbrev y_TL_deposit : MethodName := ⟨"TollLedger", "deposit", "(IIII)I"⟩
abbrev r_TL_deposit : Option FieldType := (Option.some FieldType.int)
theorem wc_TL_deposit : Cond.code y_TL_deposit b_TL_deposit 6 r_TL_deposit ∈ BIG := bgA (inT3 112 rfl) rfl
abbrev b_ST_addDeposit : ByteArray := prog_8_method_13_code
abbrev y_ST_addDeposit : MethodName := ⟨"TollLedger$State", "addDeposit", "(IIIII)V"⟩
abbrev r_ST_addDeposit : Option FieldType := (Option.none : Option FieldType)
theorem wc_ST_addDeposit : Cond.code y_ST_addDeposit b_ST_addDeposit 7 r_ST_addDeposit ∈ BIG := bgA (inT3 116 rfl) rfl
abbrev b_DP_init : ByteArray := prog_4_method_1_code
abbrev y_DP_init : MethodName := ⟨"TollLedger$Deposit", "<init>", "()V"⟩
abbrev r_DP_init : Option FieldType := (Option.none : Option FieldType)
theorem wc_DP_init : Cond.code y_DP_init b_DP_init 1 r_DP_init ∈ BIG := bgA (inT3 120 rfl) rfl
abbrev b_TL_settle : ByteArray := prog_1_method_11_code
abbrev y_TL_settle : MethodName := ⟨"TollLedger", "settle", "(I)I"⟩
abbrev r_TL_settle : Option FieldType := (Option.some FieldType.int)
theorem wc_TL_settle : Cond.code y_TL_settle b_TL_settle 5 r_TL_settle ∈ BIG := bgA (inT3 155 rfl) rfl
abbrev b_ST_placeOfDeposit : ByteArray := prog_8_method_11_code
abbrev y_ST_placeOfDeposit : MethodName := ⟨"TollLedger$State", "placeOfDeposit", "(I)I"⟩
abbrev r_ST_placeOfDeposit : Option FieldType := (Option.some FieldType.int)
theorem wc_ST_placeOfDeposit : Cond.code y_ST_placeOfDeposit b_ST_placeOfDeposit 3 r_ST_placeOfDeposit ∈ BIG := bgA (inT3 159 rfl) rfl
abbrev b_TL_tick : ByteArray := prog_1_method_12_code
abbrev y_TL_tick : MethodName := ⟨"TollLedger", "tick", "(I)I"⟩
abbrev r_TL_tick : Option FieldType := (Option.some FieldType.int)
theorem wc_TL_tick : Cond.code y_TL_tick b_TL_tick 2 r_TL_tick ∈ BIG := bgA (inT3 164 rfl) rfl
abbrev b_TL_account : ByteArray := prog_1_method_13_code
abbrev y_TL_account : MethodName := ⟨"TollLedger", "account", "(II)I"⟩
abbrev r_TL_account : Option FieldType := (Option.some FieldType.int)
theorem wc_TL_account : Cond.code y_TL_account b_TL_account 3 r_TL_account ∈ BIG := bgA (inT3 168 rfl) rfl
abbrev b_TL_balance : ByteArray := prog_1_method_14_code
abbrev y_TL_balance : MethodName := ⟨"TollLedger", "balance", "(III)I"⟩
abbrev r_TL_balance : Option FieldType := (Option.some FieldType.int)
theorem wc_TL_balance : Cond.code y_TL_balance b_TL_balance 4 r_TL_balance ∈ BIG := bgA (inT3 173 rfl) rfl
abbrev b_TL_isLine : ByteArray := prog_1_method_32_code
abbrev y_TL_isLine : MethodName := ⟨"TollLedger", "isLine", "(III)Z"⟩
abbrev r_TL_isLine : Option FieldType := (Option.some FieldType.boolean)
theorem wc_TL_isLine : Cond.code y_TL_isLine b_TL_isLine 3 r_TL_isLine ∈ BIG := bgA (inT3 176 rfl) rfl
abbrev b_TL_limit : ByteArray := prog_1_method_15_code
abbrev y_TL_limit : MethodName := ⟨"TollLedger", "limit", "(III)I"⟩
abbrev r_TL_limit : Option FieldType := (Option.some FieldType.int)
theorem wc_TL_limit : Cond.code y_TL_limit b_TL_limit 5 r_TL_limit ∈ BIG := bgA (inT3 180 rfl) rfl
abbrev b_TL_funds : ByteArray := prog_1_method_16_code
abbrev y_TL_funds : MethodName := ⟨"TollLedger", "funds", "(II)I"⟩
abbrev r_TL_funds : Option FieldType := (Option.some FieldType.int)
theorem wc_TL_funds : Cond.code y_TL_funds b_TL_funds 3 r_TL_funds ∈ BIG := bgA (inT3 184 rfl) rfl
abbrev b_TL_book : ByteArray := prog_1_method_17_code
abbrev y_TL_book : MethodName := ⟨"TollLedger", "book", "(III)I"⟩
abbrev r_TL_book : Option FieldType := (Option.some FieldType.int)
theorem wc_TL_book : Cond.code y_TL_book b_TL_book 4 r_TL_book ∈ BIG := bgA (inT3 188 rfl) rfl
abbrev b_TL_offerOf : ByteArray := prog_1_method_18_code
abbrev y_TL_offerOf : MethodName := ⟨"TollLedger", "offerOf", "(II)I"⟩
abbrev r_TL_offerOf : Option FieldType := (Option.some FieldType.int)
theorem wc_TL_offerOf : Cond.code y_TL_offerOf b_TL_offerOf 5 r_TL_offerOf ∈ BIG := bgA (inT3 193 rfl) rfl
abbrev b_TL_depositOf : ByteArray := prog_1_method_19_code
abbrev y_TL_depositOf : MethodName := ⟨"TollLedger", "depositOf", "(I)I"⟩
abbrev r_TL_depositOf : Option FieldType := (Option.some FieldType.int)
theorem wc_TL_depositOf : Cond.code y_TL_depositOf b_TL_depositOf 3 r_TL_depositOf ∈ BIG := bgA (inT3 197 rfl) rfl
abbrev b_TL_burnt : ByteArray := prog_1_method_20_code
abbrev y_TL_burnt : MethodName := ⟨"TollLedger", "burnt", "()I"⟩
abbrev r_TL_burnt : Option FieldType := (Option.some FieldType.int)
theorem wc_TL_burnt : Cond.code y_TL_burnt b_TL_burnt 1 r_TL_burnt ∈ BIG := bgA (inT3 201 rfl) rfl
abbrev b_TL_root : ByteArray := prog_1_method_21_code
abbrev y_TL_root : MethodName := ⟨"TollLedger", "root", "()I"⟩
abbrev r_TL_root : Option FieldType := (Option.some FieldType.int)
theorem wc_TL_root : Cond.code y_TL_root b_TL_root 1 r_TL_root ∈ BIG := bgA (inT3 205 rfl) rfl
abbrev b_LV_fill : ByteArray := prog_5_method_2_code
abbrev y_LV_fill : MethodName := ⟨"TollLedger$Leaves", "fill", "(LTollLedger$State;)V"⟩
abbrev r_LV_fill : Option FieldType := (Option.none : Option FieldType)
theorem wc_LV_fill : Cond.code y_LV_fill b_LV_fill 3 r_LV_fill ∈ BIG := bgA (inT3 209 rfl) rfl
abbrev b_AR_fill : ByteArray := prog_20_method_103_code
abbrev y_AR_fill : MethodName := ⟨"java/util/Arrays", "fill", "([II)V"⟩
abbrev r_AR_fill : Option FieldType := (Option.none : Option FieldType)
theorem wc_AR_fill : Cond.code y_AR_fill b_AR_fill 4 r_AR_fill ∈ BIG := bgA (inT3 212 rfl) rfl
abbrev b_AC_leaf : ByteArray := prog_2_method_2_code
abbrev y_AC_leaf : MethodName := ⟨"TollLedger$Account", "leaf", "()I"⟩
abbrev r_AC_leaf : Option FieldType := (Option.some FieldType.int)
theorem wc_AC_leaf : Cond.code y_AC_leaf b_AC_leaf 1 r_AC_leaf ∈ BIG := bgA (inT3 216 rfl) rfl
abbrev b_LV_fillLines : ByteArray := prog_5_method_3_code
abbrev y_LV_fillLines : MethodName := ⟨"TollLedger$Leaves", "fillLines", "(LTollLedger$Lines;)V"⟩
abbrev r_LV_fillLines : Option FieldType := (Option.none : Option FieldType)
theorem wc_LV_fillLines : Cond.code y_LV_fillLines b_LV_fillLines 5 r_LV_fillLines ∈ BIG := bgA (inT3 221 rfl) rfl
abbrev b_LN_leaf : ByteArray := prog_6_method_7_code
abbrev y_LN_leaf : MethodName := ⟨"TollLedger$Lines", "leaf", "(III)I"⟩
abbrev r_LN_leaf : Option FieldType := (Option.some FieldType.int)
theorem wc_LN_leaf : Cond.code y_LN_leaf b_LN_leaf 6 r_LN_leaf ∈ BIG := bgA (inT3 225 rfl) rfl
abbrev b_OF_leaf : ByteArray := prog_7_method_5_code
abbrev y_OF_leaf : MethodName := ⟨"TollLedger$Offer", "leaf", "()I"⟩
abbrev r_OF_leaf : Option FieldType := (Option.some FieldType.int)
theorem wc_OF_leaf : Cond.code y_OF_leaf b_OF_leaf 1 r_OF_leaf ∈ BIG := bgA (inT3 234 rfl) rfl
abbrev b_DP_leaf : ByteArray := prog_4_method_2_code
abbrev y_DP_leaf : MethodName := ⟨"TollLedger$Deposit", "leaf", "()I"⟩
abbrev r_DP_leaf : Option FieldType := (Option.some FieldType.int)
theorem wc_DP_leaf : Cond.code y_DP_leaf b_DP_leaf 1 r_DP_leaf ∈ BIG := bgA (inT4 0 rfl) rfl
abbrev b_LV_fold : ByteArray := prog_5_method_4_code
abbrev y_LV_fold : MethodName := ⟨"TollLedger$Leaves", "fold", "()I"⟩
abbrev r_LV_fold : Option FieldType := (Option.some FieldType.int)
theorem wc_LV_fold : Cond.code y_LV_fold b_LV_fold 3 r_LV_fold ∈ BIG := bgA (inT4 4 rfl) rfl
abbrev b_LV_inner : ByteArray := prog_5_method_5_code
abbrev y_LV_inner : MethodName := ⟨"TollLedger$Leaves", "inner", "(I)I"⟩
abbrev r_LV_inner : Option FieldType := (Option.some FieldType.int)
theorem wc_LV_inner : Cond.code y_LV_inner b_LV_inner 4 r_LV_inner ∈ BIG := bgA (inT4 8 rfl) rfl
abbrev b_LV_mix : ByteArray := prog_5_method_6_code
abbrev y_LV_mix : MethodName := ⟨"TollLedger$Leaves", "mix", "(II)I"⟩
abbrev r_LV_mix : Option FieldType := (Option.some FieldType.int)
theorem wc_LV_mix : Cond.code y_LV_mix b_LV_mix 3 r_LV_mix ∈ BIG := bgA (inT4 11 rfl) rfl
abbrev b_MD_init : ByteArray := prog_11_method_1_code
abbrev y_MD_init : MethodName := ⟨"TollLedgerModel", "<init>", "()V"⟩
abbrev r_MD_init : Option FieldType := (Option.none : Option FieldType)
theorem wc_MD_init : Cond.code y_MD_init b_MD_init 1 r_MD_init ∈ BIG := bgA (inT4 16 rfl) rfl
abbrev b_MD_by : ByteArray := prog_11_method_15_code
abbrev y_MD_by : MethodName := ⟨"TollLedgerModel", "by", "(II)Z"⟩
abbrev r_MD_by : Option FieldType := (Option.some FieldType.boolean)
theorem wc_MD_by : Cond.code y_MD_by b_MD_by 3 r_MD_by ∈ BIG := bgA (inT4 141 rfl) rfl
abbrev b_MD_isAccount : ByteArray := prog_11_method_2_code
abbrev y_MD_isAccount : MethodName := ⟨"TollLedgerModel", "isAccount", "(I)Z"⟩
abbrev r_MD_isAccount : Option FieldType := (Option.some FieldType.boolean)
theorem wc_MD_isAccount : Cond.code y_MD_isAccount b_MD_isAccount 1 r_MD_isAccount ∈ BIG := bgA (inT4 144 rfl) rfl
abbrev b_MD_spend : ByteArray := prog_11_method_16_code
abbrev y_MD_spend : MethodName := ⟨"TollLedgerModel", "spend", "(IIZ)Z"⟩
abbrev r_MD_spend : Option FieldType := (Option.some FieldType.boolean)
theorem wc_MD_spend : Cond.code y_MD_spend b_MD_spend 4 r_MD_spend ∈ BIG := bgA (inT4 148 rfl) rfl
abbrev b_MD_isAsset : ByteArray := prog_11_method_3_code
abbrev y_MD_isAsset : MethodName := ⟨"TollLedgerModel", "isAsset", "(I)Z"⟩
abbrev r_MD_isAsset : Option FieldType := (Option.some FieldType.boolean)
theorem wc_MD_isAsset : Cond.code y_MD_isAsset b_MD_isAsset 1 r_MD_isAsset ∈ BIG := bgA (inT4 151 rfl) rfl
abbrev b_MD_send : ByteArray := prog_11_method_17_code
abbrev y_MD_send : MethodName := ⟨"TollLedgerModel", "send", "(II)I"⟩
abbrev r_MD_send : Option FieldType := (Option.some FieldType.int)
theorem wc_MD_send : Cond.code y_MD_send b_MD_send 4 r_MD_send ∈ BIG := bgA (inT4 155 rfl) rfl
abbrev b_MD_begin : ByteArray := prog_11_method_14_code
abbrev y_MD_begin : MethodName := ⟨"TollLedgerModel", "begin", "(Z)I"⟩
abbrev r_MD_begin : Option FieldType := (Option.some FieldType.int)
theorem wc_MD_begin : Cond.code y_MD_begin b_MD_begin 2 r_MD_begin ∈ BIG := bgA (inT4 159 rfl) rfl
abbrev b_MD_fundsIn : ByteArray := prog_11_method_11_code
abbrev y_MD_fundsIn : MethodName := ⟨"TollLedgerModel", "fundsIn", "(II)I"⟩
abbrev r_MD_fundsIn : Option FieldType := (Option.some FieldType.int)
theorem wc_MD_fundsIn : Cond.code y_MD_fundsIn b_MD_fundsIn 4 r_MD_fundsIn ∈ BIG := bgA (inT4 163 rfl) rfl
abbrev b_MD_issuerOf : ByteArray := prog_11_method_6_code
abbrev y_MD_issuerOf : MethodName := ⟨"TollLedgerModel", "issuerOf", "(I)I"⟩
abbrev r_MD_issuerOf : Option FieldType := (Option.some FieldType.int)
theorem wc_MD_issuerOf : Cond.code y_MD_issuerOf b_MD_issuerOf 1 r_MD_issuerOf ∈ BIG := bgA (inT4 166 rfl) rfl
abbrev b_MD_reserve : ByteArray := prog_11_method_10_code
abbrev y_MD_reserve : MethodName := ⟨"TollLedgerModel", "reserve", "(I)I"⟩
abbrev r_MD_reserve : Option FieldType := (Option.some FieldType.int)
theorem wc_MD_reserve : Cond.code y_MD_reserve b_MD_reserve 2 r_MD_reserve ∈ BIG := bgA (inT4 171 rfl) rfl
abbrev b_MD_pieces : ByteArray := prog_11_method_9_code
abbrev y_MD_pieces : MethodName := ⟨"TollLedgerModel", "pieces", "(I)I"⟩
abbrev r_MD_pieces : Option FieldType := (Option.some FieldType.int)
theorem wc_MD_pieces : Cond.code y_MD_pieces b_MD_pieces 4 r_MD_pieces ∈ BIG := bgA (inT4 175 rfl) rfl
abbrev b_MD_owns : ByteArray := prog_11_method_8_code
abbrev y_MD_owns : MethodName := ⟨"TollLedgerModel", "owns", "(I)Z"⟩
abbrev r_MD_owns : Option FieldType := (Option.some FieldType.boolean)
theorem wc_MD_owns : Cond.code y_MD_owns b_MD_owns 2 r_MD_owns ∈ BIG := bgA (inT4 179 rfl) rfl
abbrev b_MD_holding : ByteArray := prog_11_method_7_code
abbrev y_MD_holding : MethodName := ⟨"TollLedgerModel", "holding", "(II)I"⟩
abbrev r_MD_holding : Option FieldType := (Option.some FieldType.int)
theorem wc_MD_holding : Cond.code y_MD_holding b_MD_holding 4 r_MD_holding ∈ BIG := bgA (inT4 182 rfl) rfl
abbrev b_MD_currencyOf : ByteArray := prog_11_method_5_code
abbrev y_MD_currencyOf : MethodName := ⟨"TollLedgerModel", "currencyOf", "(I)I"⟩
abbrev r_MD_currencyOf : Option FieldType := (Option.some FieldType.int)
theorem wc_MD_currencyOf : Cond.code y_MD_currencyOf b_MD_currencyOf 1 r_MD_currencyOf ∈ BIG := bgA (inT4 185 rfl) rfl
abbrev b_MD_line : ByteArray := prog_11_method_4_code
abbrev y_MD_line : MethodName := ⟨"TollLedgerModel", "line", "(III)I"⟩
abbrev r_MD_line : Option FieldType := (Option.some FieldType.int)
theorem wc_MD_line : Cond.code y_MD_line b_MD_line 3 r_MD_line ∈ BIG := bgA (inT4 188 rfl) rfl
abbrev b_MD_trust : ByteArray := prog_11_method_18_code
abbrev y_MD_trust : MethodName := ⟨"TollLedgerModel", "trust", "(IIIZ)I"⟩
abbrev r_MD_trust : Option FieldType := (Option.some FieldType.int)
theorem wc_MD_trust : Cond.code y_MD_trust b_MD_trust 9 r_MD_trust ∈ BIG := bgA (inT4 192 rfl) rfl
abbrev b_MD_rate : ByteArray := prog_11_method_19_code
abbrev y_MD_rate : MethodName := ⟨"TollLedgerModel", "rate", "(I)I"⟩
abbrev r_MD_rate : Option FieldType := (Option.some FieldType.int)
theorem wc_MD_rate : Cond.code y_MD_rate b_MD_rate 3 r_MD_rate ∈ BIG := bgA (inT4 197 rfl) rfl
abbrev b_MD_pay : ByteArray := prog_11_method_30_code
abbrev y_MD_pay : MethodName := ⟨"TollLedgerModel", "pay", "(III)I"⟩
abbrev r_MD_pay : Option FieldType := (Option.some FieldType.int)
theorem wc_MD_pay : Cond.code y_MD_pay b_MD_pay 9 r_MD_pay ∈ BIG := bgA (inT4 201 rfl) rfl
abbrev b_MD_spending : ByteArray := prog_11_method_29_code
abbrev y_MD_spending : MethodName := ⟨"TollLedgerModel", "spending", "(III)J"⟩
abbrev r_MD_spending : Option FieldType := (Option.some FieldType.long)
theorem wc_MD_spending : Cond.code y_MD_spending b_MD_spending 10 r_MD_spending ∈ BIG := bgA (inT4 205 rfl) rfl
abbrev b_MD_costOf : ByteArray := prog_11_method_12_code
abbrev y_MD_costOf : MethodName := ⟨"TollLedgerModel", "costOf", "(JIII)J"⟩
abbrev r_MD_costOf : Option FieldType := (Option.some FieldType.long)
theorem wc_MD_costOf : Cond.code y_MD_costOf b_MD_costOf 6 r_MD_costOf ∈ BIG := bgA (inT4 210 rfl) rfl
abbrev b_MD_take : ByteArray := prog_11_method_25_code
abbrev y_MD_take : MethodName := ⟨"TollLedgerModel", "take", "(IIIJJJ)V"⟩
abbrev r_MD_take : Option FieldType := (Option.none : Option FieldType)
theorem wc_MD_take : Cond.code y_MD_take b_MD_take 16 r_MD_take ∈ BIG := bgA (inT4 216 rfl) rfl
abbrev b_MD_nextOf : ByteArray := prog_11_method_22_code
abbrev y_MD_nextOf : MethodName := ⟨"TollLedgerModel", "nextOf", "(III)I"⟩
abbrev r_MD_nextOf : Option FieldType := (Option.some FieldType.int)
theorem wc_MD_nextOf : Cond.code y_MD_nextOf b_MD_nextOf 7 r_MD_nextOf ∈ BIG := bgA (inT4 220 rfl) rfl
abbrev b_MD_inBook : ByteArray := prog_11_method_20_code
abbrev y_MD_inBook : MethodName := ⟨"TollLedgerModel", "inBook", "(III)Z"⟩
abbrev r_MD_inBook : Option FieldType := (Option.some FieldType.boolean)
theorem wc_MD_inBook : Cond.code y_MD_inBook b_MD_inBook 4 r_MD_inBook ∈ BIG := bgA (inT4 224 rfl) rfl
abbrev b_MD_ahead : ByteArray := prog_11_method_21_code
abbrev y_MD_ahead : MethodName := ⟨"TollLedgerModel", "ahead", "(II)Z"⟩
abbrev r_MD_ahead : Option FieldType := (Option.some FieldType.boolean)
theorem wc_MD_ahead : Cond.code y_MD_ahead b_MD_ahead 7 r_MD_ahead ∈ BIG := bgA (inT4 228 rfl) rfl
abbrev b_MD_canTake : ByteArray := prog_11_method_24_code
abbrev y_MD_canTake : MethodName := ⟨"TollLedgerModel", "canTake", "(IIIIJJ)Z"⟩
abbrev r_MD_canTake : Option FieldType := (Option.some FieldType.boolean)
theorem wc_MD_canTake : Cond.code y_MD_canTake b_MD_canTake 11 r_MD_canTake ∈ BIG := bgA (inT4 232 rfl) rfl
abbrev b_MD_priceOf : ByteArray := prog_11_method_23_code
abbrev y_MD_priceOf : MethodName := ⟨"TollLedgerModel", "priceOf", "(II)I"⟩
abbrev r_MD_priceOf : Option FieldType := (Option.some FieldType.int)
theorem wc_MD_priceOf : Cond.code y_MD_priceOf b_MD_priceOf 3 r_MD_priceOf ∈ BIG := bgA (inT4 236 rfl) rfl
abbrev b_MD_note : ByteArray := prog_11_method_26_code
abbrev y_MD_note : MethodName := ⟨"TollLedgerModel", "note", "(IIII)V"⟩
abbrev r_MD_note : Option FieldType := (Option.none : Option FieldType)
theorem wc_MD_note : Cond.code y_MD_note b_MD_note 6 r_MD_note ∈ BIG := bgA (inT5 0 rfl) rfl
abbrev b_MD_carryOut : ByteArray := prog_11_method_27_code
abbrev y_MD_carryOut : MethodName := ⟨"TollLedgerModel", "carryOut", "(II)V"⟩
abbrev r_MD_carryOut : Option FieldType := (Option.none : Option FieldType)
theorem wc_MD_carryOut : Cond.code y_MD_carryOut b_MD_carryOut 7 r_MD_carryOut ∈ BIG := bgA (inT5 4 rfl) rfl
abbrev b_MD_change : ByteArray := prog_11_method_13_code
abbrev y_MD_change : MethodName := ⟨"TollLedgerModel", "change", "(IIJ)V"⟩
abbrev r_MD_change : Option FieldType := (Option.none : Option FieldType)
theorem wc_MD_change : Cond.code y_MD_change b_MD_change 7 r_MD_change ∈ BIG := bgA (inT5 8 rfl) rfl
abbrev b_MD_moveOffer : ByteArray := prog_11_method_28_code
abbrev y_MD_moveOffer : MethodName := ⟨"TollLedgerModel", "moveOffer", "(II)V"⟩
abbrev r_MD_moveOffer : Option FieldType := (Option.none : Option FieldType)
theorem wc_MD_moveOffer : Cond.code y_MD_moveOffer b_MD_moveOffer 3 r_MD_moveOffer ∈ BIG := bgA (inT5 12 rfl) rfl
abbrev b_MD_offer : ByteArray := prog_11_method_31_code
abbrev y_MD_offer : MethodName := ⟨"TollLedgerModel", "offer", "(IIIII)I"⟩
abbrev r_MD_offer : Option FieldType := (Option.some FieldType.int)
theorem wc_MD_offer : Cond.code y_MD_offer b_MD_offer 12 r_MD_offer ∈ BIG := bgA (inT5 16 rfl) rfl
abbrev b_MD_place : ByteArray := prog_11_method_32_code
abbrev y_MD_place : MethodName := ⟨"TollLedgerModel", "place", "(IIII)V"⟩
abbrev r_MD_place : Option FieldType := (Option.none : Option FieldType)
theorem wc_MD_place : Cond.code y_MD_place b_MD_place 5 r_MD_place ∈ BIG := bgA (inT5 20 rfl) rfl
abbrev b_MD_cancel : ByteArray := prog_11_method_34_code
abbrev y_MD_cancel : MethodName := ⟨"TollLedgerModel", "cancel", "(I)I"⟩
abbrev r_MD_cancel : Option FieldType := (Option.some FieldType.int)
theorem wc_MD_cancel : Cond.code y_MD_cancel b_MD_cancel 5 r_MD_cancel ∈ BIG := bgA (inT5 24 rfl) rfl
abbrev b_MD_findOffer : ByteArray := prog_11_method_33_code
abbrev y_MD_findOffer : MethodName := ⟨"TollLedgerModel", "findOffer", "(I)I"⟩
abbrev r_MD_findOffer : Option FieldType := (Option.some FieldType.int)
theorem wc_MD_findOffer : Cond.code y_MD_findOffer b_MD_findOffer 4 r_MD_findOffer ∈ BIG := bgA (inT5 28 rfl) rfl
abbrev b_MD_deposit : ByteArray := prog_11_method_35_code
abbrev y_MD_deposit : MethodName := ⟨"TollLedgerModel", "deposit", "(IIII)I"⟩
abbrev r_MD_deposit : Option FieldType := (Option.some FieldType.int)
theorem wc_MD_deposit : Cond.code y_MD_deposit b_MD_deposit 6 r_MD_deposit ∈ BIG := bgA (inT5 32 rfl) rfl
abbrev b_MD_settle : ByteArray := prog_11_method_37_code
abbrev y_MD_settle : MethodName := ⟨"TollLedgerModel", "settle", "(I)I"⟩
abbrev r_MD_settle : Option FieldType := (Option.some FieldType.int)
theorem wc_MD_settle : Cond.code y_MD_settle b_MD_settle 6 r_MD_settle ∈ BIG := bgA (inT5 36 rfl) rfl
abbrev b_MD_findDeposit : ByteArray := prog_11_method_36_code
abbrev y_MD_findDeposit : MethodName := ⟨"TollLedgerModel", "findDeposit", "(I)I"⟩
abbrev r_MD_findDeposit : Option FieldType := (Option.some FieldType.int)
theorem wc_MD_findDeposit : Cond.code y_MD_findDeposit b_MD_findDeposit 4 r_MD_findDeposit ∈ BIG := bgA (inT5 40 rfl) rfl
abbrev b_MD_tick : ByteArray := prog_11_method_38_code
abbrev y_MD_tick : MethodName := ⟨"TollLedgerModel", "tick", "(I)I"⟩
abbrev r_MD_tick : Option FieldType := (Option.some FieldType.int)
theorem wc_MD_tick : Cond.code y_MD_tick b_MD_tick 2 r_MD_tick ∈ BIG := bgA (inT5 44 rfl) rfl
abbrev b_MD_account : ByteArray := prog_11_method_39_code
abbrev y_MD_account : MethodName := ⟨"TollLedgerModel", "account", "(II)I"⟩
abbrev r_MD_account : Option FieldType := (Option.some FieldType.int)
theorem wc_MD_account : Cond.code y_MD_account b_MD_account 3 r_MD_account ∈ BIG := bgA (inT5 48 rfl) rfl
abbrev b_MD_balance : ByteArray := prog_11_method_41_code
abbrev y_MD_balance : MethodName := ⟨"TollLedgerModel", "balance", "(III)I"⟩
abbrev r_MD_balance : Option FieldType := (Option.some FieldType.int)
theorem wc_MD_balance : Cond.code y_MD_balance b_MD_balance 4 r_MD_balance ∈ BIG := bgA (inT5 52 rfl) rfl
abbrev b_MD_isLine : ByteArray := prog_11_method_40_code
abbrev y_MD_isLine : MethodName := ⟨"TollLedgerModel", "isLine", "(III)Z"⟩
abbrev r_MD_isLine : Option FieldType := (Option.some FieldType.boolean)
theorem wc_MD_isLine : Cond.code y_MD_isLine b_MD_isLine 3 r_MD_isLine ∈ BIG := bgA (inT5 55 rfl) rfl
abbrev b_MD_limit : ByteArray := prog_11_method_42_code
abbrev y_MD_limit : MethodName := ⟨"TollLedgerModel", "limit", "(III)I"⟩
abbrev r_MD_limit : Option FieldType := (Option.some FieldType.int)
theorem wc_MD_limit : Cond.code y_MD_limit b_MD_limit 5 r_MD_limit ∈ BIG := bgA (inT5 59 rfl) rfl
abbrev b_MD_funds : ByteArray := prog_11_method_43_code
abbrev y_MD_funds : MethodName := ⟨"TollLedgerModel", "funds", "(II)I"⟩
abbrev r_MD_funds : Option FieldType := (Option.some FieldType.int)
theorem wc_MD_funds : Cond.code y_MD_funds b_MD_funds 3 r_MD_funds ∈ BIG := bgA (inT5 63 rfl) rfl
abbrev b_MD_book : ByteArray := prog_11_method_44_code
abbrev y_MD_book : MethodName := ⟨"TollLedgerModel", "book", "(III)I"⟩
abbrev r_MD_book : Option FieldType := (Option.some FieldType.int)
theorem wc_MD_book : Cond.code y_MD_book b_MD_book 6 r_MD_book ∈ BIG := bgA (inT5 67 rfl) rfl
abbrev b_MD_offerOf : ByteArray := prog_11_method_45_code
abbrev y_MD_offerOf : MethodName := ⟨"TollLedgerModel", "offerOf", "(II)I"⟩
abbrev r_MD_offerOf : Option FieldType := (Option.some FieldType.int)
theorem wc_MD_offerOf : Cond.code y_MD_offerOf b_MD_offerOf 4 r_MD_offerOf ∈ BIG := bgA (inT5 71 rfl) rfl
abbrev b_MD_depositOf : ByteArray := prog_11_method_46_code
abbrev y_MD_depositOf : MethodName := ⟨"TollLedgerModel", "depositOf", "(I)I"⟩
abbrev r_MD_depositOf : Option FieldType := (Option.some FieldType.int)
theorem wc_MD_depositOf : Cond.code y_MD_depositOf b_MD_depositOf 3 r_MD_depositOf ∈ BIG := bgA (inT5 75 rfl) rfl
abbrev b_MD_burnt : ByteArray := prog_11_method_47_code
abbrev y_MD_burnt : MethodName := ⟨"TollLedgerModel", "burnt", "()I"⟩
abbrev r_MD_burnt : Option FieldType := (Option.some FieldType.int)
theorem wc_MD_burnt : Cond.code y_MD_burnt b_MD_burnt 1 r_MD_burnt ∈ BIG := bgA (inT5 79 rfl) rfl
abbrev b_MD_root : ByteArray := prog_11_method_51_code
abbrev y_MD_root : MethodName := ⟨"TollLedgerModel", "root", "()I"⟩
abbrev r_MD_root : Option FieldType := (Option.some FieldType.int)
theorem wc_MD_root : Cond.code y_MD_root b_MD_root 5 r_MD_root ∈ BIG := bgA (inT5 83 rfl) rfl
abbrev b_MD_leaf : ByteArray := prog_11_method_50_code
abbrev y_MD_leaf : MethodName := ⟨"TollLedgerModel", "leaf", "(I)I"⟩
abbrev r_MD_leaf : Option FieldType := (Option.some FieldType.int)
theorem wc_MD_leaf : Cond.code y_MD_leaf b_MD_leaf 3 r_MD_leaf ∈ BIG := bgA (inT5 87 rfl) rfl
abbrev b_MD_lineLeaf : ByteArray := prog_11_method_49_code
abbrev y_MD_lineLeaf : MethodName := ⟨"TollLedgerModel", "lineLeaf", "(I)I"⟩
abbrev r_MD_lineLeaf : Option FieldType := (Option.some FieldType.int)
theorem wc_MD_lineLeaf : Cond.code y_MD_lineLeaf b_MD_lineLeaf 9 r_MD_lineLeaf ∈ BIG := bgA (inT5 92 rfl) rfl
abbrev b_MD_join : ByteArray := prog_11_method_48_code
abbrev y_MD_join : MethodName := ⟨"TollLedgerModel", "join", "(II)I"⟩
abbrev r_MD_join : Option FieldType := (Option.some FieldType.int)
theorem wc_MD_join : Cond.code y_MD_join b_MD_join 3 r_MD_join ∈ BIG := bgA (inT5 98 rfl) rfl
end
section
/-! pure texts: 'none' where the walk may not go -/
def FU : Nat := 1000
def nmI {α : Type} (x : Int32) (f : Int32 → Option α) : Option α := f x
def nmL {α : Type} (x : Int64) (f : Int64 → Option α) : Option α := f x
def nmS {S α : Type} (x : S) (f : S → Option α) : Option α := f x
def bd1 {α β : Type} (x : Option β) (f : β → Option α) : Option α := match x with
  | some z => f z
  | none => none
def bd2 {S α β : Type} (x : Option (β × S)) (f : β → S → Option α) : Option α := match x with
  | some z => f z.1 z.2
  | none => none
theorem o_nmI {α : Type} {x : Int32} {f : Int32 → Option α} {r : α} (h : nmI x f = some r) : ∃ y, y = x ∧ f y = some r := ⟨x, rfl, h⟩
theorem o_nmL {α : Type} {x : Int64} {f : Int64 → Option α} {r : α} (h : nmL x f = some r) : ∃ y, y = x ∧ f y = some r := ⟨x, rfl, h⟩
theorem o_nmS {S α : Type} {x : S} {f : S → Option α} {r : α} (h : nmS x f = some r) : ∃ y, y = x ∧ f y = some r := ⟨x, rfl, h⟩
theorem o_b1 {α β : Type} {x : Option β} {f : β → Option α} {r : α} (h : bd1 x f = some r) : ∃ z, x = some z ∧ f z = some r := by
  cases x with
  | none => exact nomatch h
  | some z => exact ⟨z, rfl, h⟩
theorem o_b2 {S α β : Type} {x : Option (β × S)} {f : β → S → Option α} {r : α} (h : bd2 x f = some r) : ∃ z s, x = some (z, s) ∧ f z s = some r := by
  cases x with
  | none => exact nomatch h
  | some z => exact ⟨z.1, z.2, rfl, h⟩
theorem o_gn {c : Prop} [Decidable c] {α : Type} {x : Option α} {r : α} (h : (if c then none else x) = some r) : ¬ c ∧ x = some r := by
  by_cases hc : c
  · rw [if_pos hc] at h; exact nomatch h
  · rw [if_neg hc] at h; exact ⟨hc, h⟩
theorem o_it {c : Prop} [Decidable c] {α : Type} {x y : Option α} {r : α} (hc : c) (h : (if c then x else y) = some r) : x = some r := by rw [if_pos hc] at h; exact h
theorem o_if {c : Prop} [Decidable c] {α : Type} {x y : Option α} {r : α} (hc : ¬ c) (h : (if c then x else y) = some r) : y = some r := by rw [if_neg hc] at h; exact h
theorem inc_p1 (x : Int32) : x + Int32.ofInt 1 = x + 1 := by rw [show Int32.ofInt 1 = 1 by decide]
theorem inc_p2 (x : Int32) : x + Int32.ofInt 2 = x + 2 := by rw [show Int32.ofInt 2 = 2 by decide]
theorem inc_p6 (x : Int32) : x + Int32.ofInt 6 = x + 6 := by rw [show Int32.ofInt 6 = 6 by decide]
theorem inc_p16 (x : Int32) : x + Int32.ofInt 16 = x + 16 := by rw [show Int32.ofInt 16 = 16 by decide]
theorem inc_m1 (x : Int32) : x + Int32.ofInt (-1) = x + (-1) := by rw [show Int32.ofInt (-1) = -1 by decide]
def imod (x y : Int32) : Int32 := x - x / y * y
def imin (x y : Int32) : Int32 := if y < x then y else x
def imax (x y : Int32) : Int32 := if x < y then y else x
def lmin (x y : Int64) : Int64 := if y < x then y else x
/-! what holds besides the words: links to nest mates' private members, casts, arrays of objects, ArrayList's empty array -/
def SPh (U : State) : Prop := (∀ q ∈ SPM, va_Nw (.methodLinkNest q.1 q.2.1 q.2.2.1 q.2.2.2) U) ∧ (∀ q ∈ SPC, va_Nw (.castable q.1 q.2) U) ∧ va_Dc U ∧ va_AO "TollLedger$Account" U ∧ va_AO "TollLedger$Offer" U ∧ va_AO "java/lang/Object" U ∧ ∃ mi : Nat, va_Mi "[Ljava/lang/Object;" mi U
theorem SPh.warm {s U : State} (hW : s.WarmedH U.vm) (h : SPh s) : SPh U := by
  obtain ⟨h1, h2, h3, h4, h5, h6, mi, h7⟩ := h
  exact ⟨fun q hq => va_Nw.warmM hW (h1 q hq), fun q hq => va_Nw.warmC hW (h2 q hq), h3.moved hW.alike, h4.moved hW.alike, h5.moved hW.alike, h6.moved hW.alike, mi, h7.moved hW.alike⟩
theorem SPh.same {u U : State} (hv : u.vm = U.vm) (h : SPh u) : SPh U := by
  obtain ⟨h1, h2, h3, h4, h5, h6, mi, h7⟩ := h
  have ha : u.vm.Alike U.vm := by rw [← hv]; exact Vm.Alike.refl _
  exact ⟨fun q hq => va_Nw.same rfl hv (h1 q hq), fun q hq => va_Nw.same rfl hv (h2 q hq), h3.moved ha, h4.moved ha, h5.moved ha, h6.moved ha, mi, h7.moved ha⟩
def SZ (eE : Nat) (A : Nat → Prop) (U : State) (H : Heap) : Prop := va_Z "java/util/ArrayList" "DEFAULTCAPACITY_EMPTY_ELEMENTDATA" "[Ljava/lang/Object;" (.ref eE) A U H ∧ va_T (.object "java/lang/Object") eE 0 (fun _ => .null) A U H
theorem SZ.moved {eE : Nat} {A : Nat → Prop} {u U : State} {H : Heap} (hvm : u.vm.Alike U.vm) (h : SZ eE A u H) : SZ eE A U H := ⟨h.1.moved hvm, h.2.moved hvm⟩
theorem SZ.kept {eE : Nat} {A : Nat → Prop} {U : State} {H H1 : Heap} (h : SZ eE A U H) (hq : ∀ a : Nat, a < H.size → ¬ A a → H1[a]? = H[a]?) : SZ eE A U H1 := ⟨h.1.kept hq, h.2.kept hq⟩
theorem SZ.narrow {eE : Nat} {A B : Nat → Prop} {U : State} {H : Heap} (h : SZ eE A U H) (hAB : ∀ q, B q → A q) : SZ eE B U H := ⟨h.1.narrow hAB, h.2.narrow hAB⟩
/-! J: a method's run over an abstract state of any type S, whose cells are wf σ; X holds all that stays the same during the run -/
abbrev JX : Type := Program × Launch × Env × Room × State × MethodId × Array Value × List Frame × Method × Code × (State → Prop) × va_G × (Nat → Prop) × List (ClassId × FieldType)
def JC (X : JX) (l0 : Launch) (D0 : va_G) (tt : List (ClassId × FieldType)) (eE : Nat) (cc : ByteArray) (own : String) (nL : Nat) (Ts : List Cond) (fr lo ce sl : Nat) : Prop := match X with
  | (p, l, _, R, s, m, args, _, _, c, _, D, A, tys) => l = l0 ∧ D = D0 ∧ tys = tt ∧ p.tables.exec = Jvm.exec ∧ c.code = cc ∧ c.maxLocals = nL ∧ s.vm.findClass own = some m.cls ∧ (∀ w ∈ Ts, w.before args s = true) ∧ va_K D vwCl tys s ∧ (∀ q, s.heap.size ≤ q → A q) ∧ R.frames = fr ∧ R.locals = lo ∧ R.cells = ce ∧ R.slots = sl ∧ SPh s ∧ SZ eE A s s.heap
def J {S : Type} (wf : S → va_W) (X : JX) (nL k n : Nat) (σ : S) (pc : Nat) (loc : List (Nat × Value)) (st : List Value) : Prop := match X with
  | (p, l, e, R, s, m, args, below, meth, c, Q, D, A, _) => ∀ (H : Heap) (locs : List Loc) (ls : Array Slot), lv_has ls nL loc → va_P D vwCl (wf σ) H → va_D A (wf σ) → va_S A s.heap H locs → W p l e R s m args below meth c H locs k n Q (F0 m pc ls st)
section JROWS
variable {S : Type} {wf : S → va_W} {X : JX} {l0 : Launch} {D0 : va_G} {tt : List (ClassId × FieldType)} {eE : Nat} {cc : ByteArray} {own : String} {nL : Nat} {Ts : List Cond} {fr lo ce sl k n : Nat} {σ σ' : S} {pc : Nat} {loc loc' : List (Nat × Value)} {st rest : List Value}
theorem j_eq {pc' : Nat} (h : pc = pc') (kk : J wf X nL k n σ pc' loc st) : J wf X nL k n σ pc loc st := h ▸ kk
theorem j_topI {x y : Int32} (h : x = y) (kk : J wf X nL k n σ pc loc (.int x :: rest)) : J wf X nL k n σ pc loc (.int y :: rest) := h ▸ kk
theorem j_topL {x y : Int64} (h : x = y) (kk : J wf X nL k n σ pc loc (.long x :: rest)) : J wf X nL k n σ pc loc (.long y :: rest) := h ▸ kk
theorem j_sub (ks : List Nat) (h : lv_pick loc ks = loc') (kk : J wf X nL k n σ pc loc' st) : J wf X nL k n σ pc loc st := by
  obtain ⟨p, l, e, R, s, m, args, below, meth, c, Q, D, A, tys⟩ := X
  intro H locs ls hl hP hD hS
  exact kk H locs ls (lv_sub hl ks h) hP hD hS
theorem j_widen {k' n' : Nat} (h1 : k ≤ k') (h2 : n ≤ n') (kk : J wf X nL k' n' σ pc loc st) : J wf X nL k n σ pc loc st := by
  obtain ⟨p, l, e, R, s, m, args, below, meth, c, Q, D, A, tys⟩ := X
  intro H locs ls hl hP hD hS
  exact W.widen h1 h2 (kk H locs ls hl hP hD hS)
theorem j_iconst (C : JC X l0 D0 tt eE cc own nL Ts fr lo ce sl) {z : Int} {v : Int32} (hv : Int32.ofInt z = v) (hd : decode cc pc = .ok (.iconst z, 1)) (kk : J wf X nL k n σ (pc + 1) loc (.int v :: rest)) : J wf X nL k n σ pc loc (rest) := by
  obtain ⟨p, l, e, R, s, m, args, below, meth, c, Q, D, A, tys⟩ := X
  obtain ⟨rfl, rfl, rfl, hx, hb, hml, ho, hts, hK, hA, e1, e2, e3, e4, hsp, hsz⟩ := C
  intro H locs ls hl hP hD hS
  exact lv_iconst hx hb hd hv (kk H locs ls hl hP hD hS)
theorem j_bipush (C : JC X l0 D0 tt eE cc own nL Ts fr lo ce sl) {z : Int} {v : Int32} (hv : (Int8.ofInt z).toInt32 = v) (hd : decode cc pc = .ok (.bipush z, 2)) (kk : J wf X nL k n σ (pc + 2) loc (.int v :: rest)) : J wf X nL k n σ pc loc (rest) := by
  obtain ⟨p, l, e, R, s, m, args, below, meth, c, Q, D, A, tys⟩ := X
  obtain ⟨rfl, rfl, rfl, hx, hb, hml, ho, hts, hK, hA, e1, e2, e3, e4, hsp, hsz⟩ := C
  intro H locs ls hl hP hD hS
  exact lv_bipush hx hb hd hv (kk H locs ls hl hP hD hS)
theorem j_sipush (C : JC X l0 D0 tt eE cc own nL Ts fr lo ce sl) {z : Int} {v : Int32} (hv : (Int16.ofInt z).toInt32 = v) (hd : decode cc pc = .ok (.sipush z, 3)) (kk : J wf X nL k n σ (pc + 3) loc (.int v :: rest)) : J wf X nL k n σ pc loc (rest) := by
  obtain ⟨p, l, e, R, s, m, args, below, meth, c, Q, D, A, tys⟩ := X
  obtain ⟨rfl, rfl, rfl, hx, hb, hml, ho, hts, hK, hA, e1, e2, e3, e4, hsp, hsz⟩ := C
  intro H locs ls hl hP hD hS
  exact lv_sipush hx hb hd hv (kk H locs ls hl hP hD hS)
theorem j_lconst (C : JC X l0 D0 tt eE cc own nL Ts fr lo ce sl) {z : Fin 2} {v : Int64} (hv : Int64.ofNat (z : Nat) = v) (hd : decode cc pc = .ok (.lconst z, 1)) (kk : J wf X nL k n σ (pc + 1) loc (.long v :: rest)) : J wf X nL k n σ pc loc (rest) := by
  obtain ⟨p, l, e, R, s, m, args, below, meth, c, Q, D, A, tys⟩ := X
  obtain ⟨rfl, rfl, rfl, hx, hb, hml, ho, hts, hK, hA, e1, e2, e3, e4, hsp, hsz⟩ := C
  intro H locs ls hl hP hD hS
  exact lv_lconst hx hb hd hv (kk H locs ls hl hP hD hS)
theorem j_ldc (C : JC X l0 D0 tt eE cc own nL Ts fr lo ce sl) {ix : Nat} {v : Int32} (hw : Cond.constant own ix v ∈ Ts) (hd : decode cc pc = .ok (.ldc ix, 2)) (kk : J wf X nL k n σ (pc + 2) loc (.int v :: rest)) : J wf X nL k n σ pc loc (rest) := by
  obtain ⟨p, l, e, R, s, m, args, below, meth, c, Q, D, A, tys⟩ := X
  obtain ⟨rfl, rfl, rfl, hx, hb, hml, ho, hts, hK, hA, e1, e2, e3, e4, hsp, hsz⟩ := C
  intro H locs ls hl hP hD hS
  exact lv_ldc hx hb ho (hts _ hw) hd (kk H locs ls hl hP hD hS)
theorem j_ldc2 (C : JC X l0 D0 tt eE cc own nL Ts fr lo ce sl) {ix : Nat} {v : Int64} (hw : Cond.constantLong own ix v ∈ Ts) (hd : decode cc pc = .ok (.ldc2_w ix, 3)) (kk : J wf X nL k n σ (pc + 3) loc (.long v :: rest)) : J wf X nL k n σ pc loc (rest) := by
  obtain ⟨p, l, e, R, s, m, args, below, meth, c, Q, D, A, tys⟩ := X
  obtain ⟨rfl, rfl, rfl, hx, hb, hml, ho, hts, hK, hA, e1, e2, e3, e4, hsp, hsz⟩ := C
  intro H locs ls hl hP hD hS
  exact lv_ldc2 hx hb ho (hts _ hw) hd (kk H locs ls hl hP hD hS)
theorem j_null (C : JC X l0 D0 tt eE cc own nL Ts fr lo ce sl) (hd : decode cc pc = .ok (.aconst_null, 1)) (kk : J wf X nL k n σ (pc + 1) loc (.null :: rest)) : J wf X nL k n σ pc loc (rest) := by
  obtain ⟨p, l, e, R, s, m, args, below, meth, c, Q, D, A, tys⟩ := X
  obtain ⟨rfl, rfl, rfl, hx, hb, hml, ho, hts, hK, hA, e1, e2, e3, e4, hsp, hsz⟩ := C
  intro H locs ls hl hP hD hS
  exact lv_null hx hb hd (kk H locs ls hl hP hD hS)
theorem j_iload_n (C : JC X l0 D0 tt eE cc own nL Ts fr lo ce sl) {j : Fin 4} {i : Nat} {x : Int32} (q : Nat) (hi : (j : Nat) = i) (hq : loc[q]? = some (i, .int x)) (hd : decode cc pc = .ok (.iload_n j, 1)) (kk : J wf X nL k n σ (pc + 1) loc (.int x :: rest)) : J wf X nL k n σ pc loc (rest) := by
  obtain ⟨p, l, e, R, s, m, args, below, meth, c, Q, D, A, tys⟩ := X
  obtain ⟨rfl, rfl, rfl, hx, hb, hml, ho, hts, hK, hA, e1, e2, e3, e4, hsp, hsz⟩ := C
  intro H locs ls hl hP hD hS
  exact lv_iload_n hx hb hd hi (lv_at hl q hq) (kk H locs ls hl hP hD hS)
theorem j_iload (C : JC X l0 D0 tt eE cc own nL Ts fr lo ce sl) {i : Nat} {x : Int32} (q : Nat) (hq : loc[q]? = some (i, .int x)) (hd : decode cc pc = .ok (.iload i, 2)) (kk : J wf X nL k n σ (pc + 2) loc (.int x :: rest)) : J wf X nL k n σ pc loc (rest) := by
  obtain ⟨p, l, e, R, s, m, args, below, meth, c, Q, D, A, tys⟩ := X
  obtain ⟨rfl, rfl, rfl, hx, hb, hml, ho, hts, hK, hA, e1, e2, e3, e4, hsp, hsz⟩ := C
  intro H locs ls hl hP hD hS
  exact lv_iload hx hb hd (lv_at hl q hq) (kk H locs ls hl hP hD hS)
theorem j_lload_n (C : JC X l0 D0 tt eE cc own nL Ts fr lo ce sl) {j : Fin 4} {i : Nat} {x : Int64} (q : Nat) (hi : (j : Nat) = i) (hq : loc[q]? = some (i, .long x)) (hd : decode cc pc = .ok (.lload_n j, 1)) (kk : J wf X nL k n σ (pc + 1) loc (.long x :: rest)) : J wf X nL k n σ pc loc (rest) := by
  obtain ⟨p, l, e, R, s, m, args, below, meth, c, Q, D, A, tys⟩ := X
  obtain ⟨rfl, rfl, rfl, hx, hb, hml, ho, hts, hK, hA, e1, e2, e3, e4, hsp, hsz⟩ := C
  intro H locs ls hl hP hD hS
  exact lv_lload_n hx hb hd hi (lv_at hl q hq) (kk H locs ls hl hP hD hS)
theorem j_lload (C : JC X l0 D0 tt eE cc own nL Ts fr lo ce sl) {i : Nat} {x : Int64} (q : Nat) (hq : loc[q]? = some (i, .long x)) (hd : decode cc pc = .ok (.lload i, 2)) (kk : J wf X nL k n σ (pc + 2) loc (.long x :: rest)) : J wf X nL k n σ pc loc (rest) := by
  obtain ⟨p, l, e, R, s, m, args, below, meth, c, Q, D, A, tys⟩ := X
  obtain ⟨rfl, rfl, rfl, hx, hb, hml, ho, hts, hK, hA, e1, e2, e3, e4, hsp, hsz⟩ := C
  intro H locs ls hl hP hD hS
  exact lv_lload hx hb hd (lv_at hl q hq) (kk H locs ls hl hP hD hS)
theorem j_aload_n (C : JC X l0 D0 tt eE cc own nL Ts fr lo ce sl) {j : Fin 4} {i : Nat} {x : Nat} (q : Nat) (hi : (j : Nat) = i) (hq : loc[q]? = some (i, .ref x)) (hd : decode cc pc = .ok (.aload_n j, 1)) (kk : J wf X nL k n σ (pc + 1) loc (.ref x :: rest)) : J wf X nL k n σ pc loc (rest) := by
  obtain ⟨p, l, e, R, s, m, args, below, meth, c, Q, D, A, tys⟩ := X
  obtain ⟨rfl, rfl, rfl, hx, hb, hml, ho, hts, hK, hA, e1, e2, e3, e4, hsp, hsz⟩ := C
  intro H locs ls hl hP hD hS
  exact lv_aload_n hx hb hd hi (lv_at hl q hq) (kk H locs ls hl hP hD hS)
theorem j_aload (C : JC X l0 D0 tt eE cc own nL Ts fr lo ce sl) {i : Nat} {x : Nat} (q : Nat) (hq : loc[q]? = some (i, .ref x)) (hd : decode cc pc = .ok (.aload i, 2)) (kk : J wf X nL k n σ (pc + 2) loc (.ref x :: rest)) : J wf X nL k n σ pc loc (rest) := by
  obtain ⟨p, l, e, R, s, m, args, below, meth, c, Q, D, A, tys⟩ := X
  obtain ⟨rfl, rfl, rfl, hx, hb, hml, ho, hts, hK, hA, e1, e2, e3, e4, hsp, hsz⟩ := C
  intro H locs ls hl hP hD hS
  exact lv_aload hx hb hd (lv_at hl q hq) (kk H locs ls hl hP hD hS)
theorem j_aload_nN (C : JC X l0 D0 tt eE cc own nL Ts fr lo ce sl) {j : Fin 4} {i : Nat} (q : Nat) (hi : (j : Nat) = i) (hq : loc[q]? = some (i, .null)) (hd : decode cc pc = .ok (.aload_n j, 1)) (kk : J wf X nL k n σ (pc + 1) loc (.null :: rest)) : J wf X nL k n σ pc loc (rest) := by
  obtain ⟨p, l, e, R, s, m, args, below, meth, c, Q, D, A, tys⟩ := X
  obtain ⟨rfl, rfl, rfl, hx, hb, hml, ho, hts, hK, hA, e1, e2, e3, e4, hsp, hsz⟩ := C
  intro H locs ls hl hP hD hS
  exact lv_aload_nN hx hb hd hi (lv_at hl q hq) (kk H locs ls hl hP hD hS)
theorem j_aloadN (C : JC X l0 D0 tt eE cc own nL Ts fr lo ce sl) {i : Nat} (q : Nat) (hq : loc[q]? = some (i, .null)) (hd : decode cc pc = .ok (.aload i, 2)) (kk : J wf X nL k n σ (pc + 2) loc (.null :: rest)) : J wf X nL k n σ pc loc (rest) := by
  obtain ⟨p, l, e, R, s, m, args, below, meth, c, Q, D, A, tys⟩ := X
  obtain ⟨rfl, rfl, rfl, hx, hb, hml, ho, hts, hK, hA, e1, e2, e3, e4, hsp, hsz⟩ := C
  intro H locs ls hl hP hD hS
  exact lv_aloadN hx hb hd (lv_at hl q hq) (kk H locs ls hl hP hD hS)
theorem j_istore_n (C : JC X l0 D0 tt eE cc own nL Ts fr lo ce sl) {j : Fin 4} {i : Nat} {x : Int32} (hi : (j : Nat) = i) (hn : i < nL) (hf : (i, Value.int x) :: loc.filter (fun q => !(q.1 == i) && !(q.1 + 1 == i && q.2.category == 2)) = loc') (hd : decode cc pc = .ok (.istore_n j, 1)) (kk : J wf X nL k n σ (pc + 1) loc' rest) : J wf X nL k n σ pc loc (Value.int x :: rest) := by
  obtain ⟨p, l, e, R, s, m, args, below, meth, c, Q, D, A, tys⟩ := X
  obtain ⟨rfl, rfl, rfl, hx, hb, hml, ho, hts, hK, hA, e1, e2, e3, e4, hsp, hsz⟩ := C
  intro H locs ls hl hP hD hS
  exact lv_istore_n hx hb hd hi hl hn hf (fun ls' h' => kk H locs ls' h' hP hD hS)
theorem j_istore (C : JC X l0 D0 tt eE cc own nL Ts fr lo ce sl) {i : Nat} {x : Int32} (hn : i < nL) (hf : (i, Value.int x) :: loc.filter (fun q => !(q.1 == i) && !(q.1 + 1 == i && q.2.category == 2)) = loc') (hd : decode cc pc = .ok (.istore i, 2)) (kk : J wf X nL k n σ (pc + 2) loc' rest) : J wf X nL k n σ pc loc (Value.int x :: rest) := by
  obtain ⟨p, l, e, R, s, m, args, below, meth, c, Q, D, A, tys⟩ := X
  obtain ⟨rfl, rfl, rfl, hx, hb, hml, ho, hts, hK, hA, e1, e2, e3, e4, hsp, hsz⟩ := C
  intro H locs ls hl hP hD hS
  exact lv_istore hx hb hd hl hn hf (fun ls' h' => kk H locs ls' h' hP hD hS)
theorem j_lstore_n (C : JC X l0 D0 tt eE cc own nL Ts fr lo ce sl) {j : Fin 4} {i : Nat} {x : Int64} (hi : (j : Nat) = i) (hn : i + 1 < nL) (hf : (i, Value.long x) :: loc.filter (fun q => !(q.1 == i) && (!(q.1 == i + 1) && !(q.1 + 1 == i && q.2.category == 2))) = loc') (hd : decode cc pc = .ok (.lstore_n j, 1)) (kk : J wf X nL k n σ (pc + 1) loc' rest) : J wf X nL k n σ pc loc (Value.long x :: rest) := by
  obtain ⟨p, l, e, R, s, m, args, below, meth, c, Q, D, A, tys⟩ := X
  obtain ⟨rfl, rfl, rfl, hx, hb, hml, ho, hts, hK, hA, e1, e2, e3, e4, hsp, hsz⟩ := C
  intro H locs ls hl hP hD hS
  exact lv_lstore_n hx hb hd hi hl hn hf (fun ls' h' => kk H locs ls' h' hP hD hS)
theorem j_lstore (C : JC X l0 D0 tt eE cc own nL Ts fr lo ce sl) {i : Nat} {x : Int64} (hn : i + 1 < nL) (hf : (i, Value.long x) :: loc.filter (fun q => !(q.1 == i) && (!(q.1 == i + 1) && !(q.1 + 1 == i && q.2.category == 2))) = loc') (hd : decode cc pc = .ok (.lstore i, 2)) (kk : J wf X nL k n σ (pc + 2) loc' rest) : J wf X nL k n σ pc loc (Value.long x :: rest) := by
  obtain ⟨p, l, e, R, s, m, args, below, meth, c, Q, D, A, tys⟩ := X
  obtain ⟨rfl, rfl, rfl, hx, hb, hml, ho, hts, hK, hA, e1, e2, e3, e4, hsp, hsz⟩ := C
  intro H locs ls hl hP hD hS
  exact lv_lstore hx hb hd hl hn hf (fun ls' h' => kk H locs ls' h' hP hD hS)
theorem j_astore_n (C : JC X l0 D0 tt eE cc own nL Ts fr lo ce sl) {j : Fin 4} {i : Nat} {x : Nat} (hi : (j : Nat) = i) (hn : i < nL) (hf : (i, Value.ref x) :: loc.filter (fun q => !(q.1 == i) && !(q.1 + 1 == i && q.2.category == 2)) = loc') (hd : decode cc pc = .ok (.astore_n j, 1)) (kk : J wf X nL k n σ (pc + 1) loc' rest) : J wf X nL k n σ pc loc (Value.ref x :: rest) := by
  obtain ⟨p, l, e, R, s, m, args, below, meth, c, Q, D, A, tys⟩ := X
  obtain ⟨rfl, rfl, rfl, hx, hb, hml, ho, hts, hK, hA, e1, e2, e3, e4, hsp, hsz⟩ := C
  intro H locs ls hl hP hD hS
  exact lv_astore_n hx hb hd hi hl hn hf (fun ls' h' => kk H locs ls' h' hP hD hS)
theorem j_astore (C : JC X l0 D0 tt eE cc own nL Ts fr lo ce sl) {i : Nat} {x : Nat} (hn : i < nL) (hf : (i, Value.ref x) :: loc.filter (fun q => !(q.1 == i) && !(q.1 + 1 == i && q.2.category == 2)) = loc') (hd : decode cc pc = .ok (.astore i, 2)) (kk : J wf X nL k n σ (pc + 2) loc' rest) : J wf X nL k n σ pc loc (Value.ref x :: rest) := by
  obtain ⟨p, l, e, R, s, m, args, below, meth, c, Q, D, A, tys⟩ := X
  obtain ⟨rfl, rfl, rfl, hx, hb, hml, ho, hts, hK, hA, e1, e2, e3, e4, hsp, hsz⟩ := C
  intro H locs ls hl hP hD hS
  exact lv_astore hx hb hd hl hn hf (fun ls' h' => kk H locs ls' h' hP hD hS)
theorem j_iinc (C : JC X l0 D0 tt eE cc own nL Ts fr lo ce sl) {i : Nat} {z : Int} {x v : Int32} (q : Nat) (hq : loc[q]? = some (i, .int x)) (hv : x + Int32.ofInt z = v) (hn : i < nL) (hf : (i, Value.int v) :: loc.filter (fun q => !(q.1 == i) && !(q.1 + 1 == i && q.2.category == 2)) = loc') (hd : decode cc pc = .ok (.iinc i z, 3)) (kk : J wf X nL k n σ (pc + 3) loc' rest) : J wf X nL k n σ pc loc rest := by
  obtain ⟨p, l, e, R, s, m, args, below, meth, c, Q, D, A, tys⟩ := X
  obtain ⟨rfl, rfl, rfl, hx, hb, hml, ho, hts, hK, hA, e1, e2, e3, e4, hsp, hsz⟩ := C
  intro H locs ls hl hP hD hS
  exact lv_iinc hx hb hd hl hq hv hn hf (fun ls' h' => kk H locs ls' h' hP hD hS)
theorem j_iadd (C : JC X l0 D0 tt eE cc own nL Ts fr lo ce sl) {x y : Int32} (hd : decode cc pc = .ok (.iadd, 1)) (kk : J wf X nL k n σ (pc + 1) loc (.int (x + y) :: rest)) : J wf X nL k n σ pc loc (.int y :: .int x :: rest) := by
  obtain ⟨p, l, e, R, s, m, args, below, meth, c, Q, D, A, tys⟩ := X
  obtain ⟨rfl, rfl, rfl, hx, hb, hml, ho, hts, hK, hA, e1, e2, e3, e4, hsp, hsz⟩ := C
  intro H locs ls hl hP hD hS
  exact lv_iadd hx hb hd (kk H locs ls hl hP hD hS)
theorem j_isub (C : JC X l0 D0 tt eE cc own nL Ts fr lo ce sl) {x y : Int32} (hd : decode cc pc = .ok (.isub, 1)) (kk : J wf X nL k n σ (pc + 1) loc (.int (x - y) :: rest)) : J wf X nL k n σ pc loc (.int y :: .int x :: rest) := by
  obtain ⟨p, l, e, R, s, m, args, below, meth, c, Q, D, A, tys⟩ := X
  obtain ⟨rfl, rfl, rfl, hx, hb, hml, ho, hts, hK, hA, e1, e2, e3, e4, hsp, hsz⟩ := C
  intro H locs ls hl hP hD hS
  exact lv_isub hx hb hd (kk H locs ls hl hP hD hS)
theorem j_imul (C : JC X l0 D0 tt eE cc own nL Ts fr lo ce sl) {x y : Int32} (hd : decode cc pc = .ok (.imul, 1)) (kk : J wf X nL k n σ (pc + 1) loc (.int (x * y) :: rest)) : J wf X nL k n σ pc loc (.int y :: .int x :: rest) := by
  obtain ⟨p, l, e, R, s, m, args, below, meth, c, Q, D, A, tys⟩ := X
  obtain ⟨rfl, rfl, rfl, hx, hb, hml, ho, hts, hK, hA, e1, e2, e3, e4, hsp, hsz⟩ := C
  intro H locs ls hl hP hD hS
  exact lv_imul hx hb hd (kk H locs ls hl hP hD hS)
theorem j_iand (C : JC X l0 D0 tt eE cc own nL Ts fr lo ce sl) {x y : Int32} (hd : decode cc pc = .ok (.iand, 1)) (kk : J wf X nL k n σ (pc + 1) loc (.int (x &&& y) :: rest)) : J wf X nL k n σ pc loc (.int y :: .int x :: rest) := by
  obtain ⟨p, l, e, R, s, m, args, below, meth, c, Q, D, A, tys⟩ := X
  obtain ⟨rfl, rfl, rfl, hx, hb, hml, ho, hts, hK, hA, e1, e2, e3, e4, hsp, hsz⟩ := C
  intro H locs ls hl hP hD hS
  exact lv_iand hx hb hd (kk H locs ls hl hP hD hS)
theorem j_ixor (C : JC X l0 D0 tt eE cc own nL Ts fr lo ce sl) {x y : Int32} (hd : decode cc pc = .ok (.ixor, 1)) (kk : J wf X nL k n σ (pc + 1) loc (.int (x ^^^ y) :: rest)) : J wf X nL k n σ pc loc (.int y :: .int x :: rest) := by
  obtain ⟨p, l, e, R, s, m, args, below, meth, c, Q, D, A, tys⟩ := X
  obtain ⟨rfl, rfl, rfl, hx, hb, hml, ho, hts, hK, hA, e1, e2, e3, e4, hsp, hsz⟩ := C
  intro H locs ls hl hP hD hS
  exact lv_ixor hx hb hd (kk H locs ls hl hP hD hS)
theorem j_ishr (C : JC X l0 D0 tt eE cc own nL Ts fr lo ce sl) {x y : Int32} (hd : decode cc pc = .ok (.ishr, 1)) (kk : J wf X nL k n σ (pc + 1) loc (.int (x >>> (y &&& 31)) :: rest)) : J wf X nL k n σ pc loc (.int y :: .int x :: rest) := by
  obtain ⟨p, l, e, R, s, m, args, below, meth, c, Q, D, A, tys⟩ := X
  obtain ⟨rfl, rfl, rfl, hx, hb, hml, ho, hts, hK, hA, e1, e2, e3, e4, hsp, hsz⟩ := C
  intro H locs ls hl hP hD hS
  exact lv_ishr hx hb hd (kk H locs ls hl hP hD hS)
theorem j_idiv (C : JC X l0 D0 tt eE cc own nL Ts fr lo ce sl) {x y : Int32} (hne : ¬ y = 0) (hd : decode cc pc = .ok (.idiv, 1)) (kk : J wf X nL k n σ (pc + 1) loc (.int (x / y) :: rest)) : J wf X nL k n σ pc loc (.int y :: .int x :: rest) := by
  obtain ⟨p, l, e, R, s, m, args, below, meth, c, Q, D, A, tys⟩ := X
  obtain ⟨rfl, rfl, rfl, hx, hb, hml, ho, hts, hK, hA, e1, e2, e3, e4, hsp, hsz⟩ := C
  intro H locs ls hl hP hD hS
  exact lv_idiv hx hb hd hne (kk H locs ls hl hP hD hS)
theorem j_irem (C : JC X l0 D0 tt eE cc own nL Ts fr lo ce sl) {x y : Int32} (hne : ¬ y = 0) (hd : decode cc pc = .ok (.irem, 1)) (kk : J wf X nL k n σ (pc + 1) loc (.int (imod x y) :: rest)) : J wf X nL k n σ pc loc (.int y :: .int x :: rest) := by
  obtain ⟨p, l, e, R, s, m, args, below, meth, c, Q, D, A, tys⟩ := X
  obtain ⟨rfl, rfl, rfl, hx, hb, hml, ho, hts, hK, hA, e1, e2, e3, e4, hsp, hsz⟩ := C
  intro H locs ls hl hP hD hS
  exact lv_irem hx hb hd hne (kk H locs ls hl hP hD hS)
theorem j_ineg (C : JC X l0 D0 tt eE cc own nL Ts fr lo ce sl) {x : Int32} (hd : decode cc pc = .ok (.ineg, 1)) (kk : J wf X nL k n σ (pc + 1) loc (.int (-x) :: rest)) : J wf X nL k n σ pc loc (.int x :: rest) := by
  obtain ⟨p, l, e, R, s, m, args, below, meth, c, Q, D, A, tys⟩ := X
  obtain ⟨rfl, rfl, rfl, hx, hb, hml, ho, hts, hK, hA, e1, e2, e3, e4, hsp, hsz⟩ := C
  intro H locs ls hl hP hD hS
  exact lv_ineg hx hb hd (kk H locs ls hl hP hD hS)
theorem j_lneg (C : JC X l0 D0 tt eE cc own nL Ts fr lo ce sl) {x : Int64} (hd : decode cc pc = .ok (.lneg, 1)) (kk : J wf X nL k n σ (pc + 1) loc (.long (-x) :: rest)) : J wf X nL k n σ pc loc (.long x :: rest) := by
  obtain ⟨p, l, e, R, s, m, args, below, meth, c, Q, D, A, tys⟩ := X
  obtain ⟨rfl, rfl, rfl, hx, hb, hml, ho, hts, hK, hA, e1, e2, e3, e4, hsp, hsz⟩ := C
  intro H locs ls hl hP hD hS
  exact lv_lneg hx hb hd (kk H locs ls hl hP hD hS)
theorem j_ladd (C : JC X l0 D0 tt eE cc own nL Ts fr lo ce sl) {x y : Int64} (hd : decode cc pc = .ok (.ladd, 1)) (kk : J wf X nL k n σ (pc + 1) loc (.long (x + y) :: rest)) : J wf X nL k n σ pc loc (.long y :: .long x :: rest) := by
  obtain ⟨p, l, e, R, s, m, args, below, meth, c, Q, D, A, tys⟩ := X
  obtain ⟨rfl, rfl, rfl, hx, hb, hml, ho, hts, hK, hA, e1, e2, e3, e4, hsp, hsz⟩ := C
  intro H locs ls hl hP hD hS
  exact lv_ladd hx hb hd (kk H locs ls hl hP hD hS)
theorem j_lsub (C : JC X l0 D0 tt eE cc own nL Ts fr lo ce sl) {x y : Int64} (hd : decode cc pc = .ok (.lsub, 1)) (kk : J wf X nL k n σ (pc + 1) loc (.long (x - y) :: rest)) : J wf X nL k n σ pc loc (.long y :: .long x :: rest) := by
  obtain ⟨p, l, e, R, s, m, args, below, meth, c, Q, D, A, tys⟩ := X
  obtain ⟨rfl, rfl, rfl, hx, hb, hml, ho, hts, hK, hA, e1, e2, e3, e4, hsp, hsz⟩ := C
  intro H locs ls hl hP hD hS
  exact lv_lsub hx hb hd (kk H locs ls hl hP hD hS)
theorem j_lmul (C : JC X l0 D0 tt eE cc own nL Ts fr lo ce sl) {x y : Int64} (hd : decode cc pc = .ok (.lmul, 1)) (kk : J wf X nL k n σ (pc + 1) loc (.long (x * y) :: rest)) : J wf X nL k n σ pc loc (.long y :: .long x :: rest) := by
  obtain ⟨p, l, e, R, s, m, args, below, meth, c, Q, D, A, tys⟩ := X
  obtain ⟨rfl, rfl, rfl, hx, hb, hml, ho, hts, hK, hA, e1, e2, e3, e4, hsp, hsz⟩ := C
  intro H locs ls hl hP hD hS
  exact lv_lmul hx hb hd (kk H locs ls hl hP hD hS)
theorem j_ldiv (C : JC X l0 D0 tt eE cc own nL Ts fr lo ce sl) {x y : Int64} (hne : ¬ y = 0) (hd : decode cc pc = .ok (.ldiv, 1)) (kk : J wf X nL k n σ (pc + 1) loc (.long (x / y) :: rest)) : J wf X nL k n σ pc loc (.long y :: .long x :: rest) := by
  obtain ⟨p, l, e, R, s, m, args, below, meth, c, Q, D, A, tys⟩ := X
  obtain ⟨rfl, rfl, rfl, hx, hb, hml, ho, hts, hK, hA, e1, e2, e3, e4, hsp, hsz⟩ := C
  intro H locs ls hl hP hD hS
  exact lv_ldiv hx hb hd hne (kk H locs ls hl hP hD hS)
theorem j_lcmp (C : JC X l0 D0 tt eE cc own nL Ts fr lo ce sl) {x y : Int64} (hd : decode cc pc = .ok (.lcmp, 1)) (kk : J wf X nL k n σ (pc + 1) loc (.int (lg_cmp x y) :: rest)) : J wf X nL k n σ pc loc (.long y :: .long x :: rest) := by
  obtain ⟨p, l, e, R, s, m, args, below, meth, c, Q, D, A, tys⟩ := X
  obtain ⟨rfl, rfl, rfl, hx, hb, hml, ho, hts, hK, hA, e1, e2, e3, e4, hsp, hsz⟩ := C
  intro H locs ls hl hP hD hS
  exact W.lcmp hx hb hd (kk H locs ls hl hP hD hS)
theorem j_i2l (C : JC X l0 D0 tt eE cc own nL Ts fr lo ce sl) {x : Int32} (hd : decode cc pc = .ok (.i2l, 1)) (kk : J wf X nL k n σ (pc + 1) loc (.long x.toInt64 :: rest)) : J wf X nL k n σ pc loc (.int x :: rest) := by
  obtain ⟨p, l, e, R, s, m, args, below, meth, c, Q, D, A, tys⟩ := X
  obtain ⟨rfl, rfl, rfl, hx, hb, hml, ho, hts, hK, hA, e1, e2, e3, e4, hsp, hsz⟩ := C
  intro H locs ls hl hP hD hS
  exact lv_i2l hx hb hd rfl (kk H locs ls hl hP hD hS)
theorem j_l2i (C : JC X l0 D0 tt eE cc own nL Ts fr lo ce sl) {x : Int64} (hd : decode cc pc = .ok (.l2i, 1)) (kk : J wf X nL k n σ (pc + 1) loc (.int x.toInt32 :: rest)) : J wf X nL k n σ pc loc (.long x :: rest) := by
  obtain ⟨p, l, e, R, s, m, args, below, meth, c, Q, D, A, tys⟩ := X
  obtain ⟨rfl, rfl, rfl, hx, hb, hml, ho, hts, hK, hA, e1, e2, e3, e4, hsp, hsz⟩ := C
  intro H locs ls hl hP hD hS
  exact lv_l2i hx hb hd rfl (kk H locs ls hl hP hD hS)
def ushr (x y : Int32) : Int32 := (x.toUInt32 >>> (y.toUInt32 &&& Int32.toUInt32 31)).toInt32
theorem j_iushr (C : JC X l0 D0 tt eE cc own nL Ts fr lo ce sl) {x y : Int32} (hd : decode cc pc = .ok (.iushr, 1)) (kk : J wf X nL k n σ (pc + 1) loc (.int (ushr x y) :: rest)) : J wf X nL k n σ pc loc (.int y :: .int x :: rest) := by
  obtain ⟨p, l, e, R, s, m, args, below, meth, c, Q, D, A, tys⟩ := X
  obtain ⟨rfl, rfl, rfl, hx, hb, hml, ho, hts, hK, hA, e1, e2, e3, e4, hsp, hsz⟩ := C
  intro H locs ls hl hP hD hS
  exact lv_iushr hx hb hd rfl (kk H locs ls hl hP hD hS)
theorem j_dup (C : JC X l0 D0 tt eE cc own nL Ts fr lo ce sl) {va : Value} (ha : va.category = 1) (hd : decode cc pc = .ok (.dup, 1)) (kk : J wf X nL k n σ (pc + 1) loc (va :: va :: rest)) : J wf X nL k n σ pc loc (va :: rest) := by
  obtain ⟨p, l, e, R, s, m, args, below, meth, c, Q, D, A, tys⟩ := X
  obtain ⟨rfl, rfl, rfl, hx, hb, hml, ho, hts, hK, hA, e1, e2, e3, e4, hsp, hsz⟩ := C
  intro H locs ls hl hP hD hS
  exact lv_dup hx hb hd ha (kk H locs ls hl hP hD hS)
theorem j_pop (C : JC X l0 D0 tt eE cc own nL Ts fr lo ce sl) {va : Value} (ha : va.category = 1) (hd : decode cc pc = .ok (.pop, 1)) (kk : J wf X nL k n σ (pc + 1) loc (rest)) : J wf X nL k n σ pc loc (va :: rest) := by
  obtain ⟨p, l, e, R, s, m, args, below, meth, c, Q, D, A, tys⟩ := X
  obtain ⟨rfl, rfl, rfl, hx, hb, hml, ho, hts, hK, hA, e1, e2, e3, e4, hsp, hsz⟩ := C
  intro H locs ls hl hP hD hS
  exact lv_pop hx hb hd ha (kk H locs ls hl hP hD hS)
theorem j_dup_x1 (C : JC X l0 D0 tt eE cc own nL Ts fr lo ce sl) {va vb : Value} (ha : va.category = 1) (hb2 : vb.category = 1) (hd : decode cc pc = .ok (.dup_x1, 1)) (kk : J wf X nL k n σ (pc + 1) loc (va :: vb :: va :: rest)) : J wf X nL k n σ pc loc (va :: vb :: rest) := by
  obtain ⟨p, l, e, R, s, m, args, below, meth, c, Q, D, A, tys⟩ := X
  obtain ⟨rfl, rfl, rfl, hx, hb, hml, ho, hts, hK, hA, e1, e2, e3, e4, hsp, hsz⟩ := C
  intro H locs ls hl hP hD hS
  exact lv_dup_x1 hx hb hd ha hb2 (kk H locs ls hl hP hD hS)
theorem j_dup_x2 (C : JC X l0 D0 tt eE cc own nL Ts fr lo ce sl) {va vb vc : Value} (ha : va.category = 1) (hb2 : vb.category = 1) (hc2 : vc.category = 1) (hd : decode cc pc = .ok (.dup_x2, 1)) (kk : J wf X nL k n σ (pc + 1) loc (va :: vb :: vc :: va :: rest)) : J wf X nL k n σ pc loc (va :: vb :: vc :: rest) := by
  obtain ⟨p, l, e, R, s, m, args, below, meth, c, Q, D, A, tys⟩ := X
  obtain ⟨rfl, rfl, rfl, hx, hb, hml, ho, hts, hK, hA, e1, e2, e3, e4, hsp, hsz⟩ := C
  intro H locs ls hl hP hD hS
  exact lv_dup_x2 hx hb hd ha hb2 hc2 (kk H locs ls hl hP hD hS)
theorem j_dup2 (C : JC X l0 D0 tt eE cc own nL Ts fr lo ce sl) {va vb : Value} (ha : va.category = 1) (hb2 : vb.category = 1) (hd : decode cc pc = .ok (.dup2, 1)) (kk : J wf X nL k n σ (pc + 1) loc (va :: vb :: va :: vb :: rest)) : J wf X nL k n σ pc loc (va :: vb :: rest) := by
  obtain ⟨p, l, e, R, s, m, args, below, meth, c, Q, D, A, tys⟩ := X
  obtain ⟨rfl, rfl, rfl, hx, hb, hml, ho, hts, hK, hA, e1, e2, e3, e4, hsp, hsz⟩ := C
  intro H locs ls hl hP hD hS
  exact lv_dup2_11 hx hb hd ha hb2 (kk H locs ls hl hP hD hS)
theorem j_dup2_2 (C : JC X l0 D0 tt eE cc own nL Ts fr lo ce sl) {va : Value} (ha : va.category = 2) (hd : decode cc pc = .ok (.dup2, 1)) (kk : J wf X nL k n σ (pc + 1) loc (va :: va :: rest)) : J wf X nL k n σ pc loc (va :: rest) := by
  obtain ⟨p, l, e, R, s, m, args, below, meth, c, Q, D, A, tys⟩ := X
  obtain ⟨rfl, rfl, rfl, hx, hb, hml, ho, hts, hK, hA, e1, e2, e3, e4, hsp, hsz⟩ := C
  intro H locs ls hl hP hD hS
  exact lv_dup2_2 hx hb hd ha (kk H locs ls hl hP hD hS)
theorem j_if_eq (C : JC X l0 D0 tt eE cc own nL Ts fr lo ce sl) {x : Int32} {off : Int} {tgt : Nat} (hd : decode cc pc = .ok (.ifCond .eq off, 3)) (ht : (pc : Int) + off = (tgt : Int)) (kt : x = 0 → J wf X nL k n σ tgt loc rest) (kf : ¬ x = 0 → J wf X nL k n σ (pc + 3) loc rest) : J wf X nL k n σ pc loc (.int x :: rest) := by
  obtain ⟨p, l, e, R, s, m, args, below, meth, c, Q, D, A, tys⟩ := X
  obtain ⟨rfl, rfl, rfl, hx, hb, hml, ho, hts, hK, hA, e1, e2, e3, e4, hsp, hsz⟩ := C
  intro H locs ls hl hP hD hS
  exact lv_if_eq hx hb hd ht (fun h => kt h H locs ls hl hP hD hS) (fun h => kf h H locs ls hl hP hD hS)
theorem j_icmp_eq (C : JC X l0 D0 tt eE cc own nL Ts fr lo ce sl) {x y : Int32} {off : Int} {tgt : Nat} (hd : decode cc pc = .ok (.if_icmp .eq off, 3)) (ht : (pc : Int) + off = (tgt : Int)) (kt : x = y → J wf X nL k n σ tgt loc rest) (kf : ¬ x = y → J wf X nL k n σ (pc + 3) loc rest) : J wf X nL k n σ pc loc (.int y :: .int x :: rest) := by
  obtain ⟨p, l, e, R, s, m, args, below, meth, c, Q, D, A, tys⟩ := X
  obtain ⟨rfl, rfl, rfl, hx, hb, hml, ho, hts, hK, hA, e1, e2, e3, e4, hsp, hsz⟩ := C
  intro H locs ls hl hP hD hS
  exact lv_icmp_eq hx hb hd ht (fun h => kt h H locs ls hl hP hD hS) (fun h => kf h H locs ls hl hP hD hS)
theorem j_if_ne (C : JC X l0 D0 tt eE cc own nL Ts fr lo ce sl) {x : Int32} {off : Int} {tgt : Nat} (hd : decode cc pc = .ok (.ifCond .ne off, 3)) (ht : (pc : Int) + off = (tgt : Int)) (kt : ¬ x = 0 → J wf X nL k n σ tgt loc rest) (kf : x = 0 → J wf X nL k n σ (pc + 3) loc rest) : J wf X nL k n σ pc loc (.int x :: rest) := by
  obtain ⟨p, l, e, R, s, m, args, below, meth, c, Q, D, A, tys⟩ := X
  obtain ⟨rfl, rfl, rfl, hx, hb, hml, ho, hts, hK, hA, e1, e2, e3, e4, hsp, hsz⟩ := C
  intro H locs ls hl hP hD hS
  exact lv_if_ne hx hb hd ht (fun h => kt h H locs ls hl hP hD hS) (fun h => kf h H locs ls hl hP hD hS)
theorem j_icmp_ne (C : JC X l0 D0 tt eE cc own nL Ts fr lo ce sl) {x y : Int32} {off : Int} {tgt : Nat} (hd : decode cc pc = .ok (.if_icmp .ne off, 3)) (ht : (pc : Int) + off = (tgt : Int)) (kt : ¬ x = y → J wf X nL k n σ tgt loc rest) (kf : x = y → J wf X nL k n σ (pc + 3) loc rest) : J wf X nL k n σ pc loc (.int y :: .int x :: rest) := by
  obtain ⟨p, l, e, R, s, m, args, below, meth, c, Q, D, A, tys⟩ := X
  obtain ⟨rfl, rfl, rfl, hx, hb, hml, ho, hts, hK, hA, e1, e2, e3, e4, hsp, hsz⟩ := C
  intro H locs ls hl hP hD hS
  exact lv_icmp_ne hx hb hd ht (fun h => kt h H locs ls hl hP hD hS) (fun h => kf h H locs ls hl hP hD hS)
theorem j_if_lt (C : JC X l0 D0 tt eE cc own nL Ts fr lo ce sl) {x : Int32} {off : Int} {tgt : Nat} (hd : decode cc pc = .ok (.ifCond .lt off, 3)) (ht : (pc : Int) + off = (tgt : Int)) (kt : x < 0 → J wf X nL k n σ tgt loc rest) (kf : ¬ x < 0 → J wf X nL k n σ (pc + 3) loc rest) : J wf X nL k n σ pc loc (.int x :: rest) := by
  obtain ⟨p, l, e, R, s, m, args, below, meth, c, Q, D, A, tys⟩ := X
  obtain ⟨rfl, rfl, rfl, hx, hb, hml, ho, hts, hK, hA, e1, e2, e3, e4, hsp, hsz⟩ := C
  intro H locs ls hl hP hD hS
  exact lv_if_lt hx hb hd ht (fun h => kt h H locs ls hl hP hD hS) (fun h => kf h H locs ls hl hP hD hS)
theorem j_icmp_lt (C : JC X l0 D0 tt eE cc own nL Ts fr lo ce sl) {x y : Int32} {off : Int} {tgt : Nat} (hd : decode cc pc = .ok (.if_icmp .lt off, 3)) (ht : (pc : Int) + off = (tgt : Int)) (kt : x < y → J wf X nL k n σ tgt loc rest) (kf : ¬ x < y → J wf X nL k n σ (pc + 3) loc rest) : J wf X nL k n σ pc loc (.int y :: .int x :: rest) := by
  obtain ⟨p, l, e, R, s, m, args, below, meth, c, Q, D, A, tys⟩ := X
  obtain ⟨rfl, rfl, rfl, hx, hb, hml, ho, hts, hK, hA, e1, e2, e3, e4, hsp, hsz⟩ := C
  intro H locs ls hl hP hD hS
  exact lv_icmp_lt hx hb hd ht (fun h => kt h H locs ls hl hP hD hS) (fun h => kf h H locs ls hl hP hD hS)
theorem j_if_ge (C : JC X l0 D0 tt eE cc own nL Ts fr lo ce sl) {x : Int32} {off : Int} {tgt : Nat} (hd : decode cc pc = .ok (.ifCond .ge off, 3)) (ht : (pc : Int) + off = (tgt : Int)) (kt : 0 ≤ x → J wf X nL k n σ tgt loc rest) (kf : ¬ 0 ≤ x → J wf X nL k n σ (pc + 3) loc rest) : J wf X nL k n σ pc loc (.int x :: rest) := by
  obtain ⟨p, l, e, R, s, m, args, below, meth, c, Q, D, A, tys⟩ := X
  obtain ⟨rfl, rfl, rfl, hx, hb, hml, ho, hts, hK, hA, e1, e2, e3, e4, hsp, hsz⟩ := C
  intro H locs ls hl hP hD hS
  exact lv_if_ge hx hb hd ht (fun h => kt h H locs ls hl hP hD hS) (fun h => kf h H locs ls hl hP hD hS)
theorem j_icmp_ge (C : JC X l0 D0 tt eE cc own nL Ts fr lo ce sl) {x y : Int32} {off : Int} {tgt : Nat} (hd : decode cc pc = .ok (.if_icmp .ge off, 3)) (ht : (pc : Int) + off = (tgt : Int)) (kt : y ≤ x → J wf X nL k n σ tgt loc rest) (kf : ¬ y ≤ x → J wf X nL k n σ (pc + 3) loc rest) : J wf X nL k n σ pc loc (.int y :: .int x :: rest) := by
  obtain ⟨p, l, e, R, s, m, args, below, meth, c, Q, D, A, tys⟩ := X
  obtain ⟨rfl, rfl, rfl, hx, hb, hml, ho, hts, hK, hA, e1, e2, e3, e4, hsp, hsz⟩ := C
  intro H locs ls hl hP hD hS
  exact lv_icmp_ge hx hb hd ht (fun h => kt h H locs ls hl hP hD hS) (fun h => kf h H locs ls hl hP hD hS)
theorem j_if_gt (C : JC X l0 D0 tt eE cc own nL Ts fr lo ce sl) {x : Int32} {off : Int} {tgt : Nat} (hd : decode cc pc = .ok (.ifCond .gt off, 3)) (ht : (pc : Int) + off = (tgt : Int)) (kt : 0 < x → J wf X nL k n σ tgt loc rest) (kf : ¬ 0 < x → J wf X nL k n σ (pc + 3) loc rest) : J wf X nL k n σ pc loc (.int x :: rest) := by
  obtain ⟨p, l, e, R, s, m, args, below, meth, c, Q, D, A, tys⟩ := X
  obtain ⟨rfl, rfl, rfl, hx, hb, hml, ho, hts, hK, hA, e1, e2, e3, e4, hsp, hsz⟩ := C
  intro H locs ls hl hP hD hS
  exact lv_if_gt hx hb hd ht (fun h => kt h H locs ls hl hP hD hS) (fun h => kf h H locs ls hl hP hD hS)
theorem j_icmp_gt (C : JC X l0 D0 tt eE cc own nL Ts fr lo ce sl) {x y : Int32} {off : Int} {tgt : Nat} (hd : decode cc pc = .ok (.if_icmp .gt off, 3)) (ht : (pc : Int) + off = (tgt : Int)) (kt : y < x → J wf X nL k n σ tgt loc rest) (kf : ¬ y < x → J wf X nL k n σ (pc + 3) loc rest) : J wf X nL k n σ pc loc (.int y :: .int x :: rest) := by
  obtain ⟨p, l, e, R, s, m, args, below, meth, c, Q, D, A, tys⟩ := X
  obtain ⟨rfl, rfl, rfl, hx, hb, hml, ho, hts, hK, hA, e1, e2, e3, e4, hsp, hsz⟩ := C
  intro H locs ls hl hP hD hS
  exact lv_icmp_gt hx hb hd ht (fun h => kt h H locs ls hl hP hD hS) (fun h => kf h H locs ls hl hP hD hS)
theorem j_if_le (C : JC X l0 D0 tt eE cc own nL Ts fr lo ce sl) {x : Int32} {off : Int} {tgt : Nat} (hd : decode cc pc = .ok (.ifCond .le off, 3)) (ht : (pc : Int) + off = (tgt : Int)) (kt : x ≤ 0 → J wf X nL k n σ tgt loc rest) (kf : ¬ x ≤ 0 → J wf X nL k n σ (pc + 3) loc rest) : J wf X nL k n σ pc loc (.int x :: rest) := by
  obtain ⟨p, l, e, R, s, m, args, below, meth, c, Q, D, A, tys⟩ := X
  obtain ⟨rfl, rfl, rfl, hx, hb, hml, ho, hts, hK, hA, e1, e2, e3, e4, hsp, hsz⟩ := C
  intro H locs ls hl hP hD hS
  exact lv_if_le hx hb hd ht (fun h => kt h H locs ls hl hP hD hS) (fun h => kf h H locs ls hl hP hD hS)
theorem j_icmp_le (C : JC X l0 D0 tt eE cc own nL Ts fr lo ce sl) {x y : Int32} {off : Int} {tgt : Nat} (hd : decode cc pc = .ok (.if_icmp .le off, 3)) (ht : (pc : Int) + off = (tgt : Int)) (kt : x ≤ y → J wf X nL k n σ tgt loc rest) (kf : ¬ x ≤ y → J wf X nL k n σ (pc + 3) loc rest) : J wf X nL k n σ pc loc (.int y :: .int x :: rest) := by
  obtain ⟨p, l, e, R, s, m, args, below, meth, c, Q, D, A, tys⟩ := X
  obtain ⟨rfl, rfl, rfl, hx, hb, hml, ho, hts, hK, hA, e1, e2, e3, e4, hsp, hsz⟩ := C
  intro H locs ls hl hP hD hS
  exact lv_icmp_le hx hb hd ht (fun h => kt h H locs ls hl hP hD hS) (fun h => kf h H locs ls hl hP hD hS)
theorem j_goto (C : JC X l0 D0 tt eE cc own nL Ts fr lo ce sl) {off : Int} {tgt : Nat} (hd : decode cc pc = .ok (.goto off, 3)) (ht : (pc : Int) + off = (tgt : Int)) (kk : J wf X nL k n σ tgt loc rest) : J wf X nL k n σ pc loc rest := by
  obtain ⟨p, l, e, R, s, m, args, below, meth, c, Q, D, A, tys⟩ := X
  obtain ⟨rfl, rfl, rfl, hx, hb, hml, ho, hts, hK, hA, e1, e2, e3, e4, hsp, hsz⟩ := C
  intro H locs ls hl hP hD hS
  exact lv_goto hx hb hd ht (kk H locs ls hl hP hD hS)
theorem j_tableIn (C : JC X l0 D0 tt eE cc own nL Ts fr lo ce sl) {df a b : Int} {offs : Array Int} {len : Nat} {x : Int32} {off : Int} {tgt : Nat} (hd : decode cc pc = .ok (.tableswitch df a b offs, len)) (h1 : ¬ x.toInt < a) (h2 : ¬ b < x.toInt) (h3 : offs[(x.toInt - a).toNat]? = some off) (ht : (pc : Int) + off = (tgt : Int)) (kk : J wf X nL k n σ tgt loc rest) : J wf X nL k n σ pc loc (.int x :: rest) := by
  obtain ⟨p, l, e, R, s, m, args, below, meth, c, Q, D, A, tys⟩ := X
  obtain ⟨rfl, rfl, rfl, hx, hb, hml, ho, hts, hK, hA, e1, e2, e3, e4, hsp, hsz⟩ := C
  intro H locs ls hl hP hD hS
  exact lv_tableIn hx hb hd h1 h2 h3 ht (kk H locs ls hl hP hD hS)
theorem j_tableOut (C : JC X l0 D0 tt eE cc own nL Ts fr lo ce sl) {df a b : Int} {offs : Array Int} {len : Nat} {x : Int32} {tgt : Nat} (hd : decode cc pc = .ok (.tableswitch df a b offs, len)) (h1 : x.toInt < a ∨ b < x.toInt) (ht : (pc : Int) + df = (tgt : Int)) (kk : J wf X nL k n σ tgt loc rest) : J wf X nL k n σ pc loc (.int x :: rest) := by
  obtain ⟨p, l, e, R, s, m, args, below, meth, c, Q, D, A, tys⟩ := X
  obtain ⟨rfl, rfl, rfl, hx, hb, hml, ho, hts, hK, hA, e1, e2, e3, e4, hsp, hsz⟩ := C
  intro H locs ls hl hP hD hS
  exact lv_tableOut hx hb hd h1 ht (kk H locs ls hl hP hD hS)
end JROWS
/-! contracts over an abstract state -/
def QS {S : Type} (wf : S → va_W) (D : va_G) (tys : List (ClassId × FieldType)) (A : Nat → Prop) (P : Option Value → S → Prop) : Array Value → State → Outcome → State → Prop := fun _ st oc t => (∃ (v : Option Value) (σ' : S), oc = .returned v ∧ P v σ' ∧ va_P D vwCl (wf σ') t.heap ∧ va_K D vwCl tys t ∧ va_D A (wf σ')) ∧ va_F A st t
def PS {S : Type} (wf : S → va_W) (D : va_G) (tys : List (ClassId × FieldType)) (eE sz : Nat) (av : List Value) (σ : S) : Array Value → State → Prop := va_Pc av (fun U => va_P D vwCl (wf σ) U.heap ∧ va_K D vwCl tys U ∧ va_D (fun _ => True) (wf σ) ∧ U.heap.size = sz ∧ SPh U ∧ SZ eE (va_A (wf σ) sz) U U.heap)
def MS {S : Type} (l : Launch) (y : MethodName) (ws : List Cond) (fr lo mc ms : Nat) (wf : S → va_W) (D : va_G) (tys : List (ClassId × FieldType)) (eE : Nat) (av : List Value) (σ : S) (P : Option Value → S → Prop) : Prop := ∀ sz : Nat, Met l y ws { frames := fr, cells := mc, slots := ms, locals := lo } (PS wf D tys eE sz av σ) (QS wf D tys (va_A (wf σ) sz) P) mc ms (va_A (wf σ) sz)
def JR {S : Type} (X : JX) (wf : S → va_W) (mc ms : Nat) (P : Option Value → S → Prop) (ret : Option FieldType) (mn : String) : Prop := match X with
  | (_, _, _, _, s, _, args, below, meth, _, Q, D, A, tys) => Q = MQ below (QS wf D tys A P) args s mc ms A ∧ meth.sig.returnType = ret ∧ meth.locks = false ∧ meth.name = mn
def PI {S : Type} (r : Int32) (σ : S) : Option Value → S → Prop := fun v σ' => v = some (.int r) ∧ σ' = σ
def PL {S : Type} (r : Int64) (σ : S) : Option Value → S → Prop := fun v σ' => v = some (.long r) ∧ σ' = σ
def PA {S : Type} (r : Nat) (σ : S) : Option Value → S → Prop := fun v σ' => v = some (.ref r) ∧ σ' = σ
def PV {S : Type} (σ : S) : Option Value → S → Prop := fun v σ' => v = none ∧ σ' = σ
/-- a cell is read, a cell is written: its place in the world is not named -/
def Rd (w : va_W) (a : Nat) (e : va_E) : Prop := ∃ q : Nat, w[q]? = some (a, e)
def Wr (w : va_W) (a : Nat) (e e' : va_E) (w' : va_W) : Prop := ∀ A : Nat → Prop, va_D A w → ∃ q : Nat, w[q]? = some (a, e) ∧ w.set q (a, e') = w'
theorem MS.of {S : Type} {l : Launch} {y : MethodName} {ws ws' : List Cond} {fr lo mc ms : Nat} {wf : S → va_W} {D : va_G} {tys : List (ClassId × FieldType)} {eE : Nat} {av : List Value} {σ : S} {P : Option Value → S → Prop} {cc : ByteArray} {maxL : Nat} {ret : Option FieldType} {loc : List (Nat × Value)} (hy : plainName y.cls = true) (hw : ws = Cond.code y cc maxL ret :: ws') (hlen : (lg_sl av).length ≤ maxL) (hloc : lv_args 0 av = loc)
    (body : ∀ X : JX, JC X l D tys eE cc y.cls maxL ws fr lo mc ms → JR X wf mc ms P ret y.name → J wf X maxL 0 0 σ 0 loc []) : MS l y ws fr lo mc ms wf D tys eE av σ P := by
  intro sz
  refine Met.ofW hy hw ?_
  intro p e s m args below meth c s₁ B hml hv
  obtain ⟨rfl, hP, hK, hD0, hsz, hsp, hZ⟩ := hv
  subst hsz
  have hJ := body (p, l, e, (headSpec ws { frames := fr, cells := mc, slots := ms, locals := lo }).room, s, m, _, below, meth, c, _, D, va_A (wf σ) s.heap.size, tys) ⟨rfl, rfl, rfl, B.exec, B.bytes, hml, findClass_of_methodNamed B.named, atoms_spec (ws := ws) B.pre, hK, fun q h => Or.inr h, rfl, rfl, rfl, rfl, hsp, hZ⟩ ⟨rfl, B.returns, B.notSynchronized, (name_of_methodNamed B.named B.method).1⟩
  rw [lg_entry_eq]
  subst hloc
  exact hJ s.heap [] _ (lv_entry av hlen) hP hD0.self va_S.rf
section JHEAP
variable {S : Type} {wf : S → va_W} {X : JX} {l0 : Launch} {D0 : va_G} {tt : List (ClassId × FieldType)} {eE : Nat} {cc : ByteArray} {own : String} {nL : Nat} {Ts : List Cond} {fr lo ce sl k n : Nat} {σ σ' : S} {pc : Nat} {loc loc' : List (Nat × Value)} {st rest : List Value}
variable {mc ms : Nat} {P : Option Value → S → Prop} {mn : String}
theorem j_iret (C : JC X l0 D0 tt eE cc own nL Ts fr lo ce sl) (Rt : JR X wf mc ms P (some .int) mn) {v : Int32} (h1 : k ≤ mc) (h2 : n ≤ ms) (hd : decode cc pc = .ok (.ireturn, 1)) (hQ : P (some (.int v)) σ) : J wf X nL k n σ pc loc [.int v] := by
  obtain ⟨p, l, e, R, s, m, args, below, meth, c, Q, D, A, tys⟩ := X
  obtain ⟨rfl, rfl, rfl, hx, hb, hml, ho, hts, hK, hA, e1, e2, e3, e4, hsp, hsz⟩ := C
  intro H locs ls hl hP hD hS
  obtain ⟨rfl, hret, hlk, hmn⟩ := Rt
  exact W.widen h1 h2 (W.iret hx hb hret (fun t ht hW => ⟨⟨_, σ, rfl, hQ, by rw [ht]; exact hP, va_K.moved hW.alike hK, hD⟩, hS.F ht⟩) hS.2.2 hd hlk)
theorem j_lret (C : JC X l0 D0 tt eE cc own nL Ts fr lo ce sl) (Rt : JR X wf mc ms P (some .long) mn) {v : Int64} (h1 : k ≤ mc) (h2 : n ≤ ms) (hd : decode cc pc = .ok (.lreturn, 1)) (hQ : P (some (.long v)) σ) : J wf X nL k n σ pc loc [.long v] := by
  obtain ⟨p, l, e, R, s, m, args, below, meth, c, Q, D, A, tys⟩ := X
  obtain ⟨rfl, rfl, rfl, hx, hb, hml, ho, hts, hK, hA, e1, e2, e3, e4, hsp, hsz⟩ := C
  intro H locs ls hl hP hD hS
  obtain ⟨rfl, hret, hlk, hmn⟩ := Rt
  exact W.widen h1 h2 (W.lret hx hb hret (fun t ht hW => ⟨⟨_, σ, rfl, hQ, by rw [ht]; exact hP, va_K.moved hW.alike hK, hD⟩, hS.F ht⟩) hS.2.2 hd hlk)
theorem j_zret (C : JC X l0 D0 tt eE cc own nL Ts fr lo ce sl) (Rt : JR X wf mc ms P (some .boolean) mn) {v : Int32} (hz : v = 0 ∨ v = 1) (h1 : k ≤ mc) (h2 : n ≤ ms) (hd : decode cc pc = .ok (.ireturn, 1)) (hQ : P (some (.int v)) σ) : J wf X nL k n σ pc loc [.int v] := by
  obtain ⟨p, l, e, R, s, m, args, below, meth, c, Q, D, A, tys⟩ := X
  obtain ⟨rfl, rfl, rfl, hx, hb, hml, ho, hts, hK, hA, e1, e2, e3, e4, hsp, hsz⟩ := C
  intro H locs ls hl hP hD hS
  obtain ⟨rfl, hret, hlk, hmn⟩ := Rt
  exact W.widen h1 h2 (W.zret hx hb hret (by rcases hz with rfl | rfl <;> rfl) (fun t ht hW => ⟨⟨_, σ, rfl, hQ, by rw [ht]; exact hP, va_K.moved hW.alike hK, hD⟩, hS.F ht⟩) hS.2.2 hd hlk)
theorem j_vret (C : JC X l0 D0 tt eE cc own nL Ts fr lo ce sl) (Rt : JR X wf mc ms P none mn) (h1 : k ≤ mc) (h2 : n ≤ ms) (hd : decode cc pc = .ok (.return_, 1)) (hQ : P none σ) : J wf X nL k n σ pc loc [] := by
  obtain ⟨p, l, e, R, s, m, args, below, meth, c, Q, D, A, tys⟩ := X
  obtain ⟨rfl, rfl, rfl, hx, hb, hml, ho, hts, hK, hA, e1, e2, e3, e4, hsp, hsz⟩ := C
  intro H locs ls hl hP hD hS
  obtain ⟨rfl, hret, hlk, hmn⟩ := Rt
  exact W.widen h1 h2 (W.vret hx hb hret (fun t ht hW => ⟨⟨_, σ, rfl, hQ, by rw [ht]; exact hP, va_K.moved hW.alike hK, hD⟩, hS.F ht⟩) hS.2.2 hd hlk)
theorem j_aret (C : JC X l0 D0 tt eE cc own nL Ts fr lo ce sl) {rt : FieldType} (Rt : JR X wf mc ms P (some rt) mn) (hrt : (∃ c, rt = .object c) ∨ ∃ t, rt = .array t) {v : Nat} (h1 : k ≤ mc) (h2 : n ≤ ms) (hd : decode cc pc = .ok (.areturn, 1)) (hQ : P (some (.ref v)) σ) : J wf X nL k n σ pc loc [.ref v] := by
  obtain ⟨p, l, e, R, s, m, args, below, meth, c, Q, D, A, tys⟩ := X
  obtain ⟨rfl, rfl, rfl, hx, hb, hml, ho, hts, hK, hA, e1, e2, e3, e4, hsp, hsz⟩ := C
  intro H locs ls hl hP hD hS
  obtain ⟨rfl, hret, hlk, hmn⟩ := Rt
  exact W.widen h1 h2 (W.aret hx hb hret hrt (Or.inr ⟨v, rfl⟩) (fun t ht hW => ⟨⟨_, σ, rfl, hQ, by rw [ht]; exact hP, va_K.moved hW.alike hK, hD⟩, hS.F ht⟩) hS.2.2 hd hlk)
theorem j_get (C : JC X l0 D0 tt eE cc own nL Ts fr lo ce sl) {a ci ix j N : Nat} {ref Cn : String} {T : u_T} {fs : List Value} {v : Value} (hin : ∀ w ∈ u_ws Cn T N, w ∈ Ts) (hr : Rd (wf σ) a (.inr (ci, fs))) (hc : vwCl[ci]? = some (Cn, T, N)) (hj : j < N) (hw : Cond.fieldLink own ix ref (T j).2.1 (T j).2.2.1 ∈ Ts) (hs : (T j).1 = ref ∨ Cond.sameField ref (T j).1 (T j).2.1 (T j).2.2.1 ∈ Ts) (hv : fs[j]? = some v) (hd : decode cc pc = .ok (.getfield ix, 3)) (kk : J wf X nL k n σ (pc + 3) loc (v :: rest)) : J wf X nL k n σ pc loc (.ref a :: rest) := by
  obtain ⟨p, l, e, R, s, m, args, below, meth, c, Q, D, A, tys⟩ := X
  obtain ⟨rfl, rfl, rfl, hx, hb, hml, ho, hts, hK, hA, e1, e2, e3, e4, hsp, hsz⟩ := C
  intro H locs ls hl hP hD hS
  obtain ⟨q0, hq⟩ := hr
  exact va_get hx hb hts hin ho hK hP q0 hq hc j hj (hts _ hw) (fun x h => by
    rcases hs with hs | hs
    · rw [← hs]; exact h
    · exact u_same (hts _ hs) x h) hv hd (kk H locs ls hl hP hD hS)
theorem j_put (C : JC X l0 D0 tt eE cc own nL Ts fr lo ce sl) {a ci ix j N : Nat} {ref Cn : String} {T : u_T} {fs : List Value} {v : Value} {ty : FieldType} {ty0 : Nat → FieldType} (hin : ∀ w ∈ u_ws Cn T N, w ∈ Ts) (hty : ∀ k, k < N → parseFieldDescriptor (T k).2.2.1 = some (ty0 k)) (hnm : ∀ a, a < N → ∀ b, b < N → a ≠ b → (T a).2.1 ≠ (T b).2.1) (hr : Wr (wf σ) a (.inr (ci, fs)) (.inr (ci, fs.set j v)) (wf σ')) (hc : vwCl[ci]? = some (Cn, T, N)) (hj : j < N) (hw : Cond.fieldLink own ix ref (T j).2.1 (T j).2.2.1 ∈ Ts) (hs : (T j).1 = ref ∨ Cond.sameField ref (T j).1 (T j).2.1 (T j).2.2.1 ∈ Ts) (hfin : (T j).2.2.2 = false) (hpd : parseFieldDescriptor (T j).2.2.1 = some ty) (hna : narrow ty v = v) (hfit : fits ty v = true) (hlen : j < fs.length) (hd : decode cc pc = .ok (.putfield ix, 3)) (kk : J wf X nL k n σ' (pc + 3) loc rest) : J wf X nL k n σ pc loc (v :: .ref a :: rest) := by
  obtain ⟨p, l, e, R, s, m, args, below, meth, c, Q, D, A, tys⟩ := X
  obtain ⟨rfl, rfl, rfl, hx, hb, hml, ho, hts, hK, hA, e1, e2, e3, e4, hsp, hsz⟩ := C
  intro H locs ls hl hP hD hS
  obtain ⟨q0, hq, hset⟩ := hr _ hD
  exact va_put hx hb hts hin ty0 hty hnm ho hK hP hD hS q0 hq hc j hj (hts _ hw) (fun x h => by
    rcases hs with hs | hs
    · rw [← hs]; exact h
    · exact u_same (hts _ hs) x h) hfin hpd hna hfit hlen hd (fun H1 locs1 hP1 hD1 hS1 => kk H1 locs1 ls hl (by rw [← hset]; exact hP1) (by rw [← hset]; exact hD1) hS1)
theorem j_iald (C : JC X l0 D0 tt eE cc own nL Ts fr lo ce sl) {a N : Nat} {cA : ClassId} {f : Nat → Int32} {i : Int32} (t0 : Nat) (hr : Rd (wf σ) a (.inl (cA, N, .inl f))) (ht : tt[t0]? = some (cA, .int)) (hin : ¬ (i < 0 ∨ N ≤ i.toNatClampNeg)) (hd : decode cc pc = .ok (.iaload, 1)) (kk : J wf X nL k n σ (pc + 1) loc (.int (f i.toNatClampNeg) :: rest)) : J wf X nL k n σ pc loc (.int i :: .ref a :: rest) := by
  obtain ⟨p, l, e, R, s, m, args, below, meth, c, Q, D, A, tys⟩ := X
  obtain ⟨rfl, rfl, rfl, hx, hb, hml, ho, hts, hK, hA, e1, e2, e3, e4, hsp, hsz⟩ := C
  intro H locs ls hl hP hD hS
  obtain ⟨q0, hq⟩ := hr
  exact va_iald hx hb hK hP q0 t0 hq ht hin hd (kk H locs ls hl hP hD hS)
theorem j_zald (C : JC X l0 D0 tt eE cc own nL Ts fr lo ce sl) {a N : Nat} {cA : ClassId} {f : Nat → Int32} {i : Int32} (t0 : Nat) (hr : Rd (wf σ) a (.inl (cA, N, .inl f))) (ht : tt[t0]? = some (cA, .boolean)) (hin : ¬ (i < 0 ∨ N ≤ i.toNatClampNeg)) (hd : decode cc pc = .ok (.baload, 1)) (kk : J wf X nL k n σ (pc + 1) loc (.int (f i.toNatClampNeg) :: rest)) : J wf X nL k n σ pc loc (.int i :: .ref a :: rest) := by
  obtain ⟨p, l, e, R, s, m, args, below, meth, c, Q, D, A, tys⟩ := X
  obtain ⟨rfl, rfl, rfl, hx, hb, hml, ho, hts, hK, hA, e1, e2, e3, e4, hsp, hsz⟩ := C
  intro H locs ls hl hP hD hS
  obtain ⟨q0, hq⟩ := hr
  exact va_zald hx hb hK hP q0 t0 hq ht hin hd (kk H locs ls hl hP hD hS)
theorem j_lald (C : JC X l0 D0 tt eE cc own nL Ts fr lo ce sl) {a N : Nat} {cA : ClassId} {f : Nat → Int64} {i : Int32} (t0 : Nat) (hr : Rd (wf σ) a (.inl (cA, N, .inr (.inl f)))) (ht : tt[t0]? = some (cA, .long)) (hin : ¬ (i < 0 ∨ N ≤ i.toNatClampNeg)) (hd : decode cc pc = .ok (.laload, 1)) (kk : J wf X nL k n σ (pc + 1) loc (.long (f i.toNatClampNeg) :: rest)) : J wf X nL k n σ pc loc (.int i :: .ref a :: rest) := by
  obtain ⟨p, l, e, R, s, m, args, below, meth, c, Q, D, A, tys⟩ := X
  obtain ⟨rfl, rfl, rfl, hx, hb, hml, ho, hts, hK, hA, e1, e2, e3, e4, hsp, hsz⟩ := C
  intro H locs ls hl hP hD hS
  obtain ⟨q0, hq⟩ := hr
  exact va_lald hx hb hK hP q0 t0 hq ht hin hd (kk H locs ls hl hP hD hS)
theorem j_iast (C : JC X l0 D0 tt eE cc own nL Ts fr lo ce sl) {a N : Nat} {cA : ClassId} {f : Nat → Int32} {i : Int32} {x : Int32} (t0 : Nat) (hr : Wr (wf σ) a (.inl (cA, N, .inl f)) (.inl (cA, N, .inl (upd f i.toNatClampNeg x))) (wf σ')) (ht : tt[t0]? = some (cA, .int)) (hin : ¬ (i < 0 ∨ N ≤ i.toNatClampNeg)) (hd : decode cc pc = .ok (.iastore, 1)) (kk : J wf X nL k n σ' (pc + 1) loc rest) : J wf X nL k n σ pc loc (.int x :: .int i :: .ref a :: rest) := by
  obtain ⟨p, l, e, R, s, m, args, below, meth, c, Q, D, A, tys⟩ := X
  obtain ⟨rfl, rfl, rfl, hx, hb, hml, ho, hts, hK, hA, e1, e2, e3, e4, hsp, hsz⟩ := C
  intro H locs ls hl hP hD hS
  obtain ⟨q0, hq, hset⟩ := hr _ hD
  exact va_iast hx hb hK hP hD hS q0 t0 hq ht hin hd (fun H1 locs1 hP1 hD1 hS1 => kk H1 locs1 ls hl (by rw [← hset]; exact hP1) (by rw [← hset]; exact hD1) hS1)
theorem j_last (C : JC X l0 D0 tt eE cc own nL Ts fr lo ce sl) {a N : Nat} {cA : ClassId} {f : Nat → Int64} {i : Int32} {x : Int64} (t0 : Nat) (hr : Wr (wf σ) a (.inl (cA, N, .inr (.inl f))) (.inl (cA, N, .inr (.inl (vp_updL f i.toNatClampNeg x)))) (wf σ')) (ht : tt[t0]? = some (cA, .long)) (hin : ¬ (i < 0 ∨ N ≤ i.toNatClampNeg)) (hd : decode cc pc = .ok (.lastore, 1)) (kk : J wf X nL k n σ' (pc + 1) loc rest) : J wf X nL k n σ pc loc (.long x :: .int i :: .ref a :: rest) := by
  obtain ⟨p, l, e, R, s, m, args, below, meth, c, Q, D, A, tys⟩ := X
  obtain ⟨rfl, rfl, rfl, hx, hb, hml, ho, hts, hK, hA, e1, e2, e3, e4, hsp, hsz⟩ := C
  intro H locs ls hl hP hD hS
  obtain ⟨q0, hq, hset⟩ := hr _ hD
  exact va_last hx hb hK hP hD hS q0 t0 hq ht hin hd (fun H1 locs1 hP1 hD1 hS1 => kk H1 locs1 ls hl (by rw [← hset]; exact hP1) (by rw [← hset]; exact hD1) hS1)
theorem nar_z {x : Int32} (hz : x = 0 ∨ x = 1) : vp_nar .boolean x = x := by rcases hz with rfl | rfl <;> rfl
theorem j_zast (C : JC X l0 D0 tt eE cc own nL Ts fr lo ce sl) {a N : Nat} {cA : ClassId} {f : Nat → Int32} {i : Int32} {x : Int32} (t0 : Nat) (hz : x = 0 ∨ x = 1) (hr : Wr (wf σ) a (.inl (cA, N, .inl f)) (.inl (cA, N, .inl (upd f i.toNatClampNeg x))) (wf σ')) (ht : tt[t0]? = some (cA, .boolean)) (hin : ¬ (i < 0 ∨ N ≤ i.toNatClampNeg)) (hd : decode cc pc = .ok (.bastore, 1)) (kk : J wf X nL k n σ' (pc + 1) loc rest) : J wf X nL k n σ pc loc (.int x :: .int i :: .ref a :: rest) := by
  obtain ⟨p, l, e, R, s, m, args, below, meth, c, Q, D, A, tys⟩ := X
  obtain ⟨rfl, rfl, rfl, hx, hb, hml, ho, hts, hK, hA, e1, e2, e3, e4, hsp, hsz⟩ := C
  intro H locs ls hl hP hD hS
  obtain ⟨q0, hq, hset⟩ := hr _ hD
  refine va_zast hx hb hK hP hD hS q0 t0 hq ht hin hd (fun H1 locs1 hP1 hD1 hS1 => ?_)
  rw [nar_z hz] at hP1 hD1
  exact kk H1 locs1 ls hl (by rw [← hset]; exact hP1) (by rw [← hset]; exact hD1) hS1
theorem j_aald (C : JC X l0 D0 tt eE cc own nL Ts fr lo ce sl) {a N : Nat} {cA : ClassId} {Cn : String} {f : Nat → Option Nat} {i : Int32} {q : Nat} (t0 : Nat) (hr : Rd (wf σ) a (.inl (cA, N, .inr (.inr (.inr (.inr f)))))) (ht : tt[t0]? = some (cA, .object Cn)) (hin : ¬ (i < 0 ∨ N ≤ i.toNatClampNeg)) (hv : f i.toNatClampNeg = some q) (hd : decode cc pc = .ok (.aaload, 1)) (kk : J wf X nL k n σ (pc + 1) loc (.ref q :: rest)) : J wf X nL k n σ pc loc (.int i :: .ref a :: rest) := by
  obtain ⟨p, l, e, R, s, m, args, below, meth, c, Q, D, A, tys⟩ := X
  obtain ⟨rfl, rfl, rfl, hx, hb, hml, ho, hts, hK, hA, e1, e2, e3, e4, hsp, hsz⟩ := C
  intro H locs ls hl hP hD hS
  obtain ⟨q0, hq⟩ := hr
  refine va_aldq hx hb hK hP q0 t0 hq ht hin hd ?_
  rw [hv]
  exact kk H locs ls hl hP hD hS
theorem j_alen (C : JC X l0 D0 tt eE cc own nL Ts fr lo ce sl) {a : Nat} {cA : ClassId} {x : vp_A} {ty : FieldType} (t0 : Nat) (hr : Rd (wf σ) a (.inl (cA, x))) (ht : tt[t0]? = some (cA, ty)) (hd : decode cc pc = .ok (.arraylength, 1)) (kk : J wf X nL k n σ (pc + 1) loc (.int (nI x.1) :: rest)) : J wf X nL k n σ pc loc (.ref a :: rest) := by
  obtain ⟨p, l, e, R, s, m, args, below, meth, c, Q, D, A, tys⟩ := X
  obtain ⟨rfl, rfl, rfl, hx, hb, hml, ho, hts, hK, hA, e1, e2, e3, e4, hsp, hsz⟩ := C
  intro H locs ls hl hP hD hS
  obtain ⟨q0, hq⟩ := hr
  exact va_alen hx hb hK hP q0 t0 hq ht rfl hd (kk H locs ls hl hP hD hS)
theorem j_aast (C : JC X l0 D0 tt eE cc own nL Ts fr lo ce sl) {a N v ci : Nat} {cA : ClassId} {r : vw_C} {vs : List Value} {f : Nat → Option Nat} {i : Int32} (t0 : Nat) (hr : Wr (wf σ) a (.inl (cA, N, .inr (.inr (.inr (.inr f))))) (.inl (cA, N, .inr (.inr (.inr (.inr (va_up f i.toNatClampNeg (some v))))))) (wf σ')) (ht : tt[t0]? = some (cA, .object r.1)) (hv : Rd (wf σ) v (.inr (ci, vs))) (hc : vwCl[ci]? = some r) (hin : ¬ (i < 0 ∨ N ≤ i.toNatClampNeg)) (hd : decode cc pc = .ok (.aastore, 1)) (kk : J wf X nL k n σ' (pc + 1) loc rest) : J wf X nL k n σ pc loc (.ref v :: .int i :: .ref a :: rest) := by
  obtain ⟨p, l, e, R, s, m, args, below, meth, c, Q, D, A, tys⟩ := X
  obtain ⟨rfl, rfl, rfl, hx, hb, hml, ho, hts, hK, hA, e1, e2, e3, e4, hsp, hsz⟩ := C
  intro H locs ls hl hP hD hS
  obtain ⟨q0, hq, hset⟩ := hr _ hD
  obtain ⟨qk, hqk⟩ := hv
  exact va_astq hx hb hK hP hD hS q0 t0 qk ci hq ht hqk hc hin hd (fun H1 locs1 hP1 hD1 hS1 => kk H1 locs1 ls hl (by rw [← hset]; exact hP1) (by rw [← hset]; exact hD1) hS1)
theorem j_aastO (C : JC X l0 D0 tt eE cc own nL Ts fr lo ce sl) {a N v ci : Nat} {E : String} {cA : ClassId} {r : vw_C} {vs : List Value} {f : Nat → Option Nat} {i : Int32} (t0 : Nat) (hr : Wr (wf σ) a (.inl (cA, N, .inr (.inr (.inr (.inr f))))) (.inl (cA, N, .inr (.inr (.inr (.inr (va_up f i.toNatClampNeg (some v))))))) (wf σ')) (ht : tt[t0]? = some (cA, .object E)) (hca : (r.1, E) ∈ SPC) (hv : Rd (wf σ) v (.inr (ci, vs))) (hc : vwCl[ci]? = some r) (hin : ¬ (i < 0 ∨ N ≤ i.toNatClampNeg)) (hd : decode cc pc = .ok (.aastore, 1)) (kk : J wf X nL k n σ' (pc + 1) loc rest) : J wf X nL k n σ pc loc (.ref v :: .int i :: .ref a :: rest) := by
  obtain ⟨p, l, e, R, s, m, args, below, meth, c, Q, D, A, tys⟩ := X
  obtain ⟨rfl, rfl, rfl, hx, hb, hml, ho, hts, hK, hA, e1, e2, e3, e4, hsp, hsz⟩ := C
  intro H locs ls hl hP hD hS
  obtain ⟨q0, hq, hset⟩ := hr _ hD
  obtain ⟨qk, hqk⟩ := hv
  exact va_astqO hx hb hK hP hD hS q0 t0 qk ci hq ht (hsp.2.1 _ hca) hqk hc hin hd (fun H1 locs1 hP1 hD1 hS1 => kk H1 locs1 ls hl (by rw [← hset]; exact hP1) (by rw [← hset]; exact hD1) hS1)
theorem j_aastN (C : JC X l0 D0 tt eE cc own nL Ts fr lo ce sl) {a N : Nat} {cA : ClassId} {E : String} {f : Nat → Option Nat} {i : Int32} (t0 : Nat) (hr : Wr (wf σ) a (.inl (cA, N, .inr (.inr (.inr (.inr f))))) (.inl (cA, N, .inr (.inr (.inr (.inr (va_up f i.toNatClampNeg none)))))) (wf σ')) (ht : tt[t0]? = some (cA, .object E)) (hin : ¬ (i < 0 ∨ N ≤ i.toNatClampNeg)) (hd : decode cc pc = .ok (.aastore, 1)) (kk : J wf X nL k n σ' (pc + 1) loc rest) : J wf X nL k n σ pc loc (.null :: .int i :: .ref a :: rest) := by
  obtain ⟨p, l, e, R, s, m, args, below, meth, c, Q, D, A, tys⟩ := X
  obtain ⟨rfl, rfl, rfl, hx, hb, hml, ho, hts, hK, hA, e1, e2, e3, e4, hsp, hsz⟩ := C
  intro H locs ls hl hP hD hS
  obtain ⟨q0, hq, hset⟩ := hr _ hD
  exact va_astqN hx hb hK hP hD hS q0 t0 hq ht hin hd (fun H1 locs1 hP1 hD1 hS1 => kk H1 locs1 ls hl (by rw [← hset]; exact hP1) (by rw [← hset]; exact hD1) hS1)
theorem j_cast (C : JC X l0 D0 tt eE cc own nL Ts fr lo ce sl) {a ci ix N : Nat} {Cn nm : String} {T : u_T} {fs : List Value} (hr : Rd (wf σ) a (.inr (ci, fs))) (hc : vwCl[ci]? = some (Cn, T, N)) (hca : (Cn, nm) ∈ SPC) (hw : Cond.classLink own ix nm ∈ Ts) (hd : decode cc pc = .ok (.checkcast ix, 3)) (kk : J wf X nL k n σ (pc + 3) loc (.ref a :: rest)) : J wf X nL k n σ pc loc (.ref a :: rest) := by
  obtain ⟨p, l, e, R, s, m, args, below, meth, c, Q, D, A, tys⟩ := X
  obtain ⟨rfl, rfl, rfl, hx, hb, hml, ho, hts, hK, hA, e1, e2, e3, e4, hsp, hsz⟩ := C
  intro H locs ls hl hP hD hS
  obtain ⟨q0, hq⟩ := hr
  exact va_castY hx hb ho (hts _ hw) (hsp.2.1 _ hca) (va_recv hK hP hc hq) hd (kk H locs ls hl hP hD hS)
theorem j_copyi (C : JC X l0 D0 tt eE cc own nL Ts fr lo ce sl) {a a0 ix n0 n1 : Nat} {c0 c1 : ClassId} {f g : Nat → Int32} {sp dp z : Int32} (t0 t1 : Nat) (hr0 : Rd (wf σ) a0 (.inl (c0, n0, .inl f))) (hr1 : Wr (wf σ) a (.inl (c1, n1, .inl g)) (.inl (c1, n1, .inl (va_cpy f g sp.toNatClampNeg dp.toNatClampNeg z.toNatClampNeg))) (wf σ')) (ht0 : tt[t0]? = some (c0, .int)) (ht1 : tt[t1]? = some (c1, .int)) (w1 : Cond.methodLink own ix arraycopyName ∈ Ts) (w2 : Cond.native arraycopyName ∈ Ts) (w3 : Cond.static arraycopyName ∈ Ts) (w4 : Cond.initialized "java/lang/System" ∈ Ts) (h1 : ¬ sp < 0) (h2 : ¬ dp < 0) (h3 : ¬ z < 0) (h4 : sp.toNatClampNeg + z.toNatClampNeg ≤ n0) (h5 : dp.toNatClampNeg + z.toNatClampNeg ≤ n1) (h6 : 1 ≤ fr) (h7 : (rest.map fun v => v.category).sum + (nativeFrameWords "java/lang/System" "arraycopy" 5 + 11) ≤ lo) (hd : decode cc pc = .ok (.invokestatic ix, 3)) (kk : J wf X nL k n σ' (pc + 3) loc rest) : J wf X nL k n σ pc loc (.int z :: .int dp :: .ref a :: .int sp :: .ref a0 :: rest) := by
  obtain ⟨p, l, e, R, s, m, args, below, meth, c, Q, D, A, tys⟩ := X
  obtain ⟨rfl, rfl, rfl, hx, hb, hml, ho, hts, hK, hA, e1, e2, e3, e4, hsp, hsz⟩ := C
  intro H locs ls hl hP hD hS
  obtain ⟨q1, hq1, hset⟩ := hr1 _ hD
  obtain ⟨q0, hq0⟩ := hr0
  exact va_copyi hx hb (by rw [hml]; exact hl.1.symm) ho (hts _ w1) (hts _ w2) (hts _ w3) (hts _ w4) hK hP hD hS q0 q1 t0 t1 hq0 hq1 ht0 ht1 rfl h1 h2 h3 h4 h5 (fun _ _ => rfl) (by rw [e1]; exact h6) (by rw [e2]; exact h7) hd (fun H1 locs1 hP1 hD1 hS1 => kk H1 locs1 ls hl (by rw [← hset]; exact hP1) (by rw [← hset]; exact hD1) hS1)
end JHEAP
/-! calls -/
section JCALL
variable {S : Type} {wf : S → va_W} {p : Program} {l : Launch} {e : Env} {R : Room} {s : State} {m : MethodId} {args : Array Value} {below : List Frame} {meth : Method} {c : Code} {H : Heap} {locs : List Loc} {k n mc ms pc : Nat} {Q : State → Prop} {ls : Array Slot} {st rest : List Value} {D : va_G} {tys : List (ClassId × FieldType)} {A : Nat → Prop} {σ : S} {P : Option Value → S → Prop} {a : Array Value}
theorem va_callS (hr : va_Run p l e R s m args below meth c H locs k n mc ms (F0 m pc ls st) rest (QS wf D tys (va_A (wf σ) H.size) P a) (va_A (wf σ) H.size)) (hD : va_D A (wf σ)) (hS : va_S A s.heap H locs) (hA : ∀ q, s.heap.size ≤ q → A q)
    (kk : ∀ (v : Option Value) (σ' : S) (H1 : Heap) (locs1 : List Loc), P v σ' → va_P D vwCl (wf σ') H1 → va_D A (wf σ') → va_S A s.heap H1 locs1 → W p l e R s m args below meth c H1 locs1 (k + mc) (n + ms) Q (F0 m (pc + 3) ls (v.toList ++ rest))) : W p l e R s m args below meth c H locs k n Q (F0 m pc ls st) := by
  intro T hT X
  obtain ⟨v, st₀, t, T', L, h0, X', hL, e1, e2, ⟨⟨v', σ', hv, hp, hP1, hK1, hD1⟩, hz, hk⟩, stp⟩ := hr T hT X
  cases hv
  rw [h0] at hz hk
  have hF : ∀ q, va_A (wf σ) H.size q → A q := by
    intro q h
    rcases h with ⟨j, x, h⟩ | h
    · exact hD.2 j _ h
    · exact hA q (Nat.le_trans hS.1 h)
  obtain ⟨t2, a1, b1⟩ := kk v σ' T'.heap (locs ++ L) hp (by rw [e1]; exact hP1) (hD1.weaken (fun _ _ _ h => hF _ h))
    ⟨Nat.le_trans hS.1 (by rw [e1]; exact hz), fun q h1 h2 => by rw [e1, hk q (Nat.lt_of_lt_of_le h1 hS.1) (fun z => h2 (hF q z))]; exact hS.2.1 q h1 h2, fun q hq => by
      rcases List.mem_append.mp hq with h | h
      · exact hS.2.2 q h
      · exact hF _ (hL q h)⟩ T' rfl X'
  exact ⟨t2, stp t2 a1, b1⟩
theorem PS_blind {eE sz : Nat} {av : List Value} : FrameBlind (PS wf D tys eE sz av σ) := fun a U g mk q => by
  obtain ⟨q0, qP, qK, qD, qz, qs, qt⟩ := q
  exact ⟨q0, qP, va_K.moved (u := U) (U := U.calling g mk a) (Vm.Alike.refl U.vm) qK, qD, qz, SPh.same (u := U) (U := U.calling g mk a) rfl qs, SZ.moved (u := U) (U := U.calling g mk a) (Vm.Alike.refl U.vm) qt⟩
theorem PS_of {eE : Nat} {av : List Value} (hP : va_P D vwCl (wf σ) H) (hD : va_D A (wf σ)) (hK : va_K D vwCl tys s) (hS : va_S A s.heap H locs) (hA : ∀ q, s.heap.size ≤ q → A q) (hsp : SPh s) (hsz : SZ eE A s s.heap) (U : State) (hU : U.heap = H) (hW : s.WarmedH U.vm) : PS wf D tys eE H.size av σ av.toArray U := by
  have hF : ∀ q, va_A (wf σ) H.size q → A q := by
    intro q h
    rcases h with ⟨j, x, h⟩ | h
    · exact hD.2 j _ h
    · exact hA q (Nat.le_trans hS.1 h)
  exact ⟨rfl, by rw [hU]; exact hP, va_K.moved hW.alike hK, hD.weaken (fun _ _ _ _ => trivial), by rw [hU], hsp.warm hW, by rw [hU]; exact ((hsz.kept hS.2.1).narrow hF).moved hW.alike⟩
end JCALL
section JCALLS
variable {S : Type} {wf : S → va_W} {X : JX} {l0 : Launch} {D0 : va_G} {tt : List (ClassId × FieldType)} {eE : Nat} {cc : ByteArray} {own : String} {nL : Nat} {Ts : List Cond} {fr lo ce sl k n : Nat} {σ : S} {pc : Nat} {loc : List (Nat × Value)} {st : List Value}
variable {y : MethodName} {bytes : ByteArray} {maxL ix fr' lo' mc ms : Nat} {ret : Option FieldType} {ws ws' : List Cond} {P : Option Value → S → Prop}
theorem j_callV (C : JC X l0 D0 tt eE cc own nL Ts fr lo ce sl) {b ci : Nat} {Cn : String} {T : u_T} {N : Nat} {fs : List Value} (As rest : List Value) (hM : MS l0 y ws fr' lo' mc ms wf D0 tt eE (.ref b :: As) σ P) (hG : GoodIn Ts (wsV own ix Cn y ws)) (hy : y.cls = Cn ∧ y.cls ≠ "java/lang/invoke/MethodHandle" ∧ y.cls ≠ "java/lang/invoke/VarHandle" ∧ (parseMethodDescriptor y.desc).map (fun d => d.parameters.length) = some As.length) (hw : ws = Cond.code y bytes maxL ret :: ws') (hr : Rd (wf σ) b (.inr (ci, fs))) (hc : vwCl[ci]? = some (Cn, T, N)) (hs : st = As.reverse ++ .ref b :: rest) (h1 : fr' + 1 ≤ fr) (h2 : 8 + (maxL + 11) + lo' ≤ lo) (h3 : k + mc ≤ ce) (h4 : n + ms ≤ sl) (h5 : (rest.map fun v => v.category).sum ≤ 8) (hd : decode cc pc = .ok (.invokevirtual ix, 3)) (kk : ∀ (v : Option Value) (σ' : S), P v σ' → J wf X nL (k + mc) (n + ms) σ' (pc + 3) loc (v.toList ++ rest)) : J wf X nL k n σ pc loc st := by
  obtain ⟨p, l, e, R, s, m, args, below, meth, c, Q, D, A, tys⟩ := X
  obtain ⟨rfl, rfl, rfl, hx, hb, hml, ho, hts, hK, hA, e1, e2, e3, e4, hsp, hsz⟩ := C
  intro H locs ls hl hP hD hS
  subst hs
  exact va_callS (va_runV (C := Cn) (rest := rest) (As := As) ⟨hx, hb, hml, ho, hts⟩ (hM H.size) (cwV (rm := { frames := fr', cells := mc, slots := ms, locals := lo' }) As.length hts hG hw rfl rfl hy ⟨by rw [e1]; exact h1, by rw [e2]; exact h2⟩) ⟨PS_blind, (by obtain ⟨q0, hq⟩ := hr; exact va_recv hK hP hc hq), fun U hU hW => PS_of hP hD hK hS hA hsp hsz U hU hW⟩ rfl rfl hl.1 rfl (lv_room h5) hd ⟨by rw [e3]; exact h3, by rw [e4]; exact h4⟩) hD hS hA (fun v σ' H1 locs1 hp hP1 hD1 hS1 => kk v σ' hp H1 locs1 ls hl hP1 hD1 hS1)
theorem j_callVN (C : JC X l0 D0 tt eE cc own nL Ts fr lo ce sl) {b ci : Nat} {Cn : String} {T : u_T} {N : Nat} {fs : List Value} {host : String} (As rest : List Value) (hM : MS l0 y ws fr' lo' mc ms wf D0 tt eE (.ref b :: As) σ P) (hG : GoodIn Ts ws) (hlk : (own, ix, y, host) ∈ SPM) (hini : Cond.initialized y.cls ∈ Ts) (hins : Cond.instanceMethod y ∈ Ts) (hsel : Cond.selects Cn y y ∈ Ts) (hy : y.cls ≠ "java/lang/invoke/MethodHandle" ∧ y.cls ≠ "java/lang/invoke/VarHandle" ∧ (parseMethodDescriptor y.desc).map (fun d => d.parameters.length) = some As.length) (hw : ws = Cond.code y bytes maxL ret :: ws') (hr : Rd (wf σ) b (.inr (ci, fs))) (hc : vwCl[ci]? = some (Cn, T, N)) (hs : st = As.reverse ++ .ref b :: rest) (h1 : fr' + 1 ≤ fr) (h2 : 8 + (maxL + 11) + lo' ≤ lo) (h3 : k + mc ≤ ce) (h4 : n + ms ≤ sl) (h5 : (rest.map fun v => v.category).sum ≤ 8) (hd : decode cc pc = .ok (.invokevirtual ix, 3)) (kk : ∀ (v : Option Value) (σ' : S), P v σ' → J wf X nL (k + mc) (n + ms) σ' (pc + 3) loc (v.toList ++ rest)) : J wf X nL k n σ pc loc st := by
  obtain ⟨p, l, e, R, s, m, args, below, meth, c, Q, D, A, tys⟩ := X
  obtain ⟨rfl, rfl, rfl, hx, hb, hml, ho, hts, hK, hA, e1, e2, e3, e4, hsp, hsz⟩ := C
  intro H locs ls hl hP hD hS
  subst hs
  exact va_callS (va_runVN (C := Cn) (rest := rest) (As := As) ⟨hx, hb, hml, ho, hts⟩ (hM H.size) ⟨va_cnB (rm := { frames := fr', cells := mc, slots := ms, locals := lo' }) As.length hts hG hw rfl rfl (hsp.1 _ hlk) (hts _ hini) hy ⟨by rw [e1]; exact h1, by rw [e2]; exact h2⟩, hts _ hins, hts _ hsel⟩ ⟨PS_blind, (by obtain ⟨q0, hq⟩ := hr; exact va_recv hK hP hc hq), fun U hU hW => PS_of hP hD hK hS hA hsp hsz U hU hW⟩ rfl rfl hl.1 rfl (lv_room h5) hd ⟨by rw [e3]; exact h3, by rw [e4]; exact h4⟩) hD hS hA (fun v σ' H1 locs1 hp hP1 hD1 hS1 => kk v σ' hp H1 locs1 ls hl hP1 hD1 hS1)
theorem j_callS (C : JC X l0 D0 tt eE cc own nL Ts fr lo ce sl) (As rest : List Value) (hM : MS l0 y ws fr' lo' mc ms wf D0 tt eE (As) σ P) (hG : GoodIn Ts (va_wsS own ix y ws)) (hy : y.cls ≠ "java/lang/invoke/MethodHandle" ∧ y.cls ≠ "java/lang/invoke/VarHandle" ∧ (parseMethodDescriptor y.desc).map (fun d => d.parameters.length) = some As.length) (hw : ws = Cond.code y bytes maxL ret :: ws') (hs : st = As.reverse ++ rest) (h1 : fr' + 1 ≤ fr) (h2 : 8 + (maxL + 11) + lo' ≤ lo) (h3 : k + mc ≤ ce) (h4 : n + ms ≤ sl) (h5 : (rest.map fun v => v.category).sum ≤ 8) (hd : decode cc pc = .ok (.invokestatic ix, 3)) (kk : ∀ (v : Option Value) (σ' : S), P v σ' → J wf X nL (k + mc) (n + ms) σ' (pc + 3) loc (v.toList ++ rest)) : J wf X nL k n σ pc loc st := by
  obtain ⟨p, l, e, R, s, m, args, below, meth, c, Q, D, A, tys⟩ := X
  obtain ⟨rfl, rfl, rfl, hx, hb, hml, ho, hts, hK, hA, e1, e2, e3, e4, hsp, hsz⟩ := C
  intro H locs ls hl hP hD hS
  subst hs
  exact va_callS (va_runS (rest := rest) (As := As) ⟨hx, hb, hml, ho, hts⟩ (hM H.size) (va_cwS (rm := { frames := fr', cells := mc, slots := ms, locals := lo' }) As.length hts hG hw rfl rfl hy ⟨by rw [e1]; exact h1, by rw [e2]; exact h2⟩) ⟨PS_blind, fun U hU hW => PS_of hP hD hK hS hA hsp hsz U hU hW⟩ rfl rfl hl.1 rfl (lv_room h5) hd ⟨by rw [e3]; exact h3, by rw [e4]; exact h4⟩) hD hS hA (fun v σ' H1 locs1 hp hP1 hD1 hS1 => kk v σ' hp H1 locs1 ls hl hP1 hD1 hS1)
theorem j_callSN (C : JC X l0 D0 tt eE cc own nL Ts fr lo ce sl) {host : String} (As rest : List Value) (hM : MS l0 y ws fr' lo' mc ms wf D0 tt eE (As) σ P) (hG : GoodIn Ts ws) (hlk : (own, ix, y, host) ∈ SPM) (hini : Cond.initialized y.cls ∈ Ts) (hstc : Cond.static y ∈ Ts) (hy : y.cls ≠ "java/lang/invoke/MethodHandle" ∧ y.cls ≠ "java/lang/invoke/VarHandle" ∧ (parseMethodDescriptor y.desc).map (fun d => d.parameters.length) = some As.length) (hw : ws = Cond.code y bytes maxL ret :: ws') (hs : st = As.reverse ++ rest) (h1 : fr' + 1 ≤ fr) (h2 : 8 + (maxL + 11) + lo' ≤ lo) (h3 : k + mc ≤ ce) (h4 : n + ms ≤ sl) (h5 : (rest.map fun v => v.category).sum ≤ 8) (hd : decode cc pc = .ok (.invokestatic ix, 3)) (kk : ∀ (v : Option Value) (σ' : S), P v σ' → J wf X nL (k + mc) (n + ms) σ' (pc + 3) loc (v.toList ++ rest)) : J wf X nL k n σ pc loc st := by
  obtain ⟨p, l, e, R, s, m, args, below, meth, c, Q, D, A, tys⟩ := X
  obtain ⟨rfl, rfl, rfl, hx, hb, hml, ho, hts, hK, hA, e1, e2, e3, e4, hsp, hsz⟩ := C
  intro H locs ls hl hP hD hS
  subst hs
  exact va_callS (va_runSN (rest := rest) (As := As) ⟨hx, hb, hml, ho, hts⟩ (hM H.size) ⟨va_cnB (rm := { frames := fr', cells := mc, slots := ms, locals := lo' }) As.length hts hG hw rfl rfl (hsp.1 _ hlk) (hts _ hini) hy ⟨by rw [e1]; exact h1, by rw [e2]; exact h2⟩, hts _ hstc, trivial⟩ ⟨PS_blind, fun U hU hW => PS_of hP hD hK hS hA hsp hsz U hU hW⟩ rfl rfl hl.1 rfl (lv_room h5) hd ⟨by rw [e3]; exact h3, by rw [e4]; exact h4⟩) hD hS hA (fun v σ' H1 locs1 hp hP1 hD1 hS1 => kk v σ' hp H1 locs1 ls hl hP1 hD1 hS1)
end JCALLS
section JK
variable {S : Type} {wf : S → va_W} {X : JX} {nL k n pc : Nat} {loc : List (Nat × Value)} {rest : List Value} {σ1 : S}
theorem j_kI {r : Int32} (kk : J wf X nL k n σ1 pc loc (.int r :: rest)) : ∀ (v : Option Value) (σ' : S), PI r σ1 v σ' → J wf X nL (k + 0) (n + 0) σ' pc loc (v.toList ++ rest) := by
  intro v σ' h
  obtain ⟨rfl, rfl⟩ := h
  exact kk
theorem j_kL {r : Int64} (kk : J wf X nL k n σ1 pc loc (.long r :: rest)) : ∀ (v : Option Value) (σ' : S), PL r σ1 v σ' → J wf X nL (k + 0) (n + 0) σ' pc loc (v.toList ++ rest) := by
  intro v σ' h
  obtain ⟨rfl, rfl⟩ := h
  exact kk
theorem j_kA {r : Nat} (kk : J wf X nL k n σ1 pc loc (.ref r :: rest)) : ∀ (v : Option Value) (σ' : S), PA r σ1 v σ' → J wf X nL (k + 0) (n + 0) σ' pc loc (v.toList ++ rest) := by
  intro v σ' h
  obtain ⟨rfl, rfl⟩ := h
  exact kk
theorem j_kV (kk : J wf X nL k n σ1 pc loc rest) : ∀ (v : Option Value) (σ' : S), PV σ1 v σ' → J wf X nL (k + 0) (n + 0) σ' pc loc (v.toList ++ rest) := by
  intro v σ' h
  obtain ⟨rfl, rfl⟩ := h
  exact kk
end JK
section JMATH
variable {S : Type} {wf : S → va_W} {X : JX} {l0 : Launch} {D0 : va_G} {tt : List (ClassId × FieldType)} {eE : Nat} {cc : ByteArray} {own : String} {nL : Nat} {Ts : List Cond} {fr lo ce sl k n : Nat} {σ : S} {pc : Nat} {loc : List (Nat × Value)} {rest : List Value}
theorem j_mmin (C : JC X l0 D0 tt eE cc own nL Ts fr lo ce sl) {ix : Nat} {x y : Int32} (w1 : Cond.methodLink own ix Lib.Math.min.name ∈ Ts) (w2 : Cond.static Lib.Math.min.name ∈ Ts) (w3 : Cond.initialized "java/lang/Math" ∈ Ts) (w4 : Cond.code Lib.Math.min.name Lib.Math.min.code 2 (some .int) ∈ Ts) (h1 : 1 ≤ fr) (h2 : (rest.map fun v => v.category).sum + 13 ≤ lo) (h3 : k ≤ ce) (h4 : n ≤ sl) (hd : decode cc pc = .ok (.invokestatic ix, 3)) (kk : J wf X nL k n σ (pc + 3) loc (.int (imin x y) :: rest)) : J wf X nL k n σ pc loc (.int y :: .int x :: rest) := by
  obtain ⟨p, l, e, R, s, m, args, below, meth, c, Q, D, A, tys⟩ := X
  obtain ⟨rfl, rfl, rfl, hx, hb, hml, ho, hts, hK, hA, e1, e2, e3, e4, hsp, hsz⟩ := C
  intro H locs ls hl hP hD hS
  exact va_mmin hx hb (by rw [hml]; exact hl.1.symm) ho (hts _ w1) (hts _ w2) (hts _ w3) (hts _ w4) (by rw [e1]; exact h1) (by rw [e2]; exact h2) (by rw [e3]; exact h3) (by rw [e4]; exact h4) hd (kk H locs ls hl hP hD hS)
theorem j_mmax (C : JC X l0 D0 tt eE cc own nL Ts fr lo ce sl) {ix : Nat} {x y : Int32} (w1 : Cond.methodLink own ix Lib.Math.max.name ∈ Ts) (w2 : Cond.static Lib.Math.max.name ∈ Ts) (w3 : Cond.initialized "java/lang/Math" ∈ Ts) (w4 : Cond.code Lib.Math.max.name Lib.Math.max.code 2 (some .int) ∈ Ts) (h1 : 1 ≤ fr) (h2 : (rest.map fun v => v.category).sum + 13 ≤ lo) (h3 : k ≤ ce) (h4 : n ≤ sl) (hd : decode cc pc = .ok (.invokestatic ix, 3)) (kk : J wf X nL k n σ (pc + 3) loc (.int (imax x y) :: rest)) : J wf X nL k n σ pc loc (.int y :: .int x :: rest) := by
  obtain ⟨p, l, e, R, s, m, args, below, meth, c, Q, D, A, tys⟩ := X
  obtain ⟨rfl, rfl, rfl, hx, hb, hml, ho, hts, hK, hA, e1, e2, e3, e4, hsp, hsz⟩ := C
  intro H locs ls hl hP hD hS
  exact va_mmax hx hb (by rw [hml]; exact hl.1.symm) ho (hts _ w1) (hts _ w2) (hts _ w3) (hts _ w4) (by rw [e1]; exact h1) (by rw [e2]; exact h2) (by rw [e3]; exact h3) (by rw [e4]; exact h4) hd (kk H locs ls hl hP hD hS)
theorem j_mmin_long (C : JC X l0 D0 tt eE cc own nL Ts fr lo ce sl) {ix : Nat} {x y : Int64} (w1 : Cond.methodLink own ix Lib.MathLoose.min_long.x ∈ Ts) (w2 : Cond.static Lib.MathLoose.min_long.x ∈ Ts) (w3 : Cond.initialized "java/lang/Math" ∈ Ts) (w4 : Cond.code Lib.MathLoose.min_long.x Lib.MathLoose.min_long.code 4 (some .long) ∈ Ts) (h1 : 1 ≤ fr) (h2 : (rest.map fun v => v.category).sum + 15 ≤ lo) (h3 : k ≤ ce) (h4 : n ≤ sl) (hd : decode cc pc = .ok (.invokestatic ix, 3)) (kk : J wf X nL k n σ (pc + 3) loc (.long (lmin x y) :: rest)) : J wf X nL k n σ pc loc (.long y :: .long x :: rest) := by
  obtain ⟨p, l, e, R, s, m, args, below, meth, c, Q, D, A, tys⟩ := X
  obtain ⟨rfl, rfl, rfl, hx, hb, hml, ho, hts, hK, hA, e1, e2, e3, e4, hsp, hsz⟩ := C
  intro H locs ls hl hP hD hS
  exact va_mmin_long hx hb (by rw [hml]; exact hl.1.symm) ho (hts _ w1) (hts _ w2) (hts _ w3) (hts _ w4) (by rw [e1]; exact h1) (by rw [e2]; exact h2) (by rw [e3]; exact h3) (by rw [e4]; exact h4) hd (kk H locs ls hl hP hD hS)
end JMATH
end
section
/-! the state of both systems: numbers, arrays, pooled objects -/
abbrev ST : Type := (Nat → Int32) × (Nat → Int64) × (Nat → Nat → Int32) × (Nat → Int64) × (Nat → Nat → Option Nat) × List Nat × (Nat → Nat) × (Nat → Nat → Int32) × (Nat → Nat) × (Nat → Nat → Option Nat) × (Nat → Nat)
def gI (σ : ST) (j : Nat) : Int32 := σ.1 j
def gL (σ : ST) (j : Nat) : Int64 := σ.2.1 j
def gA (σ : ST) (a i : Nat) : Int32 := σ.2.2.1 a i
def gV (σ : ST) (i : Nat) : Int64 := σ.2.2.2.1 i
def gR (σ : ST) (a i : Nat) : Option Nat := σ.2.2.2.2.1 a i
def pL (σ : ST) : List Nat := σ.2.2.2.2.2.1
def pK (σ : ST) (q : Nat) : Nat := σ.2.2.2.2.2.2.1 q
def pP (σ : ST) (q j : Nat) : Int32 := σ.2.2.2.2.2.2.2.1 q j
def pC (σ : ST) (q : Nat) : Nat := σ.2.2.2.2.2.2.2.2.1 q
def pR (σ : ST) (q i : Nat) : Option Nat := σ.2.2.2.2.2.2.2.2.2.1 q i
def gE (σ : ST) (j : Nat) : Nat := σ.2.2.2.2.2.2.2.2.2.2 j
def sI (σ : ST) (j : Nat) (v : Int32) : ST := (upd σ.1 j v, σ.2)
def sL (σ : ST) (j : Nat) (v : Int64) : ST := (σ.1, vp_updL σ.2.1 j v, σ.2.2)
def sA (σ : ST) (a i : Nat) (v : Int32) : ST := (σ.1, σ.2.1, va_up σ.2.2.1 a (upd (σ.2.2.1 a) i v), σ.2.2.2)
def sW (σ : ST) (a : Nat) (f : Nat → Int32) : ST := (σ.1, σ.2.1, va_up σ.2.2.1 a f, σ.2.2.2)
def sV (σ : ST) (i : Nat) (v : Int64) : ST := (σ.1, σ.2.1, σ.2.2.1, vp_updL σ.2.2.2.1 i v, σ.2.2.2.2)
def sR (σ : ST) (a i : Nat) (v : Option Nat) : ST := (σ.1, σ.2.1, σ.2.2.1, σ.2.2.2.1, va_up σ.2.2.2.2.1 a (va_up (σ.2.2.2.2.1 a) i v), σ.2.2.2.2.2)
def sP (σ : ST) (q j : Nat) (v : Int32) : ST := (σ.1, σ.2.1, σ.2.2.1, σ.2.2.2.1, σ.2.2.2.2.1, σ.2.2.2.2.2.1, σ.2.2.2.2.2.2.1, va_up σ.2.2.2.2.2.2.2.1 q (upd (σ.2.2.2.2.2.2.2.1 q) j v), σ.2.2.2.2.2.2.2.2)
def sF (σ : ST) (q : Nat) (f : Nat → Option Nat) : ST := (σ.1, σ.2.1, σ.2.2.1, σ.2.2.2.1, σ.2.2.2.2.1, σ.2.2.2.2.2.1, σ.2.2.2.2.2.2.1, σ.2.2.2.2.2.2.2.1, σ.2.2.2.2.2.2.2.2.1, va_up σ.2.2.2.2.2.2.2.2.2.1 q f, σ.2.2.2.2.2.2.2.2.2.2)
def sQ (σ : ST) (q i : Nat) (v : Option Nat) : ST := sF σ q (va_up (pR σ q) i v)
def sE (σ : ST) (j : Nat) (v : Nat) : ST := (σ.1, σ.2.1, σ.2.2.1, σ.2.2.2.1, σ.2.2.2.2.1, σ.2.2.2.2.2.1, σ.2.2.2.2.2.2.1, σ.2.2.2.2.2.2.2.1, σ.2.2.2.2.2.2.2.2.1, σ.2.2.2.2.2.2.2.2.2.1, va_up σ.2.2.2.2.2.2.2.2.2.2 j v)
/-- a new pooled cell: its address, kind, numbers, size, places -/
def sN (σ : ST) (q kd : Nat) (p : Nat → Int32) (c : Nat) (f : Nat → Option Nat) : ST := (σ.1, σ.2.1, σ.2.2.1, σ.2.2.2.1, σ.2.2.2.2.1, σ.2.2.2.2.2.1 ++ [q], va_up σ.2.2.2.2.2.2.1 q kd, va_up σ.2.2.2.2.2.2.2.1 q p, va_up σ.2.2.2.2.2.2.2.2.1 q c, va_up σ.2.2.2.2.2.2.2.2.2.1 q f, σ.2.2.2.2.2.2.2.2.2.2)
def ttf (cs : Nat → ClassId) : List (ClassId × FieldType) := [(cs 0, .int), (cs 1, .boolean), (cs 2, .long), (cs 3, .object "TollLedger$Account"), (cs 4, .object "TollLedger$Offer"), (cs 5, .object "java/lang/Object")]
def pe1 (p : Nat → Int32) : va_E := .inr (6, [.int (p 0), .int (p 1), .int (p 2), .int (p 3)])
def pe2 (p : Nat → Int32) : va_E := .inr (7, [.int (p 0), .int (p 1), .int (p 2), .int (p 3), .int (p 4), .int (p 5)])
def pe3 (p : Nat → Int32) : va_E := .inr (8, [.int (p 0), .int (p 1), .int (p 2), .int (p 3), .int (p 4), .int (p 5)])
def pe0 (c : ClassId) (n : Nat) (f : Nat → Option Nat) : va_E := .inl (c, n, .inr (.inr (.inr (.inr f))))
def pfn (cs : Nat → ClassId) (σ : ST) (q : Nat) : va_E := if pK σ q = 1 then pe1 (pP σ q) else if pK σ q = 2 then pe2 (pP σ q) else if pK σ q = 3 then pe3 (pP σ q) else pe0 (cs 5) (pC σ q) (pR σ q)
def wfx (ad : Nat → Nat) (cs : Nat → ClassId) (σ : ST) : va_W := [(ad 0, .inr (0, [.ref (ad 1), .ref (ad 4), .ref (ad 5), .int (gI σ 0), .int (gI σ 1), .int (gI σ 2), .int (gI σ 3), .int (gI σ 4), .int (gI σ 5), .int (gI σ 6)])),
  (ad 1, .inr (1, [.ref (ad 8), .ref (ad 2), .ref (ad 6), .ref (ad 7), .int (gI σ 7), .int (gI σ 8)])),
  (ad 2, .inr (2, [.ref (ad 9), .ref (ad 10), .ref (ad 11)])),
  (ad 3, .inr (3, [.ref (ad 12), .int (gI σ 9)])),
  (ad 4, .inr (4, [.ref (ad 1), .ref (ad 3), .ref (ad 13), .ref (ad 14), .ref (ad 15), .ref (ad 16), .int (gI σ 10), .int (gI σ 11), .int (gI σ 12), .int (gI σ 13), .int (gI σ 14), .int (gI σ 15), .int (gI σ 16)])),
  (ad 5, .inr (5, [.ref (ad 17)])),
  (ad 6, .inr (9, [.int (gI σ 17), .ref (gE σ 0), .int (gI σ 18)])),
  (ad 7, .inr (9, [.int (gI σ 19), .ref (gE σ 1), .int (gI σ 20)])),
  (ad 8, .inl (cs 3, 6, .inr (.inr (.inr (.inr (gR σ 0)))))),
  (ad 9, .inl (cs 0, 72, .inl (gA σ 0))),
  (ad 10, .inl (cs 0, 72, .inl (gA σ 1))),
  (ad 11, .inl (cs 1, 72, .inl (gA σ 2))),
  (ad 12, .inl (cs 4, 12, .inr (.inr (.inr (.inr (gR σ 1)))))),
  (ad 13, .inl (cs 0, 12, .inl (gA σ 3))),
  (ad 14, .inl (cs 0, 12, .inl (gA σ 4))),
  (ad 15, .inl (cs 0, 6, .inl (gA σ 5))),
  (ad 16, .inl (cs 0, 6, .inl (gA σ 6))),
  (ad 17, .inl (cs 0, 64, .inl (gA σ 7))),
  (ad 18, .inr (10, [.ref (ad 19), .ref (ad 20), .ref (ad 21), .ref (ad 22), .ref (ad 23), .ref (ad 24), .ref (ad 25), .int (gI σ 21), .int (gI σ 22), .ref (ad 26), .ref (ad 27), .ref (ad 28), .ref (ad 29), .ref (ad 30), .ref (ad 31), .int (gI σ 23), .int (gI σ 24), .ref (ad 32), .ref (ad 33), .ref (ad 34), .ref (ad 35), .ref (ad 36), .ref (ad 37), .int (gI σ 25), .int (gI σ 26), .int (gI σ 27), .int (gI σ 28), .int (gI σ 29), .int (gI σ 30), .int (gI σ 31), .ref (ad 38), .ref (ad 39), .ref (ad 40), .ref (ad 41), .ref (ad 42), .int (gI σ 32), .long (gL σ 0), .long (gL σ 1), .ref (ad 43)])),
  (ad 19, .inl (cs 1, 6, .inl (gA σ 8))),
  (ad 20, .inl (cs 0, 6, .inl (gA σ 9))),
  (ad 21, .inl (cs 0, 6, .inl (gA σ 10))),
  (ad 22, .inl (cs 0, 6, .inl (gA σ 11))),
  (ad 23, .inl (cs 0, 72, .inl (gA σ 12))),
  (ad 24, .inl (cs 0, 72, .inl (gA σ 13))),
  (ad 25, .inl (cs 1, 72, .inl (gA σ 14))),
  (ad 26, .inl (cs 0, 12, .inl (gA σ 15))),
  (ad 27, .inl (cs 0, 12, .inl (gA σ 16))),
  (ad 28, .inl (cs 0, 12, .inl (gA σ 17))),
  (ad 29, .inl (cs 0, 12, .inl (gA σ 18))),
  (ad 30, .inl (cs 0, 12, .inl (gA σ 19))),
  (ad 31, .inl (cs 0, 12, .inl (gA σ 20))),
  (ad 32, .inl (cs 0, 6, .inl (gA σ 21))),
  (ad 33, .inl (cs 0, 6, .inl (gA σ 22))),
  (ad 34, .inl (cs 0, 6, .inl (gA σ 23))),
  (ad 35, .inl (cs 0, 6, .inl (gA σ 24))),
  (ad 36, .inl (cs 0, 6, .inl (gA σ 25))),
  (ad 37, .inl (cs 0, 6, .inl (gA σ 26))),
  (ad 38, .inl (cs 0, 12, .inl (gA σ 27))),
  (ad 39, .inl (cs 0, 12, .inl (gA σ 28))),
  (ad 40, .inl (cs 1, 12, .inl (gA σ 29))),
  (ad 41, .inl (cs 1, 12, .inl (gA σ 30))),
  (ad 42, .inl (cs 2, 6, .inr (.inl (gV σ)))),
  (ad 43, .inl (cs 0, 4, .inl (gA σ 31)))]
def wfm (ad : Nat → Nat) (cs : Nat → ClassId) (σ : ST) : va_W := wfx ad cs σ ++ va_pl (pL σ) (pfn cs σ)
section STROWS
variable {X : JX} {l0 : Launch} {D0 : va_G} {ad : Nat → Nat} {cs : Nat → ClassId} {eE : Nat} {cc : ByteArray} {own : String} {nL : Nat} {cd : Cond} {fr lo ce sl k n : Nat} {σ σ' : ST} {pc : Nat} {loc : List (Nat × Value)} {rest : List Value}
theorem up_inB {w : Cond} {ws : List Cond} (h : ∀ w ∈ ws, w ∈ BIG) : ∀ w ∈ ws, w ∈ cd :: BIG := fun w hw => List.mem_cons_of_mem _ (h w hw)
theorem rdp1 {q : Nat} (h : q ∈ pL σ ∧ pK σ q = 1) : Rd (wfm ad cs σ) q (pe1 (pP σ q)) := by
  obtain ⟨k, hk⟩ := va_pl_get (X := wfx ad cs σ) (f := pfn cs σ) h.1
  refine ⟨k, hk.trans ?_⟩
  unfold pfn
  rw [if_pos h.2]
theorem rdp2 {q : Nat} (h : q ∈ pL σ ∧ pK σ q = 2) : Rd (wfm ad cs σ) q (pe2 (pP σ q)) := by
  obtain ⟨k, hk⟩ := va_pl_get (X := wfx ad cs σ) (f := pfn cs σ) h.1
  refine ⟨k, hk.trans ?_⟩
  unfold pfn
  rw [if_neg (by rw [h.2]; decide), if_pos h.2]
theorem rdp3 {q : Nat} (h : q ∈ pL σ ∧ pK σ q = 3) : Rd (wfm ad cs σ) q (pe3 (pP σ q)) := by
  obtain ⟨k, hk⟩ := va_pl_get (X := wfx ad cs σ) (f := pfn cs σ) h.1
  refine ⟨k, hk.trans ?_⟩
  unfold pfn
  rw [if_neg (by rw [h.2]; decide), if_neg (by rw [h.2]; decide), if_pos h.2]
theorem rdp0 {q : Nat} (h : q ∈ pL σ ∧ pK σ q = 0) : Rd (wfm ad cs σ) q (pe0 (cs 5) (pC σ q) (pR σ q)) := by
  obtain ⟨k, hk⟩ := va_pl_get (X := wfx ad cs σ) (f := pfn cs σ) h.1
  refine ⟨k, hk.trans ?_⟩
  unfold pfn
  rw [if_neg (by rw [h.2]; decide), if_neg (by rw [h.2]; decide), if_neg (by rw [h.2]; decide)]
/-- a pooled cell is written: the fixed cells stay, the others of the pool too -/
theorem wrp {q : Nat} {e e' : va_E} (hq : q ∈ pL σ) (he : pfn cs σ q = e) (hx : wfx ad cs σ' = wfx ad cs σ) (hL : pL σ' = pL σ) (hs : pfn cs σ' q = e') (ho : ∀ a, a ≠ q → pfn cs σ' a = pfn cs σ a) : Wr (wfm ad cs σ) q e e' (wfm ad cs σ') := by
  intro A hD
  obtain ⟨k, hk⟩ := va_pl_get (X := wfx ad cs σ) (f := pfn cs σ) hq
  refine ⟨k, by rw [← he]; exact hk, ?_⟩
  show (wfx ad cs σ ++ va_pl (pL σ) (pfn cs σ)).set k (q, e') = _
  rw [va_pl_set (e := e') hD hq hk]
  unfold wfm
  rw [hx, hL]
  congr 1
  apply va_pl_congr
  intro a
  by_cases ha : a = q
  · subst ha
    rw [va_up_self, hs]
  · rw [va_up_ne _ _ ha, ho a ha]
theorem wrp1 {q j : Nat} {v : Int32} (h : q ∈ pL σ ∧ pK σ q = 1) : Wr (wfm ad cs σ) q (pe1 (pP σ q)) (pe1 (upd (pP σ q) j v)) (wfm ad cs (sP σ q j v)) := by
  refine wrp h.1 ?_ rfl rfl ?_ (fun a ha => ?_)
  · unfold pfn
    rw [if_pos h.2]
  · have hk : pK (sP σ q j v) q = 1 := h.2
    have hp : pP (sP σ q j v) q = upd (pP σ q) j v := by
      show va_up _ q _ q = _
      rw [va_up_self]; rfl
    unfold pfn
    rw [if_pos hk, hp]
  · have hp : pP (sP σ q j v) a = pP σ a := by
      show va_up _ q _ a = _
      rw [va_up_ne _ _ ha]; rfl
    unfold pfn
    rw [hp]
    rfl
theorem wrp2 {q j : Nat} {v : Int32} (h : q ∈ pL σ ∧ pK σ q = 2) : Wr (wfm ad cs σ) q (pe2 (pP σ q)) (pe2 (upd (pP σ q) j v)) (wfm ad cs (sP σ q j v)) := by
  refine wrp h.1 ?_ rfl rfl ?_ (fun a ha => ?_)
  · unfold pfn
    rw [if_neg (by rw [h.2]; decide), if_pos h.2]
  · have hk : pK (sP σ q j v) q = 2 := h.2
    have hp : pP (sP σ q j v) q = upd (pP σ q) j v := by
      show va_up _ q _ q = _
      rw [va_up_self]; rfl
    unfold pfn
    rw [if_neg (by rw [hk]; decide), if_pos hk, hp]
  · have hp : pP (sP σ q j v) a = pP σ a := by
      show va_up _ q _ a = _
      rw [va_up_ne _ _ ha]; rfl
    unfold pfn
    rw [hp]
    rfl
theorem wrp3 {q j : Nat} {v : Int32} (h : q ∈ pL σ ∧ pK σ q = 3) : Wr (wfm ad cs σ) q (pe3 (pP σ q)) (pe3 (upd (pP σ q) j v)) (wfm ad cs (sP σ q j v)) := by
  refine wrp h.1 ?_ rfl rfl ?_ (fun a ha => ?_)
  · unfold pfn
    rw [if_neg (by rw [h.2]; decide), if_neg (by rw [h.2]; decide), if_pos h.2]
  · have hk : pK (sP σ q j v) q = 3 := h.2
    have hp : pP (sP σ q j v) q = upd (pP σ q) j v := by
      show va_up _ q _ q = _
      rw [va_up_self]; rfl
    unfold pfn
    rw [if_neg (by rw [hk]; decide), if_neg (by rw [hk]; decide), if_pos hk, hp]
  · have hp : pP (sP σ q j v) a = pP σ a := by
      show va_up _ q _ a = _
      rw [va_up_ne _ _ ha]; rfl
    unfold pfn
    rw [hp]
    rfl
theorem wrp0 {q : Nat} {f : Nat → Option Nat} (h : q ∈ pL σ ∧ pK σ q = 0) : Wr (wfm ad cs σ) q (pe0 (cs 5) (pC σ q) (pR σ q)) (pe0 (cs 5) (pC σ q) f) (wfm ad cs (sF σ q f)) := by
  refine wrp h.1 ?_ rfl rfl ?_ (fun a ha => ?_)
  · unfold pfn
    rw [if_neg (by rw [h.2]; decide), if_neg (by rw [h.2]; decide), if_neg (by rw [h.2]; decide)]
  · have hk : pK (sF σ q f) q = 0 := h.2
    have hp : pR (sF σ q f) q = f := by
      show va_up _ q _ q = _
      rw [va_up_self]
    unfold pfn
    rw [if_neg (by rw [hk]; decide), if_neg (by rw [hk]; decide), if_neg (by rw [hk]; decide), hp]
    rfl
  · have hp : pR (sF σ q f) a = pR σ a := by
      show va_up _ q _ a = _
      rw [va_up_ne _ _ ha]; rfl
    unfold pfn
    rw [hp]
    rfl
theorem g_TL_state (C : JC X l0 D0 (ttf cs) eE cc own nL (cd :: BIG) fr lo ce sl) {ix : Nat} (hw : Cond.fieldLink own ix "TollLedger" "state" "LTollLedger$State;" ∈ cd :: BIG) (hd : decode cc pc = .ok (.getfield ix, 3)) (kk : J (wfm ad cs) X nL k n σ (pc + 3) loc (.ref (ad 1) :: rest)) : J (wfm ad cs) X nL k n σ pc loc (.ref (ad 0) :: rest) :=
  j_get (T := T_TL) (N := 10) (Cn := "TollLedger") (ci := 0) (j := 0) C (fun w h => List.mem_cons_of_mem _ (in_TL w h)) ⟨0, rfl⟩ rfl (by decide) hw (Or.inl rfl) rfl hd kk
theorem g_TL_taking (C : JC X l0 D0 (ttf cs) eE cc own nL (cd :: BIG) fr lo ce sl) {ix : Nat} (hw : Cond.fieldLink own ix "TollLedger" "taking" "LTollLedger$Taking;" ∈ cd :: BIG) (hd : decode cc pc = .ok (.getfield ix, 3)) (kk : J (wfm ad cs) X nL k n σ (pc + 3) loc (.ref (ad 4) :: rest)) : J (wfm ad cs) X nL k n σ pc loc (.ref (ad 0) :: rest) :=
  j_get (T := T_TL) (N := 10) (Cn := "TollLedger") (ci := 0) (j := 1) C (fun w h => List.mem_cons_of_mem _ (in_TL w h)) ⟨0, rfl⟩ rfl (by decide) hw (Or.inl rfl) rfl hd kk
theorem g_TL_leaves (C : JC X l0 D0 (ttf cs) eE cc own nL (cd :: BIG) fr lo ce sl) {ix : Nat} (hw : Cond.fieldLink own ix "TollLedger" "leaves" "LTollLedger$Leaves;" ∈ cd :: BIG) (hd : decode cc pc = .ok (.getfield ix, 3)) (kk : J (wfm ad cs) X nL k n σ (pc + 3) loc (.ref (ad 5) :: rest)) : J (wfm ad cs) X nL k n σ pc loc (.ref (ad 0) :: rest) :=
  j_get (T := T_TL) (N := 10) (Cn := "TollLedger") (ci := 0) (j := 2) C (fun w h => List.mem_cons_of_mem _ (in_TL w h)) ⟨0, rfl⟩ rfl (by decide) hw (Or.inl rfl) rfl hd kk
theorem g_TL_signer (C : JC X l0 D0 (ttf cs) eE cc own nL (cd :: BIG) fr lo ce sl) {ix : Nat} (hw : Cond.fieldLink own ix "TollLedger" "signer" "I" ∈ cd :: BIG) (hd : decode cc pc = .ok (.getfield ix, 3)) (kk : J (wfm ad cs) X nL k n σ (pc + 3) loc (.int (gI σ 0) :: rest)) : J (wfm ad cs) X nL k n σ pc loc (.ref (ad 0) :: rest) :=
  j_get (T := T_TL) (N := 10) (Cn := "TollLedger") (ci := 0) (j := 3) C (fun w h => List.mem_cons_of_mem _ (in_TL w h)) ⟨0, rfl⟩ rfl (by decide) hw (Or.inl rfl) rfl hd kk
theorem p_TL_signer (C : JC X l0 D0 (ttf cs) eE cc own nL (cd :: BIG) fr lo ce sl) {ix : Nat} {v : Int32} (e : σ' = sI σ 0 v) (hw : Cond.fieldLink own ix "TollLedger" "signer" "I" ∈ cd :: BIG) (hd : decode cc pc = .ok (.putfield ix, 3)) (kk : J (wfm ad cs) X nL k n σ' (pc + 3) loc (rest)) : J (wfm ad cs) X nL k n σ pc loc (.int v :: .ref (ad 0) :: rest) := by
  subst e
  exact j_put (T := T_TL) (N := 10) (Cn := "TollLedger") (ci := 0) (j := 3) (ty := .int) C (fun w h => List.mem_cons_of_mem _ (in_TL w h)) tk_TL nm_TL (fun _ _ => ⟨0, rfl, rfl⟩) rfl (by decide) hw (Or.inl rfl) rfl (by decide +kernel) rfl rfl (Nat.le_of_ble_eq_true rfl) hd kk
theorem g_TL_signedNumber (C : JC X l0 D0 (ttf cs) eE cc own nL (cd :: BIG) fr lo ce sl) {ix : Nat} (hw : Cond.fieldLink own ix "TollLedger" "signedNumber" "I" ∈ cd :: BIG) (hd : decode cc pc = .ok (.getfield ix, 3)) (kk : J (wfm ad cs) X nL k n σ (pc + 3) loc (.int (gI σ 1) :: rest)) : J (wfm ad cs) X nL k n σ pc loc (.ref (ad 0) :: rest) :=
  j_get (T := T_TL) (N := 10) (Cn := "TollLedger") (ci := 0) (j := 4) C (fun w h => List.mem_cons_of_mem _ (in_TL w h)) ⟨0, rfl⟩ rfl (by decide) hw (Or.inl rfl) rfl hd kk
theorem p_TL_signedNumber (C : JC X l0 D0 (ttf cs) eE cc own nL (cd :: BIG) fr lo ce sl) {ix : Nat} {v : Int32} (e : σ' = sI σ 1 v) (hw : Cond.fieldLink own ix "TollLedger" "signedNumber" "I" ∈ cd :: BIG) (hd : decode cc pc = .ok (.putfield ix, 3)) (kk : J (wfm ad cs) X nL k n σ' (pc + 3) loc (rest)) : J (wfm ad cs) X nL k n σ pc loc (.int v :: .ref (ad 0) :: rest) := by
  subst e
  exact j_put (T := T_TL) (N := 10) (Cn := "TollLedger") (ci := 0) (j := 4) (ty := .int) C (fun w h => List.mem_cons_of_mem _ (in_TL w h)) tk_TL nm_TL (fun _ _ => ⟨0, rfl, rfl⟩) rfl (by decide) hw (Or.inl rfl) rfl (by decide +kernel) rfl rfl (Nat.le_of_ble_eq_true rfl) hd kk
theorem g_TL_spendAsset (C : JC X l0 D0 (ttf cs) eE cc own nL (cd :: BIG) fr lo ce sl) {ix : Nat} (hw : Cond.fieldLink own ix "TollLedger" "spendAsset" "I" ∈ cd :: BIG) (hd : decode cc pc = .ok (.getfield ix, 3)) (kk : J (wfm ad cs) X nL k n σ (pc + 3) loc (.int (gI σ 2) :: rest)) : J (wfm ad cs) X nL k n σ pc loc (.ref (ad 0) :: rest) :=
  j_get (T := T_TL) (N := 10) (Cn := "TollLedger") (ci := 0) (j := 5) C (fun w h => List.mem_cons_of_mem _ (in_TL w h)) ⟨0, rfl⟩ rfl (by decide) hw (Or.inl rfl) rfl hd kk
theorem p_TL_spendAsset (C : JC X l0 D0 (ttf cs) eE cc own nL (cd :: BIG) fr lo ce sl) {ix : Nat} {v : Int32} (e : σ' = sI σ 2 v) (hw : Cond.fieldLink own ix "TollLedger" "spendAsset" "I" ∈ cd :: BIG) (hd : decode cc pc = .ok (.putfield ix, 3)) (kk : J (wfm ad cs) X nL k n σ' (pc + 3) loc (rest)) : J (wfm ad cs) X nL k n σ pc loc (.int v :: .ref (ad 0) :: rest) := by
  subst e
  exact j_put (T := T_TL) (N := 10) (Cn := "TollLedger") (ci := 0) (j := 5) (ty := .int) C (fun w h => List.mem_cons_of_mem _ (in_TL w h)) tk_TL nm_TL (fun _ _ => ⟨0, rfl, rfl⟩) rfl (by decide) hw (Or.inl rfl) rfl (by decide +kernel) rfl rfl (Nat.le_of_ble_eq_true rfl) hd kk
theorem g_TL_spendMax (C : JC X l0 D0 (ttf cs) eE cc own nL (cd :: BIG) fr lo ce sl) {ix : Nat} (hw : Cond.fieldLink own ix "TollLedger" "spendMax" "I" ∈ cd :: BIG) (hd : decode cc pc = .ok (.getfield ix, 3)) (kk : J (wfm ad cs) X nL k n σ (pc + 3) loc (.int (gI σ 3) :: rest)) : J (wfm ad cs) X nL k n σ pc loc (.ref (ad 0) :: rest) :=
  j_get (T := T_TL) (N := 10) (Cn := "TollLedger") (ci := 0) (j := 6) C (fun w h => List.mem_cons_of_mem _ (in_TL w h)) ⟨0, rfl⟩ rfl (by decide) hw (Or.inl rfl) rfl hd kk
theorem p_TL_spendMax (C : JC X l0 D0 (ttf cs) eE cc own nL (cd :: BIG) fr lo ce sl) {ix : Nat} {v : Int32} (e : σ' = sI σ 3 v) (hw : Cond.fieldLink own ix "TollLedger" "spendMax" "I" ∈ cd :: BIG) (hd : decode cc pc = .ok (.putfield ix, 3)) (kk : J (wfm ad cs) X nL k n σ' (pc + 3) loc (rest)) : J (wfm ad cs) X nL k n σ pc loc (.int v :: .ref (ad 0) :: rest) := by
  subst e
  exact j_put (T := T_TL) (N := 10) (Cn := "TollLedger") (ci := 0) (j := 6) (ty := .int) C (fun w h => List.mem_cons_of_mem _ (in_TL w h)) tk_TL nm_TL (fun _ _ => ⟨0, rfl, rfl⟩) rfl (by decide) hw (Or.inl rfl) rfl (by decide +kernel) rfl rfl (Nat.le_of_ble_eq_true rfl) hd kk
theorem g_TL_spendPartial (C : JC X l0 D0 (ttf cs) eE cc own nL (cd :: BIG) fr lo ce sl) {ix : Nat} (hw : Cond.fieldLink own ix "TollLedger" "spendPartial" "Z" ∈ cd :: BIG) (hd : decode cc pc = .ok (.getfield ix, 3)) (kk : J (wfm ad cs) X nL k n σ (pc + 3) loc (.int (gI σ 4) :: rest)) : J (wfm ad cs) X nL k n σ pc loc (.ref (ad 0) :: rest) :=
  j_get (T := T_TL) (N := 10) (Cn := "TollLedger") (ci := 0) (j := 7) C (fun w h => List.mem_cons_of_mem _ (in_TL w h)) ⟨0, rfl⟩ rfl (by decide) hw (Or.inl rfl) rfl hd kk
theorem p_TL_spendPartial (C : JC X l0 D0 (ttf cs) eE cc own nL (cd :: BIG) fr lo ce sl) {ix : Nat} {v : Int32} (hz : v = 0 ∨ v = 1) (e : σ' = sI σ 4 v) (hw : Cond.fieldLink own ix "TollLedger" "spendPartial" "Z" ∈ cd :: BIG) (hd : decode cc pc = .ok (.putfield ix, 3)) (kk : J (wfm ad cs) X nL k n σ' (pc + 3) loc (rest)) : J (wfm ad cs) X nL k n σ pc loc (.int v :: .ref (ad 0) :: rest) := by
  subst e
  exact j_put (T := T_TL) (N := 10) (Cn := "TollLedger") (ci := 0) (j := 7) (ty := .boolean) C (fun w h => List.mem_cons_of_mem _ (in_TL w h)) tk_TL nm_TL (fun _ _ => ⟨0, rfl, rfl⟩) rfl (by decide) hw (Or.inl rfl) rfl (by decide +kernel) (by rcases hz with rfl | rfl <;> rfl) (by rcases hz with rfl | rfl <;> rfl) (Nat.le_of_ble_eq_true rfl) hd kk
theorem g_TL_clock (C : JC X l0 D0 (ttf cs) eE cc own nL (cd :: BIG) fr lo ce sl) {ix : Nat} (hw : Cond.fieldLink own ix "TollLedger" "clock" "I" ∈ cd :: BIG) (hd : decode cc pc = .ok (.getfield ix, 3)) (kk : J (wfm ad cs) X nL k n σ (pc + 3) loc (.int (gI σ 5) :: rest)) : J (wfm ad cs) X nL k n σ pc loc (.ref (ad 0) :: rest) :=
  j_get (T := T_TL) (N := 10) (Cn := "TollLedger") (ci := 0) (j := 8) C (fun w h => List.mem_cons_of_mem _ (in_TL w h)) ⟨0, rfl⟩ rfl (by decide) hw (Or.inl rfl) rfl hd kk
theorem p_TL_clock (C : JC X l0 D0 (ttf cs) eE cc own nL (cd :: BIG) fr lo ce sl) {ix : Nat} {v : Int32} (e : σ' = sI σ 5 v) (hw : Cond.fieldLink own ix "TollLedger" "clock" "I" ∈ cd :: BIG) (hd : decode cc pc = .ok (.putfield ix, 3)) (kk : J (wfm ad cs) X nL k n σ' (pc + 3) loc (rest)) : J (wfm ad cs) X nL k n σ pc loc (.int v :: .ref (ad 0) :: rest) := by
  subst e
  exact j_put (T := T_TL) (N := 10) (Cn := "TollLedger") (ci := 0) (j := 8) (ty := .int) C (fun w h => List.mem_cons_of_mem _ (in_TL w h)) tk_TL nm_TL (fun _ _ => ⟨0, rfl, rfl⟩) rfl (by decide) hw (Or.inl rfl) rfl (by decide +kernel) rfl rfl (Nat.le_of_ble_eq_true rfl) hd kk
theorem g_TL_burntCoins (C : JC X l0 D0 (ttf cs) eE cc own nL (cd :: BIG) fr lo ce sl) {ix : Nat} (hw : Cond.fieldLink own ix "TollLedger" "burntCoins" "I" ∈ cd :: BIG) (hd : decode cc pc = .ok (.getfield ix, 3)) (kk : J (wfm ad cs) X nL k n σ (pc + 3) loc (.int (gI σ 6) :: rest)) : J (wfm ad cs) X nL k n σ pc loc (.ref (ad 0) :: rest) :=
  j_get (T := T_TL) (N := 10) (Cn := "TollLedger") (ci := 0) (j := 9) C (fun w h => List.mem_cons_of_mem _ (in_TL w h)) ⟨0, rfl⟩ rfl (by decide) hw (Or.inl rfl) rfl hd kk
theorem p_TL_burntCoins (C : JC X l0 D0 (ttf cs) eE cc own nL (cd :: BIG) fr lo ce sl) {ix : Nat} {v : Int32} (e : σ' = sI σ 6 v) (hw : Cond.fieldLink own ix "TollLedger" "burntCoins" "I" ∈ cd :: BIG) (hd : decode cc pc = .ok (.putfield ix, 3)) (kk : J (wfm ad cs) X nL k n σ' (pc + 3) loc (rest)) : J (wfm ad cs) X nL k n σ pc loc (.int v :: .ref (ad 0) :: rest) := by
  subst e
  exact j_put (T := T_TL) (N := 10) (Cn := "TollLedger") (ci := 0) (j := 9) (ty := .int) C (fun w h => List.mem_cons_of_mem _ (in_TL w h)) tk_TL nm_TL (fun _ _ => ⟨0, rfl, rfl⟩) rfl (by decide) hw (Or.inl rfl) rfl (by decide +kernel) rfl rfl (Nat.le_of_ble_eq_true rfl) hd kk
theorem g_ST_accounts (C : JC X l0 D0 (ttf cs) eE cc own nL (cd :: BIG) fr lo ce sl) {ix : Nat} (hw : Cond.fieldLink own ix "TollLedger$State" "accounts" "[LTollLedger$Account;" ∈ cd :: BIG) (hd : decode cc pc = .ok (.getfield ix, 3)) (kk : J (wfm ad cs) X nL k n σ (pc + 3) loc (.ref (ad 8) :: rest)) : J (wfm ad cs) X nL k n σ pc loc (.ref (ad 1) :: rest) :=
  j_get (T := T_ST) (N := 6) (Cn := "TollLedger$State") (ci := 1) (j := 0) C (fun w h => List.mem_cons_of_mem _ (in_ST w h)) ⟨1, rfl⟩ rfl (by decide) hw (Or.inl rfl) rfl hd kk
theorem g_ST_lines (C : JC X l0 D0 (ttf cs) eE cc own nL (cd :: BIG) fr lo ce sl) {ix : Nat} (hw : Cond.fieldLink own ix "TollLedger$State" "lines" "LTollLedger$Lines;" ∈ cd :: BIG) (hd : decode cc pc = .ok (.getfield ix, 3)) (kk : J (wfm ad cs) X nL k n σ (pc + 3) loc (.ref (ad 2) :: rest)) : J (wfm ad cs) X nL k n σ pc loc (.ref (ad 1) :: rest) :=
  j_get (T := T_ST) (N := 6) (Cn := "TollLedger$State") (ci := 1) (j := 1) C (fun w h => List.mem_cons_of_mem _ (in_ST w h)) ⟨1, rfl⟩ rfl (by decide) hw (Or.inl rfl) rfl hd kk
theorem g_ST_offers (C : JC X l0 D0 (ttf cs) eE cc own nL (cd :: BIG) fr lo ce sl) {ix : Nat} (hw : Cond.fieldLink own ix "TollLedger$State" "offers" "Ljava/util/ArrayList;" ∈ cd :: BIG) (hd : decode cc pc = .ok (.getfield ix, 3)) (kk : J (wfm ad cs) X nL k n σ (pc + 3) loc (.ref (ad 6) :: rest)) : J (wfm ad cs) X nL k n σ pc loc (.ref (ad 1) :: rest) :=
  j_get (T := T_ST) (N := 6) (Cn := "TollLedger$State") (ci := 1) (j := 2) C (fun w h => List.mem_cons_of_mem _ (in_ST w h)) ⟨1, rfl⟩ rfl (by decide) hw (Or.inl rfl) rfl hd kk
theorem g_ST_deposits (C : JC X l0 D0 (ttf cs) eE cc own nL (cd :: BIG) fr lo ce sl) {ix : Nat} (hw : Cond.fieldLink own ix "TollLedger$State" "deposits" "Ljava/util/ArrayList;" ∈ cd :: BIG) (hd : decode cc pc = .ok (.getfield ix, 3)) (kk : J (wfm ad cs) X nL k n σ (pc + 3) loc (.ref (ad 7) :: rest)) : J (wfm ad cs) X nL k n σ pc loc (.ref (ad 1) :: rest) :=
  j_get (T := T_ST) (N := 6) (Cn := "TollLedger$State") (ci := 1) (j := 3) C (fun w h => List.mem_cons_of_mem _ (in_ST w h)) ⟨1, rfl⟩ rfl (by decide) hw (Or.inl rfl) rfl hd kk
theorem g_ST_lastOfferId (C : JC X l0 D0 (ttf cs) eE cc own nL (cd :: BIG) fr lo ce sl) {ix : Nat} (hw : Cond.fieldLink own ix "TollLedger$State" "lastOfferId" "I" ∈ cd :: BIG) (hd : decode cc pc = .ok (.getfield ix, 3)) (kk : J (wfm ad cs) X nL k n σ (pc + 3) loc (.int (gI σ 7) :: rest)) : J (wfm ad cs) X nL k n σ pc loc (.ref (ad 1) :: rest) :=
  j_get (T := T_ST) (N := 6) (Cn := "TollLedger$State") (ci := 1) (j := 4) C (fun w h => List.mem_cons_of_mem _ (in_ST w h)) ⟨1, rfl⟩ rfl (by decide) hw (Or.inl rfl) rfl hd kk
theorem p_ST_lastOfferId (C : JC X l0 D0 (ttf cs) eE cc own nL (cd :: BIG) fr lo ce sl) {ix : Nat} {v : Int32} (e : σ' = sI σ 7 v) (hw : Cond.fieldLink own ix "TollLedger$State" "lastOfferId" "I" ∈ cd :: BIG) (hd : decode cc pc = .ok (.putfield ix, 3)) (kk : J (wfm ad cs) X nL k n σ' (pc + 3) loc (rest)) : J (wfm ad cs) X nL k n σ pc loc (.int v :: .ref (ad 1) :: rest) := by
  subst e
  exact j_put (T := T_ST) (N := 6) (Cn := "TollLedger$State") (ci := 1) (j := 4) (ty := .int) C (fun w h => List.mem_cons_of_mem _ (in_ST w h)) tk_ST nm_ST (fun _ _ => ⟨1, rfl, rfl⟩) rfl (by decide) hw (Or.inl rfl) rfl (by decide +kernel) rfl rfl (Nat.le_of_ble_eq_true rfl) hd kk
theorem g_ST_lastDepositId (C : JC X l0 D0 (ttf cs) eE cc own nL (cd :: BIG) fr lo ce sl) {ix : Nat} (hw : Cond.fieldLink own ix "TollLedger$State" "lastDepositId" "I" ∈ cd :: BIG) (hd : decode cc pc = .ok (.getfield ix, 3)) (kk : J (wfm ad cs) X nL k n σ (pc + 3) loc (.int (gI σ 8) :: rest)) : J (wfm ad cs) X nL k n σ pc loc (.ref (ad 1) :: rest) :=
  j_get (T := T_ST) (N := 6) (Cn := "TollLedger$State") (ci := 1) (j := 5) C (fun w h => List.mem_cons_of_mem _ (in_ST w h)) ⟨1, rfl⟩ rfl (by decide) hw (Or.inl rfl) rfl hd kk
theorem p_ST_lastDepositId (C : JC X l0 D0 (ttf cs) eE cc own nL (cd :: BIG) fr lo ce sl) {ix : Nat} {v : Int32} (e : σ' = sI σ 8 v) (hw : Cond.fieldLink own ix "TollLedger$State" "lastDepositId" "I" ∈ cd :: BIG) (hd : decode cc pc = .ok (.putfield ix, 3)) (kk : J (wfm ad cs) X nL k n σ' (pc + 3) loc (rest)) : J (wfm ad cs) X nL k n σ pc loc (.int v :: .ref (ad 1) :: rest) := by
  subst e
  exact j_put (T := T_ST) (N := 6) (Cn := "TollLedger$State") (ci := 1) (j := 5) (ty := .int) C (fun w h => List.mem_cons_of_mem _ (in_ST w h)) tk_ST nm_ST (fun _ _ => ⟨1, rfl, rfl⟩) rfl (by decide) hw (Or.inl rfl) rfl (by decide +kernel) rfl rfl (Nat.le_of_ble_eq_true rfl) hd kk
theorem g_LN_balances (C : JC X l0 D0 (ttf cs) eE cc own nL (cd :: BIG) fr lo ce sl) {ix : Nat} (hw : Cond.fieldLink own ix "TollLedger$Lines" "balances" "[I" ∈ cd :: BIG) (hd : decode cc pc = .ok (.getfield ix, 3)) (kk : J (wfm ad cs) X nL k n σ (pc + 3) loc (.ref (ad 9) :: rest)) : J (wfm ad cs) X nL k n σ pc loc (.ref (ad 2) :: rest) :=
  j_get (T := T_LN) (N := 3) (Cn := "TollLedger$Lines") (ci := 2) (j := 0) C (fun w h => List.mem_cons_of_mem _ (in_LN w h)) ⟨2, rfl⟩ rfl (by decide) hw (Or.inl rfl) rfl hd kk
theorem g_LN_limits (C : JC X l0 D0 (ttf cs) eE cc own nL (cd :: BIG) fr lo ce sl) {ix : Nat} (hw : Cond.fieldLink own ix "TollLedger$Lines" "limits" "[I" ∈ cd :: BIG) (hd : decode cc pc = .ok (.getfield ix, 3)) (kk : J (wfm ad cs) X nL k n σ (pc + 3) loc (.ref (ad 10) :: rest)) : J (wfm ad cs) X nL k n σ pc loc (.ref (ad 2) :: rest) :=
  j_get (T := T_LN) (N := 3) (Cn := "TollLedger$Lines") (ci := 2) (j := 1) C (fun w h => List.mem_cons_of_mem _ (in_LN w h)) ⟨2, rfl⟩ rfl (by decide) hw (Or.inl rfl) rfl hd kk
theorem g_LN_quiets (C : JC X l0 D0 (ttf cs) eE cc own nL (cd :: BIG) fr lo ce sl) {ix : Nat} (hw : Cond.fieldLink own ix "TollLedger$Lines" "quiets" "[Z" ∈ cd :: BIG) (hd : decode cc pc = .ok (.getfield ix, 3)) (kk : J (wfm ad cs) X nL k n σ (pc + 3) loc (.ref (ad 11) :: rest)) : J (wfm ad cs) X nL k n σ pc loc (.ref (ad 2) :: rest) :=
  j_get (T := T_LN) (N := 3) (Cn := "TollLedger$Lines") (ci := 2) (j := 2) C (fun w h => List.mem_cons_of_mem _ (in_LN w h)) ⟨2, rfl⟩ rfl (by decide) hw (Or.inl rfl) rfl hd kk
theorem g_BK_row (C : JC X l0 D0 (ttf cs) eE cc own nL (cd :: BIG) fr lo ce sl) {ix : Nat} (hw : Cond.fieldLink own ix "TollLedger$Book" "row" "[LTollLedger$Offer;" ∈ cd :: BIG) (hd : decode cc pc = .ok (.getfield ix, 3)) (kk : J (wfm ad cs) X nL k n σ (pc + 3) loc (.ref (ad 12) :: rest)) : J (wfm ad cs) X nL k n σ pc loc (.ref (ad 3) :: rest) :=
  j_get (T := T_BK) (N := 2) (Cn := "TollLedger$Book") (ci := 3) (j := 0) C (fun w h => List.mem_cons_of_mem _ (in_BK w h)) ⟨3, rfl⟩ rfl (by decide) hw (Or.inl rfl) rfl hd kk
theorem g_BK_size (C : JC X l0 D0 (ttf cs) eE cc own nL (cd :: BIG) fr lo ce sl) {ix : Nat} (hw : Cond.fieldLink own ix "TollLedger$Book" "size" "I" ∈ cd :: BIG) (hd : decode cc pc = .ok (.getfield ix, 3)) (kk : J (wfm ad cs) X nL k n σ (pc + 3) loc (.int (gI σ 9) :: rest)) : J (wfm ad cs) X nL k n σ pc loc (.ref (ad 3) :: rest) :=
  j_get (T := T_BK) (N := 2) (Cn := "TollLedger$Book") (ci := 3) (j := 1) C (fun w h => List.mem_cons_of_mem _ (in_BK w h)) ⟨3, rfl⟩ rfl (by decide) hw (Or.inl rfl) rfl hd kk
theorem p_BK_size (C : JC X l0 D0 (ttf cs) eE cc own nL (cd :: BIG) fr lo ce sl) {ix : Nat} {v : Int32} (e : σ' = sI σ 9 v) (hw : Cond.fieldLink own ix "TollLedger$Book" "size" "I" ∈ cd :: BIG) (hd : decode cc pc = .ok (.putfield ix, 3)) (kk : J (wfm ad cs) X nL k n σ' (pc + 3) loc (rest)) : J (wfm ad cs) X nL k n σ pc loc (.int v :: .ref (ad 3) :: rest) := by
  subst e
  exact j_put (T := T_BK) (N := 2) (Cn := "TollLedger$Book") (ci := 3) (j := 1) (ty := .int) C (fun w h => List.mem_cons_of_mem _ (in_BK w h)) tk_BK nm_BK (fun _ _ => ⟨3, rfl, rfl⟩) rfl (by decide) hw (Or.inl rfl) rfl (by decide +kernel) rfl rfl (Nat.le_of_ble_eq_true rfl) hd kk
theorem g_TK_state (C : JC X l0 D0 (ttf cs) eE cc own nL (cd :: BIG) fr lo ce sl) {ix : Nat} (hw : Cond.fieldLink own ix "TollLedger$Taking" "state" "LTollLedger$State;" ∈ cd :: BIG) (hd : decode cc pc = .ok (.getfield ix, 3)) (kk : J (wfm ad cs) X nL k n σ (pc + 3) loc (.ref (ad 1) :: rest)) : J (wfm ad cs) X nL k n σ pc loc (.ref (ad 4) :: rest) :=
  j_get (T := T_TK) (N := 13) (Cn := "TollLedger$Taking") (ci := 4) (j := 0) C (fun w h => List.mem_cons_of_mem _ (in_TK w h)) ⟨4, rfl⟩ rfl (by decide) hw (Or.inl rfl) rfl hd kk
theorem g_TK_book (C : JC X l0 D0 (ttf cs) eE cc own nL (cd :: BIG) fr lo ce sl) {ix : Nat} (hw : Cond.fieldLink own ix "TollLedger$Taking" "book" "LTollLedger$Book;" ∈ cd :: BIG) (hd : decode cc pc = .ok (.getfield ix, 3)) (kk : J (wfm ad cs) X nL k n σ (pc + 3) loc (.ref (ad 3) :: rest)) : J (wfm ad cs) X nL k n σ pc loc (.ref (ad 4) :: rest) :=
  j_get (T := T_TK) (N := 13) (Cn := "TollLedger$Taking") (ci := 4) (j := 1) C (fun w h => List.mem_cons_of_mem _ (in_TK w h)) ⟨4, rfl⟩ rfl (by decide) hw (Or.inl rfl) rfl hd kk
theorem g_TK_amounts (C : JC X l0 D0 (ttf cs) eE cc own nL (cd :: BIG) fr lo ce sl) {ix : Nat} (hw : Cond.fieldLink own ix "TollLedger$Taking" "amounts" "[I" ∈ cd :: BIG) (hd : decode cc pc = .ok (.getfield ix, 3)) (kk : J (wfm ad cs) X nL k n σ (pc + 3) loc (.ref (ad 13) :: rest)) : J (wfm ad cs) X nL k n σ pc loc (.ref (ad 4) :: rest) :=
  j_get (T := T_TK) (N := 13) (Cn := "TollLedger$Taking") (ci := 4) (j := 2) C (fun w h => List.mem_cons_of_mem _ (in_TK w h)) ⟨4, rfl⟩ rfl (by decide) hw (Or.inl rfl) rfl hd kk
theorem g_TK_prices (C : JC X l0 D0 (ttf cs) eE cc own nL (cd :: BIG) fr lo ce sl) {ix : Nat} (hw : Cond.fieldLink own ix "TollLedger$Taking" "prices" "[I" ∈ cd :: BIG) (hd : decode cc pc = .ok (.getfield ix, 3)) (kk : J (wfm ad cs) X nL k n σ (pc + 3) loc (.ref (ad 14) :: rest)) : J (wfm ad cs) X nL k n σ pc loc (.ref (ad 4) :: rest) :=
  j_get (T := T_TK) (N := 13) (Cn := "TollLedger$Taking") (ci := 4) (j := 3) C (fun w h => List.mem_cons_of_mem _ (in_TK w h)) ⟨4, rfl⟩ rfl (by decide) hw (Or.inl rfl) rfl hd kk
theorem g_TK_funds (C : JC X l0 D0 (ttf cs) eE cc own nL (cd :: BIG) fr lo ce sl) {ix : Nat} (hw : Cond.fieldLink own ix "TollLedger$Taking" "funds" "[I" ∈ cd :: BIG) (hd : decode cc pc = .ok (.getfield ix, 3)) (kk : J (wfm ad cs) X nL k n σ (pc + 3) loc (.ref (ad 15) :: rest)) : J (wfm ad cs) X nL k n σ pc loc (.ref (ad 4) :: rest) :=
  j_get (T := T_TK) (N := 13) (Cn := "TollLedger$Taking") (ci := 4) (j := 4) C (fun w h => List.mem_cons_of_mem _ (in_TK w h)) ⟨4, rfl⟩ rfl (by decide) hw (Or.inl rfl) rfl hd kk
theorem g_TK_purses (C : JC X l0 D0 (ttf cs) eE cc own nL (cd :: BIG) fr lo ce sl) {ix : Nat} (hw : Cond.fieldLink own ix "TollLedger$Taking" "purses" "[I" ∈ cd :: BIG) (hd : decode cc pc = .ok (.getfield ix, 3)) (kk : J (wfm ad cs) X nL k n σ (pc + 3) loc (.ref (ad 16) :: rest)) : J (wfm ad cs) X nL k n σ pc loc (.ref (ad 4) :: rest) :=
  j_get (T := T_TK) (N := 13) (Cn := "TollLedger$Taking") (ci := 4) (j := 5) C (fun w h => List.mem_cons_of_mem _ (in_TK w h)) ⟨4, rfl⟩ rfl (by decide) hw (Or.inl rfl) rfl hd kk
theorem g_TK_taker (C : JC X l0 D0 (ttf cs) eE cc own nL (cd :: BIG) fr lo ce sl) {ix : Nat} (hw : Cond.fieldLink own ix "TollLedger$Taking" "taker" "I" ∈ cd :: BIG) (hd : decode cc pc = .ok (.getfield ix, 3)) (kk : J (wfm ad cs) X nL k n σ (pc + 3) loc (.int (gI σ 10) :: rest)) : J (wfm ad cs) X nL k n σ pc loc (.ref (ad 4) :: rest) :=
  j_get (T := T_TK) (N := 13) (Cn := "TollLedger$Taking") (ci := 4) (j := 6) C (fun w h => List.mem_cons_of_mem _ (in_TK w h)) ⟨4, rfl⟩ rfl (by decide) hw (Or.inl rfl) rfl hd kk
theorem p_TK_taker (C : JC X l0 D0 (ttf cs) eE cc own nL (cd :: BIG) fr lo ce sl) {ix : Nat} {v : Int32} (e : σ' = sI σ 10 v) (hw : Cond.fieldLink own ix "TollLedger$Taking" "taker" "I" ∈ cd :: BIG) (hd : decode cc pc = .ok (.putfield ix, 3)) (kk : J (wfm ad cs) X nL k n σ' (pc + 3) loc (rest)) : J (wfm ad cs) X nL k n σ pc loc (.int v :: .ref (ad 4) :: rest) := by
  subst e
  exact j_put (T := T_TK) (N := 13) (Cn := "TollLedger$Taking") (ci := 4) (j := 6) (ty := .int) C (fun w h => List.mem_cons_of_mem _ (in_TK w h)) tk_TK nm_TK (fun _ _ => ⟨4, rfl, rfl⟩) rfl (by decide) hw (Or.inl rfl) rfl (by decide +kernel) rfl rfl (Nat.le_of_ble_eq_true rfl) hd kk
theorem g_TK_paid (C : JC X l0 D0 (ttf cs) eE cc own nL (cd :: BIG) fr lo ce sl) {ix : Nat} (hw : Cond.fieldLink own ix "TollLedger$Taking" "paid" "I" ∈ cd :: BIG) (hd : decode cc pc = .ok (.getfield ix, 3)) (kk : J (wfm ad cs) X nL k n σ (pc + 3) loc (.int (gI σ 11) :: rest)) : J (wfm ad cs) X nL k n σ pc loc (.ref (ad 4) :: rest) :=
  j_get (T := T_TK) (N := 13) (Cn := "TollLedger$Taking") (ci := 4) (j := 7) C (fun w h => List.mem_cons_of_mem _ (in_TK w h)) ⟨4, rfl⟩ rfl (by decide) hw (Or.inl rfl) rfl hd kk
theorem p_TK_paid (C : JC X l0 D0 (ttf cs) eE cc own nL (cd :: BIG) fr lo ce sl) {ix : Nat} {v : Int32} (e : σ' = sI σ 11 v) (hw : Cond.fieldLink own ix "TollLedger$Taking" "paid" "I" ∈ cd :: BIG) (hd : decode cc pc = .ok (.putfield ix, 3)) (kk : J (wfm ad cs) X nL k n σ' (pc + 3) loc (rest)) : J (wfm ad cs) X nL k n σ pc loc (.int v :: .ref (ad 4) :: rest) := by
  subst e
  exact j_put (T := T_TK) (N := 13) (Cn := "TollLedger$Taking") (ci := 4) (j := 7) (ty := .int) C (fun w h => List.mem_cons_of_mem _ (in_TK w h)) tk_TK nm_TK (fun _ _ => ⟨4, rfl, rfl⟩) rfl (by decide) hw (Or.inl rfl) rfl (by decide +kernel) rfl rfl (Nat.le_of_ble_eq_true rfl) hd kk
theorem g_TK_got (C : JC X l0 D0 (ttf cs) eE cc own nL (cd :: BIG) fr lo ce sl) {ix : Nat} (hw : Cond.fieldLink own ix "TollLedger$Taking" "got" "I" ∈ cd :: BIG) (hd : decode cc pc = .ok (.getfield ix, 3)) (kk : J (wfm ad cs) X nL k n σ (pc + 3) loc (.int (gI σ 12) :: rest)) : J (wfm ad cs) X nL k n σ pc loc (.ref (ad 4) :: rest) :=
  j_get (T := T_TK) (N := 13) (Cn := "TollLedger$Taking") (ci := 4) (j := 8) C (fun w h => List.mem_cons_of_mem _ (in_TK w h)) ⟨4, rfl⟩ rfl (by decide) hw (Or.inl rfl) rfl hd kk
theorem p_TK_got (C : JC X l0 D0 (ttf cs) eE cc own nL (cd :: BIG) fr lo ce sl) {ix : Nat} {v : Int32} (e : σ' = sI σ 12 v) (hw : Cond.fieldLink own ix "TollLedger$Taking" "got" "I" ∈ cd :: BIG) (hd : decode cc pc = .ok (.putfield ix, 3)) (kk : J (wfm ad cs) X nL k n σ' (pc + 3) loc (rest)) : J (wfm ad cs) X nL k n σ pc loc (.int v :: .ref (ad 4) :: rest) := by
  subst e
  exact j_put (T := T_TK) (N := 13) (Cn := "TollLedger$Taking") (ci := 4) (j := 8) (ty := .int) C (fun w h => List.mem_cons_of_mem _ (in_TK w h)) tk_TK nm_TK (fun _ _ => ⟨4, rfl, rfl⟩) rfl (by decide) hw (Or.inl rfl) rfl (by decide +kernel) rfl rfl (Nat.le_of_ble_eq_true rfl) hd kk
theorem g_TK_reached (C : JC X l0 D0 (ttf cs) eE cc own nL (cd :: BIG) fr lo ce sl) {ix : Nat} (hw : Cond.fieldLink own ix "TollLedger$Taking" "reached" "I" ∈ cd :: BIG) (hd : decode cc pc = .ok (.getfield ix, 3)) (kk : J (wfm ad cs) X nL k n σ (pc + 3) loc (.int (gI σ 13) :: rest)) : J (wfm ad cs) X nL k n σ pc loc (.ref (ad 4) :: rest) :=
  j_get (T := T_TK) (N := 13) (Cn := "TollLedger$Taking") (ci := 4) (j := 9) C (fun w h => List.mem_cons_of_mem _ (in_TK w h)) ⟨4, rfl⟩ rfl (by decide) hw (Or.inl rfl) rfl hd kk
theorem p_TK_reached (C : JC X l0 D0 (ttf cs) eE cc own nL (cd :: BIG) fr lo ce sl) {ix : Nat} {v : Int32} (e : σ' = sI σ 13 v) (hw : Cond.fieldLink own ix "TollLedger$Taking" "reached" "I" ∈ cd :: BIG) (hd : decode cc pc = .ok (.putfield ix, 3)) (kk : J (wfm ad cs) X nL k n σ' (pc + 3) loc (rest)) : J (wfm ad cs) X nL k n σ pc loc (.int v :: .ref (ad 4) :: rest) := by
  subst e
  exact j_put (T := T_TK) (N := 13) (Cn := "TollLedger$Taking") (ci := 4) (j := 9) (ty := .int) C (fun w h => List.mem_cons_of_mem _ (in_TK w h)) tk_TK nm_TK (fun _ _ => ⟨4, rfl, rfl⟩) rfl (by decide) hw (Or.inl rfl) rfl (by decide +kernel) rfl rfl (Nat.le_of_ble_eq_true rfl) hd kk
theorem g_TK_taken (C : JC X l0 D0 (ttf cs) eE cc own nL (cd :: BIG) fr lo ce sl) {ix : Nat} (hw : Cond.fieldLink own ix "TollLedger$Taking" "taken" "I" ∈ cd :: BIG) (hd : decode cc pc = .ok (.getfield ix, 3)) (kk : J (wfm ad cs) X nL k n σ (pc + 3) loc (.int (gI σ 14) :: rest)) : J (wfm ad cs) X nL k n σ pc loc (.ref (ad 4) :: rest) :=
  j_get (T := T_TK) (N := 13) (Cn := "TollLedger$Taking") (ci := 4) (j := 10) C (fun w h => List.mem_cons_of_mem _ (in_TK w h)) ⟨4, rfl⟩ rfl (by decide) hw (Or.inl rfl) rfl hd kk
theorem p_TK_taken (C : JC X l0 D0 (ttf cs) eE cc own nL (cd :: BIG) fr lo ce sl) {ix : Nat} {v : Int32} (e : σ' = sI σ 14 v) (hw : Cond.fieldLink own ix "TollLedger$Taking" "taken" "I" ∈ cd :: BIG) (hd : decode cc pc = .ok (.putfield ix, 3)) (kk : J (wfm ad cs) X nL k n σ' (pc + 3) loc (rest)) : J (wfm ad cs) X nL k n σ pc loc (.int v :: .ref (ad 4) :: rest) := by
  subst e
  exact j_put (T := T_TK) (N := 13) (Cn := "TollLedger$Taking") (ci := 4) (j := 10) (ty := .int) C (fun w h => List.mem_cons_of_mem _ (in_TK w h)) tk_TK nm_TK (fun _ _ => ⟨4, rfl, rfl⟩) rfl (by decide) hw (Or.inl rfl) rfl (by decide +kernel) rfl rfl (Nat.le_of_ble_eq_true rfl) hd kk
theorem g_TK_price (C : JC X l0 D0 (ttf cs) eE cc own nL (cd :: BIG) fr lo ce sl) {ix : Nat} (hw : Cond.fieldLink own ix "TollLedger$Taking" "price" "I" ∈ cd :: BIG) (hd : decode cc pc = .ok (.getfield ix, 3)) (kk : J (wfm ad cs) X nL k n σ (pc + 3) loc (.int (gI σ 15) :: rest)) : J (wfm ad cs) X nL k n σ pc loc (.ref (ad 4) :: rest) :=
  j_get (T := T_TK) (N := 13) (Cn := "TollLedger$Taking") (ci := 4) (j := 11) C (fun w h => List.mem_cons_of_mem _ (in_TK w h)) ⟨4, rfl⟩ rfl (by decide) hw (Or.inl rfl) rfl hd kk
theorem p_TK_price (C : JC X l0 D0 (ttf cs) eE cc own nL (cd :: BIG) fr lo ce sl) {ix : Nat} {v : Int32} (e : σ' = sI σ 15 v) (hw : Cond.fieldLink own ix "TollLedger$Taking" "price" "I" ∈ cd :: BIG) (hd : decode cc pc = .ok (.putfield ix, 3)) (kk : J (wfm ad cs) X nL k n σ' (pc + 3) loc (rest)) : J (wfm ad cs) X nL k n σ pc loc (.int v :: .ref (ad 4) :: rest) := by
  subst e
  exact j_put (T := T_TK) (N := 13) (Cn := "TollLedger$Taking") (ci := 4) (j := 11) (ty := .int) C (fun w h => List.mem_cons_of_mem _ (in_TK w h)) tk_TK nm_TK (fun _ _ => ⟨4, rfl, rfl⟩) rfl (by decide) hw (Or.inl rfl) rfl (by decide +kernel) rfl rfl (Nat.le_of_ble_eq_true rfl) hd kk
theorem g_TK_cost (C : JC X l0 D0 (ttf cs) eE cc own nL (cd :: BIG) fr lo ce sl) {ix : Nat} (hw : Cond.fieldLink own ix "TollLedger$Taking" "cost" "I" ∈ cd :: BIG) (hd : decode cc pc = .ok (.getfield ix, 3)) (kk : J (wfm ad cs) X nL k n σ (pc + 3) loc (.int (gI σ 16) :: rest)) : J (wfm ad cs) X nL k n σ pc loc (.ref (ad 4) :: rest) :=
  j_get (T := T_TK) (N := 13) (Cn := "TollLedger$Taking") (ci := 4) (j := 12) C (fun w h => List.mem_cons_of_mem _ (in_TK w h)) ⟨4, rfl⟩ rfl (by decide) hw (Or.inl rfl) rfl hd kk
theorem p_TK_cost (C : JC X l0 D0 (ttf cs) eE cc own nL (cd :: BIG) fr lo ce sl) {ix : Nat} {v : Int32} (e : σ' = sI σ 16 v) (hw : Cond.fieldLink own ix "TollLedger$Taking" "cost" "I" ∈ cd :: BIG) (hd : decode cc pc = .ok (.putfield ix, 3)) (kk : J (wfm ad cs) X nL k n σ' (pc + 3) loc (rest)) : J (wfm ad cs) X nL k n σ pc loc (.int v :: .ref (ad 4) :: rest) := by
  subst e
  exact j_put (T := T_TK) (N := 13) (Cn := "TollLedger$Taking") (ci := 4) (j := 12) (ty := .int) C (fun w h => List.mem_cons_of_mem _ (in_TK w h)) tk_TK nm_TK (fun _ _ => ⟨4, rfl, rfl⟩) rfl (by decide) hw (Or.inl rfl) rfl (by decide +kernel) rfl rfl (Nat.le_of_ble_eq_true rfl) hd kk
theorem g_LV_row (C : JC X l0 D0 (ttf cs) eE cc own nL (cd :: BIG) fr lo ce sl) {ix : Nat} (hw : Cond.fieldLink own ix "TollLedger$Leaves" "row" "[I" ∈ cd :: BIG) (hd : decode cc pc = .ok (.getfield ix, 3)) (kk : J (wfm ad cs) X nL k n σ (pc + 3) loc (.ref (ad 17) :: rest)) : J (wfm ad cs) X nL k n σ pc loc (.ref (ad 5) :: rest) :=
  j_get (T := T_LV) (N := 1) (Cn := "TollLedger$Leaves") (ci := 5) (j := 0) C (fun w h => List.mem_cons_of_mem _ (in_LV w h)) ⟨5, rfl⟩ rfl (by decide) hw (Or.inl rfl) rfl hd kk
theorem g_OL_modCount (C : JC X l0 D0 (ttf cs) eE cc own nL (cd :: BIG) fr lo ce sl) {ix : Nat} (hw : Cond.fieldLink own ix "java/util/ArrayList" "modCount" "I" ∈ cd :: BIG) (hd : decode cc pc = .ok (.getfield ix, 3)) (kk : J (wfm ad cs) X nL k n σ (pc + 3) loc (.int (gI σ 17) :: rest)) : J (wfm ad cs) X nL k n σ pc loc (.ref (ad 6) :: rest) :=
  j_get (T := T_AL) (N := 3) (Cn := "java/util/ArrayList") (ci := 9) (j := 0) C (fun w h => List.mem_cons_of_mem _ (in_AL w h)) ⟨6, rfl⟩ rfl (by decide) hw (Or.inr (List.mem_cons_of_mem _ (bgA (inT1 76 rfl) rfl))) rfl hd kk
theorem p_OL_modCount (C : JC X l0 D0 (ttf cs) eE cc own nL (cd :: BIG) fr lo ce sl) {ix : Nat} {v : Int32} (e : σ' = sI σ 17 v) (hw : Cond.fieldLink own ix "java/util/ArrayList" "modCount" "I" ∈ cd :: BIG) (hd : decode cc pc = .ok (.putfield ix, 3)) (kk : J (wfm ad cs) X nL k n σ' (pc + 3) loc (rest)) : J (wfm ad cs) X nL k n σ pc loc (.int v :: .ref (ad 6) :: rest) := by
  subst e
  exact j_put (T := T_AL) (N := 3) (Cn := "java/util/ArrayList") (ci := 9) (j := 0) (ty := .int) C (fun w h => List.mem_cons_of_mem _ (in_AL w h)) tk_AL nm_AL (fun _ _ => ⟨6, rfl, rfl⟩) rfl (by decide) hw (Or.inr (List.mem_cons_of_mem _ (bgA (inT1 76 rfl) rfl))) rfl (by decide +kernel) rfl rfl (Nat.le_of_ble_eq_true rfl) hd kk
theorem g_OL_elementData (C : JC X l0 D0 (ttf cs) eE cc own nL (cd :: BIG) fr lo ce sl) {ix : Nat} (hw : Cond.fieldLink own ix "java/util/ArrayList" "elementData" "[Ljava/lang/Object;" ∈ cd :: BIG) (hd : decode cc pc = .ok (.getfield ix, 3)) (kk : J (wfm ad cs) X nL k n σ (pc + 3) loc (.ref (gE σ 0) :: rest)) : J (wfm ad cs) X nL k n σ pc loc (.ref (ad 6) :: rest) :=
  j_get (T := T_AL) (N := 3) (Cn := "java/util/ArrayList") (ci := 9) (j := 1) C (fun w h => List.mem_cons_of_mem _ (in_AL w h)) ⟨6, rfl⟩ rfl (by decide) hw (Or.inl rfl) rfl hd kk
theorem p_OL_elementData (C : JC X l0 D0 (ttf cs) eE cc own nL (cd :: BIG) fr lo ce sl) {ix : Nat} {v : Nat} (e : σ' = sE σ 0 v) (hw : Cond.fieldLink own ix "java/util/ArrayList" "elementData" "[Ljava/lang/Object;" ∈ cd :: BIG) (hd : decode cc pc = .ok (.putfield ix, 3)) (kk : J (wfm ad cs) X nL k n σ' (pc + 3) loc (rest)) : J (wfm ad cs) X nL k n σ pc loc (.ref v :: .ref (ad 6) :: rest) := by
  subst e
  exact j_put (T := T_AL) (N := 3) (Cn := "java/util/ArrayList") (ci := 9) (j := 1) (ty := .array (.object "java/lang/Object")) C (fun w h => List.mem_cons_of_mem _ (in_AL w h)) tk_AL nm_AL (fun _ _ => ⟨6, rfl, rfl⟩) rfl (by decide) hw (Or.inl rfl) rfl (by decide +kernel) rfl rfl (Nat.le_of_ble_eq_true rfl) hd kk
theorem g_OL_size (C : JC X l0 D0 (ttf cs) eE cc own nL (cd :: BIG) fr lo ce sl) {ix : Nat} (hw : Cond.fieldLink own ix "java/util/ArrayList" "size" "I" ∈ cd :: BIG) (hd : decode cc pc = .ok (.getfield ix, 3)) (kk : J (wfm ad cs) X nL k n σ (pc + 3) loc (.int (gI σ 18) :: rest)) : J (wfm ad cs) X nL k n σ pc loc (.ref (ad 6) :: rest) :=
  j_get (T := T_AL) (N := 3) (Cn := "java/util/ArrayList") (ci := 9) (j := 2) C (fun w h => List.mem_cons_of_mem _ (in_AL w h)) ⟨6, rfl⟩ rfl (by decide) hw (Or.inl rfl) rfl hd kk
theorem p_OL_size (C : JC X l0 D0 (ttf cs) eE cc own nL (cd :: BIG) fr lo ce sl) {ix : Nat} {v : Int32} (e : σ' = sI σ 18 v) (hw : Cond.fieldLink own ix "java/util/ArrayList" "size" "I" ∈ cd :: BIG) (hd : decode cc pc = .ok (.putfield ix, 3)) (kk : J (wfm ad cs) X nL k n σ' (pc + 3) loc (rest)) : J (wfm ad cs) X nL k n σ pc loc (.int v :: .ref (ad 6) :: rest) := by
  subst e
  exact j_put (T := T_AL) (N := 3) (Cn := "java/util/ArrayList") (ci := 9) (j := 2) (ty := .int) C (fun w h => List.mem_cons_of_mem _ (in_AL w h)) tk_AL nm_AL (fun _ _ => ⟨6, rfl, rfl⟩) rfl (by decide) hw (Or.inl rfl) rfl (by decide +kernel) rfl rfl (Nat.le_of_ble_eq_true rfl) hd kk
theorem g_DL_modCount (C : JC X l0 D0 (ttf cs) eE cc own nL (cd :: BIG) fr lo ce sl) {ix : Nat} (hw : Cond.fieldLink own ix "java/util/ArrayList" "modCount" "I" ∈ cd :: BIG) (hd : decode cc pc = .ok (.getfield ix, 3)) (kk : J (wfm ad cs) X nL k n σ (pc + 3) loc (.int (gI σ 19) :: rest)) : J (wfm ad cs) X nL k n σ pc loc (.ref (ad 7) :: rest) :=
  j_get (T := T_AL) (N := 3) (Cn := "java/util/ArrayList") (ci := 9) (j := 0) C (fun w h => List.mem_cons_of_mem _ (in_AL w h)) ⟨7, rfl⟩ rfl (by decide) hw (Or.inr (List.mem_cons_of_mem _ (bgA (inT1 76 rfl) rfl))) rfl hd kk
theorem p_DL_modCount (C : JC X l0 D0 (ttf cs) eE cc own nL (cd :: BIG) fr lo ce sl) {ix : Nat} {v : Int32} (e : σ' = sI σ 19 v) (hw : Cond.fieldLink own ix "java/util/ArrayList" "modCount" "I" ∈ cd :: BIG) (hd : decode cc pc = .ok (.putfield ix, 3)) (kk : J (wfm ad cs) X nL k n σ' (pc + 3) loc (rest)) : J (wfm ad cs) X nL k n σ pc loc (.int v :: .ref (ad 7) :: rest) := by
  subst e
  exact j_put (T := T_AL) (N := 3) (Cn := "java/util/ArrayList") (ci := 9) (j := 0) (ty := .int) C (fun w h => List.mem_cons_of_mem _ (in_AL w h)) tk_AL nm_AL (fun _ _ => ⟨7, rfl, rfl⟩) rfl (by decide) hw (Or.inr (List.mem_cons_of_mem _ (bgA (inT1 76 rfl) rfl))) rfl (by decide +kernel) rfl rfl (Nat.le_of_ble_eq_true rfl) hd kk
theorem g_DL_elementData (C : JC X l0 D0 (ttf cs) eE cc own nL (cd :: BIG) fr lo ce sl) {ix : Nat} (hw : Cond.fieldLink own ix "java/util/ArrayList" "elementData" "[Ljava/lang/Object;" ∈ cd :: BIG) (hd : decode cc pc = .ok (.getfield ix, 3)) (kk : J (wfm ad cs) X nL k n σ (pc + 3) loc (.ref (gE σ 1) :: rest)) : J (wfm ad cs) X nL k n σ pc loc (.ref (ad 7) :: rest) :=
  j_get (T := T_AL) (N := 3) (Cn := "java/util/ArrayList") (ci := 9) (j := 1) C (fun w h => List.mem_cons_of_mem _ (in_AL w h)) ⟨7, rfl⟩ rfl (by decide) hw (Or.inl rfl) rfl hd kk
theorem p_DL_elementData (C : JC X l0 D0 (ttf cs) eE cc own nL (cd :: BIG) fr lo ce sl) {ix : Nat} {v : Nat} (e : σ' = sE σ 1 v) (hw : Cond.fieldLink own ix "java/util/ArrayList" "elementData" "[Ljava/lang/Object;" ∈ cd :: BIG) (hd : decode cc pc = .ok (.putfield ix, 3)) (kk : J (wfm ad cs) X nL k n σ' (pc + 3) loc (rest)) : J (wfm ad cs) X nL k n σ pc loc (.ref v :: .ref (ad 7) :: rest) := by
  subst e
  exact j_put (T := T_AL) (N := 3) (Cn := "java/util/ArrayList") (ci := 9) (j := 1) (ty := .array (.object "java/lang/Object")) C (fun w h => List.mem_cons_of_mem _ (in_AL w h)) tk_AL nm_AL (fun _ _ => ⟨7, rfl, rfl⟩) rfl (by decide) hw (Or.inl rfl) rfl (by decide +kernel) rfl rfl (Nat.le_of_ble_eq_true rfl) hd kk
theorem g_DL_size (C : JC X l0 D0 (ttf cs) eE cc own nL (cd :: BIG) fr lo ce sl) {ix : Nat} (hw : Cond.fieldLink own ix "java/util/ArrayList" "size" "I" ∈ cd :: BIG) (hd : decode cc pc = .ok (.getfield ix, 3)) (kk : J (wfm ad cs) X nL k n σ (pc + 3) loc (.int (gI σ 20) :: rest)) : J (wfm ad cs) X nL k n σ pc loc (.ref (ad 7) :: rest) :=
  j_get (T := T_AL) (N := 3) (Cn := "java/util/ArrayList") (ci := 9) (j := 2) C (fun w h => List.mem_cons_of_mem _ (in_AL w h)) ⟨7, rfl⟩ rfl (by decide) hw (Or.inl rfl) rfl hd kk
theorem p_DL_size (C : JC X l0 D0 (ttf cs) eE cc own nL (cd :: BIG) fr lo ce sl) {ix : Nat} {v : Int32} (e : σ' = sI σ 20 v) (hw : Cond.fieldLink own ix "java/util/ArrayList" "size" "I" ∈ cd :: BIG) (hd : decode cc pc = .ok (.putfield ix, 3)) (kk : J (wfm ad cs) X nL k n σ' (pc + 3) loc (rest)) : J (wfm ad cs) X nL k n σ pc loc (.int v :: .ref (ad 7) :: rest) := by
  subst e
  exact j_put (T := T_AL) (N := 3) (Cn := "java/util/ArrayList") (ci := 9) (j := 2) (ty := .int) C (fun w h => List.mem_cons_of_mem _ (in_AL w h)) tk_AL nm_AL (fun _ _ => ⟨7, rfl, rfl⟩) rfl (by decide) hw (Or.inl rfl) rfl (by decide +kernel) rfl rfl (Nat.le_of_ble_eq_true rfl) hd kk
theorem g_MD_exists (C : JC X l0 D0 (ttf cs) eE cc own nL (cd :: BIG) fr lo ce sl) {ix : Nat} (hw : Cond.fieldLink own ix "TollLedgerModel" "exists" "[Z" ∈ cd :: BIG) (hd : decode cc pc = .ok (.getfield ix, 3)) (kk : J (wfm ad cs) X nL k n σ (pc + 3) loc (.ref (ad 19) :: rest)) : J (wfm ad cs) X nL k n σ pc loc (.ref (ad 18) :: rest) :=
  j_get (T := T_MD) (N := 39) (Cn := "TollLedgerModel") (ci := 10) (j := 0) C (fun w h => List.mem_cons_of_mem _ (in_MD w h)) ⟨18, rfl⟩ rfl (by decide) hw (Or.inl rfl) rfl hd kk
theorem g_MD_coins (C : JC X l0 D0 (ttf cs) eE cc own nL (cd :: BIG) fr lo ce sl) {ix : Nat} (hw : Cond.fieldLink own ix "TollLedgerModel" "coins" "[I" ∈ cd :: BIG) (hd : decode cc pc = .ok (.getfield ix, 3)) (kk : J (wfm ad cs) X nL k n σ (pc + 3) loc (.ref (ad 20) :: rest)) : J (wfm ad cs) X nL k n σ pc loc (.ref (ad 18) :: rest) :=
  j_get (T := T_MD) (N := 39) (Cn := "TollLedgerModel") (ci := 10) (j := 1) C (fun w h => List.mem_cons_of_mem _ (in_MD w h)) ⟨18, rfl⟩ rfl (by decide) hw (Or.inl rfl) rfl hd kk
theorem g_MD_numbers (C : JC X l0 D0 (ttf cs) eE cc own nL (cd :: BIG) fr lo ce sl) {ix : Nat} (hw : Cond.fieldLink own ix "TollLedgerModel" "numbers" "[I" ∈ cd :: BIG) (hd : decode cc pc = .ok (.getfield ix, 3)) (kk : J (wfm ad cs) X nL k n σ (pc + 3) loc (.ref (ad 21) :: rest)) : J (wfm ad cs) X nL k n σ pc loc (.ref (ad 18) :: rest) :=
  j_get (T := T_MD) (N := 39) (Cn := "TollLedgerModel") (ci := 10) (j := 2) C (fun w h => List.mem_cons_of_mem _ (in_MD w h)) ⟨18, rfl⟩ rfl (by decide) hw (Or.inl rfl) rfl hd kk
theorem g_MD_rates (C : JC X l0 D0 (ttf cs) eE cc own nL (cd :: BIG) fr lo ce sl) {ix : Nat} (hw : Cond.fieldLink own ix "TollLedgerModel" "rates" "[I" ∈ cd :: BIG) (hd : decode cc pc = .ok (.getfield ix, 3)) (kk : J (wfm ad cs) X nL k n σ (pc + 3) loc (.ref (ad 22) :: rest)) : J (wfm ad cs) X nL k n σ pc loc (.ref (ad 18) :: rest) :=
  j_get (T := T_MD) (N := 39) (Cn := "TollLedgerModel") (ci := 10) (j := 3) C (fun w h => List.mem_cons_of_mem _ (in_MD w h)) ⟨18, rfl⟩ rfl (by decide) hw (Or.inl rfl) rfl hd kk
theorem g_MD_balances (C : JC X l0 D0 (ttf cs) eE cc own nL (cd :: BIG) fr lo ce sl) {ix : Nat} (hw : Cond.fieldLink own ix "TollLedgerModel" "balances" "[I" ∈ cd :: BIG) (hd : decode cc pc = .ok (.getfield ix, 3)) (kk : J (wfm ad cs) X nL k n σ (pc + 3) loc (.ref (ad 23) :: rest)) : J (wfm ad cs) X nL k n σ pc loc (.ref (ad 18) :: rest) :=
  j_get (T := T_MD) (N := 39) (Cn := "TollLedgerModel") (ci := 10) (j := 4) C (fun w h => List.mem_cons_of_mem _ (in_MD w h)) ⟨18, rfl⟩ rfl (by decide) hw (Or.inl rfl) rfl hd kk
theorem g_MD_limits (C : JC X l0 D0 (ttf cs) eE cc own nL (cd :: BIG) fr lo ce sl) {ix : Nat} (hw : Cond.fieldLink own ix "TollLedgerModel" "limits" "[I" ∈ cd :: BIG) (hd : decode cc pc = .ok (.getfield ix, 3)) (kk : J (wfm ad cs) X nL k n σ (pc + 3) loc (.ref (ad 24) :: rest)) : J (wfm ad cs) X nL k n σ pc loc (.ref (ad 18) :: rest) :=
  j_get (T := T_MD) (N := 39) (Cn := "TollLedgerModel") (ci := 10) (j := 5) C (fun w h => List.mem_cons_of_mem _ (in_MD w h)) ⟨18, rfl⟩ rfl (by decide) hw (Or.inl rfl) rfl hd kk
theorem g_MD_quiets (C : JC X l0 D0 (ttf cs) eE cc own nL (cd :: BIG) fr lo ce sl) {ix : Nat} (hw : Cond.fieldLink own ix "TollLedgerModel" "quiets" "[Z" ∈ cd :: BIG) (hd : decode cc pc = .ok (.getfield ix, 3)) (kk : J (wfm ad cs) X nL k n σ (pc + 3) loc (.ref (ad 25) :: rest)) : J (wfm ad cs) X nL k n σ pc loc (.ref (ad 18) :: rest) :=
  j_get (T := T_MD) (N := 39) (Cn := "TollLedgerModel") (ci := 10) (j := 6) C (fun w h => List.mem_cons_of_mem _ (in_MD w h)) ⟨18, rfl⟩ rfl (by decide) hw (Or.inl rfl) rfl hd kk
theorem g_MD_offers (C : JC X l0 D0 (ttf cs) eE cc own nL (cd :: BIG) fr lo ce sl) {ix : Nat} (hw : Cond.fieldLink own ix "TollLedgerModel" "offers" "I" ∈ cd :: BIG) (hd : decode cc pc = .ok (.getfield ix, 3)) (kk : J (wfm ad cs) X nL k n σ (pc + 3) loc (.int (gI σ 21) :: rest)) : J (wfm ad cs) X nL k n σ pc loc (.ref (ad 18) :: rest) :=
  j_get (T := T_MD) (N := 39) (Cn := "TollLedgerModel") (ci := 10) (j := 7) C (fun w h => List.mem_cons_of_mem _ (in_MD w h)) ⟨18, rfl⟩ rfl (by decide) hw (Or.inl rfl) rfl hd kk
theorem p_MD_offers (C : JC X l0 D0 (ttf cs) eE cc own nL (cd :: BIG) fr lo ce sl) {ix : Nat} {v : Int32} (e : σ' = sI σ 21 v) (hw : Cond.fieldLink own ix "TollLedgerModel" "offers" "I" ∈ cd :: BIG) (hd : decode cc pc = .ok (.putfield ix, 3)) (kk : J (wfm ad cs) X nL k n σ' (pc + 3) loc (rest)) : J (wfm ad cs) X nL k n σ pc loc (.int v :: .ref (ad 18) :: rest) := by
  subst e
  exact j_put (T := T_MD) (N := 39) (Cn := "TollLedgerModel") (ci := 10) (j := 7) (ty := .int) C (fun w h => List.mem_cons_of_mem _ (in_MD w h)) tk_MD nm_MD (fun _ _ => ⟨18, rfl, rfl⟩) rfl (by decide) hw (Or.inl rfl) rfl (by decide +kernel) rfl rfl (Nat.le_of_ble_eq_true rfl) hd kk
theorem g_MD_lastOffer (C : JC X l0 D0 (ttf cs) eE cc own nL (cd :: BIG) fr lo ce sl) {ix : Nat} (hw : Cond.fieldLink own ix "TollLedgerModel" "lastOffer" "I" ∈ cd :: BIG) (hd : decode cc pc = .ok (.getfield ix, 3)) (kk : J (wfm ad cs) X nL k n σ (pc + 3) loc (.int (gI σ 22) :: rest)) : J (wfm ad cs) X nL k n σ pc loc (.ref (ad 18) :: rest) :=
  j_get (T := T_MD) (N := 39) (Cn := "TollLedgerModel") (ci := 10) (j := 8) C (fun w h => List.mem_cons_of_mem _ (in_MD w h)) ⟨18, rfl⟩ rfl (by decide) hw (Or.inl rfl) rfl hd kk
theorem p_MD_lastOffer (C : JC X l0 D0 (ttf cs) eE cc own nL (cd :: BIG) fr lo ce sl) {ix : Nat} {v : Int32} (e : σ' = sI σ 22 v) (hw : Cond.fieldLink own ix "TollLedgerModel" "lastOffer" "I" ∈ cd :: BIG) (hd : decode cc pc = .ok (.putfield ix, 3)) (kk : J (wfm ad cs) X nL k n σ' (pc + 3) loc (rest)) : J (wfm ad cs) X nL k n σ pc loc (.int v :: .ref (ad 18) :: rest) := by
  subst e
  exact j_put (T := T_MD) (N := 39) (Cn := "TollLedgerModel") (ci := 10) (j := 8) (ty := .int) C (fun w h => List.mem_cons_of_mem _ (in_MD w h)) tk_MD nm_MD (fun _ _ => ⟨18, rfl, rfl⟩) rfl (by decide) hw (Or.inl rfl) rfl (by decide +kernel) rfl rfl (Nat.le_of_ble_eq_true rfl) hd kk
theorem g_MD_offerId (C : JC X l0 D0 (ttf cs) eE cc own nL (cd :: BIG) fr lo ce sl) {ix : Nat} (hw : Cond.fieldLink own ix "TollLedgerModel" "offerId" "[I" ∈ cd :: BIG) (hd : decode cc pc = .ok (.getfield ix, 3)) (kk : J (wfm ad cs) X nL k n σ (pc + 3) loc (.ref (ad 26) :: rest)) : J (wfm ad cs) X nL k n σ pc loc (.ref (ad 18) :: rest) :=
  j_get (T := T_MD) (N := 39) (Cn := "TollLedgerModel") (ci := 10) (j := 9) C (fun w h => List.mem_cons_of_mem _ (in_MD w h)) ⟨18, rfl⟩ rfl (by decide) hw (Or.inl rfl) rfl hd kk
theorem g_MD_ownerOf (C : JC X l0 D0 (ttf cs) eE cc own nL (cd :: BIG) fr lo ce sl) {ix : Nat} (hw : Cond.fieldLink own ix "TollLedgerModel" "ownerOf" "[I" ∈ cd :: BIG) (hd : decode cc pc = .ok (.getfield ix, 3)) (kk : J (wfm ad cs) X nL k n σ (pc + 3) loc (.ref (ad 27) :: rest)) : J (wfm ad cs) X nL k n σ pc loc (.ref (ad 18) :: rest) :=
  j_get (T := T_MD) (N := 39) (Cn := "TollLedgerModel") (ci := 10) (j := 10) C (fun w h => List.mem_cons_of_mem _ (in_MD w h)) ⟨18, rfl⟩ rfl (by decide) hw (Or.inl rfl) rfl hd kk
theorem g_MD_wantsOf (C : JC X l0 D0 (ttf cs) eE cc own nL (cd :: BIG) fr lo ce sl) {ix : Nat} (hw : Cond.fieldLink own ix "TollLedgerModel" "wantsOf" "[I" ∈ cd :: BIG) (hd : decode cc pc = .ok (.getfield ix, 3)) (kk : J (wfm ad cs) X nL k n σ (pc + 3) loc (.ref (ad 28) :: rest)) : J (wfm ad cs) X nL k n σ pc loc (.ref (ad 18) :: rest) :=
  j_get (T := T_MD) (N := 39) (Cn := "TollLedgerModel") (ci := 10) (j := 11) C (fun w h => List.mem_cons_of_mem _ (in_MD w h)) ⟨18, rfl⟩ rfl (by decide) hw (Or.inl rfl) rfl hd kk
theorem g_MD_givesOf (C : JC X l0 D0 (ttf cs) eE cc own nL (cd :: BIG) fr lo ce sl) {ix : Nat} (hw : Cond.fieldLink own ix "TollLedgerModel" "givesOf" "[I" ∈ cd :: BIG) (hd : decode cc pc = .ok (.getfield ix, 3)) (kk : J (wfm ad cs) X nL k n σ (pc + 3) loc (.ref (ad 29) :: rest)) : J (wfm ad cs) X nL k n σ pc loc (.ref (ad 18) :: rest) :=
  j_get (T := T_MD) (N := 39) (Cn := "TollLedgerModel") (ci := 10) (j := 12) C (fun w h => List.mem_cons_of_mem _ (in_MD w h)) ⟨18, rfl⟩ rfl (by decide) hw (Or.inl rfl) rfl hd kk
theorem g_MD_wOf (C : JC X l0 D0 (ttf cs) eE cc own nL (cd :: BIG) fr lo ce sl) {ix : Nat} (hw : Cond.fieldLink own ix "TollLedgerModel" "wOf" "[I" ∈ cd :: BIG) (hd : decode cc pc = .ok (.getfield ix, 3)) (kk : J (wfm ad cs) X nL k n σ (pc + 3) loc (.ref (ad 30) :: rest)) : J (wfm ad cs) X nL k n σ pc loc (.ref (ad 18) :: rest) :=
  j_get (T := T_MD) (N := 39) (Cn := "TollLedgerModel") (ci := 10) (j := 13) C (fun w h => List.mem_cons_of_mem _ (in_MD w h)) ⟨18, rfl⟩ rfl (by decide) hw (Or.inl rfl) rfl hd kk
theorem g_MD_gOf (C : JC X l0 D0 (ttf cs) eE cc own nL (cd :: BIG) fr lo ce sl) {ix : Nat} (hw : Cond.fieldLink own ix "TollLedgerModel" "gOf" "[I" ∈ cd :: BIG) (hd : decode cc pc = .ok (.getfield ix, 3)) (kk : J (wfm ad cs) X nL k n σ (pc + 3) loc (.ref (ad 31) :: rest)) : J (wfm ad cs) X nL k n σ pc loc (.ref (ad 18) :: rest) :=
  j_get (T := T_MD) (N := 39) (Cn := "TollLedgerModel") (ci := 10) (j := 14) C (fun w h => List.mem_cons_of_mem _ (in_MD w h)) ⟨18, rfl⟩ rfl (by decide) hw (Or.inl rfl) rfl hd kk
theorem g_MD_deposits (C : JC X l0 D0 (ttf cs) eE cc own nL (cd :: BIG) fr lo ce sl) {ix : Nat} (hw : Cond.fieldLink own ix "TollLedgerModel" "deposits" "I" ∈ cd :: BIG) (hd : decode cc pc = .ok (.getfield ix, 3)) (kk : J (wfm ad cs) X nL k n σ (pc + 3) loc (.int (gI σ 23) :: rest)) : J (wfm ad cs) X nL k n σ pc loc (.ref (ad 18) :: rest) :=
  j_get (T := T_MD) (N := 39) (Cn := "TollLedgerModel") (ci := 10) (j := 15) C (fun w h => List.mem_cons_of_mem _ (in_MD w h)) ⟨18, rfl⟩ rfl (by decide) hw (Or.inl rfl) rfl hd kk
theorem p_MD_deposits (C : JC X l0 D0 (ttf cs) eE cc own nL (cd :: BIG) fr lo ce sl) {ix : Nat} {v : Int32} (e : σ' = sI σ 23 v) (hw : Cond.fieldLink own ix "TollLedgerModel" "deposits" "I" ∈ cd :: BIG) (hd : decode cc pc = .ok (.putfield ix, 3)) (kk : J (wfm ad cs) X nL k n σ' (pc + 3) loc (rest)) : J (wfm ad cs) X nL k n σ pc loc (.int v :: .ref (ad 18) :: rest) := by
  subst e
  exact j_put (T := T_MD) (N := 39) (Cn := "TollLedgerModel") (ci := 10) (j := 15) (ty := .int) C (fun w h => List.mem_cons_of_mem _ (in_MD w h)) tk_MD nm_MD (fun _ _ => ⟨18, rfl, rfl⟩) rfl (by decide) hw (Or.inl rfl) rfl (by decide +kernel) rfl rfl (Nat.le_of_ble_eq_true rfl) hd kk
theorem g_MD_lastDeposit (C : JC X l0 D0 (ttf cs) eE cc own nL (cd :: BIG) fr lo ce sl) {ix : Nat} (hw : Cond.fieldLink own ix "TollLedgerModel" "lastDeposit" "I" ∈ cd :: BIG) (hd : decode cc pc = .ok (.getfield ix, 3)) (kk : J (wfm ad cs) X nL k n σ (pc + 3) loc (.int (gI σ 24) :: rest)) : J (wfm ad cs) X nL k n σ pc loc (.ref (ad 18) :: rest) :=
  j_get (T := T_MD) (N := 39) (Cn := "TollLedgerModel") (ci := 10) (j := 16) C (fun w h => List.mem_cons_of_mem _ (in_MD w h)) ⟨18, rfl⟩ rfl (by decide) hw (Or.inl rfl) rfl hd kk
theorem p_MD_lastDeposit (C : JC X l0 D0 (ttf cs) eE cc own nL (cd :: BIG) fr lo ce sl) {ix : Nat} {v : Int32} (e : σ' = sI σ 24 v) (hw : Cond.fieldLink own ix "TollLedgerModel" "lastDeposit" "I" ∈ cd :: BIG) (hd : decode cc pc = .ok (.putfield ix, 3)) (kk : J (wfm ad cs) X nL k n σ' (pc + 3) loc (rest)) : J (wfm ad cs) X nL k n σ pc loc (.int v :: .ref (ad 18) :: rest) := by
  subst e
  exact j_put (T := T_MD) (N := 39) (Cn := "TollLedgerModel") (ci := 10) (j := 16) (ty := .int) C (fun w h => List.mem_cons_of_mem _ (in_MD w h)) tk_MD nm_MD (fun _ _ => ⟨18, rfl, rfl⟩) rfl (by decide) hw (Or.inl rfl) rfl (by decide +kernel) rfl rfl (Nat.le_of_ble_eq_true rfl) hd kk
theorem g_MD_depositId (C : JC X l0 D0 (ttf cs) eE cc own nL (cd :: BIG) fr lo ce sl) {ix : Nat} (hw : Cond.fieldLink own ix "TollLedgerModel" "depositId" "[I" ∈ cd :: BIG) (hd : decode cc pc = .ok (.getfield ix, 3)) (kk : J (wfm ad cs) X nL k n σ (pc + 3) loc (.ref (ad 32) :: rest)) : J (wfm ad cs) X nL k n σ pc loc (.ref (ad 18) :: rest) :=
  j_get (T := T_MD) (N := 39) (Cn := "TollLedgerModel") (ci := 10) (j := 17) C (fun w h => List.mem_cons_of_mem _ (in_MD w h)) ⟨18, rfl⟩ rfl (by decide) hw (Or.inl rfl) rfl hd kk
theorem g_MD_fromOf (C : JC X l0 D0 (ttf cs) eE cc own nL (cd :: BIG) fr lo ce sl) {ix : Nat} (hw : Cond.fieldLink own ix "TollLedgerModel" "fromOf" "[I" ∈ cd :: BIG) (hd : decode cc pc = .ok (.getfield ix, 3)) (kk : J (wfm ad cs) X nL k n σ (pc + 3) loc (.ref (ad 33) :: rest)) : J (wfm ad cs) X nL k n σ pc loc (.ref (ad 18) :: rest) :=
  j_get (T := T_MD) (N := 39) (Cn := "TollLedgerModel") (ci := 10) (j := 18) C (fun w h => List.mem_cons_of_mem _ (in_MD w h)) ⟨18, rfl⟩ rfl (by decide) hw (Or.inl rfl) rfl hd kk
theorem g_MD_toOf (C : JC X l0 D0 (ttf cs) eE cc own nL (cd :: BIG) fr lo ce sl) {ix : Nat} (hw : Cond.fieldLink own ix "TollLedgerModel" "toOf" "[I" ∈ cd :: BIG) (hd : decode cc pc = .ok (.getfield ix, 3)) (kk : J (wfm ad cs) X nL k n σ (pc + 3) loc (.ref (ad 34) :: rest)) : J (wfm ad cs) X nL k n σ pc loc (.ref (ad 18) :: rest) :=
  j_get (T := T_MD) (N := 39) (Cn := "TollLedgerModel") (ci := 10) (j := 19) C (fun w h => List.mem_cons_of_mem _ (in_MD w h)) ⟨18, rfl⟩ rfl (by decide) hw (Or.inl rfl) rfl hd kk
theorem g_MD_heldOf (C : JC X l0 D0 (ttf cs) eE cc own nL (cd :: BIG) fr lo ce sl) {ix : Nat} (hw : Cond.fieldLink own ix "TollLedgerModel" "heldOf" "[I" ∈ cd :: BIG) (hd : decode cc pc = .ok (.getfield ix, 3)) (kk : J (wfm ad cs) X nL k n σ (pc + 3) loc (.ref (ad 35) :: rest)) : J (wfm ad cs) X nL k n σ pc loc (.ref (ad 18) :: rest) :=
  j_get (T := T_MD) (N := 39) (Cn := "TollLedgerModel") (ci := 10) (j := 20) C (fun w h => List.mem_cons_of_mem _ (in_MD w h)) ⟨18, rfl⟩ rfl (by decide) hw (Or.inl rfl) rfl hd kk
theorem g_MD_afterOf (C : JC X l0 D0 (ttf cs) eE cc own nL (cd :: BIG) fr lo ce sl) {ix : Nat} (hw : Cond.fieldLink own ix "TollLedgerModel" "afterOf" "[I" ∈ cd :: BIG) (hd : decode cc pc = .ok (.getfield ix, 3)) (kk : J (wfm ad cs) X nL k n σ (pc + 3) loc (.ref (ad 36) :: rest)) : J (wfm ad cs) X nL k n σ pc loc (.ref (ad 18) :: rest) :=
  j_get (T := T_MD) (N := 39) (Cn := "TollLedgerModel") (ci := 10) (j := 21) C (fun w h => List.mem_cons_of_mem _ (in_MD w h)) ⟨18, rfl⟩ rfl (by decide) hw (Or.inl rfl) rfl hd kk
theorem g_MD_untilOf (C : JC X l0 D0 (ttf cs) eE cc own nL (cd :: BIG) fr lo ce sl) {ix : Nat} (hw : Cond.fieldLink own ix "TollLedgerModel" "untilOf" "[I" ∈ cd :: BIG) (hd : decode cc pc = .ok (.getfield ix, 3)) (kk : J (wfm ad cs) X nL k n σ (pc + 3) loc (.ref (ad 37) :: rest)) : J (wfm ad cs) X nL k n σ pc loc (.ref (ad 18) :: rest) :=
  j_get (T := T_MD) (N := 39) (Cn := "TollLedgerModel") (ci := 10) (j := 22) C (fun w h => List.mem_cons_of_mem _ (in_MD w h)) ⟨18, rfl⟩ rfl (by decide) hw (Or.inl rfl) rfl hd kk
theorem g_MD_me (C : JC X l0 D0 (ttf cs) eE cc own nL (cd :: BIG) fr lo ce sl) {ix : Nat} (hw : Cond.fieldLink own ix "TollLedgerModel" "me" "I" ∈ cd :: BIG) (hd : decode cc pc = .ok (.getfield ix, 3)) (kk : J (wfm ad cs) X nL k n σ (pc + 3) loc (.int (gI σ 25) :: rest)) : J (wfm ad cs) X nL k n σ pc loc (.ref (ad 18) :: rest) :=
  j_get (T := T_MD) (N := 39) (Cn := "TollLedgerModel") (ci := 10) (j := 23) C (fun w h => List.mem_cons_of_mem _ (in_MD w h)) ⟨18, rfl⟩ rfl (by decide) hw (Or.inl rfl) rfl hd kk
theorem p_MD_me (C : JC X l0 D0 (ttf cs) eE cc own nL (cd :: BIG) fr lo ce sl) {ix : Nat} {v : Int32} (e : σ' = sI σ 25 v) (hw : Cond.fieldLink own ix "TollLedgerModel" "me" "I" ∈ cd :: BIG) (hd : decode cc pc = .ok (.putfield ix, 3)) (kk : J (wfm ad cs) X nL k n σ' (pc + 3) loc (rest)) : J (wfm ad cs) X nL k n σ pc loc (.int v :: .ref (ad 18) :: rest) := by
  subst e
  exact j_put (T := T_MD) (N := 39) (Cn := "TollLedgerModel") (ci := 10) (j := 23) (ty := .int) C (fun w h => List.mem_cons_of_mem _ (in_MD w h)) tk_MD nm_MD (fun _ _ => ⟨18, rfl, rfl⟩) rfl (by decide) hw (Or.inl rfl) rfl (by decide +kernel) rfl rfl (Nat.le_of_ble_eq_true rfl) hd kk
theorem g_MD_myNumber (C : JC X l0 D0 (ttf cs) eE cc own nL (cd :: BIG) fr lo ce sl) {ix : Nat} (hw : Cond.fieldLink own ix "TollLedgerModel" "myNumber" "I" ∈ cd :: BIG) (hd : decode cc pc = .ok (.getfield ix, 3)) (kk : J (wfm ad cs) X nL k n σ (pc + 3) loc (.int (gI σ 26) :: rest)) : J (wfm ad cs) X nL k n σ pc loc (.ref (ad 18) :: rest) :=
  j_get (T := T_MD) (N := 39) (Cn := "TollLedgerModel") (ci := 10) (j := 24) C (fun w h => List.mem_cons_of_mem _ (in_MD w h)) ⟨18, rfl⟩ rfl (by decide) hw (Or.inl rfl) rfl hd kk
theorem p_MD_myNumber (C : JC X l0 D0 (ttf cs) eE cc own nL (cd :: BIG) fr lo ce sl) {ix : Nat} {v : Int32} (e : σ' = sI σ 26 v) (hw : Cond.fieldLink own ix "TollLedgerModel" "myNumber" "I" ∈ cd :: BIG) (hd : decode cc pc = .ok (.putfield ix, 3)) (kk : J (wfm ad cs) X nL k n σ' (pc + 3) loc (rest)) : J (wfm ad cs) X nL k n σ pc loc (.int v :: .ref (ad 18) :: rest) := by
  subst e
  exact j_put (T := T_MD) (N := 39) (Cn := "TollLedgerModel") (ci := 10) (j := 24) (ty := .int) C (fun w h => List.mem_cons_of_mem _ (in_MD w h)) tk_MD nm_MD (fun _ _ => ⟨18, rfl, rfl⟩) rfl (by decide) hw (Or.inl rfl) rfl (by decide +kernel) rfl rfl (Nat.le_of_ble_eq_true rfl) hd kk
theorem g_MD_spendAsset (C : JC X l0 D0 (ttf cs) eE cc own nL (cd :: BIG) fr lo ce sl) {ix : Nat} (hw : Cond.fieldLink own ix "TollLedgerModel" "spendAsset" "I" ∈ cd :: BIG) (hd : decode cc pc = .ok (.getfield ix, 3)) (kk : J (wfm ad cs) X nL k n σ (pc + 3) loc (.int (gI σ 27) :: rest)) : J (wfm ad cs) X nL k n σ pc loc (.ref (ad 18) :: rest) :=
  j_get (T := T_MD) (N := 39) (Cn := "TollLedgerModel") (ci := 10) (j := 25) C (fun w h => List.mem_cons_of_mem _ (in_MD w h)) ⟨18, rfl⟩ rfl (by decide) hw (Or.inl rfl) rfl hd kk
theorem p_MD_spendAsset (C : JC X l0 D0 (ttf cs) eE cc own nL (cd :: BIG) fr lo ce sl) {ix : Nat} {v : Int32} (e : σ' = sI σ 27 v) (hw : Cond.fieldLink own ix "TollLedgerModel" "spendAsset" "I" ∈ cd :: BIG) (hd : decode cc pc = .ok (.putfield ix, 3)) (kk : J (wfm ad cs) X nL k n σ' (pc + 3) loc (rest)) : J (wfm ad cs) X nL k n σ pc loc (.int v :: .ref (ad 18) :: rest) := by
  subst e
  exact j_put (T := T_MD) (N := 39) (Cn := "TollLedgerModel") (ci := 10) (j := 25) (ty := .int) C (fun w h => List.mem_cons_of_mem _ (in_MD w h)) tk_MD nm_MD (fun _ _ => ⟨18, rfl, rfl⟩) rfl (by decide) hw (Or.inl rfl) rfl (by decide +kernel) rfl rfl (Nat.le_of_ble_eq_true rfl) hd kk
theorem g_MD_spendMost (C : JC X l0 D0 (ttf cs) eE cc own nL (cd :: BIG) fr lo ce sl) {ix : Nat} (hw : Cond.fieldLink own ix "TollLedgerModel" "spendMost" "I" ∈ cd :: BIG) (hd : decode cc pc = .ok (.getfield ix, 3)) (kk : J (wfm ad cs) X nL k n σ (pc + 3) loc (.int (gI σ 28) :: rest)) : J (wfm ad cs) X nL k n σ pc loc (.ref (ad 18) :: rest) :=
  j_get (T := T_MD) (N := 39) (Cn := "TollLedgerModel") (ci := 10) (j := 26) C (fun w h => List.mem_cons_of_mem _ (in_MD w h)) ⟨18, rfl⟩ rfl (by decide) hw (Or.inl rfl) rfl hd kk
theorem p_MD_spendMost (C : JC X l0 D0 (ttf cs) eE cc own nL (cd :: BIG) fr lo ce sl) {ix : Nat} {v : Int32} (e : σ' = sI σ 28 v) (hw : Cond.fieldLink own ix "TollLedgerModel" "spendMost" "I" ∈ cd :: BIG) (hd : decode cc pc = .ok (.putfield ix, 3)) (kk : J (wfm ad cs) X nL k n σ' (pc + 3) loc (rest)) : J (wfm ad cs) X nL k n σ pc loc (.int v :: .ref (ad 18) :: rest) := by
  subst e
  exact j_put (T := T_MD) (N := 39) (Cn := "TollLedgerModel") (ci := 10) (j := 26) (ty := .int) C (fun w h => List.mem_cons_of_mem _ (in_MD w h)) tk_MD nm_MD (fun _ _ => ⟨18, rfl, rfl⟩) rfl (by decide) hw (Or.inl rfl) rfl (by decide +kernel) rfl rfl (Nat.le_of_ble_eq_true rfl) hd kk
theorem g_MD_partly (C : JC X l0 D0 (ttf cs) eE cc own nL (cd :: BIG) fr lo ce sl) {ix : Nat} (hw : Cond.fieldLink own ix "TollLedgerModel" "partly" "Z" ∈ cd :: BIG) (hd : decode cc pc = .ok (.getfield ix, 3)) (kk : J (wfm ad cs) X nL k n σ (pc + 3) loc (.int (gI σ 29) :: rest)) : J (wfm ad cs) X nL k n σ pc loc (.ref (ad 18) :: rest) :=
  j_get (T := T_MD) (N := 39) (Cn := "TollLedgerModel") (ci := 10) (j := 27) C (fun w h => List.mem_cons_of_mem _ (in_MD w h)) ⟨18, rfl⟩ rfl (by decide) hw (Or.inl rfl) rfl hd kk
theorem p_MD_partly (C : JC X l0 D0 (ttf cs) eE cc own nL (cd :: BIG) fr lo ce sl) {ix : Nat} {v : Int32} (hz : v = 0 ∨ v = 1) (e : σ' = sI σ 29 v) (hw : Cond.fieldLink own ix "TollLedgerModel" "partly" "Z" ∈ cd :: BIG) (hd : decode cc pc = .ok (.putfield ix, 3)) (kk : J (wfm ad cs) X nL k n σ' (pc + 3) loc (rest)) : J (wfm ad cs) X nL k n σ pc loc (.int v :: .ref (ad 18) :: rest) := by
  subst e
  exact j_put (T := T_MD) (N := 39) (Cn := "TollLedgerModel") (ci := 10) (j := 27) (ty := .boolean) C (fun w h => List.mem_cons_of_mem _ (in_MD w h)) tk_MD nm_MD (fun _ _ => ⟨18, rfl, rfl⟩) rfl (by decide) hw (Or.inl rfl) rfl (by decide +kernel) (by rcases hz with rfl | rfl <;> rfl) (by rcases hz with rfl | rfl <;> rfl) (Nat.le_of_ble_eq_true rfl) hd kk
theorem g_MD_clock (C : JC X l0 D0 (ttf cs) eE cc own nL (cd :: BIG) fr lo ce sl) {ix : Nat} (hw : Cond.fieldLink own ix "TollLedgerModel" "clock" "I" ∈ cd :: BIG) (hd : decode cc pc = .ok (.getfield ix, 3)) (kk : J (wfm ad cs) X nL k n σ (pc + 3) loc (.int (gI σ 30) :: rest)) : J (wfm ad cs) X nL k n σ pc loc (.ref (ad 18) :: rest) :=
  j_get (T := T_MD) (N := 39) (Cn := "TollLedgerModel") (ci := 10) (j := 28) C (fun w h => List.mem_cons_of_mem _ (in_MD w h)) ⟨18, rfl⟩ rfl (by decide) hw (Or.inl rfl) rfl hd kk
theorem p_MD_clock (C : JC X l0 D0 (ttf cs) eE cc own nL (cd :: BIG) fr lo ce sl) {ix : Nat} {v : Int32} (e : σ' = sI σ 30 v) (hw : Cond.fieldLink own ix "TollLedgerModel" "clock" "I" ∈ cd :: BIG) (hd : decode cc pc = .ok (.putfield ix, 3)) (kk : J (wfm ad cs) X nL k n σ' (pc + 3) loc (rest)) : J (wfm ad cs) X nL k n σ pc loc (.int v :: .ref (ad 18) :: rest) := by
  subst e
  exact j_put (T := T_MD) (N := 39) (Cn := "TollLedgerModel") (ci := 10) (j := 28) (ty := .int) C (fun w h => List.mem_cons_of_mem _ (in_MD w h)) tk_MD nm_MD (fun _ _ => ⟨18, rfl, rfl⟩) rfl (by decide) hw (Or.inl rfl) rfl (by decide +kernel) rfl rfl (Nat.le_of_ble_eq_true rfl) hd kk
theorem g_MD_burned (C : JC X l0 D0 (ttf cs) eE cc own nL (cd :: BIG) fr lo ce sl) {ix : Nat} (hw : Cond.fieldLink own ix "TollLedgerModel" "burned" "I" ∈ cd :: BIG) (hd : decode cc pc = .ok (.getfield ix, 3)) (kk : J (wfm ad cs) X nL k n σ (pc + 3) loc (.int (gI σ 31) :: rest)) : J (wfm ad cs) X nL k n σ pc loc (.ref (ad 18) :: rest) :=
  j_get (T := T_MD) (N := 39) (Cn := "TollLedgerModel") (ci := 10) (j := 29) C (fun w h => List.mem_cons_of_mem _ (in_MD w h)) ⟨18, rfl⟩ rfl (by decide) hw (Or.inl rfl) rfl hd kk
theorem p_MD_burned (C : JC X l0 D0 (ttf cs) eE cc own nL (cd :: BIG) fr lo ce sl) {ix : Nat} {v : Int32} (e : σ' = sI σ 31 v) (hw : Cond.fieldLink own ix "TollLedgerModel" "burned" "I" ∈ cd :: BIG) (hd : decode cc pc = .ok (.putfield ix, 3)) (kk : J (wfm ad cs) X nL k n σ' (pc + 3) loc (rest)) : J (wfm ad cs) X nL k n σ pc loc (.int v :: .ref (ad 18) :: rest) := by
  subst e
  exact j_put (T := T_MD) (N := 39) (Cn := "TollLedgerModel") (ci := 10) (j := 29) (ty := .int) C (fun w h => List.mem_cons_of_mem _ (in_MD w h)) tk_MD nm_MD (fun _ _ => ⟨18, rfl, rfl⟩) rfl (by decide) hw (Or.inl rfl) rfl (by decide +kernel) rfl rfl (Nat.le_of_ble_eq_true rfl) hd kk
theorem g_MD_taken (C : JC X l0 D0 (ttf cs) eE cc own nL (cd :: BIG) fr lo ce sl) {ix : Nat} (hw : Cond.fieldLink own ix "TollLedgerModel" "taken" "[I" ∈ cd :: BIG) (hd : decode cc pc = .ok (.getfield ix, 3)) (kk : J (wfm ad cs) X nL k n σ (pc + 3) loc (.ref (ad 38) :: rest)) : J (wfm ad cs) X nL k n σ pc loc (.ref (ad 18) :: rest) :=
  j_get (T := T_MD) (N := 39) (Cn := "TollLedgerModel") (ci := 10) (j := 30) C (fun w h => List.mem_cons_of_mem _ (in_MD w h)) ⟨18, rfl⟩ rfl (by decide) hw (Or.inl rfl) rfl hd kk
theorem g_MD_prices (C : JC X l0 D0 (ttf cs) eE cc own nL (cd :: BIG) fr lo ce sl) {ix : Nat} (hw : Cond.fieldLink own ix "TollLedgerModel" "prices" "[I" ∈ cd :: BIG) (hd : decode cc pc = .ok (.getfield ix, 3)) (kk : J (wfm ad cs) X nL k n σ (pc + 3) loc (.ref (ad 39) :: rest)) : J (wfm ad cs) X nL k n σ pc loc (.ref (ad 18) :: rest) :=
  j_get (T := T_MD) (N := 39) (Cn := "TollLedgerModel") (ci := 10) (j := 31) C (fun w h => List.mem_cons_of_mem _ (in_MD w h)) ⟨18, rfl⟩ rfl (by decide) hw (Or.inl rfl) rfl hd kk
theorem g_MD_seen (C : JC X l0 D0 (ttf cs) eE cc own nL (cd :: BIG) fr lo ce sl) {ix : Nat} (hw : Cond.fieldLink own ix "TollLedgerModel" "seen" "[Z" ∈ cd :: BIG) (hd : decode cc pc = .ok (.getfield ix, 3)) (kk : J (wfm ad cs) X nL k n σ (pc + 3) loc (.ref (ad 40) :: rest)) : J (wfm ad cs) X nL k n σ pc loc (.ref (ad 18) :: rest) :=
  j_get (T := T_MD) (N := 39) (Cn := "TollLedgerModel") (ci := 10) (j := 32) C (fun w h => List.mem_cons_of_mem _ (in_MD w h)) ⟨18, rfl⟩ rfl (by decide) hw (Or.inl rfl) rfl hd kk
theorem g_MD_gone (C : JC X l0 D0 (ttf cs) eE cc own nL (cd :: BIG) fr lo ce sl) {ix : Nat} (hw : Cond.fieldLink own ix "TollLedgerModel" "gone" "[Z" ∈ cd :: BIG) (hd : decode cc pc = .ok (.getfield ix, 3)) (kk : J (wfm ad cs) X nL k n σ (pc + 3) loc (.ref (ad 41) :: rest)) : J (wfm ad cs) X nL k n σ pc loc (.ref (ad 18) :: rest) :=
  j_get (T := T_MD) (N := 39) (Cn := "TollLedgerModel") (ci := 10) (j := 33) C (fun w h => List.mem_cons_of_mem _ (in_MD w h)) ⟨18, rfl⟩ rfl (by decide) hw (Or.inl rfl) rfl hd kk
theorem g_MD_spent (C : JC X l0 D0 (ttf cs) eE cc own nL (cd :: BIG) fr lo ce sl) {ix : Nat} (hw : Cond.fieldLink own ix "TollLedgerModel" "spent" "[J" ∈ cd :: BIG) (hd : decode cc pc = .ok (.getfield ix, 3)) (kk : J (wfm ad cs) X nL k n σ (pc + 3) loc (.ref (ad 42) :: rest)) : J (wfm ad cs) X nL k n σ pc loc (.ref (ad 18) :: rest) :=
  j_get (T := T_MD) (N := 39) (Cn := "TollLedgerModel") (ci := 10) (j := 34) C (fun w h => List.mem_cons_of_mem _ (in_MD w h)) ⟨18, rfl⟩ rfl (by decide) hw (Or.inl rfl) rfl hd kk
theorem g_MD_got (C : JC X l0 D0 (ttf cs) eE cc own nL (cd :: BIG) fr lo ce sl) {ix : Nat} (hw : Cond.fieldLink own ix "TollLedgerModel" "got" "I" ∈ cd :: BIG) (hd : decode cc pc = .ok (.getfield ix, 3)) (kk : J (wfm ad cs) X nL k n σ (pc + 3) loc (.int (gI σ 32) :: rest)) : J (wfm ad cs) X nL k n σ pc loc (.ref (ad 18) :: rest) :=
  j_get (T := T_MD) (N := 39) (Cn := "TollLedgerModel") (ci := 10) (j := 35) C (fun w h => List.mem_cons_of_mem _ (in_MD w h)) ⟨18, rfl⟩ rfl (by decide) hw (Or.inl rfl) rfl hd kk
theorem p_MD_got (C : JC X l0 D0 (ttf cs) eE cc own nL (cd :: BIG) fr lo ce sl) {ix : Nat} {v : Int32} (e : σ' = sI σ 32 v) (hw : Cond.fieldLink own ix "TollLedgerModel" "got" "I" ∈ cd :: BIG) (hd : decode cc pc = .ok (.putfield ix, 3)) (kk : J (wfm ad cs) X nL k n σ' (pc + 3) loc (rest)) : J (wfm ad cs) X nL k n σ pc loc (.int v :: .ref (ad 18) :: rest) := by
  subst e
  exact j_put (T := T_MD) (N := 39) (Cn := "TollLedgerModel") (ci := 10) (j := 35) (ty := .int) C (fun w h => List.mem_cons_of_mem _ (in_MD w h)) tk_MD nm_MD (fun _ _ => ⟨18, rfl, rfl⟩) rfl (by decide) hw (Or.inl rfl) rfl (by decide +kernel) rfl rfl (Nat.le_of_ble_eq_true rfl) hd kk
theorem g_MD_priceSum (C : JC X l0 D0 (ttf cs) eE cc own nL (cd :: BIG) fr lo ce sl) {ix : Nat} (hw : Cond.fieldLink own ix "TollLedgerModel" "priceSum" "J" ∈ cd :: BIG) (hd : decode cc pc = .ok (.getfield ix, 3)) (kk : J (wfm ad cs) X nL k n σ (pc + 3) loc (.long (gL σ 0) :: rest)) : J (wfm ad cs) X nL k n σ pc loc (.ref (ad 18) :: rest) :=
  j_get (T := T_MD) (N := 39) (Cn := "TollLedgerModel") (ci := 10) (j := 36) C (fun w h => List.mem_cons_of_mem _ (in_MD w h)) ⟨18, rfl⟩ rfl (by decide) hw (Or.inl rfl) rfl hd kk
theorem p_MD_priceSum (C : JC X l0 D0 (ttf cs) eE cc own nL (cd :: BIG) fr lo ce sl) {ix : Nat} {v : Int64} (e : σ' = sL σ 0 v) (hw : Cond.fieldLink own ix "TollLedgerModel" "priceSum" "J" ∈ cd :: BIG) (hd : decode cc pc = .ok (.putfield ix, 3)) (kk : J (wfm ad cs) X nL k n σ' (pc + 3) loc (rest)) : J (wfm ad cs) X nL k n σ pc loc (.long v :: .ref (ad 18) :: rest) := by
  subst e
  exact j_put (T := T_MD) (N := 39) (Cn := "TollLedgerModel") (ci := 10) (j := 36) (ty := .long) C (fun w h => List.mem_cons_of_mem _ (in_MD w h)) tk_MD nm_MD (fun _ _ => ⟨18, rfl, rfl⟩) rfl (by decide) hw (Or.inl rfl) rfl (by decide +kernel) rfl rfl (Nat.le_of_ble_eq_true rfl) hd kk
theorem g_MD_costSum (C : JC X l0 D0 (ttf cs) eE cc own nL (cd :: BIG) fr lo ce sl) {ix : Nat} (hw : Cond.fieldLink own ix "TollLedgerModel" "costSum" "J" ∈ cd :: BIG) (hd : decode cc pc = .ok (.getfield ix, 3)) (kk : J (wfm ad cs) X nL k n σ (pc + 3) loc (.long (gL σ 1) :: rest)) : J (wfm ad cs) X nL k n σ pc loc (.ref (ad 18) :: rest) :=
  j_get (T := T_MD) (N := 39) (Cn := "TollLedgerModel") (ci := 10) (j := 37) C (fun w h => List.mem_cons_of_mem _ (in_MD w h)) ⟨18, rfl⟩ rfl (by decide) hw (Or.inl rfl) rfl hd kk
theorem p_MD_costSum (C : JC X l0 D0 (ttf cs) eE cc own nL (cd :: BIG) fr lo ce sl) {ix : Nat} {v : Int64} (e : σ' = sL σ 1 v) (hw : Cond.fieldLink own ix "TollLedgerModel" "costSum" "J" ∈ cd :: BIG) (hd : decode cc pc = .ok (.putfield ix, 3)) (kk : J (wfm ad cs) X nL k n σ' (pc + 3) loc (rest)) : J (wfm ad cs) X nL k n σ pc loc (.long v :: .ref (ad 18) :: rest) := by
  subst e
  exact j_put (T := T_MD) (N := 39) (Cn := "TollLedgerModel") (ci := 10) (j := 37) (ty := .long) C (fun w h => List.mem_cons_of_mem _ (in_MD w h)) tk_MD nm_MD (fun _ _ => ⟨18, rfl, rfl⟩) rfl (by decide) hw (Or.inl rfl) rfl (by decide +kernel) rfl rfl (Nat.le_of_ble_eq_true rfl) hd kk
theorem g_MD_inner (C : JC X l0 D0 (ttf cs) eE cc own nL (cd :: BIG) fr lo ce sl) {ix : Nat} (hw : Cond.fieldLink own ix "TollLedgerModel" "inner" "[I" ∈ cd :: BIG) (hd : decode cc pc = .ok (.getfield ix, 3)) (kk : J (wfm ad cs) X nL k n σ (pc + 3) loc (.ref (ad 43) :: rest)) : J (wfm ad cs) X nL k n σ pc loc (.ref (ad 18) :: rest) :=
  j_get (T := T_MD) (N := 39) (Cn := "TollLedgerModel") (ci := 10) (j := 38) C (fun w h => List.mem_cons_of_mem _ (in_MD w h)) ⟨18, rfl⟩ rfl (by decide) hw (Or.inl rfl) rfl hd kk
theorem la_acc (C : JC X l0 D0 (ttf cs) eE cc own nL (cd :: BIG) fr lo ce sl) {i : Int32} {q : Nat} (hin : ¬ (i < 0 ∨ 6 ≤ i.toNatClampNeg)) (hq : gR σ 0 i.toNatClampNeg = some q) (hd : decode cc pc = .ok (.aaload, 1)) (kk : J (wfm ad cs) X nL k n σ (pc + 1) loc (.ref q :: rest)) : J (wfm ad cs) X nL k n σ pc loc (.int i :: .ref (ad 8) :: rest) := j_aald C 3 ⟨8, rfl⟩ rfl hin hq hd kk
theorem sa_acc (C : JC X l0 D0 (ttf cs) eE cc own nL (cd :: BIG) fr lo ce sl) {i : Int32} {q : Nat} (hv : q ∈ pL σ ∧ pK σ q = 1) (hin : ¬ (i < 0 ∨ 6 ≤ i.toNatClampNeg)) (e : σ' = sR σ 0 i.toNatClampNeg (some q)) (hd : decode cc pc = .ok (.aastore, 1)) (kk : J (wfm ad cs) X nL k n σ' (pc + 1) loc (rest)) : J (wfm ad cs) X nL k n σ pc loc (.ref q :: .int i :: .ref (ad 8) :: rest) := by
  subst e
  exact j_aast (r := ("TollLedger$Account", T_AC, 4)) C 3 (fun _ _ => ⟨8, rfl, rfl⟩) rfl (rdp1 hv) rfl hin hd kk
theorem la_bal (C : JC X l0 D0 (ttf cs) eE cc own nL (cd :: BIG) fr lo ce sl) {i : Int32} (hin : ¬ (i < 0 ∨ 72 ≤ i.toNatClampNeg)) (hd : decode cc pc = .ok (.iaload, 1)) (kk : J (wfm ad cs) X nL k n σ (pc + 1) loc (.int (gA σ 0 i.toNatClampNeg) :: rest)) : J (wfm ad cs) X nL k n σ pc loc (.int i :: .ref (ad 9) :: rest) := j_iald C 0 ⟨9, rfl⟩ rfl hin hd kk
theorem sa_bal (C : JC X l0 D0 (ttf cs) eE cc own nL (cd :: BIG) fr lo ce sl) {i x : Int32} (hin : ¬ (i < 0 ∨ 72 ≤ i.toNatClampNeg)) (e : σ' = sA σ 0 i.toNatClampNeg x) (hd : decode cc pc = .ok (.iastore, 1)) (kk : J (wfm ad cs) X nL k n σ' (pc + 1) loc (rest)) : J (wfm ad cs) X nL k n σ pc loc (.int x :: .int i :: .ref (ad 9) :: rest) := by
  subst e
  exact j_iast C 0 (fun _ _ => ⟨9, rfl, rfl⟩) rfl hin hd kk
theorem la_lim (C : JC X l0 D0 (ttf cs) eE cc own nL (cd :: BIG) fr lo ce sl) {i : Int32} (hin : ¬ (i < 0 ∨ 72 ≤ i.toNatClampNeg)) (hd : decode cc pc = .ok (.iaload, 1)) (kk : J (wfm ad cs) X nL k n σ (pc + 1) loc (.int (gA σ 1 i.toNatClampNeg) :: rest)) : J (wfm ad cs) X nL k n σ pc loc (.int i :: .ref (ad 10) :: rest) := j_iald C 0 ⟨10, rfl⟩ rfl hin hd kk
theorem sa_lim (C : JC X l0 D0 (ttf cs) eE cc own nL (cd :: BIG) fr lo ce sl) {i x : Int32} (hin : ¬ (i < 0 ∨ 72 ≤ i.toNatClampNeg)) (e : σ' = sA σ 1 i.toNatClampNeg x) (hd : decode cc pc = .ok (.iastore, 1)) (kk : J (wfm ad cs) X nL k n σ' (pc + 1) loc (rest)) : J (wfm ad cs) X nL k n σ pc loc (.int x :: .int i :: .ref (ad 10) :: rest) := by
  subst e
  exact j_iast C 0 (fun _ _ => ⟨10, rfl, rfl⟩) rfl hin hd kk
theorem la_qui (C : JC X l0 D0 (ttf cs) eE cc own nL (cd :: BIG) fr lo ce sl) {i : Int32} (hin : ¬ (i < 0 ∨ 72 ≤ i.toNatClampNeg)) (hd : decode cc pc = .ok (.baload, 1)) (kk : J (wfm ad cs) X nL k n σ (pc + 1) loc (.int (gA σ 2 i.toNatClampNeg) :: rest)) : J (wfm ad cs) X nL k n σ pc loc (.int i :: .ref (ad 11) :: rest) := j_zald C 1 ⟨11, rfl⟩ rfl hin hd kk
theorem sa_qui (C : JC X l0 D0 (ttf cs) eE cc own nL (cd :: BIG) fr lo ce sl) {i x : Int32} (hz : x = 0 ∨ x = 1) (hin : ¬ (i < 0 ∨ 72 ≤ i.toNatClampNeg)) (e : σ' = sA σ 2 i.toNatClampNeg x) (hd : decode cc pc = .ok (.bastore, 1)) (kk : J (wfm ad cs) X nL k n σ' (pc + 1) loc (rest)) : J (wfm ad cs) X nL k n σ pc loc (.int x :: .int i :: .ref (ad 11) :: rest) := by
  subst e
  exact j_zast C 1 hz (fun _ _ => ⟨11, rfl, rfl⟩) rfl hin hd kk
theorem la_row (C : JC X l0 D0 (ttf cs) eE cc own nL (cd :: BIG) fr lo ce sl) {i : Int32} {q : Nat} (hin : ¬ (i < 0 ∨ 12 ≤ i.toNatClampNeg)) (hq : gR σ 1 i.toNatClampNeg = some q) (hd : decode cc pc = .ok (.aaload, 1)) (kk : J (wfm ad cs) X nL k n σ (pc + 1) loc (.ref q :: rest)) : J (wfm ad cs) X nL k n σ pc loc (.int i :: .ref (ad 12) :: rest) := j_aald C 4 ⟨12, rfl⟩ rfl hin hq hd kk
theorem sa_row (C : JC X l0 D0 (ttf cs) eE cc own nL (cd :: BIG) fr lo ce sl) {i : Int32} {q : Nat} (hv : q ∈ pL σ ∧ pK σ q = 2) (hin : ¬ (i < 0 ∨ 12 ≤ i.toNatClampNeg)) (e : σ' = sR σ 1 i.toNatClampNeg (some q)) (hd : decode cc pc = .ok (.aastore, 1)) (kk : J (wfm ad cs) X nL k n σ' (pc + 1) loc (rest)) : J (wfm ad cs) X nL k n σ pc loc (.ref q :: .int i :: .ref (ad 12) :: rest) := by
  subst e
  exact j_aast (r := ("TollLedger$Offer", T_OF, 6)) C 4 (fun _ _ => ⟨12, rfl, rfl⟩) rfl (rdp2 hv) rfl hin hd kk
theorem la_amo (C : JC X l0 D0 (ttf cs) eE cc own nL (cd :: BIG) fr lo ce sl) {i : Int32} (hin : ¬ (i < 0 ∨ 12 ≤ i.toNatClampNeg)) (hd : decode cc pc = .ok (.iaload, 1)) (kk : J (wfm ad cs) X nL k n σ (pc + 1) loc (.int (gA σ 3 i.toNatClampNeg) :: rest)) : J (wfm ad cs) X nL k n σ pc loc (.int i :: .ref (ad 13) :: rest) := j_iald C 0 ⟨13, rfl⟩ rfl hin hd kk
theorem sa_amo (C : JC X l0 D0 (ttf cs) eE cc own nL (cd :: BIG) fr lo ce sl) {i x : Int32} (hin : ¬ (i < 0 ∨ 12 ≤ i.toNatClampNeg)) (e : σ' = sA σ 3 i.toNatClampNeg x) (hd : decode cc pc = .ok (.iastore, 1)) (kk : J (wfm ad cs) X nL k n σ' (pc + 1) loc (rest)) : J (wfm ad cs) X nL k n σ pc loc (.int x :: .int i :: .ref (ad 13) :: rest) := by
  subst e
  exact j_iast C 0 (fun _ _ => ⟨13, rfl, rfl⟩) rfl hin hd kk
theorem la_pri (C : JC X l0 D0 (ttf cs) eE cc own nL (cd :: BIG) fr lo ce sl) {i : Int32} (hin : ¬ (i < 0 ∨ 12 ≤ i.toNatClampNeg)) (hd : decode cc pc = .ok (.iaload, 1)) (kk : J (wfm ad cs) X nL k n σ (pc + 1) loc (.int (gA σ 4 i.toNatClampNeg) :: rest)) : J (wfm ad cs) X nL k n σ pc loc (.int i :: .ref (ad 14) :: rest) := j_iald C 0 ⟨14, rfl⟩ rfl hin hd kk
theorem sa_pri (C : JC X l0 D0 (ttf cs) eE cc own nL (cd :: BIG) fr lo ce sl) {i x : Int32} (hin : ¬ (i < 0 ∨ 12 ≤ i.toNatClampNeg)) (e : σ' = sA σ 4 i.toNatClampNeg x) (hd : decode cc pc = .ok (.iastore, 1)) (kk : J (wfm ad cs) X nL k n σ' (pc + 1) loc (rest)) : J (wfm ad cs) X nL k n σ pc loc (.int x :: .int i :: .ref (ad 14) :: rest) := by
  subst e
  exact j_iast C 0 (fun _ _ => ⟨14, rfl, rfl⟩) rfl hin hd kk
theorem la_fun (C : JC X l0 D0 (ttf cs) eE cc own nL (cd :: BIG) fr lo ce sl) {i : Int32} (hin : ¬ (i < 0 ∨ 6 ≤ i.toNatClampNeg)) (hd : decode cc pc = .ok (.iaload, 1)) (kk : J (wfm ad cs) X nL k n σ (pc + 1) loc (.int (gA σ 5 i.toNatClampNeg) :: rest)) : J (wfm ad cs) X nL k n σ pc loc (.int i :: .ref (ad 15) :: rest) := j_iald C 0 ⟨15, rfl⟩ rfl hin hd kk
theorem sa_fun (C : JC X l0 D0 (ttf cs) eE cc own nL (cd :: BIG) fr lo ce sl) {i x : Int32} (hin : ¬ (i < 0 ∨ 6 ≤ i.toNatClampNeg)) (e : σ' = sA σ 5 i.toNatClampNeg x) (hd : decode cc pc = .ok (.iastore, 1)) (kk : J (wfm ad cs) X nL k n σ' (pc + 1) loc (rest)) : J (wfm ad cs) X nL k n σ pc loc (.int x :: .int i :: .ref (ad 15) :: rest) := by
  subst e
  exact j_iast C 0 (fun _ _ => ⟨15, rfl, rfl⟩) rfl hin hd kk
theorem la_pur (C : JC X l0 D0 (ttf cs) eE cc own nL (cd :: BIG) fr lo ce sl) {i : Int32} (hin : ¬ (i < 0 ∨ 6 ≤ i.toNatClampNeg)) (hd : decode cc pc = .ok (.iaload, 1)) (kk : J (wfm ad cs) X nL k n σ (pc + 1) loc (.int (gA σ 6 i.toNatClampNeg) :: rest)) : J (wfm ad cs) X nL k n σ pc loc (.int i :: .ref (ad 16) :: rest) := j_iald C 0 ⟨16, rfl⟩ rfl hin hd kk
theorem sa_pur (C : JC X l0 D0 (ttf cs) eE cc own nL (cd :: BIG) fr lo ce sl) {i x : Int32} (hin : ¬ (i < 0 ∨ 6 ≤ i.toNatClampNeg)) (e : σ' = sA σ 6 i.toNatClampNeg x) (hd : decode cc pc = .ok (.iastore, 1)) (kk : J (wfm ad cs) X nL k n σ' (pc + 1) loc (rest)) : J (wfm ad cs) X nL k n σ pc loc (.int x :: .int i :: .ref (ad 16) :: rest) := by
  subst e
  exact j_iast C 0 (fun _ _ => ⟨16, rfl, rfl⟩) rfl hin hd kk
theorem la_lrow (C : JC X l0 D0 (ttf cs) eE cc own nL (cd :: BIG) fr lo ce sl) {i : Int32} (hin : ¬ (i < 0 ∨ 64 ≤ i.toNatClampNeg)) (hd : decode cc pc = .ok (.iaload, 1)) (kk : J (wfm ad cs) X nL k n σ (pc + 1) loc (.int (gA σ 7 i.toNatClampNeg) :: rest)) : J (wfm ad cs) X nL k n σ pc loc (.int i :: .ref (ad 17) :: rest) := j_iald C 0 ⟨17, rfl⟩ rfl hin hd kk
theorem sa_lrow (C : JC X l0 D0 (ttf cs) eE cc own nL (cd :: BIG) fr lo ce sl) {i x : Int32} (hin : ¬ (i < 0 ∨ 64 ≤ i.toNatClampNeg)) (e : σ' = sA σ 7 i.toNatClampNeg x) (hd : decode cc pc = .ok (.iastore, 1)) (kk : J (wfm ad cs) X nL k n σ' (pc + 1) loc (rest)) : J (wfm ad cs) X nL k n σ pc loc (.int x :: .int i :: .ref (ad 17) :: rest) := by
  subst e
  exact j_iast C 0 (fun _ _ => ⟨17, rfl, rfl⟩) rfl hin hd kk
theorem al_lrow (C : JC X l0 D0 (ttf cs) eE cc own nL (cd :: BIG) fr lo ce sl) (hd : decode cc pc = .ok (.arraylength, 1)) (kk : J (wfm ad cs) X nL k n σ (pc + 1) loc (.int (nI 64) :: rest)) : J (wfm ad cs) X nL k n σ pc loc (.ref (ad 17) :: rest) := j_alen (ty := .int) C 0 ⟨17, rfl⟩ rfl hd kk
theorem la_m_exists (C : JC X l0 D0 (ttf cs) eE cc own nL (cd :: BIG) fr lo ce sl) {i : Int32} (hin : ¬ (i < 0 ∨ 6 ≤ i.toNatClampNeg)) (hd : decode cc pc = .ok (.baload, 1)) (kk : J (wfm ad cs) X nL k n σ (pc + 1) loc (.int (gA σ 8 i.toNatClampNeg) :: rest)) : J (wfm ad cs) X nL k n σ pc loc (.int i :: .ref (ad 19) :: rest) := j_zald C 1 ⟨19, rfl⟩ rfl hin hd kk
theorem sa_m_exists (C : JC X l0 D0 (ttf cs) eE cc own nL (cd :: BIG) fr lo ce sl) {i x : Int32} (hz : x = 0 ∨ x = 1) (hin : ¬ (i < 0 ∨ 6 ≤ i.toNatClampNeg)) (e : σ' = sA σ 8 i.toNatClampNeg x) (hd : decode cc pc = .ok (.bastore, 1)) (kk : J (wfm ad cs) X nL k n σ' (pc + 1) loc (rest)) : J (wfm ad cs) X nL k n σ pc loc (.int x :: .int i :: .ref (ad 19) :: rest) := by
  subst e
  exact j_zast C 1 hz (fun _ _ => ⟨19, rfl, rfl⟩) rfl hin hd kk
theorem la_m_coins (C : JC X l0 D0 (ttf cs) eE cc own nL (cd :: BIG) fr lo ce sl) {i : Int32} (hin : ¬ (i < 0 ∨ 6 ≤ i.toNatClampNeg)) (hd : decode cc pc = .ok (.iaload, 1)) (kk : J (wfm ad cs) X nL k n σ (pc + 1) loc (.int (gA σ 9 i.toNatClampNeg) :: rest)) : J (wfm ad cs) X nL k n σ pc loc (.int i :: .ref (ad 20) :: rest) := j_iald C 0 ⟨20, rfl⟩ rfl hin hd kk
theorem sa_m_coins (C : JC X l0 D0 (ttf cs) eE cc own nL (cd :: BIG) fr lo ce sl) {i x : Int32} (hin : ¬ (i < 0 ∨ 6 ≤ i.toNatClampNeg)) (e : σ' = sA σ 9 i.toNatClampNeg x) (hd : decode cc pc = .ok (.iastore, 1)) (kk : J (wfm ad cs) X nL k n σ' (pc + 1) loc (rest)) : J (wfm ad cs) X nL k n σ pc loc (.int x :: .int i :: .ref (ad 20) :: rest) := by
  subst e
  exact j_iast C 0 (fun _ _ => ⟨20, rfl, rfl⟩) rfl hin hd kk
theorem la_m_numbers (C : JC X l0 D0 (ttf cs) eE cc own nL (cd :: BIG) fr lo ce sl) {i : Int32} (hin : ¬ (i < 0 ∨ 6 ≤ i.toNatClampNeg)) (hd : decode cc pc = .ok (.iaload, 1)) (kk : J (wfm ad cs) X nL k n σ (pc + 1) loc (.int (gA σ 10 i.toNatClampNeg) :: rest)) : J (wfm ad cs) X nL k n σ pc loc (.int i :: .ref (ad 21) :: rest) := j_iald C 0 ⟨21, rfl⟩ rfl hin hd kk
theorem sa_m_numbers (C : JC X l0 D0 (ttf cs) eE cc own nL (cd :: BIG) fr lo ce sl) {i x : Int32} (hin : ¬ (i < 0 ∨ 6 ≤ i.toNatClampNeg)) (e : σ' = sA σ 10 i.toNatClampNeg x) (hd : decode cc pc = .ok (.iastore, 1)) (kk : J (wfm ad cs) X nL k n σ' (pc + 1) loc (rest)) : J (wfm ad cs) X nL k n σ pc loc (.int x :: .int i :: .ref (ad 21) :: rest) := by
  subst e
  exact j_iast C 0 (fun _ _ => ⟨21, rfl, rfl⟩) rfl hin hd kk
theorem la_m_rates (C : JC X l0 D0 (ttf cs) eE cc own nL (cd :: BIG) fr lo ce sl) {i : Int32} (hin : ¬ (i < 0 ∨ 6 ≤ i.toNatClampNeg)) (hd : decode cc pc = .ok (.iaload, 1)) (kk : J (wfm ad cs) X nL k n σ (pc + 1) loc (.int (gA σ 11 i.toNatClampNeg) :: rest)) : J (wfm ad cs) X nL k n σ pc loc (.int i :: .ref (ad 22) :: rest) := j_iald C 0 ⟨22, rfl⟩ rfl hin hd kk
theorem sa_m_rates (C : JC X l0 D0 (ttf cs) eE cc own nL (cd :: BIG) fr lo ce sl) {i x : Int32} (hin : ¬ (i < 0 ∨ 6 ≤ i.toNatClampNeg)) (e : σ' = sA σ 11 i.toNatClampNeg x) (hd : decode cc pc = .ok (.iastore, 1)) (kk : J (wfm ad cs) X nL k n σ' (pc + 1) loc (rest)) : J (wfm ad cs) X nL k n σ pc loc (.int x :: .int i :: .ref (ad 22) :: rest) := by
  subst e
  exact j_iast C 0 (fun _ _ => ⟨22, rfl, rfl⟩) rfl hin hd kk
theorem la_m_balances (C : JC X l0 D0 (ttf cs) eE cc own nL (cd :: BIG) fr lo ce sl) {i : Int32} (hin : ¬ (i < 0 ∨ 72 ≤ i.toNatClampNeg)) (hd : decode cc pc = .ok (.iaload, 1)) (kk : J (wfm ad cs) X nL k n σ (pc + 1) loc (.int (gA σ 12 i.toNatClampNeg) :: rest)) : J (wfm ad cs) X nL k n σ pc loc (.int i :: .ref (ad 23) :: rest) := j_iald C 0 ⟨23, rfl⟩ rfl hin hd kk
theorem sa_m_balances (C : JC X l0 D0 (ttf cs) eE cc own nL (cd :: BIG) fr lo ce sl) {i x : Int32} (hin : ¬ (i < 0 ∨ 72 ≤ i.toNatClampNeg)) (e : σ' = sA σ 12 i.toNatClampNeg x) (hd : decode cc pc = .ok (.iastore, 1)) (kk : J (wfm ad cs) X nL k n σ' (pc + 1) loc (rest)) : J (wfm ad cs) X nL k n σ pc loc (.int x :: .int i :: .ref (ad 23) :: rest) := by
  subst e
  exact j_iast C 0 (fun _ _ => ⟨23, rfl, rfl⟩) rfl hin hd kk
theorem la_m_limits (C : JC X l0 D0 (ttf cs) eE cc own nL (cd :: BIG) fr lo ce sl) {i : Int32} (hin : ¬ (i < 0 ∨ 72 ≤ i.toNatClampNeg)) (hd : decode cc pc = .ok (.iaload, 1)) (kk : J (wfm ad cs) X nL k n σ (pc + 1) loc (.int (gA σ 13 i.toNatClampNeg) :: rest)) : J (wfm ad cs) X nL k n σ pc loc (.int i :: .ref (ad 24) :: rest) := j_iald C 0 ⟨24, rfl⟩ rfl hin hd kk
theorem sa_m_limits (C : JC X l0 D0 (ttf cs) eE cc own nL (cd :: BIG) fr lo ce sl) {i x : Int32} (hin : ¬ (i < 0 ∨ 72 ≤ i.toNatClampNeg)) (e : σ' = sA σ 13 i.toNatClampNeg x) (hd : decode cc pc = .ok (.iastore, 1)) (kk : J (wfm ad cs) X nL k n σ' (pc + 1) loc (rest)) : J (wfm ad cs) X nL k n σ pc loc (.int x :: .int i :: .ref (ad 24) :: rest) := by
  subst e
  exact j_iast C 0 (fun _ _ => ⟨24, rfl, rfl⟩) rfl hin hd kk
theorem la_m_quiets (C : JC X l0 D0 (ttf cs) eE cc own nL (cd :: BIG) fr lo ce sl) {i : Int32} (hin : ¬ (i < 0 ∨ 72 ≤ i.toNatClampNeg)) (hd : decode cc pc = .ok (.baload, 1)) (kk : J (wfm ad cs) X nL k n σ (pc + 1) loc (.int (gA σ 14 i.toNatClampNeg) :: rest)) : J (wfm ad cs) X nL k n σ pc loc (.int i :: .ref (ad 25) :: rest) := j_zald C 1 ⟨25, rfl⟩ rfl hin hd kk
theorem sa_m_quiets (C : JC X l0 D0 (ttf cs) eE cc own nL (cd :: BIG) fr lo ce sl) {i x : Int32} (hz : x = 0 ∨ x = 1) (hin : ¬ (i < 0 ∨ 72 ≤ i.toNatClampNeg)) (e : σ' = sA σ 14 i.toNatClampNeg x) (hd : decode cc pc = .ok (.bastore, 1)) (kk : J (wfm ad cs) X nL k n σ' (pc + 1) loc (rest)) : J (wfm ad cs) X nL k n σ pc loc (.int x :: .int i :: .ref (ad 25) :: rest) := by
  subst e
  exact j_zast C 1 hz (fun _ _ => ⟨25, rfl, rfl⟩) rfl hin hd kk
theorem la_m_offerId (C : JC X l0 D0 (ttf cs) eE cc own nL (cd :: BIG) fr lo ce sl) {i : Int32} (hin : ¬ (i < 0 ∨ 12 ≤ i.toNatClampNeg)) (hd : decode cc pc = .ok (.iaload, 1)) (kk : J (wfm ad cs) X nL k n σ (pc + 1) loc (.int (gA σ 15 i.toNatClampNeg) :: rest)) : J (wfm ad cs) X nL k n σ pc loc (.int i :: .ref (ad 26) :: rest) := j_iald C 0 ⟨26, rfl⟩ rfl hin hd kk
theorem sa_m_offerId (C : JC X l0 D0 (ttf cs) eE cc own nL (cd :: BIG) fr lo ce sl) {i x : Int32} (hin : ¬ (i < 0 ∨ 12 ≤ i.toNatClampNeg)) (e : σ' = sA σ 15 i.toNatClampNeg x) (hd : decode cc pc = .ok (.iastore, 1)) (kk : J (wfm ad cs) X nL k n σ' (pc + 1) loc (rest)) : J (wfm ad cs) X nL k n σ pc loc (.int x :: .int i :: .ref (ad 26) :: rest) := by
  subst e
  exact j_iast C 0 (fun _ _ => ⟨26, rfl, rfl⟩) rfl hin hd kk
theorem la_m_ownerOf (C : JC X l0 D0 (ttf cs) eE cc own nL (cd :: BIG) fr lo ce sl) {i : Int32} (hin : ¬ (i < 0 ∨ 12 ≤ i.toNatClampNeg)) (hd : decode cc pc = .ok (.iaload, 1)) (kk : J (wfm ad cs) X nL k n σ (pc + 1) loc (.int (gA σ 16 i.toNatClampNeg) :: rest)) : J (wfm ad cs) X nL k n σ pc loc (.int i :: .ref (ad 27) :: rest) := j_iald C 0 ⟨27, rfl⟩ rfl hin hd kk
theorem sa_m_ownerOf (C : JC X l0 D0 (ttf cs) eE cc own nL (cd :: BIG) fr lo ce sl) {i x : Int32} (hin : ¬ (i < 0 ∨ 12 ≤ i.toNatClampNeg)) (e : σ' = sA σ 16 i.toNatClampNeg x) (hd : decode cc pc = .ok (.iastore, 1)) (kk : J (wfm ad cs) X nL k n σ' (pc + 1) loc (rest)) : J (wfm ad cs) X nL k n σ pc loc (.int x :: .int i :: .ref (ad 27) :: rest) := by
  subst e
  exact j_iast C 0 (fun _ _ => ⟨27, rfl, rfl⟩) rfl hin hd kk
theorem la_m_wantsOf (C : JC X l0 D0 (ttf cs) eE cc own nL (cd :: BIG) fr lo ce sl) {i : Int32} (hin : ¬ (i < 0 ∨ 12 ≤ i.toNatClampNeg)) (hd : decode cc pc = .ok (.iaload, 1)) (kk : J (wfm ad cs) X nL k n σ (pc + 1) loc (.int (gA σ 17 i.toNatClampNeg) :: rest)) : J (wfm ad cs) X nL k n σ pc loc (.int i :: .ref (ad 28) :: rest) := j_iald C 0 ⟨28, rfl⟩ rfl hin hd kk
theorem sa_m_wantsOf (C : JC X l0 D0 (ttf cs) eE cc own nL (cd :: BIG) fr lo ce sl) {i x : Int32} (hin : ¬ (i < 0 ∨ 12 ≤ i.toNatClampNeg)) (e : σ' = sA σ 17 i.toNatClampNeg x) (hd : decode cc pc = .ok (.iastore, 1)) (kk : J (wfm ad cs) X nL k n σ' (pc + 1) loc (rest)) : J (wfm ad cs) X nL k n σ pc loc (.int x :: .int i :: .ref (ad 28) :: rest) := by
  subst e
  exact j_iast C 0 (fun _ _ => ⟨28, rfl, rfl⟩) rfl hin hd kk
theorem la_m_givesOf (C : JC X l0 D0 (ttf cs) eE cc own nL (cd :: BIG) fr lo ce sl) {i : Int32} (hin : ¬ (i < 0 ∨ 12 ≤ i.toNatClampNeg)) (hd : decode cc pc = .ok (.iaload, 1)) (kk : J (wfm ad cs) X nL k n σ (pc + 1) loc (.int (gA σ 18 i.toNatClampNeg) :: rest)) : J (wfm ad cs) X nL k n σ pc loc (.int i :: .ref (ad 29) :: rest) := j_iald C 0 ⟨29, rfl⟩ rfl hin hd kk
theorem sa_m_givesOf (C : JC X l0 D0 (ttf cs) eE cc own nL (cd :: BIG) fr lo ce sl) {i x : Int32} (hin : ¬ (i < 0 ∨ 12 ≤ i.toNatClampNeg)) (e : σ' = sA σ 18 i.toNatClampNeg x) (hd : decode cc pc = .ok (.iastore, 1)) (kk : J (wfm ad cs) X nL k n σ' (pc + 1) loc (rest)) : J (wfm ad cs) X nL k n σ pc loc (.int x :: .int i :: .ref (ad 29) :: rest) := by
  subst e
  exact j_iast C 0 (fun _ _ => ⟨29, rfl, rfl⟩) rfl hin hd kk
theorem la_m_wOf (C : JC X l0 D0 (ttf cs) eE cc own nL (cd :: BIG) fr lo ce sl) {i : Int32} (hin : ¬ (i < 0 ∨ 12 ≤ i.toNatClampNeg)) (hd : decode cc pc = .ok (.iaload, 1)) (kk : J (wfm ad cs) X nL k n σ (pc + 1) loc (.int (gA σ 19 i.toNatClampNeg) :: rest)) : J (wfm ad cs) X nL k n σ pc loc (.int i :: .ref (ad 30) :: rest) := j_iald C 0 ⟨30, rfl⟩ rfl hin hd kk
theorem sa_m_wOf (C : JC X l0 D0 (ttf cs) eE cc own nL (cd :: BIG) fr lo ce sl) {i x : Int32} (hin : ¬ (i < 0 ∨ 12 ≤ i.toNatClampNeg)) (e : σ' = sA σ 19 i.toNatClampNeg x) (hd : decode cc pc = .ok (.iastore, 1)) (kk : J (wfm ad cs) X nL k n σ' (pc + 1) loc (rest)) : J (wfm ad cs) X nL k n σ pc loc (.int x :: .int i :: .ref (ad 30) :: rest) := by
  subst e
  exact j_iast C 0 (fun _ _ => ⟨30, rfl, rfl⟩) rfl hin hd kk
theorem la_m_gOf (C : JC X l0 D0 (ttf cs) eE cc own nL (cd :: BIG) fr lo ce sl) {i : Int32} (hin : ¬ (i < 0 ∨ 12 ≤ i.toNatClampNeg)) (hd : decode cc pc = .ok (.iaload, 1)) (kk : J (wfm ad cs) X nL k n σ (pc + 1) loc (.int (gA σ 20 i.toNatClampNeg) :: rest)) : J (wfm ad cs) X nL k n σ pc loc (.int i :: .ref (ad 31) :: rest) := j_iald C 0 ⟨31, rfl⟩ rfl hin hd kk
theorem sa_m_gOf (C : JC X l0 D0 (ttf cs) eE cc own nL (cd :: BIG) fr lo ce sl) {i x : Int32} (hin : ¬ (i < 0 ∨ 12 ≤ i.toNatClampNeg)) (e : σ' = sA σ 20 i.toNatClampNeg x) (hd : decode cc pc = .ok (.iastore, 1)) (kk : J (wfm ad cs) X nL k n σ' (pc + 1) loc (rest)) : J (wfm ad cs) X nL k n σ pc loc (.int x :: .int i :: .ref (ad 31) :: rest) := by
  subst e
  exact j_iast C 0 (fun _ _ => ⟨31, rfl, rfl⟩) rfl hin hd kk
theorem la_m_depositId (C : JC X l0 D0 (ttf cs) eE cc own nL (cd :: BIG) fr lo ce sl) {i : Int32} (hin : ¬ (i < 0 ∨ 6 ≤ i.toNatClampNeg)) (hd : decode cc pc = .ok (.iaload, 1)) (kk : J (wfm ad cs) X nL k n σ (pc + 1) loc (.int (gA σ 21 i.toNatClampNeg) :: rest)) : J (wfm ad cs) X nL k n σ pc loc (.int i :: .ref (ad 32) :: rest) := j_iald C 0 ⟨32, rfl⟩ rfl hin hd kk
theorem sa_m_depositId (C : JC X l0 D0 (ttf cs) eE cc own nL (cd :: BIG) fr lo ce sl) {i x : Int32} (hin : ¬ (i < 0 ∨ 6 ≤ i.toNatClampNeg)) (e : σ' = sA σ 21 i.toNatClampNeg x) (hd : decode cc pc = .ok (.iastore, 1)) (kk : J (wfm ad cs) X nL k n σ' (pc + 1) loc (rest)) : J (wfm ad cs) X nL k n σ pc loc (.int x :: .int i :: .ref (ad 32) :: rest) := by
  subst e
  exact j_iast C 0 (fun _ _ => ⟨32, rfl, rfl⟩) rfl hin hd kk
theorem la_m_fromOf (C : JC X l0 D0 (ttf cs) eE cc own nL (cd :: BIG) fr lo ce sl) {i : Int32} (hin : ¬ (i < 0 ∨ 6 ≤ i.toNatClampNeg)) (hd : decode cc pc = .ok (.iaload, 1)) (kk : J (wfm ad cs) X nL k n σ (pc + 1) loc (.int (gA σ 22 i.toNatClampNeg) :: rest)) : J (wfm ad cs) X nL k n σ pc loc (.int i :: .ref (ad 33) :: rest) := j_iald C 0 ⟨33, rfl⟩ rfl hin hd kk
theorem sa_m_fromOf (C : JC X l0 D0 (ttf cs) eE cc own nL (cd :: BIG) fr lo ce sl) {i x : Int32} (hin : ¬ (i < 0 ∨ 6 ≤ i.toNatClampNeg)) (e : σ' = sA σ 22 i.toNatClampNeg x) (hd : decode cc pc = .ok (.iastore, 1)) (kk : J (wfm ad cs) X nL k n σ' (pc + 1) loc (rest)) : J (wfm ad cs) X nL k n σ pc loc (.int x :: .int i :: .ref (ad 33) :: rest) := by
  subst e
  exact j_iast C 0 (fun _ _ => ⟨33, rfl, rfl⟩) rfl hin hd kk
theorem la_m_toOf (C : JC X l0 D0 (ttf cs) eE cc own nL (cd :: BIG) fr lo ce sl) {i : Int32} (hin : ¬ (i < 0 ∨ 6 ≤ i.toNatClampNeg)) (hd : decode cc pc = .ok (.iaload, 1)) (kk : J (wfm ad cs) X nL k n σ (pc + 1) loc (.int (gA σ 23 i.toNatClampNeg) :: rest)) : J (wfm ad cs) X nL k n σ pc loc (.int i :: .ref (ad 34) :: rest) := j_iald C 0 ⟨34, rfl⟩ rfl hin hd kk
theorem sa_m_toOf (C : JC X l0 D0 (ttf cs) eE cc own nL (cd :: BIG) fr lo ce sl) {i x : Int32} (hin : ¬ (i < 0 ∨ 6 ≤ i.toNatClampNeg)) (e : σ' = sA σ 23 i.toNatClampNeg x) (hd : decode cc pc = .ok (.iastore, 1)) (kk : J (wfm ad cs) X nL k n σ' (pc + 1) loc (rest)) : J (wfm ad cs) X nL k n σ pc loc (.int x :: .int i :: .ref (ad 34) :: rest) := by
  subst e
  exact j_iast C 0 (fun _ _ => ⟨34, rfl, rfl⟩) rfl hin hd kk
theorem la_m_heldOf (C : JC X l0 D0 (ttf cs) eE cc own nL (cd :: BIG) fr lo ce sl) {i : Int32} (hin : ¬ (i < 0 ∨ 6 ≤ i.toNatClampNeg)) (hd : decode cc pc = .ok (.iaload, 1)) (kk : J (wfm ad cs) X nL k n σ (pc + 1) loc (.int (gA σ 24 i.toNatClampNeg) :: rest)) : J (wfm ad cs) X nL k n σ pc loc (.int i :: .ref (ad 35) :: rest) := j_iald C 0 ⟨35, rfl⟩ rfl hin hd kk
theorem sa_m_heldOf (C : JC X l0 D0 (ttf cs) eE cc own nL (cd :: BIG) fr lo ce sl) {i x : Int32} (hin : ¬ (i < 0 ∨ 6 ≤ i.toNatClampNeg)) (e : σ' = sA σ 24 i.toNatClampNeg x) (hd : decode cc pc = .ok (.iastore, 1)) (kk : J (wfm ad cs) X nL k n σ' (pc + 1) loc (rest)) : J (wfm ad cs) X nL k n σ pc loc (.int x :: .int i :: .ref (ad 35) :: rest) := by
  subst e
  exact j_iast C 0 (fun _ _ => ⟨35, rfl, rfl⟩) rfl hin hd kk
theorem la_m_afterOf (C : JC X l0 D0 (ttf cs) eE cc own nL (cd :: BIG) fr lo ce sl) {i : Int32} (hin : ¬ (i < 0 ∨ 6 ≤ i.toNatClampNeg)) (hd : decode cc pc = .ok (.iaload, 1)) (kk : J (wfm ad cs) X nL k n σ (pc + 1) loc (.int (gA σ 25 i.toNatClampNeg) :: rest)) : J (wfm ad cs) X nL k n σ pc loc (.int i :: .ref (ad 36) :: rest) := j_iald C 0 ⟨36, rfl⟩ rfl hin hd kk
theorem sa_m_afterOf (C : JC X l0 D0 (ttf cs) eE cc own nL (cd :: BIG) fr lo ce sl) {i x : Int32} (hin : ¬ (i < 0 ∨ 6 ≤ i.toNatClampNeg)) (e : σ' = sA σ 25 i.toNatClampNeg x) (hd : decode cc pc = .ok (.iastore, 1)) (kk : J (wfm ad cs) X nL k n σ' (pc + 1) loc (rest)) : J (wfm ad cs) X nL k n σ pc loc (.int x :: .int i :: .ref (ad 36) :: rest) := by
  subst e
  exact j_iast C 0 (fun _ _ => ⟨36, rfl, rfl⟩) rfl hin hd kk
theorem la_m_untilOf (C : JC X l0 D0 (ttf cs) eE cc own nL (cd :: BIG) fr lo ce sl) {i : Int32} (hin : ¬ (i < 0 ∨ 6 ≤ i.toNatClampNeg)) (hd : decode cc pc = .ok (.iaload, 1)) (kk : J (wfm ad cs) X nL k n σ (pc + 1) loc (.int (gA σ 26 i.toNatClampNeg) :: rest)) : J (wfm ad cs) X nL k n σ pc loc (.int i :: .ref (ad 37) :: rest) := j_iald C 0 ⟨37, rfl⟩ rfl hin hd kk
theorem sa_m_untilOf (C : JC X l0 D0 (ttf cs) eE cc own nL (cd :: BIG) fr lo ce sl) {i x : Int32} (hin : ¬ (i < 0 ∨ 6 ≤ i.toNatClampNeg)) (e : σ' = sA σ 26 i.toNatClampNeg x) (hd : decode cc pc = .ok (.iastore, 1)) (kk : J (wfm ad cs) X nL k n σ' (pc + 1) loc (rest)) : J (wfm ad cs) X nL k n σ pc loc (.int x :: .int i :: .ref (ad 37) :: rest) := by
  subst e
  exact j_iast C 0 (fun _ _ => ⟨37, rfl, rfl⟩) rfl hin hd kk
theorem la_m_taken (C : JC X l0 D0 (ttf cs) eE cc own nL (cd :: BIG) fr lo ce sl) {i : Int32} (hin : ¬ (i < 0 ∨ 12 ≤ i.toNatClampNeg)) (hd : decode cc pc = .ok (.iaload, 1)) (kk : J (wfm ad cs) X nL k n σ (pc + 1) loc (.int (gA σ 27 i.toNatClampNeg) :: rest)) : J (wfm ad cs) X nL k n σ pc loc (.int i :: .ref (ad 38) :: rest) := j_iald C 0 ⟨38, rfl⟩ rfl hin hd kk
theorem sa_m_taken (C : JC X l0 D0 (ttf cs) eE cc own nL (cd :: BIG) fr lo ce sl) {i x : Int32} (hin : ¬ (i < 0 ∨ 12 ≤ i.toNatClampNeg)) (e : σ' = sA σ 27 i.toNatClampNeg x) (hd : decode cc pc = .ok (.iastore, 1)) (kk : J (wfm ad cs) X nL k n σ' (pc + 1) loc (rest)) : J (wfm ad cs) X nL k n σ pc loc (.int x :: .int i :: .ref (ad 38) :: rest) := by
  subst e
  exact j_iast C 0 (fun _ _ => ⟨38, rfl, rfl⟩) rfl hin hd kk
theorem la_m_prices (C : JC X l0 D0 (ttf cs) eE cc own nL (cd :: BIG) fr lo ce sl) {i : Int32} (hin : ¬ (i < 0 ∨ 12 ≤ i.toNatClampNeg)) (hd : decode cc pc = .ok (.iaload, 1)) (kk : J (wfm ad cs) X nL k n σ (pc + 1) loc (.int (gA σ 28 i.toNatClampNeg) :: rest)) : J (wfm ad cs) X nL k n σ pc loc (.int i :: .ref (ad 39) :: rest) := j_iald C 0 ⟨39, rfl⟩ rfl hin hd kk
theorem sa_m_prices (C : JC X l0 D0 (ttf cs) eE cc own nL (cd :: BIG) fr lo ce sl) {i x : Int32} (hin : ¬ (i < 0 ∨ 12 ≤ i.toNatClampNeg)) (e : σ' = sA σ 28 i.toNatClampNeg x) (hd : decode cc pc = .ok (.iastore, 1)) (kk : J (wfm ad cs) X nL k n σ' (pc + 1) loc (rest)) : J (wfm ad cs) X nL k n σ pc loc (.int x :: .int i :: .ref (ad 39) :: rest) := by
  subst e
  exact j_iast C 0 (fun _ _ => ⟨39, rfl, rfl⟩) rfl hin hd kk
theorem la_m_seen (C : JC X l0 D0 (ttf cs) eE cc own nL (cd :: BIG) fr lo ce sl) {i : Int32} (hin : ¬ (i < 0 ∨ 12 ≤ i.toNatClampNeg)) (hd : decode cc pc = .ok (.baload, 1)) (kk : J (wfm ad cs) X nL k n σ (pc + 1) loc (.int (gA σ 29 i.toNatClampNeg) :: rest)) : J (wfm ad cs) X nL k n σ pc loc (.int i :: .ref (ad 40) :: rest) := j_zald C 1 ⟨40, rfl⟩ rfl hin hd kk
theorem sa_m_seen (C : JC X l0 D0 (ttf cs) eE cc own nL (cd :: BIG) fr lo ce sl) {i x : Int32} (hz : x = 0 ∨ x = 1) (hin : ¬ (i < 0 ∨ 12 ≤ i.toNatClampNeg)) (e : σ' = sA σ 29 i.toNatClampNeg x) (hd : decode cc pc = .ok (.bastore, 1)) (kk : J (wfm ad cs) X nL k n σ' (pc + 1) loc (rest)) : J (wfm ad cs) X nL k n σ pc loc (.int x :: .int i :: .ref (ad 40) :: rest) := by
  subst e
  exact j_zast C 1 hz (fun _ _ => ⟨40, rfl, rfl⟩) rfl hin hd kk
theorem la_m_gone (C : JC X l0 D0 (ttf cs) eE cc own nL (cd :: BIG) fr lo ce sl) {i : Int32} (hin : ¬ (i < 0 ∨ 12 ≤ i.toNatClampNeg)) (hd : decode cc pc = .ok (.baload, 1)) (kk : J (wfm ad cs) X nL k n σ (pc + 1) loc (.int (gA σ 30 i.toNatClampNeg) :: rest)) : J (wfm ad cs) X nL k n σ pc loc (.int i :: .ref (ad 41) :: rest) := j_zald C 1 ⟨41, rfl⟩ rfl hin hd kk
theorem sa_m_gone (C : JC X l0 D0 (ttf cs) eE cc own nL (cd :: BIG) fr lo ce sl) {i x : Int32} (hz : x = 0 ∨ x = 1) (hin : ¬ (i < 0 ∨ 12 ≤ i.toNatClampNeg)) (e : σ' = sA σ 30 i.toNatClampNeg x) (hd : decode cc pc = .ok (.bastore, 1)) (kk : J (wfm ad cs) X nL k n σ' (pc + 1) loc (rest)) : J (wfm ad cs) X nL k n σ pc loc (.int x :: .int i :: .ref (ad 41) :: rest) := by
  subst e
  exact j_zast C 1 hz (fun _ _ => ⟨41, rfl, rfl⟩) rfl hin hd kk
theorem la_m_spent (C : JC X l0 D0 (ttf cs) eE cc own nL (cd :: BIG) fr lo ce sl) {i : Int32} (hin : ¬ (i < 0 ∨ 6 ≤ i.toNatClampNeg)) (hd : decode cc pc = .ok (.laload, 1)) (kk : J (wfm ad cs) X nL k n σ (pc + 1) loc (.long (gV σ i.toNatClampNeg) :: rest)) : J (wfm ad cs) X nL k n σ pc loc (.int i :: .ref (ad 42) :: rest) := j_lald C 2 ⟨42, rfl⟩ rfl hin hd kk
theorem sa_m_spent (C : JC X l0 D0 (ttf cs) eE cc own nL (cd :: BIG) fr lo ce sl) {i : Int32} {x : Int64} (hin : ¬ (i < 0 ∨ 6 ≤ i.toNatClampNeg)) (e : σ' = sV σ i.toNatClampNeg x) (hd : decode cc pc = .ok (.lastore, 1)) (kk : J (wfm ad cs) X nL k n σ' (pc + 1) loc (rest)) : J (wfm ad cs) X nL k n σ pc loc (.long x :: .int i :: .ref (ad 42) :: rest) := by
  subst e
  exact j_last C 2 (fun _ _ => ⟨42, rfl, rfl⟩) rfl hin hd kk
theorem la_m_inner (C : JC X l0 D0 (ttf cs) eE cc own nL (cd :: BIG) fr lo ce sl) {i : Int32} (hin : ¬ (i < 0 ∨ 4 ≤ i.toNatClampNeg)) (hd : decode cc pc = .ok (.iaload, 1)) (kk : J (wfm ad cs) X nL k n σ (pc + 1) loc (.int (gA σ 31 i.toNatClampNeg) :: rest)) : J (wfm ad cs) X nL k n σ pc loc (.int i :: .ref (ad 43) :: rest) := j_iald C 0 ⟨43, rfl⟩ rfl hin hd kk
theorem sa_m_inner (C : JC X l0 D0 (ttf cs) eE cc own nL (cd :: BIG) fr lo ce sl) {i x : Int32} (hin : ¬ (i < 0 ∨ 4 ≤ i.toNatClampNeg)) (e : σ' = sA σ 31 i.toNatClampNeg x) (hd : decode cc pc = .ok (.iastore, 1)) (kk : J (wfm ad cs) X nL k n σ' (pc + 1) loc (rest)) : J (wfm ad cs) X nL k n σ pc loc (.int x :: .int i :: .ref (ad 43) :: rest) := by
  subst e
  exact j_iast C 0 (fun _ _ => ⟨43, rfl, rfl⟩) rfl hin hd kk
theorem la_pool (C : JC X l0 D0 (ttf cs) eE cc own nL (cd :: BIG) fr lo ce sl) {i : Int32} {a q : Nat} (h : a ∈ pL σ ∧ pK σ a = 0) (hin : ¬ (i < 0 ∨ pC σ a ≤ i.toNatClampNeg)) (hq : pR σ a i.toNatClampNeg = some q) (hd : decode cc pc = .ok (.aaload, 1)) (kk : J (wfm ad cs) X nL k n σ (pc + 1) loc (.ref q :: rest)) : J (wfm ad cs) X nL k n σ pc loc (.int i :: .ref a :: rest) := j_aald C 5 (rdp0 h) rfl hin hq hd kk
theorem sa_poolN (C : JC X l0 D0 (ttf cs) eE cc own nL (cd :: BIG) fr lo ce sl) {i : Int32} {a : Nat} (h : a ∈ pL σ ∧ pK σ a = 0) (hin : ¬ (i < 0 ∨ pC σ a ≤ i.toNatClampNeg)) (e : σ' = sQ σ a i.toNatClampNeg none) (hd : decode cc pc = .ok (.aastore, 1)) (kk : J (wfm ad cs) X nL k n σ' (pc + 1) loc (rest)) : J (wfm ad cs) X nL k n σ pc loc (.null :: .int i :: .ref a :: rest) := by
  subst e
  exact j_aastN C 5 (wrp0 h) rfl hin hd kk
theorem gp_Account_exists (C : JC X l0 D0 (ttf cs) eE cc own nL (cd :: BIG) fr lo ce sl) {ix q : Nat} (h : q ∈ pL σ ∧ pK σ q = 1) (hw : Cond.fieldLink own ix "TollLedger$Account" "exists" "Z" ∈ cd :: BIG) (hd : decode cc pc = .ok (.getfield ix, 3)) (kk : J (wfm ad cs) X nL k n σ (pc + 3) loc (.int (pP σ q 0) :: rest)) : J (wfm ad cs) X nL k n σ pc loc (.ref q :: rest) :=
  j_get (T := T_AC) (N := 4) (Cn := "TollLedger$Account") (ci := 6) (j := 0) C (fun w h => List.mem_cons_of_mem _ (in_AC w h)) (rdp1 h) rfl (by decide) hw (Or.inl rfl) rfl hd kk
theorem pp_Account_exists (C : JC X l0 D0 (ttf cs) eE cc own nL (cd :: BIG) fr lo ce sl) {ix q : Nat} {v : Int32} (h : q ∈ pL σ ∧ pK σ q = 1) (hz : v = 0 ∨ v = 1) (e : σ' = sP σ q 0 v) (hw : Cond.fieldLink own ix "TollLedger$Account" "exists" "Z" ∈ cd :: BIG) (hd : decode cc pc = .ok (.putfield ix, 3)) (kk : J (wfm ad cs) X nL k n σ' (pc + 3) loc (rest)) : J (wfm ad cs) X nL k n σ pc loc (.int v :: .ref q :: rest) := by
  subst e
  exact j_put (T := T_AC) (N := 4) (Cn := "TollLedger$Account") (ci := 6) (j := 0) (ty := .boolean) (fs := [.int (pP σ q 0), .int (pP σ q 1), .int (pP σ q 2), .int (pP σ q 3)]) C (fun w h => List.mem_cons_of_mem _ (in_AC w h)) tk_AC nm_AC (wrp1 (ad := ad) (cs := cs) (j := 0) (v := v) h) rfl (by decide) hw (Or.inl rfl) rfl (by decide +kernel) (by rcases hz with rfl | rfl <;> rfl) (by rcases hz with rfl | rfl <;> rfl) (Nat.le_of_ble_eq_true rfl) hd kk
theorem gp_Account_coins (C : JC X l0 D0 (ttf cs) eE cc own nL (cd :: BIG) fr lo ce sl) {ix q : Nat} (h : q ∈ pL σ ∧ pK σ q = 1) (hw : Cond.fieldLink own ix "TollLedger$Account" "coins" "I" ∈ cd :: BIG) (hd : decode cc pc = .ok (.getfield ix, 3)) (kk : J (wfm ad cs) X nL k n σ (pc + 3) loc (.int (pP σ q 1) :: rest)) : J (wfm ad cs) X nL k n σ pc loc (.ref q :: rest) :=
  j_get (T := T_AC) (N := 4) (Cn := "TollLedger$Account") (ci := 6) (j := 1) C (fun w h => List.mem_cons_of_mem _ (in_AC w h)) (rdp1 h) rfl (by decide) hw (Or.inl rfl) rfl hd kk
theorem pp_Account_coins (C : JC X l0 D0 (ttf cs) eE cc own nL (cd :: BIG) fr lo ce sl) {ix q : Nat} {v : Int32} (h : q ∈ pL σ ∧ pK σ q = 1) (e : σ' = sP σ q 1 v) (hw : Cond.fieldLink own ix "TollLedger$Account" "coins" "I" ∈ cd :: BIG) (hd : decode cc pc = .ok (.putfield ix, 3)) (kk : J (wfm ad cs) X nL k n σ' (pc + 3) loc (rest)) : J (wfm ad cs) X nL k n σ pc loc (.int v :: .ref q :: rest) := by
  subst e
  exact j_put (T := T_AC) (N := 4) (Cn := "TollLedger$Account") (ci := 6) (j := 1) (ty := .int) (fs := [.int (pP σ q 0), .int (pP σ q 1), .int (pP σ q 2), .int (pP σ q 3)]) C (fun w h => List.mem_cons_of_mem _ (in_AC w h)) tk_AC nm_AC (wrp1 (ad := ad) (cs := cs) (j := 1) (v := v) h) rfl (by decide) hw (Or.inl rfl) rfl (by decide +kernel) rfl rfl (Nat.le_of_ble_eq_true rfl) hd kk
theorem gp_Account_number (C : JC X l0 D0 (ttf cs) eE cc own nL (cd :: BIG) fr lo ce sl) {ix q : Nat} (h : q ∈ pL σ ∧ pK σ q = 1) (hw : Cond.fieldLink own ix "TollLedger$Account" "number" "I" ∈ cd :: BIG) (hd : decode cc pc = .ok (.getfield ix, 3)) (kk : J (wfm ad cs) X nL k n σ (pc + 3) loc (.int (pP σ q 2) :: rest)) : J (wfm ad cs) X nL k n σ pc loc (.ref q :: rest) :=
  j_get (T := T_AC) (N := 4) (Cn := "TollLedger$Account") (ci := 6) (j := 2) C (fun w h => List.mem_cons_of_mem _ (in_AC w h)) (rdp1 h) rfl (by decide) hw (Or.inl rfl) rfl hd kk
theorem pp_Account_number (C : JC X l0 D0 (ttf cs) eE cc own nL (cd :: BIG) fr lo ce sl) {ix q : Nat} {v : Int32} (h : q ∈ pL σ ∧ pK σ q = 1) (e : σ' = sP σ q 2 v) (hw : Cond.fieldLink own ix "TollLedger$Account" "number" "I" ∈ cd :: BIG) (hd : decode cc pc = .ok (.putfield ix, 3)) (kk : J (wfm ad cs) X nL k n σ' (pc + 3) loc (rest)) : J (wfm ad cs) X nL k n σ pc loc (.int v :: .ref q :: rest) := by
  subst e
  exact j_put (T := T_AC) (N := 4) (Cn := "TollLedger$Account") (ci := 6) (j := 2) (ty := .int) (fs := [.int (pP σ q 0), .int (pP σ q 1), .int (pP σ q 2), .int (pP σ q 3)]) C (fun w h => List.mem_cons_of_mem _ (in_AC w h)) tk_AC nm_AC (wrp1 (ad := ad) (cs := cs) (j := 2) (v := v) h) rfl (by decide) hw (Or.inl rfl) rfl (by decide +kernel) rfl rfl (Nat.le_of_ble_eq_true rfl) hd kk
theorem gp_Account_rate (C : JC X l0 D0 (ttf cs) eE cc own nL (cd :: BIG) fr lo ce sl) {ix q : Nat} (h : q ∈ pL σ ∧ pK σ q = 1) (hw : Cond.fieldLink own ix "TollLedger$Account" "rate" "I" ∈ cd :: BIG) (hd : decode cc pc = .ok (.getfield ix, 3)) (kk : J (wfm ad cs) X nL k n σ (pc + 3) loc (.int (pP σ q 3) :: rest)) : J (wfm ad cs) X nL k n σ pc loc (.ref q :: rest) :=
  j_get (T := T_AC) (N := 4) (Cn := "TollLedger$Account") (ci := 6) (j := 3) C (fun w h => List.mem_cons_of_mem _ (in_AC w h)) (rdp1 h) rfl (by decide) hw (Or.inl rfl) rfl hd kk
theorem pp_Account_rate (C : JC X l0 D0 (ttf cs) eE cc own nL (cd :: BIG) fr lo ce sl) {ix q : Nat} {v : Int32} (h : q ∈ pL σ ∧ pK σ q = 1) (e : σ' = sP σ q 3 v) (hw : Cond.fieldLink own ix "TollLedger$Account" "rate" "I" ∈ cd :: BIG) (hd : decode cc pc = .ok (.putfield ix, 3)) (kk : J (wfm ad cs) X nL k n σ' (pc + 3) loc (rest)) : J (wfm ad cs) X nL k n σ pc loc (.int v :: .ref q :: rest) := by
  subst e
  exact j_put (T := T_AC) (N := 4) (Cn := "TollLedger$Account") (ci := 6) (j := 3) (ty := .int) (fs := [.int (pP σ q 0), .int (pP σ q 1), .int (pP σ q 2), .int (pP σ q 3)]) C (fun w h => List.mem_cons_of_mem _ (in_AC w h)) tk_AC nm_AC (wrp1 (ad := ad) (cs := cs) (j := 3) (v := v) h) rfl (by decide) hw (Or.inl rfl) rfl (by decide +kernel) rfl rfl (Nat.le_of_ble_eq_true rfl) hd kk
theorem gp_Offer_id (C : JC X l0 D0 (ttf cs) eE cc own nL (cd :: BIG) fr lo ce sl) {ix q : Nat} (h : q ∈ pL σ ∧ pK σ q = 2) (hw : Cond.fieldLink own ix "TollLedger$Offer" "id" "I" ∈ cd :: BIG) (hd : decode cc pc = .ok (.getfield ix, 3)) (kk : J (wfm ad cs) X nL k n σ (pc + 3) loc (.int (pP σ q 0) :: rest)) : J (wfm ad cs) X nL k n σ pc loc (.ref q :: rest) :=
  j_get (T := T_OF) (N := 6) (Cn := "TollLedger$Offer") (ci := 7) (j := 0) C (fun w h => List.mem_cons_of_mem _ (in_OF w h)) (rdp2 h) rfl (by decide) hw (Or.inl rfl) rfl hd kk
theorem pp_Offer_id (C : JC X l0 D0 (ttf cs) eE cc own nL (cd :: BIG) fr lo ce sl) {ix q : Nat} {v : Int32} (h : q ∈ pL σ ∧ pK σ q = 2) (e : σ' = sP σ q 0 v) (hw : Cond.fieldLink own ix "TollLedger$Offer" "id" "I" ∈ cd :: BIG) (hd : decode cc pc = .ok (.putfield ix, 3)) (kk : J (wfm ad cs) X nL k n σ' (pc + 3) loc (rest)) : J (wfm ad cs) X nL k n σ pc loc (.int v :: .ref q :: rest) := by
  subst e
  exact j_put (T := T_OF) (N := 6) (Cn := "TollLedger$Offer") (ci := 7) (j := 0) (ty := .int) (fs := [.int (pP σ q 0), .int (pP σ q 1), .int (pP σ q 2), .int (pP σ q 3), .int (pP σ q 4), .int (pP σ q 5)]) C (fun w h => List.mem_cons_of_mem _ (in_OF w h)) tk_OF nm_OF (wrp2 (ad := ad) (cs := cs) (j := 0) (v := v) h) rfl (by decide) hw (Or.inl rfl) rfl (by decide +kernel) rfl rfl (Nat.le_of_ble_eq_true rfl) hd kk
theorem gp_Offer_owner (C : JC X l0 D0 (ttf cs) eE cc own nL (cd :: BIG) fr lo ce sl) {ix q : Nat} (h : q ∈ pL σ ∧ pK σ q = 2) (hw : Cond.fieldLink own ix "TollLedger$Offer" "owner" "I" ∈ cd :: BIG) (hd : decode cc pc = .ok (.getfield ix, 3)) (kk : J (wfm ad cs) X nL k n σ (pc + 3) loc (.int (pP σ q 1) :: rest)) : J (wfm ad cs) X nL k n σ pc loc (.ref q :: rest) :=
  j_get (T := T_OF) (N := 6) (Cn := "TollLedger$Offer") (ci := 7) (j := 1) C (fun w h => List.mem_cons_of_mem _ (in_OF w h)) (rdp2 h) rfl (by decide) hw (Or.inl rfl) rfl hd kk
theorem pp_Offer_owner (C : JC X l0 D0 (ttf cs) eE cc own nL (cd :: BIG) fr lo ce sl) {ix q : Nat} {v : Int32} (h : q ∈ pL σ ∧ pK σ q = 2) (e : σ' = sP σ q 1 v) (hw : Cond.fieldLink own ix "TollLedger$Offer" "owner" "I" ∈ cd :: BIG) (hd : decode cc pc = .ok (.putfield ix, 3)) (kk : J (wfm ad cs) X nL k n σ' (pc + 3) loc (rest)) : J (wfm ad cs) X nL k n σ pc loc (.int v :: .ref q :: rest) := by
  subst e
  exact j_put (T := T_OF) (N := 6) (Cn := "TollLedger$Offer") (ci := 7) (j := 1) (ty := .int) (fs := [.int (pP σ q 0), .int (pP σ q 1), .int (pP σ q 2), .int (pP σ q 3), .int (pP σ q 4), .int (pP σ q 5)]) C (fun w h => List.mem_cons_of_mem _ (in_OF w h)) tk_OF nm_OF (wrp2 (ad := ad) (cs := cs) (j := 1) (v := v) h) rfl (by decide) hw (Or.inl rfl) rfl (by decide +kernel) rfl rfl (Nat.le_of_ble_eq_true rfl) hd kk
theorem gp_Offer_wants (C : JC X l0 D0 (ttf cs) eE cc own nL (cd :: BIG) fr lo ce sl) {ix q : Nat} (h : q ∈ pL σ ∧ pK σ q = 2) (hw : Cond.fieldLink own ix "TollLedger$Offer" "wants" "I" ∈ cd :: BIG) (hd : decode cc pc = .ok (.getfield ix, 3)) (kk : J (wfm ad cs) X nL k n σ (pc + 3) loc (.int (pP σ q 2) :: rest)) : J (wfm ad cs) X nL k n σ pc loc (.ref q :: rest) :=
  j_get (T := T_OF) (N := 6) (Cn := "TollLedger$Offer") (ci := 7) (j := 2) C (fun w h => List.mem_cons_of_mem _ (in_OF w h)) (rdp2 h) rfl (by decide) hw (Or.inl rfl) rfl hd kk
theorem pp_Offer_wants (C : JC X l0 D0 (ttf cs) eE cc own nL (cd :: BIG) fr lo ce sl) {ix q : Nat} {v : Int32} (h : q ∈ pL σ ∧ pK σ q = 2) (e : σ' = sP σ q 2 v) (hw : Cond.fieldLink own ix "TollLedger$Offer" "wants" "I" ∈ cd :: BIG) (hd : decode cc pc = .ok (.putfield ix, 3)) (kk : J (wfm ad cs) X nL k n σ' (pc + 3) loc (rest)) : J (wfm ad cs) X nL k n σ pc loc (.int v :: .ref q :: rest) := by
  subst e
  exact j_put (T := T_OF) (N := 6) (Cn := "TollLedger$Offer") (ci := 7) (j := 2) (ty := .int) (fs := [.int (pP σ q 0), .int (pP σ q 1), .int (pP σ q 2), .int (pP σ q 3), .int (pP σ q 4), .int (pP σ q 5)]) C (fun w h => List.mem_cons_of_mem _ (in_OF w h)) tk_OF nm_OF (wrp2 (ad := ad) (cs := cs) (j := 2) (v := v) h) rfl (by decide) hw (Or.inl rfl) rfl (by decide +kernel) rfl rfl (Nat.le_of_ble_eq_true rfl) hd kk
theorem gp_Offer_w (C : JC X l0 D0 (ttf cs) eE cc own nL (cd :: BIG) fr lo ce sl) {ix q : Nat} (h : q ∈ pL σ ∧ pK σ q = 2) (hw : Cond.fieldLink own ix "TollLedger$Offer" "w" "I" ∈ cd :: BIG) (hd : decode cc pc = .ok (.getfield ix, 3)) (kk : J (wfm ad cs) X nL k n σ (pc + 3) loc (.int (pP σ q 3) :: rest)) : J (wfm ad cs) X nL k n σ pc loc (.ref q :: rest) :=
  j_get (T := T_OF) (N := 6) (Cn := "TollLedger$Offer") (ci := 7) (j := 3) C (fun w h => List.mem_cons_of_mem _ (in_OF w h)) (rdp2 h) rfl (by decide) hw (Or.inl rfl) rfl hd kk
theorem pp_Offer_w (C : JC X l0 D0 (ttf cs) eE cc own nL (cd :: BIG) fr lo ce sl) {ix q : Nat} {v : Int32} (h : q ∈ pL σ ∧ pK σ q = 2) (e : σ' = sP σ q 3 v) (hw : Cond.fieldLink own ix "TollLedger$Offer" "w" "I" ∈ cd :: BIG) (hd : decode cc pc = .ok (.putfield ix, 3)) (kk : J (wfm ad cs) X nL k n σ' (pc + 3) loc (rest)) : J (wfm ad cs) X nL k n σ pc loc (.int v :: .ref q :: rest) := by
  subst e
  exact j_put (T := T_OF) (N := 6) (Cn := "TollLedger$Offer") (ci := 7) (j := 3) (ty := .int) (fs := [.int (pP σ q 0), .int (pP σ q 1), .int (pP σ q 2), .int (pP σ q 3), .int (pP σ q 4), .int (pP σ q 5)]) C (fun w h => List.mem_cons_of_mem _ (in_OF w h)) tk_OF nm_OF (wrp2 (ad := ad) (cs := cs) (j := 3) (v := v) h) rfl (by decide) hw (Or.inl rfl) rfl (by decide +kernel) rfl rfl (Nat.le_of_ble_eq_true rfl) hd kk
theorem gp_Offer_gives (C : JC X l0 D0 (ttf cs) eE cc own nL (cd :: BIG) fr lo ce sl) {ix q : Nat} (h : q ∈ pL σ ∧ pK σ q = 2) (hw : Cond.fieldLink own ix "TollLedger$Offer" "gives" "I" ∈ cd :: BIG) (hd : decode cc pc = .ok (.getfield ix, 3)) (kk : J (wfm ad cs) X nL k n σ (pc + 3) loc (.int (pP σ q 4) :: rest)) : J (wfm ad cs) X nL k n σ pc loc (.ref q :: rest) :=
  j_get (T := T_OF) (N := 6) (Cn := "TollLedger$Offer") (ci := 7) (j := 4) C (fun w h => List.mem_cons_of_mem _ (in_OF w h)) (rdp2 h) rfl (by decide) hw (Or.inl rfl) rfl hd kk
theorem pp_Offer_gives (C : JC X l0 D0 (ttf cs) eE cc own nL (cd :: BIG) fr lo ce sl) {ix q : Nat} {v : Int32} (h : q ∈ pL σ ∧ pK σ q = 2) (e : σ' = sP σ q 4 v) (hw : Cond.fieldLink own ix "TollLedger$Offer" "gives" "I" ∈ cd :: BIG) (hd : decode cc pc = .ok (.putfield ix, 3)) (kk : J (wfm ad cs) X nL k n σ' (pc + 3) loc (rest)) : J (wfm ad cs) X nL k n σ pc loc (.int v :: .ref q :: rest) := by
  subst e
  exact j_put (T := T_OF) (N := 6) (Cn := "TollLedger$Offer") (ci := 7) (j := 4) (ty := .int) (fs := [.int (pP σ q 0), .int (pP σ q 1), .int (pP σ q 2), .int (pP σ q 3), .int (pP σ q 4), .int (pP σ q 5)]) C (fun w h => List.mem_cons_of_mem _ (in_OF w h)) tk_OF nm_OF (wrp2 (ad := ad) (cs := cs) (j := 4) (v := v) h) rfl (by decide) hw (Or.inl rfl) rfl (by decide +kernel) rfl rfl (Nat.le_of_ble_eq_true rfl) hd kk
theorem gp_Offer_g (C : JC X l0 D0 (ttf cs) eE cc own nL (cd :: BIG) fr lo ce sl) {ix q : Nat} (h : q ∈ pL σ ∧ pK σ q = 2) (hw : Cond.fieldLink own ix "TollLedger$Offer" "g" "I" ∈ cd :: BIG) (hd : decode cc pc = .ok (.getfield ix, 3)) (kk : J (wfm ad cs) X nL k n σ (pc + 3) loc (.int (pP σ q 5) :: rest)) : J (wfm ad cs) X nL k n σ pc loc (.ref q :: rest) :=
  j_get (T := T_OF) (N := 6) (Cn := "TollLedger$Offer") (ci := 7) (j := 5) C (fun w h => List.mem_cons_of_mem _ (in_OF w h)) (rdp2 h) rfl (by decide) hw (Or.inl rfl) rfl hd kk
theorem pp_Offer_g (C : JC X l0 D0 (ttf cs) eE cc own nL (cd :: BIG) fr lo ce sl) {ix q : Nat} {v : Int32} (h : q ∈ pL σ ∧ pK σ q = 2) (e : σ' = sP σ q 5 v) (hw : Cond.fieldLink own ix "TollLedger$Offer" "g" "I" ∈ cd :: BIG) (hd : decode cc pc = .ok (.putfield ix, 3)) (kk : J (wfm ad cs) X nL k n σ' (pc + 3) loc (rest)) : J (wfm ad cs) X nL k n σ pc loc (.int v :: .ref q :: rest) := by
  subst e
  exact j_put (T := T_OF) (N := 6) (Cn := "TollLedger$Offer") (ci := 7) (j := 5) (ty := .int) (fs := [.int (pP σ q 0), .int (pP σ q 1), .int (pP σ q 2), .int (pP σ q 3), .int (pP σ q 4), .int (pP σ q 5)]) C (fun w h => List.mem_cons_of_mem _ (in_OF w h)) tk_OF nm_OF (wrp2 (ad := ad) (cs := cs) (j := 5) (v := v) h) rfl (by decide) hw (Or.inl rfl) rfl (by decide +kernel) rfl rfl (Nat.le_of_ble_eq_true rfl) hd kk
theorem cc_Offer (C : JC X l0 D0 (ttf cs) eE cc own nL (cd :: BIG) fr lo ce sl) {ix q : Nat} (h : q ∈ pL σ ∧ pK σ q = 2) (hw : Cond.classLink own ix "TollLedger$Offer" ∈ cd :: BIG) (hd : decode cc pc = .ok (.checkcast ix, 3)) (kk : J (wfm ad cs) X nL k n σ (pc + 3) loc (.ref q :: rest)) : J (wfm ad cs) X nL k n σ pc loc (.ref q :: rest) := j_cast (Cn := "TollLedger$Offer") (T := T_OF) (N := 6) C (rdp2 h) rfl (by decide +kernel) hw hd kk
theorem gp_Deposit_id (C : JC X l0 D0 (ttf cs) eE cc own nL (cd :: BIG) fr lo ce sl) {ix q : Nat} (h : q ∈ pL σ ∧ pK σ q = 3) (hw : Cond.fieldLink own ix "TollLedger$Deposit" "id" "I" ∈ cd :: BIG) (hd : decode cc pc = .ok (.getfield ix, 3)) (kk : J (wfm ad cs) X nL k n σ (pc + 3) loc (.int (pP σ q 0) :: rest)) : J (wfm ad cs) X nL k n σ pc loc (.ref q :: rest) :=
  j_get (T := T_DP) (N := 6) (Cn := "TollLedger$Deposit") (ci := 8) (j := 0) C (fun w h => List.mem_cons_of_mem _ (in_DP w h)) (rdp3 h) rfl (by decide) hw (Or.inl rfl) rfl hd kk
theorem pp_Deposit_id (C : JC X l0 D0 (ttf cs) eE cc own nL (cd :: BIG) fr lo ce sl) {ix q : Nat} {v : Int32} (h : q ∈ pL σ ∧ pK σ q = 3) (e : σ' = sP σ q 0 v) (hw : Cond.fieldLink own ix "TollLedger$Deposit" "id" "I" ∈ cd :: BIG) (hd : decode cc pc = .ok (.putfield ix, 3)) (kk : J (wfm ad cs) X nL k n σ' (pc + 3) loc (rest)) : J (wfm ad cs) X nL k n σ pc loc (.int v :: .ref q :: rest) := by
  subst e
  exact j_put (T := T_DP) (N := 6) (Cn := "TollLedger$Deposit") (ci := 8) (j := 0) (ty := .int) (fs := [.int (pP σ q 0), .int (pP σ q 1), .int (pP σ q 2), .int (pP σ q 3), .int (pP σ q 4), .int (pP σ q 5)]) C (fun w h => List.mem_cons_of_mem _ (in_DP w h)) tk_DP nm_DP (wrp3 (ad := ad) (cs := cs) (j := 0) (v := v) h) rfl (by decide) hw (Or.inl rfl) rfl (by decide +kernel) rfl rfl (Nat.le_of_ble_eq_true rfl) hd kk
theorem gp_Deposit_from (C : JC X l0 D0 (ttf cs) eE cc own nL (cd :: BIG) fr lo ce sl) {ix q : Nat} (h : q ∈ pL σ ∧ pK σ q = 3) (hw : Cond.fieldLink own ix "TollLedger$Deposit" "from" "I" ∈ cd :: BIG) (hd : decode cc pc = .ok (.getfield ix, 3)) (kk : J (wfm ad cs) X nL k n σ (pc + 3) loc (.int (pP σ q 1) :: rest)) : J (wfm ad cs) X nL k n σ pc loc (.ref q :: rest) :=
  j_get (T := T_DP) (N := 6) (Cn := "TollLedger$Deposit") (ci := 8) (j := 1) C (fun w h => List.mem_cons_of_mem _ (in_DP w h)) (rdp3 h) rfl (by decide) hw (Or.inl rfl) rfl hd kk
theorem pp_Deposit_from (C : JC X l0 D0 (ttf cs) eE cc own nL (cd :: BIG) fr lo ce sl) {ix q : Nat} {v : Int32} (h : q ∈ pL σ ∧ pK σ q = 3) (e : σ' = sP σ q 1 v) (hw : Cond.fieldLink own ix "TollLedger$Deposit" "from" "I" ∈ cd :: BIG) (hd : decode cc pc = .ok (.putfield ix, 3)) (kk : J (wfm ad cs) X nL k n σ' (pc + 3) loc (rest)) : J (wfm ad cs) X nL k n σ pc loc (.int v :: .ref q :: rest) := by
  subst e
  exact j_put (T := T_DP) (N := 6) (Cn := "TollLedger$Deposit") (ci := 8) (j := 1) (ty := .int) (fs := [.int (pP σ q 0), .int (pP σ q 1), .int (pP σ q 2), .int (pP σ q 3), .int (pP σ q 4), .int (pP σ q 5)]) C (fun w h => List.mem_cons_of_mem _ (in_DP w h)) tk_DP nm_DP (wrp3 (ad := ad) (cs := cs) (j := 1) (v := v) h) rfl (by decide) hw (Or.inl rfl) rfl (by decide +kernel) rfl rfl (Nat.le_of_ble_eq_true rfl) hd kk
theorem gp_Deposit_to (C : JC X l0 D0 (ttf cs) eE cc own nL (cd :: BIG) fr lo ce sl) {ix q : Nat} (h : q ∈ pL σ ∧ pK σ q = 3) (hw : Cond.fieldLink own ix "TollLedger$Deposit" "to" "I" ∈ cd :: BIG) (hd : decode cc pc = .ok (.getfield ix, 3)) (kk : J (wfm ad cs) X nL k n σ (pc + 3) loc (.int (pP σ q 2) :: rest)) : J (wfm ad cs) X nL k n σ pc loc (.ref q :: rest) :=
  j_get (T := T_DP) (N := 6) (Cn := "TollLedger$Deposit") (ci := 8) (j := 2) C (fun w h => List.mem_cons_of_mem _ (in_DP w h)) (rdp3 h) rfl (by decide) hw (Or.inl rfl) rfl hd kk
theorem pp_Deposit_to (C : JC X l0 D0 (ttf cs) eE cc own nL (cd :: BIG) fr lo ce sl) {ix q : Nat} {v : Int32} (h : q ∈ pL σ ∧ pK σ q = 3) (e : σ' = sP σ q 2 v) (hw : Cond.fieldLink own ix "TollLedger$Deposit" "to" "I" ∈ cd :: BIG) (hd : decode cc pc = .ok (.putfield ix, 3)) (kk : J (wfm ad cs) X nL k n σ' (pc + 3) loc (rest)) : J (wfm ad cs) X nL k n σ pc loc (.int v :: .ref q :: rest) := by
  subst e
  exact j_put (T := T_DP) (N := 6) (Cn := "TollLedger$Deposit") (ci := 8) (j := 2) (ty := .int) (fs := [.int (pP σ q 0), .int (pP σ q 1), .int (pP σ q 2), .int (pP σ q 3), .int (pP σ q 4), .int (pP σ q 5)]) C (fun w h => List.mem_cons_of_mem _ (in_DP w h)) tk_DP nm_DP (wrp3 (ad := ad) (cs := cs) (j := 2) (v := v) h) rfl (by decide) hw (Or.inl rfl) rfl (by decide +kernel) rfl rfl (Nat.le_of_ble_eq_true rfl) hd kk
theorem gp_Deposit_coins (C : JC X l0 D0 (ttf cs) eE cc own nL (cd :: BIG) fr lo ce sl) {ix q : Nat} (h : q ∈ pL σ ∧ pK σ q = 3) (hw : Cond.fieldLink own ix "TollLedger$Deposit" "coins" "I" ∈ cd :: BIG) (hd : decode cc pc = .ok (.getfield ix, 3)) (kk : J (wfm ad cs) X nL k n σ (pc + 3) loc (.int (pP σ q 3) :: rest)) : J (wfm ad cs) X nL k n σ pc loc (.ref q :: rest) :=
  j_get (T := T_DP) (N := 6) (Cn := "TollLedger$Deposit") (ci := 8) (j := 3) C (fun w h => List.mem_cons_of_mem _ (in_DP w h)) (rdp3 h) rfl (by decide) hw (Or.inl rfl) rfl hd kk
theorem pp_Deposit_coins (C : JC X l0 D0 (ttf cs) eE cc own nL (cd :: BIG) fr lo ce sl) {ix q : Nat} {v : Int32} (h : q ∈ pL σ ∧ pK σ q = 3) (e : σ' = sP σ q 3 v) (hw : Cond.fieldLink own ix "TollLedger$Deposit" "coins" "I" ∈ cd :: BIG) (hd : decode cc pc = .ok (.putfield ix, 3)) (kk : J (wfm ad cs) X nL k n σ' (pc + 3) loc (rest)) : J (wfm ad cs) X nL k n σ pc loc (.int v :: .ref q :: rest) := by
  subst e
  exact j_put (T := T_DP) (N := 6) (Cn := "TollLedger$Deposit") (ci := 8) (j := 3) (ty := .int) (fs := [.int (pP σ q 0), .int (pP σ q 1), .int (pP σ q 2), .int (pP σ q 3), .int (pP σ q 4), .int (pP σ q 5)]) C (fun w h => List.mem_cons_of_mem _ (in_DP w h)) tk_DP nm_DP (wrp3 (ad := ad) (cs := cs) (j := 3) (v := v) h) rfl (by decide) hw (Or.inl rfl) rfl (by decide +kernel) rfl rfl (Nat.le_of_ble_eq_true rfl) hd kk
theorem gp_Deposit_after (C : JC X l0 D0 (ttf cs) eE cc own nL (cd :: BIG) fr lo ce sl) {ix q : Nat} (h : q ∈ pL σ ∧ pK σ q = 3) (hw : Cond.fieldLink own ix "TollLedger$Deposit" "after" "I" ∈ cd :: BIG) (hd : decode cc pc = .ok (.getfield ix, 3)) (kk : J (wfm ad cs) X nL k n σ (pc + 3) loc (.int (pP σ q 4) :: rest)) : J (wfm ad cs) X nL k n σ pc loc (.ref q :: rest) :=
  j_get (T := T_DP) (N := 6) (Cn := "TollLedger$Deposit") (ci := 8) (j := 4) C (fun w h => List.mem_cons_of_mem _ (in_DP w h)) (rdp3 h) rfl (by decide) hw (Or.inl rfl) rfl hd kk
theorem pp_Deposit_after (C : JC X l0 D0 (ttf cs) eE cc own nL (cd :: BIG) fr lo ce sl) {ix q : Nat} {v : Int32} (h : q ∈ pL σ ∧ pK σ q = 3) (e : σ' = sP σ q 4 v) (hw : Cond.fieldLink own ix "TollLedger$Deposit" "after" "I" ∈ cd :: BIG) (hd : decode cc pc = .ok (.putfield ix, 3)) (kk : J (wfm ad cs) X nL k n σ' (pc + 3) loc (rest)) : J (wfm ad cs) X nL k n σ pc loc (.int v :: .ref q :: rest) := by
  subst e
  exact j_put (T := T_DP) (N := 6) (Cn := "TollLedger$Deposit") (ci := 8) (j := 4) (ty := .int) (fs := [.int (pP σ q 0), .int (pP σ q 1), .int (pP σ q 2), .int (pP σ q 3), .int (pP σ q 4), .int (pP σ q 5)]) C (fun w h => List.mem_cons_of_mem _ (in_DP w h)) tk_DP nm_DP (wrp3 (ad := ad) (cs := cs) (j := 4) (v := v) h) rfl (by decide) hw (Or.inl rfl) rfl (by decide +kernel) rfl rfl (Nat.le_of_ble_eq_true rfl) hd kk
theorem gp_Deposit_until (C : JC X l0 D0 (ttf cs) eE cc own nL (cd :: BIG) fr lo ce sl) {ix q : Nat} (h : q ∈ pL σ ∧ pK σ q = 3) (hw : Cond.fieldLink own ix "TollLedger$Deposit" "until" "I" ∈ cd :: BIG) (hd : decode cc pc = .ok (.getfield ix, 3)) (kk : J (wfm ad cs) X nL k n σ (pc + 3) loc (.int (pP σ q 5) :: rest)) : J (wfm ad cs) X nL k n σ pc loc (.ref q :: rest) :=
  j_get (T := T_DP) (N := 6) (Cn := "TollLedger$Deposit") (ci := 8) (j := 5) C (fun w h => List.mem_cons_of_mem _ (in_DP w h)) (rdp3 h) rfl (by decide) hw (Or.inl rfl) rfl hd kk
theorem pp_Deposit_until (C : JC X l0 D0 (ttf cs) eE cc own nL (cd :: BIG) fr lo ce sl) {ix q : Nat} {v : Int32} (h : q ∈ pL σ ∧ pK σ q = 3) (e : σ' = sP σ q 5 v) (hw : Cond.fieldLink own ix "TollLedger$Deposit" "until" "I" ∈ cd :: BIG) (hd : decode cc pc = .ok (.putfield ix, 3)) (kk : J (wfm ad cs) X nL k n σ' (pc + 3) loc (rest)) : J (wfm ad cs) X nL k n σ pc loc (.int v :: .ref q :: rest) := by
  subst e
  exact j_put (T := T_DP) (N := 6) (Cn := "TollLedger$Deposit") (ci := 8) (j := 5) (ty := .int) (fs := [.int (pP σ q 0), .int (pP σ q 1), .int (pP σ q 2), .int (pP σ q 3), .int (pP σ q 4), .int (pP σ q 5)]) C (fun w h => List.mem_cons_of_mem _ (in_DP w h)) tk_DP nm_DP (wrp3 (ad := ad) (cs := cs) (j := 5) (v := v) h) rfl (by decide) hw (Or.inl rfl) rfl (by decide +kernel) rfl rfl (Nat.le_of_ble_eq_true rfl) hd kk
theorem cc_Deposit (C : JC X l0 D0 (ttf cs) eE cc own nL (cd :: BIG) fr lo ce sl) {ix q : Nat} (h : q ∈ pL σ ∧ pK σ q = 3) (hw : Cond.classLink own ix "TollLedger$Deposit" ∈ cd :: BIG) (hd : decode cc pc = .ok (.checkcast ix, 3)) (kk : J (wfm ad cs) X nL k n σ (pc + 3) loc (.ref q :: rest)) : J (wfm ad cs) X nL k n σ pc loc (.ref q :: rest) := j_cast (Cn := "TollLedger$Deposit") (T := T_DP) (N := 6) C (rdp3 h) rfl (by decide +kernel) hw hd kk
end STROWS
end
section
/-! each word that keeps, by its place -/
theorem wd_1_0 : (Jvm.Cond.initialized "TollLedgerLaw") ∈ BIG := bgA (inT1 0 rfl) rfl
theorem wd_1_1 : (Jvm.Cond.initialized "TollLedger") ∈ BIG := bgA (inT1 1 rfl) rfl
theorem wd_1_2 : (Jvm.Cond.initialized "TollLedger$State") ∈ BIG := bgA (inT1 2 rfl) rfl
theorem wd_1_3 : (Jvm.Cond.initialized "TollLedger$Lines") ∈ BIG := bgA (inT1 3 rfl) rfl
theorem wd_1_4 : (Jvm.Cond.initialized "java/util/AbstractCollection") ∈ BIG := bgA (inT1 4 rfl) rfl
theorem wd_1_5 : (Jvm.Cond.initialized "java/util/AbstractList") ∈ BIG := bgA (inT1 5 rfl) rfl
theorem wd_1_6 : (Jvm.Cond.initialized "java/util/ArrayList") ∈ BIG := bgA (inT1 6 rfl) rfl
theorem wd_1_7 : (Jvm.Cond.initialized "TollLedger$Account") ∈ BIG := bgA (inT1 7 rfl) rfl
theorem wd_1_8 : (Jvm.Cond.initialized "TollLedger$Taking") ∈ BIG := bgA (inT1 8 rfl) rfl
theorem wd_1_9 : (Jvm.Cond.initialized "TollLedger$Book") ∈ BIG := bgA (inT1 9 rfl) rfl
theorem wd_1_10 : (Jvm.Cond.initialized "TollLedger$Leaves") ∈ BIG := bgA (inT1 10 rfl) rfl
theorem wd_1_11 : (Jvm.Cond.initialized "TollLedgerModel") ∈ BIG := bgA (inT1 11 rfl) rfl
theorem wd_1_12 : (Jvm.Cond.initialized "java/util/Objects") ∈ BIG := bgA (inT1 12 rfl) rfl
theorem wd_1_13 : (Jvm.Cond.initialized "jdk/internal/util/Preconditions") ∈ BIG := bgA (inT1 13 rfl) rfl
theorem wd_1_14 : (Jvm.Cond.initialized "java/lang/Math") ∈ BIG := bgA (inT1 14 rfl) rfl
theorem wd_1_15 : (Jvm.Cond.initialized "java/lang/System") ∈ BIG := bgA (inT1 15 rfl) rfl
theorem wd_1_16 : (Jvm.Cond.initialized "TollLedger$Offer") ∈ BIG := bgA (inT1 16 rfl) rfl
theorem wd_1_17 : (Jvm.Cond.initialized "jdk/internal/util/ArraysSupport") ∈ BIG := bgA (inT1 17 rfl) rfl
theorem wd_1_18 : (Jvm.Cond.initialized "java/util/Arrays") ∈ BIG := bgA (inT1 18 rfl) rfl
theorem wd_1_19 : (Jvm.Cond.initialized "TollLedger$Deposit") ∈ BIG := bgA (inT1 19 rfl) rfl
theorem wd_1_20 : (Jvm.Cond.classLink "TollLedgerLaw" 7 "TollLedger") ∈ BIG := bgA (inT1 20 rfl) rfl
theorem wd_1_21 : (Jvm.Cond.instantiable "TollLedger" 10) ∈ BIG := bgA (inT1 21 rfl) rfl
theorem wd_1_22 : (Jvm.Cond.methodLink "TollLedgerLaw" 9 ⟨"TollLedger", "<init>", "()V"⟩) ∈ BIG := bgA (inT1 22 rfl) rfl
theorem wd_1_23 : (Jvm.Cond.instanceMethod ⟨"TollLedger", "<init>", "()V"⟩) ∈ BIG := bgA (inT1 23 rfl) rfl
theorem wd_1_24 : (Jvm.Cond.code ⟨"TollLedger", "<init>", "()V"⟩ prog_1_method_1_code 1 (Option.none : Option Jvm.ClassFile.FieldType)) ∈ BIG := bgA (inT1 24 rfl) rfl
theorem wd_1_25 : (Jvm.Cond.methodLink "TollLedger" 1 ⟨"java/lang/Object", "<init>", "()V"⟩) ∈ BIG := bgA (inT1 25 rfl) rfl
theorem wd_1_26 : (Jvm.Cond.instanceMethod ⟨"java/lang/Object", "<init>", "()V"⟩) ∈ BIG := bgA (inT1 26 rfl) rfl
theorem wd_1_27 : (Jvm.Cond.code ⟨"java/lang/Object", "<init>", "()V"⟩ object_method_1_code 1 (Option.none : Option Jvm.ClassFile.FieldType)) ∈ BIG := bgA (inT1 27 rfl) rfl
theorem wd_1_28 : (Jvm.Cond.classLink "TollLedger" 7 "TollLedger$State") ∈ BIG := bgA (inT1 28 rfl) rfl
theorem wd_1_29 : (Jvm.Cond.instantiable "TollLedger$State" 6) ∈ BIG := bgA (inT1 29 rfl) rfl
theorem wd_1_30 : (Jvm.Cond.methodLink "TollLedger" 9 ⟨"TollLedger$State", "<init>", "()V"⟩) ∈ BIG := bgA (inT1 30 rfl) rfl
theorem wd_1_31 : (Jvm.Cond.instanceMethod ⟨"TollLedger$State", "<init>", "()V"⟩) ∈ BIG := bgA (inT1 31 rfl) rfl
theorem wd_1_32 : (Jvm.Cond.code ⟨"TollLedger$State", "<init>", "()V"⟩ prog_8_method_1_code 2 (Option.none : Option Jvm.ClassFile.FieldType)) ∈ BIG := bgA (inT1 32 rfl) rfl
theorem wd_1_33 : (Jvm.Cond.methodLink "TollLedger$State" 3 ⟨"java/lang/Object", "<init>", "()V"⟩) ∈ BIG := bgA (inT1 33 rfl) rfl
theorem wd_1_34 : (Jvm.Cond.classLink "TollLedger$State" 9 "TollLedger$Account") ∈ BIG := bgA (inT1 34 rfl) rfl
theorem wd_1_36 : (Jvm.Cond.classLink "TollLedger$State" 17 "TollLedger$Lines") ∈ BIG := bgA (inT1 36 rfl) rfl
theorem wd_1_37 : (Jvm.Cond.instantiable "TollLedger$Lines" 3) ∈ BIG := bgA (inT1 37 rfl) rfl
theorem wd_1_39 : (Jvm.Cond.instanceMethod ⟨"TollLedger$Lines", "<init>", "()V"⟩) ∈ BIG := bgA (inT1 39 rfl) rfl
theorem wd_1_40 : (Jvm.Cond.code ⟨"TollLedger$Lines", "<init>", "()V"⟩ prog_6_method_1_code 1 (Option.none : Option Jvm.ClassFile.FieldType)) ∈ BIG := bgA (inT1 40 rfl) rfl
theorem wd_1_41 : (Jvm.Cond.methodLink "TollLedger$Lines" 3 ⟨"java/lang/Object", "<init>", "()V"⟩) ∈ BIG := bgA (inT1 41 rfl) rfl
theorem wd_1_42 : (Jvm.Cond.fieldLink "TollLedger$Lines" 11 "TollLedger$Lines" "balances" "[I") ∈ BIG := bgA (inT1 42 rfl) rfl
theorem wd_1_43 : (Jvm.Cond.fieldLink "TollLedger$State" 80 "TollLedger$Lines" "balances" "[I") ∈ BIG := bgA (inT1 43 rfl) rfl
theorem wd_1_44 : (Jvm.Cond.fieldLink "TollLedger" 222 "TollLedger$Lines" "balances" "[I") ∈ BIG := bgA (inT1 44 rfl) rfl
theorem wd_1_45 : (Jvm.Cond.fieldLink "TollLedger$Lines" 15 "TollLedger$Lines" "limits" "[I") ∈ BIG := bgA (inT1 45 rfl) rfl
theorem wd_1_46 : (Jvm.Cond.fieldLink "TollLedger" 100 "TollLedger$Lines" "limits" "[I") ∈ BIG := bgA (inT1 46 rfl) rfl
theorem wd_1_47 : (Jvm.Cond.fieldLink "TollLedger$Lines" 18 "TollLedger$Lines" "quiets" "[Z") ∈ BIG := bgA (inT1 47 rfl) rfl
theorem wd_1_48 : (Jvm.Cond.fieldLink "TollLedger" 104 "TollLedger$Lines" "quiets" "[Z") ∈ BIG := bgA (inT1 48 rfl) rfl
theorem wd_1_56 : (Jvm.Cond.arrayClass Jvm.ClassFile.FieldType.int) ∈ BIG := bgA (inT1 56 rfl) rfl
theorem wd_1_57 : (Jvm.Cond.arrayClass Jvm.ClassFile.FieldType.boolean) ∈ BIG := bgA (inT1 57 rfl) rfl
theorem wd_1_58 : (Jvm.Cond.classLink "TollLedger$State" 24 "java/util/ArrayList") ∈ BIG := bgA (inT1 58 rfl) rfl
theorem wd_1_59 : (Jvm.Cond.instantiable "java/util/ArrayList" 3) ∈ BIG := bgA (inT1 59 rfl) rfl
theorem wd_1_60 : (Jvm.Cond.methodLink "TollLedger$State" 26 ⟨"java/util/ArrayList", "<init>", "()V"⟩) ∈ BIG := bgA (inT1 60 rfl) rfl
theorem wd_1_61 : (Jvm.Cond.instanceMethod ⟨"java/util/ArrayList", "<init>", "()V"⟩) ∈ BIG := bgA (inT1 61 rfl) rfl
theorem wd_1_62 : (Jvm.Cond.code ⟨"java/util/ArrayList", "<init>", "()V"⟩ prog_19_method_2_code 1 (Option.none : Option Jvm.ClassFile.FieldType)) ∈ BIG := bgA (inT1 62 rfl) rfl
theorem wd_1_63 : (Jvm.Cond.methodLink "java/util/ArrayList" 1 ⟨"java/util/AbstractList", "<init>", "()V"⟩) ∈ BIG := bgA (inT1 63 rfl) rfl
theorem wd_1_64 : (Jvm.Cond.instanceMethod ⟨"java/util/AbstractList", "<init>", "()V"⟩) ∈ BIG := bgA (inT1 64 rfl) rfl
theorem wd_1_65 : (Jvm.Cond.code ⟨"java/util/AbstractList", "<init>", "()V"⟩ prog_18_method_1_code 1 (Option.none : Option Jvm.ClassFile.FieldType)) ∈ BIG := bgA (inT1 65 rfl) rfl
theorem wd_1_66 : (Jvm.Cond.methodLink "java/util/AbstractList" 1 ⟨"java/util/AbstractCollection", "<init>", "()V"⟩) ∈ BIG := bgA (inT1 66 rfl) rfl
theorem wd_1_67 : (Jvm.Cond.instanceMethod ⟨"java/util/AbstractCollection", "<init>", "()V"⟩) ∈ BIG := bgA (inT1 67 rfl) rfl
theorem wd_1_68 : (Jvm.Cond.code ⟨"java/util/AbstractCollection", "<init>", "()V"⟩ prog_17_method_1_code 1 (Option.none : Option Jvm.ClassFile.FieldType)) ∈ BIG := bgA (inT1 68 rfl) rfl
theorem wd_1_69 : (Jvm.Cond.methodLink "java/util/AbstractCollection" 1 ⟨"java/lang/Object", "<init>", "()V"⟩) ∈ BIG := bgA (inT1 69 rfl) rfl
theorem wd_1_70 : (Jvm.Cond.fieldLink "java/util/ArrayList" 39 "java/util/ArrayList" "DEFAULTCAPACITY_EMPTY_ELEMENTDATA" "[Ljava/lang/Object;") ∈ BIG := bgA (inT1 70 rfl) rfl
theorem wd_1_72 : (Jvm.Cond.fieldLink "java/util/ArrayList" 9 "java/util/ArrayList" "elementData" "[Ljava/lang/Object;") ∈ BIG := bgA (inT1 72 rfl) rfl
theorem wd_1_73 : (Jvm.Cond.fieldLink "java/util/ArrayList" 48 "java/util/ArrayList" "size" "I") ∈ BIG := bgA (inT1 73 rfl) rfl
theorem wd_1_74 : (Jvm.Cond.fieldLink "java/util/AbstractList" 7 "java/util/AbstractList" "modCount" "I") ∈ BIG := bgA (inT1 74 rfl) rfl
theorem wd_1_75 : (Jvm.Cond.fieldLink "java/util/ArrayList" 63 "java/util/ArrayList" "modCount" "I") ∈ BIG := bgA (inT1 75 rfl) rfl
theorem wd_1_76 : (Jvm.Cond.sameField "java/util/ArrayList" "java/util/AbstractList" "modCount" "I") ∈ BIG := bgA (inT1 76 rfl) rfl
theorem wd_1_84 : (Jvm.Cond.instantiable "TollLedger$Account" 4) ∈ BIG := bgA (inT1 84 rfl) rfl
theorem wd_1_86 : (Jvm.Cond.instanceMethod ⟨"TollLedger$Account", "<init>", "()V"⟩) ∈ BIG := bgA (inT1 86 rfl) rfl
theorem wd_1_87 : (Jvm.Cond.code ⟨"TollLedger$Account", "<init>", "()V"⟩ prog_2_method_1_code 1 (Option.none : Option Jvm.ClassFile.FieldType)) ∈ BIG := bgA (inT1 87 rfl) rfl
theorem wd_1_88 : (Jvm.Cond.methodLink "TollLedger$Account" 1 ⟨"java/lang/Object", "<init>", "()V"⟩) ∈ BIG := bgA (inT1 88 rfl) rfl
theorem wd_1_89 : (Jvm.Cond.fieldLink "TollLedger$State" 35 "TollLedger$Account" "exists" "Z") ∈ BIG := bgA (inT1 89 rfl) rfl
theorem wd_1_90 : (Jvm.Cond.fieldLink "TollLedger$Account" 13 "TollLedger$Account" "exists" "Z") ∈ BIG := bgA (inT1 90 rfl) rfl
theorem wd_1_91 : (Jvm.Cond.fieldLink "TollLedger" 65 "TollLedger$Account" "exists" "Z") ∈ BIG := bgA (inT1 91 rfl) rfl
theorem wd_1_92 : (Jvm.Cond.fieldLink "TollLedger$State" 40 "TollLedger$Account" "coins" "I") ∈ BIG := bgA (inT1 92 rfl) rfl
theorem wd_1_93 : (Jvm.Cond.fieldLink "TollLedger$Account" 17 "TollLedger$Account" "coins" "I") ∈ BIG := bgA (inT1 93 rfl) rfl
theorem wd_1_94 : (Jvm.Cond.fieldLink "TollLedger" 212 "TollLedger$Account" "coins" "I") ∈ BIG := bgA (inT1 94 rfl) rfl
theorem wd_1_95 : (Jvm.Cond.fieldLink "TollLedger$Account" 7 "TollLedger$Account" "number" "I") ∈ BIG := bgA (inT1 95 rfl) rfl
theorem wd_1_96 : (Jvm.Cond.fieldLink "TollLedger" 213 "TollLedger$Account" "number" "I") ∈ BIG := bgA (inT1 96 rfl) rfl
theorem wd_1_97 : (Jvm.Cond.fieldLink "TollLedger$Account" 21 "TollLedger$Account" "rate" "I") ∈ BIG := bgA (inT1 97 rfl) rfl
theorem wd_1_98 : (Jvm.Cond.fieldLink "TollLedger" 108 "TollLedger$Account" "rate" "I") ∈ BIG := bgA (inT1 98 rfl) rfl
theorem wd_1_99 : (Jvm.Cond.fieldLink "TollLedger$State" 91 "TollLedger$Account" "rate" "I") ∈ BIG := bgA (inT1 99 rfl) rfl
theorem wd_1_109 : (Jvm.Cond.constant "TollLedger$State" 39 (1000000 : Int32)) ∈ BIG := bgA (inT1 109 rfl) rfl
theorem wd_1_110 : (Jvm.Cond.fieldLink "TollLedger$State" 11 "TollLedger$State" "accounts" "[LTollLedger$Account;") ∈ BIG := bgA (inT1 110 rfl) rfl
theorem wd_1_111 : (Jvm.Cond.fieldLink "TollLedger$Leaves" 21 "TollLedger$State" "accounts" "[LTollLedger$Account;") ∈ BIG := bgA (inT1 111 rfl) rfl
theorem wd_1_112 : (Jvm.Cond.fieldLink "TollLedger" 61 "TollLedger$State" "accounts" "[LTollLedger$Account;") ∈ BIG := bgA (inT1 112 rfl) rfl
theorem wd_1_113 : (Jvm.Cond.fieldLink "TollLedger$State" 20 "TollLedger$State" "lines" "LTollLedger$Lines;") ∈ BIG := bgA (inT1 113 rfl) rfl
theorem wd_1_114 : (Jvm.Cond.fieldLink "TollLedger$Leaves" 33 "TollLedger$State" "lines" "LTollLedger$Lines;") ∈ BIG := bgA (inT1 114 rfl) rfl
theorem wd_1_115 : (Jvm.Cond.fieldLink "TollLedger" 89 "TollLedger$State" "lines" "LTollLedger$Lines;") ∈ BIG := bgA (inT1 115 rfl) rfl
theorem wd_1_116 : (Jvm.Cond.fieldLink "TollLedger$State" 27 "TollLedger$State" "offers" "Ljava/util/ArrayList;") ∈ BIG := bgA (inT1 116 rfl) rfl
theorem wd_1_117 : (Jvm.Cond.fieldLink "TollLedger$Taking" 45 "TollLedger$State" "offers" "Ljava/util/ArrayList;") ∈ BIG := bgA (inT1 117 rfl) rfl
theorem wd_1_118 : (Jvm.Cond.fieldLink "TollLedger$Leaves" 41 "TollLedger$State" "offers" "Ljava/util/ArrayList;") ∈ BIG := bgA (inT1 118 rfl) rfl
theorem wd_1_119 : (Jvm.Cond.fieldLink "TollLedger" 162 "TollLedger$State" "offers" "Ljava/util/ArrayList;") ∈ BIG := bgA (inT1 119 rfl) rfl
theorem wd_1_120 : (Jvm.Cond.fieldLink "TollLedger$State" 31 "TollLedger$State" "deposits" "Ljava/util/ArrayList;") ∈ BIG := bgA (inT1 120 rfl) rfl
theorem wd_1_121 : (Jvm.Cond.fieldLink "TollLedger$Leaves" 57 "TollLedger$State" "deposits" "Ljava/util/ArrayList;") ∈ BIG := bgA (inT1 121 rfl) rfl
theorem wd_1_122 : (Jvm.Cond.fieldLink "TollLedger" 180 "TollLedger$State" "deposits" "Ljava/util/ArrayList;") ∈ BIG := bgA (inT1 122 rfl) rfl
theorem wd_1_123 : (Jvm.Cond.fieldLink "TollLedger$State" 110 "TollLedger$State" "lastOfferId" "I") ∈ BIG := bgA (inT1 123 rfl) rfl
theorem wd_1_124 : (Jvm.Cond.fieldLink "TollLedger$State" 130 "TollLedger$State" "lastDepositId" "I") ∈ BIG := bgA (inT1 124 rfl) rfl
theorem wd_1_138 : (Jvm.Cond.classLink "TollLedger" 16 "TollLedger$Taking") ∈ BIG := bgA (inT1 138 rfl) rfl
theorem wd_1_139 : (Jvm.Cond.instantiable "TollLedger$Taking" 13) ∈ BIG := bgA (inT1 139 rfl) rfl
theorem wd_1_140 : (Jvm.Cond.methodLink "TollLedger" 18 ⟨"TollLedger$Taking", "<init>", "(LTollLedger$State;)V"⟩) ∈ BIG := bgA (inT1 140 rfl) rfl
theorem wd_1_141 : (Jvm.Cond.instanceMethod ⟨"TollLedger$Taking", "<init>", "(LTollLedger$State;)V"⟩) ∈ BIG := bgA (inT1 141 rfl) rfl
theorem wd_1_142 : (Jvm.Cond.code ⟨"TollLedger$Taking", "<init>", "(LTollLedger$State;)V"⟩ prog_9_method_1_code 2 (Option.none : Option Jvm.ClassFile.FieldType)) ∈ BIG := bgA (inT1 142 rfl) rfl
theorem wd_1_143 : (Jvm.Cond.methodLink "TollLedger$Taking" 3 ⟨"java/lang/Object", "<init>", "()V"⟩) ∈ BIG := bgA (inT1 143 rfl) rfl
theorem wd_1_144 : (Jvm.Cond.classLink "TollLedger$Taking" 9 "TollLedger$Book") ∈ BIG := bgA (inT1 144 rfl) rfl
theorem wd_1_145 : (Jvm.Cond.instantiable "TollLedger$Book" 2) ∈ BIG := bgA (inT1 145 rfl) rfl
theorem wd_1_147 : (Jvm.Cond.instanceMethod ⟨"TollLedger$Book", "<init>", "()V"⟩) ∈ BIG := bgA (inT1 147 rfl) rfl
theorem wd_1_148 : (Jvm.Cond.code ⟨"TollLedger$Book", "<init>", "()V"⟩ prog_3_method_1_code 1 (Option.none : Option Jvm.ClassFile.FieldType)) ∈ BIG := bgA (inT1 148 rfl) rfl
theorem wd_1_149 : (Jvm.Cond.methodLink "TollLedger$Book" 3 ⟨"java/lang/Object", "<init>", "()V"⟩) ∈ BIG := bgA (inT1 149 rfl) rfl
theorem wd_1_150 : (Jvm.Cond.classLink "TollLedger$Book" 9 "TollLedger$Offer") ∈ BIG := bgA (inT1 150 rfl) rfl
theorem wd_1_152 : (Jvm.Cond.fieldLink "TollLedger$Book" 11 "TollLedger$Book" "row" "[LTollLedger$Offer;") ∈ BIG := bgA (inT1 152 rfl) rfl
theorem wd_1_153 : (Jvm.Cond.fieldLink "TollLedger$Taking" 72 "TollLedger$Book" "row" "[LTollLedger$Offer;") ∈ BIG := bgA (inT1 153 rfl) rfl
theorem wd_1_154 : (Jvm.Cond.fieldLink "TollLedger" 237 "TollLedger$Book" "row" "[LTollLedger$Offer;") ∈ BIG := bgA (inT1 154 rfl) rfl
theorem wd_1_155 : (Jvm.Cond.fieldLink "TollLedger$Book" 17 "TollLedger$Book" "size" "I") ∈ BIG := bgA (inT1 155 rfl) rfl
theorem wd_1_156 : (Jvm.Cond.fieldLink "TollLedger$Taking" 62 "TollLedger$Book" "size" "I") ∈ BIG := bgA (inT1 156 rfl) rfl
theorem wd_1_157 : (Jvm.Cond.fieldLink "TollLedger" 235 "TollLedger$Book" "size" "I") ∈ BIG := bgA (inT1 157 rfl) rfl
theorem wd_1_163 : (Jvm.Cond.fieldLink "TollLedger$Taking" 31 "TollLedger$Taking" "state" "LTollLedger$State;") ∈ BIG := bgA (inT1 163 rfl) rfl
theorem wd_1_164 : (Jvm.Cond.fieldLink "TollLedger$Taking" 12 "TollLedger$Taking" "book" "LTollLedger$Book;") ∈ BIG := bgA (inT1 164 rfl) rfl
theorem wd_1_165 : (Jvm.Cond.fieldLink "TollLedger" 225 "TollLedger$Taking" "book" "LTollLedger$Book;") ∈ BIG := bgA (inT1 165 rfl) rfl
theorem wd_1_166 : (Jvm.Cond.fieldLink "TollLedger$Taking" 18 "TollLedger$Taking" "amounts" "[I") ∈ BIG := bgA (inT1 166 rfl) rfl
theorem wd_1_167 : (Jvm.Cond.fieldLink "TollLedger$Taking" 22 "TollLedger$Taking" "prices" "[I") ∈ BIG := bgA (inT1 167 rfl) rfl
theorem wd_1_168 : (Jvm.Cond.fieldLink "TollLedger$Taking" 25 "TollLedger$Taking" "funds" "[I") ∈ BIG := bgA (inT1 168 rfl) rfl
theorem wd_1_169 : (Jvm.Cond.fieldLink "TollLedger$Taking" 28 "TollLedger$Taking" "purses" "[I") ∈ BIG := bgA (inT1 169 rfl) rfl
theorem wd_1_170 : (Jvm.Cond.fieldLink "TollLedger$Taking" 35 "TollLedger$Taking" "taker" "I") ∈ BIG := bgA (inT1 170 rfl) rfl
theorem wd_1_171 : (Jvm.Cond.fieldLink "TollLedger$Taking" 39 "TollLedger$Taking" "paid" "I") ∈ BIG := bgA (inT1 171 rfl) rfl
theorem wd_1_172 : (Jvm.Cond.fieldLink "TollLedger$Taking" 42 "TollLedger$Taking" "got" "I") ∈ BIG := bgA (inT1 172 rfl) rfl
theorem wd_1_173 : (Jvm.Cond.fieldLink "TollLedger$Taking" 119 "TollLedger$Taking" "reached" "I") ∈ BIG := bgA (inT1 173 rfl) rfl
theorem wd_1_174 : (Jvm.Cond.fieldLink "TollLedger$Taking" 65 "TollLedger$Taking" "taken" "I") ∈ BIG := bgA (inT1 174 rfl) rfl
theorem wd_1_175 : (Jvm.Cond.fieldLink "TollLedger" 138 "TollLedger$Taking" "taken" "I") ∈ BIG := bgA (inT1 175 rfl) rfl
theorem wd_1_176 : (Jvm.Cond.fieldLink "TollLedger$Taking" 92 "TollLedger$Taking" "price" "I") ∈ BIG := bgA (inT1 176 rfl) rfl
theorem wd_1_177 : (Jvm.Cond.fieldLink "TollLedger" 151 "TollLedger$Taking" "price" "I") ∈ BIG := bgA (inT1 177 rfl) rfl
theorem wd_1_178 : (Jvm.Cond.fieldLink "TollLedger$Taking" 80 "TollLedger$Taking" "cost" "I") ∈ BIG := bgA (inT1 178 rfl) rfl
theorem wd_1_179 : (Jvm.Cond.fieldLink "TollLedger" 148 "TollLedger$Taking" "cost" "I") ∈ BIG := bgA (inT1 179 rfl) rfl
theorem wd_1_207 : (Jvm.Cond.classLink "TollLedger" 25 "TollLedger$Leaves") ∈ BIG := bgA (inT1 207 rfl) rfl
theorem wd_1_208 : (Jvm.Cond.instantiable "TollLedger$Leaves" 1) ∈ BIG := bgA (inT1 208 rfl) rfl
theorem wd_1_210 : (Jvm.Cond.instanceMethod ⟨"TollLedger$Leaves", "<init>", "()V"⟩) ∈ BIG := bgA (inT1 210 rfl) rfl
theorem wd_1_211 : (Jvm.Cond.code ⟨"TollLedger$Leaves", "<init>", "()V"⟩ prog_5_method_1_code 1 (Option.none : Option Jvm.ClassFile.FieldType)) ∈ BIG := bgA (inT1 211 rfl) rfl
theorem wd_1_212 : (Jvm.Cond.methodLink "TollLedger$Leaves" 3 ⟨"java/lang/Object", "<init>", "()V"⟩) ∈ BIG := bgA (inT1 212 rfl) rfl
theorem wd_1_213 : (Jvm.Cond.fieldLink "TollLedger$Leaves" 11 "TollLedger$Leaves" "row" "[I") ∈ BIG := bgA (inT1 213 rfl) rfl
theorem wd_1_217 : (Jvm.Cond.constant "TollLedger" 39 (1000000 : Int32)) ∈ BIG := bgA (inT1 217 rfl) rfl
theorem wd_1_218 : (Jvm.Cond.fieldLink "TollLedger" 10 "TollLedger" "state" "LTollLedger$State;") ∈ BIG := bgA (inT1 218 rfl) rfl
theorem wd_1_219 : (Jvm.Cond.fieldLink "TollLedger" 21 "TollLedger" "taking" "LTollLedger$Taking;") ∈ BIG := bgA (inT1 219 rfl) rfl
theorem wd_1_220 : (Jvm.Cond.fieldLink "TollLedger" 28 "TollLedger" "leaves" "LTollLedger$Leaves;") ∈ BIG := bgA (inT1 220 rfl) rfl
theorem wd_1_221 : (Jvm.Cond.fieldLink "TollLedger" 32 "TollLedger" "signer" "I") ∈ BIG := bgA (inT1 221 rfl) rfl
theorem wd_1_222 : (Jvm.Cond.fieldLink "TollLedger" 51 "TollLedger" "signedNumber" "I") ∈ BIG := bgA (inT1 222 rfl) rfl
theorem wd_1_223 : (Jvm.Cond.fieldLink "TollLedger" 36 "TollLedger" "spendAsset" "I") ∈ BIG := bgA (inT1 223 rfl) rfl
theorem wd_1_224 : (Jvm.Cond.fieldLink "TollLedger" 40 "TollLedger" "spendMax" "I") ∈ BIG := bgA (inT1 224 rfl) rfl
theorem wd_1_225 : (Jvm.Cond.fieldLink "TollLedger" 114 "TollLedger" "spendPartial" "Z") ∈ BIG := bgA (inT1 225 rfl) rfl
theorem wd_1_226 : (Jvm.Cond.fieldLink "TollLedger" 194 "TollLedger" "clock" "I") ∈ BIG := bgA (inT1 226 rfl) rfl
theorem wd_1_227 : (Jvm.Cond.fieldLink "TollLedger" 250 "TollLedger" "burntCoins" "I") ∈ BIG := bgA (inT1 227 rfl) rfl
theorem wd_2_9 : (Jvm.Cond.methodLink "TollLedgerLaw" 13 ⟨"TollLedger", "by", "(II)Z"⟩) ∈ BIG := bgA (inT2 9 rfl) rfl
theorem wd_2_10 : (Jvm.Cond.instanceMethod ⟨"TollLedger", "by", "(II)Z"⟩) ∈ BIG := bgA (inT2 10 rfl) rfl
theorem wd_2_11 : (Jvm.Cond.selects "TollLedger" ⟨"TollLedger", "by", "(II)Z"⟩ ⟨"TollLedger", "by", "(II)Z"⟩) ∈ BIG := bgA (inT2 11 rfl) rfl
theorem wd_2_12 : (Jvm.Cond.code ⟨"TollLedger", "by", "(II)Z"⟩ prog_1_method_2_code 3 (Option.some Jvm.ClassFile.FieldType.boolean)) ∈ BIG := bgA (inT2 12 rfl) rfl
theorem wd_2_13 : (Jvm.Cond.methodLink "TollLedger" 43 ⟨"TollLedger", "isAccount", "(I)Z"⟩) ∈ BIG := bgA (inT2 13 rfl) rfl
theorem wd_2_14 : (Jvm.Cond.static ⟨"TollLedger", "isAccount", "(I)Z"⟩) ∈ BIG := bgA (inT2 14 rfl) rfl
theorem wd_2_15 : (Jvm.Cond.code ⟨"TollLedger", "isAccount", "(I)Z"⟩ prog_1_method_29_code 1 (Option.some Jvm.ClassFile.FieldType.boolean)) ∈ BIG := bgA (inT2 15 rfl) rfl
theorem wd_2_16 : (Jvm.Cond.methodLink "TollLedger" 47 ⟨"TollLedger", "isWithin", "(III)Z"⟩) ∈ BIG := bgA (inT2 16 rfl) rfl
theorem wd_2_17 : (Jvm.Cond.static ⟨"TollLedger", "isWithin", "(III)Z"⟩) ∈ BIG := bgA (inT2 17 rfl) rfl
theorem wd_2_18 : (Jvm.Cond.code ⟨"TollLedger", "isWithin", "(III)Z"⟩ prog_1_method_28_code 3 (Option.some Jvm.ClassFile.FieldType.boolean)) ∈ BIG := bgA (inT2 18 rfl) rfl
theorem wd_2_19 : (Jvm.Cond.methodLink "TollLedgerLaw" 18 ⟨"TollLedger", "send", "(II)I"⟩) ∈ BIG := bgA (inT2 19 rfl) rfl
theorem wd_2_20 : (Jvm.Cond.instanceMethod ⟨"TollLedger", "send", "(II)I"⟩) ∈ BIG := bgA (inT2 20 rfl) rfl
theorem wd_2_21 : (Jvm.Cond.selects "TollLedger" ⟨"TollLedger", "send", "(II)I"⟩ ⟨"TollLedger", "send", "(II)I"⟩) ∈ BIG := bgA (inT2 21 rfl) rfl
theorem wd_2_22 : (Jvm.Cond.code ⟨"TollLedger", "send", "(II)I"⟩ prog_1_method_3_code 5 (Option.some Jvm.ClassFile.FieldType.int)) ∈ BIG := bgA (inT2 22 rfl) rfl
theorem wd_2_23 : (Jvm.Cond.methodLink "TollLedger" 54 ⟨"TollLedger", "isOther", "(I)Z"⟩) ∈ BIG := bgA (inT2 23 rfl) rfl
theorem wd_2_25 : (Jvm.Cond.instanceMethod ⟨"TollLedger", "isOther", "(I)Z"⟩) ∈ BIG := bgA (inT2 25 rfl) rfl
theorem wd_2_26 : (Jvm.Cond.code ⟨"TollLedger", "isOther", "(I)Z"⟩ prog_1_method_27_code 2 (Option.some Jvm.ClassFile.FieldType.boolean)) ∈ BIG := bgA (inT2 26 rfl) rfl
theorem wd_2_27 : (Jvm.Cond.methodLink "TollLedger" 57 ⟨"TollLedger", "charge", "(Z)I"⟩) ∈ BIG := bgA (inT2 27 rfl) rfl
theorem wd_2_29 : (Jvm.Cond.instanceMethod ⟨"TollLedger", "charge", "(Z)I"⟩) ∈ BIG := bgA (inT2 29 rfl) rfl
theorem wd_2_30 : (Jvm.Cond.code ⟨"TollLedger", "charge", "(Z)I"⟩ prog_1_method_22_code 3 (Option.some Jvm.ClassFile.FieldType.int)) ∈ BIG := bgA (inT2 30 rfl) rfl
theorem wd_2_31 : (Jvm.Cond.methodLink "TollLedger" 71 ⟨"TollLedger$State", "fundsOf", "(II)I"⟩) ∈ BIG := bgA (inT2 31 rfl) rfl
theorem wd_2_32 : (Jvm.Cond.instanceMethod ⟨"TollLedger$State", "fundsOf", "(II)I"⟩) ∈ BIG := bgA (inT2 32 rfl) rfl
theorem wd_2_33 : (Jvm.Cond.selects "TollLedger$State" ⟨"TollLedger$State", "fundsOf", "(II)I"⟩ ⟨"TollLedger$State", "fundsOf", "(II)I"⟩) ∈ BIG := bgA (inT2 33 rfl) rfl
theorem wd_2_34 : (Jvm.Cond.code ⟨"TollLedger$State", "fundsOf", "(II)I"⟩ prog_8_method_5_code 4 (Option.some Jvm.ClassFile.FieldType.int)) ∈ BIG := bgA (inT2 34 rfl) rfl
theorem wd_2_35 : (Jvm.Cond.methodLink "TollLedger$State" 67 ⟨"TollLedger$State", "reserveOf", "(I)I"⟩) ∈ BIG := bgA (inT2 35 rfl) rfl
theorem wd_2_37 : (Jvm.Cond.instanceMethod ⟨"TollLedger$State", "reserveOf", "(I)I"⟩) ∈ BIG := bgA (inT2 37 rfl) rfl
theorem wd_2_38 : (Jvm.Cond.code ⟨"TollLedger$State", "reserveOf", "(I)I"⟩ prog_8_method_3_code 2 (Option.some Jvm.ClassFile.FieldType.int)) ∈ BIG := bgA (inT2 38 rfl) rfl
theorem wd_2_39 : (Jvm.Cond.methodLink "TollLedger$State" 66 ⟨"TollLedger$State", "piecesOf", "(I)I"⟩) ∈ BIG := bgA (inT2 39 rfl) rfl
theorem wd_2_40 : (Jvm.Cond.instanceMethod ⟨"TollLedger$State", "piecesOf", "(I)I"⟩) ∈ BIG := bgA (inT2 40 rfl) rfl
theorem wd_2_41 : (Jvm.Cond.selects "TollLedger$State" ⟨"TollLedger$State", "piecesOf", "(I)I"⟩ ⟨"TollLedger$State", "piecesOf", "(I)I"⟩) ∈ BIG := bgA (inT2 41 rfl) rfl
theorem wd_2_42 : (Jvm.Cond.code ⟨"TollLedger$State", "piecesOf", "(I)I"⟩ prog_8_method_2_code 4 (Option.some Jvm.ClassFile.FieldType.int)) ∈ BIG := bgA (inT2 42 rfl) rfl
theorem wd_2_43 : (Jvm.Cond.methodLink "TollLedger$State" 44 ⟨"TollLedger$Lines", "piecesOf", "(I)I"⟩) ∈ BIG := bgA (inT2 43 rfl) rfl
theorem wd_2_44 : (Jvm.Cond.instanceMethod ⟨"TollLedger$Lines", "piecesOf", "(I)I"⟩) ∈ BIG := bgA (inT2 44 rfl) rfl
theorem wd_2_45 : (Jvm.Cond.selects "TollLedger$Lines" ⟨"TollLedger$Lines", "piecesOf", "(I)I"⟩ ⟨"TollLedger$Lines", "piecesOf", "(I)I"⟩) ∈ BIG := bgA (inT2 45 rfl) rfl
theorem wd_2_46 : (Jvm.Cond.code ⟨"TollLedger$Lines", "piecesOf", "(I)I"⟩ prog_6_method_6_code 5 (Option.some Jvm.ClassFile.FieldType.int)) ∈ BIG := bgA (inT2 46 rfl) rfl
theorem wd_2_47 : (Jvm.Cond.methodLink "TollLedger$Lines" 22 ⟨"TollLedger$Lines", "side", "(III)I"⟩) ∈ BIG := bgA (inT2 47 rfl) rfl
theorem wd_2_48 : (Jvm.Cond.static ⟨"TollLedger$Lines", "side", "(III)I"⟩) ∈ BIG := bgA (inT2 48 rfl) rfl
theorem wd_2_49 : (Jvm.Cond.code ⟨"TollLedger$Lines", "side", "(III)I"⟩ prog_6_method_2_code 3 (Option.some Jvm.ClassFile.FieldType.int)) ∈ BIG := bgA (inT2 49 rfl) rfl
theorem wd_2_50 : (Jvm.Cond.methodLink "TollLedger$Lines" 26 ⟨"TollLedger$Lines", "isPiece", "(I)Z"⟩) ∈ BIG := bgA (inT2 50 rfl) rfl
theorem wd_2_51 : (Jvm.Cond.instanceMethod ⟨"TollLedger$Lines", "isPiece", "(I)Z"⟩) ∈ BIG := bgA (inT2 51 rfl) rfl
theorem wd_2_52 : (Jvm.Cond.selects "TollLedger$Lines" ⟨"TollLedger$Lines", "isPiece", "(I)Z"⟩ ⟨"TollLedger$Lines", "isPiece", "(I)Z"⟩) ∈ BIG := bgA (inT2 52 rfl) rfl
theorem wd_2_53 : (Jvm.Cond.code ⟨"TollLedger$Lines", "isPiece", "(I)Z"⟩ prog_6_method_3_code 2 (Option.some Jvm.ClassFile.FieldType.boolean)) ∈ BIG := bgA (inT2 53 rfl) rfl
theorem wd_2_54 : (Jvm.Cond.methodLink "TollLedger$State" 48 ⟨"java/util/ArrayList", "size", "()I"⟩) ∈ BIG := bgA (inT2 54 rfl) rfl
theorem wd_2_55 : (Jvm.Cond.instanceMethod ⟨"java/util/ArrayList", "size", "()I"⟩) ∈ BIG := bgA (inT2 55 rfl) rfl
theorem wd_2_56 : (Jvm.Cond.selects "java/util/ArrayList" ⟨"java/util/ArrayList", "size", "()I"⟩ ⟨"java/util/ArrayList", "size", "()I"⟩) ∈ BIG := bgA (inT2 56 rfl) rfl
theorem wd_2_57 : (Jvm.Cond.code ⟨"java/util/ArrayList", "size", "()I"⟩ prog_19_method_8_code 1 (Option.some Jvm.ClassFile.FieldType.int)) ∈ BIG := bgA (inT2 57 rfl) rfl
theorem wd_2_58 : (Jvm.Cond.methodLink "TollLedger$State" 52 ⟨"java/util/ArrayList", "get", "(I)Ljava/lang/Object;"⟩) ∈ BIG := bgA (inT2 58 rfl) rfl
theorem wd_2_59 : (Jvm.Cond.instanceMethod ⟨"java/util/ArrayList", "get", "(I)Ljava/lang/Object;"⟩) ∈ BIG := bgA (inT2 59 rfl) rfl
theorem wd_2_60 : (Jvm.Cond.selects "java/util/ArrayList" ⟨"java/util/ArrayList", "get", "(I)Ljava/lang/Object;"⟩ ⟨"java/util/ArrayList", "get", "(I)Ljava/lang/Object;"⟩) ∈ BIG := bgA (inT2 60 rfl) rfl
theorem wd_2_61 : (Jvm.Cond.code ⟨"java/util/ArrayList", "get", "(I)Ljava/lang/Object;"⟩ prog_19_method_20_code 2 (Option.some (Jvm.ClassFile.FieldType.object "java/lang/Object"))) ∈ BIG := bgA (inT2 61 rfl) rfl
theorem wd_2_62 : (Jvm.Cond.methodLink "java/util/ArrayList" 118 ⟨"java/util/Objects", "checkIndex", "(II)I"⟩) ∈ BIG := bgA (inT2 62 rfl) rfl
theorem wd_2_63 : (Jvm.Cond.static ⟨"java/util/Objects", "checkIndex", "(II)I"⟩) ∈ BIG := bgA (inT2 63 rfl) rfl
theorem wd_2_64 : (Jvm.Cond.code ⟨"java/util/Objects", "checkIndex", "(II)I"⟩ prog_23_method_17_code 2 (Option.some Jvm.ClassFile.FieldType.int)) ∈ BIG := bgA (inT2 64 rfl) rfl
theorem wd_2_65 : (Jvm.Cond.methodLink "java/util/Objects" 105 ⟨"jdk/internal/util/Preconditions", "checkIndex", "(IILjava/util/function/BiFunction;)I"⟩) ∈ BIG := bgA (inT2 65 rfl) rfl
theorem wd_2_66 : (Jvm.Cond.static ⟨"jdk/internal/util/Preconditions", "checkIndex", "(IILjava/util/function/BiFunction;)I"⟩) ∈ BIG := bgA (inT2 66 rfl) rfl
theorem wd_2_67 : (Jvm.Cond.code ⟨"jdk/internal/util/Preconditions", "checkIndex", "(IILjava/util/function/BiFunction;)I"⟩ prog_27_method_11_code 3 (Option.some Jvm.ClassFile.FieldType.int)) ∈ BIG := bgA (inT2 67 rfl) rfl
theorem wd_2_68 : (Jvm.Cond.methodLink "java/util/ArrayList" 123 ⟨"java/util/ArrayList", "elementData", "(I)Ljava/lang/Object;"⟩) ∈ BIG := bgA (inT2 68 rfl) rfl
theorem wd_2_69 : (Jvm.Cond.instanceMethod ⟨"java/util/ArrayList", "elementData", "(I)Ljava/lang/Object;"⟩) ∈ BIG := bgA (inT2 69 rfl) rfl
theorem wd_2_70 : (Jvm.Cond.selects "java/util/ArrayList" ⟨"java/util/ArrayList", "elementData", "(I)Ljava/lang/Object;"⟩ ⟨"java/util/ArrayList", "elementData", "(I)Ljava/lang/Object;"⟩) ∈ BIG := bgA (inT2 70 rfl) rfl
theorem wd_2_71 : (Jvm.Cond.code ⟨"java/util/ArrayList", "elementData", "(I)Ljava/lang/Object;"⟩ prog_19_method_18_code 2 (Option.some (Jvm.ClassFile.FieldType.object "java/lang/Object"))) ∈ BIG := bgA (inT2 71 rfl) rfl
theorem wd_2_72 : (Jvm.Cond.classLink "TollLedger$State" 56 "TollLedger$Offer") ∈ BIG := bgA (inT2 72 rfl) rfl
theorem wd_2_73 : (Jvm.Cond.classLink "TollLedger$State" 61 "TollLedger$Deposit") ∈ BIG := bgA (inT2 73 rfl) rfl
theorem wd_2_74 : (Jvm.Cond.methodLink "TollLedger$State" 70 ⟨"java/lang/Math", "max", "(II)I"⟩) ∈ BIG := bgA (inT2 74 rfl) rfl
theorem wd_2_75 : (Jvm.Cond.static ⟨"java/lang/Math", "max", "(II)I"⟩) ∈ BIG := bgA (inT2 75 rfl) rfl
theorem wd_2_76 : (Jvm.Cond.code ⟨"java/lang/Math", "max", "(II)I"⟩ prog_15_method_65_code 2 (Option.some Jvm.ClassFile.FieldType.int)) ∈ BIG := bgA (inT2 76 rfl) rfl
theorem wd_2_78 : (Jvm.Cond.static ⟨"TollLedger", "issuerOf", "(I)I"⟩) ∈ BIG := bgA (inT2 78 rfl) rfl
theorem wd_2_79 : (Jvm.Cond.code ⟨"TollLedger", "issuerOf", "(I)I"⟩ prog_1_method_33_code 1 (Option.some Jvm.ClassFile.FieldType.int)) ∈ BIG := bgA (inT2 79 rfl) rfl
theorem wd_2_80 : (Jvm.Cond.constant "TollLedger$State" 79 (1000000000 : Int32)) ∈ BIG := bgA (inT2 80 rfl) rfl
theorem wd_2_82 : (Jvm.Cond.static ⟨"TollLedger", "currencyOf", "(I)I"⟩) ∈ BIG := bgA (inT2 82 rfl) rfl
theorem wd_2_83 : (Jvm.Cond.code ⟨"TollLedger", "currencyOf", "(I)I"⟩ prog_1_method_34_code 1 (Option.some Jvm.ClassFile.FieldType.int)) ∈ BIG := bgA (inT2 83 rfl) rfl
theorem wd_2_84 : (Jvm.Cond.methodLink "TollLedger$State" 87 ⟨"TollLedger$Lines", "side", "(III)I"⟩) ∈ BIG := bgA (inT2 84 rfl) rfl
theorem wd_2_85 : (Jvm.Cond.methodLink "TollLedger" 75 ⟨"TollLedger$State", "change", "(III)V"⟩) ∈ BIG := bgA (inT2 85 rfl) rfl
theorem wd_2_86 : (Jvm.Cond.instanceMethod ⟨"TollLedger$State", "change", "(III)V"⟩) ∈ BIG := bgA (inT2 86 rfl) rfl
theorem wd_2_87 : (Jvm.Cond.selects "TollLedger$State" ⟨"TollLedger$State", "change", "(III)V"⟩ ⟨"TollLedger$State", "change", "(III)V"⟩) ∈ BIG := bgA (inT2 87 rfl) rfl
theorem wd_2_88 : (Jvm.Cond.code ⟨"TollLedger$State", "change", "(III)V"⟩ prog_8_method_9_code 4 (Option.none : Option Jvm.ClassFile.FieldType)) ∈ BIG := bgA (inT2 88 rfl) rfl
theorem wd_2_89 : (Jvm.Cond.methodLink "TollLedger$State" 101 ⟨"TollLedger$Lines", "grow", "(IIII)V"⟩) ∈ BIG := bgA (inT2 89 rfl) rfl
theorem wd_2_90 : (Jvm.Cond.instanceMethod ⟨"TollLedger$Lines", "grow", "(IIII)V"⟩) ∈ BIG := bgA (inT2 90 rfl) rfl
theorem wd_2_91 : (Jvm.Cond.selects "TollLedger$Lines" ⟨"TollLedger$Lines", "grow", "(IIII)V"⟩ ⟨"TollLedger$Lines", "grow", "(IIII)V"⟩) ∈ BIG := bgA (inT2 91 rfl) rfl
theorem wd_2_92 : (Jvm.Cond.code ⟨"TollLedger$Lines", "grow", "(IIII)V"⟩ prog_6_method_5_code 5 (Option.none : Option Jvm.ClassFile.FieldType)) ∈ BIG := bgA (inT2 92 rfl) rfl
theorem wd_2_93 : (Jvm.Cond.methodLink "TollLedgerLaw" 23 ⟨"TollLedger", "trust", "(IIIZ)I"⟩) ∈ BIG := bgA (inT2 93 rfl) rfl
theorem wd_2_94 : (Jvm.Cond.instanceMethod ⟨"TollLedger", "trust", "(IIIZ)I"⟩) ∈ BIG := bgA (inT2 94 rfl) rfl
theorem wd_2_95 : (Jvm.Cond.selects "TollLedger" ⟨"TollLedger", "trust", "(IIIZ)I"⟩ ⟨"TollLedger", "trust", "(IIIZ)I"⟩) ∈ BIG := bgA (inT2 95 rfl) rfl
theorem wd_2_96 : (Jvm.Cond.code ⟨"TollLedger", "trust", "(IIIZ)I"⟩ prog_1_method_4_code 8 (Option.some Jvm.ClassFile.FieldType.int)) ∈ BIG := bgA (inT2 96 rfl) rfl
theorem wd_2_97 : (Jvm.Cond.methodLink "TollLedger" 79 ⟨"TollLedger", "isCurrency", "(I)Z"⟩) ∈ BIG := bgA (inT2 97 rfl) rfl
theorem wd_2_98 : (Jvm.Cond.static ⟨"TollLedger", "isCurrency", "(I)Z"⟩) ∈ BIG := bgA (inT2 98 rfl) rfl
theorem wd_2_99 : (Jvm.Cond.code ⟨"TollLedger", "isCurrency", "(I)Z"⟩ prog_1_method_31_code 1 (Option.some Jvm.ClassFile.FieldType.boolean)) ∈ BIG := bgA (inT2 99 rfl) rfl
theorem wd_2_100 : (Jvm.Cond.constant "TollLedger" 82 (100000 : Int32)) ∈ BIG := bgA (inT2 100 rfl) rfl
theorem wd_2_101 : (Jvm.Cond.methodLink "TollLedger" 83 ⟨"TollLedger$Lines", "side", "(III)I"⟩) ∈ BIG := bgA (inT2 101 rfl) rfl
theorem wd_2_102 : (Jvm.Cond.methodLink "TollLedger" 93 ⟨"TollLedger$Lines", "isPiece", "(I)Z"⟩) ∈ BIG := bgA (inT2 102 rfl) rfl
theorem wd_2_103 : (Jvm.Cond.methodLink "TollLedger" 96 ⟨"TollLedger$State", "affordsOneMore", "(II)Z"⟩) ∈ BIG := bgA (inT2 103 rfl) rfl
theorem wd_2_104 : (Jvm.Cond.instanceMethod ⟨"TollLedger$State", "affordsOneMore", "(II)Z"⟩) ∈ BIG := bgA (inT2 104 rfl) rfl
theorem wd_2_105 : (Jvm.Cond.selects "TollLedger$State" ⟨"TollLedger$State", "affordsOneMore", "(II)Z"⟩ ⟨"TollLedger$State", "affordsOneMore", "(II)Z"⟩) ∈ BIG := bgA (inT2 105 rfl) rfl
theorem wd_2_106 : (Jvm.Cond.code ⟨"TollLedger$State", "affordsOneMore", "(II)Z"⟩ prog_8_method_4_code 3 (Option.some Jvm.ClassFile.FieldType.boolean)) ∈ BIG := bgA (inT2 106 rfl) rfl
theorem wd_2_107 : (Jvm.Cond.methodLink "TollLedgerLaw" 28 ⟨"TollLedger", "rate", "(I)I"⟩) ∈ BIG := bgA (inT2 107 rfl) rfl
theorem wd_2_108 : (Jvm.Cond.instanceMethod ⟨"TollLedger", "rate", "(I)I"⟩) ∈ BIG := bgA (inT2 108 rfl) rfl
theorem wd_2_109 : (Jvm.Cond.selects "TollLedger" ⟨"TollLedger", "rate", "(I)I"⟩ ⟨"TollLedger", "rate", "(I)I"⟩) ∈ BIG := bgA (inT2 109 rfl) rfl
theorem wd_2_110 : (Jvm.Cond.code ⟨"TollLedger", "rate", "(I)I"⟩ prog_1_method_5_code 3 (Option.some Jvm.ClassFile.FieldType.int)) ∈ BIG := bgA (inT2 110 rfl) rfl
theorem wd_2_111 : (Jvm.Cond.methodLink "TollLedgerLaw" 33 ⟨"TollLedger", "spend", "(IIZ)Z"⟩) ∈ BIG := bgA (inT2 111 rfl) rfl
theorem wd_2_112 : (Jvm.Cond.instanceMethod ⟨"TollLedger", "spend", "(IIZ)Z"⟩) ∈ BIG := bgA (inT2 112 rfl) rfl
theorem wd_2_113 : (Jvm.Cond.selects "TollLedger" ⟨"TollLedger", "spend", "(IIZ)Z"⟩ ⟨"TollLedger", "spend", "(IIZ)Z"⟩) ∈ BIG := bgA (inT2 113 rfl) rfl
theorem wd_2_114 : (Jvm.Cond.code ⟨"TollLedger", "spend", "(IIZ)Z"⟩ prog_1_method_6_code 4 (Option.some Jvm.ClassFile.FieldType.boolean)) ∈ BIG := bgA (inT2 114 rfl) rfl
theorem wd_2_115 : (Jvm.Cond.methodLink "TollLedger" 111 ⟨"TollLedger", "isAsset", "(I)Z"⟩) ∈ BIG := bgA (inT2 115 rfl) rfl
theorem wd_2_116 : (Jvm.Cond.static ⟨"TollLedger", "isAsset", "(I)Z"⟩) ∈ BIG := bgA (inT2 116 rfl) rfl
theorem wd_2_117 : (Jvm.Cond.code ⟨"TollLedger", "isAsset", "(I)Z"⟩ prog_1_method_30_code 1 (Option.some Jvm.ClassFile.FieldType.boolean)) ∈ BIG := bgA (inT2 117 rfl) rfl
theorem wd_2_118 : (Jvm.Cond.methodLink "TollLedgerLaw" 38 ⟨"TollLedger", "pay", "(III)I"⟩) ∈ BIG := bgA (inT2 118 rfl) rfl
theorem wd_2_119 : (Jvm.Cond.instanceMethod ⟨"TollLedger", "pay", "(III)I"⟩) ∈ BIG := bgA (inT2 119 rfl) rfl
theorem wd_2_120 : (Jvm.Cond.selects "TollLedger" ⟨"TollLedger", "pay", "(III)I"⟩ ⟨"TollLedger", "pay", "(III)I"⟩) ∈ BIG := bgA (inT2 120 rfl) rfl
theorem wd_2_121 : (Jvm.Cond.code ⟨"TollLedger", "pay", "(III)I"⟩ prog_1_method_7_code 8 (Option.some Jvm.ClassFile.FieldType.int)) ∈ BIG := bgA (inT2 121 rfl) rfl
theorem wd_2_122 : (Jvm.Cond.methodLink "TollLedger" 117 ⟨"TollLedger$Taking", "open", "(III)V"⟩) ∈ BIG := bgA (inT2 122 rfl) rfl
theorem wd_2_123 : (Jvm.Cond.instanceMethod ⟨"TollLedger$Taking", "open", "(III)V"⟩) ∈ BIG := bgA (inT2 123 rfl) rfl
theorem wd_2_124 : (Jvm.Cond.selects "TollLedger$Taking" ⟨"TollLedger$Taking", "open", "(III)V"⟩ ⟨"TollLedger$Taking", "open", "(III)V"⟩) ∈ BIG := bgA (inT2 124 rfl) rfl
theorem wd_2_125 : (Jvm.Cond.code ⟨"TollLedger$Taking", "open", "(III)V"⟩ prog_9_method_2_code 5 (Option.none : Option Jvm.ClassFile.FieldType)) ∈ BIG := bgA (inT2 125 rfl) rfl
theorem wd_2_126 : (Jvm.Cond.methodLink "TollLedger$Taking" 51 ⟨"TollLedger$Book", "gather", "(Ljava/util/ArrayList;III)V"⟩) ∈ BIG := bgA (inT2 126 rfl) rfl
theorem wd_2_127 : (Jvm.Cond.instanceMethod ⟨"TollLedger$Book", "gather", "(Ljava/util/ArrayList;III)V"⟩) ∈ BIG := bgA (inT2 127 rfl) rfl
theorem wd_2_128 : (Jvm.Cond.selects "TollLedger$Book" ⟨"TollLedger$Book", "gather", "(Ljava/util/ArrayList;III)V"⟩ ⟨"TollLedger$Book", "gather", "(Ljava/util/ArrayList;III)V"⟩) ∈ BIG := bgA (inT2 128 rfl) rfl
theorem wd_2_129 : (Jvm.Cond.code ⟨"TollLedger$Book", "gather", "(Ljava/util/ArrayList;III)V"⟩ prog_3_method_2_code 7 (Option.none : Option Jvm.ClassFile.FieldType)) ∈ BIG := bgA (inT2 129 rfl) rfl
theorem wd_2_130 : (Jvm.Cond.methodLink "TollLedger$Book" 21 ⟨"java/util/ArrayList", "size", "()I"⟩) ∈ BIG := bgA (inT2 130 rfl) rfl
theorem wd_2_131 : (Jvm.Cond.methodLink "TollLedger$Book" 26 ⟨"java/util/ArrayList", "get", "(I)Ljava/lang/Object;"⟩) ∈ BIG := bgA (inT2 131 rfl) rfl
theorem wd_2_132 : (Jvm.Cond.methodLink "TollLedger$Book" 39 ⟨"TollLedger$Book", "insert", "(LTollLedger$Offer;)V"⟩) ∈ BIG := bgA (inT2 132 rfl) rfl
theorem wd_2_134 : (Jvm.Cond.instanceMethod ⟨"TollLedger$Book", "insert", "(LTollLedger$Offer;)V"⟩) ∈ BIG := bgA (inT2 134 rfl) rfl
theorem wd_2_135 : (Jvm.Cond.code ⟨"TollLedger$Book", "insert", "(LTollLedger$Offer;)V"⟩ prog_3_method_3_code 3 (Option.none : Option Jvm.ClassFile.FieldType)) ∈ BIG := bgA (inT2 135 rfl) rfl
theorem wd_2_136 : (Jvm.Cond.methodLink "TollLedger$Book" 43 ⟨"TollLedger$Offer", "isBetterThan", "(LTollLedger$Offer;)Z"⟩) ∈ BIG := bgA (inT2 136 rfl) rfl
theorem wd_2_137 : (Jvm.Cond.instanceMethod ⟨"TollLedger$Offer", "isBetterThan", "(LTollLedger$Offer;)Z"⟩) ∈ BIG := bgA (inT2 137 rfl) rfl
theorem wd_2_138 : (Jvm.Cond.selects "TollLedger$Offer" ⟨"TollLedger$Offer", "isBetterThan", "(LTollLedger$Offer;)Z"⟩ ⟨"TollLedger$Offer", "isBetterThan", "(LTollLedger$Offer;)Z"⟩) ∈ BIG := bgA (inT2 138 rfl) rfl
theorem wd_2_139 : (Jvm.Cond.code ⟨"TollLedger$Offer", "isBetterThan", "(LTollLedger$Offer;)Z"⟩ prog_7_method_2_code 2 (Option.some Jvm.ClassFile.FieldType.boolean)) ∈ BIG := bgA (inT2 139 rfl) rfl
theorem wd_2_140 : (Jvm.Cond.methodLink "TollLedger$Taking" 55 ⟨"TollLedger$State", "fundsOf", "(II)I"⟩) ∈ BIG := bgA (inT2 140 rfl) rfl
theorem wd_2_141 : (Jvm.Cond.methodLink "TollLedger" 120 ⟨"java/lang/Math", "min", "(II)I"⟩) ∈ BIG := bgA (inT2 141 rfl) rfl
theorem wd_2_142 : (Jvm.Cond.static ⟨"java/lang/Math", "min", "(II)I"⟩) ∈ BIG := bgA (inT2 142 rfl) rfl
theorem wd_2_143 : (Jvm.Cond.code ⟨"java/lang/Math", "min", "(II)I"⟩ prog_15_method_69_code 2 (Option.some Jvm.ClassFile.FieldType.int)) ∈ BIG := bgA (inT2 143 rfl) rfl
theorem wd_2_144 : (Jvm.Cond.methodLink "TollLedger" 125 ⟨"TollLedger", "greatestDelivery", "(IIII)I"⟩) ∈ BIG := bgA (inT2 144 rfl) rfl
theorem wd_2_146 : (Jvm.Cond.instanceMethod ⟨"TollLedger", "greatestDelivery", "(IIII)I"⟩) ∈ BIG := bgA (inT2 146 rfl) rfl
theorem wd_2_147 : (Jvm.Cond.code ⟨"TollLedger", "greatestDelivery", "(IIII)I"⟩ prog_1_method_23_code 7 (Option.some Jvm.ClassFile.FieldType.int)) ∈ BIG := bgA (inT2 147 rfl) rfl
theorem wd_2_148 : (Jvm.Cond.methodLink "TollLedger" 129 ⟨"TollLedger", "spendingFor", "(IIII)I"⟩) ∈ BIG := bgA (inT2 148 rfl) rfl
theorem wd_2_150 : (Jvm.Cond.instanceMethod ⟨"TollLedger", "spendingFor", "(IIII)I"⟩) ∈ BIG := bgA (inT2 150 rfl) rfl
theorem wd_2_151 : (Jvm.Cond.code ⟨"TollLedger", "spendingFor", "(IIII)I"⟩ prog_1_method_24_code 7 (Option.some Jvm.ClassFile.FieldType.int)) ∈ BIG := bgA (inT2 151 rfl) rfl
theorem wd_2_152 : (Jvm.Cond.methodLink "TollLedger" 259 ⟨"TollLedger", "issuerOf", "(I)I"⟩) ∈ BIG := bgA (inT2 152 rfl) rfl
theorem wd_2_153 : (Jvm.Cond.methodLink "TollLedger" 262 ⟨"TollLedger", "currencyOf", "(I)I"⟩) ∈ BIG := bgA (inT2 153 rfl) rfl
theorem wd_2_154 : (Jvm.Cond.methodLink "TollLedger" 265 ⟨"TollLedger$Lines", "hasRoom", "(II)Z"⟩) ∈ BIG := bgA (inT2 154 rfl) rfl
theorem wd_2_155 : (Jvm.Cond.instanceMethod ⟨"TollLedger$Lines", "hasRoom", "(II)Z"⟩) ∈ BIG := bgA (inT2 155 rfl) rfl
theorem wd_2_156 : (Jvm.Cond.selects "TollLedger$Lines" ⟨"TollLedger$Lines", "hasRoom", "(II)Z"⟩ ⟨"TollLedger$Lines", "hasRoom", "(II)Z"⟩) ∈ BIG := bgA (inT2 156 rfl) rfl
theorem wd_2_157 : (Jvm.Cond.code ⟨"TollLedger$Lines", "hasRoom", "(II)Z"⟩ prog_6_method_4_code 3 (Option.some Jvm.ClassFile.FieldType.boolean)) ∈ BIG := bgA (inT2 157 rfl) rfl
theorem wd_2_158 : (Jvm.Cond.methodLink "TollLedger" 268 ⟨"TollLedger$State", "costOf", "(IIII)I"⟩) ∈ BIG := bgA (inT2 158 rfl) rfl
theorem wd_2_159 : (Jvm.Cond.instanceMethod ⟨"TollLedger$State", "costOf", "(IIII)I"⟩) ∈ BIG := bgA (inT2 159 rfl) rfl
theorem wd_2_160 : (Jvm.Cond.selects "TollLedger$State" ⟨"TollLedger$State", "costOf", "(IIII)I"⟩ ⟨"TollLedger$State", "costOf", "(IIII)I"⟩) ∈ BIG := bgA (inT2 160 rfl) rfl
theorem wd_2_161 : (Jvm.Cond.code ⟨"TollLedger$State", "costOf", "(IIII)I"⟩ prog_8_method_7_code 7 (Option.some Jvm.ClassFile.FieldType.int)) ∈ BIG := bgA (inT2 161 rfl) rfl
theorem wd_2_162 : (Jvm.Cond.methodLink "TollLedger$State" 94 ⟨"TollLedger$State", "tollRate", "(III)I"⟩) ∈ BIG := bgA (inT2 162 rfl) rfl
theorem wd_2_164 : (Jvm.Cond.instanceMethod ⟨"TollLedger$State", "tollRate", "(III)I"⟩) ∈ BIG := bgA (inT2 164 rfl) rfl
theorem wd_2_165 : (Jvm.Cond.code ⟨"TollLedger$State", "tollRate", "(III)I"⟩ prog_8_method_6_code 5 (Option.some Jvm.ClassFile.FieldType.int)) ∈ BIG := bgA (inT2 165 rfl) rfl
theorem wd_2_166 : (Jvm.Cond.constantLong "TollLedger$State" 97 (999 : Int64)) ∈ BIG := bgA (inT2 166 rfl) rfl
theorem wd_2_167 : (Jvm.Cond.constantLong "TollLedger$State" 99 (1000 : Int64)) ∈ BIG := bgA (inT2 167 rfl) rfl
theorem wd_2_168 : (Jvm.Cond.methodLink "TollLedger" 271 ⟨"TollLedger", "isHushed", "(II)Z"⟩) ∈ BIG := bgA (inT2 168 rfl) rfl
theorem wd_2_170 : (Jvm.Cond.instanceMethod ⟨"TollLedger", "isHushed", "(II)Z"⟩) ∈ BIG := bgA (inT2 170 rfl) rfl
theorem wd_2_171 : (Jvm.Cond.code ⟨"TollLedger", "isHushed", "(II)Z"⟩ prog_1_method_25_code 5 (Option.some Jvm.ClassFile.FieldType.boolean)) ∈ BIG := bgA (inT2 171 rfl) rfl
theorem wd_2_172 : (Jvm.Cond.methodLink "TollLedger" 274 ⟨"TollLedger$Taking", "planAll", "(I)V"⟩) ∈ BIG := bgA (inT2 172 rfl) rfl
theorem wd_2_173 : (Jvm.Cond.instanceMethod ⟨"TollLedger$Taking", "planAll", "(I)V"⟩) ∈ BIG := bgA (inT2 173 rfl) rfl
theorem wd_2_174 : (Jvm.Cond.selects "TollLedger$Taking" ⟨"TollLedger$Taking", "planAll", "(I)V"⟩ ⟨"TollLedger$Taking", "planAll", "(I)V"⟩) ∈ BIG := bgA (inT2 174 rfl) rfl
theorem wd_2_175 : (Jvm.Cond.code ⟨"TollLedger$Taking", "planAll", "(I)V"⟩ prog_9_method_3_code 3 (Option.none : Option Jvm.ClassFile.FieldType)) ∈ BIG := bgA (inT2 175 rfl) rfl
theorem wd_2_176 : (Jvm.Cond.methodLink "TollLedger$Taking" 59 ⟨"TollLedger$Taking", "startPlan", "()V"⟩) ∈ BIG := bgA (inT2 176 rfl) rfl
theorem wd_2_178 : (Jvm.Cond.instanceMethod ⟨"TollLedger$Taking", "startPlan", "()V"⟩) ∈ BIG := bgA (inT2 178 rfl) rfl
theorem wd_2_179 : (Jvm.Cond.code ⟨"TollLedger$Taking", "startPlan", "()V"⟩ prog_9_method_6_code 1 (Option.none : Option Jvm.ClassFile.FieldType)) ∈ BIG := bgA (inT2 179 rfl) rfl
theorem wd_2_180 : (Jvm.Cond.methodLink "TollLedger$Taking" 113 ⟨"java/lang/System", "arraycopy", "(Ljava/lang/Object;ILjava/lang/Object;II)V"⟩) ∈ BIG := bgA (inT2 180 rfl) rfl
theorem wd_2_181 : (Jvm.Cond.static ⟨"java/lang/System", "arraycopy", "(Ljava/lang/Object;ILjava/lang/Object;II)V"⟩) ∈ BIG := bgA (inT2 181 rfl) rfl
theorem wd_2_182 : (Jvm.Cond.native ⟨"java/lang/System", "arraycopy", "(Ljava/lang/Object;ILjava/lang/Object;II)V"⟩) ∈ BIG := bgA (inT2 182 rfl) rfl
theorem wd_2_183 : (Jvm.Cond.methodLink "TollLedger$Taking" 68 ⟨"TollLedger$Taking", "goThrough", "(II)V"⟩) ∈ BIG := bgA (inT2 183 rfl) rfl
theorem wd_2_185 : (Jvm.Cond.instanceMethod ⟨"TollLedger$Taking", "goThrough", "(II)V"⟩) ∈ BIG := bgA (inT2 185 rfl) rfl
theorem wd_2_186 : (Jvm.Cond.code ⟨"TollLedger$Taking", "goThrough", "(II)V"⟩ prog_9_method_7_code 7 (Option.none : Option Jvm.ClassFile.FieldType)) ∈ BIG := bgA (inT2 186 rfl) rfl
theorem wd_2_187 : (Jvm.Cond.methodLink "TollLedger$Taking" 88 ⟨"TollLedger$State", "mostMovable", "(IIII)I"⟩) ∈ BIG := bgA (inT2 187 rfl) rfl
theorem wd_2_188 : (Jvm.Cond.instanceMethod ⟨"TollLedger$State", "mostMovable", "(IIII)I"⟩) ∈ BIG := bgA (inT2 188 rfl) rfl
theorem wd_2_189 : (Jvm.Cond.selects "TollLedger$State" ⟨"TollLedger$State", "mostMovable", "(IIII)I"⟩ ⟨"TollLedger$State", "mostMovable", "(IIII)I"⟩) ∈ BIG := bgA (inT2 189 rfl) rfl
theorem wd_2_190 : (Jvm.Cond.code ⟨"TollLedger$State", "mostMovable", "(IIII)I"⟩ prog_8_method_8_code 5 (Option.some Jvm.ClassFile.FieldType.int)) ∈ BIG := bgA (inT2 190 rfl) rfl
theorem wd_2_191 : (Jvm.Cond.methodLink "TollLedger$Taking" 95 ⟨"java/lang/Math", "min", "(II)I"⟩) ∈ BIG := bgA (inT2 191 rfl) rfl
theorem wd_2_192 : (Jvm.Cond.methodLink "TollLedger$Taking" 122 ⟨"TollLedger$Offer", "priceOf", "(I)I"⟩) ∈ BIG := bgA (inT2 192 rfl) rfl
theorem wd_2_193 : (Jvm.Cond.instanceMethod ⟨"TollLedger$Offer", "priceOf", "(I)I"⟩) ∈ BIG := bgA (inT2 193 rfl) rfl
theorem wd_2_194 : (Jvm.Cond.selects "TollLedger$Offer" ⟨"TollLedger$Offer", "priceOf", "(I)I"⟩ ⟨"TollLedger$Offer", "priceOf", "(I)I"⟩) ∈ BIG := bgA (inT2 194 rfl) rfl
theorem wd_2_195 : (Jvm.Cond.code ⟨"TollLedger$Offer", "priceOf", "(I)I"⟩ prog_7_method_3_code 2 (Option.some Jvm.ClassFile.FieldType.int)) ∈ BIG := bgA (inT2 195 rfl) rfl
theorem wd_2_196 : (Jvm.Cond.methodLink "TollLedger$Taking" 126 ⟨"TollLedger$State", "costOf", "(IIII)I"⟩) ∈ BIG := bgA (inT2 196 rfl) rfl
theorem wd_2_197 : (Jvm.Cond.methodLink "TollLedger" 132 ⟨"TollLedger$Taking", "carryOut", "()V"⟩) ∈ BIG := bgA (inT2 197 rfl) rfl
theorem wd_2_198 : (Jvm.Cond.instanceMethod ⟨"TollLedger$Taking", "carryOut", "()V"⟩) ∈ BIG := bgA (inT2 198 rfl) rfl
theorem wd_2_199 : (Jvm.Cond.selects "TollLedger$Taking" ⟨"TollLedger$Taking", "carryOut", "()V"⟩ ⟨"TollLedger$Taking", "carryOut", "()V"⟩) ∈ BIG := bgA (inT2 199 rfl) rfl
theorem wd_2_200 : (Jvm.Cond.code ⟨"TollLedger$Taking", "carryOut", "()V"⟩ prog_9_method_9_code 4 (Option.none : Option Jvm.ClassFile.FieldType)) ∈ BIG := bgA (inT2 200 rfl) rfl
theorem wd_2_201 : (Jvm.Cond.methodLink "TollLedger$Taking" 129 ⟨"TollLedger$State", "change", "(III)V"⟩) ∈ BIG := bgA (inT2 201 rfl) rfl
theorem wd_2_202 : (Jvm.Cond.methodLink "TollLedger$Taking" 133 ⟨"TollLedger$State", "dropSpentOffers", "()V"⟩) ∈ BIG := bgA (inT2 202 rfl) rfl
theorem wd_2_203 : (Jvm.Cond.instanceMethod ⟨"TollLedger$State", "dropSpentOffers", "()V"⟩) ∈ BIG := bgA (inT2 203 rfl) rfl
theorem wd_2_204 : (Jvm.Cond.selects "TollLedger$State" ⟨"TollLedger$State", "dropSpentOffers", "()V"⟩ ⟨"TollLedger$State", "dropSpentOffers", "()V"⟩) ∈ BIG := bgA (inT2 204 rfl) rfl
theorem wd_2_205 : (Jvm.Cond.code ⟨"TollLedger$State", "dropSpentOffers", "()V"⟩ prog_8_method_14_code 2 (Option.none : Option Jvm.ClassFile.FieldType)) ∈ BIG := bgA (inT2 205 rfl) rfl
theorem wd_2_206 : (Jvm.Cond.methodLink "TollLedger$State" 143 ⟨"java/util/ArrayList", "remove", "(I)Ljava/lang/Object;"⟩) ∈ BIG := bgA (inT2 206 rfl) rfl
theorem wd_2_207 : (Jvm.Cond.instanceMethod ⟨"java/util/ArrayList", "remove", "(I)Ljava/lang/Object;"⟩) ∈ BIG := bgA (inT2 207 rfl) rfl
theorem wd_2_208 : (Jvm.Cond.selects "java/util/ArrayList" ⟨"java/util/ArrayList", "remove", "(I)Ljava/lang/Object;"⟩ ⟨"java/util/ArrayList", "remove", "(I)Ljava/lang/Object;"⟩) ∈ BIG := bgA (inT2 208 rfl) rfl
theorem wd_2_209 : (Jvm.Cond.code ⟨"java/util/ArrayList", "remove", "(I)Ljava/lang/Object;"⟩ prog_19_method_29_code 4 (Option.some (Jvm.ClassFile.FieldType.object "java/lang/Object"))) ∈ BIG := bgA (inT2 209 rfl) rfl
theorem wd_2_210 : (Jvm.Cond.methodLink "java/util/ArrayList" 144 ⟨"java/util/ArrayList", "fastRemove", "([Ljava/lang/Object;I)V"⟩) ∈ BIG := bgA (inT2 210 rfl) rfl
theorem wd_2_212 : (Jvm.Cond.instanceMethod ⟨"java/util/ArrayList", "fastRemove", "([Ljava/lang/Object;I)V"⟩) ∈ BIG := bgA (inT2 212 rfl) rfl
theorem wd_2_213 : (Jvm.Cond.code ⟨"java/util/ArrayList", "fastRemove", "([Ljava/lang/Object;I)V"⟩ prog_19_method_39_code 4 (Option.none : Option Jvm.ClassFile.FieldType)) ∈ BIG := bgA (inT2 213 rfl) rfl
theorem wd_2_214 : (Jvm.Cond.methodLink "java/util/ArrayList" 112 ⟨"java/lang/System", "arraycopy", "(Ljava/lang/Object;ILjava/lang/Object;II)V"⟩) ∈ BIG := bgA (inT2 214 rfl) rfl
theorem wd_2_215 : (Jvm.Cond.methodLink "TollLedgerLaw" 43 ⟨"TollLedger", "offer", "(IIIII)I"⟩) ∈ BIG := bgA (inT2 215 rfl) rfl
theorem wd_2_216 : (Jvm.Cond.instanceMethod ⟨"TollLedger", "offer", "(IIIII)I"⟩) ∈ BIG := bgA (inT2 216 rfl) rfl
theorem wd_2_217 : (Jvm.Cond.selects "TollLedger" ⟨"TollLedger", "offer", "(IIIII)I"⟩ ⟨"TollLedger", "offer", "(IIIII)I"⟩) ∈ BIG := bgA (inT2 217 rfl) rfl
theorem wd_2_218 : (Jvm.Cond.code ⟨"TollLedger", "offer", "(IIIII)I"⟩ prog_1_method_8_code 10 (Option.some Jvm.ClassFile.FieldType.int)) ∈ BIG := bgA (inT2 218 rfl) rfl
theorem wd_2_219 : (Jvm.Cond.methodLink "TollLedger" 135 ⟨"TollLedger$Taking", "planCrossing", "(III)V"⟩) ∈ BIG := bgA (inT2 219 rfl) rfl
theorem wd_2_220 : (Jvm.Cond.instanceMethod ⟨"TollLedger$Taking", "planCrossing", "(III)V"⟩) ∈ BIG := bgA (inT2 220 rfl) rfl
theorem wd_2_221 : (Jvm.Cond.selects "TollLedger$Taking" ⟨"TollLedger$Taking", "planCrossing", "(III)V"⟩ ⟨"TollLedger$Taking", "planCrossing", "(III)V"⟩) ∈ BIG := bgA (inT2 221 rfl) rfl
theorem wd_2_222 : (Jvm.Cond.code ⟨"TollLedger$Taking", "planCrossing", "(III)V"⟩ prog_9_method_4_code 9 (Option.none : Option Jvm.ClassFile.FieldType)) ∈ BIG := bgA (inT2 222 rfl) rfl
theorem wd_2_223 : (Jvm.Cond.methodLink "TollLedger$Taking" 76 ⟨"TollLedger$Taking", "isCrossed", "(LTollLedger$Offer;II)Z"⟩) ∈ BIG := bgA (inT2 223 rfl) rfl
theorem wd_2_224 : (Jvm.Cond.static ⟨"TollLedger$Taking", "isCrossed", "(LTollLedger$Offer;II)Z"⟩) ∈ BIG := bgA (inT2 224 rfl) rfl
theorem wd_2_225 : (Jvm.Cond.code ⟨"TollLedger$Taking", "isCrossed", "(LTollLedger$Offer;II)Z"⟩ prog_9_method_5_code 3 (Option.some Jvm.ClassFile.FieldType.boolean)) ∈ BIG := bgA (inT2 225 rfl) rfl
theorem wd_2_226 : (Jvm.Cond.methodLink "TollLedger$Taking" 100 ⟨"TollLedger$Offer", "mostFor", "(I)J"⟩) ∈ BIG := bgA (inT2 226 rfl) rfl
theorem wd_2_227 : (Jvm.Cond.instanceMethod ⟨"TollLedger$Offer", "mostFor", "(I)J"⟩) ∈ BIG := bgA (inT2 227 rfl) rfl
theorem wd_2_228 : (Jvm.Cond.selects "TollLedger$Offer" ⟨"TollLedger$Offer", "mostFor", "(I)J"⟩ ⟨"TollLedger$Offer", "mostFor", "(I)J"⟩) ∈ BIG := bgA (inT2 228 rfl) rfl
theorem wd_2_229 : (Jvm.Cond.code ⟨"TollLedger$Offer", "mostFor", "(I)J"⟩ prog_7_method_4_code 2 (Option.some Jvm.ClassFile.FieldType.long)) ∈ BIG := bgA (inT2 229 rfl) rfl
theorem wd_2_230 : (Jvm.Cond.methodLink "TollLedger$Taking" 104 ⟨"java/lang/Math", "min", "(JJ)J"⟩) ∈ BIG := bgA (inT2 230 rfl) rfl
theorem wd_2_231 : (Jvm.Cond.static ⟨"java/lang/Math", "min", "(JJ)J"⟩) ∈ BIG := bgA (inT2 231 rfl) rfl
theorem wd_2_232 : (Jvm.Cond.code ⟨"java/lang/Math", "min", "(JJ)J"⟩ prog_15_method_70_code 4 (Option.some Jvm.ClassFile.FieldType.long)) ∈ BIG := bgA (inT2 232 rfl) rfl
theorem wd_2_233 : (Jvm.Cond.methodLink "TollLedger" 141 ⟨"TollLedger$Taking", "countUnfunded", "()I"⟩) ∈ BIG := bgA (inT2 233 rfl) rfl
theorem wd_2_234 : (Jvm.Cond.instanceMethod ⟨"TollLedger$Taking", "countUnfunded", "()I"⟩) ∈ BIG := bgA (inT2 234 rfl) rfl
theorem wd_2_235 : (Jvm.Cond.selects "TollLedger$Taking" ⟨"TollLedger$Taking", "countUnfunded", "()I"⟩ ⟨"TollLedger$Taking", "countUnfunded", "()I"⟩) ∈ BIG := bgA (inT2 235 rfl) rfl
theorem wd_2_236 : (Jvm.Cond.code ⟨"TollLedger$Taking", "countUnfunded", "()I"⟩ prog_9_method_8_code 3 (Option.some Jvm.ClassFile.FieldType.int)) ∈ BIG := bgA (inT2 236 rfl) rfl
theorem wd_2_237 : (Jvm.Cond.methodLink "TollLedger" 145 ⟨"TollLedger", "canPlace", "(I)Z"⟩) ∈ BIG := bgA (inT2 237 rfl) rfl
theorem wd_2_239 : (Jvm.Cond.instanceMethod ⟨"TollLedger", "canPlace", "(I)Z"⟩) ∈ BIG := bgA (inT2 239 rfl) rfl
theorem wd_3_0 : (Jvm.Cond.code ⟨"TollLedger", "canPlace", "(I)Z"⟩ prog_1_method_26_code 2 (Option.some Jvm.ClassFile.FieldType.boolean)) ∈ BIG := bgA (inT3 0 rfl) rfl
theorem wd_3_1 : (Jvm.Cond.methodLink "TollLedger" 183 ⟨"java/util/ArrayList", "size", "()I"⟩) ∈ BIG := bgA (inT3 1 rfl) rfl
theorem wd_3_2 : (Jvm.Cond.methodLink "TollLedger" 154 ⟨"TollLedger$State", "addOffer", "(IIIII)V"⟩) ∈ BIG := bgA (inT3 2 rfl) rfl
theorem wd_3_3 : (Jvm.Cond.instanceMethod ⟨"TollLedger$State", "addOffer", "(IIIII)V"⟩) ∈ BIG := bgA (inT3 3 rfl) rfl
theorem wd_3_4 : (Jvm.Cond.selects "TollLedger$State" ⟨"TollLedger$State", "addOffer", "(IIIII)V"⟩ ⟨"TollLedger$State", "addOffer", "(IIIII)V"⟩) ∈ BIG := bgA (inT3 4 rfl) rfl
theorem wd_3_5 : (Jvm.Cond.code ⟨"TollLedger$State", "addOffer", "(IIIII)V"⟩ prog_8_method_12_code 7 (Option.none : Option Jvm.ClassFile.FieldType)) ∈ BIG := bgA (inT3 5 rfl) rfl
theorem wd_3_6 : (Jvm.Cond.instantiable "TollLedger$Offer" 6) ∈ BIG := bgA (inT3 6 rfl) rfl
theorem wd_3_8 : (Jvm.Cond.instanceMethod ⟨"TollLedger$Offer", "<init>", "()V"⟩) ∈ BIG := bgA (inT3 8 rfl) rfl
theorem wd_3_9 : (Jvm.Cond.code ⟨"TollLedger$Offer", "<init>", "()V"⟩ prog_7_method_1_code 1 (Option.none : Option Jvm.ClassFile.FieldType)) ∈ BIG := bgA (inT3 9 rfl) rfl
theorem wd_3_10 : (Jvm.Cond.methodLink "TollLedger$Offer" 1 ⟨"java/lang/Object", "<init>", "()V"⟩) ∈ BIG := bgA (inT3 10 rfl) rfl
theorem wd_3_11 : (Jvm.Cond.fieldLink "TollLedger$Offer" 16 "TollLedger$Offer" "id" "I") ∈ BIG := bgA (inT3 11 rfl) rfl
theorem wd_3_12 : (Jvm.Cond.fieldLink "TollLedger$State" 105 "TollLedger$Offer" "id" "I") ∈ BIG := bgA (inT3 12 rfl) rfl
theorem wd_3_13 : (Jvm.Cond.fieldLink "TollLedger" 241 "TollLedger$Offer" "id" "I") ∈ BIG := bgA (inT3 13 rfl) rfl
theorem wd_3_14 : (Jvm.Cond.fieldLink "TollLedger$State" 58 "TollLedger$Offer" "owner" "I") ∈ BIG := bgA (inT3 14 rfl) rfl
theorem wd_3_15 : (Jvm.Cond.fieldLink "TollLedger$Book" 36 "TollLedger$Offer" "owner" "I") ∈ BIG := bgA (inT3 15 rfl) rfl
theorem wd_3_16 : (Jvm.Cond.fieldLink "TollLedger$Taking" 83 "TollLedger$Offer" "owner" "I") ∈ BIG := bgA (inT3 16 rfl) rfl
theorem wd_3_17 : (Jvm.Cond.fieldLink "TollLedger$Offer" 19 "TollLedger$Offer" "owner" "I") ∈ BIG := bgA (inT3 17 rfl) rfl
theorem wd_3_18 : (Jvm.Cond.fieldLink "TollLedger" 174 "TollLedger$Offer" "owner" "I") ∈ BIG := bgA (inT3 18 rfl) rfl
theorem wd_3_19 : (Jvm.Cond.fieldLink "TollLedger$Book" 30 "TollLedger$Offer" "wants" "I") ∈ BIG := bgA (inT3 19 rfl) rfl
theorem wd_3_20 : (Jvm.Cond.fieldLink "TollLedger$Offer" 22 "TollLedger$Offer" "wants" "I") ∈ BIG := bgA (inT3 20 rfl) rfl
theorem wd_3_21 : (Jvm.Cond.fieldLink "TollLedger$State" 113 "TollLedger$Offer" "wants" "I") ∈ BIG := bgA (inT3 21 rfl) rfl
theorem wd_3_22 : (Jvm.Cond.fieldLink "TollLedger$Offer" 7 "TollLedger$Offer" "w" "I") ∈ BIG := bgA (inT3 22 rfl) rfl
theorem wd_3_23 : (Jvm.Cond.fieldLink "TollLedger$Taking" 107 "TollLedger$Offer" "w" "I") ∈ BIG := bgA (inT3 23 rfl) rfl
theorem wd_3_24 : (Jvm.Cond.fieldLink "TollLedger$State" 116 "TollLedger$Offer" "w" "I") ∈ BIG := bgA (inT3 24 rfl) rfl
theorem wd_3_25 : (Jvm.Cond.fieldLink "TollLedger" 244 "TollLedger$Offer" "w" "I") ∈ BIG := bgA (inT3 25 rfl) rfl
theorem wd_3_26 : (Jvm.Cond.fieldLink "TollLedger$Book" 33 "TollLedger$Offer" "gives" "I") ∈ BIG := bgA (inT3 26 rfl) rfl
theorem wd_3_27 : (Jvm.Cond.fieldLink "TollLedger$Offer" 25 "TollLedger$Offer" "gives" "I") ∈ BIG := bgA (inT3 27 rfl) rfl
theorem wd_3_28 : (Jvm.Cond.fieldLink "TollLedger$State" 119 "TollLedger$Offer" "gives" "I") ∈ BIG := bgA (inT3 28 rfl) rfl
theorem wd_3_29 : (Jvm.Cond.fieldLink "TollLedger$Offer" 13 "TollLedger$Offer" "g" "I") ∈ BIG := bgA (inT3 29 rfl) rfl
theorem wd_3_30 : (Jvm.Cond.fieldLink "TollLedger$Taking" 110 "TollLedger$Offer" "g" "I") ∈ BIG := bgA (inT3 30 rfl) rfl
theorem wd_3_31 : (Jvm.Cond.fieldLink "TollLedger$State" 122 "TollLedger$Offer" "g" "I") ∈ BIG := bgA (inT3 31 rfl) rfl
theorem wd_3_32 : (Jvm.Cond.fieldLink "TollLedger" 247 "TollLedger$Offer" "g" "I") ∈ BIG := bgA (inT3 32 rfl) rfl
theorem wd_3_46 : (Jvm.Cond.methodLink "TollLedger$State" 125 ⟨"java/util/ArrayList", "add", "(Ljava/lang/Object;)Z"⟩) ∈ BIG := bgA (inT3 46 rfl) rfl
theorem wd_3_47 : (Jvm.Cond.instanceMethod ⟨"java/util/ArrayList", "add", "(Ljava/lang/Object;)Z"⟩) ∈ BIG := bgA (inT3 47 rfl) rfl
theorem wd_3_48 : (Jvm.Cond.selects "java/util/ArrayList" ⟨"java/util/ArrayList", "add", "(Ljava/lang/Object;)Z"⟩ ⟨"java/util/ArrayList", "add", "(Ljava/lang/Object;)Z"⟩) ∈ BIG := bgA (inT3 48 rfl) rfl
theorem wd_3_49 : (Jvm.Cond.code ⟨"java/util/ArrayList", "add", "(Ljava/lang/Object;)Z"⟩ prog_19_method_25_code 2 (Option.some Jvm.ClassFile.FieldType.boolean)) ∈ BIG := bgA (inT3 49 rfl) rfl
theorem wd_3_50 : (Jvm.Cond.methodLink "java/util/ArrayList" 131 ⟨"java/util/ArrayList", "add", "(Ljava/lang/Object;[Ljava/lang/Object;I)V"⟩) ∈ BIG := bgA (inT3 50 rfl) rfl
theorem wd_3_52 : (Jvm.Cond.instanceMethod ⟨"java/util/ArrayList", "add", "(Ljava/lang/Object;[Ljava/lang/Object;I)V"⟩) ∈ BIG := bgA (inT3 52 rfl) rfl
theorem wd_3_53 : (Jvm.Cond.code ⟨"java/util/ArrayList", "add", "(Ljava/lang/Object;[Ljava/lang/Object;I)V"⟩ prog_19_method_24_code 4 (Option.none : Option Jvm.ClassFile.FieldType)) ∈ BIG := bgA (inT3 53 rfl) rfl
theorem wd_3_54 : (Jvm.Cond.methodLink "java/util/ArrayList" 129 ⟨"java/util/ArrayList", "grow", "()[Ljava/lang/Object;"⟩) ∈ BIG := bgA (inT3 54 rfl) rfl
theorem wd_3_56 : (Jvm.Cond.instanceMethod ⟨"java/util/ArrayList", "grow", "()[Ljava/lang/Object;"⟩) ∈ BIG := bgA (inT3 56 rfl) rfl
theorem wd_3_57 : (Jvm.Cond.code ⟨"java/util/ArrayList", "grow", "()[Ljava/lang/Object;"⟩ prog_19_method_7_code 1 (Option.some (Jvm.ClassFile.FieldType.array (Jvm.ClassFile.FieldType.object "java/lang/Object")))) ∈ BIG := bgA (inT3 57 rfl) rfl
theorem wd_3_58 : (Jvm.Cond.methodLink "java/util/ArrayList" 69 ⟨"java/util/ArrayList", "grow", "(I)[Ljava/lang/Object;"⟩) ∈ BIG := bgA (inT3 58 rfl) rfl
theorem wd_3_60 : (Jvm.Cond.instanceMethod ⟨"java/util/ArrayList", "grow", "(I)[Ljava/lang/Object;"⟩) ∈ BIG := bgA (inT3 60 rfl) rfl
theorem wd_3_61 : (Jvm.Cond.code ⟨"java/util/ArrayList", "grow", "(I)[Ljava/lang/Object;"⟩ prog_19_method_6_code 4 (Option.some (Jvm.ClassFile.FieldType.array (Jvm.ClassFile.FieldType.object "java/lang/Object")))) ∈ BIG := bgA (inT3 61 rfl) rfl
theorem wd_3_62 : (Jvm.Cond.methodLink "java/util/ArrayList" 73 ⟨"jdk/internal/util/ArraysSupport", "newLength", "(III)I"⟩) ∈ BIG := bgA (inT3 62 rfl) rfl
theorem wd_3_63 : (Jvm.Cond.static ⟨"jdk/internal/util/ArraysSupport", "newLength", "(III)I"⟩) ∈ BIG := bgA (inT3 63 rfl) rfl
theorem wd_3_64 : (Jvm.Cond.code ⟨"jdk/internal/util/ArraysSupport", "newLength", "(III)I"⟩ prog_26_method_27_code 4 (Option.some Jvm.ClassFile.FieldType.int)) ∈ BIG := bgA (inT3 64 rfl) rfl
theorem wd_3_65 : (Jvm.Cond.methodLink "jdk/internal/util/ArraysSupport" 194 ⟨"java/lang/Math", "max", "(II)I"⟩) ∈ BIG := bgA (inT3 65 rfl) rfl
theorem wd_3_66 : (Jvm.Cond.constant "jdk/internal/util/ArraysSupport" 200 (2147483639 : Int32)) ∈ BIG := bgA (inT3 66 rfl) rfl
theorem wd_3_67 : (Jvm.Cond.methodLink "jdk/internal/util/ArraysSupport" 201 ⟨"jdk/internal/util/ArraysSupport", "hugeLength", "(II)I"⟩) ∈ BIG := bgA (inT3 67 rfl) rfl
theorem wd_3_68 : (Jvm.Cond.static ⟨"jdk/internal/util/ArraysSupport", "hugeLength", "(II)I"⟩) ∈ BIG := bgA (inT3 68 rfl) rfl
theorem wd_3_69 : (Jvm.Cond.code ⟨"jdk/internal/util/ArraysSupport", "hugeLength", "(II)I"⟩ prog_26_method_28_code 3 (Option.some Jvm.ClassFile.FieldType.int)) ∈ BIG := bgA (inT3 69 rfl) rfl
theorem wd_3_70 : (Jvm.Cond.methodLink "java/util/ArrayList" 66 ⟨"java/util/Arrays", "copyOf", "([Ljava/lang/Object;I)[Ljava/lang/Object;"⟩) ∈ BIG := bgA (inT3 70 rfl) rfl
theorem wd_3_71 : (Jvm.Cond.static ⟨"java/util/Arrays", "copyOf", "([Ljava/lang/Object;I)[Ljava/lang/Object;"⟩) ∈ BIG := bgA (inT3 71 rfl) rfl
theorem wd_3_72 : (Jvm.Cond.code ⟨"java/util/Arrays", "copyOf", "([Ljava/lang/Object;I)[Ljava/lang/Object;"⟩ prog_20_method_119_code 2 (Option.some (Jvm.ClassFile.FieldType.array (Jvm.ClassFile.FieldType.object "java/lang/Object")))) ∈ BIG := bgA (inT3 72 rfl) rfl
theorem wd_3_73 : (Jvm.Cond.methodLink "java/util/Arrays" 86 ⟨"java/lang/Object", "getClass", "()Ljava/lang/Class;"⟩) ∈ BIG := bgA (inT3 73 rfl) rfl
theorem wd_3_74 : (Jvm.Cond.instanceMethod ⟨"java/lang/Object", "getClass", "()Ljava/lang/Class;"⟩) ∈ BIG := bgA (inT3 74 rfl) rfl
theorem wd_3_75 : (Jvm.Cond.sameMethod "java/lang/Object" "java/lang/Object" "getClass" "()Ljava/lang/Class;") ∈ BIG := bgA (inT3 75 rfl) rfl
theorem wd_3_76 : (Jvm.Cond.selects "TollLedger" ⟨"java/lang/Object", "getClass", "()Ljava/lang/Class;"⟩ ⟨"java/lang/Object", "getClass", "()Ljava/lang/Class;"⟩) ∈ BIG := bgA (inT3 76 rfl) rfl
theorem wd_3_77 : (Jvm.Cond.selects "TollLedger$Account" ⟨"java/lang/Object", "getClass", "()Ljava/lang/Class;"⟩ ⟨"java/lang/Object", "getClass", "()Ljava/lang/Class;"⟩) ∈ BIG := bgA (inT3 77 rfl) rfl
theorem wd_3_78 : (Jvm.Cond.selects "TollLedger$Book" ⟨"java/lang/Object", "getClass", "()Ljava/lang/Class;"⟩ ⟨"java/lang/Object", "getClass", "()Ljava/lang/Class;"⟩) ∈ BIG := bgA (inT3 78 rfl) rfl
theorem wd_3_79 : (Jvm.Cond.selects "TollLedger$Deposit" ⟨"java/lang/Object", "getClass", "()Ljava/lang/Class;"⟩ ⟨"java/lang/Object", "getClass", "()Ljava/lang/Class;"⟩) ∈ BIG := bgA (inT3 79 rfl) rfl
theorem wd_3_80 : (Jvm.Cond.selects "TollLedger$Leaves" ⟨"java/lang/Object", "getClass", "()Ljava/lang/Class;"⟩ ⟨"java/lang/Object", "getClass", "()Ljava/lang/Class;"⟩) ∈ BIG := bgA (inT3 80 rfl) rfl
theorem wd_3_81 : (Jvm.Cond.selects "TollLedger$Lines" ⟨"java/lang/Object", "getClass", "()Ljava/lang/Class;"⟩ ⟨"java/lang/Object", "getClass", "()Ljava/lang/Class;"⟩) ∈ BIG := bgA (inT3 81 rfl) rfl
theorem wd_3_82 : (Jvm.Cond.selects "TollLedger$Offer" ⟨"java/lang/Object", "getClass", "()Ljava/lang/Class;"⟩ ⟨"java/lang/Object", "getClass", "()Ljava/lang/Class;"⟩) ∈ BIG := bgA (inT3 82 rfl) rfl
theorem wd_3_83 : (Jvm.Cond.selects "TollLedger$State" ⟨"java/lang/Object", "getClass", "()Ljava/lang/Class;"⟩ ⟨"java/lang/Object", "getClass", "()Ljava/lang/Class;"⟩) ∈ BIG := bgA (inT3 83 rfl) rfl
theorem wd_3_84 : (Jvm.Cond.selects "TollLedger$Taking" ⟨"java/lang/Object", "getClass", "()Ljava/lang/Class;"⟩ ⟨"java/lang/Object", "getClass", "()Ljava/lang/Class;"⟩) ∈ BIG := bgA (inT3 84 rfl) rfl
theorem wd_3_85 : (Jvm.Cond.selects "TollLedgerModel" ⟨"java/lang/Object", "getClass", "()Ljava/lang/Class;"⟩ ⟨"java/lang/Object", "getClass", "()Ljava/lang/Class;"⟩) ∈ BIG := bgA (inT3 85 rfl) rfl
theorem wd_3_86 : (Jvm.Cond.selects "java/util/ArrayList" ⟨"java/lang/Object", "getClass", "()Ljava/lang/Class;"⟩ ⟨"java/lang/Object", "getClass", "()Ljava/lang/Class;"⟩) ∈ BIG := bgA (inT3 86 rfl) rfl
theorem wd_3_87 : (Jvm.Cond.native ⟨"java/lang/Object", "getClass", "()Ljava/lang/Class;"⟩) ∈ BIG := bgA (inT3 87 rfl) rfl
theorem wd_3_88 : (Jvm.Cond.methodLink "java/util/Arrays" 300 ⟨"java/util/Arrays", "copyOf", "([Ljava/lang/Object;ILjava/lang/Class;)[Ljava/lang/Object;"⟩) ∈ BIG := bgA (inT3 88 rfl) rfl
theorem wd_3_89 : (Jvm.Cond.static ⟨"java/util/Arrays", "copyOf", "([Ljava/lang/Object;ILjava/lang/Class;)[Ljava/lang/Object;"⟩) ∈ BIG := bgA (inT3 89 rfl) rfl
theorem wd_3_90 : (Jvm.Cond.code ⟨"java/util/Arrays", "copyOf", "([Ljava/lang/Object;ILjava/lang/Class;)[Ljava/lang/Object;"⟩ prog_20_method_120_code 4 (Option.some (Jvm.ClassFile.FieldType.array (Jvm.ClassFile.FieldType.object "java/lang/Object")))) ∈ BIG := bgA (inT3 90 rfl) rfl
theorem wd_3_91 : (Jvm.Cond.classLink "java/util/Arrays" 110 "[Ljava/lang/Object;") ∈ BIG := bgA (inT3 91 rfl) rfl
theorem wd_3_93 : (Jvm.Cond.classLink "java/util/Arrays" 2 "java/lang/Object") ∈ BIG := bgA (inT3 93 rfl) rfl
theorem wd_3_94 : (Jvm.Cond.methodLink "java/util/Arrays" 304 ⟨"java/lang/Math", "min", "(II)I"⟩) ∈ BIG := bgA (inT3 94 rfl) rfl
theorem wd_3_95 : (Jvm.Cond.methodLink "java/util/Arrays" 150 ⟨"java/lang/System", "arraycopy", "(Ljava/lang/Object;ILjava/lang/Object;II)V"⟩) ∈ BIG := bgA (inT3 95 rfl) rfl
theorem wd_3_96 : (Jvm.Cond.methodLink "java/util/ArrayList" 79 ⟨"java/lang/Math", "max", "(II)I"⟩) ∈ BIG := bgA (inT3 96 rfl) rfl
theorem wd_3_97 : (Jvm.Cond.classLink "java/util/ArrayList" 7 "java/lang/Object") ∈ BIG := bgA (inT3 97 rfl) rfl
theorem wd_3_98 : (Jvm.Cond.methodLink "TollLedgerLaw" 48 ⟨"TollLedger", "cancel", "(I)I"⟩) ∈ BIG := bgA (inT3 98 rfl) rfl
theorem wd_3_99 : (Jvm.Cond.instanceMethod ⟨"TollLedger", "cancel", "(I)I"⟩) ∈ BIG := bgA (inT3 99 rfl) rfl
theorem wd_3_100 : (Jvm.Cond.selects "TollLedger" ⟨"TollLedger", "cancel", "(I)I"⟩ ⟨"TollLedger", "cancel", "(I)I"⟩) ∈ BIG := bgA (inT3 100 rfl) rfl
theorem wd_3_101 : (Jvm.Cond.code ⟨"TollLedger", "cancel", "(I)I"⟩ prog_1_method_9_code 4 (Option.some Jvm.ClassFile.FieldType.int)) ∈ BIG := bgA (inT3 101 rfl) rfl
theorem wd_3_102 : (Jvm.Cond.methodLink "TollLedger" 158 ⟨"TollLedger$State", "placeOfOffer", "(I)I"⟩) ∈ BIG := bgA (inT3 102 rfl) rfl
theorem wd_3_103 : (Jvm.Cond.instanceMethod ⟨"TollLedger$State", "placeOfOffer", "(I)I"⟩) ∈ BIG := bgA (inT3 103 rfl) rfl
theorem wd_3_104 : (Jvm.Cond.selects "TollLedger$State" ⟨"TollLedger$State", "placeOfOffer", "(I)I"⟩ ⟨"TollLedger$State", "placeOfOffer", "(I)I"⟩) ∈ BIG := bgA (inT3 104 rfl) rfl
theorem wd_3_105 : (Jvm.Cond.code ⟨"TollLedger$State", "placeOfOffer", "(I)I"⟩ prog_8_method_10_code 3 (Option.some Jvm.ClassFile.FieldType.int)) ∈ BIG := bgA (inT3 105 rfl) rfl
theorem wd_3_106 : (Jvm.Cond.methodLink "TollLedger" 166 ⟨"java/util/ArrayList", "get", "(I)Ljava/lang/Object;"⟩) ∈ BIG := bgA (inT3 106 rfl) rfl
theorem wd_3_107 : (Jvm.Cond.classLink "TollLedger" 172 "TollLedger$Offer") ∈ BIG := bgA (inT3 107 rfl) rfl
theorem wd_3_108 : (Jvm.Cond.methodLink "TollLedger" 177 ⟨"java/util/ArrayList", "remove", "(I)Ljava/lang/Object;"⟩) ∈ BIG := bgA (inT3 108 rfl) rfl
theorem wd_3_109 : (Jvm.Cond.methodLink "TollLedgerLaw" 52 ⟨"TollLedger", "deposit", "(IIII)I"⟩) ∈ BIG := bgA (inT3 109 rfl) rfl
theorem wd_3_110 : (Jvm.Cond.instanceMethod ⟨"TollLedger", "deposit", "(IIII)I"⟩) ∈ BIG := bgA (inT3 110 rfl) rfl
theorem wd_3_111 : (Jvm.Cond.selects "TollLedger" ⟨"TollLedger", "deposit", "(IIII)I"⟩ ⟨"TollLedger", "deposit", "(IIII)I"⟩) ∈ BIG := bgA (inT3 111 rfl) rfl
theorem wd_3_112 : (Jvm.Cond.code ⟨"TollLedger", "deposit", "(IIII)I"⟩ prog_1_method_10_code 6 (Option.some Jvm.ClassFile.FieldType.int)) ∈ BIG := bgA (inT3 112 rfl) rfl
theorem wd_3_113 : (Jvm.Cond.methodLink "TollLedger" 186 ⟨"TollLedger$State", "addDeposit", "(IIIII)V"⟩) ∈ BIG := bgA (inT3 113 rfl) rfl
theorem wd_3_114 : (Jvm.Cond.instanceMethod ⟨"TollLedger$State", "addDeposit", "(IIIII)V"⟩) ∈ BIG := bgA (inT3 114 rfl) rfl
theorem wd_3_115 : (Jvm.Cond.selects "TollLedger$State" ⟨"TollLedger$State", "addDeposit", "(IIIII)V"⟩ ⟨"TollLedger$State", "addDeposit", "(IIIII)V"⟩) ∈ BIG := bgA (inT3 115 rfl) rfl
theorem wd_3_116 : (Jvm.Cond.code ⟨"TollLedger$State", "addDeposit", "(IIIII)V"⟩ prog_8_method_13_code 7 (Option.none : Option Jvm.ClassFile.FieldType)) ∈ BIG := bgA (inT3 116 rfl) rfl
theorem wd_3_117 : (Jvm.Cond.instantiable "TollLedger$Deposit" 6) ∈ BIG := bgA (inT3 117 rfl) rfl
theorem wd_3_119 : (Jvm.Cond.instanceMethod ⟨"TollLedger$Deposit", "<init>", "()V"⟩) ∈ BIG := bgA (inT3 119 rfl) rfl
theorem wd_3_120 : (Jvm.Cond.code ⟨"TollLedger$Deposit", "<init>", "()V"⟩ prog_4_method_1_code 1 (Option.none : Option Jvm.ClassFile.FieldType)) ∈ BIG := bgA (inT3 120 rfl) rfl
theorem wd_3_121 : (Jvm.Cond.methodLink "TollLedger$Deposit" 1 ⟨"java/lang/Object", "<init>", "()V"⟩) ∈ BIG := bgA (inT3 121 rfl) rfl
theorem wd_3_122 : (Jvm.Cond.fieldLink "TollLedger$Deposit" 7 "TollLedger$Deposit" "id" "I") ∈ BIG := bgA (inT3 122 rfl) rfl
theorem wd_3_123 : (Jvm.Cond.fieldLink "TollLedger$State" 108 "TollLedger$Deposit" "id" "I") ∈ BIG := bgA (inT3 123 rfl) rfl
theorem wd_3_124 : (Jvm.Cond.fieldLink "TollLedger$Deposit" 13 "TollLedger$Deposit" "from" "I") ∈ BIG := bgA (inT3 124 rfl) rfl
theorem wd_3_125 : (Jvm.Cond.fieldLink "TollLedger$State" 63 "TollLedger$Deposit" "from" "I") ∈ BIG := bgA (inT3 125 rfl) rfl
theorem wd_3_126 : (Jvm.Cond.fieldLink "TollLedger" 206 "TollLedger$Deposit" "from" "I") ∈ BIG := bgA (inT3 126 rfl) rfl
theorem wd_3_127 : (Jvm.Cond.fieldLink "TollLedger$Deposit" 16 "TollLedger$Deposit" "to" "I") ∈ BIG := bgA (inT3 127 rfl) rfl
theorem wd_3_128 : (Jvm.Cond.fieldLink "TollLedger" 203 "TollLedger$Deposit" "to" "I") ∈ BIG := bgA (inT3 128 rfl) rfl
theorem wd_3_129 : (Jvm.Cond.fieldLink "TollLedger$State" 133 "TollLedger$Deposit" "to" "I") ∈ BIG := bgA (inT3 129 rfl) rfl
theorem wd_3_130 : (Jvm.Cond.fieldLink "TollLedger$Deposit" 19 "TollLedger$Deposit" "coins" "I") ∈ BIG := bgA (inT3 130 rfl) rfl
theorem wd_3_131 : (Jvm.Cond.fieldLink "TollLedger" 209 "TollLedger$Deposit" "coins" "I") ∈ BIG := bgA (inT3 131 rfl) rfl
theorem wd_3_132 : (Jvm.Cond.fieldLink "TollLedger$State" 136 "TollLedger$Deposit" "coins" "I") ∈ BIG := bgA (inT3 132 rfl) rfl
theorem wd_3_133 : (Jvm.Cond.fieldLink "TollLedger$Deposit" 22 "TollLedger$Deposit" "after" "I") ∈ BIG := bgA (inT3 133 rfl) rfl
theorem wd_3_134 : (Jvm.Cond.fieldLink "TollLedger" 197 "TollLedger$Deposit" "after" "I") ∈ BIG := bgA (inT3 134 rfl) rfl
theorem wd_3_135 : (Jvm.Cond.fieldLink "TollLedger$State" 137 "TollLedger$Deposit" "after" "I") ∈ BIG := bgA (inT3 135 rfl) rfl
theorem wd_3_136 : (Jvm.Cond.fieldLink "TollLedger$Deposit" 25 "TollLedger$Deposit" "until" "I") ∈ BIG := bgA (inT3 136 rfl) rfl
theorem wd_3_137 : (Jvm.Cond.fieldLink "TollLedger" 200 "TollLedger$Deposit" "until" "I") ∈ BIG := bgA (inT3 137 rfl) rfl
theorem wd_3_138 : (Jvm.Cond.fieldLink "TollLedger$State" 140 "TollLedger$Deposit" "until" "I") ∈ BIG := bgA (inT3 138 rfl) rfl
theorem wd_3_152 : (Jvm.Cond.methodLink "TollLedgerLaw" 57 ⟨"TollLedger", "settle", "(I)I"⟩) ∈ BIG := bgA (inT3 152 rfl) rfl
theorem wd_3_153 : (Jvm.Cond.instanceMethod ⟨"TollLedger", "settle", "(I)I"⟩) ∈ BIG := bgA (inT3 153 rfl) rfl
theorem wd_3_154 : (Jvm.Cond.selects "TollLedger" ⟨"TollLedger", "settle", "(I)I"⟩ ⟨"TollLedger", "settle", "(I)I"⟩) ∈ BIG := bgA (inT3 154 rfl) rfl
theorem wd_3_155 : (Jvm.Cond.code ⟨"TollLedger", "settle", "(I)I"⟩ prog_1_method_11_code 5 (Option.some Jvm.ClassFile.FieldType.int)) ∈ BIG := bgA (inT3 155 rfl) rfl
theorem wd_3_156 : (Jvm.Cond.methodLink "TollLedger" 189 ⟨"TollLedger$State", "placeOfDeposit", "(I)I"⟩) ∈ BIG := bgA (inT3 156 rfl) rfl
theorem wd_3_157 : (Jvm.Cond.instanceMethod ⟨"TollLedger$State", "placeOfDeposit", "(I)I"⟩) ∈ BIG := bgA (inT3 157 rfl) rfl
theorem wd_3_158 : (Jvm.Cond.selects "TollLedger$State" ⟨"TollLedger$State", "placeOfDeposit", "(I)I"⟩ ⟨"TollLedger$State", "placeOfDeposit", "(I)I"⟩) ∈ BIG := bgA (inT3 158 rfl) rfl
theorem wd_3_159 : (Jvm.Cond.code ⟨"TollLedger$State", "placeOfDeposit", "(I)I"⟩ prog_8_method_11_code 3 (Option.some Jvm.ClassFile.FieldType.int)) ∈ BIG := bgA (inT3 159 rfl) rfl
theorem wd_3_160 : (Jvm.Cond.classLink "TollLedger" 192 "TollLedger$Deposit") ∈ BIG := bgA (inT3 160 rfl) rfl
theorem wd_3_161 : (Jvm.Cond.methodLink "TollLedgerLaw" 61 ⟨"TollLedger", "tick", "(I)I"⟩) ∈ BIG := bgA (inT3 161 rfl) rfl
theorem wd_3_162 : (Jvm.Cond.instanceMethod ⟨"TollLedger", "tick", "(I)I"⟩) ∈ BIG := bgA (inT3 162 rfl) rfl
theorem wd_3_163 : (Jvm.Cond.selects "TollLedger" ⟨"TollLedger", "tick", "(I)I"⟩ ⟨"TollLedger", "tick", "(I)I"⟩) ∈ BIG := bgA (inT3 163 rfl) rfl
theorem wd_3_164 : (Jvm.Cond.code ⟨"TollLedger", "tick", "(I)I"⟩ prog_1_method_12_code 2 (Option.some Jvm.ClassFile.FieldType.int)) ∈ BIG := bgA (inT3 164 rfl) rfl
theorem wd_3_165 : (Jvm.Cond.methodLink "TollLedgerLaw" 65 ⟨"TollLedger", "account", "(II)I"⟩) ∈ BIG := bgA (inT3 165 rfl) rfl
theorem wd_3_166 : (Jvm.Cond.instanceMethod ⟨"TollLedger", "account", "(II)I"⟩) ∈ BIG := bgA (inT3 166 rfl) rfl
theorem wd_3_167 : (Jvm.Cond.selects "TollLedger" ⟨"TollLedger", "account", "(II)I"⟩ ⟨"TollLedger", "account", "(II)I"⟩) ∈ BIG := bgA (inT3 167 rfl) rfl
theorem wd_3_168 : (Jvm.Cond.code ⟨"TollLedger", "account", "(II)I"⟩ prog_1_method_13_code 3 (Option.some Jvm.ClassFile.FieldType.int)) ∈ BIG := bgA (inT3 168 rfl) rfl
theorem wd_3_169 : (Jvm.Cond.methodLink "TollLedger" 216 ⟨"TollLedger$State", "piecesOf", "(I)I"⟩) ∈ BIG := bgA (inT3 169 rfl) rfl
theorem wd_3_170 : (Jvm.Cond.methodLink "TollLedgerLaw" 69 ⟨"TollLedger", "balance", "(III)I"⟩) ∈ BIG := bgA (inT3 170 rfl) rfl
theorem wd_3_171 : (Jvm.Cond.instanceMethod ⟨"TollLedger", "balance", "(III)I"⟩) ∈ BIG := bgA (inT3 171 rfl) rfl
theorem wd_3_172 : (Jvm.Cond.selects "TollLedger" ⟨"TollLedger", "balance", "(III)I"⟩ ⟨"TollLedger", "balance", "(III)I"⟩) ∈ BIG := bgA (inT3 172 rfl) rfl
theorem wd_3_173 : (Jvm.Cond.code ⟨"TollLedger", "balance", "(III)I"⟩ prog_1_method_14_code 4 (Option.some Jvm.ClassFile.FieldType.int)) ∈ BIG := bgA (inT3 173 rfl) rfl
theorem wd_3_174 : (Jvm.Cond.methodLink "TollLedger" 219 ⟨"TollLedger", "isLine", "(III)Z"⟩) ∈ BIG := bgA (inT3 174 rfl) rfl
theorem wd_3_175 : (Jvm.Cond.static ⟨"TollLedger", "isLine", "(III)Z"⟩) ∈ BIG := bgA (inT3 175 rfl) rfl
theorem wd_3_176 : (Jvm.Cond.code ⟨"TollLedger", "isLine", "(III)Z"⟩ prog_1_method_32_code 3 (Option.some Jvm.ClassFile.FieldType.boolean)) ∈ BIG := bgA (inT3 176 rfl) rfl
theorem wd_3_177 : (Jvm.Cond.methodLink "TollLedgerLaw" 73 ⟨"TollLedger", "limit", "(III)I"⟩) ∈ BIG := bgA (inT3 177 rfl) rfl
theorem wd_3_178 : (Jvm.Cond.instanceMethod ⟨"TollLedger", "limit", "(III)I"⟩) ∈ BIG := bgA (inT3 178 rfl) rfl
theorem wd_3_179 : (Jvm.Cond.selects "TollLedger" ⟨"TollLedger", "limit", "(III)I"⟩ ⟨"TollLedger", "limit", "(III)I"⟩) ∈ BIG := bgA (inT3 179 rfl) rfl
theorem wd_3_180 : (Jvm.Cond.code ⟨"TollLedger", "limit", "(III)I"⟩ prog_1_method_15_code 5 (Option.some Jvm.ClassFile.FieldType.int)) ∈ BIG := bgA (inT3 180 rfl) rfl
theorem wd_3_181 : (Jvm.Cond.methodLink "TollLedgerLaw" 77 ⟨"TollLedger", "funds", "(II)I"⟩) ∈ BIG := bgA (inT3 181 rfl) rfl
theorem wd_3_182 : (Jvm.Cond.instanceMethod ⟨"TollLedger", "funds", "(II)I"⟩) ∈ BIG := bgA (inT3 182 rfl) rfl
theorem wd_3_183 : (Jvm.Cond.selects "TollLedger" ⟨"TollLedger", "funds", "(II)I"⟩ ⟨"TollLedger", "funds", "(II)I"⟩) ∈ BIG := bgA (inT3 183 rfl) rfl
theorem wd_3_184 : (Jvm.Cond.code ⟨"TollLedger", "funds", "(II)I"⟩ prog_1_method_16_code 3 (Option.some Jvm.ClassFile.FieldType.int)) ∈ BIG := bgA (inT3 184 rfl) rfl
theorem wd_3_185 : (Jvm.Cond.methodLink "TollLedgerLaw" 81 ⟨"TollLedger", "book", "(III)I"⟩) ∈ BIG := bgA (inT3 185 rfl) rfl
theorem wd_3_186 : (Jvm.Cond.instanceMethod ⟨"TollLedger", "book", "(III)I"⟩) ∈ BIG := bgA (inT3 186 rfl) rfl
theorem wd_3_187 : (Jvm.Cond.selects "TollLedger" ⟨"TollLedger", "book", "(III)I"⟩ ⟨"TollLedger", "book", "(III)I"⟩) ∈ BIG := bgA (inT3 187 rfl) rfl
theorem wd_3_188 : (Jvm.Cond.code ⟨"TollLedger", "book", "(III)I"⟩ prog_1_method_17_code 4 (Option.some Jvm.ClassFile.FieldType.int)) ∈ BIG := bgA (inT3 188 rfl) rfl
theorem wd_3_189 : (Jvm.Cond.methodLink "TollLedger" 229 ⟨"TollLedger$Book", "gather", "(Ljava/util/ArrayList;III)V"⟩) ∈ BIG := bgA (inT3 189 rfl) rfl
theorem wd_3_190 : (Jvm.Cond.methodLink "TollLedgerLaw" 85 ⟨"TollLedger", "offerOf", "(II)I"⟩) ∈ BIG := bgA (inT3 190 rfl) rfl
theorem wd_3_191 : (Jvm.Cond.instanceMethod ⟨"TollLedger", "offerOf", "(II)I"⟩) ∈ BIG := bgA (inT3 191 rfl) rfl
theorem wd_3_192 : (Jvm.Cond.selects "TollLedger" ⟨"TollLedger", "offerOf", "(II)I"⟩ ⟨"TollLedger", "offerOf", "(II)I"⟩) ∈ BIG := bgA (inT3 192 rfl) rfl
theorem wd_3_193 : (Jvm.Cond.code ⟨"TollLedger", "offerOf", "(II)I"⟩ prog_1_method_18_code 5 (Option.some Jvm.ClassFile.FieldType.int)) ∈ BIG := bgA (inT3 193 rfl) rfl
theorem wd_3_194 : (Jvm.Cond.methodLink "TollLedgerLaw" 89 ⟨"TollLedger", "depositOf", "(I)I"⟩) ∈ BIG := bgA (inT3 194 rfl) rfl
theorem wd_3_195 : (Jvm.Cond.instanceMethod ⟨"TollLedger", "depositOf", "(I)I"⟩) ∈ BIG := bgA (inT3 195 rfl) rfl
theorem wd_3_196 : (Jvm.Cond.selects "TollLedger" ⟨"TollLedger", "depositOf", "(I)I"⟩ ⟨"TollLedger", "depositOf", "(I)I"⟩) ∈ BIG := bgA (inT3 196 rfl) rfl
theorem wd_3_197 : (Jvm.Cond.code ⟨"TollLedger", "depositOf", "(I)I"⟩ prog_1_method_19_code 3 (Option.some Jvm.ClassFile.FieldType.int)) ∈ BIG := bgA (inT3 197 rfl) rfl
theorem wd_3_198 : (Jvm.Cond.methodLink "TollLedgerLaw" 93 ⟨"TollLedger", "burnt", "()I"⟩) ∈ BIG := bgA (inT3 198 rfl) rfl
theorem wd_3_199 : (Jvm.Cond.instanceMethod ⟨"TollLedger", "burnt", "()I"⟩) ∈ BIG := bgA (inT3 199 rfl) rfl
theorem wd_3_200 : (Jvm.Cond.selects "TollLedger" ⟨"TollLedger", "burnt", "()I"⟩ ⟨"TollLedger", "burnt", "()I"⟩) ∈ BIG := bgA (inT3 200 rfl) rfl
theorem wd_3_201 : (Jvm.Cond.code ⟨"TollLedger", "burnt", "()I"⟩ prog_1_method_20_code 1 (Option.some Jvm.ClassFile.FieldType.int)) ∈ BIG := bgA (inT3 201 rfl) rfl
theorem wd_3_202 : (Jvm.Cond.methodLink "TollLedgerLaw" 98 ⟨"TollLedger", "root", "()I"⟩) ∈ BIG := bgA (inT3 202 rfl) rfl
theorem wd_3_203 : (Jvm.Cond.instanceMethod ⟨"TollLedger", "root", "()I"⟩) ∈ BIG := bgA (inT3 203 rfl) rfl
theorem wd_3_204 : (Jvm.Cond.selects "TollLedger" ⟨"TollLedger", "root", "()I"⟩ ⟨"TollLedger", "root", "()I"⟩) ∈ BIG := bgA (inT3 204 rfl) rfl
theorem wd_3_205 : (Jvm.Cond.code ⟨"TollLedger", "root", "()I"⟩ prog_1_method_21_code 1 (Option.some Jvm.ClassFile.FieldType.int)) ∈ BIG := bgA (inT3 205 rfl) rfl
theorem wd_3_206 : (Jvm.Cond.methodLink "TollLedger" 253 ⟨"TollLedger$Leaves", "fill", "(LTollLedger$State;)V"⟩) ∈ BIG := bgA (inT3 206 rfl) rfl
theorem wd_3_207 : (Jvm.Cond.instanceMethod ⟨"TollLedger$Leaves", "fill", "(LTollLedger$State;)V"⟩) ∈ BIG := bgA (inT3 207 rfl) rfl
theorem wd_3_208 : (Jvm.Cond.selects "TollLedger$Leaves" ⟨"TollLedger$Leaves", "fill", "(LTollLedger$State;)V"⟩ ⟨"TollLedger$Leaves", "fill", "(LTollLedger$State;)V"⟩) ∈ BIG := bgA (inT3 208 rfl) rfl
theorem wd_3_209 : (Jvm.Cond.code ⟨"TollLedger$Leaves", "fill", "(LTollLedger$State;)V"⟩ prog_5_method_2_code 3 (Option.none : Option Jvm.ClassFile.FieldType)) ∈ BIG := bgA (inT3 209 rfl) rfl
theorem wd_3_210 : (Jvm.Cond.methodLink "TollLedger$Leaves" 15 ⟨"java/util/Arrays", "fill", "([II)V"⟩) ∈ BIG := bgA (inT3 210 rfl) rfl
theorem wd_3_211 : (Jvm.Cond.static ⟨"java/util/Arrays", "fill", "([II)V"⟩) ∈ BIG := bgA (inT3 211 rfl) rfl
theorem wd_3_212 : (Jvm.Cond.code ⟨"java/util/Arrays", "fill", "([II)V"⟩ prog_20_method_103_code 4 (Option.none : Option Jvm.ClassFile.FieldType)) ∈ BIG := bgA (inT3 212 rfl) rfl
theorem wd_3_213 : (Jvm.Cond.methodLink "TollLedger$Leaves" 27 ⟨"TollLedger$Account", "leaf", "()I"⟩) ∈ BIG := bgA (inT3 213 rfl) rfl
theorem wd_3_214 : (Jvm.Cond.instanceMethod ⟨"TollLedger$Account", "leaf", "()I"⟩) ∈ BIG := bgA (inT3 214 rfl) rfl
theorem wd_3_215 : (Jvm.Cond.selects "TollLedger$Account" ⟨"TollLedger$Account", "leaf", "()I"⟩ ⟨"TollLedger$Account", "leaf", "()I"⟩) ∈ BIG := bgA (inT3 215 rfl) rfl
theorem wd_3_216 : (Jvm.Cond.code ⟨"TollLedger$Account", "leaf", "()I"⟩ prog_2_method_2_code 1 (Option.some Jvm.ClassFile.FieldType.int)) ∈ BIG := bgA (inT3 216 rfl) rfl
theorem wd_3_217 : (Jvm.Cond.constant "TollLedger$Account" 20 (300007 : Int32)) ∈ BIG := bgA (inT3 217 rfl) rfl
theorem wd_3_218 : (Jvm.Cond.methodLink "TollLedger$Leaves" 37 ⟨"TollLedger$Leaves", "fillLines", "(LTollLedger$Lines;)V"⟩) ∈ BIG := bgA (inT3 218 rfl) rfl
theorem wd_3_220 : (Jvm.Cond.instanceMethod ⟨"TollLedger$Leaves", "fillLines", "(LTollLedger$Lines;)V"⟩) ∈ BIG := bgA (inT3 220 rfl) rfl
theorem wd_3_221 : (Jvm.Cond.code ⟨"TollLedger$Leaves", "fillLines", "(LTollLedger$Lines;)V"⟩ prog_5_method_3_code 5 (Option.none : Option Jvm.ClassFile.FieldType)) ∈ BIG := bgA (inT3 221 rfl) rfl
theorem wd_3_222 : (Jvm.Cond.methodLink "TollLedger$Leaves" 63 ⟨"TollLedger$Lines", "leaf", "(III)I"⟩) ∈ BIG := bgA (inT3 222 rfl) rfl
theorem wd_3_223 : (Jvm.Cond.instanceMethod ⟨"TollLedger$Lines", "leaf", "(III)I"⟩) ∈ BIG := bgA (inT3 223 rfl) rfl
theorem wd_3_224 : (Jvm.Cond.selects "TollLedger$Lines" ⟨"TollLedger$Lines", "leaf", "(III)I"⟩ ⟨"TollLedger$Lines", "leaf", "(III)I"⟩) ∈ BIG := bgA (inT3 224 rfl) rfl
theorem wd_3_225 : (Jvm.Cond.code ⟨"TollLedger$Lines", "leaf", "(III)I"⟩ prog_6_method_7_code 6 (Option.some Jvm.ClassFile.FieldType.int)) ∈ BIG := bgA (inT3 225 rfl) rfl
theorem wd_3_226 : (Jvm.Cond.constant "TollLedger$Lines" 30 (1000003 : Int32)) ∈ BIG := bgA (inT3 226 rfl) rfl
theorem wd_3_227 : (Jvm.Cond.constant "TollLedger$Lines" 31 (2000003 : Int32)) ∈ BIG := bgA (inT3 227 rfl) rfl
theorem wd_3_228 : (Jvm.Cond.methodLink "TollLedger$Leaves" 45 ⟨"java/util/ArrayList", "size", "()I"⟩) ∈ BIG := bgA (inT3 228 rfl) rfl
theorem wd_3_229 : (Jvm.Cond.methodLink "TollLedger$Leaves" 50 ⟨"java/util/ArrayList", "get", "(I)Ljava/lang/Object;"⟩) ∈ BIG := bgA (inT3 229 rfl) rfl
theorem wd_3_230 : (Jvm.Cond.classLink "TollLedger$Leaves" 54 "TollLedger$Offer") ∈ BIG := bgA (inT3 230 rfl) rfl
theorem wd_3_231 : (Jvm.Cond.methodLink "TollLedger$Leaves" 56 ⟨"TollLedger$Offer", "leaf", "()I"⟩) ∈ BIG := bgA (inT3 231 rfl) rfl
theorem wd_3_232 : (Jvm.Cond.instanceMethod ⟨"TollLedger$Offer", "leaf", "()I"⟩) ∈ BIG := bgA (inT3 232 rfl) rfl
theorem wd_3_233 : (Jvm.Cond.selects "TollLedger$Offer" ⟨"TollLedger$Offer", "leaf", "()I"⟩ ⟨"TollLedger$Offer", "leaf", "()I"⟩) ∈ BIG := bgA (inT3 233 rfl) rfl
theorem wd_3_234 : (Jvm.Cond.code ⟨"TollLedger$Offer", "leaf", "()I"⟩ prog_7_method_5_code 1 (Option.some Jvm.ClassFile.FieldType.int)) ∈ BIG := bgA (inT3 234 rfl) rfl
theorem wd_3_235 : (Jvm.Cond.constant "TollLedger$Offer" 28 (100003 : Int32)) ∈ BIG := bgA (inT3 235 rfl) rfl
theorem wd_3_236 : (Jvm.Cond.classLink "TollLedger$Leaves" 60 "TollLedger$Deposit") ∈ BIG := bgA (inT3 236 rfl) rfl
theorem wd_3_237 : (Jvm.Cond.methodLink "TollLedger$Leaves" 62 ⟨"TollLedger$Deposit", "leaf", "()I"⟩) ∈ BIG := bgA (inT3 237 rfl) rfl
theorem wd_3_238 : (Jvm.Cond.instanceMethod ⟨"TollLedger$Deposit", "leaf", "()I"⟩) ∈ BIG := bgA (inT3 238 rfl) rfl
theorem wd_3_239 : (Jvm.Cond.selects "TollLedger$Deposit" ⟨"TollLedger$Deposit", "leaf", "()I"⟩ ⟨"TollLedger$Deposit", "leaf", "()I"⟩) ∈ BIG := bgA (inT3 239 rfl) rfl
theorem wd_4_0 : (Jvm.Cond.code ⟨"TollLedger$Deposit", "leaf", "()I"⟩ prog_4_method_2_code 1 (Option.some Jvm.ClassFile.FieldType.int)) ∈ BIG := bgA (inT4 0 rfl) rfl
theorem wd_4_1 : (Jvm.Cond.methodLink "TollLedger" 256 ⟨"TollLedger$Leaves", "fold", "()I"⟩) ∈ BIG := bgA (inT4 1 rfl) rfl
theorem wd_4_2 : (Jvm.Cond.instanceMethod ⟨"TollLedger$Leaves", "fold", "()I"⟩) ∈ BIG := bgA (inT4 2 rfl) rfl
theorem wd_4_3 : (Jvm.Cond.selects "TollLedger$Leaves" ⟨"TollLedger$Leaves", "fold", "()I"⟩ ⟨"TollLedger$Leaves", "fold", "()I"⟩) ∈ BIG := bgA (inT4 3 rfl) rfl
theorem wd_4_4 : (Jvm.Cond.code ⟨"TollLedger$Leaves", "fold", "()I"⟩ prog_5_method_4_code 3 (Option.some Jvm.ClassFile.FieldType.int)) ∈ BIG := bgA (inT4 4 rfl) rfl
theorem wd_4_5 : (Jvm.Cond.methodLink "TollLedger$Leaves" 68 ⟨"TollLedger$Leaves", "inner", "(I)I"⟩) ∈ BIG := bgA (inT4 5 rfl) rfl
theorem wd_4_7 : (Jvm.Cond.instanceMethod ⟨"TollLedger$Leaves", "inner", "(I)I"⟩) ∈ BIG := bgA (inT4 7 rfl) rfl
theorem wd_4_8 : (Jvm.Cond.code ⟨"TollLedger$Leaves", "inner", "(I)I"⟩ prog_5_method_5_code 4 (Option.some Jvm.ClassFile.FieldType.int)) ∈ BIG := bgA (inT4 8 rfl) rfl
theorem wd_4_9 : (Jvm.Cond.methodLink "TollLedger$Leaves" 72 ⟨"TollLedger$Leaves", "mix", "(II)I"⟩) ∈ BIG := bgA (inT4 9 rfl) rfl
theorem wd_4_10 : (Jvm.Cond.static ⟨"TollLedger$Leaves", "mix", "(II)I"⟩) ∈ BIG := bgA (inT4 10 rfl) rfl
theorem wd_4_11 : (Jvm.Cond.code ⟨"TollLedger$Leaves", "mix", "(II)I"⟩ prog_5_method_6_code 3 (Option.some Jvm.ClassFile.FieldType.int)) ∈ BIG := bgA (inT4 11 rfl) rfl
theorem wd_4_12 : (Jvm.Cond.classLink "TollLedgerLaw" 10 "TollLedgerModel") ∈ BIG := bgA (inT4 12 rfl) rfl
theorem wd_4_13 : (Jvm.Cond.instantiable "TollLedgerModel" 39) ∈ BIG := bgA (inT4 13 rfl) rfl
theorem wd_4_14 : (Jvm.Cond.methodLink "TollLedgerLaw" 12 ⟨"TollLedgerModel", "<init>", "()V"⟩) ∈ BIG := bgA (inT4 14 rfl) rfl
theorem wd_4_15 : (Jvm.Cond.instanceMethod ⟨"TollLedgerModel", "<init>", "()V"⟩) ∈ BIG := bgA (inT4 15 rfl) rfl
theorem wd_4_16 : (Jvm.Cond.code ⟨"TollLedgerModel", "<init>", "()V"⟩ prog_11_method_1_code 1 (Option.none : Option Jvm.ClassFile.FieldType)) ∈ BIG := bgA (inT4 16 rfl) rfl
theorem wd_4_17 : (Jvm.Cond.methodLink "TollLedgerModel" 1 ⟨"java/lang/Object", "<init>", "()V"⟩) ∈ BIG := bgA (inT4 17 rfl) rfl
theorem wd_4_18 : (Jvm.Cond.constant "TollLedgerModel" 72 (1000000 : Int32)) ∈ BIG := bgA (inT4 18 rfl) rfl
theorem wd_4_19 : (Jvm.Cond.fieldLink "TollLedgerModel" 7 "TollLedgerModel" "exists" "[Z") ∈ BIG := bgA (inT4 19 rfl) rfl
theorem wd_4_20 : (Jvm.Cond.fieldLink "TollLedgerModel" 13 "TollLedgerModel" "coins" "[I") ∈ BIG := bgA (inT4 20 rfl) rfl
theorem wd_4_21 : (Jvm.Cond.fieldLink "TollLedgerModel" 17 "TollLedgerModel" "numbers" "[I") ∈ BIG := bgA (inT4 21 rfl) rfl
theorem wd_4_22 : (Jvm.Cond.fieldLink "TollLedgerModel" 20 "TollLedgerModel" "rates" "[I") ∈ BIG := bgA (inT4 22 rfl) rfl
theorem wd_4_23 : (Jvm.Cond.fieldLink "TollLedgerModel" 23 "TollLedgerModel" "balances" "[I") ∈ BIG := bgA (inT4 23 rfl) rfl
theorem wd_4_24 : (Jvm.Cond.fieldLink "TollLedgerModel" 26 "TollLedgerModel" "limits" "[I") ∈ BIG := bgA (inT4 24 rfl) rfl
theorem wd_4_25 : (Jvm.Cond.fieldLink "TollLedgerModel" 29 "TollLedgerModel" "quiets" "[Z") ∈ BIG := bgA (inT4 25 rfl) rfl
theorem wd_4_26 : (Jvm.Cond.fieldLink "TollLedgerModel" 110 "TollLedgerModel" "offers" "I") ∈ BIG := bgA (inT4 26 rfl) rfl
theorem wd_4_27 : (Jvm.Cond.fieldLink "TollLedgerModel" 218 "TollLedgerModel" "lastOffer" "I") ∈ BIG := bgA (inT4 27 rfl) rfl
theorem wd_4_28 : (Jvm.Cond.fieldLink "TollLedgerModel" 32 "TollLedgerModel" "offerId" "[I") ∈ BIG := bgA (inT4 28 rfl) rfl
theorem wd_4_29 : (Jvm.Cond.fieldLink "TollLedgerModel" 35 "TollLedgerModel" "ownerOf" "[I") ∈ BIG := bgA (inT4 29 rfl) rfl
theorem wd_4_30 : (Jvm.Cond.fieldLink "TollLedgerModel" 38 "TollLedgerModel" "wantsOf" "[I") ∈ BIG := bgA (inT4 30 rfl) rfl
theorem wd_4_31 : (Jvm.Cond.fieldLink "TollLedgerModel" 41 "TollLedgerModel" "givesOf" "[I") ∈ BIG := bgA (inT4 31 rfl) rfl
theorem wd_4_32 : (Jvm.Cond.fieldLink "TollLedgerModel" 44 "TollLedgerModel" "wOf" "[I") ∈ BIG := bgA (inT4 32 rfl) rfl
theorem wd_4_33 : (Jvm.Cond.fieldLink "TollLedgerModel" 47 "TollLedgerModel" "gOf" "[I") ∈ BIG := bgA (inT4 33 rfl) rfl
theorem wd_4_34 : (Jvm.Cond.fieldLink "TollLedgerModel" 113 "TollLedgerModel" "deposits" "I") ∈ BIG := bgA (inT4 34 rfl) rfl
theorem wd_4_35 : (Jvm.Cond.fieldLink "TollLedgerModel" 224 "TollLedgerModel" "lastDeposit" "I") ∈ BIG := bgA (inT4 35 rfl) rfl
theorem wd_4_36 : (Jvm.Cond.fieldLink "TollLedgerModel" 50 "TollLedgerModel" "depositId" "[I") ∈ BIG := bgA (inT4 36 rfl) rfl
theorem wd_4_37 : (Jvm.Cond.fieldLink "TollLedgerModel" 53 "TollLedgerModel" "fromOf" "[I") ∈ BIG := bgA (inT4 37 rfl) rfl
theorem wd_4_38 : (Jvm.Cond.fieldLink "TollLedgerModel" 56 "TollLedgerModel" "toOf" "[I") ∈ BIG := bgA (inT4 38 rfl) rfl
theorem wd_4_39 : (Jvm.Cond.fieldLink "TollLedgerModel" 59 "TollLedgerModel" "heldOf" "[I") ∈ BIG := bgA (inT4 39 rfl) rfl
theorem wd_4_40 : (Jvm.Cond.fieldLink "TollLedgerModel" 62 "TollLedgerModel" "afterOf" "[I") ∈ BIG := bgA (inT4 40 rfl) rfl
theorem wd_4_41 : (Jvm.Cond.fieldLink "TollLedgerModel" 65 "TollLedgerModel" "untilOf" "[I") ∈ BIG := bgA (inT4 41 rfl) rfl
theorem wd_4_42 : (Jvm.Cond.fieldLink "TollLedgerModel" 68 "TollLedgerModel" "me" "I") ∈ BIG := bgA (inT4 42 rfl) rfl
theorem wd_4_43 : (Jvm.Cond.fieldLink "TollLedgerModel" 131 "TollLedgerModel" "myNumber" "I") ∈ BIG := bgA (inT4 43 rfl) rfl
theorem wd_4_44 : (Jvm.Cond.fieldLink "TollLedgerModel" 143 "TollLedgerModel" "spendAsset" "I") ∈ BIG := bgA (inT4 44 rfl) rfl
theorem wd_4_45 : (Jvm.Cond.fieldLink "TollLedgerModel" 73 "TollLedgerModel" "spendMost" "I") ∈ BIG := bgA (inT4 45 rfl) rfl
theorem wd_4_46 : (Jvm.Cond.fieldLink "TollLedgerModel" 146 "TollLedgerModel" "partly" "Z") ∈ BIG := bgA (inT4 46 rfl) rfl
theorem wd_4_47 : (Jvm.Cond.fieldLink "TollLedgerModel" 230 "TollLedgerModel" "clock" "I") ∈ BIG := bgA (inT4 47 rfl) rfl
theorem wd_4_48 : (Jvm.Cond.fieldLink "TollLedgerModel" 134 "TollLedgerModel" "burned" "I") ∈ BIG := bgA (inT4 48 rfl) rfl
theorem wd_4_49 : (Jvm.Cond.fieldLink "TollLedgerModel" 76 "TollLedgerModel" "taken" "[I") ∈ BIG := bgA (inT4 49 rfl) rfl
theorem wd_4_50 : (Jvm.Cond.fieldLink "TollLedgerModel" 79 "TollLedgerModel" "prices" "[I") ∈ BIG := bgA (inT4 50 rfl) rfl
theorem wd_4_51 : (Jvm.Cond.fieldLink "TollLedgerModel" 82 "TollLedgerModel" "seen" "[Z") ∈ BIG := bgA (inT4 51 rfl) rfl
theorem wd_4_52 : (Jvm.Cond.fieldLink "TollLedgerModel" 85 "TollLedgerModel" "gone" "[Z") ∈ BIG := bgA (inT4 52 rfl) rfl
theorem wd_4_53 : (Jvm.Cond.fieldLink "TollLedgerModel" 88 "TollLedgerModel" "spent" "[J") ∈ BIG := bgA (inT4 53 rfl) rfl
theorem wd_4_54 : (Jvm.Cond.fieldLink "TollLedgerModel" 177 "TollLedgerModel" "got" "I") ∈ BIG := bgA (inT4 54 rfl) rfl
theorem wd_4_55 : (Jvm.Cond.fieldLink "TollLedgerModel" 180 "TollLedgerModel" "priceSum" "J") ∈ BIG := bgA (inT4 55 rfl) rfl
theorem wd_4_56 : (Jvm.Cond.fieldLink "TollLedgerModel" 173 "TollLedgerModel" "costSum" "J") ∈ BIG := bgA (inT4 56 rfl) rfl
theorem wd_4_57 : (Jvm.Cond.fieldLink "TollLedgerModel" 92 "TollLedgerModel" "inner" "[I") ∈ BIG := bgA (inT4 57 rfl) rfl
theorem wd_4_137 : (Jvm.Cond.arrayClass Jvm.ClassFile.FieldType.long) ∈ BIG := bgA (inT4 137 rfl) rfl
theorem wd_4_138 : (Jvm.Cond.methodLink "TollLedgerLaw" 17 ⟨"TollLedgerModel", "by", "(II)Z"⟩) ∈ BIG := bgA (inT4 138 rfl) rfl
theorem wd_4_139 : (Jvm.Cond.instanceMethod ⟨"TollLedgerModel", "by", "(II)Z"⟩) ∈ BIG := bgA (inT4 139 rfl) rfl
theorem wd_4_140 : (Jvm.Cond.selects "TollLedgerModel" ⟨"TollLedgerModel", "by", "(II)Z"⟩ ⟨"TollLedgerModel", "by", "(II)Z"⟩) ∈ BIG := bgA (inT4 140 rfl) rfl
theorem wd_4_141 : (Jvm.Cond.code ⟨"TollLedgerModel", "by", "(II)Z"⟩ prog_11_method_15_code 3 (Option.some Jvm.ClassFile.FieldType.boolean)) ∈ BIG := bgA (inT4 141 rfl) rfl
theorem wd_4_142 : (Jvm.Cond.methodLink "TollLedgerModel" 137 ⟨"TollLedgerModel", "isAccount", "(I)Z"⟩) ∈ BIG := bgA (inT4 142 rfl) rfl
theorem wd_4_143 : (Jvm.Cond.static ⟨"TollLedgerModel", "isAccount", "(I)Z"⟩) ∈ BIG := bgA (inT4 143 rfl) rfl
theorem wd_4_144 : (Jvm.Cond.code ⟨"TollLedgerModel", "isAccount", "(I)Z"⟩ prog_11_method_2_code 1 (Option.some Jvm.ClassFile.FieldType.boolean)) ∈ BIG := bgA (inT4 144 rfl) rfl
theorem wd_4_145 : (Jvm.Cond.methodLink "TollLedgerLaw" 37 ⟨"TollLedgerModel", "spend", "(IIZ)Z"⟩) ∈ BIG := bgA (inT4 145 rfl) rfl
theorem wd_4_146 : (Jvm.Cond.instanceMethod ⟨"TollLedgerModel", "spend", "(IIZ)Z"⟩) ∈ BIG := bgA (inT4 146 rfl) rfl
theorem wd_4_147 : (Jvm.Cond.selects "TollLedgerModel" ⟨"TollLedgerModel", "spend", "(IIZ)Z"⟩ ⟨"TollLedgerModel", "spend", "(IIZ)Z"⟩) ∈ BIG := bgA (inT4 147 rfl) rfl
theorem wd_4_148 : (Jvm.Cond.code ⟨"TollLedgerModel", "spend", "(IIZ)Z"⟩ prog_11_method_16_code 4 (Option.some Jvm.ClassFile.FieldType.boolean)) ∈ BIG := bgA (inT4 148 rfl) rfl
theorem wd_4_149 : (Jvm.Cond.methodLink "TollLedgerModel" 140 ⟨"TollLedgerModel", "isAsset", "(I)Z"⟩) ∈ BIG := bgA (inT4 149 rfl) rfl
theorem wd_4_150 : (Jvm.Cond.static ⟨"TollLedgerModel", "isAsset", "(I)Z"⟩) ∈ BIG := bgA (inT4 150 rfl) rfl
theorem wd_4_151 : (Jvm.Cond.code ⟨"TollLedgerModel", "isAsset", "(I)Z"⟩ prog_11_method_3_code 1 (Option.some Jvm.ClassFile.FieldType.boolean)) ∈ BIG := bgA (inT4 151 rfl) rfl
theorem wd_4_152 : (Jvm.Cond.methodLink "TollLedgerLaw" 22 ⟨"TollLedgerModel", "send", "(II)I"⟩) ∈ BIG := bgA (inT4 152 rfl) rfl
theorem wd_4_153 : (Jvm.Cond.instanceMethod ⟨"TollLedgerModel", "send", "(II)I"⟩) ∈ BIG := bgA (inT4 153 rfl) rfl
theorem wd_4_154 : (Jvm.Cond.selects "TollLedgerModel" ⟨"TollLedgerModel", "send", "(II)I"⟩ ⟨"TollLedgerModel", "send", "(II)I"⟩) ∈ BIG := bgA (inT4 154 rfl) rfl
theorem wd_4_155 : (Jvm.Cond.code ⟨"TollLedgerModel", "send", "(II)I"⟩ prog_11_method_17_code 4 (Option.some Jvm.ClassFile.FieldType.int)) ∈ BIG := bgA (inT4 155 rfl) rfl
theorem wd_4_156 : (Jvm.Cond.methodLink "TollLedgerModel" 150 ⟨"TollLedgerModel", "begin", "(Z)I"⟩) ∈ BIG := bgA (inT4 156 rfl) rfl
theorem wd_4_158 : (Jvm.Cond.instanceMethod ⟨"TollLedgerModel", "begin", "(Z)I"⟩) ∈ BIG := bgA (inT4 158 rfl) rfl
theorem wd_4_159 : (Jvm.Cond.code ⟨"TollLedgerModel", "begin", "(Z)I"⟩ prog_11_method_14_code 2 (Option.some Jvm.ClassFile.FieldType.int)) ∈ BIG := bgA (inT4 159 rfl) rfl
theorem wd_4_160 : (Jvm.Cond.methodLink "TollLedgerModel" 154 ⟨"TollLedgerModel", "fundsIn", "(II)I"⟩) ∈ BIG := bgA (inT4 160 rfl) rfl
theorem wd_4_162 : (Jvm.Cond.instanceMethod ⟨"TollLedgerModel", "fundsIn", "(II)I"⟩) ∈ BIG := bgA (inT4 162 rfl) rfl
theorem wd_4_163 : (Jvm.Cond.code ⟨"TollLedgerModel", "fundsIn", "(II)I"⟩ prog_11_method_11_code 4 (Option.some Jvm.ClassFile.FieldType.int)) ∈ BIG := bgA (inT4 163 rfl) rfl
theorem wd_4_164 : (Jvm.Cond.methodLink "TollLedgerModel" 95 ⟨"TollLedgerModel", "issuerOf", "(I)I"⟩) ∈ BIG := bgA (inT4 164 rfl) rfl
theorem wd_4_165 : (Jvm.Cond.static ⟨"TollLedgerModel", "issuerOf", "(I)I"⟩) ∈ BIG := bgA (inT4 165 rfl) rfl
theorem wd_4_166 : (Jvm.Cond.code ⟨"TollLedgerModel", "issuerOf", "(I)I"⟩ prog_11_method_6_code 1 (Option.some Jvm.ClassFile.FieldType.int)) ∈ BIG := bgA (inT4 166 rfl) rfl
theorem wd_4_167 : (Jvm.Cond.constant "TollLedgerModel" 119 (1000000000 : Int32)) ∈ BIG := bgA (inT4 167 rfl) rfl
theorem wd_4_168 : (Jvm.Cond.methodLink "TollLedgerModel" 120 ⟨"TollLedgerModel", "reserve", "(I)I"⟩) ∈ BIG := bgA (inT4 168 rfl) rfl
theorem wd_4_170 : (Jvm.Cond.instanceMethod ⟨"TollLedgerModel", "reserve", "(I)I"⟩) ∈ BIG := bgA (inT4 170 rfl) rfl
theorem wd_4_171 : (Jvm.Cond.code ⟨"TollLedgerModel", "reserve", "(I)I"⟩ prog_11_method_10_code 2 (Option.some Jvm.ClassFile.FieldType.int)) ∈ BIG := bgA (inT4 171 rfl) rfl
theorem wd_4_172 : (Jvm.Cond.methodLink "TollLedgerModel" 116 ⟨"TollLedgerModel", "pieces", "(I)I"⟩) ∈ BIG := bgA (inT4 172 rfl) rfl
theorem wd_4_174 : (Jvm.Cond.instanceMethod ⟨"TollLedgerModel", "pieces", "(I)I"⟩) ∈ BIG := bgA (inT4 174 rfl) rfl
theorem wd_4_175 : (Jvm.Cond.code ⟨"TollLedgerModel", "pieces", "(I)I"⟩ prog_11_method_9_code 4 (Option.some Jvm.ClassFile.FieldType.int)) ∈ BIG := bgA (inT4 175 rfl) rfl
theorem wd_4_176 : (Jvm.Cond.methodLink "TollLedgerModel" 106 ⟨"TollLedgerModel", "owns", "(I)Z"⟩) ∈ BIG := bgA (inT4 176 rfl) rfl
theorem wd_4_178 : (Jvm.Cond.instanceMethod ⟨"TollLedgerModel", "owns", "(I)Z"⟩) ∈ BIG := bgA (inT4 178 rfl) rfl
theorem wd_4_179 : (Jvm.Cond.code ⟨"TollLedgerModel", "owns", "(I)Z"⟩ prog_11_method_8_code 2 (Option.some Jvm.ClassFile.FieldType.boolean)) ∈ BIG := bgA (inT4 179 rfl) rfl
theorem wd_4_180 : (Jvm.Cond.methodLink "TollLedgerModel" 123 ⟨"TollLedgerModel", "holding", "(II)I"⟩) ∈ BIG := bgA (inT4 180 rfl) rfl
theorem wd_4_181 : (Jvm.Cond.static ⟨"TollLedgerModel", "holding", "(II)I"⟩) ∈ BIG := bgA (inT4 181 rfl) rfl
theorem wd_4_182 : (Jvm.Cond.code ⟨"TollLedgerModel", "holding", "(II)I"⟩ prog_11_method_7_code 4 (Option.some Jvm.ClassFile.FieldType.int)) ∈ BIG := bgA (inT4 182 rfl) rfl
theorem wd_4_183 : (Jvm.Cond.methodLink "TollLedgerModel" 99 ⟨"TollLedgerModel", "currencyOf", "(I)I"⟩) ∈ BIG := bgA (inT4 183 rfl) rfl
theorem wd_4_184 : (Jvm.Cond.static ⟨"TollLedgerModel", "currencyOf", "(I)I"⟩) ∈ BIG := bgA (inT4 184 rfl) rfl
theorem wd_4_185 : (Jvm.Cond.code ⟨"TollLedgerModel", "currencyOf", "(I)I"⟩ prog_11_method_5_code 1 (Option.some Jvm.ClassFile.FieldType.int)) ∈ BIG := bgA (inT4 185 rfl) rfl
theorem wd_4_186 : (Jvm.Cond.methodLink "TollLedgerModel" 102 ⟨"TollLedgerModel", "line", "(III)I"⟩) ∈ BIG := bgA (inT4 186 rfl) rfl
theorem wd_4_187 : (Jvm.Cond.static ⟨"TollLedgerModel", "line", "(III)I"⟩) ∈ BIG := bgA (inT4 187 rfl) rfl
theorem wd_4_188 : (Jvm.Cond.code ⟨"TollLedgerModel", "line", "(III)I"⟩ prog_11_method_4_code 3 (Option.some Jvm.ClassFile.FieldType.int)) ∈ BIG := bgA (inT4 188 rfl) rfl
theorem wd_4_189 : (Jvm.Cond.methodLink "TollLedgerLaw" 27 ⟨"TollLedgerModel", "trust", "(IIIZ)I"⟩) ∈ BIG := bgA (inT4 189 rfl) rfl
theorem wd_4_190 : (Jvm.Cond.instanceMethod ⟨"TollLedgerModel", "trust", "(IIIZ)I"⟩) ∈ BIG := bgA (inT4 190 rfl) rfl
theorem wd_4_191 : (Jvm.Cond.selects "TollLedgerModel" ⟨"TollLedgerModel", "trust", "(IIIZ)I"⟩ ⟨"TollLedgerModel", "trust", "(IIIZ)I"⟩) ∈ BIG := bgA (inT4 191 rfl) rfl
theorem wd_4_192 : (Jvm.Cond.code ⟨"TollLedgerModel", "trust", "(IIIZ)I"⟩ prog_11_method_18_code 9 (Option.some Jvm.ClassFile.FieldType.int)) ∈ BIG := bgA (inT4 192 rfl) rfl
theorem wd_4_193 : (Jvm.Cond.constant "TollLedgerModel" 157 (100000 : Int32)) ∈ BIG := bgA (inT4 193 rfl) rfl
theorem wd_4_194 : (Jvm.Cond.methodLink "TollLedgerLaw" 32 ⟨"TollLedgerModel", "rate", "(I)I"⟩) ∈ BIG := bgA (inT4 194 rfl) rfl
theorem wd_4_195 : (Jvm.Cond.instanceMethod ⟨"TollLedgerModel", "rate", "(I)I"⟩) ∈ BIG := bgA (inT4 195 rfl) rfl
theorem wd_4_196 : (Jvm.Cond.selects "TollLedgerModel" ⟨"TollLedgerModel", "rate", "(I)I"⟩ ⟨"TollLedgerModel", "rate", "(I)I"⟩) ∈ BIG := bgA (inT4 196 rfl) rfl
theorem wd_4_197 : (Jvm.Cond.code ⟨"TollLedgerModel", "rate", "(I)I"⟩ prog_11_method_19_code 3 (Option.some Jvm.ClassFile.FieldType.int)) ∈ BIG := bgA (inT4 197 rfl) rfl
theorem wd_4_198 : (Jvm.Cond.methodLink "TollLedgerLaw" 42 ⟨"TollLedgerModel", "pay", "(III)I"⟩) ∈ BIG := bgA (inT4 198 rfl) rfl
theorem wd_4_199 : (Jvm.Cond.instanceMethod ⟨"TollLedgerModel", "pay", "(III)I"⟩) ∈ BIG := bgA (inT4 199 rfl) rfl
theorem wd_4_200 : (Jvm.Cond.selects "TollLedgerModel" ⟨"TollLedgerModel", "pay", "(III)I"⟩ ⟨"TollLedgerModel", "pay", "(III)I"⟩) ∈ BIG := bgA (inT4 200 rfl) rfl
theorem wd_4_201 : (Jvm.Cond.code ⟨"TollLedgerModel", "pay", "(III)I"⟩ prog_11_method_30_code 9 (Option.some Jvm.ClassFile.FieldType.int)) ∈ BIG := bgA (inT4 201 rfl) rfl
theorem wd_4_202 : (Jvm.Cond.methodLink "TollLedgerModel" 208 ⟨"TollLedgerModel", "spending", "(III)J"⟩) ∈ BIG := bgA (inT4 202 rfl) rfl
theorem wd_4_204 : (Jvm.Cond.instanceMethod ⟨"TollLedgerModel", "spending", "(III)J"⟩) ∈ BIG := bgA (inT4 204 rfl) rfl
theorem wd_4_205 : (Jvm.Cond.code ⟨"TollLedgerModel", "spending", "(III)J"⟩ prog_11_method_29_code 10 (Option.some Jvm.ClassFile.FieldType.long)) ∈ BIG := bgA (inT4 205 rfl) rfl
theorem wd_4_206 : (Jvm.Cond.constantLong "TollLedgerModel" 202 (-1 : Int64)) ∈ BIG := bgA (inT4 206 rfl) rfl
theorem wd_4_207 : (Jvm.Cond.methodLink "TollLedgerModel" 166 ⟨"TollLedgerModel", "costOf", "(JIII)J"⟩) ∈ BIG := bgA (inT4 207 rfl) rfl
theorem wd_4_209 : (Jvm.Cond.instanceMethod ⟨"TollLedgerModel", "costOf", "(JIII)J"⟩) ∈ BIG := bgA (inT4 209 rfl) rfl
theorem wd_4_210 : (Jvm.Cond.code ⟨"TollLedgerModel", "costOf", "(JIII)J"⟩ prog_11_method_12_code 6 (Option.some Jvm.ClassFile.FieldType.long)) ∈ BIG := bgA (inT4 210 rfl) rfl
theorem wd_4_211 : (Jvm.Cond.constantLong "TollLedgerModel" 127 (999 : Int64)) ∈ BIG := bgA (inT4 211 rfl) rfl
theorem wd_4_212 : (Jvm.Cond.constantLong "TollLedgerModel" 129 (1000 : Int64)) ∈ BIG := bgA (inT4 212 rfl) rfl
theorem wd_4_213 : (Jvm.Cond.methodLink "TollLedgerModel" 204 ⟨"TollLedgerModel", "take", "(IIIJJJ)V"⟩) ∈ BIG := bgA (inT4 213 rfl) rfl
theorem wd_4_215 : (Jvm.Cond.instanceMethod ⟨"TollLedgerModel", "take", "(IIIJJJ)V"⟩) ∈ BIG := bgA (inT4 215 rfl) rfl
theorem wd_4_216 : (Jvm.Cond.code ⟨"TollLedgerModel", "take", "(IIIJJJ)V"⟩ prog_11_method_25_code 16 (Option.none : Option Jvm.ClassFile.FieldType)) ∈ BIG := bgA (inT4 216 rfl) rfl
theorem wd_4_217 : (Jvm.Cond.methodLink "TollLedgerModel" 183 ⟨"TollLedgerModel", "nextOf", "(III)I"⟩) ∈ BIG := bgA (inT4 217 rfl) rfl
theorem wd_4_219 : (Jvm.Cond.instanceMethod ⟨"TollLedgerModel", "nextOf", "(III)I"⟩) ∈ BIG := bgA (inT4 219 rfl) rfl
theorem wd_4_220 : (Jvm.Cond.code ⟨"TollLedgerModel", "nextOf", "(III)I"⟩ prog_11_method_22_code 7 (Option.some Jvm.ClassFile.FieldType.int)) ∈ BIG := bgA (inT4 220 rfl) rfl
theorem wd_4_221 : (Jvm.Cond.methodLink "TollLedgerModel" 158 ⟨"TollLedgerModel", "inBook", "(III)Z"⟩) ∈ BIG := bgA (inT4 221 rfl) rfl
theorem wd_4_223 : (Jvm.Cond.instanceMethod ⟨"TollLedgerModel", "inBook", "(III)Z"⟩) ∈ BIG := bgA (inT4 223 rfl) rfl
theorem wd_4_224 : (Jvm.Cond.code ⟨"TollLedgerModel", "inBook", "(III)Z"⟩ prog_11_method_20_code 4 (Option.some Jvm.ClassFile.FieldType.boolean)) ∈ BIG := bgA (inT4 224 rfl) rfl
theorem wd_4_225 : (Jvm.Cond.methodLink "TollLedgerModel" 162 ⟨"TollLedgerModel", "ahead", "(II)Z"⟩) ∈ BIG := bgA (inT4 225 rfl) rfl
theorem wd_4_227 : (Jvm.Cond.instanceMethod ⟨"TollLedgerModel", "ahead", "(II)Z"⟩) ∈ BIG := bgA (inT4 227 rfl) rfl
theorem wd_4_228 : (Jvm.Cond.code ⟨"TollLedgerModel", "ahead", "(II)Z"⟩ prog_11_method_21_code 7 (Option.some Jvm.ClassFile.FieldType.boolean)) ∈ BIG := bgA (inT4 228 rfl) rfl
theorem wd_4_229 : (Jvm.Cond.methodLink "TollLedgerModel" 186 ⟨"TollLedgerModel", "canTake", "(IIIIJJ)Z"⟩) ∈ BIG := bgA (inT4 229 rfl) rfl
theorem wd_4_231 : (Jvm.Cond.instanceMethod ⟨"TollLedgerModel", "canTake", "(IIIIJJ)Z"⟩) ∈ BIG := bgA (inT4 231 rfl) rfl
theorem wd_4_232 : (Jvm.Cond.code ⟨"TollLedgerModel", "canTake", "(IIIIJJ)Z"⟩ prog_11_method_24_code 11 (Option.some Jvm.ClassFile.FieldType.boolean)) ∈ BIG := bgA (inT4 232 rfl) rfl
theorem wd_4_233 : (Jvm.Cond.methodLink "TollLedgerModel" 170 ⟨"TollLedgerModel", "priceOf", "(II)I"⟩) ∈ BIG := bgA (inT4 233 rfl) rfl
theorem wd_4_235 : (Jvm.Cond.instanceMethod ⟨"TollLedgerModel", "priceOf", "(II)I"⟩) ∈ BIG := bgA (inT4 235 rfl) rfl
theorem wd_4_236 : (Jvm.Cond.code ⟨"TollLedgerModel", "priceOf", "(II)I"⟩ prog_11_method_23_code 3 (Option.some Jvm.ClassFile.FieldType.int)) ∈ BIG := bgA (inT4 236 rfl) rfl
theorem wd_4_237 : (Jvm.Cond.methodLink "TollLedgerModel" 190 ⟨"TollLedgerModel", "note", "(IIII)V"⟩) ∈ BIG := bgA (inT4 237 rfl) rfl
theorem wd_4_239 : (Jvm.Cond.instanceMethod ⟨"TollLedgerModel", "note", "(IIII)V"⟩) ∈ BIG := bgA (inT4 239 rfl) rfl
theorem wd_5_0 : (Jvm.Cond.code ⟨"TollLedgerModel", "note", "(IIII)V"⟩ prog_11_method_26_code 6 (Option.none : Option Jvm.ClassFile.FieldType)) ∈ BIG := bgA (inT5 0 rfl) rfl
theorem wd_5_1 : (Jvm.Cond.methodLink "TollLedgerModel" 212 ⟨"TollLedgerModel", "carryOut", "(II)V"⟩) ∈ BIG := bgA (inT5 1 rfl) rfl
theorem wd_5_3 : (Jvm.Cond.instanceMethod ⟨"TollLedgerModel", "carryOut", "(II)V"⟩) ∈ BIG := bgA (inT5 3 rfl) rfl
theorem wd_5_4 : (Jvm.Cond.code ⟨"TollLedgerModel", "carryOut", "(II)V"⟩ prog_11_method_27_code 7 (Option.none : Option Jvm.ClassFile.FieldType)) ∈ BIG := bgA (inT5 4 rfl) rfl
theorem wd_5_5 : (Jvm.Cond.methodLink "TollLedgerModel" 194 ⟨"TollLedgerModel", "change", "(IIJ)V"⟩) ∈ BIG := bgA (inT5 5 rfl) rfl
theorem wd_5_7 : (Jvm.Cond.instanceMethod ⟨"TollLedgerModel", "change", "(IIJ)V"⟩) ∈ BIG := bgA (inT5 7 rfl) rfl
theorem wd_5_8 : (Jvm.Cond.code ⟨"TollLedgerModel", "change", "(IIJ)V"⟩ prog_11_method_13_code 7 (Option.none : Option Jvm.ClassFile.FieldType)) ∈ BIG := bgA (inT5 8 rfl) rfl
theorem wd_5_9 : (Jvm.Cond.methodLink "TollLedgerModel" 198 ⟨"TollLedgerModel", "moveOffer", "(II)V"⟩) ∈ BIG := bgA (inT5 9 rfl) rfl
theorem wd_5_11 : (Jvm.Cond.instanceMethod ⟨"TollLedgerModel", "moveOffer", "(II)V"⟩) ∈ BIG := bgA (inT5 11 rfl) rfl
theorem wd_5_12 : (Jvm.Cond.code ⟨"TollLedgerModel", "moveOffer", "(II)V"⟩ prog_11_method_28_code 3 (Option.none : Option Jvm.ClassFile.FieldType)) ∈ BIG := bgA (inT5 12 rfl) rfl
theorem wd_5_13 : (Jvm.Cond.methodLink "TollLedgerLaw" 47 ⟨"TollLedgerModel", "offer", "(IIIII)I"⟩) ∈ BIG := bgA (inT5 13 rfl) rfl
theorem wd_5_14 : (Jvm.Cond.instanceMethod ⟨"TollLedgerModel", "offer", "(IIIII)I"⟩) ∈ BIG := bgA (inT5 14 rfl) rfl
theorem wd_5_15 : (Jvm.Cond.selects "TollLedgerModel" ⟨"TollLedgerModel", "offer", "(IIIII)I"⟩ ⟨"TollLedgerModel", "offer", "(IIIII)I"⟩) ∈ BIG := bgA (inT5 15 rfl) rfl
theorem wd_5_16 : (Jvm.Cond.code ⟨"TollLedgerModel", "offer", "(IIIII)I"⟩ prog_11_method_31_code 12 (Option.some Jvm.ClassFile.FieldType.int)) ∈ BIG := bgA (inT5 16 rfl) rfl
theorem wd_5_17 : (Jvm.Cond.methodLink "TollLedgerModel" 215 ⟨"TollLedgerModel", "place", "(IIII)V"⟩) ∈ BIG := bgA (inT5 17 rfl) rfl
theorem wd_5_19 : (Jvm.Cond.instanceMethod ⟨"TollLedgerModel", "place", "(IIII)V"⟩) ∈ BIG := bgA (inT5 19 rfl) rfl
theorem wd_5_20 : (Jvm.Cond.code ⟨"TollLedgerModel", "place", "(IIII)V"⟩ prog_11_method_32_code 5 (Option.none : Option Jvm.ClassFile.FieldType)) ∈ BIG := bgA (inT5 20 rfl) rfl
theorem wd_5_21 : (Jvm.Cond.methodLink "TollLedgerLaw" 51 ⟨"TollLedgerModel", "cancel", "(I)I"⟩) ∈ BIG := bgA (inT5 21 rfl) rfl
theorem wd_5_22 : (Jvm.Cond.instanceMethod ⟨"TollLedgerModel", "cancel", "(I)I"⟩) ∈ BIG := bgA (inT5 22 rfl) rfl
theorem wd_5_23 : (Jvm.Cond.selects "TollLedgerModel" ⟨"TollLedgerModel", "cancel", "(I)I"⟩ ⟨"TollLedgerModel", "cancel", "(I)I"⟩) ∈ BIG := bgA (inT5 23 rfl) rfl
theorem wd_5_24 : (Jvm.Cond.code ⟨"TollLedgerModel", "cancel", "(I)I"⟩ prog_11_method_34_code 5 (Option.some Jvm.ClassFile.FieldType.int)) ∈ BIG := bgA (inT5 24 rfl) rfl
theorem wd_5_25 : (Jvm.Cond.methodLink "TollLedgerModel" 221 ⟨"TollLedgerModel", "findOffer", "(I)I"⟩) ∈ BIG := bgA (inT5 25 rfl) rfl
theorem wd_5_27 : (Jvm.Cond.instanceMethod ⟨"TollLedgerModel", "findOffer", "(I)I"⟩) ∈ BIG := bgA (inT5 27 rfl) rfl
theorem wd_5_28 : (Jvm.Cond.code ⟨"TollLedgerModel", "findOffer", "(I)I"⟩ prog_11_method_33_code 4 (Option.some Jvm.ClassFile.FieldType.int)) ∈ BIG := bgA (inT5 28 rfl) rfl
theorem wd_5_29 : (Jvm.Cond.methodLink "TollLedgerLaw" 56 ⟨"TollLedgerModel", "deposit", "(IIII)I"⟩) ∈ BIG := bgA (inT5 29 rfl) rfl
theorem wd_5_30 : (Jvm.Cond.instanceMethod ⟨"TollLedgerModel", "deposit", "(IIII)I"⟩) ∈ BIG := bgA (inT5 30 rfl) rfl
theorem wd_5_31 : (Jvm.Cond.selects "TollLedgerModel" ⟨"TollLedgerModel", "deposit", "(IIII)I"⟩ ⟨"TollLedgerModel", "deposit", "(IIII)I"⟩) ∈ BIG := bgA (inT5 31 rfl) rfl
theorem wd_5_32 : (Jvm.Cond.code ⟨"TollLedgerModel", "deposit", "(IIII)I"⟩ prog_11_method_35_code 6 (Option.some Jvm.ClassFile.FieldType.int)) ∈ BIG := bgA (inT5 32 rfl) rfl
theorem wd_5_33 : (Jvm.Cond.methodLink "TollLedgerLaw" 60 ⟨"TollLedgerModel", "settle", "(I)I"⟩) ∈ BIG := bgA (inT5 33 rfl) rfl
theorem wd_5_34 : (Jvm.Cond.instanceMethod ⟨"TollLedgerModel", "settle", "(I)I"⟩) ∈ BIG := bgA (inT5 34 rfl) rfl
theorem wd_5_35 : (Jvm.Cond.selects "TollLedgerModel" ⟨"TollLedgerModel", "settle", "(I)I"⟩ ⟨"TollLedgerModel", "settle", "(I)I"⟩) ∈ BIG := bgA (inT5 35 rfl) rfl
theorem wd_5_36 : (Jvm.Cond.code ⟨"TollLedgerModel", "settle", "(I)I"⟩ prog_11_method_37_code 6 (Option.some Jvm.ClassFile.FieldType.int)) ∈ BIG := bgA (inT5 36 rfl) rfl
theorem wd_5_37 : (Jvm.Cond.methodLink "TollLedgerModel" 227 ⟨"TollLedgerModel", "findDeposit", "(I)I"⟩) ∈ BIG := bgA (inT5 37 rfl) rfl
theorem wd_5_39 : (Jvm.Cond.instanceMethod ⟨"TollLedgerModel", "findDeposit", "(I)I"⟩) ∈ BIG := bgA (inT5 39 rfl) rfl
theorem wd_5_40 : (Jvm.Cond.code ⟨"TollLedgerModel", "findDeposit", "(I)I"⟩ prog_11_method_36_code 4 (Option.some Jvm.ClassFile.FieldType.int)) ∈ BIG := bgA (inT5 40 rfl) rfl
theorem wd_5_41 : (Jvm.Cond.methodLink "TollLedgerLaw" 64 ⟨"TollLedgerModel", "tick", "(I)I"⟩) ∈ BIG := bgA (inT5 41 rfl) rfl
theorem wd_5_42 : (Jvm.Cond.instanceMethod ⟨"TollLedgerModel", "tick", "(I)I"⟩) ∈ BIG := bgA (inT5 42 rfl) rfl
theorem wd_5_43 : (Jvm.Cond.selects "TollLedgerModel" ⟨"TollLedgerModel", "tick", "(I)I"⟩ ⟨"TollLedgerModel", "tick", "(I)I"⟩) ∈ BIG := bgA (inT5 43 rfl) rfl
theorem wd_5_44 : (Jvm.Cond.code ⟨"TollLedgerModel", "tick", "(I)I"⟩ prog_11_method_38_code 2 (Option.some Jvm.ClassFile.FieldType.int)) ∈ BIG := bgA (inT5 44 rfl) rfl
theorem wd_5_45 : (Jvm.Cond.methodLink "TollLedgerLaw" 68 ⟨"TollLedgerModel", "account", "(II)I"⟩) ∈ BIG := bgA (inT5 45 rfl) rfl
theorem wd_5_46 : (Jvm.Cond.instanceMethod ⟨"TollLedgerModel", "account", "(II)I"⟩) ∈ BIG := bgA (inT5 46 rfl) rfl
theorem wd_5_47 : (Jvm.Cond.selects "TollLedgerModel" ⟨"TollLedgerModel", "account", "(II)I"⟩ ⟨"TollLedgerModel", "account", "(II)I"⟩) ∈ BIG := bgA (inT5 47 rfl) rfl
theorem wd_5_48 : (Jvm.Cond.code ⟨"TollLedgerModel", "account", "(II)I"⟩ prog_11_method_39_code 3 (Option.some Jvm.ClassFile.FieldType.int)) ∈ BIG := bgA (inT5 48 rfl) rfl
theorem wd_5_49 : (Jvm.Cond.methodLink "TollLedgerLaw" 72 ⟨"TollLedgerModel", "balance", "(III)I"⟩) ∈ BIG := bgA (inT5 49 rfl) rfl
theorem wd_5_50 : (Jvm.Cond.instanceMethod ⟨"TollLedgerModel", "balance", "(III)I"⟩) ∈ BIG := bgA (inT5 50 rfl) rfl
theorem wd_5_51 : (Jvm.Cond.selects "TollLedgerModel" ⟨"TollLedgerModel", "balance", "(III)I"⟩ ⟨"TollLedgerModel", "balance", "(III)I"⟩) ∈ BIG := bgA (inT5 51 rfl) rfl
theorem wd_5_52 : (Jvm.Cond.code ⟨"TollLedgerModel", "balance", "(III)I"⟩ prog_11_method_41_code 4 (Option.some Jvm.ClassFile.FieldType.int)) ∈ BIG := bgA (inT5 52 rfl) rfl
theorem wd_5_53 : (Jvm.Cond.methodLink "TollLedgerModel" 233 ⟨"TollLedgerModel", "isLine", "(III)Z"⟩) ∈ BIG := bgA (inT5 53 rfl) rfl
theorem wd_5_54 : (Jvm.Cond.static ⟨"TollLedgerModel", "isLine", "(III)Z"⟩) ∈ BIG := bgA (inT5 54 rfl) rfl
theorem wd_5_55 : (Jvm.Cond.code ⟨"TollLedgerModel", "isLine", "(III)Z"⟩ prog_11_method_40_code 3 (Option.some Jvm.ClassFile.FieldType.boolean)) ∈ BIG := bgA (inT5 55 rfl) rfl
theorem wd_5_56 : (Jvm.Cond.methodLink "TollLedgerLaw" 76 ⟨"TollLedgerModel", "limit", "(III)I"⟩) ∈ BIG := bgA (inT5 56 rfl) rfl
theorem wd_5_57 : (Jvm.Cond.instanceMethod ⟨"TollLedgerModel", "limit", "(III)I"⟩) ∈ BIG := bgA (inT5 57 rfl) rfl
theorem wd_5_58 : (Jvm.Cond.selects "TollLedgerModel" ⟨"TollLedgerModel", "limit", "(III)I"⟩ ⟨"TollLedgerModel", "limit", "(III)I"⟩) ∈ BIG := bgA (inT5 58 rfl) rfl
theorem wd_5_59 : (Jvm.Cond.code ⟨"TollLedgerModel", "limit", "(III)I"⟩ prog_11_method_42_code 5 (Option.some Jvm.ClassFile.FieldType.int)) ∈ BIG := bgA (inT5 59 rfl) rfl
theorem wd_5_60 : (Jvm.Cond.methodLink "TollLedgerLaw" 80 ⟨"TollLedgerModel", "funds", "(II)I"⟩) ∈ BIG := bgA (inT5 60 rfl) rfl
theorem wd_5_61 : (Jvm.Cond.instanceMethod ⟨"TollLedgerModel", "funds", "(II)I"⟩) ∈ BIG := bgA (inT5 61 rfl) rfl
theorem wd_5_62 : (Jvm.Cond.selects "TollLedgerModel" ⟨"TollLedgerModel", "funds", "(II)I"⟩ ⟨"TollLedgerModel", "funds", "(II)I"⟩) ∈ BIG := bgA (inT5 62 rfl) rfl
theorem wd_5_63 : (Jvm.Cond.code ⟨"TollLedgerModel", "funds", "(II)I"⟩ prog_11_method_43_code 3 (Option.some Jvm.ClassFile.FieldType.int)) ∈ BIG := bgA (inT5 63 rfl) rfl
theorem wd_5_64 : (Jvm.Cond.methodLink "TollLedgerLaw" 84 ⟨"TollLedgerModel", "book", "(III)I"⟩) ∈ BIG := bgA (inT5 64 rfl) rfl
theorem wd_5_65 : (Jvm.Cond.instanceMethod ⟨"TollLedgerModel", "book", "(III)I"⟩) ∈ BIG := bgA (inT5 65 rfl) rfl
theorem wd_5_66 : (Jvm.Cond.selects "TollLedgerModel" ⟨"TollLedgerModel", "book", "(III)I"⟩ ⟨"TollLedgerModel", "book", "(III)I"⟩) ∈ BIG := bgA (inT5 66 rfl) rfl
theorem wd_5_67 : (Jvm.Cond.code ⟨"TollLedgerModel", "book", "(III)I"⟩ prog_11_method_44_code 6 (Option.some Jvm.ClassFile.FieldType.int)) ∈ BIG := bgA (inT5 67 rfl) rfl
theorem wd_5_68 : (Jvm.Cond.methodLink "TollLedgerLaw" 88 ⟨"TollLedgerModel", "offerOf", "(II)I"⟩) ∈ BIG := bgA (inT5 68 rfl) rfl
theorem wd_5_69 : (Jvm.Cond.instanceMethod ⟨"TollLedgerModel", "offerOf", "(II)I"⟩) ∈ BIG := bgA (inT5 69 rfl) rfl
theorem wd_5_70 : (Jvm.Cond.selects "TollLedgerModel" ⟨"TollLedgerModel", "offerOf", "(II)I"⟩ ⟨"TollLedgerModel", "offerOf", "(II)I"⟩) ∈ BIG := bgA (inT5 70 rfl) rfl
theorem wd_5_71 : (Jvm.Cond.code ⟨"TollLedgerModel", "offerOf", "(II)I"⟩ prog_11_method_45_code 4 (Option.some Jvm.ClassFile.FieldType.int)) ∈ BIG := bgA (inT5 71 rfl) rfl
theorem wd_5_72 : (Jvm.Cond.methodLink "TollLedgerLaw" 92 ⟨"TollLedgerModel", "depositOf", "(I)I"⟩) ∈ BIG := bgA (inT5 72 rfl) rfl
theorem wd_5_73 : (Jvm.Cond.instanceMethod ⟨"TollLedgerModel", "depositOf", "(I)I"⟩) ∈ BIG := bgA (inT5 73 rfl) rfl
theorem wd_5_74 : (Jvm.Cond.selects "TollLedgerModel" ⟨"TollLedgerModel", "depositOf", "(I)I"⟩ ⟨"TollLedgerModel", "depositOf", "(I)I"⟩) ∈ BIG := bgA (inT5 74 rfl) rfl
theorem wd_5_75 : (Jvm.Cond.code ⟨"TollLedgerModel", "depositOf", "(I)I"⟩ prog_11_method_46_code 3 (Option.some Jvm.ClassFile.FieldType.int)) ∈ BIG := bgA (inT5 75 rfl) rfl
theorem wd_5_76 : (Jvm.Cond.methodLink "TollLedgerLaw" 97 ⟨"TollLedgerModel", "burnt", "()I"⟩) ∈ BIG := bgA (inT5 76 rfl) rfl
theorem wd_5_77 : (Jvm.Cond.instanceMethod ⟨"TollLedgerModel", "burnt", "()I"⟩) ∈ BIG := bgA (inT5 77 rfl) rfl
theorem wd_5_78 : (Jvm.Cond.selects "TollLedgerModel" ⟨"TollLedgerModel", "burnt", "()I"⟩ ⟨"TollLedgerModel", "burnt", "()I"⟩) ∈ BIG := bgA (inT5 78 rfl) rfl
theorem wd_5_79 : (Jvm.Cond.code ⟨"TollLedgerModel", "burnt", "()I"⟩ prog_11_method_47_code 1 (Option.some Jvm.ClassFile.FieldType.int)) ∈ BIG := bgA (inT5 79 rfl) rfl
theorem wd_5_80 : (Jvm.Cond.methodLink "TollLedgerLaw" 101 ⟨"TollLedgerModel", "root", "()I"⟩) ∈ BIG := bgA (inT5 80 rfl) rfl
theorem wd_5_81 : (Jvm.Cond.instanceMethod ⟨"TollLedgerModel", "root", "()I"⟩) ∈ BIG := bgA (inT5 81 rfl) rfl
theorem wd_5_82 : (Jvm.Cond.selects "TollLedgerModel" ⟨"TollLedgerModel", "root", "()I"⟩ ⟨"TollLedgerModel", "root", "()I"⟩) ∈ BIG := bgA (inT5 82 rfl) rfl
theorem wd_5_83 : (Jvm.Cond.code ⟨"TollLedgerModel", "root", "()I"⟩ prog_11_method_51_code 5 (Option.some Jvm.ClassFile.FieldType.int)) ∈ BIG := bgA (inT5 83 rfl) rfl
theorem wd_5_84 : (Jvm.Cond.methodLink "TollLedgerModel" 243 ⟨"TollLedgerModel", "leaf", "(I)I"⟩) ∈ BIG := bgA (inT5 84 rfl) rfl
theorem wd_5_86 : (Jvm.Cond.instanceMethod ⟨"TollLedgerModel", "leaf", "(I)I"⟩) ∈ BIG := bgA (inT5 86 rfl) rfl
theorem wd_5_87 : (Jvm.Cond.code ⟨"TollLedgerModel", "leaf", "(I)I"⟩ prog_11_method_50_code 3 (Option.some Jvm.ClassFile.FieldType.int)) ∈ BIG := bgA (inT5 87 rfl) rfl
theorem wd_5_88 : (Jvm.Cond.constant "TollLedgerModel" 238 (300007 : Int32)) ∈ BIG := bgA (inT5 88 rfl) rfl
theorem wd_5_89 : (Jvm.Cond.methodLink "TollLedgerModel" 239 ⟨"TollLedgerModel", "lineLeaf", "(I)I"⟩) ∈ BIG := bgA (inT5 89 rfl) rfl
theorem wd_5_91 : (Jvm.Cond.instanceMethod ⟨"TollLedgerModel", "lineLeaf", "(I)I"⟩) ∈ BIG := bgA (inT5 91 rfl) rfl
theorem wd_5_92 : (Jvm.Cond.code ⟨"TollLedgerModel", "lineLeaf", "(I)I"⟩ prog_11_method_49_code 9 (Option.some Jvm.ClassFile.FieldType.int)) ∈ BIG := bgA (inT5 92 rfl) rfl
theorem wd_5_93 : (Jvm.Cond.constant "TollLedgerModel" 236 (1000003 : Int32)) ∈ BIG := bgA (inT5 93 rfl) rfl
theorem wd_5_94 : (Jvm.Cond.constant "TollLedgerModel" 237 (2000003 : Int32)) ∈ BIG := bgA (inT5 94 rfl) rfl
theorem wd_5_95 : (Jvm.Cond.constant "TollLedgerModel" 242 (100003 : Int32)) ∈ BIG := bgA (inT5 95 rfl) rfl
theorem wd_5_96 : (Jvm.Cond.methodLink "TollLedgerModel" 246 ⟨"TollLedgerModel", "join", "(II)I"⟩) ∈ BIG := bgA (inT5 96 rfl) rfl
theorem wd_5_97 : (Jvm.Cond.static ⟨"TollLedgerModel", "join", "(II)I"⟩) ∈ BIG := bgA (inT5 97 rfl) rfl
theorem wd_5_98 : (Jvm.Cond.code ⟨"TollLedgerModel", "join", "(II)I"⟩ prog_11_method_48_code 3 (Option.some Jvm.ClassFile.FieldType.int)) ∈ BIG := bgA (inT5 98 rfl) rfl
theorem wd_5_101 : (Jvm.Cond.sameMethod "[Ljava/lang/Object;" "java/lang/Object" "getClass" "()Ljava/lang/Class;") ∈ BIG := bgA (inT5 101 rfl) rfl
theorem wd_5_102 : (Jvm.Cond.selects "[Ljava/lang/Object;" ⟨"java/lang/Object", "getClass", "()Ljava/lang/Class;"⟩ ⟨"java/lang/Object", "getClass", "()Ljava/lang/Class;"⟩) ∈ BIG := bgA (inT5 102 rfl) rfl
theorem wp_0 : Cond.selects "TollLedger" ⟨"TollLedger", "isOther", "(I)Z"⟩ ⟨"TollLedger", "isOther", "(I)Z"⟩ ∈ BIG := bgA (inP (q := (⟨"TollLedger", "isOther", "(I)Z"⟩, 10)) 0 rfl) rfl
theorem wp_1 : Cond.selects "TollLedger" ⟨"TollLedger", "charge", "(Z)I"⟩ ⟨"TollLedger", "charge", "(Z)I"⟩ ∈ BIG := bgA (inP (q := (⟨"TollLedger", "charge", "(Z)I"⟩, 10)) 1 rfl) rfl
theorem wp_2 : Cond.selects "TollLedger$State" ⟨"TollLedger$State", "reserveOf", "(I)I"⟩ ⟨"TollLedger$State", "reserveOf", "(I)I"⟩ ∈ BIG := bgA (inP (q := (⟨"TollLedger$State", "reserveOf", "(I)I"⟩, 6)) 2 rfl) rfl
theorem wp_3 : Cond.selects "TollLedger$Book" ⟨"TollLedger$Book", "insert", "(LTollLedger$Offer;)V"⟩ ⟨"TollLedger$Book", "insert", "(LTollLedger$Offer;)V"⟩ ∈ BIG := bgA (inP (q := (⟨"TollLedger$Book", "insert", "(LTollLedger$Offer;)V"⟩, 2)) 3 rfl) rfl
theorem wp_4 : Cond.selects "TollLedger" ⟨"TollLedger", "greatestDelivery", "(IIII)I"⟩ ⟨"TollLedger", "greatestDelivery", "(IIII)I"⟩ ∈ BIG := bgA (inP (q := (⟨"TollLedger", "greatestDelivery", "(IIII)I"⟩, 10)) 4 rfl) rfl
theorem wp_5 : Cond.selects "TollLedger" ⟨"TollLedger", "spendingFor", "(IIII)I"⟩ ⟨"TollLedger", "spendingFor", "(IIII)I"⟩ ∈ BIG := bgA (inP (q := (⟨"TollLedger", "spendingFor", "(IIII)I"⟩, 10)) 5 rfl) rfl
theorem wp_6 : Cond.selects "TollLedger$State" ⟨"TollLedger$State", "tollRate", "(III)I"⟩ ⟨"TollLedger$State", "tollRate", "(III)I"⟩ ∈ BIG := bgA (inP (q := (⟨"TollLedger$State", "tollRate", "(III)I"⟩, 6)) 6 rfl) rfl
theorem wp_7 : Cond.selects "TollLedger" ⟨"TollLedger", "isHushed", "(II)Z"⟩ ⟨"TollLedger", "isHushed", "(II)Z"⟩ ∈ BIG := bgA (inP (q := (⟨"TollLedger", "isHushed", "(II)Z"⟩, 10)) 7 rfl) rfl
theorem wp_8 : Cond.selects "TollLedger$Taking" ⟨"TollLedger$Taking", "startPlan", "()V"⟩ ⟨"TollLedger$Taking", "startPlan", "()V"⟩ ∈ BIG := bgA (inP (q := (⟨"TollLedger$Taking", "startPlan", "()V"⟩, 13)) 8 rfl) rfl
theorem wp_9 : Cond.selects "TollLedger$Taking" ⟨"TollLedger$Taking", "goThrough", "(II)V"⟩ ⟨"TollLedger$Taking", "goThrough", "(II)V"⟩ ∈ BIG := bgA (inP (q := (⟨"TollLedger$Taking", "goThrough", "(II)V"⟩, 13)) 9 rfl) rfl
theorem wp_10 : Cond.selects "java/util/ArrayList" ⟨"java/util/ArrayList", "fastRemove", "([Ljava/lang/Object;I)V"⟩ ⟨"java/util/ArrayList", "fastRemove", "([Ljava/lang/Object;I)V"⟩ ∈ BIG := bgA (inP (q := (⟨"java/util/ArrayList", "fastRemove", "([Ljava/lang/Object;I)V"⟩, 3)) 10 rfl) rfl
theorem wp_11 : Cond.selects "TollLedger" ⟨"TollLedger", "canPlace", "(I)Z"⟩ ⟨"TollLedger", "canPlace", "(I)Z"⟩ ∈ BIG := bgA (inP (q := (⟨"TollLedger", "canPlace", "(I)Z"⟩, 10)) 11 rfl) rfl
theorem wp_12 : Cond.selects "java/util/ArrayList" ⟨"java/util/ArrayList", "add", "(Ljava/lang/Object;[Ljava/lang/Object;I)V"⟩ ⟨"java/util/ArrayList", "add", "(Ljava/lang/Object;[Ljava/lang/Object;I)V"⟩ ∈ BIG := bgA (inP (q := (⟨"java/util/ArrayList", "add", "(Ljava/lang/Object;[Ljava/lang/Object;I)V"⟩, 3)) 12 rfl) rfl
theorem wp_13 : Cond.selects "java/util/ArrayList" ⟨"java/util/ArrayList", "grow", "()[Ljava/lang/Object;"⟩ ⟨"java/util/ArrayList", "grow", "()[Ljava/lang/Object;"⟩ ∈ BIG := bgA (inP (q := (⟨"java/util/ArrayList", "grow", "()[Ljava/lang/Object;"⟩, 3)) 13 rfl) rfl
theorem wp_14 : Cond.selects "java/util/ArrayList" ⟨"java/util/ArrayList", "grow", "(I)[Ljava/lang/Object;"⟩ ⟨"java/util/ArrayList", "grow", "(I)[Ljava/lang/Object;"⟩ ∈ BIG := bgA (inP (q := (⟨"java/util/ArrayList", "grow", "(I)[Ljava/lang/Object;"⟩, 3)) 14 rfl) rfl
theorem wp_15 : Cond.selects "TollLedger$Leaves" ⟨"TollLedger$Leaves", "fillLines", "(LTollLedger$Lines;)V"⟩ ⟨"TollLedger$Leaves", "fillLines", "(LTollLedger$Lines;)V"⟩ ∈ BIG := bgA (inP (q := (⟨"TollLedger$Leaves", "fillLines", "(LTollLedger$Lines;)V"⟩, 1)) 15 rfl) rfl
theorem wp_16 : Cond.selects "TollLedger$Leaves" ⟨"TollLedger$Leaves", "inner", "(I)I"⟩ ⟨"TollLedger$Leaves", "inner", "(I)I"⟩ ∈ BIG := bgA (inP (q := (⟨"TollLedger$Leaves", "inner", "(I)I"⟩, 1)) 16 rfl) rfl
theorem wp_17 : Cond.selects "TollLedgerModel" ⟨"TollLedgerModel", "begin", "(Z)I"⟩ ⟨"TollLedgerModel", "begin", "(Z)I"⟩ ∈ BIG := bgA (inP (q := (⟨"TollLedgerModel", "begin", "(Z)I"⟩, 39)) 17 rfl) rfl
theorem wp_18 : Cond.selects "TollLedgerModel" ⟨"TollLedgerModel", "fundsIn", "(II)I"⟩ ⟨"TollLedgerModel", "fundsIn", "(II)I"⟩ ∈ BIG := bgA (inP (q := (⟨"TollLedgerModel", "fundsIn", "(II)I"⟩, 39)) 18 rfl) rfl
theorem wp_19 : Cond.selects "TollLedgerModel" ⟨"TollLedgerModel", "reserve", "(I)I"⟩ ⟨"TollLedgerModel", "reserve", "(I)I"⟩ ∈ BIG := bgA (inP (q := (⟨"TollLedgerModel", "reserve", "(I)I"⟩, 39)) 19 rfl) rfl
theorem wp_20 : Cond.selects "TollLedgerModel" ⟨"TollLedgerModel", "pieces", "(I)I"⟩ ⟨"TollLedgerModel", "pieces", "(I)I"⟩ ∈ BIG := bgA (inP (q := (⟨"TollLedgerModel", "pieces", "(I)I"⟩, 39)) 20 rfl) rfl
theorem wp_21 : Cond.selects "TollLedgerModel" ⟨"TollLedgerModel", "owns", "(I)Z"⟩ ⟨"TollLedgerModel", "owns", "(I)Z"⟩ ∈ BIG := bgA (inP (q := (⟨"TollLedgerModel", "owns", "(I)Z"⟩, 39)) 21 rfl) rfl
theorem wp_22 : Cond.selects "TollLedgerModel" ⟨"TollLedgerModel", "spending", "(III)J"⟩ ⟨"TollLedgerModel", "spending", "(III)J"⟩ ∈ BIG := bgA (inP (q := (⟨"TollLedgerModel", "spending", "(III)J"⟩, 39)) 22 rfl) rfl
theorem wp_23 : Cond.selects "TollLedgerModel" ⟨"TollLedgerModel", "costOf", "(JIII)J"⟩ ⟨"TollLedgerModel", "costOf", "(JIII)J"⟩ ∈ BIG := bgA (inP (q := (⟨"TollLedgerModel", "costOf", "(JIII)J"⟩, 39)) 23 rfl) rfl
theorem wp_24 : Cond.selects "TollLedgerModel" ⟨"TollLedgerModel", "take", "(IIIJJJ)V"⟩ ⟨"TollLedgerModel", "take", "(IIIJJJ)V"⟩ ∈ BIG := bgA (inP (q := (⟨"TollLedgerModel", "take", "(IIIJJJ)V"⟩, 39)) 24 rfl) rfl
theorem wp_25 : Cond.selects "TollLedgerModel" ⟨"TollLedgerModel", "nextOf", "(III)I"⟩ ⟨"TollLedgerModel", "nextOf", "(III)I"⟩ ∈ BIG := bgA (inP (q := (⟨"TollLedgerModel", "nextOf", "(III)I"⟩, 39)) 25 rfl) rfl
theorem wp_26 : Cond.selects "TollLedgerModel" ⟨"TollLedgerModel", "inBook", "(III)Z"⟩ ⟨"TollLedgerModel", "inBook", "(III)Z"⟩ ∈ BIG := bgA (inP (q := (⟨"TollLedgerModel", "inBook", "(III)Z"⟩, 39)) 26 rfl) rfl
theorem wp_27 : Cond.selects "TollLedgerModel" ⟨"TollLedgerModel", "ahead", "(II)Z"⟩ ⟨"TollLedgerModel", "ahead", "(II)Z"⟩ ∈ BIG := bgA (inP (q := (⟨"TollLedgerModel", "ahead", "(II)Z"⟩, 39)) 27 rfl) rfl
theorem wp_28 : Cond.selects "TollLedgerModel" ⟨"TollLedgerModel", "canTake", "(IIIIJJ)Z"⟩ ⟨"TollLedgerModel", "canTake", "(IIIIJJ)Z"⟩ ∈ BIG := bgA (inP (q := (⟨"TollLedgerModel", "canTake", "(IIIIJJ)Z"⟩, 39)) 28 rfl) rfl
theorem wp_29 : Cond.selects "TollLedgerModel" ⟨"TollLedgerModel", "priceOf", "(II)I"⟩ ⟨"TollLedgerModel", "priceOf", "(II)I"⟩ ∈ BIG := bgA (inP (q := (⟨"TollLedgerModel", "priceOf", "(II)I"⟩, 39)) 29 rfl) rfl
theorem wp_30 : Cond.selects "TollLedgerModel" ⟨"TollLedgerModel", "note", "(IIII)V"⟩ ⟨"TollLedgerModel", "note", "(IIII)V"⟩ ∈ BIG := bgA (inP (q := (⟨"TollLedgerModel", "note", "(IIII)V"⟩, 39)) 30 rfl) rfl
theorem wp_31 : Cond.selects "TollLedgerModel" ⟨"TollLedgerModel", "carryOut", "(II)V"⟩ ⟨"TollLedgerModel", "carryOut", "(II)V"⟩ ∈ BIG := bgA (inP (q := (⟨"TollLedgerModel", "carryOut", "(II)V"⟩, 39)) 31 rfl) rfl
theorem wp_32 : Cond.selects "TollLedgerModel" ⟨"TollLedgerModel", "change", "(IIJ)V"⟩ ⟨"TollLedgerModel", "change", "(IIJ)V"⟩ ∈ BIG := bgA (inP (q := (⟨"TollLedgerModel", "change", "(IIJ)V"⟩, 39)) 32 rfl) rfl
theorem wp_33 : Cond.selects "TollLedgerModel" ⟨"TollLedgerModel", "moveOffer", "(II)V"⟩ ⟨"TollLedgerModel", "moveOffer", "(II)V"⟩ ∈ BIG := bgA (inP (q := (⟨"TollLedgerModel", "moveOffer", "(II)V"⟩, 39)) 33 rfl) rfl
theorem wp_34 : Cond.selects "TollLedgerModel" ⟨"TollLedgerModel", "place", "(IIII)V"⟩ ⟨"TollLedgerModel", "place", "(IIII)V"⟩ ∈ BIG := bgA (inP (q := (⟨"TollLedgerModel", "place", "(IIII)V"⟩, 39)) 34 rfl) rfl
theorem wp_35 : Cond.selects "TollLedgerModel" ⟨"TollLedgerModel", "findOffer", "(I)I"⟩ ⟨"TollLedgerModel", "findOffer", "(I)I"⟩ ∈ BIG := bgA (inP (q := (⟨"TollLedgerModel", "findOffer", "(I)I"⟩, 39)) 35 rfl) rfl
theorem wp_36 : Cond.selects "TollLedgerModel" ⟨"TollLedgerModel", "findDeposit", "(I)I"⟩ ⟨"TollLedgerModel", "findDeposit", "(I)I"⟩ ∈ BIG := bgA (inP (q := (⟨"TollLedgerModel", "findDeposit", "(I)I"⟩, 39)) 36 rfl) rfl
theorem wp_37 : Cond.selects "TollLedgerModel" ⟨"TollLedgerModel", "leaf", "(I)I"⟩ ⟨"TollLedgerModel", "leaf", "(I)I"⟩ ∈ BIG := bgA (inP (q := (⟨"TollLedgerModel", "leaf", "(I)I"⟩, 39)) 37 rfl) rfl
theorem wp_38 : Cond.selects "TollLedgerModel" ⟨"TollLedgerModel", "lineLeaf", "(I)I"⟩ ⟨"TollLedgerModel", "lineLeaf", "(I)I"⟩ ∈ BIG := bgA (inP (q := (⟨"TollLedgerModel", "lineLeaf", "(I)I"⟩, 39)) 38 rfl) rfl
theorem gdV {cd c : Cond} {own : String} {ix : Nat} {Cn : String} {y : MethodName} (h1 : Cond.methodLink own ix y ∈ BIG) (h2 : Cond.instanceMethod y ∈ BIG) (h3 : Cond.selects Cn y y ∈ BIG) (h4 : Cond.initialized Cn ∈ BIG) (h5 : c ∈ BIG) : GoodIn (cd :: BIG) (wsV own ix Cn y (c :: BIG)) := by
  intro w hw
  have hw : w ∈ BIG := by
    simp only [wsV, List.cons_append, List.nil_append, List.mem_cons] at hw
    rcases hw with rfl | rfl | rfl | rfl | rfl | hw <;> assumption
  exact ⟨List.mem_cons_of_mem _ hw, good_of_word (bgG hw)⟩
theorem gdS {cd c : Cond} {own : String} {ix : Nat} {y : MethodName} (h1 : Cond.methodLink own ix y ∈ BIG) (h2 : Cond.static y ∈ BIG) (h4 : Cond.initialized y.cls ∈ BIG) (h5 : c ∈ BIG) : GoodIn (cd :: BIG) (va_wsS own ix y (c :: BIG)) := by
  intro w hw
  have hw : w ∈ BIG := by
    simp only [va_wsS, List.cons_append, List.nil_append, List.mem_cons] at hw
    rcases hw with rfl | rfl | rfl | rfl | hw <;> assumption
  exact ⟨List.mem_cons_of_mem _ hw, good_of_word (bgG hw)⟩
theorem gdN {cd c : Cond} (h5 : c ∈ BIG) : GoodIn (cd :: BIG) (c :: BIG) := by
  intro w hw
  have hw : w ∈ BIG := by
    rcases List.mem_cons.mp hw with rfl | hw <;> assumption
  exact ⟨List.mem_cons_of_mem _ hw, good_of_word (bgG hw)⟩
theorem wm_min : Cond.code Lib.Math.min.name Lib.Math.min.code 2 (some .int) ∈ BIG := bgA (inT2 143 rfl) rfl
theorem wm_max : Cond.code Lib.Math.max.name Lib.Math.max.code 2 (some .int) ∈ BIG := bgA (inT2 76 rfl) rfl
theorem wm_minL : Cond.code Lib.MathLoose.min_long.x Lib.MathLoose.min_long.code 4 (some .long) ∈ BIG := bgA (inT2 232 rfl) rfl
theorem hy_TL_init : y_TL_init.cls = "TollLedger" ∧ y_TL_init.cls ≠ "java/lang/invoke/MethodHandle" ∧ y_TL_init.cls ≠ "java/lang/invoke/VarHandle" ∧ (parseMethodDescriptor y_TL_init.desc).map (fun d => d.parameters.length) = some 0 := by decide +kernel
theorem hy_OJ_init : y_OJ_init.cls = "java/lang/Object" ∧ y_OJ_init.cls ≠ "java/lang/invoke/MethodHandle" ∧ y_OJ_init.cls ≠ "java/lang/invoke/VarHandle" ∧ (parseMethodDescriptor y_OJ_init.desc).map (fun d => d.parameters.length) = some 0 := by decide +kernel
theorem hy_ST_init : y_ST_init.cls = "TollLedger$State" ∧ y_ST_init.cls ≠ "java/lang/invoke/MethodHandle" ∧ y_ST_init.cls ≠ "java/lang/invoke/VarHandle" ∧ (parseMethodDescriptor y_ST_init.desc).map (fun d => d.parameters.length) = some 0 := by decide +kernel
theorem hy_LN_init : y_LN_init.cls = "TollLedger$Lines" ∧ y_LN_init.cls ≠ "java/lang/invoke/MethodHandle" ∧ y_LN_init.cls ≠ "java/lang/invoke/VarHandle" ∧ (parseMethodDescriptor y_LN_init.desc).map (fun d => d.parameters.length) = some 0 := by decide +kernel
theorem hy_AL_init : y_AL_init.cls = "java/util/ArrayList" ∧ y_AL_init.cls ≠ "java/lang/invoke/MethodHandle" ∧ y_AL_init.cls ≠ "java/lang/invoke/VarHandle" ∧ (parseMethodDescriptor y_AL_init.desc).map (fun d => d.parameters.length) = some 0 := by decide +kernel
theorem hy_AB_init : y_AB_init.cls = "java/util/AbstractList" ∧ y_AB_init.cls ≠ "java/lang/invoke/MethodHandle" ∧ y_AB_init.cls ≠ "java/lang/invoke/VarHandle" ∧ (parseMethodDescriptor y_AB_init.desc).map (fun d => d.parameters.length) = some 0 := by decide +kernel
theorem hy_AX_init : y_AX_init.cls = "java/util/AbstractCollection" ∧ y_AX_init.cls ≠ "java/lang/invoke/MethodHandle" ∧ y_AX_init.cls ≠ "java/lang/invoke/VarHandle" ∧ (parseMethodDescriptor y_AX_init.desc).map (fun d => d.parameters.length) = some 0 := by decide +kernel
theorem hy_AC_init : y_AC_init.cls = "TollLedger$Account" ∧ y_AC_init.cls ≠ "java/lang/invoke/MethodHandle" ∧ y_AC_init.cls ≠ "java/lang/invoke/VarHandle" ∧ (parseMethodDescriptor y_AC_init.desc).map (fun d => d.parameters.length) = some 0 := by decide +kernel
theorem hy_TK_init : y_TK_init.cls = "TollLedger$Taking" ∧ y_TK_init.cls ≠ "java/lang/invoke/MethodHandle" ∧ y_TK_init.cls ≠ "java/lang/invoke/VarHandle" ∧ (parseMethodDescriptor y_TK_init.desc).map (fun d => d.parameters.length) = some 1 := by decide +kernel
theorem hy_BK_init : y_BK_init.cls = "TollLedger$Book" ∧ y_BK_init.cls ≠ "java/lang/invoke/MethodHandle" ∧ y_BK_init.cls ≠ "java/lang/invoke/VarHandle" ∧ (parseMethodDescriptor y_BK_init.desc).map (fun d => d.parameters.length) = some 0 := by decide +kernel
theorem hy_LV_init : y_LV_init.cls = "TollLedger$Leaves" ∧ y_LV_init.cls ≠ "java/lang/invoke/MethodHandle" ∧ y_LV_init.cls ≠ "java/lang/invoke/VarHandle" ∧ (parseMethodDescriptor y_LV_init.desc).map (fun d => d.parameters.length) = some 0 := by decide +kernel
theorem hy_TL_by : y_TL_by.cls = "TollLedger" ∧ y_TL_by.cls ≠ "java/lang/invoke/MethodHandle" ∧ y_TL_by.cls ≠ "java/lang/invoke/VarHandle" ∧ (parseMethodDescriptor y_TL_by.desc).map (fun d => d.parameters.length) = some 2 := by decide +kernel
theorem hy_TL_isAccount : y_TL_isAccount.cls ≠ "java/lang/invoke/MethodHandle" ∧ y_TL_isAccount.cls ≠ "java/lang/invoke/VarHandle" ∧ (parseMethodDescriptor y_TL_isAccount.desc).map (fun d => d.parameters.length) = some 1 := by decide +kernel
theorem hy_TL_isWithin : y_TL_isWithin.cls ≠ "java/lang/invoke/MethodHandle" ∧ y_TL_isWithin.cls ≠ "java/lang/invoke/VarHandle" ∧ (parseMethodDescriptor y_TL_isWithin.desc).map (fun d => d.parameters.length) = some 3 := by decide +kernel
theorem hy_TL_send : y_TL_send.cls = "TollLedger" ∧ y_TL_send.cls ≠ "java/lang/invoke/MethodHandle" ∧ y_TL_send.cls ≠ "java/lang/invoke/VarHandle" ∧ (parseMethodDescriptor y_TL_send.desc).map (fun d => d.parameters.length) = some 2 := by decide +kernel
theorem hy_TL_isOther : y_TL_isOther.cls = "TollLedger" ∧ y_TL_isOther.cls ≠ "java/lang/invoke/MethodHandle" ∧ y_TL_isOther.cls ≠ "java/lang/invoke/VarHandle" ∧ (parseMethodDescriptor y_TL_isOther.desc).map (fun d => d.parameters.length) = some 1 := by decide +kernel
theorem hy_TL_charge : y_TL_charge.cls = "TollLedger" ∧ y_TL_charge.cls ≠ "java/lang/invoke/MethodHandle" ∧ y_TL_charge.cls ≠ "java/lang/invoke/VarHandle" ∧ (parseMethodDescriptor y_TL_charge.desc).map (fun d => d.parameters.length) = some 1 := by decide +kernel
theorem hy_ST_fundsOf : y_ST_fundsOf.cls = "TollLedger$State" ∧ y_ST_fundsOf.cls ≠ "java/lang/invoke/MethodHandle" ∧ y_ST_fundsOf.cls ≠ "java/lang/invoke/VarHandle" ∧ (parseMethodDescriptor y_ST_fundsOf.desc).map (fun d => d.parameters.length) = some 2 := by decide +kernel
theorem hy_ST_reserveOf : y_ST_reserveOf.cls = "TollLedger$State" ∧ y_ST_reserveOf.cls ≠ "java/lang/invoke/MethodHandle" ∧ y_ST_reserveOf.cls ≠ "java/lang/invoke/VarHandle" ∧ (parseMethodDescriptor y_ST_reserveOf.desc).map (fun d => d.parameters.length) = some 1 := by decide +kernel
theorem hy_ST_piecesOf : y_ST_piecesOf.cls = "TollLedger$State" ∧ y_ST_piecesOf.cls ≠ "java/lang/invoke/MethodHandle" ∧ y_ST_piecesOf.cls ≠ "java/lang/invoke/VarHandle" ∧ (parseMethodDescriptor y_ST_piecesOf.desc).map (fun d => d.parameters.length) = some 1 := by decide +kernel
theorem hy_LN_piecesOf : y_LN_piecesOf.cls = "TollLedger$Lines" ∧ y_LN_piecesOf.cls ≠ "java/lang/invoke/MethodHandle" ∧ y_LN_piecesOf.cls ≠ "java/lang/invoke/VarHandle" ∧ (parseMethodDescriptor y_LN_piecesOf.desc).map (fun d => d.parameters.length) = some 1 := by decide +kernel
theorem hy_LN_side : y_LN_side.cls ≠ "java/lang/invoke/MethodHandle" ∧ y_LN_side.cls ≠ "java/lang/invoke/VarHandle" ∧ (parseMethodDescriptor y_LN_side.desc).map (fun d => d.parameters.length) = some 3 := by decide +kernel
theorem hy_LN_isPiece : y_LN_isPiece.cls = "TollLedger$Lines" ∧ y_LN_isPiece.cls ≠ "java/lang/invoke/MethodHandle" ∧ y_LN_isPiece.cls ≠ "java/lang/invoke/VarHandle" ∧ (parseMethodDescriptor y_LN_isPiece.desc).map (fun d => d.parameters.length) = some 1 := by decide +kernel
theorem hy_AL_size : y_AL_size.cls = "java/util/ArrayList" ∧ y_AL_size.cls ≠ "java/lang/invoke/MethodHandle" ∧ y_AL_size.cls ≠ "java/lang/invoke/VarHandle" ∧ (parseMethodDescriptor y_AL_size.desc).map (fun d => d.parameters.length) = some 0 := by decide +kernel
theorem hy_AL_get : y_AL_get.cls = "java/util/ArrayList" ∧ y_AL_get.cls ≠ "java/lang/invoke/MethodHandle" ∧ y_AL_get.cls ≠ "java/lang/invoke/VarHandle" ∧ (parseMethodDescriptor y_AL_get.desc).map (fun d => d.parameters.length) = some 1 := by decide +kernel
theorem hy_OB_checkIndex : y_OB_checkIndex.cls ≠ "java/lang/invoke/MethodHandle" ∧ y_OB_checkIndex.cls ≠ "java/lang/invoke/VarHandle" ∧ (parseMethodDescriptor y_OB_checkIndex.desc).map (fun d => d.parameters.length) = some 2 := by decide +kernel
theorem hy_PC_checkIndex : y_PC_checkIndex.cls ≠ "java/lang/invoke/MethodHandle" ∧ y_PC_checkIndex.cls ≠ "java/lang/invoke/VarHandle" ∧ (parseMethodDescriptor y_PC_checkIndex.desc).map (fun d => d.parameters.length) = some 3 := by decide +kernel
theorem hy_AL_elementData : y_AL_elementData.cls = "java/util/ArrayList" ∧ y_AL_elementData.cls ≠ "java/lang/invoke/MethodHandle" ∧ y_AL_elementData.cls ≠ "java/lang/invoke/VarHandle" ∧ (parseMethodDescriptor y_AL_elementData.desc).map (fun d => d.parameters.length) = some 1 := by decide +kernel
theorem hy_MT_max : y_MT_max.cls ≠ "java/lang/invoke/MethodHandle" ∧ y_MT_max.cls ≠ "java/lang/invoke/VarHandle" ∧ (parseMethodDescriptor y_MT_max.desc).map (fun d => d.parameters.length) = some 2 := by decide +kernel
theorem hy_TL_issuerOf : y_TL_issuerOf.cls ≠ "java/lang/invoke/MethodHandle" ∧ y_TL_issuerOf.cls ≠ "java/lang/invoke/VarHandle" ∧ (parseMethodDescriptor y_TL_issuerOf.desc).map (fun d => d.parameters.length) = some 1 := by decide +kernel
theorem hy_TL_currencyOf : y_TL_currencyOf.cls ≠ "java/lang/invoke/MethodHandle" ∧ y_TL_currencyOf.cls ≠ "java/lang/invoke/VarHandle" ∧ (parseMethodDescriptor y_TL_currencyOf.desc).map (fun d => d.parameters.length) = some 1 := by decide +kernel
theorem hy_ST_change : y_ST_change.cls = "TollLedger$State" ∧ y_ST_change.cls ≠ "java/lang/invoke/MethodHandle" ∧ y_ST_change.cls ≠ "java/lang/invoke/VarHandle" ∧ (parseMethodDescriptor y_ST_change.desc).map (fun d => d.parameters.length) = some 3 := by decide +kernel
theorem hy_LN_grow : y_LN_grow.cls = "TollLedger$Lines" ∧ y_LN_grow.cls ≠ "java/lang/invoke/MethodHandle" ∧ y_LN_grow.cls ≠ "java/lang/invoke/VarHandle" ∧ (parseMethodDescriptor y_LN_grow.desc).map (fun d => d.parameters.length) = some 4 := by decide +kernel
theorem hy_TL_trust : y_TL_trust.cls = "TollLedger" ∧ y_TL_trust.cls ≠ "java/lang/invoke/MethodHandle" ∧ y_TL_trust.cls ≠ "java/lang/invoke/VarHandle" ∧ (parseMethodDescriptor y_TL_trust.desc).map (fun d => d.parameters.length) = some 4 := by decide +kernel
theorem hy_TL_isCurrency : y_TL_isCurrency.cls ≠ "java/lang/invoke/MethodHandle" ∧ y_TL_isCurrency.cls ≠ "java/lang/invoke/VarHandle" ∧ (parseMethodDescriptor y_TL_isCurrency.desc).map (fun d => d.parameters.length) = some 1 := by decide +kernel
theorem hy_ST_affordsOneMore : y_ST_affordsOneMore.cls = "TollLedger$State" ∧ y_ST_affordsOneMore.cls ≠ "java/lang/invoke/MethodHandle" ∧ y_ST_affordsOneMore.cls ≠ "java/lang/invoke/VarHandle" ∧ (parseMethodDescriptor y_ST_affordsOneMore.desc).map (fun d => d.parameters.length) = some 2 := by decide +kernel
theorem hy_TL_rate : y_TL_rate.cls = "TollLedger" ∧ y_TL_rate.cls ≠ "java/lang/invoke/MethodHandle" ∧ y_TL_rate.cls ≠ "java/lang/invoke/VarHandle" ∧ (parseMethodDescriptor y_TL_rate.desc).map (fun d => d.parameters.length) = some 1 := by decide +kernel
theorem hy_TL_spend : y_TL_spend.cls = "TollLedger" ∧ y_TL_spend.cls ≠ "java/lang/invoke/MethodHandle" ∧ y_TL_spend.cls ≠ "java/lang/invoke/VarHandle" ∧ (parseMethodDescriptor y_TL_spend.desc).map (fun d => d.parameters.length) = some 3 := by decide +kernel
theorem hy_TL_isAsset : y_TL_isAsset.cls ≠ "java/lang/invoke/MethodHandle" ∧ y_TL_isAsset.cls ≠ "java/lang/invoke/VarHandle" ∧ (parseMethodDescriptor y_TL_isAsset.desc).map (fun d => d.parameters.length) = some 1 := by decide +kernel
theorem hy_TL_pay : y_TL_pay.cls = "TollLedger" ∧ y_TL_pay.cls ≠ "java/lang/invoke/MethodHandle" ∧ y_TL_pay.cls ≠ "java/lang/invoke/VarHandle" ∧ (parseMethodDescriptor y_TL_pay.desc).map (fun d => d.parameters.length) = some 3 := by decide +kernel
theorem hy_TK_open : y_TK_open.cls = "TollLedger$Taking" ∧ y_TK_open.cls ≠ "java/lang/invoke/MethodHandle" ∧ y_TK_open.cls ≠ "java/lang/invoke/VarHandle" ∧ (parseMethodDescriptor y_TK_open.desc).map (fun d => d.parameters.length) = some 3 := by decide +kernel
theorem hy_BK_gather : y_BK_gather.cls = "TollLedger$Book" ∧ y_BK_gather.cls ≠ "java/lang/invoke/MethodHandle" ∧ y_BK_gather.cls ≠ "java/lang/invoke/VarHandle" ∧ (parseMethodDescriptor y_BK_gather.desc).map (fun d => d.parameters.length) = some 4 := by decide +kernel
theorem hy_BK_insert : y_BK_insert.cls = "TollLedger$Book" ∧ y_BK_insert.cls ≠ "java/lang/invoke/MethodHandle" ∧ y_BK_insert.cls ≠ "java/lang/invoke/VarHandle" ∧ (parseMethodDescriptor y_BK_insert.desc).map (fun d => d.parameters.length) = some 1 := by decide +kernel
theorem hy_OF_isBetterThan : y_OF_isBetterThan.cls = "TollLedger$Offer" ∧ y_OF_isBetterThan.cls ≠ "java/lang/invoke/MethodHandle" ∧ y_OF_isBetterThan.cls ≠ "java/lang/invoke/VarHandle" ∧ (parseMethodDescriptor y_OF_isBetterThan.desc).map (fun d => d.parameters.length) = some 1 := by decide +kernel
theorem hy_MT_min : y_MT_min.cls ≠ "java/lang/invoke/MethodHandle" ∧ y_MT_min.cls ≠ "java/lang/invoke/VarHandle" ∧ (parseMethodDescriptor y_MT_min.desc).map (fun d => d.parameters.length) = some 2 := by decide +kernel
theorem hy_TL_greatestDelivery : y_TL_greatestDelivery.cls = "TollLedger" ∧ y_TL_greatestDelivery.cls ≠ "java/lang/invoke/MethodHandle" ∧ y_TL_greatestDelivery.cls ≠ "java/lang/invoke/VarHandle" ∧ (parseMethodDescriptor y_TL_greatestDelivery.desc).map (fun d => d.parameters.length) = some 4 := by decide +kernel
theorem hy_TL_spendingFor : y_TL_spendingFor.cls = "TollLedger" ∧ y_TL_spendingFor.cls ≠ "java/lang/invoke/MethodHandle" ∧ y_TL_spendingFor.cls ≠ "java/lang/invoke/VarHandle" ∧ (parseMethodDescriptor y_TL_spendingFor.desc).map (fun d => d.parameters.length) = some 4 := by decide +kernel
theorem hy_LN_hasRoom : y_LN_hasRoom.cls = "TollLedger$Lines" ∧ y_LN_hasRoom.cls ≠ "java/lang/invoke/MethodHandle" ∧ y_LN_hasRoom.cls ≠ "java/lang/invoke/VarHandle" ∧ (parseMethodDescriptor y_LN_hasRoom.desc).map (fun d => d.parameters.length) = some 2 := by decide +kernel
theorem hy_ST_costOf : y_ST_costOf.cls = "TollLedger$State" ∧ y_ST_costOf.cls ≠ "java/lang/invoke/MethodHandle" ∧ y_ST_costOf.cls ≠ "java/lang/invoke/VarHandle" ∧ (parseMethodDescriptor y_ST_costOf.desc).map (fun d => d.parameters.length) = some 4 := by decide +kernel
theorem hy_ST_tollRate : y_ST_tollRate.cls = "TollLedger$State" ∧ y_ST_tollRate.cls ≠ "java/lang/invoke/MethodHandle" ∧ y_ST_tollRate.cls ≠ "java/lang/invoke/VarHandle" ∧ (parseMethodDescriptor y_ST_tollRate.desc).map (fun d => d.parameters.length) = some 3 := by decide +kernel
theorem hy_TL_isHushed : y_TL_isHushed.cls = "TollLedger" ∧ y_TL_isHushed.cls ≠ "java/lang/invoke/MethodHandle" ∧ y_TL_isHushed.cls ≠ "java/lang/invoke/VarHandle" ∧ (parseMethodDescriptor y_TL_isHushed.desc).map (fun d => d.parameters.length) = some 2 := by decide +kernel
theorem hy_TK_planAll : y_TK_planAll.cls = "TollLedger$Taking" ∧ y_TK_planAll.cls ≠ "java/lang/invoke/MethodHandle" ∧ y_TK_planAll.cls ≠ "java/lang/invoke/VarHandle" ∧ (parseMethodDescriptor y_TK_planAll.desc).map (fun d => d.parameters.length) = some 1 := by decide +kernel
theorem hy_TK_startPlan : y_TK_startPlan.cls = "TollLedger$Taking" ∧ y_TK_startPlan.cls ≠ "java/lang/invoke/MethodHandle" ∧ y_TK_startPlan.cls ≠ "java/lang/invoke/VarHandle" ∧ (parseMethodDescriptor y_TK_startPlan.desc).map (fun d => d.parameters.length) = some 0 := by decide +kernel
theorem hy_TK_goThrough : y_TK_goThrough.cls = "TollLedger$Taking" ∧ y_TK_goThrough.cls ≠ "java/lang/invoke/MethodHandle" ∧ y_TK_goThrough.cls ≠ "java/lang/invoke/VarHandle" ∧ (parseMethodDescriptor y_TK_goThrough.desc).map (fun d => d.parameters.length) = some 2 := by decide +kernel
theorem hy_ST_mostMovable : y_ST_mostMovable.cls = "TollLedger$State" ∧ y_ST_mostMovable.cls ≠ "java/lang/invoke/MethodHandle" ∧ y_ST_mostMovable.cls ≠ "java/lang/invoke/VarHandle" ∧ (parseMethodDescriptor y_ST_mostMovable.desc).map (fun d => d.parameters.length) = some 4 := by decide +kernel
theorem hy_OF_priceOf : y_OF_priceOf.cls = "TollLedger$Offer" ∧ y_OF_priceOf.cls ≠ "java/lang/invoke/MethodHandle" ∧ y_OF_priceOf.cls ≠ "java/lang/invoke/VarHandle" ∧ (parseMethodDescriptor y_OF_priceOf.desc).map (fun d => d.parameters.length) = some 1 := by decide +kernel
theorem hy_TK_carryOut : y_TK_carryOut.cls = "TollLedger$Taking" ∧ y_TK_carryOut.cls ≠ "java/lang/invoke/MethodHandle" ∧ y_TK_carryOut.cls ≠ "java/lang/invoke/VarHandle" ∧ (parseMethodDescriptor y_TK_carryOut.desc).map (fun d => d.parameters.length) = some 0 := by decide +kernel
theorem hy_ST_dropSpentOffers : y_ST_dropSpentOffers.cls = "TollLedger$State" ∧ y_ST_dropSpentOffers.cls ≠ "java/lang/invoke/MethodHandle" ∧ y_ST_dropSpentOffers.cls ≠ "java/lang/invoke/VarHandle" ∧ (parseMethodDescriptor y_ST_dropSpentOffers.desc).map (fun d => d.parameters.length) = some 0 := by decide +kernel
theorem hy_AL_remove : y_AL_remove.cls = "java/util/ArrayList" ∧ y_AL_remove.cls ≠ "java/lang/invoke/MethodHandle" ∧ y_AL_remove.cls ≠ "java/lang/invoke/VarHandle" ∧ (parseMethodDescriptor y_AL_remove.desc).map (fun d => d.parameters.length) = some 1 := by decide +kernel
theorem hy_AL_fastRemove : y_AL_fastRemove.cls = "java/util/ArrayList" ∧ y_AL_fastRemove.cls ≠ "java/lang/invoke/MethodHandle" ∧ y_AL_fastRemove.cls ≠ "java/lang/invoke/VarHandle" ∧ (parseMethodDescriptor y_AL_fastRemove.desc).map (fun d => d.parameters.length) = some 2 := by decide +kernel
theorem hy_TL_offer : y_TL_offer.cls = "TollLedger" ∧ y_TL_offer.cls ≠ "java/lang/invoke/MethodHandle" ∧ y_TL_offer.cls ≠ "java/lang/invoke/VarHandle" ∧ (parseMethodDescriptor y_TL_offer.desc).map (fun d => d.parameters.length) = some 5 := by decide +kernel
theorem hy_TK_planCrossing : y_TK_planCrossing.cls = "TollLedger$Taking" ∧ y_TK_planCrossing.cls ≠ "java/lang/invoke/MethodHandle" ∧ y_TK_planCrossing.cls ≠ "java/lang/invoke/VarHandle" ∧ (parseMethodDescriptor y_TK_planCrossing.desc).map (fun d => d.parameters.length) = some 3 := by decide +kernel
theorem hy_TK_isCrossed : y_TK_isCrossed.cls ≠ "java/lang/invoke/MethodHandle" ∧ y_TK_isCrossed.cls ≠ "java/lang/invoke/VarHandle" ∧ (parseMethodDescriptor y_TK_isCrossed.desc).map (fun d => d.parameters.length) = some 3 := by decide +kernel
theorem hy_OF_mostFor : y_OF_mostFor.cls = "TollLedger$Offer" ∧ y_OF_mostFor.cls ≠ "java/lang/invoke/MethodHandle" ∧ y_OF_mostFor.cls ≠ "java/lang/invoke/VarHandle" ∧ (parseMethodDescriptor y_OF_mostFor.desc).map (fun d => d.parameters.length) = some 1 := by decide +kernel
theorem hy_MT_minL : y_MT_minL.cls ≠ "java/lang/invoke/MethodHandle" ∧ y_MT_minL.cls ≠ "java/lang/invoke/VarHandle" ∧ (parseMethodDescriptor y_MT_minL.desc).map (fun d => d.parameters.length) = some 2 := by decide +kernel
theorem hy_TK_countUnfunded : y_TK_countUnfunded.cls = "TollLedger$Taking" ∧ y_TK_countUnfunded.cls ≠ "java/lang/invoke/MethodHandle" ∧ y_TK_countUnfunded.cls ≠ "java/lang/invoke/VarHandle" ∧ (parseMethodDescriptor y_TK_countUnfunded.desc).map (fun d => d.parameters.length) = some 0 := by decide +kernel
theorem hy_TL_canPlace : y_TL_canPlace.cls = "TollLedger" ∧ y_TL_canPlace.cls ≠ "java/lang/invoke/MethodHandle" ∧ y_TL_canPlace.cls ≠ "java/lang/invoke/VarHandle" ∧ (parseMethodDescriptor y_TL_canPlace.desc).map (fun d => d.parameters.length) = some 1 := by decide +kernel
theorem hy_ST_addOffer : y_ST_addOffer.cls = "TollLedger$State" ∧ y_ST_addOffer.cls ≠ "java/lang/invoke/MethodHandle" ∧ y_ST_addOffer.cls ≠ "java/lang/invoke/VarHandle" ∧ (parseMethodDescriptor y_ST_addOffer.desc).map (fun d => d.parameters.length) = some 5 := by decide +kernel
theorem hy_OF_init : y_OF_init.cls = "TollLedger$Offer" ∧ y_OF_init.cls ≠ "java/lang/invoke/MethodHandle" ∧ y_OF_init.cls ≠ "java/lang/invoke/VarHandle" ∧ (parseMethodDescriptor y_OF_init.desc).map (fun d => d.parameters.length) = some 0 := by decide +kernel
theorem hy_AL_add : y_AL_add.cls = "java/util/ArrayList" ∧ y_AL_add.cls ≠ "java/lang/invoke/MethodHandle" ∧ y_AL_add.cls ≠ "java/lang/invoke/VarHandle" ∧ (parseMethodDescriptor y_AL_add.desc).map (fun d => d.parameters.length) = some 1 := by decide +kernel
theorem hy_AL_add3 : y_AL_add3.cls = "java/util/ArrayList" ∧ y_AL_add3.cls ≠ "java/lang/invoke/MethodHandle" ∧ y_AL_add3.cls ≠ "java/lang/invoke/VarHandle" ∧ (parseMethodDescriptor y_AL_add3.desc).map (fun d => d.parameters.length) = some 3 := by decide +kernel
theorem hy_AL_grow : y_AL_grow.cls = "java/util/ArrayList" ∧ y_AL_grow.cls ≠ "java/lang/invoke/MethodHandle" ∧ y_AL_grow.cls ≠ "java/lang/invoke/VarHandle" ∧ (parseMethodDescriptor y_AL_grow.desc).map (fun d => d.parameters.length) = some 0 := by decide +kernel
theorem hy_AL_grow1 : y_AL_grow1.cls = "java/util/ArrayList" ∧ y_AL_grow1.cls ≠ "java/lang/invoke/MethodHandle" ∧ y_AL_grow1.cls ≠ "java/lang/invoke/VarHandle" ∧ (parseMethodDescriptor y_AL_grow1.desc).map (fun d => d.parameters.length) = some 1 := by decide +kernel
theorem hy_AS_newLength : y_AS_newLength.cls ≠ "java/lang/invoke/MethodHandle" ∧ y_AS_newLength.cls ≠ "java/lang/invoke/VarHandle" ∧ (parseMethodDescriptor y_AS_newLength.desc).map (fun d => d.parameters.length) = some 3 := by decide +kernel
theorem hy_AS_hugeLength : y_AS_hugeLength.cls ≠ "java/lang/invoke/MethodHandle" ∧ y_AS_hugeLength.cls ≠ "java/lang/invoke/VarHandle" ∧ (parseMethodDescriptor y_AS_hugeLength.desc).map (fun d => d.parameters.length) = some 2 := by decide +kernel
theorem hy_AR_copyOf : y_AR_copyOf.cls ≠ "java/lang/invoke/MethodHandle" ∧ y_AR_copyOf.cls ≠ "java/lang/invoke/VarHandle" ∧ (parseMethodDescriptor y_AR_copyOf.desc).map (fun d => d.parameters.length) = some 2 := by decide +kernel
theorem hy_AR_copyOf3 : y_AR_copyOf3.cls ≠ "java/lang/invoke/MethodHandle" ∧ y_AR_copyOf3.cls ≠ "java/lang/invoke/VarHandle" ∧ (parseMethodDescriptor y_AR_copyOf3.desc).map (fun d => d.parameters.length) = some 3 := by decide +kernel
theorem hy_TL_cancel : y_TL_cancel.cls = "TollLedger" ∧ y_TL_cancel.cls ≠ "java/lang/invoke/MethodHandle" ∧ y_TL_cancel.cls ≠ "java/lang/invoke/VarHandle" ∧ (parseMethodDescriptor y_TL_cancel.desc).map (fun d => d.parameters.length) = some 1 := by decide +kernel
theorem hy_ST_placeOfOffer : y_ST_placeOfOffer.cls = "TollLedger$State" ∧ y_ST_placeOfOffer.cls ≠ "java/lang/invoke/MethodHandle" ∧ y_ST_placeOfOffer.cls ≠ "java/lang/invoke/VarHandle" ∧ (parseMethodDescriptor y_ST_placeOfOffer.desc).map (fun d => d.parameters.length) = some 1 := by decide +kernel
theorem hy_TL_deposit : y_TL_deposit.cls = "TollLedger" ∧ y_TL_deposit.cls ≠ "java/lang/invoke/MethodHandle" ∧ y_TL_deposit.cls ≠ "java/lang/invoke/VarHandle" ∧ (parseMethodDescriptor y_TL_deposit.desc).map (fun d => d.parameters.length) = some 4 := by decide +kernel
theorem hy_ST_addDeposit : y_ST_addDeposit.cls = "TollLedger$State" ∧ y_ST_addDeposit.cls ≠ "java/lang/invoke/MethodHandle" ∧ y_ST_addDeposit.cls ≠ "java/lang/invoke/VarHandle" ∧ (parseMethodDescriptor y_ST_addDeposit.desc).map (fun d => d.parameters.length) = some 5 := by decide +kernel
theorem hy_DP_init : y_DP_init.cls = "TollLedger$Deposit" ∧ y_DP_init.cls ≠ "java/lang/invoke/MethodHandle" ∧ y_DP_init.cls ≠ "java/lang/invoke/VarHandle" ∧ (parseMethodDescriptor y_DP_init.desc).map (fun d => d.parameters.length) = some 0 := by decide +kernel
theorem hy_TL_settle : y_TL_settle.cls = "TollLedger" ∧ y_TL_settle.cls ≠ "java/lang/invoke/MethodHandle" ∧ y_TL_settle.cls ≠ "java/lang/invoke/VarHandle" ∧ (parseMethodDescriptor y_TL_settle.desc).map (fun d => d.parameters.length) = some 1 := by decide +kernel
theorem hy_ST_placeOfDeposit : y_ST_placeOfDeposit.cls = "TollLedger$State" ∧ y_ST_placeOfDeposit.cls ≠ "java/lang/invoke/MethodHandle" ∧ y_ST_placeOfDeposit.cls ≠ "java/lang/invoke/VarHandle" ∧ (parseMethodDescriptor y_ST_placeOfDeposit.desc).map (fun d => d.parameters.length) = some 1 := by decide +kernel
theorem hy_TL_tick : y_TL_tick.cls = "TollLedger" ∧ y_TL_tick.cls ≠ "java/lang/invoke/MethodHandle" ∧ y_TL_tick.cls ≠ "java/lang/invoke/VarHandle" ∧ (parseMethodDescriptor y_TL_tick.desc).map (fun d => d.parameters.length) = some 1 := by decide +kernel
theorem hy_TL_account : y_TL_account.cls = "TollLedger" ∧ y_TL_account.cls ≠ "java/lang/invoke/MethodHandle" ∧ y_TL_account.cls ≠ "java/lang/invoke/VarHandle" ∧ (parseMethodDescriptor y_TL_account.desc).map (fun d => d.parameters.length) = some 2 := by decide +kernel
theorem hy_TL_balance : y_TL_balance.cls = "TollLedger" ∧ y_TL_balance.cls ≠ "java/lang/invoke/MethodHandle" ∧ y_TL_balance.cls ≠ "java/lang/invoke/VarHandle" ∧ (parseMethodDescriptor y_TL_balance.desc).map (fun d => d.parameters.length) = some 3 := by decide +kernel
theorem hy_TL_isLine : y_TL_isLine.cls ≠ "java/lang/invoke/MethodHandle" ∧ y_TL_isLine.cls ≠ "java/lang/invoke/VarHandle" ∧ (parseMethodDescriptor y_TL_isLine.desc).map (fun d => d.parameters.length) = some 3 := by decide +kernel
theorem hy_TL_limit : y_TL_limit.cls = "TollLedger" ∧ y_TL_limit.cls ≠ "java/lang/invoke/MethodHandle" ∧ y_TL_limit.cls ≠ "java/lang/invoke/VarHandle" ∧ (parseMethodDescriptor y_TL_limit.desc).map (fun d => d.parameters.length) = some 3 := by decide +kernel
theorem hy_TL_funds : y_TL_funds.cls = "TollLedger" ∧ y_TL_funds.cls ≠ "java/lang/invoke/MethodHandle" ∧ y_TL_funds.cls ≠ "java/lang/invoke/VarHandle" ∧ (parseMethodDescriptor y_TL_funds.desc).map (fun d => d.parameters.length) = some 2 := by decide +kernel
theorem hy_TL_book : y_TL_book.cls = "TollLedger" ∧ y_TL_book.cls ≠ "java/lang/invoke/MethodHandle" ∧ y_TL_book.cls ≠ "java/lang/invoke/VarHandle" ∧ (parseMethodDescriptor y_TL_book.desc).map (fun d => d.parameters.length) = some 3 := by decide +kernel
theorem hy_TL_offerOf : y_TL_offerOf.cls = "TollLedger" ∧ y_TL_offerOf.cls ≠ "java/lang/invoke/MethodHandle" ∧ y_TL_offerOf.cls ≠ "java/lang/invoke/VarHandle" ∧ (parseMethodDescriptor y_TL_offerOf.desc).map (fun d => d.parameters.length) = some 2 := by decide +kernel
theorem hy_TL_depositOf : y_TL_depositOf.cls = "TollLedger" ∧ y_TL_depositOf.cls ≠ "java/lang/invoke/MethodHandle" ∧ y_TL_depositOf.cls ≠ "java/lang/invoke/VarHandle" ∧ (parseMethodDescriptor y_TL_depositOf.desc).map (fun d => d.parameters.length) = some 1 := by decide +kernel
theorem hy_TL_burnt : y_TL_burnt.cls = "TollLedger" ∧ y_TL_burnt.cls ≠ "java/lang/invoke/MethodHandle" ∧ y_TL_burnt.cls ≠ "java/lang/invoke/VarHandle" ∧ (parseMethodDescriptor y_TL_burnt.desc).map (fun d => d.parameters.length) = some 0 := by decide +kernel
theorem hy_TL_root : y_TL_root.cls = "TollLedger" ∧ y_TL_root.cls ≠ "java/lang/invoke/MethodHandle" ∧ y_TL_root.cls ≠ "java/lang/invoke/VarHandle" ∧ (parseMethodDescriptor y_TL_root.desc).map (fun d => d.parameters.length) = some 0 := by decide +kernel
theorem hy_LV_fill : y_LV_fill.cls = "TollLedger$Leaves" ∧ y_LV_fill.cls ≠ "java/lang/invoke/MethodHandle" ∧ y_LV_fill.cls ≠ "java/lang/invoke/VarHandle" ∧ (parseMethodDescriptor y_LV_fill.desc).map (fun d => d.parameters.length) = some 1 := by decide +kernel
theorem hy_AR_fill : y_AR_fill.cls ≠ "java/lang/invoke/MethodHandle" ∧ y_AR_fill.cls ≠ "java/lang/invoke/VarHandle" ∧ (parseMethodDescriptor y_AR_fill.desc).map (fun d => d.parameters.length) = some 2 := by decide +kernel
theorem hy_AC_leaf : y_AC_leaf.cls = "TollLedger$Account" ∧ y_AC_leaf.cls ≠ "java/lang/invoke/MethodHandle" ∧ y_AC_leaf.cls ≠ "java/lang/invoke/VarHandle" ∧ (parseMethodDescriptor y_AC_leaf.desc).map (fun d => d.parameters.length) = some 0 := by decide +kernel
theorem hy_LV_fillLines : y_LV_fillLines.cls = "TollLedger$Leaves" ∧ y_LV_fillLines.cls ≠ "java/lang/invoke/MethodHandle" ∧ y_LV_fillLines.cls ≠ "java/lang/invoke/VarHandle" ∧ (parseMethodDescriptor y_LV_fillLines.desc).map (fun d => d.parameters.length) = some 1 := by decide +kernel
theorem hy_LN_leaf : y_LN_leaf.cls = "TollLedger$Lines" ∧ y_LN_leaf.cls ≠ "java/lang/invoke/MethodHandle" ∧ y_LN_leaf.cls ≠ "java/lang/invoke/VarHandle" ∧ (parseMethodDescriptor y_LN_leaf.desc).map (fun d => d.parameters.length) = some 3 := by decide +kernel
theorem hy_OF_leaf : y_OF_leaf.cls = "TollLedger$Offer" ∧ y_OF_leaf.cls ≠ "java/lang/invoke/MethodHandle" ∧ y_OF_leaf.cls ≠ "java/lang/invoke/VarHandle" ∧ (parseMethodDescriptor y_OF_leaf.desc).map (fun d => d.parameters.length) = some 0 := by decide +kernel
theorem hy_DP_leaf : y_DP_leaf.cls = "TollLedger$Deposit" ∧ y_DP_leaf.cls ≠ "java/lang/invoke/MethodHandle" ∧ y_DP_leaf.cls ≠ "java/lang/invoke/VarHandle" ∧ (parseMethodDescriptor y_DP_leaf.desc).map (fun d => d.parameters.length) = some 0 := by decide +kernel
theorem hy_LV_fold : y_LV_fold.cls = "TollLedger$Leaves" ∧ y_LV_fold.cls ≠ "java/lang/invoke/MethodHandle" ∧ y_LV_fold.cls ≠ "java/lang/invoke/VarHandle" ∧ (parseMethodDescriptor y_LV_fold.desc).map (fun d => d.parameters.length) = some 0 := by decide +kernel
theorem hy_LV_inner : y_LV_inner.cls = "TollLedger$Leaves" ∧ y_LV_inner.cls ≠ "java/lang/invoke/MethodHandle" ∧ y_LV_inner.cls ≠ "java/lang/invoke/VarHandle" ∧ (parseMethodDescriptor y_LV_inner.desc).map (fun d => d.parameters.length) = some 1 := by decide +kernel
theorem hy_LV_mix : y_LV_mix.cls ≠ "java/lang/invoke/MethodHandle" ∧ y_LV_mix.cls ≠ "java/lang/invoke/VarHandle" ∧ (parseMethodDescriptor y_LV_mix.desc).map (fun d => d.parameters.length) = some 2 := by decide +kernel
theorem hy_MD_init : y_MD_init.cls = "TollLedgerModel" ∧ y_MD_init.cls ≠ "java/lang/invoke/MethodHandle" ∧ y_MD_init.cls ≠ "java/lang/invoke/VarHandle" ∧ (parseMethodDescriptor y_MD_init.desc).map (fun d => d.parameters.length) = some 0 := by decide +kernel
theorem hy_MD_by : y_MD_by.cls = "TollLedgerModel" ∧ y_MD_by.cls ≠ "java/lang/invoke/MethodHandle" ∧ y_MD_by.cls ≠ "java/lang/invoke/VarHandle" ∧ (parseMethodDescriptor y_MD_by.desc).map (fun d => d.parameters.length) = some 2 := by decide +kernel
theorem hy_MD_isAccount : y_MD_isAccount.cls ≠ "java/lang/invoke/MethodHandle" ∧ y_MD_isAccount.cls ≠ "java/lang/invoke/VarHandle" ∧ (parseMethodDescriptor y_MD_isAccount.desc).map (fun d => d.parameters.length) = some 1 := by decide +kernel
theorem hy_MD_spend : y_MD_spend.cls = "TollLedgerModel" ∧ y_MD_spend.cls ≠ "java/lang/invoke/MethodHandle" ∧ y_MD_spend.cls ≠ "java/lang/invoke/VarHandle" ∧ (parseMethodDescriptor y_MD_spend.desc).map (fun d => d.parameters.length) = some 3 := by decide +kernel
theorem hy_MD_isAsset : y_MD_isAsset.cls ≠ "java/lang/invoke/MethodHandle" ∧ y_MD_isAsset.cls ≠ "java/lang/invoke/VarHandle" ∧ (parseMethodDescriptor y_MD_isAsset.desc).map (fun d => d.parameters.length) = some 1 := by decide +kernel
theorem hy_MD_send : y_MD_send.cls = "TollLedgerModel" ∧ y_MD_send.cls ≠ "java/lang/invoke/MethodHandle" ∧ y_MD_send.cls ≠ "java/lang/invoke/VarHandle" ∧ (parseMethodDescriptor y_MD_send.desc).map (fun d => d.parameters.length) = some 2 := by decide +kernel
theorem hy_MD_begin : y_MD_begin.cls = "TollLedgerModel" ∧ y_MD_begin.cls ≠ "java/lang/invoke/MethodHandle" ∧ y_MD_begin.cls ≠ "java/lang/invoke/VarHandle" ∧ (parseMethodDescriptor y_MD_begin.desc).map (fun d => d.parameters.length) = some 1 := by decide +kernel
theorem hy_MD_fundsIn : y_MD_fundsIn.cls = "TollLedgerModel" ∧ y_MD_fundsIn.cls ≠ "java/lang/invoke/MethodHandle" ∧ y_MD_fundsIn.cls ≠ "java/lang/invoke/VarHandle" ∧ (parseMethodDescriptor y_MD_fundsIn.desc).map (fun d => d.parameters.length) = some 2 := by decide +kernel
theorem hy_MD_issuerOf : y_MD_issuerOf.cls ≠ "java/lang/invoke/MethodHandle" ∧ y_MD_issuerOf.cls ≠ "java/lang/invoke/VarHandle" ∧ (parseMethodDescriptor y_MD_issuerOf.desc).map (fun d => d.parameters.length) = some 1 := by decide +kernel
theorem hy_MD_reserve : y_MD_reserve.cls = "TollLedgerModel" ∧ y_MD_reserve.cls ≠ "java/lang/invoke/MethodHandle" ∧ y_MD_reserve.cls ≠ "java/lang/invoke/VarHandle" ∧ (parseMethodDescriptor y_MD_reserve.desc).map (fun d => d.parameters.length) = some 1 := by decide +kernel
theorem hy_MD_pieces : y_MD_pieces.cls = "TollLedgerModel" ∧ y_MD_pieces.cls ≠ "java/lang/invoke/MethodHandle" ∧ y_MD_pieces.cls ≠ "java/lang/invoke/VarHandle" ∧ (parseMethodDescriptor y_MD_pieces.desc).map (fun d => d.parameters.length) = some 1 := by decide +kernel
theorem hy_MD_owns : y_MD_owns.cls = "TollLedgerModel" ∧ y_MD_owns.cls ≠ "java/lang/invoke/MethodHandle" ∧ y_MD_owns.cls ≠ "java/lang/invoke/VarHandle" ∧ (parseMethodDescriptor y_MD_owns.desc).map (fun d => d.parameters.length) = some 1 := by decide +kernel
theorem hy_MD_holding : y_MD_holding.cls ≠ "java/lang/invoke/MethodHandle" ∧ y_MD_holding.cls ≠ "java/lang/invoke/VarHandle" ∧ (parseMethodDescriptor y_MD_holding.desc).map (fun d => d.parameters.length) = some 2 := by decide +kernel
theorem hy_MD_currencyOf : y_MD_currencyOf.cls ≠ "java/lang/invoke/MethodHandle" ∧ y_MD_currencyOf.cls ≠ "java/lang/invoke/VarHandle" ∧ (parseMethodDescriptor y_MD_currencyOf.desc).map (fun d => d.parameters.length) = some 1 := by decide +kernel
theorem hy_MD_line : y_MD_line.cls ≠ "java/lang/invoke/MethodHandle" ∧ y_MD_line.cls ≠ "java/lang/invoke/VarHandle" ∧ (parseMethodDescriptor y_MD_line.desc).map (fun d => d.parameters.length) = some 3 := by decide +kernel
theorem hy_MD_trust : y_MD_trust.cls = "TollLedgerModel" ∧ y_MD_trust.cls ≠ "java/lang/invoke/MethodHandle" ∧ y_MD_trust.cls ≠ "java/lang/invoke/VarHandle" ∧ (parseMethodDescriptor y_MD_trust.desc).map (fun d => d.parameters.length) = some 4 := by decide +kernel
theorem hy_MD_rate : y_MD_rate.cls = "TollLedgerModel" ∧ y_MD_rate.cls ≠ "java/lang/invoke/MethodHandle" ∧ y_MD_rate.cls ≠ "java/lang/invoke/VarHandle" ∧ (parseMethodDescriptor y_MD_rate.desc).map (fun d => d.parameters.length) = some 1 := by decide +kernel
theorem hy_MD_pay : y_MD_pay.cls = "TollLedgerModel" ∧ y_MD_pay.cls ≠ "java/lang/invoke/MethodHandle" ∧ y_MD_pay.cls ≠ "java/lang/invoke/VarHandle" ∧ (parseMethodDescriptor y_MD_pay.desc).map (fun d => d.parameters.length) = some 3 := by decide +kernel
theorem hy_MD_spending : y_MD_spending.cls = "TollLedgerModel" ∧ y_MD_spending.cls ≠ "java/lang/invoke/MethodHandle" ∧ y_MD_spending.cls ≠ "java/lang/invoke/VarHandle" ∧ (parseMethodDescriptor y_MD_spending.desc).map (fun d => d.parameters.length) = some 3 := by decide +kernel
theorem hy_MD_costOf : y_MD_costOf.cls = "TollLedgerModel" ∧ y_MD_costOf.cls ≠ "java/lang/invoke/MethodHandle" ∧ y_MD_costOf.cls ≠ "java/lang/invoke/VarHandle" ∧ (parseMethodDescriptor y_MD_costOf.desc).map (fun d => d.parameters.length) = some 4 := by decide +kernel
theorem hy_MD_take : y_MD_take.cls = "TollLedgerModel" ∧ y_MD_take.cls ≠ "java/lang/invoke/MethodHandle" ∧ y_MD_take.cls ≠ "java/lang/invoke/VarHandle" ∧ (parseMethodDescriptor y_MD_take.desc).map (fun d => d.parameters.length) = some 6 := by decide +kernel
theorem hy_MD_nextOf : y_MD_nextOf.cls = "TollLedgerModel" ∧ y_MD_nextOf.cls ≠ "java/lang/invoke/MethodHandle" ∧ y_MD_nextOf.cls ≠ "java/lang/invoke/VarHandle" ∧ (parseMethodDescriptor y_MD_nextOf.desc).map (fun d => d.parameters.length) = some 3 := by decide +kernel
theorem hy_MD_inBook : y_MD_inBook.cls = "TollLedgerModel" ∧ y_MD_inBook.cls ≠ "java/lang/invoke/MethodHandle" ∧ y_MD_inBook.cls ≠ "java/lang/invoke/VarHandle" ∧ (parseMethodDescriptor y_MD_inBook.desc).map (fun d => d.parameters.length) = some 3 := by decide +kernel
theorem hy_MD_ahead : y_MD_ahead.cls = "TollLedgerModel" ∧ y_MD_ahead.cls ≠ "java/lang/invoke/MethodHandle" ∧ y_MD_ahead.cls ≠ "java/lang/invoke/VarHandle" ∧ (parseMethodDescriptor y_MD_ahead.desc).map (fun d => d.parameters.length) = some 2 := by decide +kernel
theorem hy_MD_canTake : y_MD_canTake.cls = "TollLedgerModel" ∧ y_MD_canTake.cls ≠ "java/lang/invoke/MethodHandle" ∧ y_MD_canTake.cls ≠ "java/lang/invoke/VarHandle" ∧ (parseMethodDescriptor y_MD_canTake.desc).map (fun d => d.parameters.length) = some 6 := by decide +kernel
theorem hy_MD_priceOf : y_MD_priceOf.cls = "TollLedgerModel" ∧ y_MD_priceOf.cls ≠ "java/lang/invoke/MethodHandle" ∧ y_MD_priceOf.cls ≠ "java/lang/invoke/VarHandle" ∧ (parseMethodDescriptor y_MD_priceOf.desc).map (fun d => d.parameters.length) = some 2 := by decide +kernel
theorem hy_MD_note : y_MD_note.cls = "TollLedgerModel" ∧ y_MD_note.cls ≠ "java/lang/invoke/MethodHandle" ∧ y_MD_note.cls ≠ "java/lang/invoke/VarHandle" ∧ (parseMethodDescriptor y_MD_note.desc).map (fun d => d.parameters.length) = some 4 := by decide +kernel
theorem hy_MD_carryOut : y_MD_carryOut.cls = "TollLedgerModel" ∧ y_MD_carryOut.cls ≠ "java/lang/invoke/MethodHandle" ∧ y_MD_carryOut.cls ≠ "java/lang/invoke/VarHandle" ∧ (parseMethodDescriptor y_MD_carryOut.desc).map (fun d => d.parameters.length) = some 2 := by decide +kernel
theorem hy_MD_change : y_MD_change.cls = "TollLedgerModel" ∧ y_MD_change.cls ≠ "java/lang/invoke/MethodHandle" ∧ y_MD_change.cls ≠ "java/lang/invoke/VarHandle" ∧ (parseMethodDescriptor y_MD_change.desc).map (fun d => d.parameters.length) = some 3 := by decide +kernel
theorem hy_MD_moveOffer : y_MD_moveOffer.cls = "TollLedgerModel" ∧ y_MD_moveOffer.cls ≠ "java/lang/invoke/MethodHandle" ∧ y_MD_moveOffer.cls ≠ "java/lang/invoke/VarHandle" ∧ (parseMethodDescriptor y_MD_moveOffer.desc).map (fun d => d.parameters.length) = some 2 := by decide +kernel
theorem hy_MD_offer : y_MD_offer.cls = "TollLedgerModel" ∧ y_MD_offer.cls ≠ "java/lang/invoke/MethodHandle" ∧ y_MD_offer.cls ≠ "java/lang/invoke/VarHandle" ∧ (parseMethodDescriptor y_MD_offer.desc).map (fun d => d.parameters.length) = some 5 := by decide +kernel
theorem hy_MD_place : y_MD_place.cls = "TollLedgerModel" ∧ y_MD_place.cls ≠ "java/lang/invoke/MethodHandle" ∧ y_MD_place.cls ≠ "java/lang/invoke/VarHandle" ∧ (parseMethodDescriptor y_MD_place.desc).map (fun d => d.parameters.length) = some 4 := by decide +kernel
theorem hy_MD_cancel : y_MD_cancel.cls = "TollLedgerModel" ∧ y_MD_cancel.cls ≠ "java/lang/invoke/MethodHandle" ∧ y_MD_cancel.cls ≠ "java/lang/invoke/VarHandle" ∧ (parseMethodDescriptor y_MD_cancel.desc).map (fun d => d.parameters.length) = some 1 := by decide +kernel
theorem hy_MD_findOffer : y_MD_findOffer.cls = "TollLedgerModel" ∧ y_MD_findOffer.cls ≠ "java/lang/invoke/MethodHandle" ∧ y_MD_findOffer.cls ≠ "java/lang/invoke/VarHandle" ∧ (parseMethodDescriptor y_MD_findOffer.desc).map (fun d => d.parameters.length) = some 1 := by decide +kernel
theorem hy_MD_deposit : y_MD_deposit.cls = "TollLedgerModel" ∧ y_MD_deposit.cls ≠ "java/lang/invoke/MethodHandle" ∧ y_MD_deposit.cls ≠ "java/lang/invoke/VarHandle" ∧ (parseMethodDescriptor y_MD_deposit.desc).map (fun d => d.parameters.length) = some 4 := by decide +kernel
theorem hy_MD_settle : y_MD_settle.cls = "TollLedgerModel" ∧ y_MD_settle.cls ≠ "java/lang/invoke/MethodHandle" ∧ y_MD_settle.cls ≠ "java/lang/invoke/VarHandle" ∧ (parseMethodDescriptor y_MD_settle.desc).map (fun d => d.parameters.length) = some 1 := by decide +kernel
theorem hy_MD_findDeposit : y_MD_findDeposit.cls = "TollLedgerModel" ∧ y_MD_findDeposit.cls ≠ "java/lang/invoke/MethodHandle" ∧ y_MD_findDeposit.cls ≠ "java/lang/invoke/VarHandle" ∧ (parseMethodDescriptor y_MD_findDeposit.desc).map (fun d => d.parameters.length) = some 1 := by decide +kernel
theorem hy_MD_tick : y_MD_tick.cls = "TollLedgerModel" ∧ y_MD_tick.cls ≠ "java/lang/invoke/MethodHandle" ∧ y_MD_tick.cls ≠ "java/lang/invoke/VarHandle" ∧ (parseMethodDescriptor y_MD_tick.desc).map (fun d => d.parameters.length) = some 1 := by decide +kernel
theorem hy_MD_account : y_MD_account.cls = "TollLedgerModel" ∧ y_MD_account.cls ≠ "java/lang/invoke/MethodHandle" ∧ y_MD_account.cls ≠ "java/lang/invoke/VarHandle" ∧ (parseMethodDescriptor y_MD_account.desc).map (fun d => d.parameters.length) = some 2 := by decide +kernel
theorem hy_MD_balance : y_MD_balance.cls = "TollLedgerModel" ∧ y_MD_balance.cls ≠ "java/lang/invoke/MethodHandle" ∧ y_MD_balance.cls ≠ "java/lang/invoke/VarHandle" ∧ (parseMethodDescriptor y_MD_balance.desc).map (fun d => d.parameters.length) = some 3 := by decide +kernel
theorem hy_MD_isLine : y_MD_isLine.cls ≠ "java/lang/invoke/MethodHandle" ∧ y_MD_isLine.cls ≠ "java/lang/invoke/VarHandle" ∧ (parseMethodDescriptor y_MD_isLine.desc).map (fun d => d.parameters.length) = some 3 := by decide +kernel
theorem hy_MD_limit : y_MD_limit.cls = "TollLedgerModel" ∧ y_MD_limit.cls ≠ "java/lang/invoke/MethodHandle" ∧ y_MD_limit.cls ≠ "java/lang/invoke/VarHandle" ∧ (parseMethodDescriptor y_MD_limit.desc).map (fun d => d.parameters.length) = some 3 := by decide +kernel
theorem hy_MD_funds : y_MD_funds.cls = "TollLedgerModel" ∧ y_MD_funds.cls ≠ "java/lang/invoke/MethodHandle" ∧ y_MD_funds.cls ≠ "java/lang/invoke/VarHandle" ∧ (parseMethodDescriptor y_MD_funds.desc).map (fun d => d.parameters.length) = some 2 := by decide +kernel
theorem hy_MD_book : y_MD_book.cls = "TollLedgerModel" ∧ y_MD_book.cls ≠ "java/lang/invoke/MethodHandle" ∧ y_MD_book.cls ≠ "java/lang/invoke/VarHandle" ∧ (parseMethodDescriptor y_MD_book.desc).map (fun d => d.parameters.length) = some 3 := by decide +kernel
theorem hy_MD_offerOf : y_MD_offerOf.cls = "TollLedgerModel" ∧ y_MD_offerOf.cls ≠ "java/lang/invoke/MethodHandle" ∧ y_MD_offerOf.cls ≠ "java/lang/invoke/VarHandle" ∧ (parseMethodDescriptor y_MD_offerOf.desc).map (fun d => d.parameters.length) = some 2 := by decide +kernel
theorem hy_MD_depositOf : y_MD_depositOf.cls = "TollLedgerModel" ∧ y_MD_depositOf.cls ≠ "java/lang/invoke/MethodHandle" ∧ y_MD_depositOf.cls ≠ "java/lang/invoke/VarHandle" ∧ (parseMethodDescriptor y_MD_depositOf.desc).map (fun d => d.parameters.length) = some 1 := by decide +kernel
theorem hy_MD_burnt : y_MD_burnt.cls = "TollLedgerModel" ∧ y_MD_burnt.cls ≠ "java/lang/invoke/MethodHandle" ∧ y_MD_burnt.cls ≠ "java/lang/invoke/VarHandle" ∧ (parseMethodDescriptor y_MD_burnt.desc).map (fun d => d.parameters.length) = some 0 := by decide +kernel
theorem hy_MD_root : y_MD_root.cls = "TollLedgerModel" ∧ y_MD_root.cls ≠ "java/lang/invoke/MethodHandle" ∧ y_MD_root.cls ≠ "java/lang/invoke/VarHandle" ∧ (parseMethodDescriptor y_MD_root.desc).map (fun d => d.parameters.length) = some 0 := by decide +kernel
theorem hy_MD_leaf : y_MD_leaf.cls = "TollLedgerModel" ∧ y_MD_leaf.cls ≠ "java/lang/invoke/MethodHandle" ∧ y_MD_leaf.cls ≠ "java/lang/invoke/VarHandle" ∧ (parseMethodDescriptor y_MD_leaf.desc).map (fun d => d.parameters.length) = some 1 := by decide +kernel
theorem hy_MD_lineLeaf : y_MD_lineLeaf.cls = "TollLedgerModel" ∧ y_MD_lineLeaf.cls ≠ "java/lang/invoke/MethodHandle" ∧ y_MD_lineLeaf.cls ≠ "java/lang/invoke/VarHandle" ∧ (parseMethodDescriptor y_MD_lineLeaf.desc).map (fun d => d.parameters.length) = some 1 := by decide +kernel
theorem hy_MD_join : y_MD_join.cls ≠ "java/lang/invoke/MethodHandle" ∧ y_MD_join.cls ≠ "java/lang/invoke/VarHandle" ∧ (parseMethodDescriptor y_MD_join.desc).map (fun d => d.parameters.length) = some 2 := by decide +kernel
end
section
section
variable {l : Launch} {D : va_G} {ad : Nat → Nat} {cs : Nat → ClassId} {eE : Nat}
theorem d_MD_currencyOf_0 : decode b_MD_currencyOf 0 = .ok (.iconst 1, 1) := by decide +kernel
theorem d_MD_currencyOf_1 : decode b_MD_currencyOf 1 = .ok (.iload_n 0, 1) := by decide +kernel
theorem d_MD_currencyOf_2 : decode b_MD_currencyOf 2 = .ok (.iconst 1, 1) := by decide +kernel
theorem d_MD_currencyOf_3 : decode b_MD_currencyOf 3 = .ok (.isub, 1) := by decide +kernel
theorem d_MD_currencyOf_4 : decode b_MD_currencyOf 4 = .ok (.bipush 6, 2) := by decide +kernel
theorem d_MD_currencyOf_6 : decode b_MD_currencyOf 6 = .ok (.idiv, 1) := by decide +kernel
theorem d_MD_currencyOf_7 : decode b_MD_currencyOf 7 = .ok (.iadd, 1) := by decide +kernel
theorem d_MD_currencyOf_8 : decode b_MD_currencyOf 8 = .ok (.ireturn, 1) := by decide +kernel
def MD_currencyOf (x0 : Int32) : Option (Int32) :=
  some ((1 : Int32) + ((x0 - (1 : Int32)) / (6 : Int32)))
set_option maxRecDepth 100000 in
set_option maxHeartbeats 4000000 in
theorem m_MD_currencyOf (l : Launch) (D : va_G) (ad : Nat → Nat) (cs : Nat → ClassId) (eE : Nat) (x0 : Int32) (σ : ST) {res : Int32} (hf : MD_currencyOf x0 = some res) : MS l y_MD_currencyOf (Cond.code y_MD_currencyOf b_MD_currencyOf 1 r_MD_currencyOf :: BIG) 0 0 0 0 (wfm ad cs) D (ttf cs) eE [.int x0] σ (PI res σ) := by
  refine MS.of (cc := b_MD_currencyOf) (maxL := 1) (ret := r_MD_currencyOf) (by decide) rfl (Nat.le_of_ble_eq_true rfl) (loc := [(0, .int x0)]) rfl (fun X C Rt => ?_)
  unfold MD_currencyOf at hf
  refine j_iconst C (v := 1) (by decide) d_MD_currencyOf_0 ?_
  refine j_iload_n C 0 rfl rfl d_MD_currencyOf_1 ?_
  refine j_iconst C (v := 1) (by decide) d_MD_currencyOf_2 ?_
  refine j_isub C d_MD_currencyOf_3 ?_
  refine j_bipush C (v := 6) (by decide) d_MD_currencyOf_4 ?_
  refine j_idiv C (by decide) d_MD_currencyOf_6 ?_
  refine j_iadd C d_MD_currencyOf_7 ?_
  cases hf
  exact j_iret C Rt (Nat.le_refl _) (Nat.le_refl _) d_MD_currencyOf_8 ⟨rfl, rfl⟩
theorem d_MD_issuerOf_0 : decode b_MD_issuerOf 0 = .ok (.iload_n 0, 1) := by decide +kernel
theorem d_MD_issuerOf_1 : decode b_MD_issuerOf 1 = .ok (.iconst 1, 1) := by decide +kernel
theorem d_MD_issuerOf_2 : decode b_MD_issuerOf 2 = .ok (.isub, 1) := by decide +kernel
theorem d_MD_issuerOf_3 : decode b_MD_issuerOf 3 = .ok (.bipush 6, 2) := by decide +kernel
theorem d_MD_issuerOf_5 : decode b_MD_issuerOf 5 = .ok (.irem, 1) := by decide +kernel
theorem d_MD_issuerOf_6 : decode b_MD_issuerOf 6 = .ok (.ireturn, 1) := by decide +kernel
def MD_issuerOf (x0 : Int32) : Option (Int32) :=
  some (imod (x0 - (1 : Int32)) (6 : Int32))
set_option maxRecDepth 100000 in
set_option maxHeartbeats 4000000 in
theorem m_MD_issuerOf (l : Launch) (D : va_G) (ad : Nat → Nat) (cs : Nat → ClassId) (eE : Nat) (x0 : Int32) (σ : ST) {res : Int32} (hf : MD_issuerOf x0 = some res) : MS l y_MD_issuerOf (Cond.code y_MD_issuerOf b_MD_issuerOf 1 r_MD_issuerOf :: BIG) 0 0 0 0 (wfm ad cs) D (ttf cs) eE [.int x0] σ (PI res σ) := by
  refine MS.of (cc := b_MD_issuerOf) (maxL := 1) (ret := r_MD_issuerOf) (by decide) rfl (Nat.le_of_ble_eq_true rfl) (loc := [(0, .int x0)]) rfl (fun X C Rt => ?_)
  unfold MD_issuerOf at hf
  refine j_iload_n C 0 rfl rfl d_MD_issuerOf_0 ?_
  refine j_iconst C (v := 1) (by decide) d_MD_issuerOf_1 ?_
  refine j_isub C d_MD_issuerOf_2 ?_
  refine j_bipush C (v := 6) (by decide) d_MD_issuerOf_3 ?_
  refine j_irem C (by decide) d_MD_issuerOf_5 ?_
  cases hf
  exact j_iret C Rt (Nat.le_refl _) (Nat.le_refl _) d_MD_issuerOf_6 ⟨rfl, rfl⟩
theorem d_MD_owns_0 : decode b_MD_owns 0 = .ok (.aload_n 0, 1) := by decide +kernel
theorem d_MD_owns_1 : decode b_MD_owns 1 = .ok (.getfield 26, 3) := by decide +kernel
theorem d_MD_owns_4 : decode b_MD_owns 4 = .ok (.iload_n 1, 1) := by decide +kernel
theorem d_MD_owns_5 : decode b_MD_owns 5 = .ok (.iaload, 1) := by decide +kernel
theorem d_MD_owns_6 : decode b_MD_owns 6 = .ok (.ifCond .gt 12, 3) := by decide +kernel
theorem d_MD_owns_9 : decode b_MD_owns 9 = .ok (.aload_n 0, 1) := by decide +kernel
theorem d_MD_owns_10 : decode b_MD_owns 10 = .ok (.getfield 23, 3) := by decide +kernel
theorem d_MD_owns_13 : decode b_MD_owns 13 = .ok (.iload_n 1, 1) := by decide +kernel
theorem d_MD_owns_14 : decode b_MD_owns 14 = .ok (.iaload, 1) := by decide +kernel
theorem d_MD_owns_15 : decode b_MD_owns 15 = .ok (.ifCond .le 7, 3) := by decide +kernel
theorem d_MD_owns_18 : decode b_MD_owns 18 = .ok (.iconst 1, 1) := by decide +kernel
theorem d_MD_owns_19 : decode b_MD_owns 19 = .ok (.goto 4, 3) := by decide +kernel
theorem d_MD_owns_22 : decode b_MD_owns 22 = .ok (.iconst 0, 1) := by decide +kernel
theorem d_MD_owns_23 : decode b_MD_owns 23 = .ok (.ireturn, 1) := by decide +kernel
def MD_owns (x1 : Int32) (σ : ST) : Option (Int32) :=
  if x1 < 0 ∨ 72 ≤ x1.toNatClampNeg then none else
  if 0 < (gA σ 13 x1.toNatClampNeg) then (some (1 : Int32))
  else (if (gA σ 12 x1.toNatClampNeg) ≤ 0 then (some (0 : Int32))
  else (some (1 : Int32)))
set_option maxRecDepth 100000 in
set_option maxHeartbeats 4000000 in
theorem m_MD_owns (l : Launch) (D : va_G) (ad : Nat → Nat) (cs : Nat → ClassId) (eE : Nat) (x1 : Int32) (σ : ST) {res : Int32} (hf : MD_owns x1 σ = some res) : MS l y_MD_owns (Cond.code y_MD_owns b_MD_owns 2 r_MD_owns :: BIG) 0 0 0 0 (wfm ad cs) D (ttf cs) eE [.ref (ad 18), .int x1] σ (PI res σ) := by
  refine MS.of (cc := b_MD_owns) (maxL := 2) (ret := r_MD_owns) (by decide) rfl (Nat.le_of_ble_eq_true rfl) (loc := [(0, .ref (ad 18)), (1, .int x1)]) rfl (fun X C Rt => ?_)
  unfold MD_owns at hf
  refine j_aload_n C 0 rfl rfl d_MD_owns_0 ?_
  refine g_MD_limits C (List.mem_cons_of_mem _ wd_4_24) d_MD_owns_1 ?_
  refine j_iload_n C 1 rfl rfl d_MD_owns_4 ?_
  obtain ⟨g5, hf⟩ := o_gn hf
  refine la_m_limits C g5 d_MD_owns_5 ?_
  refine j_if_gt C d_MD_owns_6 rfl (fun c6 => ?_) (fun c6 => ?_)
  · have hf := o_it c6 hf
    refine j_iconst C (v := 1) (by decide) d_MD_owns_18 ?_
    refine j_goto C d_MD_owns_19 rfl ?_
    cases hf
    exact j_zret C Rt (by decide) (Nat.le_refl _) (Nat.le_refl _) d_MD_owns_23 ⟨rfl, rfl⟩
  · have hf := o_if c6 hf
    refine j_aload_n C 0 rfl rfl d_MD_owns_9 ?_
    refine g_MD_balances C (List.mem_cons_of_mem _ wd_4_23) d_MD_owns_10 ?_
    refine j_iload_n C 1 rfl rfl d_MD_owns_13 ?_
    refine la_m_balances C g5 d_MD_owns_14 ?_
    refine j_if_le C d_MD_owns_15 rfl (fun c15 => ?_) (fun c15 => ?_)
    · have hf := o_it c15 hf
      refine j_iconst C (v := 0) (by decide) d_MD_owns_22 ?_
      cases hf
      exact j_zret C Rt (by decide) (Nat.le_refl _) (Nat.le_refl _) d_MD_owns_23 ⟨rfl, rfl⟩
    · have hf := o_if c15 hf
      refine j_iconst C (v := 1) (by decide) d_MD_owns_18 ?_
      refine j_goto C d_MD_owns_19 rfl ?_
      cases hf
      exact j_zret C Rt (by decide) (Nat.le_refl _) (Nat.le_refl _) d_MD_owns_23 ⟨rfl, rfl⟩
theorem d_MD_pieces_0 : decode b_MD_pieces 0 = .ok (.iconst 0, 1) := by decide +kernel
theorem d_MD_pieces_1 : decode b_MD_pieces 1 = .ok (.istore_n 2, 1) := by decide +kernel
theorem d_MD_pieces_2 : decode b_MD_pieces 2 = .ok (.iconst 0, 1) := by decide +kernel
theorem d_MD_pieces_3 : decode b_MD_pieces 3 = .ok (.istore_n 3, 1) := by decide +kernel
theorem d_MD_pieces_4 : decode b_MD_pieces 4 = .ok (.iload_n 3, 1) := by decide +kernel
theorem d_MD_pieces_5 : decode b_MD_pieces 5 = .ok (.bipush 12, 2) := by decide +kernel
theorem d_MD_pieces_7 : decode b_MD_pieces 7 = .ok (.if_icmp .ge 30, 3) := by decide +kernel
theorem d_MD_pieces_10 : decode b_MD_pieces 10 = .ok (.iload_n 2, 1) := by decide +kernel
theorem d_MD_pieces_11 : decode b_MD_pieces 11 = .ok (.aload_n 0, 1) := by decide +kernel
theorem d_MD_pieces_12 : decode b_MD_pieces 12 = .ok (.bipush 12, 2) := by decide +kernel
theorem d_MD_pieces_14 : decode b_MD_pieces 14 = .ok (.iload_n 1, 1) := by decide +kernel
theorem d_MD_pieces_15 : decode b_MD_pieces 15 = .ok (.imul, 1) := by decide +kernel
theorem d_MD_pieces_16 : decode b_MD_pieces 16 = .ok (.iload_n 3, 1) := by decide +kernel
theorem d_MD_pieces_17 : decode b_MD_pieces 17 = .ok (.iadd, 1) := by decide +kernel
theorem d_MD_pieces_18 : decode b_MD_pieces 18 = .ok (.invokevirtual 106, 3) := by decide +kernel
theorem d_MD_pieces_21 : decode b_MD_pieces 21 = .ok (.ifCond .eq 7, 3) := by decide +kernel
theorem d_MD_pieces_24 : decode b_MD_pieces 24 = .ok (.iconst 1, 1) := by decide +kernel
theorem d_MD_pieces_25 : decode b_MD_pieces 25 = .ok (.goto 4, 3) := by decide +kernel
theorem d_MD_pieces_28 : decode b_MD_pieces 28 = .ok (.iconst 0, 1) := by decide +kernel
theorem d_MD_pieces_29 : decode b_MD_pieces 29 = .ok (.iadd, 1) := by decide +kernel
theorem d_MD_pieces_30 : decode b_MD_pieces 30 = .ok (.istore_n 2, 1) := by decide +kernel
theorem d_MD_pieces_31 : decode b_MD_pieces 31 = .ok (.iinc 3 1, 3) := by decide +kernel
theorem d_MD_pieces_34 : decode b_MD_pieces 34 = .ok (.goto (-30), 3) := by decide +kernel
theorem d_MD_pieces_37 : decode b_MD_pieces 37 = .ok (.iconst 0, 1) := by decide +kernel
theorem d_MD_pieces_38 : decode b_MD_pieces 38 = .ok (.istore_n 3, 1) := by decide +kernel
theorem d_MD_pieces_39 : decode b_MD_pieces 39 = .ok (.iload_n 3, 1) := by decide +kernel
theorem d_MD_pieces_40 : decode b_MD_pieces 40 = .ok (.aload_n 0, 1) := by decide +kernel
theorem d_MD_pieces_41 : decode b_MD_pieces 41 = .ok (.getfield 110, 3) := by decide +kernel
theorem d_MD_pieces_44 : decode b_MD_pieces 44 = .ok (.if_icmp .ge 27, 3) := by decide +kernel
theorem d_MD_pieces_47 : decode b_MD_pieces 47 = .ok (.iload_n 2, 1) := by decide +kernel
theorem d_MD_pieces_48 : decode b_MD_pieces 48 = .ok (.aload_n 0, 1) := by decide +kernel
theorem d_MD_pieces_49 : decode b_MD_pieces 49 = .ok (.getfield 35, 3) := by decide +kernel
theorem d_MD_pieces_52 : decode b_MD_pieces 52 = .ok (.iload_n 3, 1) := by decide +kernel
theorem d_MD_pieces_53 : decode b_MD_pieces 53 = .ok (.iaload, 1) := by decide +kernel
theorem d_MD_pieces_54 : decode b_MD_pieces 54 = .ok (.iload_n 1, 1) := by decide +kernel
theorem d_MD_pieces_55 : decode b_MD_pieces 55 = .ok (.if_icmp .ne 7, 3) := by decide +kernel
theorem d_MD_pieces_58 : decode b_MD_pieces 58 = .ok (.iconst 1, 1) := by decide +kernel
theorem d_MD_pieces_59 : decode b_MD_pieces 59 = .ok (.goto 4, 3) := by decide +kernel
theorem d_MD_pieces_62 : decode b_MD_pieces 62 = .ok (.iconst 0, 1) := by decide +kernel
theorem d_MD_pieces_63 : decode b_MD_pieces 63 = .ok (.iadd, 1) := by decide +kernel
theorem d_MD_pieces_64 : decode b_MD_pieces 64 = .ok (.istore_n 2, 1) := by decide +kernel
theorem d_MD_pieces_65 : decode b_MD_pieces 65 = .ok (.iinc 3 1, 3) := by decide +kernel
theorem d_MD_pieces_68 : decode b_MD_pieces 68 = .ok (.goto (-29), 3) := by decide +kernel
theorem d_MD_pieces_71 : decode b_MD_pieces 71 = .ok (.iconst 0, 1) := by decide +kernel
theorem d_MD_pieces_72 : decode b_MD_pieces 72 = .ok (.istore_n 3, 1) := by decide +kernel
theorem d_MD_pieces_73 : decode b_MD_pieces 73 = .ok (.iload_n 3, 1) := by decide +kernel
theorem d_MD_pieces_74 : decode b_MD_pieces 74 = .ok (.aload_n 0, 1) := by decide +kernel
theorem d_MD_pieces_75 : decode b_MD_pieces 75 = .ok (.getfield 113, 3) := by decide +kernel
theorem d_MD_pieces_78 : decode b_MD_pieces 78 = .ok (.if_icmp .ge 27, 3) := by decide +kernel
theorem d_MD_pieces_81 : decode b_MD_pieces 81 = .ok (.iload_n 2, 1) := by decide +kernel
theorem d_MD_pieces_82 : decode b_MD_pieces 82 = .ok (.aload_n 0, 1) := by decide +kernel
theorem d_MD_pieces_83 : decode b_MD_pieces 83 = .ok (.getfield 53, 3) := by decide +kernel
theorem d_MD_pieces_86 : decode b_MD_pieces 86 = .ok (.iload_n 3, 1) := by decide +kernel
theorem d_MD_pieces_87 : decode b_MD_pieces 87 = .ok (.iaload, 1) := by decide +kernel
theorem d_MD_pieces_88 : decode b_MD_pieces 88 = .ok (.iload_n 1, 1) := by decide +kernel
theorem d_MD_pieces_89 : decode b_MD_pieces 89 = .ok (.if_icmp .ne 7, 3) := by decide +kernel
theorem d_MD_pieces_92 : decode b_MD_pieces 92 = .ok (.iconst 1, 1) := by decide +kernel
theorem d_MD_pieces_93 : decode b_MD_pieces 93 = .ok (.goto 4, 3) := by decide +kernel
theorem d_MD_pieces_96 : decode b_MD_pieces 96 = .ok (.iconst 0, 1) := by decide +kernel
theorem d_MD_pieces_97 : decode b_MD_pieces 97 = .ok (.iadd, 1) := by decide +kernel
theorem d_MD_pieces_98 : decode b_MD_pieces 98 = .ok (.istore_n 2, 1) := by decide +kernel
theorem d_MD_pieces_99 : decode b_MD_pieces 99 = .ok (.iinc 3 1, 3) := by decide +kernel
theorem d_MD_pieces_102 : decode b_MD_pieces 102 = .ok (.goto (-29), 3) := by decide +kernel
theorem d_MD_pieces_105 : decode b_MD_pieces 105 = .ok (.iload_n 2, 1) := by decide +kernel
theorem d_MD_pieces_106 : decode b_MD_pieces 106 = .ok (.ireturn, 1) := by decide +kernel
def MD_pieces_c97 (kb73 : Int32 → Int32 → Int32 → ST → Option (Int32)) (x1 : Int32) (x3 : Int32) (s0 : Int32) (s1 : Int32) (σ : ST) : Option (Int32) :=
  nmI (s0 + s1) fun x2_98 =>
  kb73 x1 x2_98 (x3 + 1) σ
set_option maxRecDepth 100000 in
set_option maxHeartbeats 4000000 in
theorem w_MD_pieces_c97 {X : JX} (C : JC X l D (ttf cs) eE b_MD_pieces "TollLedgerModel" 4 (Cond.code y_MD_pieces b_MD_pieces 4 r_MD_pieces :: BIG) 1 21 0 0) {σ : ST} {res : Int32} (Rt : JR X (wfm ad cs) 0 0 (PI res σ) r_MD_pieces "pieces") {kb73 : Int32 → Int32 → Int32 → ST → Option (Int32)} (hk73 : ∀ (x1 : Int32) (x2 : Int32) (x3 : Int32), kb73 x1 x2 x3 σ = some res → J (wfm ad cs) X 4 0 0 σ 73 [(0, .ref (ad 18)), (1, .int x1), (2, .int x2), (3, .int x3)] []) (x1 : Int32) (x3 : Int32) (s0 : Int32) (s1 : Int32) (hf : MD_pieces_c97 kb73 x1 x3 s0 s1 σ = some res) : J (wfm ad cs) X 4 0 0 σ 97 [(0, .ref (ad 18)), (1, .int x1), (3, .int x3)] [.int s1, .int s0] := by
  unfold MD_pieces_c97 at hf
  refine j_iadd C d_MD_pieces_97 ?_
  obtain ⟨x2_98, ex2_98, hf⟩ := o_nmI hf
  refine j_topI ex2_98 ?_
  refine j_istore_n C rfl (by decide) (loc' := [(2, .int x2_98), (0, .ref (ad 18)), (1, .int x1), (3, .int x3)]) rfl d_MD_pieces_98 ?_
  refine j_iinc C 3 rfl (v := (x3 + 1)) (inc_p1 _) (by decide) (loc' := [(3, .int (x3 + 1)), (2, .int x2_98), (0, .ref (ad 18)), (1, .int x1)]) rfl d_MD_pieces_99 ?_
  refine j_goto C d_MD_pieces_102 rfl ?_
  refine j_sub [2, 3, 1, 0] rfl ?_
  exact hk73 x1 x2_98 (x3 + 1) hf
def MD_pieces_b73 (kb73 : Int32 → Int32 → Int32 → ST → Option (Int32)) (x1 : Int32) (x2 : Int32) (x3 : Int32) (σ : ST) : Option (Int32) :=
  if (gI σ 23) ≤ x3 then (some x2)
  else (if x3 < 0 ∨ 6 ≤ x3.toNatClampNeg then none else
  if (gA σ 22 x3.toNatClampNeg) = x1 then (MD_pieces_c97 kb73 x1 x3 x2 (1 : Int32) σ)
  else (MD_pieces_c97 kb73 x1 x3 x2 (0 : Int32) σ))
set_option maxRecDepth 100000 in
set_option maxHeartbeats 4000000 in
theorem w_MD_pieces_b73 {X : JX} (C : JC X l D (ttf cs) eE b_MD_pieces "TollLedgerModel" 4 (Cond.code y_MD_pieces b_MD_pieces 4 r_MD_pieces :: BIG) 1 21 0 0) {σ : ST} {res : Int32} (Rt : JR X (wfm ad cs) 0 0 (PI res σ) r_MD_pieces "pieces") {kb73 : Int32 → Int32 → Int32 → ST → Option (Int32)} (hk73 : ∀ (x1 : Int32) (x2 : Int32) (x3 : Int32), kb73 x1 x2 x3 σ = some res → J (wfm ad cs) X 4 0 0 σ 73 [(0, .ref (ad 18)), (1, .int x1), (2, .int x2), (3, .int x3)] []) (x1 : Int32) (x2 : Int32) (x3 : Int32) (hf : MD_pieces_b73 kb73 x1 x2 x3 σ = some res) : J (wfm ad cs) X 4 0 0 σ 73 [(0, .ref (ad 18)), (1, .int x1), (2, .int x2), (3, .int x3)] [] := by
  unfold MD_pieces_b73 at hf
  refine j_iload_n C 3 rfl rfl d_MD_pieces_73 ?_
  refine j_aload_n C 0 rfl rfl d_MD_pieces_74 ?_
  refine g_MD_deposits C (List.mem_cons_of_mem _ wd_4_34) d_MD_pieces_75 ?_
  refine j_icmp_ge C d_MD_pieces_78 rfl (fun c78 => ?_) (fun c78 => ?_)
  · have hf := o_it c78 hf
    refine j_iload_n C 2 rfl rfl d_MD_pieces_105 ?_
    cases hf
    exact j_iret C Rt (Nat.le_refl _) (Nat.le_refl _) d_MD_pieces_106 ⟨rfl, rfl⟩
  · have hf := o_if c78 hf
    refine j_iload_n C 2 rfl rfl d_MD_pieces_81 ?_
    refine j_aload_n C 0 rfl rfl d_MD_pieces_82 ?_
    refine g_MD_fromOf C (List.mem_cons_of_mem _ wd_4_37) d_MD_pieces_83 ?_
    refine j_iload_n C 3 rfl rfl d_MD_pieces_86 ?_
    obtain ⟨g87, hf⟩ := o_gn hf
    refine la_m_fromOf C g87 d_MD_pieces_87 ?_
    refine j_iload_n C 1 rfl rfl d_MD_pieces_88 ?_
    refine j_icmp_ne C d_MD_pieces_89 rfl (fun c89 => ?_) (fun c89 => ?_)
    · have hf := o_if c89 hf
      refine j_iconst C (v := 0) (by decide) d_MD_pieces_96 ?_
      refine j_sub [0, 1, 3] rfl ?_
      exact w_MD_pieces_c97 C Rt hk73 x1 x3 x2 (0 : Int32) hf
    · have hf := o_it c89 hf
      refine j_iconst C (v := 1) (by decide) d_MD_pieces_92 ?_
      refine j_goto C d_MD_pieces_93 rfl ?_
      refine j_sub [0, 1, 3] rfl ?_
      exact w_MD_pieces_c97 C Rt hk73 x1 x3 x2 (1 : Int32) hf
def MD_pieces_L73 : Nat → Int32 → Int32 → Int32 → ST → Option (Int32)
  | 0, _, _, _, _ => none
  | N + 1, x1, x2, x3, σ => MD_pieces_b73 (fun x1 x2 x3 σ => MD_pieces_L73 N x1 x2 x3 σ) x1 x2 x3 σ
theorem w_MD_pieces_L73 {X : JX} (C : JC X l D (ttf cs) eE b_MD_pieces "TollLedgerModel" 4 (Cond.code y_MD_pieces b_MD_pieces 4 r_MD_pieces :: BIG) 1 21 0 0) {σ : ST} {res : Int32} (Rt : JR X (wfm ad cs) 0 0 (PI res σ) r_MD_pieces "pieces")  (N : Nat) (x1 : Int32) (x2 : Int32) (x3 : Int32) (hf : MD_pieces_L73 N x1 x2 x3 σ = some res) : J (wfm ad cs) X 4 0 0 σ 73 [(0, .ref (ad 18)), (1, .int x1), (2, .int x2), (3, .int x3)] [] := by
  induction N generalizing x1 x2 x3 with
  | zero => exact nomatch hf
  | succ N ih => exact w_MD_pieces_b73 C Rt  (fun x1 x2 x3 h => ih x1 x2 x3 h) x1 x2 x3 hf
def MD_pieces_c63 (kb39 : Int32 → Int32 → Int32 → ST → Option (Int32)) (x1 : Int32) (x3 : Int32) (s0 : Int32) (s1 : Int32) (σ : ST) : Option (Int32) :=
  nmI (s0 + s1) fun x2_64 =>
  kb39 x1 x2_64 (x3 + 1) σ
set_option maxRecDepth 100000 in
set_option maxHeartbeats 4000000 in
theorem w_MD_pieces_c63 {X : JX} (C : JC X l D (ttf cs) eE b_MD_pieces "TollLedgerModel" 4 (Cond.code y_MD_pieces b_MD_pieces 4 r_MD_pieces :: BIG) 1 21 0 0) {σ : ST} {res : Int32} (Rt : JR X (wfm ad cs) 0 0 (PI res σ) r_MD_pieces "pieces") {kb39 : Int32 → Int32 → Int32 → ST → Option (Int32)} (hk39 : ∀ (x1 : Int32) (x2 : Int32) (x3 : Int32), kb39 x1 x2 x3 σ = some res → J (wfm ad cs) X 4 0 0 σ 39 [(0, .ref (ad 18)), (1, .int x1), (2, .int x2), (3, .int x3)] []) (x1 : Int32) (x3 : Int32) (s0 : Int32) (s1 : Int32) (hf : MD_pieces_c63 kb39 x1 x3 s0 s1 σ = some res) : J (wfm ad cs) X 4 0 0 σ 63 [(0, .ref (ad 18)), (1, .int x1), (3, .int x3)] [.int s1, .int s0] := by
  unfold MD_pieces_c63 at hf
  refine j_iadd C d_MD_pieces_63 ?_
  obtain ⟨x2_64, ex2_64, hf⟩ := o_nmI hf
  refine j_topI ex2_64 ?_
  refine j_istore_n C rfl (by decide) (loc' := [(2, .int x2_64), (0, .ref (ad 18)), (1, .int x1), (3, .int x3)]) rfl d_MD_pieces_64 ?_
  refine j_iinc C 3 rfl (v := (x3 + 1)) (inc_p1 _) (by decide) (loc' := [(3, .int (x3 + 1)), (2, .int x2_64), (0, .ref (ad 18)), (1, .int x1)]) rfl d_MD_pieces_65 ?_
  refine j_goto C d_MD_pieces_68 rfl ?_
  refine j_sub [2, 3, 1, 0] rfl ?_
  exact hk39 x1 x2_64 (x3 + 1) hf
def MD_pieces_b39 (kb39 : Int32 → Int32 → Int32 → ST → Option (Int32)) (x1 : Int32) (x2 : Int32) (x3 : Int32) (σ : ST) : Option (Int32) :=
  if (gI σ 21) ≤ x3 then (MD_pieces_L73 FU x1 x2 (0 : Int32) σ)
  else (if x3 < 0 ∨ 12 ≤ x3.toNatClampNeg then none else
  if (gA σ 16 x3.toNatClampNeg) = x1 then (MD_pieces_c63 kb39 x1 x3 x2 (1 : Int32) σ)
  else (MD_pieces_c63 kb39 x1 x3 x2 (0 : Int32) σ))
set_option maxRecDepth 100000 in
set_option maxHeartbeats 4000000 in
theorem w_MD_pieces_b39 {X : JX} (C : JC X l D (ttf cs) eE b_MD_pieces "TollLedgerModel" 4 (Cond.code y_MD_pieces b_MD_pieces 4 r_MD_pieces :: BIG) 1 21 0 0) {σ : ST} {res : Int32} (Rt : JR X (wfm ad cs) 0 0 (PI res σ) r_MD_pieces "pieces") {kb39 : Int32 → Int32 → Int32 → ST → Option (Int32)} (hk39 : ∀ (x1 : Int32) (x2 : Int32) (x3 : Int32), kb39 x1 x2 x3 σ = some res → J (wfm ad cs) X 4 0 0 σ 39 [(0, .ref (ad 18)), (1, .int x1), (2, .int x2), (3, .int x3)] []) (x1 : Int32) (x2 : Int32) (x3 : Int32) (hf : MD_pieces_b39 kb39 x1 x2 x3 σ = some res) : J (wfm ad cs) X 4 0 0 σ 39 [(0, .ref (ad 18)), (1, .int x1), (2, .int x2), (3, .int x3)] [] := by
  unfold MD_pieces_b39 at hf
  refine j_iload_n C 3 rfl rfl d_MD_pieces_39 ?_
  refine j_aload_n C 0 rfl rfl d_MD_pieces_40 ?_
  refine g_MD_offers C (List.mem_cons_of_mem _ wd_4_26) d_MD_pieces_41 ?_
  refine j_icmp_ge C d_MD_pieces_44 rfl (fun c44 => ?_) (fun c44 => ?_)
  · have hf := o_it c44 hf
    refine j_iconst C (v := 0) (by decide) d_MD_pieces_71 ?_
    refine j_istore_n C rfl (by decide) (loc' := [(3, .int (0 : Int32)), (0, .ref (ad 18)), (1, .int x1), (2, .int x2)]) rfl d_MD_pieces_72 ?_
    refine j_sub [1, 2, 3, 0] rfl ?_
    exact w_MD_pieces_L73 C Rt  FU x1 x2 (0 : Int32) hf
  · have hf := o_if c44 hf
    refine j_iload_n C 2 rfl rfl d_MD_pieces_47 ?_
    refine j_aload_n C 0 rfl rfl d_MD_pieces_48 ?_
    refine g_MD_ownerOf C (List.mem_cons_of_mem _ wd_4_29) d_MD_pieces_49 ?_
    refine j_iload_n C 3 rfl rfl d_MD_pieces_52 ?_
    obtain ⟨g53, hf⟩ := o_gn hf
    refine la_m_ownerOf C g53 d_MD_pieces_53 ?_
    refine j_iload_n C 1 rfl rfl d_MD_pieces_54 ?_
    refine j_icmp_ne C d_MD_pieces_55 rfl (fun c55 => ?_) (fun c55 => ?_)
    · have hf := o_if c55 hf
      refine j_iconst C (v := 0) (by decide) d_MD_pieces_62 ?_
      refine j_sub [0, 1, 3] rfl ?_
      exact w_MD_pieces_c63 C Rt hk39 x1 x3 x2 (0 : Int32) hf
    · have hf := o_it c55 hf
      refine j_iconst C (v := 1) (by decide) d_MD_pieces_58 ?_
      refine j_goto C d_MD_pieces_59 rfl ?_
      refine j_sub [0, 1, 3] rfl ?_
      exact w_MD_pieces_c63 C Rt hk39 x1 x3 x2 (1 : Int32) hf
def MD_pieces_L39 : Nat → Int32 → Int32 → Int32 → ST → Option (Int32)
  | 0, _, _, _, _ => none
  | N + 1, x1, x2, x3, σ => MD_pieces_b39 (fun x1 x2 x3 σ => MD_pieces_L39 N x1 x2 x3 σ) x1 x2 x3 σ
theorem w_MD_pieces_L39 {X : JX} (C : JC X l D (ttf cs) eE b_MD_pieces "TollLedgerModel" 4 (Cond.code y_MD_pieces b_MD_pieces 4 r_MD_pieces :: BIG) 1 21 0 0) {σ : ST} {res : Int32} (Rt : JR X (wfm ad cs) 0 0 (PI res σ) r_MD_pieces "pieces")  (N : Nat) (x1 : Int32) (x2 : Int32) (x3 : Int32) (hf : MD_pieces_L39 N x1 x2 x3 σ = some res) : J (wfm ad cs) X 4 0 0 σ 39 [(0, .ref (ad 18)), (1, .int x1), (2, .int x2), (3, .int x3)] [] := by
  induction N generalizing x1 x2 x3 with
  | zero => exact nomatch hf
  | succ N ih => exact w_MD_pieces_b39 C Rt  (fun x1 x2 x3 h => ih x1 x2 x3 h) x1 x2 x3 hf
def MD_pieces_c29 (kb4 : Int32 → Int32 → Int32 → ST → Option (Int32)) (x1 : Int32) (x3 : Int32) (s0 : Int32) (s1 : Int32) (σ : ST) : Option (Int32) :=
  nmI (s0 + s1) fun x2_30 =>
  kb4 x1 x2_30 (x3 + 1) σ
set_option maxRecDepth 100000 in
set_option maxHeartbeats 4000000 in
theorem w_MD_pieces_c29 {X : JX} (C : JC X l D (ttf cs) eE b_MD_pieces "TollLedgerModel" 4 (Cond.code y_MD_pieces b_MD_pieces 4 r_MD_pieces :: BIG) 1 21 0 0) {σ : ST} {res : Int32} (Rt : JR X (wfm ad cs) 0 0 (PI res σ) r_MD_pieces "pieces") {kb4 : Int32 → Int32 → Int32 → ST → Option (Int32)} (hk4 : ∀ (x1 : Int32) (x2 : Int32) (x3 : Int32), kb4 x1 x2 x3 σ = some res → J (wfm ad cs) X 4 0 0 σ 4 [(0, .ref (ad 18)), (1, .int x1), (2, .int x2), (3, .int x3)] []) (x1 : Int32) (x3 : Int32) (s0 : Int32) (s1 : Int32) (hf : MD_pieces_c29 kb4 x1 x3 s0 s1 σ = some res) : J (wfm ad cs) X 4 0 0 σ 29 [(0, .ref (ad 18)), (1, .int x1), (3, .int x3)] [.int s1, .int s0] := by
  unfold MD_pieces_c29 at hf
  refine j_iadd C d_MD_pieces_29 ?_
  obtain ⟨x2_30, ex2_30, hf⟩ := o_nmI hf
  refine j_topI ex2_30 ?_
  refine j_istore_n C rfl (by decide) (loc' := [(2, .int x2_30), (0, .ref (ad 18)), (1, .int x1), (3, .int x3)]) rfl d_MD_pieces_30 ?_
  refine j_iinc C 3 rfl (v := (x3 + 1)) (inc_p1 _) (by decide) (loc' := [(3, .int (x3 + 1)), (2, .int x2_30), (0, .ref (ad 18)), (1, .int x1)]) rfl d_MD_pieces_31 ?_
  refine j_goto C d_MD_pieces_34 rfl ?_
  refine j_sub [2, 3, 1, 0] rfl ?_
  exact hk4 x1 x2_30 (x3 + 1) hf
def MD_pieces_b4 (kb4 : Int32 → Int32 → Int32 → ST → Option (Int32)) (x1 : Int32) (x2 : Int32) (x3 : Int32) (σ : ST) : Option (Int32) :=
  if (12 : Int32) ≤ x3 then (MD_pieces_L39 FU x1 x2 (0 : Int32) σ)
  else (bd1 (MD_owns (((12 : Int32) * x1) + x3) σ) fun r18 =>
  if r18 = 0 then (MD_pieces_c29 kb4 x1 x3 x2 (0 : Int32) σ)
  else (MD_pieces_c29 kb4 x1 x3 x2 (1 : Int32) σ))
set_option maxRecDepth 100000 in
set_option maxHeartbeats 4000000 in
theorem w_MD_pieces_b4 {X : JX} (C : JC X l D (ttf cs) eE b_MD_pieces "TollLedgerModel" 4 (Cond.code y_MD_pieces b_MD_pieces 4 r_MD_pieces :: BIG) 1 21 0 0) {σ : ST} {res : Int32} (Rt : JR X (wfm ad cs) 0 0 (PI res σ) r_MD_pieces "pieces") {kb4 : Int32 → Int32 → Int32 → ST → Option (Int32)} (hk4 : ∀ (x1 : Int32) (x2 : Int32) (x3 : Int32), kb4 x1 x2 x3 σ = some res → J (wfm ad cs) X 4 0 0 σ 4 [(0, .ref (ad 18)), (1, .int x1), (2, .int x2), (3, .int x3)] []) (x1 : Int32) (x2 : Int32) (x3 : Int32) (hf : MD_pieces_b4 kb4 x1 x2 x3 σ = some res) : J (wfm ad cs) X 4 0 0 σ 4 [(0, .ref (ad 18)), (1, .int x1), (2, .int x2), (3, .int x3)] [] := by
  unfold MD_pieces_b4 at hf
  refine j_iload_n C 3 rfl rfl d_MD_pieces_4 ?_
  refine j_bipush C (v := 12) (by decide) d_MD_pieces_5 ?_
  refine j_icmp_ge C d_MD_pieces_7 rfl (fun c7 => ?_) (fun c7 => ?_)
  · have hf := o_it c7 hf
    refine j_iconst C (v := 0) (by decide) d_MD_pieces_37 ?_
    refine j_istore_n C rfl (by decide) (loc' := [(3, .int (0 : Int32)), (0, .ref (ad 18)), (1, .int x1), (2, .int x2)]) rfl d_MD_pieces_38 ?_
    refine j_sub [1, 2, 3, 0] rfl ?_
    exact w_MD_pieces_L39 C Rt  FU x1 x2 (0 : Int32) hf
  · have hf := o_if c7 hf
    refine j_iload_n C 2 rfl rfl d_MD_pieces_10 ?_
    refine j_aload_n C 0 rfl rfl d_MD_pieces_11 ?_
    refine j_bipush C (v := 12) (by decide) d_MD_pieces_12 ?_
    refine j_iload_n C 1 rfl rfl d_MD_pieces_14 ?_
    refine j_imul C d_MD_pieces_15 ?_
    refine j_iload_n C 3 rfl rfl d_MD_pieces_16 ?_
    refine j_iadd C d_MD_pieces_17 ?_
    obtain ⟨r18, h18, hf⟩ := o_b1 hf
    refine j_callV (ci := 10) (Cn := "TollLedgerModel") (T := T_MD) (N := 39) C [.int (((12 : Int32) * x1) + x3)] [.int x2] (m_MD_owns _ _ _ _ _ (((12 : Int32) * x1) + x3) σ h18) (gdV wd_4_176 wd_4_178 wp_21 wd_1_11 wc_MD_owns) hy_MD_owns rfl ⟨18, rfl⟩ rfl rfl (by decide) (by decide) (by decide) (by decide) (Nat.le_of_ble_eq_true rfl) d_MD_pieces_18 (j_kI (r := r18) (σ1 := σ) ?_)
    refine j_if_eq C d_MD_pieces_21 rfl (fun c21 => ?_) (fun c21 => ?_)
    · have hf := o_it c21 hf
      refine j_iconst C (v := 0) (by decide) d_MD_pieces_28 ?_
      refine j_sub [0, 1, 3] rfl ?_
      exact w_MD_pieces_c29 C Rt hk4 x1 x3 x2 (0 : Int32) hf
    · have hf := o_if c21 hf
      refine j_iconst C (v := 1) (by decide) d_MD_pieces_24 ?_
      refine j_goto C d_MD_pieces_25 rfl ?_
      refine j_sub [0, 1, 3] rfl ?_
      exact w_MD_pieces_c29 C Rt hk4 x1 x3 x2 (1 : Int32) hf
def MD_pieces_L4 : Nat → Int32 → Int32 → Int32 → ST → Option (Int32)
  | 0, _, _, _, _ => none
  | N + 1, x1, x2, x3, σ => MD_pieces_b4 (fun x1 x2 x3 σ => MD_pieces_L4 N x1 x2 x3 σ) x1 x2 x3 σ
theorem w_MD_pieces_L4 {X : JX} (C : JC X l D (ttf cs) eE b_MD_pieces "TollLedgerModel" 4 (Cond.code y_MD_pieces b_MD_pieces 4 r_MD_pieces :: BIG) 1 21 0 0) {σ : ST} {res : Int32} (Rt : JR X (wfm ad cs) 0 0 (PI res σ) r_MD_pieces "pieces")  (N : Nat) (x1 : Int32) (x2 : Int32) (x3 : Int32) (hf : MD_pieces_L4 N x1 x2 x3 σ = some res) : J (wfm ad cs) X 4 0 0 σ 4 [(0, .ref (ad 18)), (1, .int x1), (2, .int x2), (3, .int x3)] [] := by
  induction N generalizing x1 x2 x3 with
  | zero => exact nomatch hf
  | succ N ih => exact w_MD_pieces_b4 C Rt  (fun x1 x2 x3 h => ih x1 x2 x3 h) x1 x2 x3 hf
def MD_pieces (x1 : Int32) (σ : ST) : Option (Int32) :=
  MD_pieces_L4 FU x1 (0 : Int32) (0 : Int32) σ
set_option maxRecDepth 100000 in
set_option maxHeartbeats 4000000 in
theorem m_MD_pieces (l : Launch) (D : va_G) (ad : Nat → Nat) (cs : Nat → ClassId) (eE : Nat) (x1 : Int32) (σ : ST) {res : Int32} (hf : MD_pieces x1 σ = some res) : MS l y_MD_pieces (Cond.code y_MD_pieces b_MD_pieces 4 r_MD_pieces :: BIG) 1 21 0 0 (wfm ad cs) D (ttf cs) eE [.ref (ad 18), .int x1] σ (PI res σ) := by
  refine MS.of (cc := b_MD_pieces) (maxL := 4) (ret := r_MD_pieces) (by decide) rfl (Nat.le_of_ble_eq_true rfl) (loc := [(0, .ref (ad 18)), (1, .int x1)]) rfl (fun X C Rt => ?_)
  unfold MD_pieces at hf
  refine j_iconst C (v := 0) (by decide) d_MD_pieces_0 ?_
  refine j_istore_n C rfl (by decide) (loc' := [(2, .int (0 : Int32)), (0, .ref (ad 18)), (1, .int x1)]) rfl d_MD_pieces_1 ?_
  refine j_iconst C (v := 0) (by decide) d_MD_pieces_2 ?_
  refine j_istore_n C rfl (by decide) (loc' := [(3, .int (0 : Int32)), (2, .int (0 : Int32)), (0, .ref (ad 18)), (1, .int x1)]) rfl d_MD_pieces_3 ?_
  refine j_sub [2, 3, 1, 0] rfl ?_
  exact w_MD_pieces_L4 C Rt  FU x1 (0 : Int32) (0 : Int32) hf
theorem d_MD_reserve_0 : decode b_MD_reserve 0 = .ok (.bipush 100, 2) := by decide +kernel
theorem d_MD_reserve_2 : decode b_MD_reserve 2 = .ok (.bipush 20, 2) := by decide +kernel
theorem d_MD_reserve_4 : decode b_MD_reserve 4 = .ok (.aload_n 0, 1) := by decide +kernel
theorem d_MD_reserve_5 : decode b_MD_reserve 5 = .ok (.iload_n 1, 1) := by decide +kernel
theorem d_MD_reserve_6 : decode b_MD_reserve 6 = .ok (.invokevirtual 116, 3) := by decide +kernel
theorem d_MD_reserve_9 : decode b_MD_reserve 9 = .ok (.imul, 1) := by decide +kernel
theorem d_MD_reserve_10 : decode b_MD_reserve 10 = .ok (.iadd, 1) := by decide +kernel
theorem d_MD_reserve_11 : decode b_MD_reserve 11 = .ok (.ireturn, 1) := by decide +kernel
def MD_reserve (x1 : Int32) (σ : ST) : Option (Int32) :=
  bd1 (MD_pieces x1 σ) fun r6 =>
  some ((100 : Int32) + ((20 : Int32) * r6))
set_option maxRecDepth 100000 in
set_option maxHeartbeats 4000000 in
theorem m_MD_reserve (l : Launch) (D : va_G) (ad : Nat → Nat) (cs : Nat → ClassId) (eE : Nat) (x1 : Int32) (σ : ST) {res : Int32} (hf : MD_reserve x1 σ = some res) : MS l y_MD_reserve (Cond.code y_MD_reserve b_MD_reserve 2 r_MD_reserve :: BIG) 2 44 0 0 (wfm ad cs) D (ttf cs) eE [.ref (ad 18), .int x1] σ (PI res σ) := by
  refine MS.of (cc := b_MD_reserve) (maxL := 2) (ret := r_MD_reserve) (by decide) rfl (Nat.le_of_ble_eq_true rfl) (loc := [(0, .ref (ad 18)), (1, .int x1)]) rfl (fun X C Rt => ?_)
  unfold MD_reserve at hf
  refine j_bipush C (v := 100) (by decide) d_MD_reserve_0 ?_
  refine j_bipush C (v := 20) (by decide) d_MD_reserve_2 ?_
  refine j_aload_n C 0 rfl rfl d_MD_reserve_4 ?_
  refine j_iload_n C 1 rfl rfl d_MD_reserve_5 ?_
  obtain ⟨r6, h6, hf⟩ := o_b1 hf
  refine j_callV (ci := 10) (Cn := "TollLedgerModel") (T := T_MD) (N := 39) C [.int x1] [.int (20 : Int32), .int (100 : Int32)] (m_MD_pieces _ _ _ _ _ x1 σ h6) (gdV wd_4_172 wd_4_174 wp_20 wd_1_11 wc_MD_pieces) hy_MD_pieces rfl ⟨18, rfl⟩ rfl rfl (by decide) (by decide) (by decide) (by decide) (Nat.le_of_ble_eq_true rfl) d_MD_reserve_6 (j_kI (r := r6) (σ1 := σ) ?_)
  refine j_imul C d_MD_reserve_9 ?_
  refine j_iadd C d_MD_reserve_10 ?_
  cases hf
  exact j_iret C Rt (Nat.le_refl _) (Nat.le_refl _) d_MD_reserve_11 ⟨rfl, rfl⟩
theorem d_MD_line_0 : decode b_MD_line 0 = .ok (.bipush 12, 2) := by decide +kernel
theorem d_MD_line_2 : decode b_MD_line 2 = .ok (.iload_n 0, 1) := by decide +kernel
theorem d_MD_line_3 : decode b_MD_line 3 = .ok (.imul, 1) := by decide +kernel
theorem d_MD_line_4 : decode b_MD_line 4 = .ok (.iconst 2, 1) := by decide +kernel
theorem d_MD_line_5 : decode b_MD_line 5 = .ok (.iload_n 1, 1) := by decide +kernel
theorem d_MD_line_6 : decode b_MD_line 6 = .ok (.imul, 1) := by decide +kernel
theorem d_MD_line_7 : decode b_MD_line 7 = .ok (.iadd, 1) := by decide +kernel
theorem d_MD_line_8 : decode b_MD_line 8 = .ok (.iload_n 2, 1) := by decide +kernel
theorem d_MD_line_9 : decode b_MD_line 9 = .ok (.iadd, 1) := by decide +kernel
theorem d_MD_line_10 : decode b_MD_line 10 = .ok (.iconst 1, 1) := by decide +kernel
theorem d_MD_line_11 : decode b_MD_line 11 = .ok (.isub, 1) := by decide +kernel
theorem d_MD_line_12 : decode b_MD_line 12 = .ok (.ireturn, 1) := by decide +kernel
def MD_line (x0 : Int32) (x1 : Int32) (x2 : Int32) : Option (Int32) :=
  some (((((12 : Int32) * x0) + ((2 : Int32) * x1)) + x2) - (1 : Int32))
set_option maxRecDepth 100000 in
set_option maxHeartbeats 4000000 in
theorem m_MD_line (l : Launch) (D : va_G) (ad : Nat → Nat) (cs : Nat → ClassId) (eE : Nat) (x0 : Int32) (x1 : Int32) (x2 : Int32) (σ : ST) {res : Int32} (hf : MD_line x0 x1 x2 = some res) : MS l y_MD_line (Cond.code y_MD_line b_MD_line 3 r_MD_line :: BIG) 0 0 0 0 (wfm ad cs) D (ttf cs) eE [.int x0, .int x1, .int x2] σ (PI res σ) := by
  refine MS.of (cc := b_MD_line) (maxL := 3) (ret := r_MD_line) (by decide) rfl (Nat.le_of_ble_eq_true rfl) (loc := [(0, .int x0), (1, .int x1), (2, .int x2)]) rfl (fun X C Rt => ?_)
  unfold MD_line at hf
  refine j_bipush C (v := 12) (by decide) d_MD_line_0 ?_
  refine j_iload_n C 0 rfl rfl d_MD_line_2 ?_
  refine j_imul C d_MD_line_3 ?_
  refine j_iconst C (v := 2) (by decide) d_MD_line_4 ?_
  refine j_iload_n C 1 rfl rfl d_MD_line_5 ?_
  refine j_imul C d_MD_line_6 ?_
  refine j_iadd C d_MD_line_7 ?_
  refine j_iload_n C 2 rfl rfl d_MD_line_8 ?_
  refine j_iadd C d_MD_line_9 ?_
  refine j_iconst C (v := 1) (by decide) d_MD_line_10 ?_
  refine j_isub C d_MD_line_11 ?_
  cases hf
  exact j_iret C Rt (Nat.le_refl _) (Nat.le_refl _) d_MD_line_12 ⟨rfl, rfl⟩
theorem d_MD_holding_0 : decode b_MD_holding 0 = .ok (.iload_n 1, 1) := by decide +kernel
theorem d_MD_holding_1 : decode b_MD_holding 1 = .ok (.invokestatic 95, 3) := by decide +kernel
theorem d_MD_holding_4 : decode b_MD_holding 4 = .ok (.istore_n 2, 1) := by decide +kernel
theorem d_MD_holding_5 : decode b_MD_holding 5 = .ok (.iload_n 1, 1) := by decide +kernel
theorem d_MD_holding_6 : decode b_MD_holding 6 = .ok (.invokestatic 99, 3) := by decide +kernel
theorem d_MD_holding_9 : decode b_MD_holding 9 = .ok (.istore_n 3, 1) := by decide +kernel
theorem d_MD_holding_10 : decode b_MD_holding 10 = .ok (.iload_n 0, 1) := by decide +kernel
theorem d_MD_holding_11 : decode b_MD_holding 11 = .ok (.iload_n 2, 1) := by decide +kernel
theorem d_MD_holding_12 : decode b_MD_holding 12 = .ok (.iload_n 3, 1) := by decide +kernel
theorem d_MD_holding_13 : decode b_MD_holding 13 = .ok (.invokestatic 102, 3) := by decide +kernel
theorem d_MD_holding_16 : decode b_MD_holding 16 = .ok (.ireturn, 1) := by decide +kernel
def MD_holding (x0 : Int32) (x1 : Int32) : Option (Int32) :=
  bd1 (MD_issuerOf x1) fun r1 =>
  bd1 (MD_currencyOf x1) fun r6 =>
  bd1 (MD_line x0 r1 r6) fun r13 =>
  some r13
set_option maxRecDepth 100000 in
set_option maxHeartbeats 4000000 in
theorem m_MD_holding (l : Launch) (D : va_G) (ad : Nat → Nat) (cs : Nat → ClassId) (eE : Nat) (x0 : Int32) (x1 : Int32) (σ : ST) {res : Int32} (hf : MD_holding x0 x1 = some res) : MS l y_MD_holding (Cond.code y_MD_holding b_MD_holding 4 r_MD_holding :: BIG) 1 22 0 0 (wfm ad cs) D (ttf cs) eE [.int x0, .int x1] σ (PI res σ) := by
  refine MS.of (cc := b_MD_holding) (maxL := 4) (ret := r_MD_holding) (by decide) rfl (Nat.le_of_ble_eq_true rfl) (loc := [(0, .int x0), (1, .int x1)]) rfl (fun X C Rt => ?_)
  unfold MD_holding at hf
  refine j_iload_n C 1 rfl rfl d_MD_holding_0 ?_
  obtain ⟨r1, h1, hf⟩ := o_b1 hf
  refine j_callS C [.int x1] [] (m_MD_issuerOf _ _ _ _ _ x1 σ h1) (gdS wd_4_164 wd_4_165 wd_1_11 wc_MD_issuerOf) hy_MD_issuerOf rfl rfl (by decide) (by decide) (by decide) (by decide) (Nat.le_of_ble_eq_true rfl) d_MD_holding_1 (j_kI (r := r1) (σ1 := σ) ?_)
  refine j_istore_n C rfl (by decide) (loc' := [(2, .int r1), (0, .int x0), (1, .int x1)]) rfl d_MD_holding_4 ?_
  refine j_iload_n C 2 rfl rfl d_MD_holding_5 ?_
  obtain ⟨r6, h6, hf⟩ := o_b1 hf
  refine j_callS C [.int x1] [] (m_MD_currencyOf _ _ _ _ _ x1 σ h6) (gdS wd_4_183 wd_4_184 wd_1_11 wc_MD_currencyOf) hy_MD_currencyOf rfl rfl (by decide) (by decide) (by decide) (by decide) (Nat.le_of_ble_eq_true rfl) d_MD_holding_6 (j_kI (r := r6) (σ1 := σ) ?_)
  refine j_istore_n C rfl (by decide) (loc' := [(3, .int r6), (2, .int r1), (0, .int x0), (1, .int x1)]) rfl d_MD_holding_9 ?_
  refine j_iload_n C 2 rfl rfl d_MD_holding_10 ?_
  refine j_iload_n C 1 rfl rfl d_MD_holding_11 ?_
  refine j_iload_n C 0 rfl rfl d_MD_holding_12 ?_
  obtain ⟨r13, h13, hf⟩ := o_b1 hf
  refine j_callS C [.int x0, .int r1, .int r6] [] (m_MD_line _ _ _ _ _ x0 r1 r6 σ h13) (gdS wd_4_186 wd_4_187 wd_1_11 wc_MD_line) hy_MD_line rfl rfl (by decide) (by decide) (by decide) (by decide) (Nat.le_of_ble_eq_true rfl) d_MD_holding_13 (j_kI (r := r13) (σ1 := σ) ?_)
  cases hf
  exact j_iret C Rt (Nat.le_refl _) (Nat.le_refl _) d_MD_holding_16 ⟨rfl, rfl⟩
theorem d_MD_fundsIn_0 : decode b_MD_fundsIn 0 = .ok (.iload_n 2, 1) := by decide +kernel
theorem d_MD_fundsIn_1 : decode b_MD_fundsIn 1 = .ok (.ifCond .le 14, 3) := by decide +kernel
theorem d_MD_fundsIn_4 : decode b_MD_fundsIn 4 = .ok (.iload_n 2, 1) := by decide +kernel
theorem d_MD_fundsIn_5 : decode b_MD_fundsIn 5 = .ok (.invokestatic 95, 3) := by decide +kernel
theorem d_MD_fundsIn_8 : decode b_MD_fundsIn 8 = .ok (.iload_n 1, 1) := by decide +kernel
theorem d_MD_fundsIn_9 : decode b_MD_fundsIn 9 = .ok (.if_icmp .ne 6, 3) := by decide +kernel
theorem d_MD_fundsIn_12 : decode b_MD_fundsIn 12 = .ok (.ldc 119, 2) := by decide +kernel
theorem d_MD_fundsIn_14 : decode b_MD_fundsIn 14 = .ok (.ireturn, 1) := by decide +kernel
theorem d_MD_fundsIn_15 : decode b_MD_fundsIn 15 = .ok (.iload_n 2, 1) := by decide +kernel
theorem d_MD_fundsIn_16 : decode b_MD_fundsIn 16 = .ok (.ifCond .ne 18, 3) := by decide +kernel
theorem d_MD_fundsIn_19 : decode b_MD_fundsIn 19 = .ok (.aload_n 0, 1) := by decide +kernel
theorem d_MD_fundsIn_20 : decode b_MD_fundsIn 20 = .ok (.getfield 13, 3) := by decide +kernel
theorem d_MD_fundsIn_23 : decode b_MD_fundsIn 23 = .ok (.iload_n 1, 1) := by decide +kernel
theorem d_MD_fundsIn_24 : decode b_MD_fundsIn 24 = .ok (.iaload, 1) := by decide +kernel
theorem d_MD_fundsIn_25 : decode b_MD_fundsIn 25 = .ok (.aload_n 0, 1) := by decide +kernel
theorem d_MD_fundsIn_26 : decode b_MD_fundsIn 26 = .ok (.iload_n 1, 1) := by decide +kernel
theorem d_MD_fundsIn_27 : decode b_MD_fundsIn 27 = .ok (.invokevirtual 120, 3) := by decide +kernel
theorem d_MD_fundsIn_30 : decode b_MD_fundsIn 30 = .ok (.isub, 1) := by decide +kernel
theorem d_MD_fundsIn_31 : decode b_MD_fundsIn 31 = .ok (.goto 13, 3) := by decide +kernel
theorem d_MD_fundsIn_34 : decode b_MD_fundsIn 34 = .ok (.aload_n 0, 1) := by decide +kernel
theorem d_MD_fundsIn_35 : decode b_MD_fundsIn 35 = .ok (.getfield 23, 3) := by decide +kernel
theorem d_MD_fundsIn_38 : decode b_MD_fundsIn 38 = .ok (.iload_n 1, 1) := by decide +kernel
theorem d_MD_fundsIn_39 : decode b_MD_fundsIn 39 = .ok (.iload_n 2, 1) := by decide +kernel
theorem d_MD_fundsIn_40 : decode b_MD_fundsIn 40 = .ok (.invokestatic 123, 3) := by decide +kernel
theorem d_MD_fundsIn_43 : decode b_MD_fundsIn 43 = .ok (.iaload, 1) := by decide +kernel
theorem d_MD_fundsIn_44 : decode b_MD_fundsIn 44 = .ok (.istore_n 3, 1) := by decide +kernel
theorem d_MD_fundsIn_45 : decode b_MD_fundsIn 45 = .ok (.iload_n 3, 1) := by decide +kernel
theorem d_MD_fundsIn_46 : decode b_MD_fundsIn 46 = .ok (.ifCond .ge 7, 3) := by decide +kernel
theorem d_MD_fundsIn_49 : decode b_MD_fundsIn 49 = .ok (.iconst 0, 1) := by decide +kernel
theorem d_MD_fundsIn_50 : decode b_MD_fundsIn 50 = .ok (.goto 4, 3) := by decide +kernel
theorem d_MD_fundsIn_53 : decode b_MD_fundsIn 53 = .ok (.iload_n 3, 1) := by decide +kernel
theorem d_MD_fundsIn_54 : decode b_MD_fundsIn 54 = .ok (.ireturn, 1) := by decide +kernel
def MD_fundsIn_c44 (s0 : Int32) (σ : ST) : Option (Int32) :=
  if 0 ≤ s0 then (some s0)
  else (some (0 : Int32))
set_option maxRecDepth 100000 in
set_option maxHeartbeats 4000000 in
theorem w_MD_fundsIn_c44 {X : JX} (C : JC X l D (ttf cs) eE b_MD_fundsIn "TollLedgerModel" 4 (Cond.code y_MD_fundsIn b_MD_fundsIn 4 r_MD_fundsIn :: BIG) 3 65 0 0) {σ : ST} {res : Int32} (Rt : JR X (wfm ad cs) 0 0 (PI res σ) r_MD_fundsIn "fundsIn")  (s0 : Int32) (hf : MD_fundsIn_c44 s0 σ = some res) : J (wfm ad cs) X 4 0 0 σ 44 [] [.int s0] := by
  unfold MD_fundsIn_c44 at hf
  refine j_istore_n C rfl (by decide) (loc' := [(3, .int s0)]) rfl d_MD_fundsIn_44 ?_
  refine j_iload_n C 0 rfl rfl d_MD_fundsIn_45 ?_
  refine j_if_ge C d_MD_fundsIn_46 rfl (fun c46 => ?_) (fun c46 => ?_)
  · have hf := o_it c46 hf
    refine j_iload_n C 0 rfl rfl d_MD_fundsIn_53 ?_
    cases hf
    exact j_iret C Rt (Nat.le_refl _) (Nat.le_refl _) d_MD_fundsIn_54 ⟨rfl, rfl⟩
  · have hf := o_if c46 hf
    refine j_iconst C (v := 0) (by decide) d_MD_fundsIn_49 ?_
    refine j_goto C d_MD_fundsIn_50 rfl ?_
    cases hf
    exact j_iret C Rt (Nat.le_refl _) (Nat.le_refl _) d_MD_fundsIn_54 ⟨rfl, rfl⟩
def MD_fundsIn_c15 (x1 : Int32) (x2 : Int32) (σ : ST) : Option (Int32) :=
  if x2 = 0 then (if x1 < 0 ∨ 6 ≤ x1.toNatClampNeg then none else
  bd1 (MD_reserve x1 σ) fun r27 =>
  MD_fundsIn_c44 ((gA σ 9 x1.toNatClampNeg) - r27) σ)
  else (bd1 (MD_holding x1 x2) fun r40 =>
  if r40 < 0 ∨ 72 ≤ r40.toNatClampNeg then none else
  MD_fundsIn_c44 (gA σ 12 r40.toNatClampNeg) σ)
set_option maxRecDepth 100000 in
set_option maxHeartbeats 4000000 in
theorem w_MD_fundsIn_c15 {X : JX} (C : JC X l D (ttf cs) eE b_MD_fundsIn "TollLedgerModel" 4 (Cond.code y_MD_fundsIn b_MD_fundsIn 4 r_MD_fundsIn :: BIG) 3 65 0 0) {σ : ST} {res : Int32} (Rt : JR X (wfm ad cs) 0 0 (PI res σ) r_MD_fundsIn "fundsIn")  (x1 : Int32) (x2 : Int32) (hf : MD_fundsIn_c15 x1 x2 σ = some res) : J (wfm ad cs) X 4 0 0 σ 15 [(0, .ref (ad 18)), (1, .int x1), (2, .int x2)] [] := by
  unfold MD_fundsIn_c15 at hf
  refine j_iload_n C 2 rfl rfl d_MD_fundsIn_15 ?_
  refine j_if_ne C d_MD_fundsIn_16 rfl (fun c16 => ?_) (fun c16 => ?_)
  · have hf := o_if c16 hf
    refine j_aload_n C 0 rfl rfl d_MD_fundsIn_34 ?_
    refine g_MD_balances C (List.mem_cons_of_mem _ wd_4_23) d_MD_fundsIn_35 ?_
    refine j_iload_n C 1 rfl rfl d_MD_fundsIn_38 ?_
    refine j_iload_n C 2 rfl rfl d_MD_fundsIn_39 ?_
    obtain ⟨r40, h40, hf⟩ := o_b1 hf
    refine j_callS C [.int x1, .int x2] [.ref (ad 23)] (m_MD_holding _ _ _ _ _ x1 x2 σ h40) (gdS wd_4_180 wd_4_181 wd_1_11 wc_MD_holding) hy_MD_holding rfl rfl (by decide) (by decide) (by decide) (by decide) (Nat.le_of_ble_eq_true rfl) d_MD_fundsIn_40 (j_kI (r := r40) (σ1 := σ) ?_)
    obtain ⟨g43, hf⟩ := o_gn hf
    refine la_m_balances C g43 d_MD_fundsIn_43 ?_
    refine j_sub [] rfl ?_
    exact w_MD_fundsIn_c44 C Rt  (gA σ 12 r40.toNatClampNeg) hf
  · have hf := o_it c16 hf
    refine j_aload_n C 0 rfl rfl d_MD_fundsIn_19 ?_
    refine g_MD_coins C (List.mem_cons_of_mem _ wd_4_20) d_MD_fundsIn_20 ?_
    refine j_iload_n C 1 rfl rfl d_MD_fundsIn_23 ?_
    obtain ⟨g24, hf⟩ := o_gn hf
    refine la_m_coins C g24 d_MD_fundsIn_24 ?_
    refine j_aload_n C 0 rfl rfl d_MD_fundsIn_25 ?_
    refine j_iload_n C 1 rfl rfl d_MD_fundsIn_26 ?_
    obtain ⟨r27, h27, hf⟩ := o_b1 hf
    refine j_callV (ci := 10) (Cn := "TollLedgerModel") (T := T_MD) (N := 39) C [.int x1] [.int (gA σ 9 x1.toNatClampNeg)] (m_MD_reserve _ _ _ _ _ x1 σ h27) (gdV wd_4_168 wd_4_170 wp_19 wd_1_11 wc_MD_reserve) hy_MD_reserve rfl ⟨18, rfl⟩ rfl rfl (by decide) (by decide) (by decide) (by decide) (Nat.le_of_ble_eq_true rfl) d_MD_fundsIn_27 (j_kI (r := r27) (σ1 := σ) ?_)
    refine j_isub C d_MD_fundsIn_30 ?_
    refine j_goto C d_MD_fundsIn_31 rfl ?_
    refine j_sub [] rfl ?_
    exact w_MD_fundsIn_c44 C Rt  ((gA σ 9 x1.toNatClampNeg) - r27) hf
def MD_fundsIn (x1 : Int32) (x2 : Int32) (σ : ST) : Option (Int32) :=
  if x2 ≤ 0 then (MD_fundsIn_c15 x1 x2 σ)
  else (bd1 (MD_issuerOf x2) fun r5 =>
  if r5 = x1 then (some (1000000000 : Int32))
  else (MD_fundsIn_c15 x1 x2 σ))
set_option maxRecDepth 100000 in
set_option maxHeartbeats 4000000 in
theorem m_MD_fundsIn (l : Launch) (D : va_G) (ad : Nat → Nat) (cs : Nat → ClassId) (eE : Nat) (x1 : Int32) (x2 : Int32) (σ : ST) {res : Int32} (hf : MD_fundsIn x1 x2 σ = some res) : MS l y_MD_fundsIn (Cond.code y_MD_fundsIn b_MD_fundsIn 4 r_MD_fundsIn :: BIG) 3 65 0 0 (wfm ad cs) D (ttf cs) eE [.ref (ad 18), .int x1, .int x2] σ (PI res σ) := by
  refine MS.of (cc := b_MD_fundsIn) (maxL := 4) (ret := r_MD_fundsIn) (by decide) rfl (Nat.le_of_ble_eq_true rfl) (loc := [(0, .ref (ad 18)), (1, .int x1), (2, .int x2)]) rfl (fun X C Rt => ?_)
  unfold MD_fundsIn at hf
  refine j_iload_n C 2 rfl rfl d_MD_fundsIn_0 ?_
  refine j_if_le C d_MD_fundsIn_1 rfl (fun c1 => ?_) (fun c1 => ?_)
  · have hf := o_it c1 hf
    exact w_MD_fundsIn_c15 C Rt  x1 x2 hf
  · have hf := o_if c1 hf
    refine j_iload_n C 2 rfl rfl d_MD_fundsIn_4 ?_
    obtain ⟨r5, h5, hf⟩ := o_b1 hf
    refine j_callS C [.int x2] [] (m_MD_issuerOf _ _ _ _ _ x2 σ h5) (gdS wd_4_164 wd_4_165 wd_1_11 wc_MD_issuerOf) hy_MD_issuerOf rfl rfl (by decide) (by decide) (by decide) (by decide) (Nat.le_of_ble_eq_true rfl) d_MD_fundsIn_5 (j_kI (r := r5) (σ1 := σ) ?_)
    refine j_iload_n C 1 rfl rfl d_MD_fundsIn_8 ?_
    refine j_icmp_ne C d_MD_fundsIn_9 rfl (fun c9 => ?_) (fun c9 => ?_)
    · have hf := o_if c9 hf
      exact w_MD_fundsIn_c15 C Rt  x1 x2 hf
    · have hf := o_it c9 hf
      refine j_ldc C (v := 1000000000) (List.mem_cons_of_mem _ wd_4_167) d_MD_fundsIn_12 ?_
      cases hf
      exact j_iret C Rt (Nat.le_refl _) (Nat.le_refl _) d_MD_fundsIn_14 ⟨rfl, rfl⟩
theorem d_MD_isAccount_0 : decode b_MD_isAccount 0 = .ok (.iload_n 0, 1) := by decide +kernel
theorem d_MD_isAccount_1 : decode b_MD_isAccount 1 = .ok (.ifCond .lt 12, 3) := by decide +kernel
theorem d_MD_isAccount_4 : decode b_MD_isAccount 4 = .ok (.iload_n 0, 1) := by decide +kernel
theorem d_MD_isAccount_5 : decode b_MD_isAccount 5 = .ok (.iconst 5, 1) := by decide +kernel
theorem d_MD_isAccount_6 : decode b_MD_isAccount 6 = .ok (.if_icmp .gt 7, 3) := by decide +kernel
theorem d_MD_isAccount_9 : decode b_MD_isAccount 9 = .ok (.iconst 1, 1) := by decide +kernel
theorem d_MD_isAccount_10 : decode b_MD_isAccount 10 = .ok (.goto 4, 3) := by decide +kernel
theorem d_MD_isAccount_13 : decode b_MD_isAccount 13 = .ok (.iconst 0, 1) := by decide +kernel
theorem d_MD_isAccount_14 : decode b_MD_isAccount 14 = .ok (.ireturn, 1) := by decide +kernel
def MD_isAccount (x0 : Int32) : Option (Int32) :=
  if x0 < 0 then (some (0 : Int32))
  else (if (5 : Int32) < x0 then (some (0 : Int32))
  else (some (1 : Int32)))
set_option maxRecDepth 100000 in
set_option maxHeartbeats 4000000 in
theorem m_MD_isAccount (l : Launch) (D : va_G) (ad : Nat → Nat) (cs : Nat → ClassId) (eE : Nat) (x0 : Int32) (σ : ST) {res : Int32} (hf : MD_isAccount x0 = some res) : MS l y_MD_isAccount (Cond.code y_MD_isAccount b_MD_isAccount 1 r_MD_isAccount :: BIG) 0 0 0 0 (wfm ad cs) D (ttf cs) eE [.int x0] σ (PI res σ) := by
  refine MS.of (cc := b_MD_isAccount) (maxL := 1) (ret := r_MD_isAccount) (by decide) rfl (Nat.le_of_ble_eq_true rfl) (loc := [(0, .int x0)]) rfl (fun X C Rt => ?_)
  unfold MD_isAccount at hf
  refine j_iload_n C 0 rfl rfl d_MD_isAccount_0 ?_
  refine j_if_lt C d_MD_isAccount_1 rfl (fun c1 => ?_) (fun c1 => ?_)
  · have hf := o_it c1 hf
    refine j_iconst C (v := 0) (by decide) d_MD_isAccount_13 ?_
    cases hf
    exact j_zret C Rt (by decide) (Nat.le_refl _) (Nat.le_refl _) d_MD_isAccount_14 ⟨rfl, rfl⟩
  · have hf := o_if c1 hf
    refine j_iload_n C 0 rfl rfl d_MD_isAccount_4 ?_
    refine j_iconst C (v := 5) (by decide) d_MD_isAccount_5 ?_
    refine j_icmp_gt C d_MD_isAccount_6 rfl (fun c6 => ?_) (fun c6 => ?_)
    · have hf := o_it c6 hf
      refine j_iconst C (v := 0) (by decide) d_MD_isAccount_13 ?_
      cases hf
      exact j_zret C Rt (by decide) (Nat.le_refl _) (Nat.le_refl _) d_MD_isAccount_14 ⟨rfl, rfl⟩
    · have hf := o_if c6 hf
      refine j_iconst C (v := 1) (by decide) d_MD_isAccount_9 ?_
      refine j_goto C d_MD_isAccount_10 rfl ?_
      cases hf
      exact j_zret C Rt (by decide) (Nat.le_refl _) (Nat.le_refl _) d_MD_isAccount_14 ⟨rfl, rfl⟩
theorem d_MD_isAsset_0 : decode b_MD_isAsset 0 = .ok (.iload_n 0, 1) := by decide +kernel
theorem d_MD_isAsset_1 : decode b_MD_isAsset 1 = .ok (.ifCond .lt 13, 3) := by decide +kernel
theorem d_MD_isAsset_4 : decode b_MD_isAsset 4 = .ok (.iload_n 0, 1) := by decide +kernel
theorem d_MD_isAsset_5 : decode b_MD_isAsset 5 = .ok (.bipush 12, 2) := by decide +kernel
theorem d_MD_isAsset_7 : decode b_MD_isAsset 7 = .ok (.if_icmp .gt 7, 3) := by decide +kernel
theorem d_MD_isAsset_10 : decode b_MD_isAsset 10 = .ok (.iconst 1, 1) := by decide +kernel
theorem d_MD_isAsset_11 : decode b_MD_isAsset 11 = .ok (.goto 4, 3) := by decide +kernel
theorem d_MD_isAsset_14 : decode b_MD_isAsset 14 = .ok (.iconst 0, 1) := by decide +kernel
theorem d_MD_isAsset_15 : decode b_MD_isAsset 15 = .ok (.ireturn, 1) := by decide +kernel
def MD_isAsset (x0 : Int32) : Option (Int32) :=
  if x0 < 0 then (some (0 : Int32))
  else (if (12 : Int32) < x0 then (some (0 : Int32))
  else (some (1 : Int32)))
set_option maxRecDepth 100000 in
set_option maxHeartbeats 4000000 in
theorem m_MD_isAsset (l : Launch) (D : va_G) (ad : Nat → Nat) (cs : Nat → ClassId) (eE : Nat) (x0 : Int32) (σ : ST) {res : Int32} (hf : MD_isAsset x0 = some res) : MS l y_MD_isAsset (Cond.code y_MD_isAsset b_MD_isAsset 1 r_MD_isAsset :: BIG) 0 0 0 0 (wfm ad cs) D (ttf cs) eE [.int x0] σ (PI res σ) := by
  refine MS.of (cc := b_MD_isAsset) (maxL := 1) (ret := r_MD_isAsset) (by decide) rfl (Nat.le_of_ble_eq_true rfl) (loc := [(0, .int x0)]) rfl (fun X C Rt => ?_)
  unfold MD_isAsset at hf
  refine j_iload_n C 0 rfl rfl d_MD_isAsset_0 ?_
  refine j_if_lt C d_MD_isAsset_1 rfl (fun c1 => ?_) (fun c1 => ?_)
  · have hf := o_it c1 hf
    refine j_iconst C (v := 0) (by decide) d_MD_isAsset_14 ?_
    cases hf
    exact j_zret C Rt (by decide) (Nat.le_refl _) (Nat.le_refl _) d_MD_isAsset_15 ⟨rfl, rfl⟩
  · have hf := o_if c1 hf
    refine j_iload_n C 0 rfl rfl d_MD_isAsset_4 ?_
    refine j_bipush C (v := 12) (by decide) d_MD_isAsset_5 ?_
    refine j_icmp_gt C d_MD_isAsset_7 rfl (fun c7 => ?_) (fun c7 => ?_)
    · have hf := o_it c7 hf
      refine j_iconst C (v := 0) (by decide) d_MD_isAsset_14 ?_
      cases hf
      exact j_zret C Rt (by decide) (Nat.le_refl _) (Nat.le_refl _) d_MD_isAsset_15 ⟨rfl, rfl⟩
    · have hf := o_if c7 hf
      refine j_iconst C (v := 1) (by decide) d_MD_isAsset_10 ?_
      refine j_goto C d_MD_isAsset_11 rfl ?_
      cases hf
      exact j_zret C Rt (by decide) (Nat.le_refl _) (Nat.le_refl _) d_MD_isAsset_15 ⟨rfl, rfl⟩
end
end
