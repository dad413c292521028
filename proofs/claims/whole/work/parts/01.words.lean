-- ===== PART A: goes FIRST, ahead of the names: the tables' words, and 'selects' of the private methods out of them =====
/-- a private method of a class that the tables say can be made, by its rows of tables_1 -/
def lw_okq (q : MethodName × Nat) : Prop := (q.1.cls ≠ "java/lang/invoke/MethodHandle" ∧ q.1.cls ≠ "java/lang/invoke/VarHandle") ∧ Cond.instantiable q.1.cls q.2 ∈ tables_1 ∧ Cond.privateMethod q.1 ∈ tables_1 ∧ Cond.instanceMethod q.1 ∈ tables_1
theorem lw_p0 : lw_okq (⟨"SpanStore", "tableAt", "(I)LSpanStore$Table;"⟩, 5) := ⟨⟨by decide +kernel, by decide +kernel⟩, List.mem_of_getElem? (i := 11) (by decide +kernel), List.mem_of_getElem? (i := 167) (by decide +kernel), List.mem_of_getElem? (i := 168) (by decide +kernel)⟩
theorem lw_p1 : lw_okq (⟨"SpanStore", "sheetAt", "(I)LSpanStore$Sheet;"⟩, 5) := ⟨⟨by decide +kernel, by decide +kernel⟩, List.mem_of_getElem? (i := 11) (by decide +kernel), List.mem_of_getElem? (i := 188) (by decide +kernel), List.mem_of_getElem? (i := 189) (by decide +kernel)⟩
theorem lw_p2 : lw_okq (⟨"SpanStore", "found", "(I)I"⟩, 5) := ⟨⟨by decide +kernel, by decide +kernel⟩, List.mem_of_getElem? (i := 11) (by decide +kernel), List.mem_of_getElem? (i := 192) (by decide +kernel), List.mem_of_getElem? (i := 193) (by decide +kernel)⟩
theorem lw_p3 : lw_okq (⟨"SpanStore$Table", "topHiddenAmount", "()I"⟩, 4) := ⟨⟨by decide +kernel, by decide +kernel⟩, List.mem_of_getElem? (i := 22) (by decide +kernel), List.mem_of_getElem? (i := 222) (by decide +kernel), List.mem_of_getElem? (i := 223) (by decide +kernel)⟩
theorem lw_p4 : lw_okq (⟨"SpanStore$Table", "keepRows", "(LSpanStore$Block;)V"⟩, 4) := ⟨⟨by decide +kernel, by decide +kernel⟩, List.mem_of_getElem? (i := 22) (by decide +kernel), List.mem_of_getElem? (i := 229) (by decide +kernel), List.mem_of_getElem? (i := 230) (by decide +kernel)⟩
theorem lw_p5 : lw_okq (⟨"SpanStore$Table", "isKept", "(LSpanStore$Block;I)Z"⟩, 4) := ⟨⟨by decide +kernel, by decide +kernel⟩, List.mem_of_getElem? (i := 22) (by decide +kernel), List.mem_of_getElem? (i := 233) (by decide +kernel), List.mem_of_getElem? (i := 234) (by decide +kernel)⟩
theorem lw_p6 : lw_okq (⟨"SpanStore$Block", "isKnownValue", "(I)Z"⟩, 14) := ⟨⟨by decide +kernel, by decide +kernel⟩, List.mem_of_getElem? (i := 31) (by decide +kernel), List.mem_of_getElem? (i := 268) (by decide +kernel), List.mem_of_getElem? (i := 269) (by decide +kernel)⟩
theorem lw_p7 : lw_okq (⟨"SpanStore", "readBlock", "(LSpanStore$Block;)I"⟩, 5) := ⟨⟨by decide +kernel, by decide +kernel⟩, List.mem_of_getElem? (i := 11) (by decide +kernel), List.mem_of_getElem? (i := 299) (by decide +kernel), List.mem_of_getElem? (i := 300) (by decide +kernel)⟩
theorem lw_p8 : lw_okq (⟨"SpanStore$Block", "isHalf", "()Z"⟩, 14) := ⟨⟨by decide +kernel, by decide +kernel⟩, List.mem_of_getElem? (i := 31) (by decide +kernel), List.mem_of_getElem? (i := 333) (by decide +kernel), List.mem_of_getElem? (i := 334) (by decide +kernel)⟩
theorem lw_p9 : lw_okq (⟨"SpanStore$Block", "owesLeast", "()Z"⟩, 14) := ⟨⟨by decide +kernel, by decide +kernel⟩, List.mem_of_getElem? (i := 31) (by decide +kernel), List.mem_of_getElem? (i := 337) (by decide +kernel), List.mem_of_getElem? (i := 338) (by decide +kernel)⟩
theorem lw_p10 : lw_okq (⟨"SpanStore$Block", "owesGreatest", "()Z"⟩, 14) := ⟨⟨by decide +kernel, by decide +kernel⟩, List.mem_of_getElem? (i := 31) (by decide +kernel), List.mem_of_getElem? (i := 341) (by decide +kernel), List.mem_of_getElem? (i := 342) (by decide +kernel)⟩
theorem lw_p11 : lw_okq (⟨"SpanStore$Block", "groupSize", "(I)I"⟩, 14) := ⟨⟨by decide +kernel, by decide +kernel⟩, List.mem_of_getElem? (i := 31) (by decide +kernel), List.mem_of_getElem? (i := 345) (by decide +kernel), List.mem_of_getElem? (i := 346) (by decide +kernel)⟩
theorem lw_p12 : lw_okq (⟨"SpanStore$Block", "hiddenSumEnd", "(II)I"⟩, 14) := ⟨⟨by decide +kernel, by decide +kernel⟩, List.mem_of_getElem? (i := 31) (by decide +kernel), List.mem_of_getElem? (i := 368) (by decide +kernel), List.mem_of_getElem? (i := 369) (by decide +kernel)⟩
theorem lw_p13 : lw_okq (⟨"SpanStore$Block", "hiddenCountEnd", "(II)I"⟩, 14) := ⟨⟨by decide +kernel, by decide +kernel⟩, List.mem_of_getElem? (i := 31) (by decide +kernel), List.mem_of_getElem? (i := 384) (by decide +kernel), List.mem_of_getElem? (i := 385) (by decide +kernel)⟩
theorem lw_p14 : lw_okq (⟨"SpanStore", "knownPairs", "(LSpanStore$Table;LSpanStore$Table;II)I"⟩, 5) := ⟨⟨by decide +kernel, by decide +kernel⟩, List.mem_of_getElem? (i := 11) (by decide +kernel), List.mem_of_getElem? (i := 392) (by decide +kernel), List.mem_of_getElem? (i := 393) (by decide +kernel)⟩
theorem lw_p15 : lw_okq (⟨"SpanStore$Sheet", "cut", "(I)I"⟩, 4) := ⟨⟨by decide +kernel, by decide +kernel⟩, List.mem_of_getElem? (i := 123) (by decide +kernel), List.mem_of_getElem? (i := 465) (by decide +kernel), List.mem_of_getElem? (i := 466) (by decide +kernel)⟩
def lw_privs_1 : List (MethodName × Nat) := [(⟨"SpanStore", "tableAt", "(I)LSpanStore$Table;"⟩, 5), (⟨"SpanStore", "sheetAt", "(I)LSpanStore$Sheet;"⟩, 5), (⟨"SpanStore", "found", "(I)I"⟩, 5), (⟨"SpanStore$Table", "topHiddenAmount", "()I"⟩, 4), (⟨"SpanStore$Table", "keepRows", "(LSpanStore$Block;)V"⟩, 4), (⟨"SpanStore$Table", "isKept", "(LSpanStore$Block;I)Z"⟩, 4), (⟨"SpanStore$Block", "isKnownValue", "(I)Z"⟩, 14), (⟨"SpanStore", "readBlock", "(LSpanStore$Block;)I"⟩, 5), (⟨"SpanStore$Block", "isHalf", "()Z"⟩, 14), (⟨"SpanStore$Block", "owesLeast", "()Z"⟩, 14), (⟨"SpanStore$Block", "owesGreatest", "()Z"⟩, 14), (⟨"SpanStore$Block", "groupSize", "(I)I"⟩, 14), (⟨"SpanStore$Block", "hiddenSumEnd", "(II)I"⟩, 14), (⟨"SpanStore$Block", "hiddenCountEnd", "(II)I"⟩, 14), (⟨"SpanStore", "knownPairs", "(LSpanStore$Table;LSpanStore$Table;II)I"⟩, 5), (⟨"SpanStore$Sheet", "cut", "(I)I"⟩, 4)]
theorem lw_r1 : ∀ q ∈ lw_privs_1, lw_okq q := List.forall_mem_cons.mpr ⟨lw_p0, List.forall_mem_cons.mpr ⟨lw_p1, List.forall_mem_cons.mpr ⟨lw_p2, List.forall_mem_cons.mpr ⟨lw_p3, List.forall_mem_cons.mpr ⟨lw_p4, List.forall_mem_cons.mpr ⟨lw_p5, List.forall_mem_cons.mpr ⟨lw_p6, List.forall_mem_cons.mpr ⟨lw_p7, List.forall_mem_cons.mpr ⟨lw_p8, List.forall_mem_cons.mpr ⟨lw_p9, List.forall_mem_cons.mpr ⟨lw_p10, List.forall_mem_cons.mpr ⟨lw_p11, List.forall_mem_cons.mpr ⟨lw_p12, List.forall_mem_cons.mpr ⟨lw_p13, List.forall_mem_cons.mpr ⟨lw_p14, List.forall_mem_cons.mpr ⟨lw_p15, fun _ h => absurd h List.not_mem_nil⟩⟩⟩⟩⟩⟩⟩⟩⟩⟩⟩⟩⟩⟩⟩⟩
theorem lw_p16 : lw_okq (⟨"SpanStoreModel", "lays", "(IIII)V"⟩, 23) := ⟨⟨by decide +kernel, by decide +kernel⟩, List.mem_of_getElem? (i := 519) (by decide +kernel), List.mem_of_getElem? (i := 611) (by decide +kernel), List.mem_of_getElem? (i := 612) (by decide +kernel)⟩
theorem lw_p17 : lw_okq (⟨"SpanStoreModel", "meets", "(I)I"⟩, 23) := ⟨⟨by decide +kernel, by decide +kernel⟩, List.mem_of_getElem? (i := 519) (by decide +kernel), List.mem_of_getElem? (i := 622) (by decide +kernel), List.mem_of_getElem? (i := 623) (by decide +kernel)⟩
theorem lw_p18 : lw_okq (⟨"SpanStoreModel", "seals", "(II)V"⟩, 23) := ⟨⟨by decide +kernel, by decide +kernel⟩, List.mem_of_getElem? (i := 519) (by decide +kernel), List.mem_of_getElem? (i := 634) (by decide +kernel), List.mem_of_getElem? (i := 635) (by decide +kernel)⟩
theorem lw_p19 : lw_okq (⟨"SpanStoreModel", "keeps", "(III)Z"⟩, 23) := ⟨⟨by decide +kernel, by decide +kernel⟩, List.mem_of_getElem? (i := 519) (by decide +kernel), List.mem_of_getElem? (i := 638) (by decide +kernel), List.mem_of_getElem? (i := 639) (by decide +kernel)⟩
theorem lw_p20 : lw_okq (⟨"SpanStoreModel", "knownOf", "(I)I"⟩, 23) := ⟨⟨by decide +kernel, by decide +kernel⟩, List.mem_of_getElem? (i := 519) (by decide +kernel), List.mem_of_getElem? (i := 645) (by decide +kernel), List.mem_of_getElem? (i := 646) (by decide +kernel)⟩
theorem lw_p21 : lw_okq (⟨"SpanStoreModel", "rowsOf", "(I)I"⟩, 23) := ⟨⟨by decide +kernel, by decide +kernel⟩, List.mem_of_getElem? (i := 519) (by decide +kernel), List.mem_of_getElem? (i := 649) (by decide +kernel), List.mem_of_getElem? (i := 650) (by decide +kernel)⟩
theorem lw_p22 : lw_okq (⟨"SpanStoreModel", "unknownOf", "(I)I"⟩, 23) := ⟨⟨by decide +kernel, by decide +kernel⟩, List.mem_of_getElem? (i := 519) (by decide +kernel), List.mem_of_getElem? (i := 653) (by decide +kernel), List.mem_of_getElem? (i := 654) (by decide +kernel)⟩
theorem lw_p23 : lw_okq (⟨"SpanStoreModel", "readsAll", "(I)I"⟩, 23) := ⟨⟨by decide +kernel, by decide +kernel⟩, List.mem_of_getElem? (i := 519) (by decide +kernel), List.mem_of_getElem? (i := 665) (by decide +kernel), List.mem_of_getElem? (i := 666) (by decide +kernel)⟩
theorem lw_p24 : lw_okq (⟨"SpanStoreModel", "isRowAt", "(III)Z"⟩, 23) := ⟨⟨by decide +kernel, by decide +kernel⟩, List.mem_of_getElem? (i := 519) (by decide +kernel), List.mem_of_getElem? (i := 673) (by decide +kernel), List.mem_of_getElem? (i := 674) (by decide +kernel)⟩
theorem lw_p25 : lw_okq (⟨"SpanStoreModel", "lowOf", "(II)I"⟩, 23) := ⟨⟨by decide +kernel, by decide +kernel⟩, List.mem_of_getElem? (i := 519) (by decide +kernel), List.mem_of_getElem? (i := 686) (by decide +kernel), List.mem_of_getElem? (i := 687) (by decide +kernel)⟩
theorem lw_p26 : lw_okq (⟨"SpanStoreModel", "heavyOf", "(I)I"⟩, 23) := ⟨⟨by decide +kernel, by decide +kernel⟩, List.mem_of_getElem? (i := 519) (by decide +kernel), List.mem_of_getElem? (i := 690) (by decide +kernel), List.mem_of_getElem? (i := 691) (by decide +kernel)⟩
theorem lw_p27 : lw_okq (⟨"SpanStoreModel", "highOf", "(II)I"⟩, 23) := ⟨⟨by decide +kernel, by decide +kernel⟩, List.mem_of_getElem? (i := 519) (by decide +kernel), List.mem_of_getElem? (i := 694) (by decide +kernel), List.mem_of_getElem? (i := 695) (by decide +kernel)⟩
theorem lw_p28 : lw_okq (⟨"SpanStoreModel", "owesLeast", "(II)Z"⟩, 23) := ⟨⟨by decide +kernel, by decide +kernel⟩, List.mem_of_getElem? (i := 519) (by decide +kernel), List.mem_of_getElem? (i := 698) (by decide +kernel), List.mem_of_getElem? (i := 699) (by decide +kernel)⟩
theorem lw_p29 : lw_okq (⟨"SpanStoreModel", "isUnseen", "(II)Z"⟩, 23) := ⟨⟨by decide +kernel, by decide +kernel⟩, List.mem_of_getElem? (i := 519) (by decide +kernel), List.mem_of_getElem? (i := 702) (by decide +kernel), List.mem_of_getElem? (i := 703) (by decide +kernel)⟩
theorem lw_p30 : lw_okq (⟨"SpanStoreModel", "owesGreatest", "(II)Z"⟩, 23) := ⟨⟨by decide +kernel, by decide +kernel⟩, List.mem_of_getElem? (i := 519) (by decide +kernel), List.mem_of_getElem? (i := 706) (by decide +kernel), List.mem_of_getElem? (i := 707) (by decide +kernel)⟩
theorem lw_p31 : lw_okq (⟨"SpanStoreModel", "sumNow", "(III)J"⟩, 23) := ⟨⟨by decide +kernel, by decide +kernel⟩, List.mem_of_getElem? (i := 519) (by decide +kernel), List.mem_of_getElem? (i := 718) (by decide +kernel), List.mem_of_getElem? (i := 719) (by decide +kernel)⟩
def lw_privs_2 : List (MethodName × Nat) := [(⟨"SpanStoreModel", "lays", "(IIII)V"⟩, 23), (⟨"SpanStoreModel", "meets", "(I)I"⟩, 23), (⟨"SpanStoreModel", "seals", "(II)V"⟩, 23), (⟨"SpanStoreModel", "keeps", "(III)Z"⟩, 23), (⟨"SpanStoreModel", "knownOf", "(I)I"⟩, 23), (⟨"SpanStoreModel", "rowsOf", "(I)I"⟩, 23), (⟨"SpanStoreModel", "unknownOf", "(I)I"⟩, 23), (⟨"SpanStoreModel", "readsAll", "(I)I"⟩, 23), (⟨"SpanStoreModel", "isRowAt", "(III)Z"⟩, 23), (⟨"SpanStoreModel", "lowOf", "(II)I"⟩, 23), (⟨"SpanStoreModel", "heavyOf", "(I)I"⟩, 23), (⟨"SpanStoreModel", "highOf", "(II)I"⟩, 23), (⟨"SpanStoreModel", "owesLeast", "(II)Z"⟩, 23), (⟨"SpanStoreModel", "isUnseen", "(II)Z"⟩, 23), (⟨"SpanStoreModel", "owesGreatest", "(II)Z"⟩, 23), (⟨"SpanStoreModel", "sumNow", "(III)J"⟩, 23)]
theorem lw_r2 : ∀ q ∈ lw_privs_2, lw_okq q := List.forall_mem_cons.mpr ⟨lw_p16, List.forall_mem_cons.mpr ⟨lw_p17, List.forall_mem_cons.mpr ⟨lw_p18, List.forall_mem_cons.mpr ⟨lw_p19, List.forall_mem_cons.mpr ⟨lw_p20, List.forall_mem_cons.mpr ⟨lw_p21, List.forall_mem_cons.mpr ⟨lw_p22, List.forall_mem_cons.mpr ⟨lw_p23, List.forall_mem_cons.mpr ⟨lw_p24, List.forall_mem_cons.mpr ⟨lw_p25, List.forall_mem_cons.mpr ⟨lw_p26, List.forall_mem_cons.mpr ⟨lw_p27, List.forall_mem_cons.mpr ⟨lw_p28, List.forall_mem_cons.mpr ⟨lw_p29, List.forall_mem_cons.mpr ⟨lw_p30, List.forall_mem_cons.mpr ⟨lw_p31, fun _ h => absurd h List.not_mem_nil⟩⟩⟩⟩⟩⟩⟩⟩⟩⟩⟩⟩⟩⟩⟩⟩
theorem lw_p32 : lw_okq (⟨"SpanStoreModel", "sumOf", "(IIII)J"⟩, 23) := ⟨⟨by decide +kernel, by decide +kernel⟩, List.mem_of_getElem? (i := 519) (by decide +kernel), List.mem_of_getElem? (i := 722) (by decide +kernel), List.mem_of_getElem? (i := 723) (by decide +kernel)⟩
theorem lw_p33 : lw_okq (⟨"SpanStoreModel", "countOf", "(IIII)I"⟩, 23) := ⟨⟨by decide +kernel, by decide +kernel⟩, List.mem_of_getElem? (i := 519) (by decide +kernel), List.mem_of_getElem? (i := 730) (by decide +kernel), List.mem_of_getElem? (i := 731) (by decide +kernel)⟩
theorem lw_p34 : lw_okq (⟨"SpanStoreModel", "pairs", "(II)I"⟩, 23) := ⟨⟨by decide +kernel, by decide +kernel⟩, List.mem_of_getElem? (i := 519) (by decide +kernel), List.mem_of_getElem? (i := 738) (by decide +kernel), List.mem_of_getElem? (i := 739) (by decide +kernel)⟩
theorem lw_p35 : lw_okq (⟨"SpanStoreModel", "isKnownAt", "(I)Z"⟩, 23) := ⟨⟨by decide +kernel, by decide +kernel⟩, List.mem_of_getElem? (i := 519) (by decide +kernel), List.mem_of_getElem? (i := 742) (by decide +kernel), List.mem_of_getElem? (i := 743) (by decide +kernel)⟩
theorem lw_p36 : lw_okq (⟨"SpanStoreModel", "hasKeyed", "(III)Z"⟩, 23) := ⟨⟨by decide +kernel, by decide +kernel⟩, List.mem_of_getElem? (i := 519) (by decide +kernel), List.mem_of_getElem? (i := 750) (by decide +kernel), List.mem_of_getElem? (i := 751) (by decide +kernel)⟩
theorem lw_p37 : lw_okq (⟨"SpanStoreModel", "nextOf", "(II)I"⟩, 23) := ⟨⟨by decide +kernel, by decide +kernel⟩, List.mem_of_getElem? (i := 519) (by decide +kernel), List.mem_of_getElem? (i := 758) (by decide +kernel), List.mem_of_getElem? (i := 759) (by decide +kernel)⟩
theorem lw_p38 : lw_okq (⟨"SpanStoreModel", "lacks", "(III)I"⟩, 23) := ⟨⟨by decide +kernel, by decide +kernel⟩, List.mem_of_getElem? (i := 519) (by decide +kernel), List.mem_of_getElem? (i := 779) (by decide +kernel), List.mem_of_getElem? (i := 780) (by decide +kernel)⟩
theorem lw_p39 : lw_okq (⟨"SpanStoreModel", "lay", "(III)V"⟩, 23) := ⟨⟨by decide +kernel, by decide +kernel⟩, List.mem_of_getElem? (i := 519) (by decide +kernel), List.mem_of_getElem? (i := 783) (by decide +kernel), List.mem_of_getElem? (i := 784) (by decide +kernel)⟩
def lw_privs_3 : List (MethodName × Nat) := [(⟨"SpanStoreModel", "sumOf", "(IIII)J"⟩, 23), (⟨"SpanStoreModel", "countOf", "(IIII)I"⟩, 23), (⟨"SpanStoreModel", "pairs", "(II)I"⟩, 23), (⟨"SpanStoreModel", "isKnownAt", "(I)Z"⟩, 23), (⟨"SpanStoreModel", "hasKeyed", "(III)Z"⟩, 23), (⟨"SpanStoreModel", "nextOf", "(II)I"⟩, 23), (⟨"SpanStoreModel", "lacks", "(III)I"⟩, 23), (⟨"SpanStoreModel", "lay", "(III)V"⟩, 23)]
theorem lw_r3 : ∀ q ∈ lw_privs_3, lw_okq q := List.forall_mem_cons.mpr ⟨lw_p32, List.forall_mem_cons.mpr ⟨lw_p33, List.forall_mem_cons.mpr ⟨lw_p34, List.forall_mem_cons.mpr ⟨lw_p35, List.forall_mem_cons.mpr ⟨lw_p36, List.forall_mem_cons.mpr ⟨lw_p37, List.forall_mem_cons.mpr ⟨lw_p38, List.forall_mem_cons.mpr ⟨lw_p39, fun _ h => absurd h List.not_mem_nil⟩⟩⟩⟩⟩⟩⟩⟩
def lw_privs : List (MethodName × Nat) := lw_privs_1 ++ (lw_privs_2 ++ (lw_privs_3))
def lw_tbl : List Cond := k2_sels lw_privs ++ tables_1
theorem lw_privs_ok : ∀ q ∈ lw_privs, lw_okq q := by
  show ∀ q ∈ lw_privs_1 ++ (lw_privs_2 ++ (lw_privs_3)), lw_okq q
  exact List.forall_mem_append.mpr ⟨lw_r1, List.forall_mem_append.mpr ⟨lw_r2, lw_r3⟩⟩

def nR0 : String := "SpanStore$Block"
def nT0 : u_T := fun k => match k with
  | 0 => ("SpanStore$Block", "keys", "[I", true)
  | 1 => ("SpanStore$Block", "groups", "[I", true)
  | 2 => ("SpanStore$Block", "values", "[I", true)
  | 3 => ("SpanStore$Block", "known", "[Z", true)
  | 4 => ("SpanStore$Block", "groupSizes", "[I", true)
  | 5 => ("SpanStore$Block", "size", "I", false)
  | 6 => ("SpanStore$Block", "knownCount", "I", false)
  | 7 => ("SpanStore$Block", "least", "I", false)
  | 8 => ("SpanStore$Block", "greatest", "I", false)
  | 9 => ("SpanStore$Block", "low", "I", false)
  | 10 => ("SpanStore$Block", "high", "I", false)
  | 11 => ("SpanStore$Block", "leastKept", "Z", false)
  | 12 => ("SpanStore$Block", "greatestKept", "Z", false)
  | _ => ("SpanStore$Block", "changedUnseen", "Z", false)
def nY0 : Nat → FieldType := fun k => match k with
  | 0 => .array .int
  | 1 => .array .int
  | 2 => .array .int
  | 3 => .array .boolean
  | 4 => .array .int
  | 5 => .int
  | 6 => .int
  | 7 => .int
  | 8 => .int
  | 9 => .int
  | 10 => .int
  | 11 => .boolean
  | 12 => .boolean
  | _ => .boolean
theorem nm0 : ∀ a, a < 14 → ∀ b, b < 14 → a ≠ b → (nT0 a).2.1 ≠ (nT0 b).2.1 := by decide +kernel
theorem nY0_ok : ∀ k, k < 14 → parseFieldDescriptor (nT0 k).2.2.1 = some (nY0 k) := by decide +kernel
def nR1 : String := "SpanStore$Keeper"
def nT1 : u_T := fun k => match k with
  | 0 => ("SpanStore$Keeper", "kind", "I", false)
  | 1 => ("SpanStore$Keeper", "a", "I", false)
  | _ => ("SpanStore$Keeper", "b", "I", false)
def nY1 : Nat → FieldType := fun k => match k with
  | 0 => .int
  | 1 => .int
  | _ => .int
theorem nm1 : ∀ a, a < 3 → ∀ b, b < 3 → a ≠ b → (nT1 a).2.1 ≠ (nT1 b).2.1 := by decide +kernel
theorem nY1_ok : ∀ k, k < 3 → parseFieldDescriptor (nT1 k).2.2.1 = some (nY1 k) := by decide +kernel
def nR2 : String := "SpanStore$Sheet"
def nT2 : u_T := fun k => match k with
  | 0 => ("SpanStore$Sheet", "items", "[I", true)
  | 1 => ("SpanStore$Sheet", "form", "I", false)
  | 2 => ("SpanStore$Sheet", "size", "I", false)
  | _ => ("SpanStore$Sheet", "lost", "Z", false)
def nY2 : Nat → FieldType := fun k => match k with
  | 0 => .array .int
  | 1 => .int
  | 2 => .int
  | _ => .boolean
theorem nm2 : ∀ a, a < 4 → ∀ b, b < 4 → a ≠ b → (nT2 a).2.1 ≠ (nT2 b).2.1 := by decide +kernel
theorem nY2_ok : ∀ k, k < 4 → parseFieldDescriptor (nT2 k).2.2.1 = some (nY2 k) := by decide +kernel
def nR3 : String := "SpanStore$Table"
def nT3 : u_T := fun k => match k with
  | 0 => ("SpanStore$Table", "blocks", "[LSpanStore$Block;", true)
  | 1 => ("SpanStore$Table", "keepers", "[LSpanStore$Keeper;", true)
  | 2 => ("SpanStore$Table", "keeperCount", "I", false)
  | _ => ("SpanStore$Table", "sealed", "Z", false)
def nY3 : Nat → FieldType := fun k => match k with
  | 0 => .array (.object "SpanStore$Block")
  | 1 => .array (.object "SpanStore$Keeper")
  | 2 => .int
  | _ => .boolean
theorem nm3 : ∀ a, a < 4 → ∀ b, b < 4 → a ≠ b → (nT3 a).2.1 ≠ (nT3 b).2.1 := by decide +kernel
theorem nY3_ok : ∀ k, k < 4 → parseFieldDescriptor (nT3 k).2.2.1 = some (nY3 k) := by decide +kernel
def nR4 : String := "SpanStore"
def nT4 : u_T := fun k => match k with
  | 0 => ("SpanStore", "tables", "[LSpanStore$Table;", true)
  | 1 => ("SpanStore", "sheets", "[LSpanStore$Sheet;", true)
  | 2 => ("SpanStore", "keyCounts", "[I", true)
  | 3 => ("SpanStore", "reads", "I", false)
  | _ => ("SpanStore", "finding", "I", false)
def nY4 : Nat → FieldType := fun k => match k with
  | 0 => .array (.object "SpanStore$Table")
  | 1 => .array (.object "SpanStore$Sheet")
  | 2 => .array .int
  | 3 => .int
  | _ => .int
theorem nm4 : ∀ a, a < 5 → ∀ b, b < 5 → a ≠ b → (nT4 a).2.1 ≠ (nT4 b).2.1 := by decide +kernel
theorem nY4_ok : ∀ k, k < 5 → parseFieldDescriptor (nT4 k).2.2.1 = some (nY4 k) := by decide +kernel
def nR5 : String := "SpanStoreModel"
def nT5 : u_T := fun k => match k with
  | 0 => ("SpanStoreModel", "many", "[I", true)
  | 1 => ("SpanStoreModel", "keys", "[I", true)
  | 2 => ("SpanStoreModel", "groups", "[I", true)
  | 3 => ("SpanStoreModel", "values", "[I", true)
  | 4 => ("SpanStoreModel", "isKnown", "[Z", true)
  | 5 => ("SpanStoreModel", "wasKnown", "[Z", true)
  | 6 => ("SpanStoreModel", "valueThen", "[I", true)
  | 7 => ("SpanStoreModel", "leasts", "[I", true)
  | 8 => ("SpanStoreModel", "greatests", "[I", true)
  | 9 => ("SpanStoreModel", "groupMany", "[I", true)
  | 10 => ("SpanStoreModel", "isTouched", "[Z", true)
  | 11 => ("SpanStoreModel", "isSealed", "[Z", true)
  | 12 => ("SpanStoreModel", "keepers", "[I", true)
  | 13 => ("SpanStoreModel", "keeperKind", "[I", true)
  | 14 => ("SpanStoreModel", "keeperA", "[I", true)
  | 15 => ("SpanStoreModel", "keeperB", "[I", true)
  | 16 => ("SpanStoreModel", "reads", "I", false)
  | 17 => ("SpanStoreModel", "isThere", "[Z", true)
  | 18 => ("SpanStoreModel", "forms", "[I", true)
  | 19 => ("SpanStoreModel", "sizes", "[I", true)
  | 20 => ("SpanStoreModel", "items", "[I", true)
  | 21 => ("SpanStoreModel", "moved", "[I", true)
  | _ => ("SpanStoreModel", "finding", "I", false)
def nY5 : Nat → FieldType := fun k => match k with
  | 0 => .array .int
  | 1 => .array .int
  | 2 => .array .int
  | 3 => .array .int
  | 4 => .array .boolean
  | 5 => .array .boolean
  | 6 => .array .int
  | 7 => .array .int
  | 8 => .array .int
  | 9 => .array .int
  | 10 => .array .boolean
  | 11 => .array .boolean
  | 12 => .array .int
  | 13 => .array .int
  | 14 => .array .int
  | 15 => .array .int
  | 16 => .int
  | 17 => .array .boolean
  | 18 => .array .int
  | 19 => .array .int
  | 20 => .array .int
  | 21 => .array .int
  | _ => .int
theorem nm5 : ∀ a, a < 23 → ∀ b, b < 23 → a ≠ b → (nT5 a).2.1 ≠ (nT5 b).2.1 := by decide +kernel
theorem nY5_ok : ∀ k, k < 23 → parseFieldDescriptor (nT5 k).2.2.1 = some (nY5 k) := by decide +kernel
def fR (ci : Nat) : String := match ci with
  | 0 => nR0
  | 1 => nR1
  | 2 => nR2
  | 3 => nR3
  | 4 => nR4
  | _ => nR5
def fT (ci : Nat) : u_T := match ci with
  | 0 => nT0
  | 1 => nT1
  | 2 => nT2
  | 3 => nT3
  | 4 => nT4
  | _ => nT5
def fN (ci : Nat) : Nat := match ci with
  | 0 => 14
  | 1 => 3
  | 2 => 4
  | 3 => 4
  | 4 => 5
  | _ => 23
def fY (ci : Nat) : Nat → FieldType := match ci with
  | 0 => nY0
  | 1 => nY1
  | 2 => nY2
  | 3 => nY3
  | 4 => nY4
  | _ => nY5
abbrev clsL : List vw_C := [(fR 0, fT 0, fN 0), (fR 1, fT 1, fN 1), (fR 2, fT 2, fN 2), (fR 3, fT 3, fN 3), (fR 4, fT 4, fN 4), (fR 5, fT 5, fN 5)]
theorem clsL_at {ci : Nat} (h : ci < 6) : clsL[ci]? = some (fR ci, fT ci, fN ci) := by
  rcases (show ci = 0 ∨ ci = 1 ∨ ci = 2 ∨ ci = 3 ∨ ci = 4 ∨ ci = 5 by omega) with rfl | rfl | rfl | rfl | rfl | rfl <;> rfl
theorem fY_ok {ci : Nat} (h : ci < 6) : ∀ k, k < fN ci → parseFieldDescriptor (fT ci k).2.2.1 = some (fY ci k) := by
  rcases (show ci = 0 ∨ ci = 1 ∨ ci = 2 ∨ ci = 3 ∨ ci = 4 ∨ ci = 5 by omega) with rfl | rfl | rfl | rfl | rfl | rfl
  · exact nY0_ok
  · exact nY1_ok
  · exact nY2_ok
  · exact nY3_ok
  · exact nY4_ok
  · exact nY5_ok
theorem fm_ok {ci : Nat} (h : ci < 6) : ∀ a, a < fN ci → ∀ b, b < fN ci → a ≠ b → (fT ci a).2.1 ≠ (fT ci b).2.1 := by
  rcases (show ci = 0 ∨ ci = 1 ∨ ci = 2 ∨ ci = 3 ∨ ci = 4 ∨ ci = 5 by omega) with rfl | rfl | rfl | rfl | rfl | rfl
  · exact nm0
  · exact nm1
  · exact nm2
  · exact nm3
  · exact nm4
  · exact nm5
def tbG : List Cond := lw_tbl.filter goodWord
theorem wm {w : Cond} (i : Nat) (h : lw_tbl[i]? = some w) (g : goodWord w = true) : w ∈ tbG := List.mem_filter.mpr ⟨List.mem_of_getElem? h, g⟩
theorem tbG_good {c : Cond} (h : c ∈ tbG) : GoodIn tbG (c :: tbG) := fun w hw => by
  have hm : w ∈ tbG := (List.mem_cons.mp hw).elim (fun e => e ▸ h) id
  exact ⟨hm, good_of_word (List.mem_filter.mp hm).2⟩
theorem tbG_sub {args : Array Value} {s : State} (h : ∀ w ∈ lw_tbl, w.before args s = true) : ∀ w ∈ tbG, w.before args s = true := fun w hw => h w (List.mem_filter.mp hw).1
theorem inG0 : ∀ w ∈ u_ws (fR 0) (fT 0) (fN 0), w ∈ tbG := by
  intro w hw
  obtain ⟨k, hk, rfl⟩ := List.mem_map.mp hw
  rcases (show k = 0 ∨ k = 1 ∨ k = 2 ∨ k = 3 ∨ k = 4 ∨ k = 5 ∨ k = 6 ∨ k = 7 ∨ k = 8 ∨ k = 9 ∨ k = 10 ∨ k = 11 ∨ k = 12 ∨ k = 13 by have := List.mem_range.mp hk; simp only [fN] at this; omega) with rfl | rfl | rfl | rfl | rfl | rfl | rfl | rfl | rfl | rfl | rfl | rfl | rfl | rfl
  · exact wm 98 (by decide +kernel) (by decide +kernel)
  · exact wm 100 (by decide +kernel) (by decide +kernel)
  · exact wm 102 (by decide +kernel) (by decide +kernel)
  · exact wm 104 (by decide +kernel) (by decide +kernel)
  · exact wm 106 (by decide +kernel) (by decide +kernel)
  · exact wm 108 (by decide +kernel) (by decide +kernel)
  · exact wm 110 (by decide +kernel) (by decide +kernel)
  · exact wm 112 (by decide +kernel) (by decide +kernel)
  · exact wm 114 (by decide +kernel) (by decide +kernel)
  · exact wm 116 (by decide +kernel) (by decide +kernel)
  · exact wm 118 (by decide +kernel) (by decide +kernel)
  · exact wm 120 (by decide +kernel) (by decide +kernel)
  · exact wm 122 (by decide +kernel) (by decide +kernel)
  · exact wm 124 (by decide +kernel) (by decide +kernel)
theorem inG1 : ∀ w ∈ u_ws (fR 1) (fT 1) (fN 1), w ∈ tbG := by
  intro w hw
  obtain ⟨k, hk, rfl⟩ := List.mem_map.mp hw
  rcases (show k = 0 ∨ k = 1 ∨ k = 2 by have := List.mem_range.mp hk; simp only [fN] at this; omega) with rfl | rfl | rfl
  · exact wm 140 (by decide +kernel) (by decide +kernel)
  · exact wm 142 (by decide +kernel) (by decide +kernel)
  · exact wm 144 (by decide +kernel) (by decide +kernel)
theorem inG2 : ∀ w ∈ u_ws (fR 2) (fT 2) (fN 2), w ∈ tbG := by
  intro w hw
  obtain ⟨k, hk, rfl⟩ := List.mem_map.mp hw
  rcases (show k = 0 ∨ k = 1 ∨ k = 2 ∨ k = 3 by have := List.mem_range.mp hk; simp only [fN] at this; omega) with rfl | rfl | rfl | rfl
  · exact wm 177 (by decide +kernel) (by decide +kernel)
  · exact wm 179 (by decide +kernel) (by decide +kernel)
  · exact wm 181 (by decide +kernel) (by decide +kernel)
  · exact wm 183 (by decide +kernel) (by decide +kernel)
theorem inG3 : ∀ w ∈ u_ws (fR 3) (fT 3) (fN 3), w ∈ tbG := by
  intro w hw
  obtain ⟨k, hk, rfl⟩ := List.mem_map.mp hw
  rcases (show k = 0 ∨ k = 1 ∨ k = 2 ∨ k = 3 by have := List.mem_range.mp hk; simp only [fN] at this; omega) with rfl | rfl | rfl | rfl
  · exact wm 154 (by decide +kernel) (by decide +kernel)
  · exact wm 156 (by decide +kernel) (by decide +kernel)
  · exact wm 158 (by decide +kernel) (by decide +kernel)
  · exact wm 160 (by decide +kernel) (by decide +kernel)
theorem inG4 : ∀ w ∈ u_ws (fR 4) (fT 4) (fN 4), w ∈ tbG := by
  intro w hw
  obtain ⟨k, hk, rfl⟩ := List.mem_map.mp hw
  rcases (show k = 0 ∨ k = 1 ∨ k = 2 ∨ k = 3 ∨ k = 4 by have := List.mem_range.mp hk; simp only [fN] at this; omega) with rfl | rfl | rfl | rfl | rfl
  · exact wm 191 (by decide +kernel) (by decide +kernel)
  · exact wm 193 (by decide +kernel) (by decide +kernel)
  · exact wm 195 (by decide +kernel) (by decide +kernel)
  · exact wm 197 (by decide +kernel) (by decide +kernel)
  · exact wm 199 (by decide +kernel) (by decide +kernel)
theorem inG5 : ∀ w ∈ u_ws (fR 5) (fT 5) (fN 5), w ∈ tbG := by
  intro w hw
  obtain ⟨k, hk, rfl⟩ := List.mem_map.mp hw
  rcases (show k = 0 ∨ k = 1 ∨ k = 2 ∨ k = 3 ∨ k = 4 ∨ k = 5 ∨ k = 6 ∨ k = 7 ∨ k = 8 ∨ k = 9 ∨ k = 10 ∨ k = 11 ∨ k = 12 ∨ k = 13 ∨ k = 14 ∨ k = 15 ∨ k = 16 ∨ k = 17 ∨ k = 18 ∨ k = 19 ∨ k = 20 ∨ k = 21 ∨ k = 22 by have := List.mem_range.mp hk; simp only [fN] at this; omega) with rfl | rfl | rfl | rfl | rfl | rfl | rfl | rfl | rfl | rfl | rfl | rfl | rfl | rfl | rfl | rfl | rfl | rfl | rfl | rfl | rfl | rfl | rfl
  · exact wm 587 (by decide +kernel) (by decide +kernel)
  · exact wm 589 (by decide +kernel) (by decide +kernel)
  · exact wm 591 (by decide +kernel) (by decide +kernel)
  · exact wm 593 (by decide +kernel) (by decide +kernel)
  · exact wm 595 (by decide +kernel) (by decide +kernel)
  · exact wm 597 (by decide +kernel) (by decide +kernel)
  · exact wm 599 (by decide +kernel) (by decide +kernel)
  · exact wm 601 (by decide +kernel) (by decide +kernel)
  · exact wm 603 (by decide +kernel) (by decide +kernel)
  · exact wm 605 (by decide +kernel) (by decide +kernel)
  · exact wm 607 (by decide +kernel) (by decide +kernel)
  · exact wm 609 (by decide +kernel) (by decide +kernel)
  · exact wm 611 (by decide +kernel) (by decide +kernel)
  · exact wm 613 (by decide +kernel) (by decide +kernel)
  · exact wm 615 (by decide +kernel) (by decide +kernel)
  · exact wm 617 (by decide +kernel) (by decide +kernel)
  · exact wm 619 (by decide +kernel) (by decide +kernel)
  · exact wm 621 (by decide +kernel) (by decide +kernel)
  · exact wm 623 (by decide +kernel) (by decide +kernel)
  · exact wm 625 (by decide +kernel) (by decide +kernel)
  · exact wm 627 (by decide +kernel) (by decide +kernel)
  · exact wm 629 (by decide +kernel) (by decide +kernel)
  · exact wm 631 (by decide +kernel) (by decide +kernel)
theorem inG {ci : Nat} (h : ci < 6) : ∀ w ∈ u_ws (fR ci) (fT ci) (fN ci), w ∈ tbG := by
  rcases (show ci = 0 ∨ ci = 1 ∨ ci = 2 ∨ ci = 3 ∨ ci = 4 ∨ ci = 5 by omega) with rfl | rfl | rfl | rfl | rfl | rfl
  · exact inG0
  · exact inG1
  · exact inG2
  · exact inG3
  · exact inG4
  · exact inG5
def MX (y : MethodName) (cc : ByteArray) (nL : Nat) (rt : Option FieldType) (n : Nat) : Prop := Cond.code y cc nL rt ∈ tbG ∧ Cond.initialized y.cls ∈ tbG ∧ (y.cls ≠ "java/lang/invoke/MethodHandle" ∧ y.cls ≠ "java/lang/invoke/VarHandle" ∧ (parseMethodDescriptor y.desc).map (fun d => d.parameters.length) = some n)
def MV (y : MethodName) (ci : Nat) : Prop := Cond.instanceMethod y ∈ tbG ∧ Cond.selects (fR ci) y y ∈ tbG ∧ y.cls = fR ci ∧ ci < 6
def MS (y : MethodName) : Prop := Cond.static y ∈ tbG
def MI (y : MethodName) : Prop := Cond.instanceMethod y ∈ tbG ∧ y.name = "<init>"
def y_B_init : MethodName := ⟨"SpanStore$Block", "<init>", "()V"⟩
abbrev c_B_init : ByteArray := prog_2_method_1_code
theorem mx_B_init : MX y_B_init c_B_init 1 none 0 := ⟨wm 74 (by decide +kernel) (by decide +kernel), wm 43 (by decide +kernel) (by decide +kernel), (by decide +kernel)⟩
theorem mi_B_init : MI y_B_init := ⟨wm 73 (by decide +kernel) (by decide +kernel), rfl⟩
def y_B_hasRow : MethodName := ⟨"SpanStore$Block", "hasRow", "(I)Z"⟩
abbrev c_B_hasRow : ByteArray := prog_2_method_2_code
theorem mx_B_hasRow : MX y_B_hasRow c_B_hasRow 2 (some .boolean) 1 := ⟨wm 283 (by decide +kernel) (by decide +kernel), wm 43 (by decide +kernel) (by decide +kernel), (by decide +kernel)⟩
theorem mv_B_hasRow : MV y_B_hasRow 0 := ⟨wm 281 (by decide +kernel) (by decide +kernel), wm 282 (by decide +kernel) (by decide +kernel), rfl, by decide⟩
def y_B_addRow : MethodName := ⟨"SpanStore$Block", "addRow", "(III)V"⟩
abbrev c_B_addRow : ByteArray := prog_2_method_3_code
theorem mx_B_addRow : MX y_B_addRow c_B_addRow 4 none 3 := ⟨wm 222 (by decide +kernel) (by decide +kernel), wm 43 (by decide +kernel) (by decide +kernel), (by decide +kernel)⟩
theorem mv_B_addRow : MV y_B_addRow 0 := ⟨wm 220 (by decide +kernel) (by decide +kernel), wm 221 (by decide +kernel) (by decide +kernel), rfl, by decide⟩
def y_B_empty : MethodName := ⟨"SpanStore$Block", "empty", "()V"⟩
abbrev c_B_empty : ByteArray := prog_2_method_4_code
theorem mx_B_empty : MX y_B_empty c_B_empty 1 none 0 := ⟨wm 330 (by decide +kernel) (by decide +kernel), wm 43 (by decide +kernel) (by decide +kernel), (by decide +kernel)⟩
theorem mv_B_empty : MV y_B_empty 0 := ⟨wm 328 (by decide +kernel) (by decide +kernel), wm 329 (by decide +kernel) (by decide +kernel), rfl, by decide⟩
def y_B_earlierOfItsGroup : MethodName := ⟨"SpanStore$Block", "earlierOfItsGroup", "(I)I"⟩
abbrev c_B_earlierOfItsGroup : ByteArray := prog_2_method_5_code
theorem mx_B_earlierOfItsGroup : MX y_B_earlierOfItsGroup c_B_earlierOfItsGroup 4 (some .int) 1 := ⟨wm 290 (by decide +kernel) (by decide +kernel), wm 43 (by decide +kernel) (by decide +kernel), (by decide +kernel)⟩
theorem mv_B_earlierOfItsGroup : MV y_B_earlierOfItsGroup 0 := ⟨wm 288 (by decide +kernel) (by decide +kernel), wm 289 (by decide +kernel) (by decide +kernel), rfl, by decide⟩
def y_B_know : MethodName := ⟨"SpanStore$Block", "know", "(I)V"⟩
abbrev c_B_know : ByteArray := prog_2_method_6_code
theorem mx_B_know : MX y_B_know c_B_know 2 none 1 := ⟨wm 297 (by decide +kernel) (by decide +kernel), wm 43 (by decide +kernel) (by decide +kernel), (by decide +kernel)⟩
theorem mv_B_know : MV y_B_know 0 := ⟨wm 295 (by decide +kernel) (by decide +kernel), wm 296 (by decide +kernel) (by decide +kernel), rfl, by decide⟩
def y_B_knowAll : MethodName := ⟨"SpanStore$Block", "knowAll", "()V"⟩
abbrev c_B_knowAll : ByteArray := prog_2_method_7_code
theorem mx_B_knowAll : MX y_B_knowAll c_B_knowAll 2 none 0 := ⟨wm 345 (by decide +kernel) (by decide +kernel), wm 43 (by decide +kernel) (by decide +kernel), (by decide +kernel)⟩
theorem mv_B_knowAll : MV y_B_knowAll 0 := ⟨wm 343 (by decide +kernel) (by decide +kernel), wm 344 (by decide +kernel) (by decide +kernel), rfl, by decide⟩
def y_B_changeRow : MethodName := ⟨"SpanStore$Block", "changeRow", "(II)V"⟩
abbrev c_B_changeRow : ByteArray := prog_2_method_8_code
theorem mx_B_changeRow : MX y_B_changeRow c_B_changeRow 3 none 2 := ⟨wm 355 (by decide +kernel) (by decide +kernel), wm 43 (by decide +kernel) (by decide +kernel), (by decide +kernel)⟩
theorem mv_B_changeRow : MV y_B_changeRow 0 := ⟨wm 353 (by decide +kernel) (by decide +kernel), wm 354 (by decide +kernel) (by decide +kernel), rfl, by decide⟩
def y_B_measure : MethodName := ⟨"SpanStore$Block", "measure", "(I)V"⟩
abbrev c_B_measure : ByteArray := prog_2_method_9_code
theorem mx_B_measure : MX y_B_measure c_B_measure 3 none 1 := ⟨wm 302 (by decide +kernel) (by decide +kernel), wm 43 (by decide +kernel) (by decide +kernel), (by decide +kernel)⟩
theorem mv_B_measure : MV y_B_measure 0 := ⟨wm 300 (by decide +kernel) (by decide +kernel), wm 301 (by decide +kernel) (by decide +kernel), rfl, by decide⟩
def y_B_fact : MethodName := ⟨"SpanStore$Block", "fact", "(I)I"⟩
abbrev c_B_fact : ByteArray := prog_2_method_10_code
theorem mx_B_fact : MX y_B_fact c_B_fact 2 (some .int) 1 := ⟨wm 371 (by decide +kernel) (by decide +kernel), wm 43 (by decide +kernel) (by decide +kernel), (by decide +kernel)⟩
theorem mv_B_fact : MV y_B_fact 0 := ⟨wm 369 (by decide +kernel) (by decide +kernel), wm 370 (by decide +kernel) (by decide +kernel), rfl, by decide⟩
def y_B_sumEnd : MethodName := ⟨"SpanStore$Block", "sumEnd", "(II)J"⟩
abbrev c_B_sumEnd : ByteArray := prog_2_method_11_code
theorem mx_B_sumEnd : MX y_B_sumEnd c_B_sumEnd 6 (some .long) 2 := ⟨wm 406 (by decide +kernel) (by decide +kernel), wm 43 (by decide +kernel) (by decide +kernel), (by decide +kernel)⟩
theorem mv_B_sumEnd : MV y_B_sumEnd 0 := ⟨wm 404 (by decide +kernel) (by decide +kernel), wm 405 (by decide +kernel) (by decide +kernel), rfl, by decide⟩
def y_B_apart : MethodName := ⟨"SpanStore$Block", "apart", "(I)J"⟩
abbrev c_B_apart : ByteArray := prog_2_method_12_code
theorem mx_B_apart : MX y_B_apart c_B_apart 2 (some .long) 1 := ⟨wm 464 (by decide +kernel) (by decide +kernel), wm 43 (by decide +kernel) (by decide +kernel), (by decide +kernel)⟩
theorem mv_B_apart : MV y_B_apart 0 := ⟨wm 462 (by decide +kernel) (by decide +kernel), wm 463 (by decide +kernel) (by decide +kernel), rfl, by decide⟩
def y_B_countEnd : MethodName := ⟨"SpanStore$Block", "countEnd", "(II)I"⟩
abbrev c_B_countEnd : ByteArray := prog_2_method_13_code
theorem mx_B_countEnd : MX y_B_countEnd c_B_countEnd 5 (some .int) 2 := ⟨wm 422 (by decide +kernel) (by decide +kernel), wm 43 (by decide +kernel) (by decide +kernel), (by decide +kernel)⟩
theorem mv_B_countEnd : MV y_B_countEnd 0 := ⟨wm 420 (by decide +kernel) (by decide +kernel), wm 421 (by decide +kernel) (by decide +kernel), rfl, by decide⟩
def y_B_addKnownKeys : MethodName := ⟨"SpanStore$Block", "addKnownKeys", "([I)V"⟩
abbrev c_B_addKnownKeys : ByteArray := prog_2_method_14_code
theorem mx_B_addKnownKeys : MX y_B_addKnownKeys c_B_addKnownKeys 4 none 1 := ⟨wm 439 (by decide +kernel) (by decide +kernel), wm 43 (by decide +kernel) (by decide +kernel), (by decide +kernel)⟩
theorem mv_B_addKnownKeys : MV y_B_addKnownKeys 0 := ⟨wm 437 (by decide +kernel) (by decide +kernel), wm 438 (by decide +kernel) (by decide +kernel), rfl, by decide⟩
def y_B_pairsWith : MethodName := ⟨"SpanStore$Block", "pairsWith", "([III)I"⟩
abbrev c_B_pairsWith : ByteArray := prog_2_method_15_code
theorem mx_B_pairsWith : MX y_B_pairsWith c_B_pairsWith 8 (some .int) 3 := ⟨wm 443 (by decide +kernel) (by decide +kernel), wm 43 (by decide +kernel) (by decide +kernel), (by decide +kernel)⟩
theorem mv_B_pairsWith : MV y_B_pairsWith 0 := ⟨wm 441 (by decide +kernel) (by decide +kernel), wm 442 (by decide +kernel) (by decide +kernel), rfl, by decide⟩
def y_B_writeKnown : MethodName := ⟨"SpanStore$Block", "writeKnown", "(LSpanStore$Sheet;LSpanStore$Sheet;LSpanStore$Sheet;I)I"⟩
abbrev c_B_writeKnown : ByteArray := prog_2_method_16_code
theorem mx_B_writeKnown : MX y_B_writeKnown c_B_writeKnown 8 (some .int) 4 := ⟨wm 530 (by decide +kernel) (by decide +kernel), wm 43 (by decide +kernel) (by decide +kernel), (by decide +kernel)⟩
theorem mv_B_writeKnown : MV y_B_writeKnown 0 := ⟨wm 528 (by decide +kernel) (by decide +kernel), wm 529 (by decide +kernel) (by decide +kernel), rfl, by decide⟩
def y_B_mixedInto : MethodName := ⟨"SpanStore$Block", "mixedInto", "(J)J"⟩
abbrev c_B_mixedInto : ByteArray := prog_2_method_17_code
theorem mx_B_mixedInto : MX y_B_mixedInto c_B_mixedInto 6 (some .long) 1 := ⟨wm 553 (by decide +kernel) (by decide +kernel), wm 43 (by decide +kernel) (by decide +kernel), (by decide +kernel)⟩
theorem mv_B_mixedInto : MV y_B_mixedInto 0 := ⟨wm 551 (by decide +kernel) (by decide +kernel), wm 552 (by decide +kernel) (by decide +kernel), rfl, by decide⟩
def y_B_isHalf : MethodName := ⟨"SpanStore$Block", "isHalf", "()Z"⟩
abbrev c_B_isHalf : ByteArray := prog_2_method_18_code
theorem mx_B_isHalf : MX y_B_isHalf c_B_isHalf 1 (some .boolean) 0 := ⟨wm 375 (by decide +kernel) (by decide +kernel), wm 43 (by decide +kernel) (by decide +kernel), (by decide +kernel)⟩
theorem mv_B_isHalf : MV y_B_isHalf 0 := ⟨wm 374 (by decide +kernel) (by decide +kernel), wm 8 (by decide +kernel) (by decide +kernel), rfl, by decide⟩
def y_B_owesLeast : MethodName := ⟨"SpanStore$Block", "owesLeast", "()Z"⟩
abbrev c_B_owesLeast : ByteArray := prog_2_method_19_code
theorem mx_B_owesLeast : MX y_B_owesLeast c_B_owesLeast 1 (some .boolean) 0 := ⟨wm 379 (by decide +kernel) (by decide +kernel), wm 43 (by decide +kernel) (by decide +kernel), (by decide +kernel)⟩
theorem mv_B_owesLeast : MV y_B_owesLeast 0 := ⟨wm 378 (by decide +kernel) (by decide +kernel), wm 9 (by decide +kernel) (by decide +kernel), rfl, by decide⟩
def y_B_owesGreatest : MethodName := ⟨"SpanStore$Block", "owesGreatest", "()Z"⟩
abbrev c_B_owesGreatest : ByteArray := prog_2_method_20_code
theorem mx_B_owesGreatest : MX y_B_owesGreatest c_B_owesGreatest 1 (some .boolean) 0 := ⟨wm 383 (by decide +kernel) (by decide +kernel), wm 43 (by decide +kernel) (by decide +kernel), (by decide +kernel)⟩
theorem mv_B_owesGreatest : MV y_B_owesGreatest 0 := ⟨wm 382 (by decide +kernel) (by decide +kernel), wm 10 (by decide +kernel) (by decide +kernel), rfl, by decide⟩
def y_B_isKnownValue : MethodName := ⟨"SpanStore$Block", "isKnownValue", "(I)Z"⟩
abbrev c_B_isKnownValue : ByteArray := prog_2_method_21_code
theorem mx_B_isKnownValue : MX y_B_isKnownValue c_B_isKnownValue 3 (some .boolean) 1 := ⟨wm 310 (by decide +kernel) (by decide +kernel), wm 43 (by decide +kernel) (by decide +kernel), (by decide +kernel)⟩
theorem mv_B_isKnownValue : MV y_B_isKnownValue 0 := ⟨wm 309 (by decide +kernel) (by decide +kernel), wm 6 (by decide +kernel) (by decide +kernel), rfl, by decide⟩
def y_B_groupSize : MethodName := ⟨"SpanStore$Block", "groupSize", "(I)I"⟩
abbrev c_B_groupSize : ByteArray := prog_2_method_22_code
theorem mx_B_groupSize : MX y_B_groupSize c_B_groupSize 2 (some .int) 1 := ⟨wm 387 (by decide +kernel) (by decide +kernel), wm 43 (by decide +kernel) (by decide +kernel), (by decide +kernel)⟩
theorem mv_B_groupSize : MV y_B_groupSize 0 := ⟨wm 386 (by decide +kernel) (by decide +kernel), wm 11 (by decide +kernel) (by decide +kernel), rfl, by decide⟩
def y_B_hiddenSumEnd : MethodName := ⟨"SpanStore$Block", "hiddenSumEnd", "(II)I"⟩
abbrev c_B_hiddenSumEnd : ByteArray := prog_2_method_23_code
theorem mx_B_hiddenSumEnd : MX y_B_hiddenSumEnd c_B_hiddenSumEnd 4 (some .int) 2 := ⟨wm 410 (by decide +kernel) (by decide +kernel), wm 43 (by decide +kernel) (by decide +kernel), (by decide +kernel)⟩
theorem mv_B_hiddenSumEnd : MV y_B_hiddenSumEnd 0 := ⟨wm 409 (by decide +kernel) (by decide +kernel), wm 12 (by decide +kernel) (by decide +kernel), rfl, by decide⟩
def y_B_hiddenCountEnd : MethodName := ⟨"SpanStore$Block", "hiddenCountEnd", "(II)I"⟩
abbrev c_B_hiddenCountEnd : ByteArray := prog_2_method_24_code
theorem mx_B_hiddenCountEnd : MX y_B_hiddenCountEnd c_B_hiddenCountEnd 4 (some .int) 2 := ⟨wm 426 (by decide +kernel) (by decide +kernel), wm 43 (by decide +kernel) (by decide +kernel), (by decide +kernel)⟩
theorem mv_B_hiddenCountEnd : MV y_B_hiddenCountEnd 0 := ⟨wm 425 (by decide +kernel) (by decide +kernel), wm 13 (by decide +kernel) (by decide +kernel), rfl, by decide⟩
def y_K_init : MethodName := ⟨"SpanStore$Keeper", "<init>", "()V"⟩
abbrev c_K_init : ByteArray := prog_3_method_1_code
theorem mx_K_init : MX y_K_init c_K_init 1 none 0 := ⟨wm 132 (by decide +kernel) (by decide +kernel), wm 44 (by decide +kernel) (by decide +kernel), (by decide +kernel)⟩
theorem mi_K_init : MI y_K_init := ⟨wm 131 (by decide +kernel) (by decide +kernel), rfl⟩
def y_K_become : MethodName := ⟨"SpanStore$Keeper", "become", "(III)V"⟩
abbrev c_K_become : ByteArray := prog_3_method_2_code
theorem mx_K_become : MX y_K_become c_K_become 4 none 3 := ⟨wm 252 (by decide +kernel) (by decide +kernel), wm 44 (by decide +kernel) (by decide +kernel), (by decide +kernel)⟩
theorem mv_K_become : MV y_K_become 1 := ⟨wm 250 (by decide +kernel) (by decide +kernel), wm 251 (by decide +kernel) (by decide +kernel), rfl, by decide⟩
def y_K_keeps : MethodName := ⟨"SpanStore$Keeper", "keeps", "(LSpanStore$Block;I)Z"⟩
abbrev c_K_keeps : ByteArray := prog_3_method_3_code
theorem mx_K_keeps : MX y_K_keeps c_K_keeps 3 (some .boolean) 2 := ⟨wm 279 (by decide +kernel) (by decide +kernel), wm 44 (by decide +kernel) (by decide +kernel), (by decide +kernel)⟩
theorem mv_K_keeps : MV y_K_keeps 1 := ⟨wm 277 (by decide +kernel) (by decide +kernel), wm 278 (by decide +kernel) (by decide +kernel), rfl, by decide⟩
def y_S_init : MethodName := ⟨"SpanStore$Sheet", "<init>", "()V"⟩
abbrev c_S_init : ByteArray := prog_4_method_1_code
theorem mx_S_init : MX y_S_init c_S_init 1 none 0 := ⟨wm 166 (by decide +kernel) (by decide +kernel), wm 45 (by decide +kernel) (by decide +kernel), (by decide +kernel)⟩
theorem mi_S_init : MI y_S_init := ⟨wm 165 (by decide +kernel) (by decide +kernel), rfl⟩
def y_S_renew : MethodName := ⟨"SpanStore$Sheet", "renew", "(II)V"⟩
abbrev c_S_renew : ByteArray := prog_4_method_2_code
theorem mx_S_renew : MX y_S_renew c_S_renew 3 none 2 := ⟨wm 486 (by decide +kernel) (by decide +kernel), wm 45 (by decide +kernel) (by decide +kernel), (by decide +kernel)⟩
theorem mv_S_renew : MV y_S_renew 2 := ⟨wm 484 (by decide +kernel) (by decide +kernel), wm 485 (by decide +kernel) (by decide +kernel), rfl, by decide⟩
def y_S_faultOf : MethodName := ⟨"SpanStore$Sheet", "faultOf", "(II)I"⟩
abbrev c_S_faultOf : ByteArray := prog_4_method_3_code
theorem mx_S_faultOf : MX y_S_faultOf c_S_faultOf 3 (some .int) 2 := ⟨wm 499 (by decide +kernel) (by decide +kernel), wm 45 (by decide +kernel) (by decide +kernel), (by decide +kernel)⟩
theorem mv_S_faultOf : MV y_S_faultOf 2 := ⟨wm 497 (by decide +kernel) (by decide +kernel), wm 498 (by decide +kernel) (by decide +kernel), rfl, by decide⟩
def y_S_hasStretch : MethodName := ⟨"SpanStore$Sheet", "hasStretch", "(II)Z"⟩
abbrev c_S_hasStretch : ByteArray := prog_4_method_4_code
theorem mx_S_hasStretch : MX y_S_hasStretch c_S_hasStretch 3 (some .boolean) 2 := ⟨wm 519 (by decide +kernel) (by decide +kernel), wm 45 (by decide +kernel) (by decide +kernel), (by decide +kernel)⟩
theorem mv_S_hasStretch : MV y_S_hasStretch 2 := ⟨wm 517 (by decide +kernel) (by decide +kernel), wm 518 (by decide +kernel) (by decide +kernel), rfl, by decide⟩
def y_S_store : MethodName := ⟨"SpanStore$Sheet", "store", "(II)V"⟩
abbrev c_S_store : ByteArray := prog_4_method_5_code
theorem mx_S_store : MX y_S_store c_S_store 3 none 2 := ⟨wm 503 (by decide +kernel) (by decide +kernel), wm 45 (by decide +kernel) (by decide +kernel), (by decide +kernel)⟩
theorem mv_S_store : MV y_S_store 2 := ⟨wm 501 (by decide +kernel) (by decide +kernel), wm 502 (by decide +kernel) (by decide +kernel), rfl, by decide⟩
def y_S_cut : MethodName := ⟨"SpanStore$Sheet", "cut", "(I)I"⟩
abbrev c_S_cut : ByteArray := prog_4_method_6_code
theorem mx_S_cut : MX y_S_cut c_S_cut 2 (some .int) 1 := ⟨wm 507 (by decide +kernel) (by decide +kernel), wm 45 (by decide +kernel) (by decide +kernel), (by decide +kernel)⟩
theorem mv_S_cut : MV y_S_cut 2 := ⟨wm 506 (by decide +kernel) (by decide +kernel), wm 15 (by decide +kernel) (by decide +kernel), rfl, by decide⟩
def y_T_init : MethodName := ⟨"SpanStore$Table", "<init>", "()V"⟩
abbrev c_T_init : ByteArray := prog_5_method_1_code
theorem mx_T_init : MX y_T_init c_T_init 2 none 0 := ⟨wm 65 (by decide +kernel) (by decide +kernel), wm 42 (by decide +kernel) (by decide +kernel), (by decide +kernel)⟩
theorem mi_T_init : MI y_T_init := ⟨wm 64 (by decide +kernel) (by decide +kernel), rfl⟩
def y_T_addKeeper : MethodName := ⟨"SpanStore$Table", "addKeeper", "(III)V"⟩
abbrev c_T_addKeeper : ByteArray := prog_5_method_2_code
theorem mx_T_addKeeper : MX y_T_addKeeper c_T_addKeeper 4 none 3 := ⟨wm 248 (by decide +kernel) (by decide +kernel), wm 42 (by decide +kernel) (by decide +kernel), (by decide +kernel)⟩
theorem mv_T_addKeeper : MV y_T_addKeeper 3 := ⟨wm 246 (by decide +kernel) (by decide +kernel), wm 247 (by decide +kernel) (by decide +kernel), rfl, by decide⟩
def y_T_close : MethodName := ⟨"SpanStore$Table", "close", "()V"⟩
abbrev c_T_close : ByteArray := prog_5_method_3_code
theorem mx_T_close : MX y_T_close c_T_close 3 none 0 := ⟨wm 260 (by decide +kernel) (by decide +kernel), wm 42 (by decide +kernel) (by decide +kernel), (by decide +kernel)⟩
theorem mv_T_close : MV y_T_close 3 := ⟨wm 258 (by decide +kernel) (by decide +kernel), wm 259 (by decide +kernel) (by decide +kernel), rfl, by decide⟩
def y_T_empty : MethodName := ⟨"SpanStore$Table", "empty", "()V"⟩
abbrev c_T_empty : ByteArray := prog_5_method_4_code
theorem mx_T_empty : MX y_T_empty c_T_empty 2 none 0 := ⟨wm 326 (by decide +kernel) (by decide +kernel), wm 42 (by decide +kernel) (by decide +kernel), (by decide +kernel)⟩
theorem mv_T_empty : MV y_T_empty 3 := ⟨wm 324 (by decide +kernel) (by decide +kernel), wm 325 (by decide +kernel) (by decide +kernel), rfl, by decide⟩
def y_T_rows : MethodName := ⟨"SpanStore$Table", "rows", "()I"⟩
abbrev c_T_rows : ByteArray := prog_5_method_5_code
theorem mx_T_rows : MX y_T_rows c_T_rows 3 (some .int) 0 := ⟨wm 322 (by decide +kernel) (by decide +kernel), wm 42 (by decide +kernel) (by decide +kernel), (by decide +kernel)⟩
theorem mv_T_rows : MV y_T_rows 3 := ⟨wm 320 (by decide +kernel) (by decide +kernel), wm 321 (by decide +kernel) (by decide +kernel), rfl, by decide⟩
def y_T_knownRows : MethodName := ⟨"SpanStore$Table", "knownRows", "()I"⟩
abbrev c_T_knownRows : ByteArray := prog_5_method_6_code
theorem mx_T_knownRows : MX y_T_knownRows c_T_knownRows 3 (some .int) 0 := ⟨wm 314 (by decide +kernel) (by decide +kernel), wm 42 (by decide +kernel) (by decide +kernel), (by decide +kernel)⟩
theorem mv_T_knownRows : MV y_T_knownRows 3 := ⟨wm 312 (by decide +kernel) (by decide +kernel), wm 313 (by decide +kernel) (by decide +kernel), rfl, by decide⟩
def y_T_hasKeyed : MethodName := ⟨"SpanStore$Table", "hasKeyed", "(II)Z"⟩
abbrev c_T_hasKeyed : ByteArray := prog_5_method_7_code
theorem mx_T_hasKeyed : MX y_T_hasKeyed c_T_hasKeyed 5 (some .boolean) 2 := ⟨wm 452 (by decide +kernel) (by decide +kernel), wm 42 (by decide +kernel) (by decide +kernel), (by decide +kernel)⟩
theorem mv_T_hasKeyed : MV y_T_hasKeyed 3 := ⟨wm 450 (by decide +kernel) (by decide +kernel), wm 451 (by decide +kernel) (by decide +kernel), rfl, by decide⟩
def y_T_sumEnd : MethodName := ⟨"SpanStore$Table", "sumEnd", "(II)J"⟩
abbrev c_T_sumEnd : ByteArray := prog_5_method_8_code
theorem mx_T_sumEnd : MX y_T_sumEnd c_T_sumEnd 6 (some .long) 2 := ⟨wm 402 (by decide +kernel) (by decide +kernel), wm 42 (by decide +kernel) (by decide +kernel), (by decide +kernel)⟩
theorem mv_T_sumEnd : MV y_T_sumEnd 3 := ⟨wm 400 (by decide +kernel) (by decide +kernel), wm 401 (by decide +kernel) (by decide +kernel), rfl, by decide⟩
def y_T_apart : MethodName := ⟨"SpanStore$Table", "apart", "(I)J"⟩
abbrev c_T_apart : ByteArray := prog_5_method_9_code
theorem mx_T_apart : MX y_T_apart c_T_apart 2 (some .long) 1 := ⟨wm 474 (by decide +kernel) (by decide +kernel), wm 42 (by decide +kernel) (by decide +kernel), (by decide +kernel)⟩
theorem mv_T_apart : MV y_T_apart 3 := ⟨wm 472 (by decide +kernel) (by decide +kernel), wm 473 (by decide +kernel) (by decide +kernel), rfl, by decide⟩
def y_T_countEnd : MethodName := ⟨"SpanStore$Table", "countEnd", "(II)I"⟩
abbrev c_T_countEnd : ByteArray := prog_5_method_10_code
theorem mx_T_countEnd : MX y_T_countEnd c_T_countEnd 5 (some .int) 2 := ⟨wm 418 (by decide +kernel) (by decide +kernel), wm 42 (by decide +kernel) (by decide +kernel), (by decide +kernel)⟩
theorem mv_T_countEnd : MV y_T_countEnd 3 := ⟨wm 416 (by decide +kernel) (by decide +kernel), wm 417 (by decide +kernel) (by decide +kernel), rfl, by decide⟩
def y_T_widestBlock : MethodName := ⟨"SpanStore$Table", "widestBlock", "(I)I"⟩
abbrev c_T_widestBlock : ByteArray := prog_5_method_11_code
theorem mx_T_widestBlock : MX y_T_widestBlock c_T_widestBlock 8 (some .int) 1 := ⟨wm 460 (by decide +kernel) (by decide +kernel), wm 42 (by decide +kernel) (by decide +kernel), (by decide +kernel)⟩
theorem mv_T_widestBlock : MV y_T_widestBlock 3 := ⟨wm 458 (by decide +kernel) (by decide +kernel), wm 459 (by decide +kernel) (by decide +kernel), rfl, by decide⟩
def y_T_mixedInto : MethodName := ⟨"SpanStore$Table", "mixedInto", "(J)J"⟩
abbrev c_T_mixedInto : ByteArray := prog_5_method_12_code
theorem mx_T_mixedInto : MX y_T_mixedInto c_T_mixedInto 6 (some .long) 1 := ⟨wm 549 (by decide +kernel) (by decide +kernel), wm 42 (by decide +kernel) (by decide +kernel), (by decide +kernel)⟩
theorem mv_T_mixedInto : MV y_T_mixedInto 3 := ⟨wm 547 (by decide +kernel) (by decide +kernel), wm 548 (by decide +kernel) (by decide +kernel), rfl, by decide⟩
def y_T_topHiddenAmount : MethodName := ⟨"SpanStore$Table", "topHiddenAmount", "()I"⟩
abbrev c_T_topHiddenAmount : ByteArray := prog_5_method_13_code
theorem mx_T_topHiddenAmount : MX y_T_topHiddenAmount c_T_topHiddenAmount 3 (some .int) 0 := ⟨wm 264 (by decide +kernel) (by decide +kernel), wm 42 (by decide +kernel) (by decide +kernel), (by decide +kernel)⟩
theorem mv_T_topHiddenAmount : MV y_T_topHiddenAmount 3 := ⟨wm 263 (by decide +kernel) (by decide +kernel), wm 3 (by decide +kernel) (by decide +kernel), rfl, by decide⟩
def y_T_keepRows : MethodName := ⟨"SpanStore$Table", "keepRows", "(LSpanStore$Block;)V"⟩
abbrev c_T_keepRows : ByteArray := prog_5_method_14_code
theorem mx_T_keepRows : MX y_T_keepRows c_T_keepRows 3 none 1 := ⟨wm 271 (by decide +kernel) (by decide +kernel), wm 42 (by decide +kernel) (by decide +kernel), (by decide +kernel)⟩
theorem mv_T_keepRows : MV y_T_keepRows 3 := ⟨wm 270 (by decide +kernel) (by decide +kernel), wm 4 (by decide +kernel) (by decide +kernel), rfl, by decide⟩
def y_T_isKept : MethodName := ⟨"SpanStore$Table", "isKept", "(LSpanStore$Block;I)Z"⟩
abbrev c_T_isKept : ByteArray := prog_5_method_15_code
theorem mx_T_isKept : MX y_T_isKept c_T_isKept 4 (some .boolean) 2 := ⟨wm 275 (by decide +kernel) (by decide +kernel), wm 42 (by decide +kernel) (by decide +kernel), (by decide +kernel)⟩
theorem mv_T_isKept : MV y_T_isKept 3 := ⟨wm 274 (by decide +kernel) (by decide +kernel), wm 5 (by decide +kernel) (by decide +kernel), rfl, by decide⟩
def y_C_init : MethodName := ⟨"SpanStore", "<init>", "()V"⟩
abbrev c_C_init : ByteArray := prog_1_method_1_code
theorem mx_C_init : MX y_C_init c_C_init 2 none 0 := ⟨wm 54 (by decide +kernel) (by decide +kernel), wm 41 (by decide +kernel) (by decide +kernel), (by decide +kernel)⟩
theorem mi_C_init : MI y_C_init := ⟨wm 53 (by decide +kernel) (by decide +kernel), rfl⟩
def y_C_row : MethodName := ⟨"SpanStore", "row", "(IIIII)I"⟩
abbrev c_C_row : ByteArray := prog_1_method_2_code
theorem mx_C_row : MX y_C_row c_C_row 8 (some .int) 5 := ⟨wm 205 (by decide +kernel) (by decide +kernel), wm 41 (by decide +kernel) (by decide +kernel), (by decide +kernel)⟩
theorem mv_C_row : MV y_C_row 4 := ⟨wm 203 (by decide +kernel) (by decide +kernel), wm 204 (by decide +kernel) (by decide +kernel), rfl, by decide⟩
def y_C_load : MethodName := ⟨"SpanStore", "load", "(IIIIII)I"⟩
abbrev c_C_load : ByteArray := prog_1_method_3_code
theorem mx_C_load : MX y_C_load c_C_load 13 (some .int) 6 := ⟨wm 226 (by decide +kernel) (by decide +kernel), wm 41 (by decide +kernel) (by decide +kernel), (by decide +kernel)⟩
theorem mv_C_load : MV y_C_load 4 := ⟨wm 224 (by decide +kernel) (by decide +kernel), wm 225 (by decide +kernel) (by decide +kernel), rfl, by decide⟩
def y_C_keeper : MethodName := ⟨"SpanStore", "keeper", "(IIII)I"⟩
abbrev c_C_keeper : ByteArray := prog_1_method_4_code
theorem mx_C_keeper : MX y_C_keeper c_C_keeper 6 (some .int) 4 := ⟨wm 238 (by decide +kernel) (by decide +kernel), wm 41 (by decide +kernel) (by decide +kernel), (by decide +kernel)⟩
theorem mv_C_keeper : MV y_C_keeper 4 := ⟨wm 236 (by decide +kernel) (by decide +kernel), wm 237 (by decide +kernel) (by decide +kernel), rfl, by decide⟩
def y_C_seal : MethodName := ⟨"SpanStore", "seal", "(I)I"⟩
abbrev c_C_seal : ByteArray := prog_1_method_5_code
theorem mx_C_seal : MX y_C_seal c_C_seal 3 (some .int) 1 := ⟨wm 256 (by decide +kernel) (by decide +kernel), wm 41 (by decide +kernel) (by decide +kernel), (by decide +kernel)⟩
theorem mv_C_seal : MV y_C_seal 4 := ⟨wm 254 (by decide +kernel) (by decide +kernel), wm 255 (by decide +kernel) (by decide +kernel), rfl, by decide⟩
def y_C_clear : MethodName := ⟨"SpanStore", "clear", "(I)I"⟩
abbrev c_C_clear : ByteArray := prog_1_method_6_code
theorem mx_C_clear : MX y_C_clear c_C_clear 4 (some .int) 1 := ⟨wm 318 (by decide +kernel) (by decide +kernel), wm 41 (by decide +kernel) (by decide +kernel), (by decide +kernel)⟩
theorem mv_C_clear : MV y_C_clear 4 := ⟨wm 316 (by decide +kernel) (by decide +kernel), wm 317 (by decide +kernel) (by decide +kernel), rfl, by decide⟩
def y_C_read : MethodName := ⟨"SpanStore", "read", "(II)I"⟩
abbrev c_C_read : ByteArray := prog_1_method_7_code
theorem mx_C_read : MX y_C_read c_C_read 5 (some .int) 2 := ⟨wm 337 (by decide +kernel) (by decide +kernel), wm 41 (by decide +kernel) (by decide +kernel), (by decide +kernel)⟩
theorem mv_C_read : MV y_C_read 4 := ⟨wm 335 (by decide +kernel) (by decide +kernel), wm 336 (by decide +kernel) (by decide +kernel), rfl, by decide⟩
def y_C_change : MethodName := ⟨"SpanStore", "change", "(IIII)I"⟩
abbrev c_C_change : ByteArray := prog_1_method_8_code
theorem mx_C_change : MX y_C_change c_C_change 7 (some .int) 4 := ⟨wm 350 (by decide +kernel) (by decide +kernel), wm 41 (by decide +kernel) (by decide +kernel), (by decide +kernel)⟩
theorem mv_C_change : MV y_C_change 4 := ⟨wm 348 (by decide +kernel) (by decide +kernel), wm 349 (by decide +kernel) (by decide +kernel), rfl, by decide⟩
def y_C_value : MethodName := ⟨"SpanStore", "value", "(III)I"⟩
abbrev c_C_value : ByteArray := prog_1_method_9_code
theorem mx_C_value : MX y_C_value c_C_value 6 (some .int) 3 := ⟨wm 359 (by decide +kernel) (by decide +kernel), wm 41 (by decide +kernel) (by decide +kernel), (by decide +kernel)⟩
theorem mv_C_value : MV y_C_value 4 := ⟨wm 357 (by decide +kernel) (by decide +kernel), wm 358 (by decide +kernel) (by decide +kernel), rfl, by decide⟩
def y_C_about : MethodName := ⟨"SpanStore", "about", "(III)I"⟩
abbrev c_C_about : ByteArray := prog_1_method_10_code
theorem mx_C_about : MX y_C_about c_C_about 6 (some .int) 3 := ⟨wm 364 (by decide +kernel) (by decide +kernel), wm 41 (by decide +kernel) (by decide +kernel), (by decide +kernel)⟩
theorem mv_C_about : MV y_C_about 4 := ⟨wm 362 (by decide +kernel) (by decide +kernel), wm 363 (by decide +kernel) (by decide +kernel), rfl, by decide⟩
def y_C_sum : MethodName := ⟨"SpanStore", "sum", "(III)J"⟩
abbrev c_C_sum : ByteArray := prog_1_method_11_code
theorem mx_C_sum : MX y_C_sum c_C_sum 5 (some .long) 3 := ⟨wm 391 (by decide +kernel) (by decide +kernel), wm 41 (by decide +kernel) (by decide +kernel), (by decide +kernel)⟩
theorem mv_C_sum : MV y_C_sum 4 := ⟨wm 389 (by decide +kernel) (by decide +kernel), wm 390 (by decide +kernel) (by decide +kernel), rfl, by decide⟩
def y_C_count : MethodName := ⟨"SpanStore", "count", "(III)I"⟩
abbrev c_C_count : ByteArray := prog_1_method_12_code
theorem mx_C_count : MX y_C_count c_C_count 5 (some .int) 3 := ⟨wm 414 (by decide +kernel) (by decide +kernel), wm 41 (by decide +kernel) (by decide +kernel), (by decide +kernel)⟩
theorem mv_C_count : MV y_C_count 4 := ⟨wm 412 (by decide +kernel) (by decide +kernel), wm 413 (by decide +kernel) (by decide +kernel), rfl, by decide⟩
def y_C_join : MethodName := ⟨"SpanStore", "join", "(I)I"⟩
abbrev c_C_join : ByteArray := prog_1_method_13_code
theorem mx_C_join : MX y_C_join c_C_join 7 (some .int) 1 := ⟨wm 430 (by decide +kernel) (by decide +kernel), wm 41 (by decide +kernel) (by decide +kernel), (by decide +kernel)⟩
theorem mv_C_join : MV y_C_join 4 := ⟨wm 428 (by decide +kernel) (by decide +kernel), wm 429 (by decide +kernel) (by decide +kernel), rfl, by decide⟩
def y_C_part : MethodName := ⟨"SpanStore", "part", "(II)I"⟩
abbrev c_C_part : ByteArray := prog_1_method_14_code
theorem mx_C_part : MX y_C_part c_C_part 5 (some .int) 2 := ⟨wm 448 (by decide +kernel) (by decide +kernel), wm 41 (by decide +kernel) (by decide +kernel), (by decide +kernel)⟩
theorem mv_C_part : MV y_C_part 4 := ⟨wm 446 (by decide +kernel) (by decide +kernel), wm 447 (by decide +kernel) (by decide +kernel), rfl, by decide⟩
def y_C_next : MethodName := ⟨"SpanStore", "next", "(II)I"⟩
abbrev c_C_next : ByteArray := prog_1_method_15_code
theorem mx_C_next : MX y_C_next c_C_next 4 (some .int) 2 := ⟨wm 456 (by decide +kernel) (by decide +kernel), wm 41 (by decide +kernel) (by decide +kernel), (by decide +kernel)⟩
theorem mv_C_next : MV y_C_next 4 := ⟨wm 454 (by decide +kernel) (by decide +kernel), wm 455 (by decide +kernel) (by decide +kernel), rfl, by decide⟩
def y_C_refine : MethodName := ⟨"SpanStore", "refine", "(III)I"⟩
abbrev c_C_refine : ByteArray := prog_1_method_16_code
theorem mx_C_refine : MX y_C_refine c_C_refine 7 (some .int) 3 := ⟨wm 469 (by decide +kernel) (by decide +kernel), wm 41 (by decide +kernel) (by decide +kernel), (by decide +kernel)⟩
theorem mv_C_refine : MV y_C_refine 4 := ⟨wm 467 (by decide +kernel) (by decide +kernel), wm 468 (by decide +kernel) (by decide +kernel), rfl, by decide⟩
def y_C_sheet : MethodName := ⟨"SpanStore", "sheet", "(III)I"⟩
abbrev c_C_sheet : ByteArray := prog_1_method_17_code
theorem mx_C_sheet : MX y_C_sheet c_C_sheet 5 (some .int) 3 := ⟨wm 479 (by decide +kernel) (by decide +kernel), wm 41 (by decide +kernel) (by decide +kernel), (by decide +kernel)⟩
theorem mv_C_sheet : MV y_C_sheet 4 := ⟨wm 477 (by decide +kernel) (by decide +kernel), wm 478 (by decide +kernel) (by decide +kernel), rfl, by decide⟩
def y_C_lose : MethodName := ⟨"SpanStore", "lose", "(I)I"⟩
abbrev c_C_lose : ByteArray := prog_1_method_18_code
theorem mx_C_lose : MX y_C_lose c_C_lose 3 (some .int) 1 := ⟨wm 491 (by decide +kernel) (by decide +kernel), wm 41 (by decide +kernel) (by decide +kernel), (by decide +kernel)⟩
theorem mv_C_lose : MV y_C_lose 4 := ⟨wm 489 (by decide +kernel) (by decide +kernel), wm 490 (by decide +kernel) (by decide +kernel), rfl, by decide⟩
def y_C_put : MethodName := ⟨"SpanStore", "put", "(IIII)I"⟩
abbrev c_C_put : ByteArray := prog_1_method_19_code
theorem mx_C_put : MX y_C_put c_C_put 7 (some .int) 4 := ⟨wm 495 (by decide +kernel) (by decide +kernel), wm 41 (by decide +kernel) (by decide +kernel), (by decide +kernel)⟩
theorem mv_C_put : MV y_C_put 4 := ⟨wm 493 (by decide +kernel) (by decide +kernel), wm 494 (by decide +kernel) (by decide +kernel), rfl, by decide⟩
def y_C_get : MethodName := ⟨"SpanStore", "get", "(III)I"⟩
abbrev c_C_get : ByteArray := prog_1_method_20_code
theorem mx_C_get : MX y_C_get c_C_get 6 (some .int) 3 := ⟨wm 511 (by decide +kernel) (by decide +kernel), wm 41 (by decide +kernel) (by decide +kernel), (by decide +kernel)⟩
theorem mv_C_get : MV y_C_get 4 := ⟨wm 509 (by decide +kernel) (by decide +kernel), wm 510 (by decide +kernel) (by decide +kernel), rfl, by decide⟩
def y_C_copy : MethodName := ⟨"SpanStore", "copy", "(IIIII)I"⟩
abbrev c_C_copy : ByteArray := prog_1_method_21_code
theorem mx_C_copy : MX y_C_copy c_C_copy 8 (some .int) 5 := ⟨wm 515 (by decide +kernel) (by decide +kernel), wm 41 (by decide +kernel) (by decide +kernel), (by decide +kernel)⟩
theorem mv_C_copy : MV y_C_copy 4 := ⟨wm 513 (by decide +kernel) (by decide +kernel), wm 514 (by decide +kernel) (by decide +kernel), rfl, by decide⟩
def y_C_write : MethodName := ⟨"SpanStore", "write", "(IIII)I"⟩
abbrev c_C_write : ByteArray := prog_1_method_22_code
theorem mx_C_write : MX y_C_write c_C_write 11 (some .int) 4 := ⟨wm 526 (by decide +kernel) (by decide +kernel), wm 41 (by decide +kernel) (by decide +kernel), (by decide +kernel)⟩
theorem mv_C_write : MV y_C_write 4 := ⟨wm 524 (by decide +kernel) (by decide +kernel), wm 525 (by decide +kernel) (by decide +kernel), rfl, by decide⟩
def y_C_told : MethodName := ⟨"SpanStore", "told", "(I)I"⟩
abbrev c_C_told : ByteArray := prog_1_method_23_code
theorem mx_C_told : MX y_C_told c_C_told 2 (some .int) 1 := ⟨wm 535 (by decide +kernel) (by decide +kernel), wm 41 (by decide +kernel) (by decide +kernel), (by decide +kernel)⟩
theorem mv_C_told : MV y_C_told 4 := ⟨wm 533 (by decide +kernel) (by decide +kernel), wm 534 (by decide +kernel) (by decide +kernel), rfl, by decide⟩
def y_C_digest : MethodName := ⟨"SpanStore", "digest", "()J"⟩
abbrev c_C_digest : ByteArray := prog_1_method_24_code
theorem mx_C_digest : MX y_C_digest c_C_digest 4 (some .long) 0 := ⟨wm 539 (by decide +kernel) (by decide +kernel), wm 41 (by decide +kernel) (by decide +kernel), (by decide +kernel)⟩
theorem mv_C_digest : MV y_C_digest 4 := ⟨wm 537 (by decide +kernel) (by decide +kernel), wm 538 (by decide +kernel) (by decide +kernel), rfl, by decide⟩
def y_C_tableAt : MethodName := ⟨"SpanStore", "tableAt", "(I)LSpanStore$Table;"⟩
abbrev c_C_tableAt : ByteArray := prog_1_method_25_code
theorem mx_C_tableAt : MX y_C_tableAt c_C_tableAt 2 (some (.object "SpanStore$Table")) 1 := ⟨wm 209 (by decide +kernel) (by decide +kernel), wm 41 (by decide +kernel) (by decide +kernel), (by decide +kernel)⟩
theorem mv_C_tableAt : MV y_C_tableAt 4 := ⟨wm 208 (by decide +kernel) (by decide +kernel), wm 0 (by decide +kernel) (by decide +kernel), rfl, by decide⟩
def y_C_blockAt : MethodName := ⟨"SpanStore", "blockAt", "(LSpanStore$Table;I)LSpanStore$Block;"⟩
abbrev c_C_blockAt : ByteArray := prog_1_method_26_code
theorem mx_C_blockAt : MX y_C_blockAt c_C_blockAt 2 (some (.object "SpanStore$Block")) 2 := ⟨wm 212 (by decide +kernel) (by decide +kernel), wm 41 (by decide +kernel) (by decide +kernel), (by decide +kernel)⟩
theorem ms_C_blockAt : MS y_C_blockAt := wm 211 (by decide +kernel) (by decide +kernel)
def y_C_sheetAt : MethodName := ⟨"SpanStore", "sheetAt", "(I)LSpanStore$Sheet;"⟩
abbrev c_C_sheetAt : ByteArray := prog_1_method_27_code
theorem mx_C_sheetAt : MX y_C_sheetAt c_C_sheetAt 2 (some (.object "SpanStore$Sheet")) 1 := ⟨wm 230 (by decide +kernel) (by decide +kernel), wm 41 (by decide +kernel) (by decide +kernel), (by decide +kernel)⟩
theorem mv_C_sheetAt : MV y_C_sheetAt 4 := ⟨wm 229 (by decide +kernel) (by decide +kernel), wm 1 (by decide +kernel) (by decide +kernel), rfl, by decide⟩
def y_C_found : MethodName := ⟨"SpanStore", "found", "(I)I"⟩
abbrev c_C_found : ByteArray := prog_1_method_28_code
theorem mx_C_found : MX y_C_found c_C_found 2 (some .int) 1 := ⟨wm 234 (by decide +kernel) (by decide +kernel), wm 41 (by decide +kernel) (by decide +kernel), (by decide +kernel)⟩
theorem mv_C_found : MV y_C_found 4 := ⟨wm 233 (by decide +kernel) (by decide +kernel), wm 2 (by decide +kernel) (by decide +kernel), rfl, by decide⟩
def y_C_readBlock : MethodName := ⟨"SpanStore", "readBlock", "(LSpanStore$Block;)I"⟩
abbrev c_C_readBlock : ByteArray := prog_1_method_29_code
theorem mx_C_readBlock : MX y_C_readBlock c_C_readBlock 3 (some .int) 1 := ⟨wm 341 (by decide +kernel) (by decide +kernel), wm 41 (by decide +kernel) (by decide +kernel), (by decide +kernel)⟩
theorem mv_C_readBlock : MV y_C_readBlock 4 := ⟨wm 340 (by decide +kernel) (by decide +kernel), wm 7 (by decide +kernel) (by decide +kernel), rfl, by decide⟩
def y_C_knownPairs : MethodName := ⟨"SpanStore", "knownPairs", "(LSpanStore$Table;LSpanStore$Table;II)I"⟩
abbrev c_C_knownPairs : ByteArray := prog_1_method_30_code
theorem mx_C_knownPairs : MX y_C_knownPairs c_C_knownPairs 7 (some .int) 4 := ⟨wm 434 (by decide +kernel) (by decide +kernel), wm 41 (by decide +kernel) (by decide +kernel), (by decide +kernel)⟩
theorem mv_C_knownPairs : MV y_C_knownPairs 4 := ⟨wm 433 (by decide +kernel) (by decide +kernel), wm 14 (by decide +kernel) (by decide +kernel), rfl, by decide⟩
def y_C_mixed : MethodName := ⟨"SpanStore", "mixed", "(JJ)J"⟩
abbrev c_C_mixed : ByteArray := prog_1_method_31_code
theorem mx_C_mixed : MX y_C_mixed c_C_mixed 4 (some .long) 2 := ⟨wm 544 (by decide +kernel) (by decide +kernel), wm 41 (by decide +kernel) (by decide +kernel), (by decide +kernel)⟩
theorem ms_C_mixed : MS y_C_mixed := wm 543 (by decide +kernel) (by decide +kernel)
def y_C_isValue : MethodName := ⟨"SpanStore", "isValue", "(I)Z"⟩
abbrev c_C_isValue : ByteArray := prog_1_method_32_code
theorem mx_C_isValue : MX y_C_isValue c_C_isValue 1 (some .boolean) 1 := ⟨wm 218 (by decide +kernel) (by decide +kernel), wm 41 (by decide +kernel) (by decide +kernel), (by decide +kernel)⟩
theorem ms_C_isValue : MS y_C_isValue := wm 217 (by decide +kernel) (by decide +kernel)
def y_C_isRow : MethodName := ⟨"SpanStore", "isRow", "(III)Z"⟩
abbrev c_C_isRow : ByteArray := prog_1_method_33_code
theorem mx_C_isRow : MX y_C_isRow c_C_isRow 3 (some .boolean) 3 := ⟨wm 215 (by decide +kernel) (by decide +kernel), wm 41 (by decide +kernel) (by decide +kernel), (by decide +kernel)⟩
theorem ms_C_isRow : MS y_C_isRow := wm 214 (by decide +kernel) (by decide +kernel)
def y_C_isKeeper : MethodName := ⟨"SpanStore", "isKeeper", "(III)Z"⟩
abbrev c_C_isKeeper : ByteArray := prog_1_method_34_code
theorem mx_C_isKeeper : MX y_C_isKeeper c_C_isKeeper 3 (some .boolean) 3 := ⟨wm 241 (by decide +kernel) (by decide +kernel), wm 41 (by decide +kernel) (by decide +kernel), (by decide +kernel)⟩
theorem ms_C_isKeeper : MS y_C_isKeeper := wm 240 (by decide +kernel) (by decide +kernel)
def y_C_isModulus : MethodName := ⟨"SpanStore", "isModulus", "(II)Z"⟩
abbrev c_C_isModulus : ByteArray := prog_1_method_35_code
theorem mx_C_isModulus : MX y_C_isModulus c_C_isModulus 2 (some .boolean) 2 := ⟨wm 244 (by decide +kernel) (by decide +kernel), wm 41 (by decide +kernel) (by decide +kernel), (by decide +kernel)⟩
theorem ms_C_isModulus : MS y_C_isModulus := wm 243 (by decide +kernel) (by decide +kernel)
def y_C_isCongruent : MethodName := ⟨"SpanStore", "isCongruent", "(III)Z"⟩
abbrev c_C_isCongruent : ByteArray := prog_1_method_36_code
theorem mx_C_isCongruent : MX y_C_isCongruent c_C_isCongruent 3 (some .boolean) 3 := ⟨wm 286 (by decide +kernel) (by decide +kernel), wm 41 (by decide +kernel) (by decide +kernel), (by decide +kernel)⟩
theorem ms_C_isCongruent : MS y_C_isCongruent := wm 285 (by decide +kernel) (by decide +kernel)
def y_C_isFact : MethodName := ⟨"SpanStore", "isFact", "(I)Z"⟩
abbrev c_C_isFact : ByteArray := prog_1_method_37_code
theorem mx_C_isFact : MX y_C_isFact c_C_isFact 2 (some .boolean) 1 := ⟨wm 367 (by decide +kernel) (by decide +kernel), wm 41 (by decide +kernel) (by decide +kernel), (by decide +kernel)⟩
theorem ms_C_isFact : MS y_C_isFact := wm 366 (by decide +kernel) (by decide +kernel)
def y_C_isGroupOrAll : MethodName := ⟨"SpanStore", "isGroupOrAll", "(I)Z"⟩
abbrev c_C_isGroupOrAll : ByteArray := prog_1_method_38_code
theorem mx_C_isGroupOrAll : MX y_C_isGroupOrAll c_C_isGroupOrAll 1 (some .boolean) 1 := ⟨wm 394 (by decide +kernel) (by decide +kernel), wm 41 (by decide +kernel) (by decide +kernel), (by decide +kernel)⟩
theorem ms_C_isGroupOrAll : MS y_C_isGroupOrAll := wm 393 (by decide +kernel) (by decide +kernel)
def y_C_isEnd : MethodName := ⟨"SpanStore", "isEnd", "(I)Z"⟩
abbrev c_C_isEnd : ByteArray := prog_1_method_39_code
theorem mx_C_isEnd : MX y_C_isEnd c_C_isEnd 1 (some .boolean) 1 := ⟨wm 397 (by decide +kernel) (by decide +kernel), wm 41 (by decide +kernel) (by decide +kernel), (by decide +kernel)⟩
theorem ms_C_isEnd : MS y_C_isEnd := wm 396 (by decide +kernel) (by decide +kernel)
def y_C_isForm : MethodName := ⟨"SpanStore", "isForm", "(I)Z"⟩
abbrev c_C_isForm : ByteArray := prog_1_method_40_code
theorem mx_C_isForm : MX y_C_isForm c_C_isForm 1 (some .boolean) 1 := ⟨wm 482 (by decide +kernel) (by decide +kernel), wm 41 (by decide +kernel) (by decide +kernel), (by decide +kernel)⟩
theorem ms_C_isForm : MS y_C_isForm := wm 481 (by decide +kernel) (by decide +kernel)
def y_M_init : MethodName := ⟨"SpanStoreModel", "<init>", "()V"⟩
abbrev c_M_init : ByteArray := prog_7_method_1_code
theorem mx_M_init : MX y_M_init c_M_init 1 none 0 := ⟨wm 562 (by decide +kernel) (by decide +kernel), wm 46 (by decide +kernel) (by decide +kernel), (by decide +kernel)⟩
theorem mi_M_init : MI y_M_init := ⟨wm 561 (by decide +kernel) (by decide +kernel), rfl⟩
def y_M_in : MethodName := ⟨"SpanStoreModel", "in", "(III)Z"⟩
abbrev c_M_in : ByteArray := prog_7_method_3_code
theorem mx_M_in : MX y_M_in c_M_in 3 (some .boolean) 3 := ⟨wm 646 (by decide +kernel) (by decide +kernel), wm 46 (by decide +kernel) (by decide +kernel), (by decide +kernel)⟩
theorem ms_M_in : MS y_M_in := wm 645 (by decide +kernel) (by decide +kernel)
def y_M_isTable : MethodName := ⟨"SpanStoreModel", "isTable", "(I)Z"⟩
abbrev c_M_isTable : ByteArray := prog_7_method_4_code
theorem mx_M_isTable : MX y_M_isTable c_M_isTable 1 (some .boolean) 1 := ⟨wm 643 (by decide +kernel) (by decide +kernel), wm 46 (by decide +kernel) (by decide +kernel), (by decide +kernel)⟩
theorem ms_M_isTable : MS y_M_isTable := wm 642 (by decide +kernel) (by decide +kernel)
def y_M_isBlock : MethodName := ⟨"SpanStoreModel", "isBlock", "(II)Z"⟩
abbrev c_M_isBlock : ByteArray := prog_7_method_5_code
theorem mx_M_isBlock : MX y_M_isBlock c_M_isBlock 2 (some .boolean) 2 := ⟨wm 640 (by decide +kernel) (by decide +kernel), wm 46 (by decide +kernel) (by decide +kernel), (by decide +kernel)⟩
theorem ms_M_isBlock : MS y_M_isBlock := wm 639 (by decide +kernel) (by decide +kernel)
def y_M_isRow : MethodName := ⟨"SpanStoreModel", "isRow", "(III)Z"⟩
abbrev c_M_isRow : ByteArray := prog_7_method_6_code
theorem mx_M_isRow : MX y_M_isRow c_M_isRow 3 (some .boolean) 3 := ⟨wm 649 (by decide +kernel) (by decide +kernel), wm 46 (by decide +kernel) (by decide +kernel), (by decide +kernel)⟩
theorem ms_M_isRow : MS y_M_isRow := wm 648 (by decide +kernel) (by decide +kernel)
def y_M_lays : MethodName := ⟨"SpanStoreModel", "lays", "(IIII)V"⟩
abbrev c_M_lays : ByteArray := prog_7_method_7_code
theorem mx_M_lays : MX y_M_lays c_M_lays 6 none 4 := ⟨wm 653 (by decide +kernel) (by decide +kernel), wm 46 (by decide +kernel) (by decide +kernel), (by decide +kernel)⟩
theorem mv_M_lays : MV y_M_lays 5 := ⟨wm 652 (by decide +kernel) (by decide +kernel), wm 16 (by decide +kernel) (by decide +kernel), rfl, by decide⟩
def y_M_row : MethodName := ⟨"SpanStoreModel", "row", "(IIIII)I"⟩
abbrev c_M_row : ByteArray := prog_7_method_8_code
theorem mx_M_row : MX y_M_row c_M_row 7 (some .int) 5 := ⟨wm 637 (by decide +kernel) (by decide +kernel), wm 46 (by decide +kernel) (by decide +kernel), (by decide +kernel)⟩
theorem mv_M_row : MV y_M_row 5 := ⟨wm 635 (by decide +kernel) (by decide +kernel), wm 636 (by decide +kernel) (by decide +kernel), rfl, by decide⟩
def y_M_load : MethodName := ⟨"SpanStoreModel", "load", "(IIIIII)I"⟩
abbrev c_M_load : ByteArray := prog_7_method_9_code
theorem mx_M_load : MX y_M_load c_M_load 9 (some .int) 6 := ⟨wm 657 (by decide +kernel) (by decide +kernel), wm 46 (by decide +kernel) (by decide +kernel), (by decide +kernel)⟩
theorem mv_M_load : MV y_M_load 5 := ⟨wm 655 (by decide +kernel) (by decide +kernel), wm 656 (by decide +kernel) (by decide +kernel), rfl, by decide⟩
def y_M_keeper : MethodName := ⟨"SpanStoreModel", "keeper", "(IIII)I"⟩
abbrev c_M_keeper : ByteArray := prog_7_method_10_code
theorem mx_M_keeper : MX y_M_keeper c_M_keeper 7 (some .int) 4 := ⟨wm 668 (by decide +kernel) (by decide +kernel), wm 46 (by decide +kernel) (by decide +kernel), (by decide +kernel)⟩
theorem mv_M_keeper : MV y_M_keeper 5 := ⟨wm 666 (by decide +kernel) (by decide +kernel), wm 667 (by decide +kernel) (by decide +kernel), rfl, by decide⟩
def y_M_amount : MethodName := ⟨"SpanStoreModel", "amount", "(I)I"⟩
abbrev c_M_amount : ByteArray := prog_7_method_11_code
theorem mx_M_amount : MX y_M_amount c_M_amount 1 (some .int) 1 := ⟨wm 683 (by decide +kernel) (by decide +kernel), wm 46 (by decide +kernel) (by decide +kernel), (by decide +kernel)⟩
theorem ms_M_amount : MS y_M_amount := wm 682 (by decide +kernel) (by decide +kernel)
def y_M_keeps : MethodName := ⟨"SpanStoreModel", "keeps", "(III)Z"⟩
abbrev c_M_keeps : ByteArray := prog_7_method_12_code
theorem mx_M_keeps : MX y_M_keeps c_M_keeps 8 (some .boolean) 3 := ⟨wm 680 (by decide +kernel) (by decide +kernel), wm 46 (by decide +kernel) (by decide +kernel), (by decide +kernel)⟩
theorem mv_M_keeps : MV y_M_keeps 5 := ⟨wm 679 (by decide +kernel) (by decide +kernel), wm 19 (by decide +kernel) (by decide +kernel), rfl, by decide⟩
def y_M_seals : MethodName := ⟨"SpanStoreModel", "seals", "(II)V"⟩
abbrev c_M_seals : ByteArray := prog_7_method_13_code
theorem mx_M_seals : MX y_M_seals c_M_seals 7 none 2 := ⟨wm 676 (by decide +kernel) (by decide +kernel), wm 46 (by decide +kernel) (by decide +kernel), (by decide +kernel)⟩
theorem mv_M_seals : MV y_M_seals 5 := ⟨wm 675 (by decide +kernel) (by decide +kernel), wm 18 (by decide +kernel) (by decide +kernel), rfl, by decide⟩
def y_M_seal : MethodName := ⟨"SpanStoreModel", "seal", "(I)I"⟩
abbrev c_M_seal : ByteArray := prog_7_method_14_code
theorem mx_M_seal : MX y_M_seal c_M_seal 3 (some .int) 1 := ⟨wm 672 (by decide +kernel) (by decide +kernel), wm 46 (by decide +kernel) (by decide +kernel), (by decide +kernel)⟩
theorem mv_M_seal : MV y_M_seal 5 := ⟨wm 670 (by decide +kernel) (by decide +kernel), wm 671 (by decide +kernel) (by decide +kernel), rfl, by decide⟩
def y_M_unknownOf : MethodName := ⟨"SpanStoreModel", "unknownOf", "(I)I"⟩
abbrev c_M_unknownOf : ByteArray := prog_7_method_15_code
theorem mx_M_unknownOf : MX y_M_unknownOf c_M_unknownOf 4 (some .int) 1 := ⟨wm 695 (by decide +kernel) (by decide +kernel), wm 46 (by decide +kernel) (by decide +kernel), (by decide +kernel)⟩
theorem mv_M_unknownOf : MV y_M_unknownOf 5 := ⟨wm 694 (by decide +kernel) (by decide +kernel), wm 22 (by decide +kernel) (by decide +kernel), rfl, by decide⟩
def y_M_rowsOf : MethodName := ⟨"SpanStoreModel", "rowsOf", "(I)I"⟩
abbrev c_M_rowsOf : ByteArray := prog_7_method_16_code
theorem mx_M_rowsOf : MX y_M_rowsOf c_M_rowsOf 4 (some .int) 1 := ⟨wm 691 (by decide +kernel) (by decide +kernel), wm 46 (by decide +kernel) (by decide +kernel), (by decide +kernel)⟩
theorem mv_M_rowsOf : MV y_M_rowsOf 5 := ⟨wm 690 (by decide +kernel) (by decide +kernel), wm 21 (by decide +kernel) (by decide +kernel), rfl, by decide⟩
def y_M_knownOf : MethodName := ⟨"SpanStoreModel", "knownOf", "(I)I"⟩
abbrev c_M_knownOf : ByteArray := prog_7_method_17_code
theorem mx_M_knownOf : MX y_M_knownOf c_M_knownOf 4 (some .int) 1 := ⟨wm 687 (by decide +kernel) (by decide +kernel), wm 46 (by decide +kernel) (by decide +kernel), (by decide +kernel)⟩
theorem mv_M_knownOf : MV y_M_knownOf 5 := ⟨wm 686 (by decide +kernel) (by decide +kernel), wm 20 (by decide +kernel) (by decide +kernel), rfl, by decide⟩
def y_M_clear : MethodName := ⟨"SpanStoreModel", "clear", "(I)I"⟩
abbrev c_M_clear : ByteArray := prog_7_method_18_code
theorem mx_M_clear : MX y_M_clear c_M_clear 4 (some .int) 1 := ⟨wm 699 (by decide +kernel) (by decide +kernel), wm 46 (by decide +kernel) (by decide +kernel), (by decide +kernel)⟩
theorem mv_M_clear : MV y_M_clear 5 := ⟨wm 697 (by decide +kernel) (by decide +kernel), wm 698 (by decide +kernel) (by decide +kernel), rfl, by decide⟩
def y_M_readsAll : MethodName := ⟨"SpanStoreModel", "readsAll", "(I)I"⟩
abbrev c_M_readsAll : ByteArray := prog_7_method_19_code
theorem mx_M_readsAll : MX y_M_readsAll c_M_readsAll 4 (some .int) 1 := ⟨wm 707 (by decide +kernel) (by decide +kernel), wm 46 (by decide +kernel) (by decide +kernel), (by decide +kernel)⟩
theorem mv_M_readsAll : MV y_M_readsAll 5 := ⟨wm 706 (by decide +kernel) (by decide +kernel), wm 23 (by decide +kernel) (by decide +kernel), rfl, by decide⟩
def y_M_read : MethodName := ⟨"SpanStoreModel", "read", "(II)I"⟩
abbrev c_M_read : ByteArray := prog_7_method_20_code
theorem mx_M_read : MX y_M_read c_M_read 3 (some .int) 2 := ⟨wm 703 (by decide +kernel) (by decide +kernel), wm 46 (by decide +kernel) (by decide +kernel), (by decide +kernel)⟩
theorem mv_M_read : MV y_M_read 5 := ⟨wm 701 (by decide +kernel) (by decide +kernel), wm 702 (by decide +kernel) (by decide +kernel), rfl, by decide⟩
def y_M_isRowAt : MethodName := ⟨"SpanStoreModel", "isRowAt", "(III)Z"⟩
abbrev c_M_isRowAt : ByteArray := prog_7_method_21_code
theorem mx_M_isRowAt : MX y_M_isRowAt c_M_isRowAt 4 (some .boolean) 3 := ⟨wm 715 (by decide +kernel) (by decide +kernel), wm 46 (by decide +kernel) (by decide +kernel), (by decide +kernel)⟩
theorem mv_M_isRowAt : MV y_M_isRowAt 5 := ⟨wm 714 (by decide +kernel) (by decide +kernel), wm 24 (by decide +kernel) (by decide +kernel), rfl, by decide⟩
def y_M_change : MethodName := ⟨"SpanStoreModel", "change", "(IIII)I"⟩
abbrev c_M_change : ByteArray := prog_7_method_22_code
theorem mx_M_change : MX y_M_change c_M_change 7 (some .int) 4 := ⟨wm 711 (by decide +kernel) (by decide +kernel), wm 46 (by decide +kernel) (by decide +kernel), (by decide +kernel)⟩
theorem mv_M_change : MV y_M_change 5 := ⟨wm 709 (by decide +kernel) (by decide +kernel), wm 710 (by decide +kernel) (by decide +kernel), rfl, by decide⟩
def y_M_value : MethodName := ⟨"SpanStoreModel", "value", "(III)I"⟩
abbrev c_M_value : ByteArray := prog_7_method_23_code
theorem mx_M_value : MX y_M_value c_M_value 5 (some .int) 3 := ⟨wm 719 (by decide +kernel) (by decide +kernel), wm 46 (by decide +kernel) (by decide +kernel), (by decide +kernel)⟩
theorem mv_M_value : MV y_M_value 5 := ⟨wm 717 (by decide +kernel) (by decide +kernel), wm 718 (by decide +kernel) (by decide +kernel), rfl, by decide⟩
def y_M_heavyOf : MethodName := ⟨"SpanStoreModel", "heavyOf", "(I)I"⟩
abbrev c_M_heavyOf : ByteArray := prog_7_method_24_code
theorem mx_M_heavyOf : MX y_M_heavyOf c_M_heavyOf 4 (some .int) 1 := ⟨wm 732 (by decide +kernel) (by decide +kernel), wm 46 (by decide +kernel) (by decide +kernel), (by decide +kernel)⟩
theorem mv_M_heavyOf : MV y_M_heavyOf 5 := ⟨wm 731 (by decide +kernel) (by decide +kernel), wm 26 (by decide +kernel) (by decide +kernel), rfl, by decide⟩
def y_M_lowOf : MethodName := ⟨"SpanStoreModel", "lowOf", "(II)I"⟩
abbrev c_M_lowOf : ByteArray := prog_7_method_25_code
theorem mx_M_lowOf : MX y_M_lowOf c_M_lowOf 4 (some .int) 2 := ⟨wm 728 (by decide +kernel) (by decide +kernel), wm 46 (by decide +kernel) (by decide +kernel), (by decide +kernel)⟩
theorem mv_M_lowOf : MV y_M_lowOf 5 := ⟨wm 727 (by decide +kernel) (by decide +kernel), wm 25 (by decide +kernel) (by decide +kernel), rfl, by decide⟩
def y_M_highOf : MethodName := ⟨"SpanStoreModel", "highOf", "(II)I"⟩
abbrev c_M_highOf : ByteArray := prog_7_method_26_code
theorem mx_M_highOf : MX y_M_highOf c_M_highOf 4 (some .int) 2 := ⟨wm 736 (by decide +kernel) (by decide +kernel), wm 46 (by decide +kernel) (by decide +kernel), (by decide +kernel)⟩
theorem mv_M_highOf : MV y_M_highOf 5 := ⟨wm 735 (by decide +kernel) (by decide +kernel), wm 27 (by decide +kernel) (by decide +kernel), rfl, by decide⟩
def y_M_isUnseen : MethodName := ⟨"SpanStoreModel", "isUnseen", "(II)Z"⟩
abbrev c_M_isUnseen : ByteArray := prog_7_method_27_code
theorem mx_M_isUnseen : MX y_M_isUnseen c_M_isUnseen 5 (some .boolean) 2 := ⟨wm 744 (by decide +kernel) (by decide +kernel), wm 46 (by decide +kernel) (by decide +kernel), (by decide +kernel)⟩
theorem mv_M_isUnseen : MV y_M_isUnseen 5 := ⟨wm 743 (by decide +kernel) (by decide +kernel), wm 29 (by decide +kernel) (by decide +kernel), rfl, by decide⟩
def y_M_owesLeast : MethodName := ⟨"SpanStoreModel", "owesLeast", "(II)Z"⟩
abbrev c_M_owesLeast : ByteArray := prog_7_method_28_code
theorem mx_M_owesLeast : MX y_M_owesLeast c_M_owesLeast 3 (some .boolean) 2 := ⟨wm 740 (by decide +kernel) (by decide +kernel), wm 46 (by decide +kernel) (by decide +kernel), (by decide +kernel)⟩
theorem mv_M_owesLeast : MV y_M_owesLeast 5 := ⟨wm 739 (by decide +kernel) (by decide +kernel), wm 28 (by decide +kernel) (by decide +kernel), rfl, by decide⟩
def y_M_owesGreatest : MethodName := ⟨"SpanStoreModel", "owesGreatest", "(II)Z"⟩
abbrev c_M_owesGreatest : ByteArray := prog_7_method_29_code
theorem mx_M_owesGreatest : MX y_M_owesGreatest c_M_owesGreatest 3 (some .boolean) 2 := ⟨wm 748 (by decide +kernel) (by decide +kernel), wm 46 (by decide +kernel) (by decide +kernel), (by decide +kernel)⟩
theorem mv_M_owesGreatest : MV y_M_owesGreatest 5 := ⟨wm 747 (by decide +kernel) (by decide +kernel), wm 30 (by decide +kernel) (by decide +kernel), rfl, by decide⟩
def y_M_about : MethodName := ⟨"SpanStoreModel", "about", "(III)I"⟩
abbrev c_M_about : ByteArray := prog_7_method_30_code
theorem mx_M_about : MX y_M_about c_M_about 6 (some .int) 3 := ⟨wm 724 (by decide +kernel) (by decide +kernel), wm 46 (by decide +kernel) (by decide +kernel), (by decide +kernel)⟩
theorem mv_M_about : MV y_M_about 5 := ⟨wm 722 (by decide +kernel) (by decide +kernel), wm 723 (by decide +kernel) (by decide +kernel), rfl, by decide⟩
def y_M_isGroup : MethodName := ⟨"SpanStoreModel", "isGroup", "(I)Z"⟩
abbrev c_M_isGroup : ByteArray := prog_7_method_31_code
theorem mx_M_isGroup : MX y_M_isGroup c_M_isGroup 1 (some .boolean) 1 := ⟨wm 755 (by decide +kernel) (by decide +kernel), wm 46 (by decide +kernel) (by decide +kernel), (by decide +kernel)⟩
theorem ms_M_isGroup : MS y_M_isGroup := wm 754 (by decide +kernel) (by decide +kernel)
def y_M_sumOf : MethodName := ⟨"SpanStoreModel", "sumOf", "(IIII)J"⟩
abbrev c_M_sumOf : ByteArray := prog_7_method_32_code
theorem mx_M_sumOf : MX y_M_sumOf c_M_sumOf 13 (some .long) 4 := ⟨wm 764 (by decide +kernel) (by decide +kernel), wm 46 (by decide +kernel) (by decide +kernel), (by decide +kernel)⟩
theorem mv_M_sumOf : MV y_M_sumOf 5 := ⟨wm 763 (by decide +kernel) (by decide +kernel), wm 32 (by decide +kernel) (by decide +kernel), rfl, by decide⟩
def y_M_sumNow : MethodName := ⟨"SpanStoreModel", "sumNow", "(III)J"⟩
abbrev c_M_sumNow : ByteArray := prog_7_method_33_code
theorem mx_M_sumNow : MX y_M_sumNow c_M_sumNow 7 (some .long) 3 := ⟨wm 760 (by decide +kernel) (by decide +kernel), wm 46 (by decide +kernel) (by decide +kernel), (by decide +kernel)⟩
theorem mv_M_sumNow : MV y_M_sumNow 5 := ⟨wm 759 (by decide +kernel) (by decide +kernel), wm 31 (by decide +kernel) (by decide +kernel), rfl, by decide⟩
def y_M_sum : MethodName := ⟨"SpanStoreModel", "sum", "(III)J"⟩
abbrev c_M_sum : ByteArray := prog_7_method_34_code
theorem mx_M_sum : MX y_M_sum c_M_sum 4 (some .long) 3 := ⟨wm 752 (by decide +kernel) (by decide +kernel), wm 46 (by decide +kernel) (by decide +kernel), (by decide +kernel)⟩
theorem mv_M_sum : MV y_M_sum 5 := ⟨wm 750 (by decide +kernel) (by decide +kernel), wm 751 (by decide +kernel) (by decide +kernel), rfl, by decide⟩
def y_M_countOf : MethodName := ⟨"SpanStoreModel", "countOf", "(IIII)I"⟩
abbrev c_M_countOf : ByteArray := prog_7_method_35_code
theorem mx_M_countOf : MX y_M_countOf c_M_countOf 7 (some .int) 4 := ⟨wm 772 (by decide +kernel) (by decide +kernel), wm 46 (by decide +kernel) (by decide +kernel), (by decide +kernel)⟩
theorem mv_M_countOf : MV y_M_countOf 5 := ⟨wm 771 (by decide +kernel) (by decide +kernel), wm 33 (by decide +kernel) (by decide +kernel), rfl, by decide⟩
def y_M_count : MethodName := ⟨"SpanStoreModel", "count", "(III)I"⟩
abbrev c_M_count : ByteArray := prog_7_method_36_code
theorem mx_M_count : MX y_M_count c_M_count 6 (some .int) 3 := ⟨wm 768 (by decide +kernel) (by decide +kernel), wm 46 (by decide +kernel) (by decide +kernel), (by decide +kernel)⟩
theorem mv_M_count : MV y_M_count 5 := ⟨wm 766 (by decide +kernel) (by decide +kernel), wm 767 (by decide +kernel) (by decide +kernel), rfl, by decide⟩
def y_M_pairs : MethodName := ⟨"SpanStoreModel", "pairs", "(II)I"⟩
abbrev c_M_pairs : ByteArray := prog_7_method_37_code
theorem mx_M_pairs : MX y_M_pairs c_M_pairs 6 (some .int) 2 := ⟨wm 780 (by decide +kernel) (by decide +kernel), wm 46 (by decide +kernel) (by decide +kernel), (by decide +kernel)⟩
theorem mv_M_pairs : MV y_M_pairs 5 := ⟨wm 779 (by decide +kernel) (by decide +kernel), wm 34 (by decide +kernel) (by decide +kernel), rfl, by decide⟩
def y_M_isKnownAt : MethodName := ⟨"SpanStoreModel", "isKnownAt", "(I)Z"⟩
abbrev c_M_isKnownAt : ByteArray := prog_7_method_38_code
theorem mx_M_isKnownAt : MX y_M_isKnownAt c_M_isKnownAt 2 (some .boolean) 1 := ⟨wm 784 (by decide +kernel) (by decide +kernel), wm 46 (by decide +kernel) (by decide +kernel), (by decide +kernel)⟩
theorem mv_M_isKnownAt : MV y_M_isKnownAt 5 := ⟨wm 783 (by decide +kernel) (by decide +kernel), wm 35 (by decide +kernel) (by decide +kernel), rfl, by decide⟩
def y_M_join : MethodName := ⟨"SpanStoreModel", "join", "(I)I"⟩
abbrev c_M_join : ByteArray := prog_7_method_39_code
theorem mx_M_join : MX y_M_join c_M_join 5 (some .int) 1 := ⟨wm 776 (by decide +kernel) (by decide +kernel), wm 46 (by decide +kernel) (by decide +kernel), (by decide +kernel)⟩
theorem mv_M_join : MV y_M_join 5 := ⟨wm 774 (by decide +kernel) (by decide +kernel), wm 775 (by decide +kernel) (by decide +kernel), rfl, by decide⟩
def y_M_hasKeyed : MethodName := ⟨"SpanStoreModel", "hasKeyed", "(III)Z"⟩
abbrev c_M_hasKeyed : ByteArray := prog_7_method_40_code
theorem mx_M_hasKeyed : MX y_M_hasKeyed c_M_hasKeyed 5 (some .boolean) 3 := ⟨wm 792 (by decide +kernel) (by decide +kernel), wm 46 (by decide +kernel) (by decide +kernel), (by decide +kernel)⟩
theorem mv_M_hasKeyed : MV y_M_hasKeyed 5 := ⟨wm 791 (by decide +kernel) (by decide +kernel), wm 36 (by decide +kernel) (by decide +kernel), rfl, by decide⟩
def y_M_part : MethodName := ⟨"SpanStoreModel", "part", "(II)I"⟩
abbrev c_M_part : ByteArray := prog_7_method_41_code
theorem mx_M_part : MX y_M_part c_M_part 3 (some .int) 2 := ⟨wm 788 (by decide +kernel) (by decide +kernel), wm 46 (by decide +kernel) (by decide +kernel), (by decide +kernel)⟩
theorem mv_M_part : MV y_M_part 5 := ⟨wm 786 (by decide +kernel) (by decide +kernel), wm 787 (by decide +kernel) (by decide +kernel), rfl, by decide⟩
def y_M_nextOf : MethodName := ⟨"SpanStoreModel", "nextOf", "(II)I"⟩
abbrev c_M_nextOf : ByteArray := prog_7_method_42_code
theorem mx_M_nextOf : MX y_M_nextOf c_M_nextOf 10 (some .int) 2 := ⟨wm 800 (by decide +kernel) (by decide +kernel), wm 46 (by decide +kernel) (by decide +kernel), (by decide +kernel)⟩
theorem mv_M_nextOf : MV y_M_nextOf 5 := ⟨wm 799 (by decide +kernel) (by decide +kernel), wm 37 (by decide +kernel) (by decide +kernel), rfl, by decide⟩
def y_M_next : MethodName := ⟨"SpanStoreModel", "next", "(II)I"⟩
abbrev c_M_next : ByteArray := prog_7_method_43_code
theorem mx_M_next : MX y_M_next c_M_next 3 (some .int) 2 := ⟨wm 796 (by decide +kernel) (by decide +kernel), wm 46 (by decide +kernel) (by decide +kernel), (by decide +kernel)⟩
theorem mv_M_next : MV y_M_next 5 := ⟨wm 794 (by decide +kernel) (by decide +kernel), wm 795 (by decide +kernel) (by decide +kernel), rfl, by decide⟩
def y_M_refine : MethodName := ⟨"SpanStoreModel", "refine", "(III)I"⟩
abbrev c_M_refine : ByteArray := prog_7_method_44_code
theorem mx_M_refine : MX y_M_refine c_M_refine 6 (some .int) 3 := ⟨wm 804 (by decide +kernel) (by decide +kernel), wm 46 (by decide +kernel) (by decide +kernel), (by decide +kernel)⟩
theorem mv_M_refine : MV y_M_refine 5 := ⟨wm 802 (by decide +kernel) (by decide +kernel), wm 803 (by decide +kernel) (by decide +kernel), rfl, by decide⟩
def y_M_meets : MethodName := ⟨"SpanStoreModel", "meets", "(I)I"⟩
abbrev c_M_meets : ByteArray := prog_7_method_45_code
theorem mx_M_meets : MX y_M_meets c_M_meets 2 (some .int) 1 := ⟨wm 664 (by decide +kernel) (by decide +kernel), wm 46 (by decide +kernel) (by decide +kernel), (by decide +kernel)⟩
theorem mv_M_meets : MV y_M_meets 5 := ⟨wm 663 (by decide +kernel) (by decide +kernel), wm 17 (by decide +kernel) (by decide +kernel), rfl, by decide⟩
def y_M_isSheet : MethodName := ⟨"SpanStoreModel", "isSheet", "(I)Z"⟩
abbrev c_M_isSheet : ByteArray := prog_7_method_46_code
theorem mx_M_isSheet : MX y_M_isSheet c_M_isSheet 1 (some .boolean) 1 := ⟨wm 660 (by decide +kernel) (by decide +kernel), wm 46 (by decide +kernel) (by decide +kernel), (by decide +kernel)⟩
theorem ms_M_isSheet : MS y_M_isSheet := wm 659 (by decide +kernel) (by decide +kernel)
def y_M_sheet : MethodName := ⟨"SpanStoreModel", "sheet", "(III)I"⟩
abbrev c_M_sheet : ByteArray := prog_7_method_47_code
theorem mx_M_sheet : MX y_M_sheet c_M_sheet 5 (some .int) 3 := ⟨wm 809 (by decide +kernel) (by decide +kernel), wm 46 (by decide +kernel) (by decide +kernel), (by decide +kernel)⟩
theorem mv_M_sheet : MV y_M_sheet 5 := ⟨wm 807 (by decide +kernel) (by decide +kernel), wm 808 (by decide +kernel) (by decide +kernel), rfl, by decide⟩
def y_M_lose : MethodName := ⟨"SpanStoreModel", "lose", "(I)I"⟩
abbrev c_M_lose : ByteArray := prog_7_method_48_code
theorem mx_M_lose : MX y_M_lose c_M_lose 2 (some .int) 1 := ⟨wm 813 (by decide +kernel) (by decide +kernel), wm 46 (by decide +kernel) (by decide +kernel), (by decide +kernel)⟩
theorem mv_M_lose : MV y_M_lose 5 := ⟨wm 811 (by decide +kernel) (by decide +kernel), wm 812 (by decide +kernel) (by decide +kernel), rfl, by decide⟩
def y_M_lacks : MethodName := ⟨"SpanStoreModel", "lacks", "(III)I"⟩
abbrev c_M_lacks : ByteArray := prog_7_method_49_code
theorem mx_M_lacks : MX y_M_lacks c_M_lacks 4 (some .int) 3 := ⟨wm 821 (by decide +kernel) (by decide +kernel), wm 46 (by decide +kernel) (by decide +kernel), (by decide +kernel)⟩
theorem mv_M_lacks : MV y_M_lacks 5 := ⟨wm 820 (by decide +kernel) (by decide +kernel), wm 38 (by decide +kernel) (by decide +kernel), rfl, by decide⟩
def y_M_lay : MethodName := ⟨"SpanStoreModel", "lay", "(III)V"⟩
abbrev c_M_lay : ByteArray := prog_7_method_50_code
theorem mx_M_lay : MX y_M_lay c_M_lay 4 none 3 := ⟨wm 825 (by decide +kernel) (by decide +kernel), wm 46 (by decide +kernel) (by decide +kernel), (by decide +kernel)⟩
theorem mv_M_lay : MV y_M_lay 5 := ⟨wm 824 (by decide +kernel) (by decide +kernel), wm 39 (by decide +kernel) (by decide +kernel), rfl, by decide⟩
def y_M_put : MethodName := ⟨"SpanStoreModel", "put", "(IIII)I"⟩
abbrev c_M_put : ByteArray := prog_7_method_51_code
theorem mx_M_put : MX y_M_put c_M_put 6 (some .int) 4 := ⟨wm 817 (by decide +kernel) (by decide +kernel), wm 46 (by decide +kernel) (by decide +kernel), (by decide +kernel)⟩
theorem mv_M_put : MV y_M_put 5 := ⟨wm 815 (by decide +kernel) (by decide +kernel), wm 816 (by decide +kernel) (by decide +kernel), rfl, by decide⟩
def y_M_get : MethodName := ⟨"SpanStoreModel", "get", "(III)I"⟩
abbrev c_M_get : ByteArray := prog_7_method_52_code
theorem mx_M_get : MX y_M_get c_M_get 5 (some .int) 3 := ⟨wm 829 (by decide +kernel) (by decide +kernel), wm 46 (by decide +kernel) (by decide +kernel), (by decide +kernel)⟩
theorem mv_M_get : MV y_M_get 5 := ⟨wm 827 (by decide +kernel) (by decide +kernel), wm 828 (by decide +kernel) (by decide +kernel), rfl, by decide⟩
def y_M_copy : MethodName := ⟨"SpanStoreModel", "copy", "(IIIII)I"⟩
abbrev c_M_copy : ByteArray := prog_7_method_53_code
theorem mx_M_copy : MX y_M_copy c_M_copy 7 (some .int) 5 := ⟨wm 833 (by decide +kernel) (by decide +kernel), wm 46 (by decide +kernel) (by decide +kernel), (by decide +kernel)⟩
theorem mv_M_copy : MV y_M_copy 5 := ⟨wm 831 (by decide +kernel) (by decide +kernel), wm 832 (by decide +kernel) (by decide +kernel), rfl, by decide⟩
def y_M_write : MethodName := ⟨"SpanStoreModel", "write", "(IIII)I"⟩
abbrev c_M_write : ByteArray := prog_7_method_54_code
theorem mx_M_write : MX y_M_write c_M_write 8 (some .int) 4 := ⟨wm 837 (by decide +kernel) (by decide +kernel), wm 46 (by decide +kernel) (by decide +kernel), (by decide +kernel)⟩
theorem mv_M_write : MV y_M_write 5 := ⟨wm 835 (by decide +kernel) (by decide +kernel), wm 836 (by decide +kernel) (by decide +kernel), rfl, by decide⟩
def y_M_told : MethodName := ⟨"SpanStoreModel", "told", "(I)I"⟩
abbrev c_M_told : ByteArray := prog_7_method_55_code
theorem mx_M_told : MX y_M_told c_M_told 2 (some .int) 1 := ⟨wm 841 (by decide +kernel) (by decide +kernel), wm 46 (by decide +kernel) (by decide +kernel), (by decide +kernel)⟩
theorem mv_M_told : MV y_M_told 5 := ⟨wm 839 (by decide +kernel) (by decide +kernel), wm 840 (by decide +kernel) (by decide +kernel), rfl, by decide⟩
def y_M_digest : MethodName := ⟨"SpanStoreModel", "digest", "()J"⟩
abbrev c_M_digest : ByteArray := prog_7_method_56_code
theorem mx_M_digest : MX y_M_digest c_M_digest 7 (some .long) 0 := ⟨wm 845 (by decide +kernel) (by decide +kernel), wm 46 (by decide +kernel) (by decide +kernel), (by decide +kernel)⟩
theorem mv_M_digest : MV y_M_digest 5 := ⟨wm 843 (by decide +kernel) (by decide +kernel), wm 844 (by decide +kernel) (by decide +kernel), rfl, by decide⟩
def y_A_abs : MethodName := ⟨"java/lang/Math", "abs", "(I)I"⟩
abbrev c_A_abs : ByteArray := prog_8_method_59_code
theorem mx_A_abs : MX y_A_abs c_A_abs 1 (some .int) 1 := ⟨wm 293 (by decide +kernel) (by decide +kernel), wm 47 (by decide +kernel) (by decide +kernel), (by decide +kernel)⟩
theorem ms_A_abs : MS y_A_abs := wm 292 (by decide +kernel) (by decide +kernel)
def y_A_max : MethodName := ⟨"java/lang/Math", "max", "(II)I"⟩
abbrev c_A_max : ByteArray := prog_8_method_65_code
theorem mx_A_max : MX y_A_max c_A_max 2 (some .int) 2 := ⟨wm 306 (by decide +kernel) (by decide +kernel), wm 47 (by decide +kernel) (by decide +kernel), (by decide +kernel)⟩
theorem ms_A_max : MS y_A_max := wm 305 (by decide +kernel) (by decide +kernel)
def y_A_min : MethodName := ⟨"java/lang/Math", "min", "(II)I"⟩
abbrev c_A_min : ByteArray := prog_8_method_69_code
theorem mx_A_min : MX y_A_min c_A_min 2 (some .int) 2 := ⟨wm 267 (by decide +kernel) (by decide +kernel), wm 47 (by decide +kernel) (by decide +kernel), (by decide +kernel)⟩
theorem ms_A_min : MS y_A_min := wm 266 (by decide +kernel) (by decide +kernel)
def y_J_fill : MethodName := ⟨"java/util/Arrays", "fill", "([II)V"⟩
abbrev c_J_fill : ByteArray := prog_10_method_103_code
theorem mx_J_fill : MX y_J_fill c_J_fill 4 none 2 := ⟨wm 333 (by decide +kernel) (by decide +kernel), wm 48 (by decide +kernel) (by decide +kernel), (by decide +kernel)⟩
theorem ms_J_fill : MS y_J_fill := wm 332 (by decide +kernel) (by decide +kernel)
def FL (own : String) (idx ci k : Nat) : Prop := Cond.fieldLink own idx (fT ci k).1 (fT ci k).2.1 (fT ci k).2.2.1 ∈ tbG ∧ k < fN ci ∧ ci < 6
theorem ac_ini : Cond.initialized "java/lang/System" ∈ tbG := wm 49 (by decide +kernel) (by decide +kernel)
theorem cl_L_7 : Cond.classLink "SpanStoreLaw" 7 (fR 4) ∈ tbG := wm 50 (by decide +kernel) (by decide +kernel)
theorem it_4 : Cond.instantiable (fR 4) (fN 4) ∈ tbG ∧ Cond.initialized (fR 4) ∈ tbG := ⟨wm 51 (by decide +kernel) (by decide +kernel), wm 41 (by decide +kernel) (by decide +kernel)⟩
theorem ml_L_9 : Cond.methodLink "SpanStoreLaw" 9 y_C_init ∈ tbG := wm 52 (by decide +kernel) (by decide +kernel)
theorem ml_C_1 : Cond.methodLink "SpanStore" 1 objectInit ∈ tbG := wm 55 (by decide +kernel) (by decide +kernel)
theorem oi_inst : Cond.instanceMethod objectInit ∈ tbG := wm 56 (by decide +kernel) (by decide +kernel)
theorem oi_code : Cond.code objectInit ⟨#[0xb1]⟩ 1 none ∈ tbG := wm 57 (by decide +kernel) (by decide +kernel)
theorem cl_C_9 : Cond.classLink "SpanStore" 9 (fR 3) ∈ tbG := wm 58 (by decide +kernel) (by decide +kernel)
theorem ao_3 : Cond.arrayOver (.object (fR 3)) ∈ lw_tbl := List.mem_of_getElem? (i := 59) (by decide +kernel)
theorem cl_C_15 : Cond.classLink "SpanStore" 15 (fR 2) ∈ tbG := wm 60 (by decide +kernel) (by decide +kernel)
theorem ao_2 : Cond.arrayOver (.object (fR 2)) ∈ lw_tbl := List.mem_of_getElem? (i := 61) (by decide +kernel)
theorem it_3 : Cond.instantiable (fR 3) (fN 3) ∈ tbG ∧ Cond.initialized (fR 3) ∈ tbG := ⟨wm 62 (by decide +kernel) (by decide +kernel), wm 42 (by decide +kernel) (by decide +kernel)⟩
theorem ml_C_25 : Cond.methodLink "SpanStore" 25 y_T_init ∈ tbG := wm 63 (by decide +kernel) (by decide +kernel)
theorem ml_T_3 : Cond.methodLink "SpanStore$Table" 3 objectInit ∈ tbG := wm 66 (by decide +kernel) (by decide +kernel)
theorem cl_T_9 : Cond.classLink "SpanStore$Table" 9 (fR 0) ∈ tbG := wm 67 (by decide +kernel) (by decide +kernel)
theorem ao_0 : Cond.arrayOver (.object (fR 0)) ∈ lw_tbl := List.mem_of_getElem? (i := 68) (by decide +kernel)
theorem cl_T_17 : Cond.classLink "SpanStore$Table" 17 (fR 1) ∈ tbG := wm 69 (by decide +kernel) (by decide +kernel)
theorem ao_1 : Cond.arrayOver (.object (fR 1)) ∈ lw_tbl := List.mem_of_getElem? (i := 70) (by decide +kernel)
theorem it_0 : Cond.instantiable (fR 0) (fN 0) ∈ tbG ∧ Cond.initialized (fR 0) ∈ tbG := ⟨wm 71 (by decide +kernel) (by decide +kernel), wm 43 (by decide +kernel) (by decide +kernel)⟩
theorem ml_T_23 : Cond.methodLink "SpanStore$Table" 23 y_B_init ∈ tbG := wm 72 (by decide +kernel) (by decide +kernel)
theorem ml_B_3 : Cond.methodLink "SpanStore$Block" 3 objectInit ∈ tbG := wm 75 (by decide +kernel) (by decide +kernel)
theorem fl_B_9 : FL "SpanStore$Block" 9 0 0 := ⟨wm 76 (by decide +kernel) (by decide +kernel), by decide, by decide⟩
theorem fl_K_35 : FL "SpanStore$Keeper" 35 0 0 := ⟨wm 77 (by decide +kernel) (by decide +kernel), by decide, by decide⟩
theorem fl_B_15 : FL "SpanStore$Block" 15 0 1 := ⟨wm 78 (by decide +kernel) (by decide +kernel), by decide, by decide⟩
theorem fl_B_18 : FL "SpanStore$Block" 18 0 2 := ⟨wm 79 (by decide +kernel) (by decide +kernel), by decide, by decide⟩
theorem fl_K_39 : FL "SpanStore$Keeper" 39 0 2 := ⟨wm 80 (by decide +kernel) (by decide +kernel), by decide, by decide⟩
theorem fl_C_112 : FL "SpanStore" 112 0 2 := ⟨wm 81 (by decide +kernel) (by decide +kernel), by decide, by decide⟩
theorem fl_B_21 : FL "SpanStore$Block" 21 0 3 := ⟨wm 82 (by decide +kernel) (by decide +kernel), by decide, by decide⟩
theorem fl_C_105 : FL "SpanStore" 105 0 3 := ⟨wm 83 (by decide +kernel) (by decide +kernel), by decide, by decide⟩
theorem fl_B_25 : FL "SpanStore$Block" 25 0 4 := ⟨wm 84 (by decide +kernel) (by decide +kernel), by decide, by decide⟩
theorem fl_B_28 : FL "SpanStore$Block" 28 0 5 := ⟨wm 85 (by decide +kernel) (by decide +kernel), by decide, by decide⟩
theorem fl_C_43 : FL "SpanStore" 43 0 5 := ⟨wm 86 (by decide +kernel) (by decide +kernel), by decide, by decide⟩
theorem fl_T_52 : FL "SpanStore$Table" 52 0 5 := ⟨wm 87 (by decide +kernel) (by decide +kernel), by decide, by decide⟩
theorem fl_B_32 : FL "SpanStore$Block" 32 0 6 := ⟨wm 88 (by decide +kernel) (by decide +kernel), by decide, by decide⟩
theorem fl_T_55 : FL "SpanStore$Table" 55 0 6 := ⟨wm 89 (by decide +kernel) (by decide +kernel), by decide, by decide⟩
theorem fl_C_209 : FL "SpanStore" 209 0 6 := ⟨wm 90 (by decide +kernel) (by decide +kernel), by decide, by decide⟩
theorem fl_B_53 : FL "SpanStore$Block" 53 0 7 := ⟨wm 91 (by decide +kernel) (by decide +kernel), by decide, by decide⟩
theorem fl_B_56 : FL "SpanStore$Block" 56 0 8 := ⟨wm 92 (by decide +kernel) (by decide +kernel), by decide, by decide⟩
theorem fl_B_68 : FL "SpanStore$Block" 68 0 9 := ⟨wm 93 (by decide +kernel) (by decide +kernel), by decide, by decide⟩
theorem fl_B_71 : FL "SpanStore$Block" 71 0 10 := ⟨wm 94 (by decide +kernel) (by decide +kernel), by decide, by decide⟩
theorem fl_B_77 : FL "SpanStore$Block" 77 0 11 := ⟨wm 95 (by decide +kernel) (by decide +kernel), by decide, by decide⟩
theorem fl_B_80 : FL "SpanStore$Block" 80 0 12 := ⟨wm 96 (by decide +kernel) (by decide +kernel), by decide, by decide⟩
theorem fl_B_49 : FL "SpanStore$Block" 49 0 13 := ⟨wm 97 (by decide +kernel) (by decide +kernel), by decide, by decide⟩
theorem ak_int : Cond.arrayClass .int ∈ tbG := wm 127 (by decide +kernel) (by decide +kernel)
theorem ak_boolean : Cond.arrayClass .boolean ∈ tbG := wm 128 (by decide +kernel) (by decide +kernel)
theorem it_1 : Cond.instantiable (fR 1) (fN 1) ∈ tbG ∧ Cond.initialized (fR 1) ∈ tbG := ⟨wm 129 (by decide +kernel) (by decide +kernel), wm 44 (by decide +kernel) (by decide +kernel)⟩
theorem ml_T_24 : Cond.methodLink "SpanStore$Table" 24 y_K_init ∈ tbG := wm 130 (by decide +kernel) (by decide +kernel)
theorem ml_K_3 : Cond.methodLink "SpanStore$Keeper" 3 objectInit ∈ tbG := wm 133 (by decide +kernel) (by decide +kernel)
theorem fl_K_9 : FL "SpanStore$Keeper" 9 1 0 := ⟨wm 134 (by decide +kernel) (by decide +kernel), by decide, by decide⟩
theorem fl_T_58 : FL "SpanStore$Table" 58 1 0 := ⟨wm 135 (by decide +kernel) (by decide +kernel), by decide, by decide⟩
theorem fl_K_15 : FL "SpanStore$Keeper" 15 1 1 := ⟨wm 136 (by decide +kernel) (by decide +kernel), by decide, by decide⟩
theorem fl_T_61 : FL "SpanStore$Table" 61 1 1 := ⟨wm 137 (by decide +kernel) (by decide +kernel), by decide, by decide⟩
theorem fl_K_18 : FL "SpanStore$Keeper" 18 1 2 := ⟨wm 138 (by decide +kernel) (by decide +kernel), by decide, by decide⟩
theorem fl_T_64 : FL "SpanStore$Table" 64 1 2 := ⟨wm 139 (by decide +kernel) (by decide +kernel), by decide, by decide⟩
theorem fl_T_11 : FL "SpanStore$Table" 11 3 0 := ⟨wm 147 (by decide +kernel) (by decide +kernel), by decide, by decide⟩
theorem fl_C_182 : FL "SpanStore" 182 3 0 := ⟨wm 148 (by decide +kernel) (by decide +kernel), by decide, by decide⟩
theorem fl_T_19 : FL "SpanStore$Table" 19 3 1 := ⟨wm 149 (by decide +kernel) (by decide +kernel), by decide, by decide⟩
theorem fl_T_25 : FL "SpanStore$Table" 25 3 2 := ⟨wm 150 (by decide +kernel) (by decide +kernel), by decide, by decide⟩
theorem fl_C_71 : FL "SpanStore" 71 3 2 := ⟨wm 151 (by decide +kernel) (by decide +kernel), by decide, by decide⟩
theorem fl_C_39 : FL "SpanStore" 39 3 3 := ⟨wm 152 (by decide +kernel) (by decide +kernel), by decide, by decide⟩
theorem fl_T_45 : FL "SpanStore$Table" 45 3 3 := ⟨wm 153 (by decide +kernel) (by decide +kernel), by decide, by decide⟩
theorem it_2 : Cond.instantiable (fR 2) (fN 2) ∈ tbG ∧ Cond.initialized (fR 2) ∈ tbG := ⟨wm 163 (by decide +kernel) (by decide +kernel), wm 45 (by decide +kernel) (by decide +kernel)⟩
theorem ml_C_26 : Cond.methodLink "SpanStore" 26 y_S_init ∈ tbG := wm 164 (by decide +kernel) (by decide +kernel)
theorem ml_S_3 : Cond.methodLink "SpanStore$Sheet" 3 objectInit ∈ tbG := wm 167 (by decide +kernel) (by decide +kernel)
theorem fl_S_9 : FL "SpanStore$Sheet" 9 2 0 := ⟨wm 168 (by decide +kernel) (by decide +kernel), by decide, by decide⟩
theorem fl_C_65 : FL "SpanStore" 65 2 0 := ⟨wm 169 (by decide +kernel) (by decide +kernel), by decide, by decide⟩
theorem fl_S_25 : FL "SpanStore$Sheet" 25 2 1 := ⟨wm 170 (by decide +kernel) (by decide +kernel), by decide, by decide⟩
theorem fl_C_170 : FL "SpanStore" 170 2 1 := ⟨wm 171 (by decide +kernel) (by decide +kernel), by decide, by decide⟩
theorem fl_S_29 : FL "SpanStore$Sheet" 29 2 2 := ⟨wm 172 (by decide +kernel) (by decide +kernel), by decide, by decide⟩
theorem fl_C_64 : FL "SpanStore" 64 2 2 := ⟨wm 173 (by decide +kernel) (by decide +kernel), by decide, by decide⟩
theorem fl_B_111 : FL "SpanStore$Block" 111 2 2 := ⟨wm 174 (by decide +kernel) (by decide +kernel), by decide, by decide⟩
theorem fl_S_15 : FL "SpanStore$Sheet" 15 2 3 := ⟨wm 175 (by decide +kernel) (by decide +kernel), by decide, by decide⟩
theorem fl_C_57 : FL "SpanStore" 57 2 3 := ⟨wm 176 (by decide +kernel) (by decide +kernel), by decide, by decide⟩
theorem fl_C_11 : FL "SpanStore" 11 4 0 := ⟨wm 186 (by decide +kernel) (by decide +kernel), by decide, by decide⟩
theorem fl_C_17 : FL "SpanStore" 17 4 1 := ⟨wm 187 (by decide +kernel) (by decide +kernel), by decide, by decide⟩
theorem fl_C_21 : FL "SpanStore" 21 4 2 := ⟨wm 188 (by decide +kernel) (by decide +kernel), by decide, by decide⟩
theorem fl_C_190 : FL "SpanStore" 190 4 3 := ⟨wm 189 (by decide +kernel) (by decide +kernel), by decide, by decide⟩
theorem fl_C_193 : FL "SpanStore" 193 4 4 := ⟨wm 190 (by decide +kernel) (by decide +kernel), by decide, by decide⟩
theorem ml_L_13 : Cond.methodLink "SpanStoreLaw" 13 y_C_row ∈ tbG := wm 202 (by decide +kernel) (by decide +kernel)
theorem ml_C_27 : Cond.methodLink "SpanStore" 27 y_C_tableAt ∈ tbG := wm 206 (by decide +kernel) (by decide +kernel)
theorem ml_C_31 : Cond.methodLink "SpanStore" 31 y_C_blockAt ∈ tbG := wm 210 (by decide +kernel) (by decide +kernel)
theorem ml_C_35 : Cond.methodLink "SpanStore" 35 y_C_isRow ∈ tbG := wm 213 (by decide +kernel) (by decide +kernel)
theorem ml_C_98 : Cond.methodLink "SpanStore" 98 y_C_isValue ∈ tbG := wm 216 (by decide +kernel) (by decide +kernel)
theorem ml_C_49 : Cond.methodLink "SpanStore" 49 y_B_addRow ∈ tbG := wm 219 (by decide +kernel) (by decide +kernel)
theorem ml_L_18 : Cond.methodLink "SpanStoreLaw" 18 y_C_load ∈ tbG := wm 223 (by decide +kernel) (by decide +kernel)
theorem ml_C_53 : Cond.methodLink "SpanStore" 53 y_C_sheetAt ∈ tbG := wm 227 (by decide +kernel) (by decide +kernel)
theorem ml_C_60 : Cond.methodLink "SpanStore" 60 y_C_found ∈ tbG := wm 231 (by decide +kernel) (by decide +kernel)
theorem ml_L_23 : Cond.methodLink "SpanStoreLaw" 23 y_C_keeper ∈ tbG := wm 235 (by decide +kernel) (by decide +kernel)
theorem ml_C_68 : Cond.methodLink "SpanStore" 68 y_C_isKeeper ∈ tbG := wm 239 (by decide +kernel) (by decide +kernel)
theorem ml_C_143 : Cond.methodLink "SpanStore" 143 y_C_isModulus ∈ tbG := wm 242 (by decide +kernel) (by decide +kernel)
theorem ml_C_74 : Cond.methodLink "SpanStore" 74 y_T_addKeeper ∈ tbG := wm 245 (by decide +kernel) (by decide +kernel)
theorem ml_T_29 : Cond.methodLink "SpanStore$Table" 29 y_K_become ∈ tbG := wm 249 (by decide +kernel) (by decide +kernel)
theorem ml_L_28 : Cond.methodLink "SpanStoreLaw" 28 y_C_seal ∈ tbG := wm 253 (by decide +kernel) (by decide +kernel)
theorem ml_C_77 : Cond.methodLink "SpanStore" 77 y_T_close ∈ tbG := wm 257 (by decide +kernel) (by decide +kernel)
theorem ml_T_33 : Cond.methodLink "SpanStore$Table" 33 y_T_topHiddenAmount ∈ tbG := wm 261 (by decide +kernel) (by decide +kernel)
theorem ml_T_88 : Cond.methodLink "SpanStore$Table" 88 y_A_min ∈ tbG := wm 265 (by decide +kernel) (by decide +kernel)
theorem ml_T_37 : Cond.methodLink "SpanStore$Table" 37 y_T_keepRows ∈ tbG := wm 268 (by decide +kernel) (by decide +kernel)
theorem ml_T_93 : Cond.methodLink "SpanStore$Table" 93 y_T_isKept ∈ tbG := wm 272 (by decide +kernel) (by decide +kernel)
theorem ml_T_100 : Cond.methodLink "SpanStore$Table" 100 y_K_keeps ∈ tbG := wm 276 (by decide +kernel) (by decide +kernel)
theorem ml_K_21 : Cond.methodLink "SpanStore$Keeper" 21 y_B_hasRow ∈ tbG := wm 280 (by decide +kernel) (by decide +kernel)
theorem mn_K_27 : Cond.methodLinkNest "SpanStore$Keeper" 27 y_C_isCongruent "SpanStore" ∈ lw_tbl := List.mem_of_getElem? (i := 284) (by decide +kernel)
theorem ml_K_31 : Cond.methodLink "SpanStore$Keeper" 31 y_B_earlierOfItsGroup ∈ tbG := wm 287 (by decide +kernel) (by decide +kernel)
theorem ml_K_42 : Cond.methodLink "SpanStore$Keeper" 42 y_A_abs ∈ tbG := wm 291 (by decide +kernel) (by decide +kernel)
theorem ml_T_97 : Cond.methodLink "SpanStore$Table" 97 y_B_know ∈ tbG := wm 294 (by decide +kernel) (by decide +kernel)
theorem ml_B_41 : Cond.methodLink "SpanStore$Block" 41 y_B_hasRow ∈ tbG := wm 298 (by decide +kernel) (by decide +kernel)
theorem ml_T_41 : Cond.methodLink "SpanStore$Table" 41 y_B_measure ∈ tbG := wm 299 (by decide +kernel) (by decide +kernel)
theorem ml_B_59 : Cond.methodLink "SpanStore$Block" 59 y_A_min ∈ tbG := wm 303 (by decide +kernel) (by decide +kernel)
theorem ml_B_65 : Cond.methodLink "SpanStore$Block" 65 y_A_max ∈ tbG := wm 304 (by decide +kernel) (by decide +kernel)
theorem ml_B_74 : Cond.methodLink "SpanStore$Block" 74 y_B_isKnownValue ∈ tbG := wm 307 (by decide +kernel) (by decide +kernel)
theorem ml_C_80 : Cond.methodLink "SpanStore" 80 y_T_knownRows ∈ tbG := wm 311 (by decide +kernel) (by decide +kernel)
theorem ml_L_33 : Cond.methodLink "SpanStoreLaw" 33 y_C_clear ∈ tbG := wm 315 (by decide +kernel) (by decide +kernel)
theorem ml_C_84 : Cond.methodLink "SpanStore" 84 y_T_rows ∈ tbG := wm 319 (by decide +kernel) (by decide +kernel)
theorem ml_C_87 : Cond.methodLink "SpanStore" 87 y_T_empty ∈ tbG := wm 323 (by decide +kernel) (by decide +kernel)
theorem ml_T_49 : Cond.methodLink "SpanStore$Table" 49 y_B_empty ∈ tbG := wm 327 (by decide +kernel) (by decide +kernel)
theorem ml_B_35 : Cond.methodLink "SpanStore$Block" 35 y_J_fill ∈ tbG := wm 331 (by decide +kernel) (by decide +kernel)
theorem ml_L_37 : Cond.methodLink "SpanStoreLaw" 37 y_C_read ∈ tbG := wm 334 (by decide +kernel) (by decide +kernel)
theorem ml_C_90 : Cond.methodLink "SpanStore" 90 y_C_readBlock ∈ tbG := wm 338 (by decide +kernel) (by decide +kernel)
theorem ml_C_212 : Cond.methodLink "SpanStore" 212 y_B_knowAll ∈ tbG := wm 342 (by decide +kernel) (by decide +kernel)
theorem ml_B_45 : Cond.methodLink "SpanStore$Block" 45 y_B_know ∈ tbG := wm 346 (by decide +kernel) (by decide +kernel)
theorem ml_L_42 : Cond.methodLink "SpanStoreLaw" 42 y_C_change ∈ tbG := wm 347 (by decide +kernel) (by decide +kernel)
theorem ml_C_94 : Cond.methodLink "SpanStore" 94 y_B_hasRow ∈ tbG := wm 351 (by decide +kernel) (by decide +kernel)
theorem ml_C_101 : Cond.methodLink "SpanStore" 101 y_B_changeRow ∈ tbG := wm 352 (by decide +kernel) (by decide +kernel)
theorem ml_L_46 : Cond.methodLink "SpanStoreLaw" 46 y_C_value ∈ tbG := wm 356 (by decide +kernel) (by decide +kernel)
theorem kc_C_111 : Cond.constant "SpanStore" 111 (-2147483648) ∈ tbG := wm 360 (by decide +kernel) (by decide +kernel)
theorem ml_L_51 : Cond.methodLink "SpanStoreLaw" 51 y_C_about ∈ tbG := wm 361 (by decide +kernel) (by decide +kernel)
theorem ml_C_115 : Cond.methodLink "SpanStore" 115 y_C_isFact ∈ tbG := wm 365 (by decide +kernel) (by decide +kernel)
theorem ml_C_118 : Cond.methodLink "SpanStore" 118 y_B_fact ∈ tbG := wm 368 (by decide +kernel) (by decide +kernel)
theorem ml_B_83 : Cond.methodLink "SpanStore$Block" 83 y_B_isHalf ∈ tbG := wm 372 (by decide +kernel) (by decide +kernel)
theorem ml_B_87 : Cond.methodLink "SpanStore$Block" 87 y_B_owesLeast ∈ tbG := wm 376 (by decide +kernel) (by decide +kernel)
theorem ml_B_90 : Cond.methodLink "SpanStore$Block" 90 y_B_owesGreatest ∈ tbG := wm 380 (by decide +kernel) (by decide +kernel)
theorem ml_B_93 : Cond.methodLink "SpanStore$Block" 93 y_B_groupSize ∈ tbG := wm 384 (by decide +kernel) (by decide +kernel)
theorem ml_L_55 : Cond.methodLink "SpanStoreLaw" 55 y_C_sum ∈ tbG := wm 388 (by decide +kernel) (by decide +kernel)
theorem ml_C_121 : Cond.methodLink "SpanStore" 121 y_C_isGroupOrAll ∈ tbG := wm 392 (by decide +kernel) (by decide +kernel)
theorem ml_C_124 : Cond.methodLink "SpanStore" 124 y_C_isEnd ∈ tbG := wm 395 (by decide +kernel) (by decide +kernel)
theorem kc_C_129 : Cond.constantLong "SpanStore" 129 (-9223372036854775808) ∈ tbG := wm 398 (by decide +kernel) (by decide +kernel)
theorem ml_C_131 : Cond.methodLink "SpanStore" 131 y_T_sumEnd ∈ tbG := wm 399 (by decide +kernel) (by decide +kernel)
theorem ml_T_67 : Cond.methodLink "SpanStore$Table" 67 y_B_sumEnd ∈ tbG := wm 403 (by decide +kernel) (by decide +kernel)
theorem ml_B_97 : Cond.methodLink "SpanStore$Block" 97 y_B_hiddenSumEnd ∈ tbG := wm 407 (by decide +kernel) (by decide +kernel)
theorem ml_L_60 : Cond.methodLink "SpanStoreLaw" 60 y_C_count ∈ tbG := wm 411 (by decide +kernel) (by decide +kernel)
theorem ml_C_135 : Cond.methodLink "SpanStore" 135 y_T_countEnd ∈ tbG := wm 415 (by decide +kernel) (by decide +kernel)
theorem ml_T_72 : Cond.methodLink "SpanStore$Table" 72 y_B_countEnd ∈ tbG := wm 419 (by decide +kernel) (by decide +kernel)
theorem ml_B_104 : Cond.methodLink "SpanStore$Block" 104 y_B_hiddenCountEnd ∈ tbG := wm 423 (by decide +kernel) (by decide +kernel)
theorem ml_L_64 : Cond.methodLink "SpanStoreLaw" 64 y_C_join ∈ tbG := wm 427 (by decide +kernel) (by decide +kernel)
theorem ml_C_139 : Cond.methodLink "SpanStore" 139 y_C_knownPairs ∈ tbG := wm 431 (by decide +kernel) (by decide +kernel)
theorem ml_C_215 : Cond.methodLink "SpanStore" 215 y_J_fill ∈ tbG := wm 435 (by decide +kernel) (by decide +kernel)
theorem ml_C_221 : Cond.methodLink "SpanStore" 221 y_B_addKnownKeys ∈ tbG := wm 436 (by decide +kernel) (by decide +kernel)
theorem ml_C_225 : Cond.methodLink "SpanStore" 225 y_B_pairsWith ∈ tbG := wm 440 (by decide +kernel) (by decide +kernel)
theorem mn_B_107 : Cond.methodLinkNest "SpanStore$Block" 107 y_C_isCongruent "SpanStore" ∈ lw_tbl := List.mem_of_getElem? (i := 444) (by decide +kernel)
theorem ml_L_68 : Cond.methodLink "SpanStoreLaw" 68 y_C_part ∈ tbG := wm 445 (by decide +kernel) (by decide +kernel)
theorem ml_C_147 : Cond.methodLink "SpanStore" 147 y_T_hasKeyed ∈ tbG := wm 449 (by decide +kernel) (by decide +kernel)
theorem ml_L_72 : Cond.methodLink "SpanStoreLaw" 72 y_C_next ∈ tbG := wm 453 (by decide +kernel) (by decide +kernel)
theorem ml_C_150 : Cond.methodLink "SpanStore" 150 y_T_widestBlock ∈ tbG := wm 457 (by decide +kernel) (by decide +kernel)
theorem ml_T_76 : Cond.methodLink "SpanStore$Table" 76 y_B_apart ∈ tbG := wm 461 (by decide +kernel) (by decide +kernel)
theorem ml_B_100 : Cond.methodLink "SpanStore$Block" 100 y_B_sumEnd ∈ tbG := wm 465 (by decide +kernel) (by decide +kernel)
theorem ml_L_76 : Cond.methodLink "SpanStoreLaw" 76 y_C_refine ∈ tbG := wm 466 (by decide +kernel) (by decide +kernel)
theorem kc_C_153 : Cond.constant "SpanStore" 153 (1000000) ∈ tbG := wm 470 (by decide +kernel) (by decide +kernel)
theorem ml_C_154 : Cond.methodLink "SpanStore" 154 y_T_apart ∈ tbG := wm 471 (by decide +kernel) (by decide +kernel)
theorem ml_T_71 : Cond.methodLink "SpanStore$Table" 71 y_T_sumEnd ∈ tbG := wm 475 (by decide +kernel) (by decide +kernel)
theorem ml_L_80 : Cond.methodLink "SpanStoreLaw" 80 y_C_sheet ∈ tbG := wm 476 (by decide +kernel) (by decide +kernel)
theorem ml_C_158 : Cond.methodLink "SpanStore" 158 y_C_isForm ∈ tbG := wm 480 (by decide +kernel) (by decide +kernel)
theorem ml_C_161 : Cond.methodLink "SpanStore" 161 y_S_renew ∈ tbG := wm 483 (by decide +kernel) (by decide +kernel)
theorem ml_S_19 : Cond.methodLink "SpanStore$Sheet" 19 y_J_fill ∈ tbG := wm 487 (by decide +kernel) (by decide +kernel)
theorem ml_L_84 : Cond.methodLink "SpanStoreLaw" 84 y_C_lose ∈ tbG := wm 488 (by decide +kernel) (by decide +kernel)
theorem ml_L_88 : Cond.methodLink "SpanStoreLaw" 88 y_C_put ∈ tbG := wm 492 (by decide +kernel) (by decide +kernel)
theorem ml_C_164 : Cond.methodLink "SpanStore" 164 y_S_faultOf ∈ tbG := wm 496 (by decide +kernel) (by decide +kernel)
theorem ml_C_167 : Cond.methodLink "SpanStore" 167 y_S_store ∈ tbG := wm 500 (by decide +kernel) (by decide +kernel)
theorem ml_S_32 : Cond.methodLink "SpanStore$Sheet" 32 y_S_cut ∈ tbG := wm 504 (by decide +kernel) (by decide +kernel)
theorem ml_L_92 : Cond.methodLink "SpanStoreLaw" 92 y_C_get ∈ tbG := wm 508 (by decide +kernel) (by decide +kernel)
theorem ml_L_96 : Cond.methodLink "SpanStoreLaw" 96 y_C_copy ∈ tbG := wm 512 (by decide +kernel) (by decide +kernel)
theorem ml_C_173 : Cond.methodLink "SpanStore" 173 y_S_hasStretch ∈ tbG := wm 516 (by decide +kernel) (by decide +kernel)
theorem ml_C_176 : Cond.methodLink "SpanStore" 176 arraycopyName ∈ tbG := wm 520 (by decide +kernel) (by decide +kernel)
theorem ac_stat : Cond.static arraycopyName ∈ tbG := wm 521 (by decide +kernel) (by decide +kernel)
theorem ac_nat : Cond.native arraycopyName ∈ tbG := wm 522 (by decide +kernel) (by decide +kernel)
theorem ml_L_100 : Cond.methodLink "SpanStoreLaw" 100 y_C_write ∈ tbG := wm 523 (by decide +kernel) (by decide +kernel)
theorem ml_C_186 : Cond.methodLink "SpanStore" 186 y_B_writeKnown ∈ tbG := wm 527 (by decide +kernel) (by decide +kernel)
theorem ml_B_114 : Cond.methodLink "SpanStore$Block" 114 y_S_store ∈ tbG := wm 531 (by decide +kernel) (by decide +kernel)
theorem ml_L_104 : Cond.methodLink "SpanStoreLaw" 104 y_C_told ∈ tbG := wm 532 (by decide +kernel) (by decide +kernel)
theorem ml_L_108 : Cond.methodLink "SpanStoreLaw" 108 y_C_digest ∈ tbG := wm 536 (by decide +kernel) (by decide +kernel)
theorem kc_C_196 : Cond.constantLong "SpanStore" 196 (17) ∈ tbG := wm 540 (by decide +kernel) (by decide +kernel)
theorem ml_C_198 : Cond.methodLink "SpanStore" 198 y_C_told ∈ tbG := wm 541 (by decide +kernel) (by decide +kernel)
theorem ml_C_201 : Cond.methodLink "SpanStore" 201 y_C_mixed ∈ tbG := wm 542 (by decide +kernel) (by decide +kernel)
theorem kc_C_229 : Cond.constantLong "SpanStore" 229 (31) ∈ tbG := wm 545 (by decide +kernel) (by decide +kernel)
theorem ml_C_205 : Cond.methodLink "SpanStore" 205 y_T_mixedInto ∈ tbG := wm 546 (by decide +kernel) (by decide +kernel)
theorem ml_T_80 : Cond.methodLink "SpanStore$Table" 80 y_B_mixedInto ∈ tbG := wm 550 (by decide +kernel) (by decide +kernel)
theorem mn_B_118 : Cond.methodLinkNest "SpanStore$Block" 118 y_C_isFact "SpanStore" ∈ lw_tbl := List.mem_of_getElem? (i := 554) (by decide +kernel)
theorem ml_B_121 : Cond.methodLink "SpanStore$Block" 121 y_B_fact ∈ tbG := wm 555 (by decide +kernel) (by decide +kernel)
theorem mn_B_124 : Cond.methodLinkNest "SpanStore$Block" 124 y_C_mixed "SpanStore" ∈ lw_tbl := List.mem_of_getElem? (i := 556) (by decide +kernel)
theorem mn_T_84 : Cond.methodLinkNest "SpanStore$Table" 84 y_C_mixed "SpanStore" ∈ lw_tbl := List.mem_of_getElem? (i := 557) (by decide +kernel)
theorem cl_L_10 : Cond.classLink "SpanStoreLaw" 10 (fR 5) ∈ tbG := wm 558 (by decide +kernel) (by decide +kernel)
theorem it_5 : Cond.instantiable (fR 5) (fN 5) ∈ tbG ∧ Cond.initialized (fR 5) ∈ tbG := ⟨wm 559 (by decide +kernel) (by decide +kernel), wm 46 (by decide +kernel) (by decide +kernel)⟩
theorem ml_L_12 : Cond.methodLink "SpanStoreLaw" 12 y_M_init ∈ tbG := wm 560 (by decide +kernel) (by decide +kernel)
theorem ml_M_1 : Cond.methodLink "SpanStoreModel" 1 objectInit ∈ tbG := wm 563 (by decide +kernel) (by decide +kernel)
theorem fl_M_7 : FL "SpanStoreModel" 7 5 0 := ⟨wm 564 (by decide +kernel) (by decide +kernel), by decide, by decide⟩
theorem fl_M_13 : FL "SpanStoreModel" 13 5 1 := ⟨wm 565 (by decide +kernel) (by decide +kernel), by decide, by decide⟩
theorem fl_M_16 : FL "SpanStoreModel" 16 5 2 := ⟨wm 566 (by decide +kernel) (by decide +kernel), by decide, by decide⟩
theorem fl_M_19 : FL "SpanStoreModel" 19 5 3 := ⟨wm 567 (by decide +kernel) (by decide +kernel), by decide, by decide⟩
theorem fl_M_22 : FL "SpanStoreModel" 22 5 4 := ⟨wm 568 (by decide +kernel) (by decide +kernel), by decide, by decide⟩
theorem fl_M_26 : FL "SpanStoreModel" 26 5 5 := ⟨wm 569 (by decide +kernel) (by decide +kernel), by decide, by decide⟩
theorem fl_M_29 : FL "SpanStoreModel" 29 5 6 := ⟨wm 570 (by decide +kernel) (by decide +kernel), by decide, by decide⟩
theorem fl_M_32 : FL "SpanStoreModel" 32 5 7 := ⟨wm 571 (by decide +kernel) (by decide +kernel), by decide, by decide⟩
theorem fl_M_35 : FL "SpanStoreModel" 35 5 8 := ⟨wm 572 (by decide +kernel) (by decide +kernel), by decide, by decide⟩
theorem fl_M_38 : FL "SpanStoreModel" 38 5 9 := ⟨wm 573 (by decide +kernel) (by decide +kernel), by decide, by decide⟩
theorem fl_M_41 : FL "SpanStoreModel" 41 5 10 := ⟨wm 574 (by decide +kernel) (by decide +kernel), by decide, by decide⟩
theorem fl_M_44 : FL "SpanStoreModel" 44 5 11 := ⟨wm 575 (by decide +kernel) (by decide +kernel), by decide, by decide⟩
theorem fl_M_47 : FL "SpanStoreModel" 47 5 12 := ⟨wm 576 (by decide +kernel) (by decide +kernel), by decide, by decide⟩
theorem fl_M_50 : FL "SpanStoreModel" 50 5 13 := ⟨wm 577 (by decide +kernel) (by decide +kernel), by decide, by decide⟩
theorem fl_M_53 : FL "SpanStoreModel" 53 5 14 := ⟨wm 578 (by decide +kernel) (by decide +kernel), by decide, by decide⟩
theorem fl_M_56 : FL "SpanStoreModel" 56 5 15 := ⟨wm 579 (by decide +kernel) (by decide +kernel), by decide, by decide⟩
theorem fl_M_119 : FL "SpanStoreModel" 119 5 16 := ⟨wm 580 (by decide +kernel) (by decide +kernel), by decide, by decide⟩
theorem fl_M_59 : FL "SpanStoreModel" 59 5 17 := ⟨wm 581 (by decide +kernel) (by decide +kernel), by decide, by decide⟩
theorem fl_M_62 : FL "SpanStoreModel" 62 5 18 := ⟨wm 582 (by decide +kernel) (by decide +kernel), by decide, by decide⟩
theorem fl_M_65 : FL "SpanStoreModel" 65 5 19 := ⟨wm 583 (by decide +kernel) (by decide +kernel), by decide, by decide⟩
theorem fl_M_68 : FL "SpanStoreModel" 68 5 20 := ⟨wm 584 (by decide +kernel) (by decide +kernel), by decide, by decide⟩
theorem fl_M_71 : FL "SpanStoreModel" 71 5 21 := ⟨wm 585 (by decide +kernel) (by decide +kernel), by decide, by decide⟩
theorem fl_M_179 : FL "SpanStoreModel" 179 5 22 := ⟨wm 586 (by decide +kernel) (by decide +kernel), by decide, by decide⟩
theorem ml_L_17 : Cond.methodLink "SpanStoreLaw" 17 y_M_row ∈ tbG := wm 634 (by decide +kernel) (by decide +kernel)
theorem ml_M_82 : Cond.methodLink "SpanStoreModel" 82 y_M_isBlock ∈ tbG := wm 638 (by decide +kernel) (by decide +kernel)
theorem ml_M_78 : Cond.methodLink "SpanStoreModel" 78 y_M_isTable ∈ tbG := wm 641 (by decide +kernel) (by decide +kernel)
theorem ml_M_74 : Cond.methodLink "SpanStoreModel" 74 y_M_in ∈ tbG := wm 644 (by decide +kernel) (by decide +kernel)
theorem ml_M_86 : Cond.methodLink "SpanStoreModel" 86 y_M_isRow ∈ tbG := wm 647 (by decide +kernel) (by decide +kernel)
theorem ml_M_89 : Cond.methodLink "SpanStoreModel" 89 y_M_lays ∈ tbG := wm 650 (by decide +kernel) (by decide +kernel)
theorem ml_L_22 : Cond.methodLink "SpanStoreLaw" 22 y_M_load ∈ tbG := wm 654 (by decide +kernel) (by decide +kernel)
theorem ml_M_93 : Cond.methodLink "SpanStoreModel" 93 y_M_isSheet ∈ tbG := wm 658 (by decide +kernel) (by decide +kernel)
theorem ml_M_96 : Cond.methodLink "SpanStoreModel" 96 y_M_meets ∈ tbG := wm 661 (by decide +kernel) (by decide +kernel)
theorem ml_L_27 : Cond.methodLink "SpanStoreLaw" 27 y_M_keeper ∈ tbG := wm 665 (by decide +kernel) (by decide +kernel)
theorem ml_L_32 : Cond.methodLink "SpanStoreLaw" 32 y_M_seal ∈ tbG := wm 669 (by decide +kernel) (by decide +kernel)
theorem ml_M_106 : Cond.methodLink "SpanStoreModel" 106 y_M_seals ∈ tbG := wm 673 (by decide +kernel) (by decide +kernel)
theorem ml_M_103 : Cond.methodLink "SpanStoreModel" 103 y_M_keeps ∈ tbG := wm 677 (by decide +kernel) (by decide +kernel)
theorem ml_M_100 : Cond.methodLink "SpanStoreModel" 100 y_M_amount ∈ tbG := wm 681 (by decide +kernel) (by decide +kernel)
theorem ml_M_110 : Cond.methodLink "SpanStoreModel" 110 y_M_knownOf ∈ tbG := wm 684 (by decide +kernel) (by decide +kernel)
theorem ml_M_113 : Cond.methodLink "SpanStoreModel" 113 y_M_rowsOf ∈ tbG := wm 688 (by decide +kernel) (by decide +kernel)
theorem ml_M_116 : Cond.methodLink "SpanStoreModel" 116 y_M_unknownOf ∈ tbG := wm 692 (by decide +kernel) (by decide +kernel)
theorem ml_L_36 : Cond.methodLink "SpanStoreLaw" 36 y_M_clear ∈ tbG := wm 696 (by decide +kernel) (by decide +kernel)
theorem ml_L_41 : Cond.methodLink "SpanStoreLaw" 41 y_M_read ∈ tbG := wm 700 (by decide +kernel) (by decide +kernel)
theorem ml_M_123 : Cond.methodLink "SpanStoreModel" 123 y_M_readsAll ∈ tbG := wm 704 (by decide +kernel) (by decide +kernel)
theorem ml_L_45 : Cond.methodLink "SpanStoreLaw" 45 y_M_change ∈ tbG := wm 708 (by decide +kernel) (by decide +kernel)
theorem ml_M_126 : Cond.methodLink "SpanStoreModel" 126 y_M_isRowAt ∈ tbG := wm 712 (by decide +kernel) (by decide +kernel)
theorem ml_L_50 : Cond.methodLink "SpanStoreLaw" 50 y_M_value ∈ tbG := wm 716 (by decide +kernel) (by decide +kernel)
theorem kc_M_129 : Cond.constant "SpanStoreModel" 129 (-2147483648) ∈ tbG := wm 720 (by decide +kernel) (by decide +kernel)
theorem ml_L_54 : Cond.methodLink "SpanStoreLaw" 54 y_M_about ∈ tbG := wm 721 (by decide +kernel) (by decide +kernel)
theorem ml_M_133 : Cond.methodLink "SpanStoreModel" 133 y_M_lowOf ∈ tbG := wm 725 (by decide +kernel) (by decide +kernel)
theorem ml_M_130 : Cond.methodLink "SpanStoreModel" 130 y_M_heavyOf ∈ tbG := wm 729 (by decide +kernel) (by decide +kernel)
theorem ml_M_140 : Cond.methodLink "SpanStoreModel" 140 y_M_highOf ∈ tbG := wm 733 (by decide +kernel) (by decide +kernel)
theorem ml_M_143 : Cond.methodLink "SpanStoreModel" 143 y_M_owesLeast ∈ tbG := wm 737 (by decide +kernel) (by decide +kernel)
theorem ml_M_137 : Cond.methodLink "SpanStoreModel" 137 y_M_isUnseen ∈ tbG := wm 741 (by decide +kernel) (by decide +kernel)
theorem ml_M_146 : Cond.methodLink "SpanStoreModel" 146 y_M_owesGreatest ∈ tbG := wm 745 (by decide +kernel) (by decide +kernel)
theorem ml_L_59 : Cond.methodLink "SpanStoreLaw" 59 y_M_sum ∈ tbG := wm 749 (by decide +kernel) (by decide +kernel)
theorem ml_M_153 : Cond.methodLink "SpanStoreModel" 153 y_M_isGroup ∈ tbG := wm 753 (by decide +kernel) (by decide +kernel)
theorem kc_M_156 : Cond.constantLong "SpanStoreModel" 156 (-9223372036854775808) ∈ tbG := wm 756 (by decide +kernel) (by decide +kernel)
theorem ml_M_158 : Cond.methodLink "SpanStoreModel" 158 y_M_sumNow ∈ tbG := wm 757 (by decide +kernel) (by decide +kernel)
theorem ml_M_149 : Cond.methodLink "SpanStoreModel" 149 y_M_sumOf ∈ tbG := wm 761 (by decide +kernel) (by decide +kernel)
theorem ml_L_63 : Cond.methodLink "SpanStoreLaw" 63 y_M_count ∈ tbG := wm 765 (by decide +kernel) (by decide +kernel)
theorem ml_M_162 : Cond.methodLink "SpanStoreModel" 162 y_M_countOf ∈ tbG := wm 769 (by decide +kernel) (by decide +kernel)
theorem ml_L_67 : Cond.methodLink "SpanStoreLaw" 67 y_M_join ∈ tbG := wm 773 (by decide +kernel) (by decide +kernel)
theorem ml_M_169 : Cond.methodLink "SpanStoreModel" 169 y_M_pairs ∈ tbG := wm 777 (by decide +kernel) (by decide +kernel)
theorem ml_M_166 : Cond.methodLink "SpanStoreModel" 166 y_M_isKnownAt ∈ tbG := wm 781 (by decide +kernel) (by decide +kernel)
theorem ml_L_71 : Cond.methodLink "SpanStoreLaw" 71 y_M_part ∈ tbG := wm 785 (by decide +kernel) (by decide +kernel)
theorem ml_M_172 : Cond.methodLink "SpanStoreModel" 172 y_M_hasKeyed ∈ tbG := wm 789 (by decide +kernel) (by decide +kernel)
theorem ml_L_75 : Cond.methodLink "SpanStoreLaw" 75 y_M_next ∈ tbG := wm 793 (by decide +kernel) (by decide +kernel)
theorem ml_M_175 : Cond.methodLink "SpanStoreModel" 175 y_M_nextOf ∈ tbG := wm 797 (by decide +kernel) (by decide +kernel)
theorem ml_L_79 : Cond.methodLink "SpanStoreLaw" 79 y_M_refine ∈ tbG := wm 801 (by decide +kernel) (by decide +kernel)
theorem kc_M_178 : Cond.constant "SpanStoreModel" 178 (1000000) ∈ tbG := wm 805 (by decide +kernel) (by decide +kernel)
theorem ml_L_83 : Cond.methodLink "SpanStoreLaw" 83 y_M_sheet ∈ tbG := wm 806 (by decide +kernel) (by decide +kernel)
theorem ml_L_87 : Cond.methodLink "SpanStoreLaw" 87 y_M_lose ∈ tbG := wm 810 (by decide +kernel) (by decide +kernel)
theorem ml_L_91 : Cond.methodLink "SpanStoreLaw" 91 y_M_put ∈ tbG := wm 814 (by decide +kernel) (by decide +kernel)
theorem ml_M_182 : Cond.methodLink "SpanStoreModel" 182 y_M_lacks ∈ tbG := wm 818 (by decide +kernel) (by decide +kernel)
theorem ml_M_186 : Cond.methodLink "SpanStoreModel" 186 y_M_lay ∈ tbG := wm 822 (by decide +kernel) (by decide +kernel)
theorem ml_L_95 : Cond.methodLink "SpanStoreLaw" 95 y_M_get ∈ tbG := wm 826 (by decide +kernel) (by decide +kernel)
theorem ml_L_99 : Cond.methodLink "SpanStoreLaw" 99 y_M_copy ∈ tbG := wm 830 (by decide +kernel) (by decide +kernel)
theorem ml_L_103 : Cond.methodLink "SpanStoreLaw" 103 y_M_write ∈ tbG := wm 834 (by decide +kernel) (by decide +kernel)
theorem ml_L_107 : Cond.methodLink "SpanStoreLaw" 107 y_M_told ∈ tbG := wm 838 (by decide +kernel) (by decide +kernel)
theorem ml_L_112 : Cond.methodLink "SpanStoreLaw" 112 y_M_digest ∈ tbG := wm 842 (by decide +kernel) (by decide +kernel)
theorem kc_M_190 : Cond.constantLong "SpanStoreModel" 190 (17) ∈ tbG := wm 846 (by decide +kernel) (by decide +kernel)
theorem kc_M_192 : Cond.constantLong "SpanStoreModel" 192 (31) ∈ tbG := wm 847 (by decide +kernel) (by decide +kernel)
theorem ml_M_194 : Cond.methodLink "SpanStoreModel" 194 y_M_told ∈ tbG := wm 848 (by decide +kernel) (by decide +kernel)
theorem ml_M_197 : Cond.methodLink "SpanStoreModel" 197 y_M_about ∈ tbG := wm 849 (by decide +kernel) (by decide +kernel)
